-- ==== beginsPlan
theorem dX12_beginsPlan_0 : decode cX12_beginsPlan 0 = .ok (.iconst 0, 1) := by decide +kernel
theorem dX12_beginsPlan_1 : decode cX12_beginsPlan 1 = .ok (.istore_n 1, 1) := by decide +kernel
theorem dX12_beginsPlan_2 : decode cX12_beginsPlan 2 = .ok (.iload_n 1, 1) := by decide +kernel
theorem dX12_beginsPlan_3 : decode cX12_beginsPlan 3 = .ok (.bipush 68, 2) := by decide +kernel
theorem dX12_beginsPlan_5 : decode cX12_beginsPlan 5 = .ok (.if_icmp .ge 20, 3) := by decide +kernel
theorem dX12_beginsPlan_8 : decode cX12_beginsPlan 8 = .ok (.aload_n 0, 1) := by decide +kernel
theorem dX12_beginsPlan_9 : decode cX12_beginsPlan 9 = .ok (.getfield 63, 3) := by decide +kernel
theorem dX12_beginsPlan_12 : decode cX12_beginsPlan 12 = .ok (.sipush 272, 3) := by decide +kernel
theorem dX12_beginsPlan_15 : decode cX12_beginsPlan 15 = .ok (.iload_n 1, 1) := by decide +kernel
theorem dX12_beginsPlan_16 : decode cX12_beginsPlan 16 = .ok (.iadd, 1) := by decide +kernel
theorem dX12_beginsPlan_17 : decode cX12_beginsPlan 17 = .ok (.iconst 0, 1) := by decide +kernel
theorem dX12_beginsPlan_18 : decode cX12_beginsPlan 18 = .ok (.iastore, 1) := by decide +kernel
theorem dX12_beginsPlan_19 : decode cX12_beginsPlan 19 = .ok (.iinc 1 1, 3) := by decide +kernel
theorem dX12_beginsPlan_22 : decode cX12_beginsPlan 22 = .ok (.goto (-20), 3) := by decide +kernel
theorem dX12_beginsPlan_25 : decode cX12_beginsPlan 25 = .ok (.iconst 0, 1) := by decide +kernel
theorem dX12_beginsPlan_26 : decode cX12_beginsPlan 26 = .ok (.istore_n 1, 1) := by decide +kernel
theorem dX12_beginsPlan_27 : decode cX12_beginsPlan 27 = .ok (.iload_n 1, 1) := by decide +kernel
theorem dX12_beginsPlan_28 : decode cX12_beginsPlan 28 = .ok (.bipush 10, 2) := by decide +kernel
theorem dX12_beginsPlan_30 : decode cX12_beginsPlan 30 = .ok (.if_icmp .ge 20, 3) := by decide +kernel
theorem dX12_beginsPlan_33 : decode cX12_beginsPlan 33 = .ok (.aload_n 0, 1) := by decide +kernel
theorem dX12_beginsPlan_34 : decode cX12_beginsPlan 34 = .ok (.getfield 63, 3) := by decide +kernel
theorem dX12_beginsPlan_37 : decode cX12_beginsPlan 37 = .ok (.sipush 330, 3) := by decide +kernel
theorem dX12_beginsPlan_40 : decode cX12_beginsPlan 40 = .ok (.iload_n 1, 1) := by decide +kernel
theorem dX12_beginsPlan_41 : decode cX12_beginsPlan 41 = .ok (.iadd, 1) := by decide +kernel
theorem dX12_beginsPlan_42 : decode cX12_beginsPlan 42 = .ok (.iconst (-1), 1) := by decide +kernel
theorem dX12_beginsPlan_43 : decode cX12_beginsPlan 43 = .ok (.iastore, 1) := by decide +kernel
theorem dX12_beginsPlan_44 : decode cX12_beginsPlan 44 = .ok (.iinc 1 1, 3) := by decide +kernel
theorem dX12_beginsPlan_47 : decode cX12_beginsPlan 47 = .ok (.goto (-20), 3) := by decide +kernel
theorem dX12_beginsPlan_50 : decode cX12_beginsPlan 50 = .ok (.aload_n 0, 1) := by decide +kernel
theorem dX12_beginsPlan_51 : decode cX12_beginsPlan 51 = .ok (.getfield 63, 3) := by decide +kernel
theorem dX12_beginsPlan_54 : decode cX12_beginsPlan 54 = .ok (.sipush 272, 3) := by decide +kernel
theorem dX12_beginsPlan_57 : decode cX12_beginsPlan 57 = .ok (.iconst 1, 1) := by decide +kernel
theorem dX12_beginsPlan_58 : decode cX12_beginsPlan 58 = .ok (.iastore, 1) := by decide +kernel
theorem dX12_beginsPlan_59 : decode cX12_beginsPlan 59 = .ok (.aload_n 0, 1) := by decide +kernel
theorem dX12_beginsPlan_60 : decode cX12_beginsPlan 60 = .ok (.getfield 63, 3) := by decide +kernel
theorem dX12_beginsPlan_63 : decode cX12_beginsPlan 63 = .ok (.sipush 283, 3) := by decide +kernel
theorem dX12_beginsPlan_66 : decode cX12_beginsPlan 66 = .ok (.iconst 1, 1) := by decide +kernel
theorem dX12_beginsPlan_67 : decode cX12_beginsPlan 67 = .ok (.iastore, 1) := by decide +kernel
theorem dX12_beginsPlan_68 : decode cX12_beginsPlan 68 = .ok (.aload_n 0, 1) := by decide +kernel
theorem dX12_beginsPlan_69 : decode cX12_beginsPlan 69 = .ok (.getfield 63, 3) := by decide +kernel
theorem dX12_beginsPlan_72 : decode cX12_beginsPlan 72 = .ok (.sipush 284, 3) := by decide +kernel
theorem dX12_beginsPlan_75 : decode cX12_beginsPlan 75 = .ok (.iconst 2, 1) := by decide +kernel
theorem dX12_beginsPlan_76 : decode cX12_beginsPlan 76 = .ok (.iastore, 1) := by decide +kernel
theorem dX12_beginsPlan_77 : decode cX12_beginsPlan 77 = .ok (.aload_n 0, 1) := by decide +kernel
theorem dX12_beginsPlan_78 : decode cX12_beginsPlan 78 = .ok (.getfield 63, 3) := by decide +kernel
theorem dX12_beginsPlan_81 : decode cX12_beginsPlan 81 = .ok (.sipush 285, 3) := by decide +kernel
theorem dX12_beginsPlan_84 : decode cX12_beginsPlan 84 = .ok (.iconst 2, 1) := by decide +kernel
theorem dX12_beginsPlan_85 : decode cX12_beginsPlan 85 = .ok (.iastore, 1) := by decide +kernel
theorem dX12_beginsPlan_86 : decode cX12_beginsPlan 86 = .ok (.aload_n 0, 1) := by decide +kernel
theorem dX12_beginsPlan_87 : decode cX12_beginsPlan 87 = .ok (.getfield 63, 3) := by decide +kernel
theorem dX12_beginsPlan_90 : decode cX12_beginsPlan 90 = .ok (.sipush 287, 3) := by decide +kernel
theorem dX12_beginsPlan_93 : decode cX12_beginsPlan 93 = .ok (.bipush 6, 2) := by decide +kernel
theorem dX12_beginsPlan_95 : decode cX12_beginsPlan 95 = .ok (.iastore, 1) := by decide +kernel
theorem dX12_beginsPlan_96 : decode cX12_beginsPlan 96 = .ok (.aload_n 0, 1) := by decide +kernel
theorem dX12_beginsPlan_97 : decode cX12_beginsPlan 97 = .ok (.getfield 63, 3) := by decide +kernel
theorem dX12_beginsPlan_100 : decode cX12_beginsPlan 100 = .ok (.sipush 288, 3) := by decide +kernel
theorem dX12_beginsPlan_103 : decode cX12_beginsPlan 103 = .ok (.iconst 2, 1) := by decide +kernel
theorem dX12_beginsPlan_104 : decode cX12_beginsPlan 104 = .ok (.iastore, 1) := by decide +kernel
theorem dX12_beginsPlan_105 : decode cX12_beginsPlan 105 = .ok (.return_, 1) := by decide +kernel
noncomputable def st_beginsPlan : Nat × List Int × gM → Option ((Nat × List Int × gM) ⊕ (gM))
  | (0, [x1], M) => (if x1 < 68 then
      (if 0 ≤ (gw32 ((272 : Int) + x1)) ∧ (gw32 ((272 : Int) + x1)) < 340 then
        some (.inl (0, [(gw32 (x1 + 1))], (gU M 729 (gw32 ((272 : Int) + x1)) 0)))
      else none)
    else
      some (.inl (1, [0], M)))
  | (1, [x1], M) => (if x1 < 10 then
      (if 0 ≤ (gw32 ((330 : Int) + x1)) ∧ (gw32 ((330 : Int) + x1)) < 340 then
        some (.inl (1, [(gw32 (x1 + 1))], (gU M 729 (gw32 ((330 : Int) + x1)) (-1))))
      else none)
    else
      some (.inr (gU (gU (gU (gU (gU (gU M 729 272 1) 729 283 1) 729 284 2) 729 285 2) 729 287 6) 729 288 2)))
  | _ => none
theorem sk_beginsPlan_2 (k : Nat × List Int × gM → Option (gM)) (M : gM) (x1 : Int) : gWk k (st_beginsPlan (0, [x1], M)) = (if x1 < 68 then
    (if 0 ≤ (gw32 ((272 : Int) + x1)) ∧ (gw32 ((272 : Int) + x1)) < 340 then
      k (0, [(gw32 (x1 + 1))], (gU M 729 (gw32 ((272 : Int) + x1)) 0))
    else none)
  else
    k (1, [0], M)) := by
  simp only [st_beginsPlan, gWk_ite, gWk_bind, gWk_inl, gWk_inr, gWk_none]
theorem sk_beginsPlan_27 (k : Nat × List Int × gM → Option (gM)) (M : gM) (x1 : Int) : gWk k (st_beginsPlan (1, [x1], M)) = (if x1 < 10 then
    (if 0 ≤ (gw32 ((330 : Int) + x1)) ∧ (gw32 ((330 : Int) + x1)) < 340 then
      k (1, [(gw32 (x1 + 1))], (gU M 729 (gw32 ((330 : Int) + x1)) (-1)))
    else none)
  else
    some (gU (gU (gU (gU (gU (gU M 729 272 1) 729 283 1) 729 284 2) 729 285 2) 729 287 6) 729 288 2)) := by
  simp only [st_beginsPlan, gWk_ite, gWk_bind, gWk_inl, gWk_inr, gWk_none]
noncomputable def F_beginsPlan_2 (M : gM) (x1 : Int) : Option (gM) := gWh (st_beginsPlan) (0, [x1], M)
noncomputable def F_beginsPlan_27 (M : gM) (x1 : Int) : Option (gM) := gWh (st_beginsPlan) (1, [x1], M)
theorem eq_beginsPlan_2 (M : gM) (x1 : Int) : F_beginsPlan_2 M x1 = (if x1 < 68 then
    (if 0 ≤ (gw32 ((272 : Int) + x1)) ∧ (gw32 ((272 : Int) + x1)) < 340 then
      F_beginsPlan_2 (gU M 729 (gw32 ((272 : Int) + x1)) 0) (gw32 (x1 + 1))
    else none)
  else
    F_beginsPlan_27 M 0) := (gWh_eq _).trans (sk_beginsPlan_2 _ M x1)
theorem eq_beginsPlan_27 (M : gM) (x1 : Int) : F_beginsPlan_27 M x1 = (if x1 < 10 then
    (if 0 ≤ (gw32 ((330 : Int) + x1)) ∧ (gw32 ((330 : Int) + x1)) < 340 then
      F_beginsPlan_27 (gU M 729 (gw32 ((330 : Int) + x1)) (-1)) (gw32 (x1 + 1))
    else none)
  else
    some (gU (gU (gU (gU (gU (gU M 729 272 1) 729 283 1) 729 284 2) 729 285 2) 729 287 6) 729 288 2)) := (gWh_eq _).trans (sk_beginsPlan_27 _ M x1)
noncomputable def F_beginsPlan (M : gM) : Option (gM) := F_beginsPlan_2 M 0
theorem eq_beginsPlan (M : gM) : F_beginsPlan M = F_beginsPlan_2 M 0 := rfl
theorem frp_beginsPlan : ∀ (s : Nat × List Int × gM) (b : gM), gWh (st_beginsPlan) s = some b → (∀ (x1 : Int) (M : gM), s = (0, [x1], M) → gFr [729] [] M b) ∧ (∀ (x1 : Int) (M : gM), s = (1, [x1], M) → gFr [729] [] M b) := by
  refine gWh_ind (fun k hk s b h => ⟨?_, ?_⟩)
  · rintro x1 M rfl
    rw [sk_beginsPlan_2] at h
    rcases gI_or h with h | h
    · obtain ⟨g1, h⟩ := gI_gd h
      exact gFr_t (gFr_a (gFr_r [729] [] _) (.head _) (by decide)) ((hk _ _ h).1 _ _ rfl) (fun _ z => z) (fun _ z => z)
    · exact gFr_t (gFr_r [729] [] _) ((hk _ _ h).2 _ _ rfl) (fun _ z => z) (fun _ z => z)
  · rintro x1 M rfl
    rw [sk_beginsPlan_27] at h
    rcases gI_or h with h | h
    · obtain ⟨g9, h⟩ := gI_gd h
      exact gFr_t (gFr_a (gFr_r [729] [] _) (.head _) (by decide)) ((hk _ _ h).2 _ _ rfl) (fun _ z => z) (fun _ z => z)
    · rw [← Option.some.inj h]
      exact (gFr_a (gFr_a (gFr_a (gFr_a (gFr_a (gFr_a (gFr_r [729] [] _) (.head _) (by decide)) (.head _) (by decide)) (.head _) (by decide)) (.head _) (by decide)) (.head _) (by decide)) (.head _) (by decide))
theorem fr_beginsPlan_2 {M : gM} {x1 : Int} {b : gM} (h : F_beginsPlan_2 M x1 = some b) : gFr [729] [] M b :=
  (frp_beginsPlan _ _ h).1 _ _ rfl
theorem fr_beginsPlan_27 {M : gM} {x1 : Int} {b : gM} (h : F_beginsPlan_27 M x1 = some b) : gFr [729] [] M b :=
  (frp_beginsPlan _ _ h).2 _ _ rfl
theorem fr_beginsPlan {M : gM} {b : gM} (h : F_beginsPlan M = some b) : gFr [729] [] M b := by
  rw [eq_beginsPlan] at h
  exact gFr_t (gFr_r [729] [] _) (fr_beginsPlan_2 h) (fun _ z => z) (fun _ z => z)
theorem okp_beginsPlan {sh : gS} : ∀ (s : Nat × List Int × gM) (b : gM), gWh (st_beginsPlan) s = some b → (∀ (x1 : Int) (M : gM), s = (0, [x1], M) → gOK sh M → gA (gr 0 0) yX12_beginsPlan cX12_beginsPlan 2 none (gPq sh none b) (0, 0) 2 [(4, 711), (0, x1)] [] sh M) ∧ (∀ (x1 : Int) (M : gM), s = (1, [x1], M) → gOK sh M → gA (gr 0 0) yX12_beginsPlan cX12_beginsPlan 2 none (gPq sh none b) (0, 0) 27 [(4, 711), (0, x1)] [] sh M) := by
  refine gWh_ind (fun k hk s b h => ⟨?_, ?_⟩)
  · rintro x1 M rfl hOK
    rw [sk_beginsPlan_2] at h
    refine g_iload_n (q0 := 3) (j := 1) rfl dX12_beginsPlan_2 rfl ?_
    refine g_bipush (q0 := 5) rfl dX12_beginsPlan_3 (k := ?_)
    refine g_icmp_ge (q0 := 8) (tgt := 25) rfl dX12_beginsPlan_5 (by decide) (fun h5 => ?_) (fun h5 => ?_)
    · replace h := gI_neg (Int.not_lt.mpr h5) h
      refine g_iconst (q0 := 26) rfl dX12_beginsPlan_25 (k := ?_)
      refine g_istore_n (q0 := 27) (j := 1) (lv2 := [_, _]) rfl dX12_beginsPlan_26 (by decide) rfl rfl ?_
      exact (hk _ _ h).2 _ _ rfl hOK
    · replace h := gI_pos h5 h
      refine g_aload_n (q0 := 9) (j := 0) rfl dX12_beginsPlan_8 rfl ?_
      refine g_getp (q0 := 12) (b := 729) rfl ff_X12_63 dX12_beginsPlan_9 rfl hOK (by decide) (sh_711 hOK) rfl (by decide) ?_
      refine g_sipush (q0 := 15) rfl dX12_beginsPlan_12 (k := ?_)
      refine g_iload_n (q0 := 16) (j := 1) rfl dX12_beginsPlan_15 rfl ?_
      refine g_iaddw (q0 := 17) rfl dX12_beginsPlan_16 ?_
      refine g_iconst (q0 := 18) rfl dX12_beginsPlan_17 (k := ?_)
      obtain ⟨g1, h⟩ := gI_gd h
      refine g_iast (q0 := 19) rfl dX12_beginsPlan_18 (sh_729 hOK) g1.1 g1.2 ?_
      have hOK2 : gOK sh (gU M 729 (gw32 ((272 : Int) + x1)) 0) := gOK_i hOK (sh_729 hOK)
      refine g_iincw (q0 := 22) (lv2 := [_, _]) rfl dX12_beginsPlan_19 rfl (by decide) rfl rfl ?_
      refine g_goto (tgt := 2) dX12_beginsPlan_22 (by decide) ?_
      exact (hk _ _ h).1 _ _ rfl hOK2
  · rintro x1 M rfl hOK
    rw [sk_beginsPlan_27] at h
    refine g_iload_n (q0 := 28) (j := 1) rfl dX12_beginsPlan_27 rfl ?_
    refine g_bipush (q0 := 30) rfl dX12_beginsPlan_28 (k := ?_)
    refine g_icmp_ge (q0 := 33) (tgt := 50) rfl dX12_beginsPlan_30 (by decide) (fun h30 => ?_) (fun h30 => ?_)
    · replace h := gI_neg (Int.not_lt.mpr h30) h
      refine g_aload_n (q0 := 51) (j := 0) rfl dX12_beginsPlan_50 rfl ?_
      refine g_getp (q0 := 54) (b := 729) rfl ff_X12_63 dX12_beginsPlan_51 rfl hOK (by decide) (sh_711 hOK) rfl (by decide) ?_
      refine g_sipush (q0 := 57) rfl dX12_beginsPlan_54 (k := ?_)
      refine g_iconst (q0 := 58) rfl dX12_beginsPlan_57 (k := ?_)
      refine g_iast (q0 := 59) rfl dX12_beginsPlan_58 (sh_729 hOK) (by decide) (by decide) ?_
      have hOK3 : gOK sh (gU M 729 272 1) := gOK_i hOK (sh_729 hOK)
      refine g_aload_n (q0 := 60) (j := 0) rfl dX12_beginsPlan_59 rfl ?_
      refine g_getp (q0 := 63) (b := 729) rfl ff_X12_63 dX12_beginsPlan_60 rfl hOK3 (by decide) (sh_711 hOK3) rfl (by decide) ?_
      refine g_sipush (q0 := 66) rfl dX12_beginsPlan_63 (k := ?_)
      refine g_iconst (q0 := 67) rfl dX12_beginsPlan_66 (k := ?_)
      refine g_iast (q0 := 68) rfl dX12_beginsPlan_67 (sh_729 hOK3) (by decide) (by decide) ?_
      have hOK4 : gOK sh (gU (gU M 729 272 1) 729 283 1) := gOK_i hOK3 (sh_729 hOK3)
      refine g_aload_n (q0 := 69) (j := 0) rfl dX12_beginsPlan_68 rfl ?_
      refine g_getp (q0 := 72) (b := 729) rfl ff_X12_63 dX12_beginsPlan_69 rfl hOK4 (by decide) (sh_711 hOK4) rfl (by decide) ?_
      refine g_sipush (q0 := 75) rfl dX12_beginsPlan_72 (k := ?_)
      refine g_iconst (q0 := 76) rfl dX12_beginsPlan_75 (k := ?_)
      refine g_iast (q0 := 77) rfl dX12_beginsPlan_76 (sh_729 hOK4) (by decide) (by decide) ?_
      have hOK5 : gOK sh (gU (gU (gU M 729 272 1) 729 283 1) 729 284 2) := gOK_i hOK4 (sh_729 hOK4)
      refine g_aload_n (q0 := 78) (j := 0) rfl dX12_beginsPlan_77 rfl ?_
      refine g_getp (q0 := 81) (b := 729) rfl ff_X12_63 dX12_beginsPlan_78 rfl hOK5 (by decide) (sh_711 hOK5) rfl (by decide) ?_
      refine g_sipush (q0 := 84) rfl dX12_beginsPlan_81 (k := ?_)
      refine g_iconst (q0 := 85) rfl dX12_beginsPlan_84 (k := ?_)
      refine g_iast (q0 := 86) rfl dX12_beginsPlan_85 (sh_729 hOK5) (by decide) (by decide) ?_
      have hOK6 : gOK sh (gU (gU (gU (gU M 729 272 1) 729 283 1) 729 284 2) 729 285 2) := gOK_i hOK5 (sh_729 hOK5)
      refine g_aload_n (q0 := 87) (j := 0) rfl dX12_beginsPlan_86 rfl ?_
      refine g_getp (q0 := 90) (b := 729) rfl ff_X12_63 dX12_beginsPlan_87 rfl hOK6 (by decide) (sh_711 hOK6) rfl (by decide) ?_
      refine g_sipush (q0 := 93) rfl dX12_beginsPlan_90 (k := ?_)
      refine g_bipush (q0 := 95) rfl dX12_beginsPlan_93 (k := ?_)
      refine g_iast (q0 := 96) rfl dX12_beginsPlan_95 (sh_729 hOK6) (by decide) (by decide) ?_
      have hOK7 : gOK sh (gU (gU (gU (gU (gU M 729 272 1) 729 283 1) 729 284 2) 729 285 2) 729 287 6) := gOK_i hOK6 (sh_729 hOK6)
      refine g_aload_n (q0 := 97) (j := 0) rfl dX12_beginsPlan_96 rfl ?_
      refine g_getp (q0 := 100) (b := 729) rfl ff_X12_63 dX12_beginsPlan_97 rfl hOK7 (by decide) (sh_711 hOK7) rfl (by decide) ?_
      refine g_sipush (q0 := 103) rfl dX12_beginsPlan_100 (k := ?_)
      refine g_iconst (q0 := 104) rfl dX12_beginsPlan_103 (k := ?_)
      refine g_iast (q0 := 105) rfl dX12_beginsPlan_104 (sh_729 hOK7) (by decide) (by decide) ?_
      have hOK8 : gOK sh (gU (gU (gU (gU (gU (gU M 729 272 1) 729 283 1) 729 284 2) 729 285 2) 729 287 6) 729 288 2) := gOK_i hOK7 (sh_729 hOK7)
      rw [← Option.some.inj h]
      refine g_return dX12_beginsPlan_105 rfl ⟨Nat.zero_le _, Nat.zero_le _⟩ ?_
      exact ⟨rfl, rfl, rfl⟩
    · replace h := gI_pos h30 h
      refine g_aload_n (q0 := 34) (j := 0) rfl dX12_beginsPlan_33 rfl ?_
      refine g_getp (q0 := 37) (b := 729) rfl ff_X12_63 dX12_beginsPlan_34 rfl hOK (by decide) (sh_711 hOK) rfl (by decide) ?_
      refine g_sipush (q0 := 40) rfl dX12_beginsPlan_37 (k := ?_)
      refine g_iload_n (q0 := 41) (j := 1) rfl dX12_beginsPlan_40 rfl ?_
      refine g_iaddw (q0 := 42) rfl dX12_beginsPlan_41 ?_
      refine g_iconst (q0 := 43) rfl dX12_beginsPlan_42 (k := ?_)
      obtain ⟨g9, h⟩ := gI_gd h
      refine g_iast (q0 := 44) rfl dX12_beginsPlan_43 (sh_729 hOK) g9.1 g9.2 ?_
      have hOK10 : gOK sh (gU M 729 (gw32 ((330 : Int) + x1)) (-1)) := gOK_i hOK (sh_729 hOK)
      refine g_iincw (q0 := 47) (lv2 := [_, _]) rfl dX12_beginsPlan_44 rfl (by decide) rfl rfl ?_
      refine g_goto (tgt := 27) dX12_beginsPlan_47 (by decide) ?_
      exact (hk _ _ h).2 _ _ rfl hOK10
theorem ok_beginsPlan_2 {sh : gS} {M : gM} {x1 : Int} {b : gM} (hOK : gOK sh M) (h : F_beginsPlan_2 M x1 = some b) : gA (gr 0 0) yX12_beginsPlan cX12_beginsPlan 2 none (gPq sh none b) (0, 0) 2 [(4, 711), (0, x1)] [] sh M :=
  (okp_beginsPlan _ _ h).1 _ _ rfl hOK
theorem ok_beginsPlan_27 {sh : gS} {M : gM} {x1 : Int} {b : gM} (hOK : gOK sh M) (h : F_beginsPlan_27 M x1 = some b) : gA (gr 0 0) yX12_beginsPlan cX12_beginsPlan 2 none (gPq sh none b) (0, 0) 27 [(4, 711), (0, x1)] [] sh M :=
  (okp_beginsPlan _ _ h).2 _ _ rfl hOK
theorem ok_beginsPlan {sh : gS} {M : gM} {b : gM} (hOK : gOK sh M) (h : F_beginsPlan M = some b) : gC (gr 0 0) yX12_beginsPlan cX12_beginsPlan 2 none [(4, 711)] sh M (gPq sh none b) := by
  rw [eq_beginsPlan] at h
  refine gC_ofA (lv := [_, _]) (by decide +kernel) (Nat.le_of_ble_eq_true rfl) rfl (fun hMw hav => ?_)
  refine g_iconst (q0 := 1) rfl dX12_beginsPlan_0 (k := ?_)
  refine g_istore_n (q0 := 2) (j := 1) (lv2 := [_, _]) rfl dX12_beginsPlan_1 (by decide) rfl rfl ?_
  exact ok_beginsPlan_2 hOK h
-- ==== forgets
theorem dX12_forgets_0 : decode cX12_forgets 0 = .ok (.iconst 0, 1) := by decide +kernel
theorem dX12_forgets_1 : decode cX12_forgets 1 = .ok (.istore_n 2, 1) := by decide +kernel
theorem dX12_forgets_2 : decode cX12_forgets 2 = .ok (.iload_n 2, 1) := by decide +kernel
theorem dX12_forgets_3 : decode cX12_forgets 3 = .ok (.bipush 120, 2) := by decide +kernel
theorem dX12_forgets_5 : decode cX12_forgets 5 = .ok (.if_icmp .ge 21, 3) := by decide +kernel
theorem dX12_forgets_8 : decode cX12_forgets 8 = .ok (.aload_n 0, 1) := by decide +kernel
theorem dX12_forgets_9 : decode cX12_forgets 9 = .ok (.getfield 66, 3) := by decide +kernel
theorem dX12_forgets_12 : decode cX12_forgets 12 = .ok (.bipush 120, 2) := by decide +kernel
theorem dX12_forgets_14 : decode cX12_forgets 14 = .ok (.iload_n 1, 1) := by decide +kernel
theorem dX12_forgets_15 : decode cX12_forgets 15 = .ok (.imul, 1) := by decide +kernel
theorem dX12_forgets_16 : decode cX12_forgets 16 = .ok (.iload_n 2, 1) := by decide +kernel
theorem dX12_forgets_17 : decode cX12_forgets 17 = .ok (.iadd, 1) := by decide +kernel
theorem dX12_forgets_18 : decode cX12_forgets 18 = .ok (.iconst (-1), 1) := by decide +kernel
theorem dX12_forgets_19 : decode cX12_forgets 19 = .ok (.iastore, 1) := by decide +kernel
theorem dX12_forgets_20 : decode cX12_forgets 20 = .ok (.iinc 2 1, 3) := by decide +kernel
theorem dX12_forgets_23 : decode cX12_forgets 23 = .ok (.goto (-21), 3) := by decide +kernel
theorem dX12_forgets_26 : decode cX12_forgets 26 = .ok (.return_, 1) := by decide +kernel
noncomputable def st_forgets : Nat × List Int × gM → Option ((Nat × List Int × gM) ⊕ (gM))
  | (0, [x1, x2], M) => (if x2 < 120 then
      (if 0 ≤ (gw32 ((gw32 ((120 : Int) * x1)) + x2)) ∧ (gw32 ((gw32 ((120 : Int) * x1)) + x2)) < 480 then
        some (.inl (0, [x1, (gw32 (x2 + 1))], (gU M 730 (gw32 ((gw32 ((120 : Int) * x1)) + x2)) (-1))))
      else none)
    else
      some (.inr M))
  | _ => none
theorem sk_forgets_2 (k : Nat × List Int × gM → Option (gM)) (M : gM) (x1 x2 : Int) : gWk k (st_forgets (0, [x1, x2], M)) = (if x2 < 120 then
    (if 0 ≤ (gw32 ((gw32 ((120 : Int) * x1)) + x2)) ∧ (gw32 ((gw32 ((120 : Int) * x1)) + x2)) < 480 then
      k (0, [x1, (gw32 (x2 + 1))], (gU M 730 (gw32 ((gw32 ((120 : Int) * x1)) + x2)) (-1)))
    else none)
  else
    some M) := by
  simp only [st_forgets, gWk_ite, gWk_bind, gWk_inl, gWk_inr, gWk_none]
noncomputable def F_forgets_2 (M : gM) (x1 x2 : Int) : Option (gM) := gWh (st_forgets) (0, [x1, x2], M)
theorem eq_forgets_2 (M : gM) (x1 x2 : Int) : F_forgets_2 M x1 x2 = (if x2 < 120 then
    (if 0 ≤ (gw32 ((gw32 ((120 : Int) * x1)) + x2)) ∧ (gw32 ((gw32 ((120 : Int) * x1)) + x2)) < 480 then
      F_forgets_2 (gU M 730 (gw32 ((gw32 ((120 : Int) * x1)) + x2)) (-1)) x1 (gw32 (x2 + 1))
    else none)
  else
    some M) := (gWh_eq _).trans (sk_forgets_2 _ M x1 x2)
noncomputable def F_forgets (M : gM) (a1 : Int) : Option (gM) := F_forgets_2 M a1 0
theorem eq_forgets (M : gM) (a1 : Int) : F_forgets M a1 = F_forgets_2 M a1 0 := rfl
theorem frp_forgets : ∀ (s : Nat × List Int × gM) (b : gM), gWh (st_forgets) s = some b → (∀ (x1 x2 : Int) (M : gM), s = (0, [x1, x2], M) → gFr [730] [] M b) := by
  refine gWh_ind (fun k hk s b h => ?_)
  · rintro x1 x2 M rfl
    rw [sk_forgets_2] at h
    rcases gI_or h with h | h
    · obtain ⟨g1, h⟩ := gI_gd h
      exact gFr_t (gFr_a (gFr_r [730] [] _) (.head _) (by decide)) ((hk _ _ h) _ _ _ rfl) (fun _ z => z) (fun _ z => z)
    · rw [← Option.some.inj h]
      exact (gFr_r [730] [] _)
theorem fr_forgets_2 {M : gM} {x1 x2 : Int} {b : gM} (h : F_forgets_2 M x1 x2 = some b) : gFr [730] [] M b :=
  (frp_forgets _ _ h) _ _ _ rfl
theorem fr_forgets {M : gM} {a1 : Int} {b : gM} (h : F_forgets M a1 = some b) : gFr [730] [] M b := by
  rw [eq_forgets] at h
  exact gFr_t (gFr_r [730] [] _) (fr_forgets_2 h) (fun _ z => z) (fun _ z => z)
theorem okp_forgets {sh : gS} : ∀ (s : Nat × List Int × gM) (b : gM), gWh (st_forgets) s = some b → (∀ (x1 x2 : Int) (M : gM), s = (0, [x1, x2], M) → gOK sh M → gA (gr 0 0) yX12_forgets cX12_forgets 3 none (gPq sh none b) (0, 0) 2 [(4, 711), (0, x1), (0, x2)] [] sh M) := by
  refine gWh_ind (fun k hk s b h => ?_)
  · rintro x1 x2 M rfl hOK
    rw [sk_forgets_2] at h
    refine g_iload_n (q0 := 3) (j := 2) rfl dX12_forgets_2 rfl ?_
    refine g_bipush (q0 := 5) rfl dX12_forgets_3 (k := ?_)
    refine g_icmp_ge (q0 := 8) (tgt := 26) rfl dX12_forgets_5 (by decide) (fun h5 => ?_) (fun h5 => ?_)
    · replace h := gI_neg (Int.not_lt.mpr h5) h
      rw [← Option.some.inj h]
      refine g_return dX12_forgets_26 rfl ⟨Nat.zero_le _, Nat.zero_le _⟩ ?_
      exact ⟨rfl, rfl, rfl⟩
    · replace h := gI_pos h5 h
      refine g_aload_n (q0 := 9) (j := 0) rfl dX12_forgets_8 rfl ?_
      refine g_getp (q0 := 12) (b := 730) rfl ff_X12_66 dX12_forgets_9 rfl hOK (by decide) (sh_711 hOK) rfl (by decide) ?_
      refine g_bipush (q0 := 14) rfl dX12_forgets_12 (k := ?_)
      refine g_iload_n (q0 := 15) (j := 1) rfl dX12_forgets_14 rfl ?_
      refine g_imulw (q0 := 16) rfl dX12_forgets_15 ?_
      refine g_iload_n (q0 := 17) (j := 2) rfl dX12_forgets_16 rfl ?_
      refine g_iaddw (q0 := 18) rfl dX12_forgets_17 ?_
      refine g_iconst (q0 := 19) rfl dX12_forgets_18 (k := ?_)
      obtain ⟨g1, h⟩ := gI_gd h
      refine g_iast (q0 := 20) rfl dX12_forgets_19 (sh_730 hOK) g1.1 g1.2 ?_
      have hOK2 : gOK sh (gU M 730 (gw32 ((gw32 ((120 : Int) * x1)) + x2)) (-1)) := gOK_i hOK (sh_730 hOK)
      refine g_iincw (q0 := 23) (lv2 := [_, _, _]) rfl dX12_forgets_20 rfl (by decide) rfl rfl ?_
      refine g_goto (tgt := 2) dX12_forgets_23 (by decide) ?_
      exact (hk _ _ h) _ _ _ rfl hOK2
theorem ok_forgets_2 {sh : gS} {M : gM} {x1 x2 : Int} {b : gM} (hOK : gOK sh M) (h : F_forgets_2 M x1 x2 = some b) : gA (gr 0 0) yX12_forgets cX12_forgets 3 none (gPq sh none b) (0, 0) 2 [(4, 711), (0, x1), (0, x2)] [] sh M :=
  (okp_forgets _ _ h) _ _ _ rfl hOK
theorem ok_forgets {sh : gS} {M : gM} {a1 : Int} {b : gM} (hOK : gOK sh M) (h : F_forgets M a1 = some b) : gC (gr 0 0) yX12_forgets cX12_forgets 3 none [(4, 711), (0, a1)] sh M (gPq sh none b) := by
  rw [eq_forgets] at h
  refine gC_ofA (lv := [_, _, _]) (by decide +kernel) (Nat.le_of_ble_eq_true rfl) rfl (fun hMw hav => ?_)
  refine g_iconst (q0 := 1) rfl dX12_forgets_0 (k := ?_)
  refine g_istore_n (q0 := 2) (j := 2) (lv2 := [_, _, _]) rfl dX12_forgets_1 (by decide) rfl rfl ?_
  exact ok_forgets_2 hOK h
-- ==== plan
theorem dX12_plan_0 : decode cX12_plan 0 = .ok (.iload_n 1, 1) := by decide +kernel
theorem dX12_plan_1 : decode cX12_plan 1 = .ok (.invokestatic 433, 3) := by decide +kernel
theorem dX12_plan_4 : decode cX12_plan 4 = .ok (.ifCond .eq 22, 3) := by decide +kernel
theorem dX12_plan_7 : decode cX12_plan 7 = .ok (.iload_n 2, 1) := by decide +kernel
theorem dX12_plan_8 : decode cX12_plan 8 = .ok (.iconst 1, 1) := by decide +kernel
theorem dX12_plan_9 : decode cX12_plan 9 = .ok (.sipush 240, 3) := by decide +kernel
theorem dX12_plan_12 : decode cX12_plan 12 = .ok (.invokestatic 182, 3) := by decide +kernel
theorem dX12_plan_15 : decode cX12_plan 15 = .ok (.ifCond .eq 11, 3) := by decide +kernel
theorem dX12_plan_18 : decode cX12_plan 18 = .ok (.iload_n 2, 1) := by decide +kernel
theorem dX12_plan_19 : decode cX12_plan 19 = .ok (.aload_n 0, 1) := by decide +kernel
theorem dX12_plan_20 : decode cX12_plan 20 = .ok (.getfield 249, 3) := by decide +kernel
theorem dX12_plan_23 : decode cX12_plan 23 = .ok (.if_icmp .le 5, 3) := by decide +kernel
theorem dX12_plan_26 : decode cX12_plan 26 = .ok (.iconst (-1), 1) := by decide +kernel
theorem dX12_plan_27 : decode cX12_plan 27 = .ok (.ireturn, 1) := by decide +kernel
theorem dX12_plan_28 : decode cX12_plan 28 = .ok (.aload_n 0, 1) := by decide +kernel
theorem dX12_plan_29 : decode cX12_plan 29 = .ok (.iload_n 2, 1) := by decide +kernel
theorem dX12_plan_30 : decode cX12_plan 30 = .ok (.invokevirtual 338, 3) := by decide +kernel
theorem dX12_plan_33 : decode cX12_plan 33 = .ok (.aload_n 0, 1) := by decide +kernel
theorem dX12_plan_34 : decode cX12_plan 34 = .ok (.invokevirtual 436, 3) := by decide +kernel
theorem dX12_plan_37 : decode cX12_plan 37 = .ok (.aload_n 0, 1) := by decide +kernel
theorem dX12_plan_38 : decode cX12_plan 38 = .ok (.ldc_w 439, 3) := by decide +kernel
theorem dX12_plan_41 : decode cX12_plan 41 = .ok (.iconst 1, 1) := by decide +kernel
theorem dX12_plan_42 : decode cX12_plan 42 = .ok (.invokevirtual 440, 3) := by decide +kernel
theorem dX12_plan_45 : decode cX12_plan 45 = .ok (.ifCond .eq 27, 3) := by decide +kernel
theorem dX12_plan_48 : decode cX12_plan 48 = .ok (.aload_n 0, 1) := by decide +kernel
theorem dX12_plan_49 : decode cX12_plan 49 = .ok (.bipush 59, 2) := by decide +kernel
theorem dX12_plan_51 : decode cX12_plan 51 = .ok (.invokevirtual 297, 3) := by decide +kernel
theorem dX12_plan_54 : decode cX12_plan 54 = .ok (.ifCond .eq 18, 3) := by decide +kernel
theorem dX12_plan_57 : decode cX12_plan 57 = .ok (.aload_n 0, 1) := by decide +kernel
theorem dX12_plan_58 : decode cX12_plan 58 = .ok (.sipush 655, 3) := by decide +kernel
theorem dX12_plan_61 : decode cX12_plan 61 = .ok (.iconst 2, 1) := by decide +kernel
theorem dX12_plan_62 : decode cX12_plan 62 = .ok (.invokevirtual 440, 3) := by decide +kernel
theorem dX12_plan_65 : decode cX12_plan 65 = .ok (.ifCond .eq 7, 3) := by decide +kernel
theorem dX12_plan_68 : decode cX12_plan 68 = .ok (.iconst 1, 1) := by decide +kernel
theorem dX12_plan_69 : decode cX12_plan 69 = .ok (.goto 4, 3) := by decide +kernel
theorem dX12_plan_72 : decode cX12_plan 72 = .ok (.iconst 0, 1) := by decide +kernel
theorem dX12_plan_73 : decode cX12_plan 73 = .ok (.istore_n 3, 1) := by decide +kernel
theorem dX12_plan_74 : decode cX12_plan 74 = .ok (.iload_n 3, 1) := by decide +kernel
theorem dX12_plan_75 : decode cX12_plan 75 = .ok (.ifCond .eq 39, 3) := by decide +kernel
theorem dX12_plan_78 : decode cX12_plan 78 = .ok (.aload_n 0, 1) := by decide +kernel
theorem dX12_plan_79 : decode cX12_plan 79 = .ok (.getfield 256, 3) := by decide +kernel
theorem dX12_plan_82 : decode cX12_plan 82 = .ok (.aload_n 0, 1) := by decide +kernel
theorem dX12_plan_83 : decode cX12_plan 83 = .ok (.getfield 259, 3) := by decide +kernel
theorem dX12_plan_86 : decode cX12_plan 86 = .ok (.if_icmp .ge 28, 3) := by decide +kernel
theorem dX12_plan_89 : decode cX12_plan 89 = .ok (.aload_n 0, 1) := by decide +kernel
theorem dX12_plan_90 : decode cX12_plan 90 = .ok (.bipush 59, 2) := by decide +kernel
theorem dX12_plan_92 : decode cX12_plan 92 = .ok (.invokevirtual 297, 3) := by decide +kernel
theorem dX12_plan_95 : decode cX12_plan 95 = .ok (.ifCond .eq 14, 3) := by decide +kernel
theorem dX12_plan_98 : decode cX12_plan 98 = .ok (.aload_n 0, 1) := by decide +kernel
theorem dX12_plan_99 : decode cX12_plan 99 = .ok (.invokevirtual 443, 3) := by decide +kernel
theorem dX12_plan_102 : decode cX12_plan 102 = .ok (.ifCond .eq 7, 3) := by decide +kernel
theorem dX12_plan_105 : decode cX12_plan 105 = .ok (.iconst 1, 1) := by decide +kernel
theorem dX12_plan_106 : decode cX12_plan 106 = .ok (.goto 4, 3) := by decide +kernel
theorem dX12_plan_109 : decode cX12_plan 109 = .ok (.iconst 0, 1) := by decide +kernel
theorem dX12_plan_110 : decode cX12_plan 110 = .ok (.istore_n 3, 1) := by decide +kernel
theorem dX12_plan_111 : decode cX12_plan 111 = .ok (.goto (-37), 3) := by decide +kernel
theorem dX12_plan_114 : decode cX12_plan 114 = .ok (.aload_n 0, 1) := by decide +kernel
theorem dX12_plan_115 : decode cX12_plan 115 = .ok (.iconst 0, 1) := by decide +kernel
theorem dX12_plan_116 : decode cX12_plan 116 = .ok (.putfield 249, 3) := by decide +kernel
theorem dX12_plan_119 : decode cX12_plan 119 = .ok (.iload_n 3, 1) := by decide +kernel
theorem dX12_plan_120 : decode cX12_plan 120 = .ok (.ifCond .ne 8, 3) := by decide +kernel
theorem dX12_plan_123 : decode cX12_plan 123 = .ok (.aload_n 0, 1) := by decide +kernel
theorem dX12_plan_124 : decode cX12_plan 124 = .ok (.getfield 262, 3) := by decide +kernel
theorem dX12_plan_127 : decode cX12_plan 127 = .ok (.ireturn, 1) := by decide +kernel
theorem dX12_plan_128 : decode cX12_plan 128 = .ok (.iconst 0, 1) := by decide +kernel
theorem dX12_plan_129 : decode cX12_plan 129 = .ok (.istore 4, 2) := by decide +kernel
theorem dX12_plan_131 : decode cX12_plan 131 = .ok (.iload 4, 2) := by decide +kernel
theorem dX12_plan_133 : decode cX12_plan 133 = .ok (.bipush 68, 2) := by decide +kernel
theorem dX12_plan_135 : decode cX12_plan 135 = .ok (.if_icmp .ge 32, 3) := by decide +kernel
theorem dX12_plan_138 : decode cX12_plan 138 = .ok (.aload_n 0, 1) := by decide +kernel
theorem dX12_plan_139 : decode cX12_plan 139 = .ok (.getfield 63, 3) := by decide +kernel
theorem dX12_plan_142 : decode cX12_plan 142 = .ok (.bipush 68, 2) := by decide +kernel
theorem dX12_plan_144 : decode cX12_plan 144 = .ok (.iload_n 1, 1) := by decide +kernel
theorem dX12_plan_145 : decode cX12_plan 145 = .ok (.imul, 1) := by decide +kernel
theorem dX12_plan_146 : decode cX12_plan 146 = .ok (.iload 4, 2) := by decide +kernel
theorem dX12_plan_148 : decode cX12_plan 148 = .ok (.iadd, 1) := by decide +kernel
theorem dX12_plan_149 : decode cX12_plan 149 = .ok (.aload_n 0, 1) := by decide +kernel
theorem dX12_plan_150 : decode cX12_plan 150 = .ok (.getfield 63, 3) := by decide +kernel
theorem dX12_plan_153 : decode cX12_plan 153 = .ok (.sipush 272, 3) := by decide +kernel
theorem dX12_plan_156 : decode cX12_plan 156 = .ok (.iload 4, 2) := by decide +kernel
theorem dX12_plan_158 : decode cX12_plan 158 = .ok (.iadd, 1) := by decide +kernel
theorem dX12_plan_159 : decode cX12_plan 159 = .ok (.iaload, 1) := by decide +kernel
theorem dX12_plan_160 : decode cX12_plan 160 = .ok (.iastore, 1) := by decide +kernel
theorem dX12_plan_161 : decode cX12_plan 161 = .ok (.iinc 4 1, 3) := by decide +kernel
theorem dX12_plan_164 : decode cX12_plan 164 = .ok (.goto (-33), 3) := by decide +kernel
theorem dX12_plan_167 : decode cX12_plan 167 = .ok (.aload_n 0, 1) := by decide +kernel
theorem dX12_plan_168 : decode cX12_plan 168 = .ok (.iload_n 1, 1) := by decide +kernel
theorem dX12_plan_169 : decode cX12_plan 169 = .ok (.invokevirtual 446, 3) := by decide +kernel
theorem dX12_plan_172 : decode cX12_plan 172 = .ok (.aload_n 0, 1) := by decide +kernel
theorem dX12_plan_173 : decode cX12_plan 173 = .ok (.getfield 63, 3) := by decide +kernel
theorem dX12_plan_176 : decode cX12_plan 176 = .ok (.sipush 288, 3) := by decide +kernel
theorem dX12_plan_179 : decode cX12_plan 179 = .ok (.iaload, 1) := by decide +kernel
theorem dX12_plan_180 : decode cX12_plan 180 = .ok (.ireturn, 1) := by decide +kernel
noncomputable def st_plan : Nat × List Int × gM → Option ((Nat × List Int × gM) ⊕ (Int × gM))
  | (0, [x1, x2, x3], M) => (if x3 = 0 then
      (if x3 = 0 then
        some (.inr (((gU M 711 18 0) 711 21), (gU M 711 18 0)))
      else
        some (.inl (1, [x1, x2, x3, 0], (gU M 711 18 0))))
    else
      (if (M 711 19) < (M 711 20) then
        (Option.bind (F_takesSign M 59) (fun p92 =>
          (if p92.1 = 0 then
            some (.inl (0, [x1, x2, 0], p92.2))
          else
            (Option.bind (F_readsLine p92.2) (fun p99 =>
              (if p99.1 = 0 then
                some (.inl (0, [x1, x2, 0], p99.2))
              else
                some (.inl (0, [x1, x2, 1], p99.2))))))))
      else
        (if x3 = 0 then
          some (.inr (((gU M 711 18 0) 711 21), (gU M 711 18 0)))
        else
          some (.inl (1, [x1, x2, x3, 0], (gU M 711 18 0))))))
  | (1, [x1, x2, x3, x4], M) => (if x4 < 68 then
      (if 0 ≤ (gw32 ((272 : Int) + x4)) ∧ (gw32 ((272 : Int) + x4)) < 340 then
        (if 0 ≤ (gw32 ((gw32 ((68 : Int) * x1)) + x4)) ∧ (gw32 ((gw32 ((68 : Int) * x1)) + x4)) < 340 then
          some (.inl (1, [x1, x2, x3, (gw32 (x4 + 1))], (gU M 729 (gw32 ((gw32 ((68 : Int) * x1)) + x4)) (M 729 (gw32 ((272 : Int) + x4))))))
        else none)
      else none)
    else
      (Option.bind (F_forgets M x1) (fun m169 =>
        some (.inr ((m169 729 288), m169)))))
  | _ => none
theorem sk_plan_74 (k : Nat × List Int × gM → Option (Int × gM)) (M : gM) (x1 x2 x3 : Int) : gWk k (st_plan (0, [x1, x2, x3], M)) = (if x3 = 0 then
    (if x3 = 0 then
      some (((gU M 711 18 0) 711 21), (gU M 711 18 0))
    else
      k (1, [x1, x2, x3, 0], (gU M 711 18 0)))
  else
    (if (M 711 19) < (M 711 20) then
      (Option.bind (F_takesSign M 59) (fun p92 =>
        (if p92.1 = 0 then
          k (0, [x1, x2, 0], p92.2)
        else
          (Option.bind (F_readsLine p92.2) (fun p99 =>
            (if p99.1 = 0 then
              k (0, [x1, x2, 0], p99.2)
            else
              k (0, [x1, x2, 1], p99.2)))))))
    else
      (if x3 = 0 then
        some (((gU M 711 18 0) 711 21), (gU M 711 18 0))
      else
        k (1, [x1, x2, x3, 0], (gU M 711 18 0))))) := by
  simp only [st_plan, gWk_ite, gWk_bind, gWk_inl, gWk_inr, gWk_none]
theorem sk_plan_131 (k : Nat × List Int × gM → Option (Int × gM)) (M : gM) (x1 x2 x3 x4 : Int) : gWk k (st_plan (1, [x1, x2, x3, x4], M)) = (if x4 < 68 then
    (if 0 ≤ (gw32 ((272 : Int) + x4)) ∧ (gw32 ((272 : Int) + x4)) < 340 then
      (if 0 ≤ (gw32 ((gw32 ((68 : Int) * x1)) + x4)) ∧ (gw32 ((gw32 ((68 : Int) * x1)) + x4)) < 340 then
        k (1, [x1, x2, x3, (gw32 (x4 + 1))], (gU M 729 (gw32 ((gw32 ((68 : Int) * x1)) + x4)) (M 729 (gw32 ((272 : Int) + x4)))))
      else none)
    else none)
  else
    (Option.bind (F_forgets M x1) (fun m169 =>
      some ((m169 729 288), m169)))) := by
  simp only [st_plan, gWk_ite, gWk_bind, gWk_inl, gWk_inr, gWk_none]
noncomputable def F_plan_74 (M : gM) (x1 x2 x3 : Int) : Option (Int × gM) := gWh (st_plan) (0, [x1, x2, x3], M)
noncomputable def F_plan_131 (M : gM) (x1 x2 x3 x4 : Int) : Option (Int × gM) := gWh (st_plan) (1, [x1, x2, x3, x4], M)
theorem eq_plan_74 (M : gM) (x1 x2 x3 : Int) : F_plan_74 M x1 x2 x3 = (if x3 = 0 then
    (if x3 = 0 then
      some (((gU M 711 18 0) 711 21), (gU M 711 18 0))
    else
      F_plan_131 (gU M 711 18 0) x1 x2 x3 0)
  else
    (if (M 711 19) < (M 711 20) then
      (Option.bind (F_takesSign M 59) (fun p92 =>
        (if p92.1 = 0 then
          F_plan_74 p92.2 x1 x2 0
        else
          (Option.bind (F_readsLine p92.2) (fun p99 =>
            (if p99.1 = 0 then
              F_plan_74 p99.2 x1 x2 0
            else
              F_plan_74 p99.2 x1 x2 1))))))
    else
      (if x3 = 0 then
        some (((gU M 711 18 0) 711 21), (gU M 711 18 0))
      else
        F_plan_131 (gU M 711 18 0) x1 x2 x3 0))) := (gWh_eq _).trans (sk_plan_74 _ M x1 x2 x3)
theorem eq_plan_131 (M : gM) (x1 x2 x3 x4 : Int) : F_plan_131 M x1 x2 x3 x4 = (if x4 < 68 then
    (if 0 ≤ (gw32 ((272 : Int) + x4)) ∧ (gw32 ((272 : Int) + x4)) < 340 then
      (if 0 ≤ (gw32 ((gw32 ((68 : Int) * x1)) + x4)) ∧ (gw32 ((gw32 ((68 : Int) * x1)) + x4)) < 340 then
        F_plan_131 (gU M 729 (gw32 ((gw32 ((68 : Int) * x1)) + x4)) (M 729 (gw32 ((272 : Int) + x4)))) x1 x2 x3 (gw32 (x4 + 1))
      else none)
    else none)
  else
    (Option.bind (F_forgets M x1) (fun m169 =>
      some ((m169 729 288), m169)))) := (gWh_eq _).trans (sk_plan_131 _ M x1 x2 x3 x4)
noncomputable def F_plan (M : gM) (a1 a2 : Int) : Option (Int × gM) := (Option.bind (F_isPlan a1) (fun r1 =>
    (if r1 = 0 then
      some (-1, M)
    else
      (Option.bind (F_in a2 1 240) (fun r12 =>
        (if r12 = 0 then
          some (-1, M)
        else
          (if (M 711 18) < a2 then
            some (-1, M)
          else
            (Option.bind (F_beginsText M a2) (fun m30 =>
              (Option.bind (F_beginsPlan m30) (fun m34 =>
                (Option.bind (F_readsHistory m34 215533 1) (fun p42 =>
                  (if p42.1 = 0 then
                    F_plan_74 p42.2 a1 a2 0
                  else
                    (Option.bind (F_takesSign p42.2 59) (fun p51 =>
                      (if p51.1 = 0 then
                        F_plan_74 p51.2 a1 a2 0
                      else
                        (Option.bind (F_readsHistory p51.2 655 2) (fun p62 =>
                          (if p62.1 = 0 then
                            F_plan_74 p62.2 a1 a2 0
                          else
                            F_plan_74 p62.2 a1 a2 1))))))))))))))))))))
theorem eq_plan (M : gM) (a1 a2 : Int) : F_plan M a1 a2 = (Option.bind (F_isPlan a1) (fun r1 =>
    (if r1 = 0 then
      some (-1, M)
    else
      (Option.bind (F_in a2 1 240) (fun r12 =>
        (if r12 = 0 then
          some (-1, M)
        else
          (if (M 711 18) < a2 then
            some (-1, M)
          else
            (Option.bind (F_beginsText M a2) (fun m30 =>
              (Option.bind (F_beginsPlan m30) (fun m34 =>
                (Option.bind (F_readsHistory m34 215533 1) (fun p42 =>
                  (if p42.1 = 0 then
                    F_plan_74 p42.2 a1 a2 0
                  else
                    (Option.bind (F_takesSign p42.2 59) (fun p51 =>
                      (if p51.1 = 0 then
                        F_plan_74 p51.2 a1 a2 0
                      else
                        (Option.bind (F_readsHistory p51.2 655 2) (fun p62 =>
                          (if p62.1 = 0 then
                            F_plan_74 p62.2 a1 a2 0
                          else
                            F_plan_74 p62.2 a1 a2 1)))))))))))))))))))) := rfl
theorem frp_plan : ∀ (s : Nat × List Int × gM) (b : Int × gM), gWh (st_plan) s = some b → (∀ (x1 x2 x3 : Int) (M : gM), s = (0, [x1, x2, x3], M) → gFr [729, 730] [18, 19, 20, 21, 22, 23, 29, 30] M b.2) ∧ (∀ (x1 x2 x3 x4 : Int) (M : gM), s = (1, [x1, x2, x3, x4], M) → gFr [729, 730] [18, 19, 20, 21, 22, 23, 29, 30] M b.2) := by
  refine gWh_ind (fun k hk s b h => ⟨?_, ?_⟩)
  · rintro x1 x2 x3 M rfl
    rw [sk_plan_74] at h
    rcases gI_or h with h | h
    · rcases gI_or h with h | h
      · rw [← Option.some.inj h]
        exact (gFr_f (gFr_r [729, 730] [18, 19, 20, 21, 22, 23, 29, 30] _) (.head _))
      · exact gFr_t (gFr_f (gFr_r [729, 730] [18, 19, 20, 21, 22, 23, 29, 30] _) (.head _)) ((hk _ _ h).2 _ _ _ _ _ rfl) (fun _ z => z) (fun _ z => z)
    · rcases gI_or h with h | h
      · obtain ⟨p92, e92, h⟩ := gI_bd h
        rcases gI_or h with h | h
        · exact gFr_t (gFr_t (gFr_r [729, 730] [18, 19, 20, 21, 22, 23, 29, 30] _) (fr_takesSign (b := p92) e92) (by first | decide | simp) (by decide)) ((hk _ _ h).1 _ _ _ _ rfl) (fun _ z => z) (fun _ z => z)
        · obtain ⟨p99, e99, h⟩ := gI_bd h
          rcases gI_or h with h | h
          · exact gFr_t (gFr_t (gFr_t (gFr_r [729, 730] [18, 19, 20, 21, 22, 23, 29, 30] _) (fr_takesSign (b := p92) e92) (by first | decide | simp) (by decide)) (fr_readsLine (b := p99) e99) (by first | decide | simp) (by decide)) ((hk _ _ h).1 _ _ _ _ rfl) (fun _ z => z) (fun _ z => z)
          · exact gFr_t (gFr_t (gFr_t (gFr_r [729, 730] [18, 19, 20, 21, 22, 23, 29, 30] _) (fr_takesSign (b := p92) e92) (by first | decide | simp) (by decide)) (fr_readsLine (b := p99) e99) (by first | decide | simp) (by decide)) ((hk _ _ h).1 _ _ _ _ rfl) (fun _ z => z) (fun _ z => z)
      · rcases gI_or h with h | h
        · rw [← Option.some.inj h]
          exact (gFr_f (gFr_r [729, 730] [18, 19, 20, 21, 22, 23, 29, 30] _) (.head _))
        · exact gFr_t (gFr_f (gFr_r [729, 730] [18, 19, 20, 21, 22, 23, 29, 30] _) (.head _)) ((hk _ _ h).2 _ _ _ _ _ rfl) (fun _ z => z) (fun _ z => z)
  · rintro x1 x2 x3 x4 M rfl
    rw [sk_plan_131] at h
    rcases gI_or h with h | h
    · obtain ⟨g6, h⟩ := gI_gd h
      obtain ⟨g7, h⟩ := gI_gd h
      exact gFr_t (gFr_a (gFr_r [729, 730] [18, 19, 20, 21, 22, 23, 29, 30] _) (.head _) (by decide)) ((hk _ _ h).2 _ _ _ _ _ rfl) (fun _ z => z) (fun _ z => z)
    · obtain ⟨m169, e169, h⟩ := gI_bd h
      rw [← Option.some.inj h]
      exact (gFr_t (gFr_r [729, 730] [18, 19, 20, 21, 22, 23, 29, 30] _) (fr_forgets (b := m169) e169) (by first | decide | simp) (by decide))
theorem fr_plan_74 {M : gM} {x1 x2 x3 : Int} {b : Int × gM} (h : F_plan_74 M x1 x2 x3 = some b) : gFr [729, 730] [18, 19, 20, 21, 22, 23, 29, 30] M b.2 :=
  (frp_plan _ _ h).1 _ _ _ _ rfl
theorem fr_plan_131 {M : gM} {x1 x2 x3 x4 : Int} {b : Int × gM} (h : F_plan_131 M x1 x2 x3 x4 = some b) : gFr [729, 730] [18, 19, 20, 21, 22, 23, 29, 30] M b.2 :=
  (frp_plan _ _ h).2 _ _ _ _ _ rfl
theorem fr_plan {M : gM} {a1 a2 : Int} {b : Int × gM} (h : F_plan M a1 a2 = some b) : gFr [729, 730] [18, 19, 20, 21, 22, 23, 29, 30] M b.2 := by
  rw [eq_plan] at h
  obtain ⟨r1, e1, h⟩ := gI_bd h
  rcases gI_or h with h | h
  · rw [← Option.some.inj h]
    exact (gFr_r [729, 730] [18, 19, 20, 21, 22, 23, 29, 30] _)
  · obtain ⟨r12, e12, h⟩ := gI_bd h
    rcases gI_or h with h | h
    · rw [← Option.some.inj h]
      exact (gFr_r [729, 730] [18, 19, 20, 21, 22, 23, 29, 30] _)
    · rcases gI_or h with h | h
      · rw [← Option.some.inj h]
        exact (gFr_r [729, 730] [18, 19, 20, 21, 22, 23, 29, 30] _)
      · obtain ⟨m30, e30, h⟩ := gI_bd h
        obtain ⟨m34, e34, h⟩ := gI_bd h
        obtain ⟨p42, e42, h⟩ := gI_bd h
        rcases gI_or h with h | h
        · exact gFr_t (gFr_t (gFr_t (gFr_t (gFr_r [729, 730] [18, 19, 20, 21, 22, 23, 29, 30] _) (fr_beginsText (b := m30) e30) (by first | decide | simp) (by decide)) (fr_beginsPlan (b := m34) e34) (by first | decide | simp) (by decide)) (fr_readsHistory (b := p42) e42) (by first | decide | simp) (by decide)) (fr_plan_74 h) (fun _ z => z) (fun _ z => z)
        · obtain ⟨p51, e51, h⟩ := gI_bd h
          rcases gI_or h with h | h
          · exact gFr_t (gFr_t (gFr_t (gFr_t (gFr_t (gFr_r [729, 730] [18, 19, 20, 21, 22, 23, 29, 30] _) (fr_beginsText (b := m30) e30) (by first | decide | simp) (by decide)) (fr_beginsPlan (b := m34) e34) (by first | decide | simp) (by decide)) (fr_readsHistory (b := p42) e42) (by first | decide | simp) (by decide)) (fr_takesSign (b := p51) e51) (by first | decide | simp) (by decide)) (fr_plan_74 h) (fun _ z => z) (fun _ z => z)
          · obtain ⟨p62, e62, h⟩ := gI_bd h
            rcases gI_or h with h | h
            · exact gFr_t (gFr_t (gFr_t (gFr_t (gFr_t (gFr_t (gFr_r [729, 730] [18, 19, 20, 21, 22, 23, 29, 30] _) (fr_beginsText (b := m30) e30) (by first | decide | simp) (by decide)) (fr_beginsPlan (b := m34) e34) (by first | decide | simp) (by decide)) (fr_readsHistory (b := p42) e42) (by first | decide | simp) (by decide)) (fr_takesSign (b := p51) e51) (by first | decide | simp) (by decide)) (fr_readsHistory (b := p62) e62) (by first | decide | simp) (by decide)) (fr_plan_74 h) (fun _ z => z) (fun _ z => z)
            · exact gFr_t (gFr_t (gFr_t (gFr_t (gFr_t (gFr_t (gFr_r [729, 730] [18, 19, 20, 21, 22, 23, 29, 30] _) (fr_beginsText (b := m30) e30) (by first | decide | simp) (by decide)) (fr_beginsPlan (b := m34) e34) (by first | decide | simp) (by decide)) (fr_readsHistory (b := p42) e42) (by first | decide | simp) (by decide)) (fr_takesSign (b := p51) e51) (by first | decide | simp) (by decide)) (fr_readsHistory (b := p62) e62) (by first | decide | simp) (by decide)) (fr_plan_74 h) (fun _ z => z) (fun _ z => z)
theorem okp_plan {sh : gS} : ∀ (s : Nat × List Int × gM) (b : Int × gM), gWh (st_plan) s = some b → (∀ (x1 x2 x3 : Int) (M : gM), s = (0, [x1, x2, x3], M) → gOK sh M → gA (gr 8 172) yX12_plan cX12_plan 5 (some (.int)) (gPq sh (some (0, b.1)) b.2) (0, 0) 74 [(4, 711), (0, x1), (0, x2), (0, x3), (9, 0)] [] sh M) ∧ (∀ (x1 x2 x3 x4 : Int) (M : gM), s = (1, [x1, x2, x3, x4], M) → gOK sh M → gA (gr 8 172) yX12_plan cX12_plan 5 (some (.int)) (gPq sh (some (0, b.1)) b.2) (0, 0) 131 [(4, 711), (0, x1), (0, x2), (0, x3), (0, x4)] [] sh M) := by
  refine gWh_ind (fun k hk s b h => ⟨?_, ?_⟩)
  · rintro x1 x2 x3 M rfl hOK
    rw [sk_plan_74] at h
    refine g_iload_n (q0 := 75) (j := 3) rfl dX12_plan_74 rfl ?_
    refine g_if_eq (q0 := 78) (tgt := 114) rfl dX12_plan_75 (by decide) (fun h75 => ?_) (fun h75 => ?_)
    · replace h := gI_pos h75 h
      refine g_aload_n (q0 := 115) (j := 0) rfl dX12_plan_114 rfl ?_
      refine g_iconst (q0 := 116) rfl dX12_plan_115 (k := ?_)
      refine g_put (q0 := 119) (t := 0) (fi := 18) rfl rfl ff_X12_249 dX12_plan_116 rfl (sh_711 hOK) rfl (fun _ => ⟨rfl, rfl⟩) ?_
      have hOK1 : gOK sh (gU M 711 18 0) := gOK_o hOK (sh_711 hOK) (f := 18) rfl rfl
      refine g_iload_n (q0 := 120) (j := 3) rfl dX12_plan_119 rfl ?_
      refine g_if_ne (q0 := 123) (tgt := 128) rfl dX12_plan_120 (by decide) (fun h120 => ?_) (fun h120 => ?_)
      · replace h := gI_neg h120 h
        refine g_iconst (q0 := 129) rfl dX12_plan_128 (k := ?_)
        refine g_istore (q0 := 131) (j := 4) (lv2 := [_, _, _, _, _]) rfl dX12_plan_129 (by decide) rfl rfl ?_
        exact (hk _ _ h).2 _ _ _ _ _ rfl hOK1
      · replace h := gI_pos h120 h
        refine g_aload_n (q0 := 124) (j := 0) rfl dX12_plan_123 rfl ?_
        refine g_getf (q0 := 127) (t := 0) (fi := 21) rfl rfl ff_X12_262 dX12_plan_124 rfl (sh_711 hOK1) ?_
        rw [← Option.some.inj h]
        refine g_ireturn dX12_plan_127 rfl ⟨Nat.zero_le _, Nat.zero_le _⟩ ?_
        exact ⟨rfl, rfl, rfl⟩
    · replace h := gI_neg h75 h
      refine g_aload_n (q0 := 79) (j := 0) rfl dX12_plan_78 rfl ?_
      refine g_getf (q0 := 82) (t := 0) (fi := 19) rfl rfl ff_X12_256 dX12_plan_79 rfl (sh_711 hOK) ?_
      refine g_aload_n (q0 := 83) (j := 0) rfl dX12_plan_82 rfl ?_
      refine g_getf (q0 := 86) (t := 0) (fi := 20) rfl rfl ff_X12_259 dX12_plan_83 rfl (sh_711 hOK) ?_
      refine g_icmp_ge (q0 := 89) (tgt := 114) rfl dX12_plan_86 (by decide) (fun h86 => ?_) (fun h86 => ?_)
      · replace h := gI_neg (Int.not_lt.mpr h86) h
        refine g_aload_n (q0 := 115) (j := 0) rfl dX12_plan_114 rfl ?_
        refine g_iconst (q0 := 116) rfl dX12_plan_115 (k := ?_)
        refine g_put (q0 := 119) (t := 0) (fi := 18) rfl rfl ff_X12_249 dX12_plan_116 rfl (sh_711 hOK) rfl (fun _ => ⟨rfl, rfl⟩) ?_
        have hOK2 : gOK sh (gU M 711 18 0) := gOK_o hOK (sh_711 hOK) (f := 18) rfl rfl
        refine g_iload_n (q0 := 120) (j := 3) rfl dX12_plan_119 rfl ?_
        refine g_if_ne (q0 := 123) (tgt := 128) rfl dX12_plan_120 (by decide) (fun h120 => ?_) (fun h120 => ?_)
        · replace h := gI_neg h120 h
          refine g_iconst (q0 := 129) rfl dX12_plan_128 (k := ?_)
          refine g_istore (q0 := 131) (j := 4) (lv2 := [_, _, _, _, _]) rfl dX12_plan_129 (by decide) rfl rfl ?_
          exact (hk _ _ h).2 _ _ _ _ _ rfl hOK2
        · replace h := gI_pos h120 h
          refine g_aload_n (q0 := 124) (j := 0) rfl dX12_plan_123 rfl ?_
          refine g_getf (q0 := 127) (t := 0) (fi := 21) rfl rfl ff_X12_262 dX12_plan_124 rfl (sh_711 hOK2) ?_
          rw [← Option.some.inj h]
          refine g_ireturn dX12_plan_127 rfl ⟨Nat.zero_le _, Nat.zero_le _⟩ ?_
          exact ⟨rfl, rfl, rfl⟩
      · replace h := gI_pos h86 h
        refine g_aload_n (q0 := 90) (j := 0) rfl dX12_plan_89 rfl ?_
        refine g_bipush (q0 := 92) rfl dX12_plan_90 (k := ?_)
        obtain ⟨p92, e92, h⟩ := gI_bd h
        refine g_callVq1 (as := [_]) (rest := []) mt_X12_takesSign mi_X12_takesSign se_X12_takesSign ml_X12_297 dX12_plan_92 (q0 := 95) rfl rfl (sh_711 hOK) rfl rfl (ok_takesSign hOK e92) rfl ⟨by decide, by decide⟩ (Nat.le_of_ble_eq_true rfl) ⟨Nat.zero_le _, Nat.zero_le _⟩ ?_
        have hOK3 : gOK sh p92.2 := gOK_fr hOK (fr_takesSign (b := p92) e92) (by first | decide | (intro a ha; simp only [List.mem_cons, List.not_mem_nil, or_false] at ha; omega)) (by decide)
        refine g_if_eq (q0 := 98) (tgt := 109) rfl dX12_plan_95 (by decide) (fun h95 => ?_) (fun h95 => ?_)
        · replace h := gI_pos h95 h
          refine g_iconst (q0 := 110) rfl dX12_plan_109 (k := ?_)
          refine g_istore_n (q0 := 111) (j := 3) (lv2 := [_, _, _, _, _]) rfl dX12_plan_110 (by decide) rfl rfl ?_
          refine g_goto (tgt := 74) dX12_plan_111 (by decide) ?_
          exact (hk _ _ h).1 _ _ _ _ rfl hOK3
        · replace h := gI_neg h95 h
          refine g_aload_n (q0 := 99) (j := 0) rfl dX12_plan_98 rfl ?_
          obtain ⟨p99, e99, h⟩ := gI_bd h
          refine g_callVq1 (as := []) (rest := []) mt_X12_readsLine mi_X12_readsLine se_X12_readsLine ml_X12_443 dX12_plan_99 (q0 := 102) rfl rfl (sh_711 hOK3) rfl rfl (ok_readsLine hOK3 e99) rfl ⟨by decide, by decide⟩ (Nat.le_of_ble_eq_true rfl) ⟨Nat.zero_le _, Nat.zero_le _⟩ ?_
          have hOK4 : gOK sh p99.2 := gOK_fr hOK3 (fr_readsLine (b := p99) e99) (by first | decide | (intro a ha; simp only [List.mem_cons, List.not_mem_nil, or_false] at ha; omega)) (by decide)
          refine g_if_eq (q0 := 105) (tgt := 109) rfl dX12_plan_102 (by decide) (fun h102 => ?_) (fun h102 => ?_)
          · replace h := gI_pos h102 h
            refine g_iconst (q0 := 110) rfl dX12_plan_109 (k := ?_)
            refine g_istore_n (q0 := 111) (j := 3) (lv2 := [_, _, _, _, _]) rfl dX12_plan_110 (by decide) rfl rfl ?_
            refine g_goto (tgt := 74) dX12_plan_111 (by decide) ?_
            exact (hk _ _ h).1 _ _ _ _ rfl hOK4
          · replace h := gI_neg h102 h
            refine g_iconst (q0 := 106) rfl dX12_plan_105 (k := ?_)
            refine g_goto (tgt := 110) dX12_plan_106 (by decide) ?_
            refine g_istore_n (q0 := 111) (j := 3) (lv2 := [_, _, _, _, _]) rfl dX12_plan_110 (by decide) rfl rfl ?_
            refine g_goto (tgt := 74) dX12_plan_111 (by decide) ?_
            exact (hk _ _ h).1 _ _ _ _ rfl hOK4
  · rintro x1 x2 x3 x4 M rfl hOK
    rw [sk_plan_131] at h
    refine g_iload (q0 := 133) (j := 4) rfl dX12_plan_131 rfl ?_
    refine g_bipush (q0 := 135) rfl dX12_plan_133 (k := ?_)
    refine g_icmp_ge (q0 := 138) (tgt := 167) rfl dX12_plan_135 (by decide) (fun h135 => ?_) (fun h135 => ?_)
    · replace h := gI_neg (Int.not_lt.mpr h135) h
      refine g_aload_n (q0 := 168) (j := 0) rfl dX12_plan_167 rfl ?_
      refine g_iload_n (q0 := 169) (j := 1) rfl dX12_plan_168 rfl ?_
      obtain ⟨m169, e169, h⟩ := gI_bd h
      refine g_callVq0 (as := [_]) (rest := []) mt_X12_forgets mi_X12_forgets se_X12_forgets ml_X12_446 dX12_plan_169 (q0 := 172) rfl rfl (sh_711 hOK) rfl rfl (ok_forgets hOK e169) rfl ⟨by decide, by decide⟩ (Nat.le_of_ble_eq_true rfl) ⟨Nat.zero_le _, Nat.zero_le _⟩ ?_
      have hOK5 : gOK sh m169 := gOK_fr hOK (fr_forgets (b := m169) e169) (by first | decide | (intro a ha; simp only [List.mem_cons, List.not_mem_nil, or_false] at ha; omega)) (by decide)
      refine g_aload_n (q0 := 173) (j := 0) rfl dX12_plan_172 rfl ?_
      refine g_getp (q0 := 176) (b := 729) rfl ff_X12_63 dX12_plan_173 rfl hOK5 (by decide) (sh_711 hOK5) rfl (by decide) ?_
      refine g_sipush (q0 := 179) rfl dX12_plan_176 (k := ?_)
      refine g_iald (q0 := 180) rfl dX12_plan_179 (sh_729 hOK5) (by decide) (by decide) ?_
      rw [← Option.some.inj h]
      refine g_ireturn dX12_plan_180 rfl ⟨Nat.zero_le _, Nat.zero_le _⟩ ?_
      exact ⟨rfl, rfl, rfl⟩
    · replace h := gI_pos h135 h
      refine g_aload_n (q0 := 139) (j := 0) rfl dX12_plan_138 rfl ?_
      refine g_getp (q0 := 142) (b := 729) rfl ff_X12_63 dX12_plan_139 rfl hOK (by decide) (sh_711 hOK) rfl (by decide) ?_
      refine g_bipush (q0 := 144) rfl dX12_plan_142 (k := ?_)
      refine g_iload_n (q0 := 145) (j := 1) rfl dX12_plan_144 rfl ?_
      refine g_imulw (q0 := 146) rfl dX12_plan_145 ?_
      refine g_iload (q0 := 148) (j := 4) rfl dX12_plan_146 rfl ?_
      refine g_iaddw (q0 := 149) rfl dX12_plan_148 ?_
      refine g_aload_n (q0 := 150) (j := 0) rfl dX12_plan_149 rfl ?_
      refine g_getp (q0 := 153) (b := 729) rfl ff_X12_63 dX12_plan_150 rfl hOK (by decide) (sh_711 hOK) rfl (by decide) ?_
      refine g_sipush (q0 := 156) rfl dX12_plan_153 (k := ?_)
      refine g_iload (q0 := 158) (j := 4) rfl dX12_plan_156 rfl ?_
      refine g_iaddw (q0 := 159) rfl dX12_plan_158 ?_
      obtain ⟨g6, h⟩ := gI_gd h
      refine g_iald (q0 := 160) rfl dX12_plan_159 (sh_729 hOK) g6.1 g6.2 ?_
      obtain ⟨g7, h⟩ := gI_gd h
      refine g_iast (q0 := 161) rfl dX12_plan_160 (sh_729 hOK) g7.1 g7.2 ?_
      have hOK8 : gOK sh (gU M 729 (gw32 ((gw32 ((68 : Int) * x1)) + x4)) (M 729 (gw32 ((272 : Int) + x4)))) := gOK_i hOK (sh_729 hOK)
      refine g_iincw (q0 := 164) (lv2 := [_, _, _, _, _]) rfl dX12_plan_161 rfl (by decide) rfl rfl ?_
      refine g_goto (tgt := 131) dX12_plan_164 (by decide) ?_
      exact (hk _ _ h).2 _ _ _ _ _ rfl hOK8
theorem ok_plan_74 {sh : gS} {M : gM} {x1 x2 x3 : Int} {b : Int × gM} (hOK : gOK sh M) (h : F_plan_74 M x1 x2 x3 = some b) : gA (gr 8 172) yX12_plan cX12_plan 5 (some (.int)) (gPq sh (some (0, b.1)) b.2) (0, 0) 74 [(4, 711), (0, x1), (0, x2), (0, x3), (9, 0)] [] sh M :=
  (okp_plan _ _ h).1 _ _ _ _ rfl hOK
theorem ok_plan_131 {sh : gS} {M : gM} {x1 x2 x3 x4 : Int} {b : Int × gM} (hOK : gOK sh M) (h : F_plan_131 M x1 x2 x3 x4 = some b) : gA (gr 8 172) yX12_plan cX12_plan 5 (some (.int)) (gPq sh (some (0, b.1)) b.2) (0, 0) 131 [(4, 711), (0, x1), (0, x2), (0, x3), (0, x4)] [] sh M :=
  (okp_plan _ _ h).2 _ _ _ _ _ rfl hOK
theorem ok_plan {sh : gS} {M : gM} {a1 a2 : Int} {b : Int × gM} (hOK : gOK sh M) (h : F_plan M a1 a2 = some b) : gC (gr 8 172) yX12_plan cX12_plan 5 (some (.int)) [(4, 711), (0, a1), (0, a2)] sh M (gPq sh (some (0, b.1)) b.2) := by
  rw [eq_plan] at h
  refine gC_ofA (lv := [_, _, _, _, _]) (by decide +kernel) (Nat.le_of_ble_eq_true rfl) rfl (fun hMw hav => ?_)
  refine g_iload_n (q0 := 1) (j := 1) rfl dX12_plan_0 rfl ?_
  obtain ⟨r1, e1, h⟩ := gI_bd h
  refine g_callSq1 (as := [_]) (rest := []) mt_X12_isPlan ms_X12_isPlan ml_X12_433 dX12_plan_1 (q0 := 4) rfl rfl (ok_isPlan hOK e1) rfl ⟨by decide, by decide⟩ (Nat.le_of_ble_eq_true rfl) ⟨Nat.zero_le _, Nat.zero_le _⟩ ?_
  refine g_if_eq (q0 := 7) (tgt := 26) rfl dX12_plan_4 (by decide) (fun h4 => ?_) (fun h4 => ?_)
  · replace h := gI_pos h4 h
    refine g_iconst (q0 := 27) rfl dX12_plan_26 (k := ?_)
    rw [← Option.some.inj h]
    refine g_ireturn dX12_plan_27 rfl ⟨Nat.zero_le _, Nat.zero_le _⟩ ?_
    exact ⟨rfl, rfl, rfl⟩
  · replace h := gI_neg h4 h
    refine g_iload_n (q0 := 8) (j := 2) rfl dX12_plan_7 rfl ?_
    refine g_iconst (q0 := 9) rfl dX12_plan_8 (k := ?_)
    refine g_sipush (q0 := 12) rfl dX12_plan_9 (k := ?_)
    obtain ⟨r12, e12, h⟩ := gI_bd h
    refine g_callSq1 (as := [_, _, _]) (rest := []) mt_X12_in ms_X12_in ml_X12_182 dX12_plan_12 (q0 := 15) rfl rfl (ok_in hOK e12) rfl ⟨by decide, by decide⟩ (Nat.le_of_ble_eq_true rfl) ⟨Nat.zero_le _, Nat.zero_le _⟩ ?_
    refine g_if_eq (q0 := 18) (tgt := 26) rfl dX12_plan_15 (by decide) (fun h15 => ?_) (fun h15 => ?_)
    · replace h := gI_pos h15 h
      refine g_iconst (q0 := 27) rfl dX12_plan_26 (k := ?_)
      rw [← Option.some.inj h]
      refine g_ireturn dX12_plan_27 rfl ⟨Nat.zero_le _, Nat.zero_le _⟩ ?_
      exact ⟨rfl, rfl, rfl⟩
    · replace h := gI_neg h15 h
      refine g_iload_n (q0 := 19) (j := 2) rfl dX12_plan_18 rfl ?_
      refine g_aload_n (q0 := 20) (j := 0) rfl dX12_plan_19 rfl ?_
      refine g_getf (q0 := 23) (t := 0) (fi := 18) rfl rfl ff_X12_249 dX12_plan_20 rfl (sh_711 hOK) ?_
      refine g_icmp_le (q0 := 26) (tgt := 28) rfl dX12_plan_23 (by decide) (fun h23 => ?_) (fun h23 => ?_)
      · replace h := gI_neg (Int.not_lt.mpr h23) h
        refine g_aload_n (q0 := 29) (j := 0) rfl dX12_plan_28 rfl ?_
        refine g_iload_n (q0 := 30) (j := 2) rfl dX12_plan_29 rfl ?_
        obtain ⟨m30, e30, h⟩ := gI_bd h
        refine g_callVq0 (as := [_]) (rest := []) mt_X12_beginsText mi_X12_beginsText se_X12_beginsText ml_X12_338 dX12_plan_30 (q0 := 33) rfl rfl (sh_711 hOK) rfl rfl (ok_beginsText hOK e30) rfl ⟨by decide, by decide⟩ (Nat.le_of_ble_eq_true rfl) ⟨Nat.zero_le _, Nat.zero_le _⟩ ?_
        have hOK9 : gOK sh m30 := gOK_fr hOK (fr_beginsText (b := m30) e30) (by first | decide | (intro a ha; simp only [List.mem_cons, List.not_mem_nil, or_false] at ha; omega)) (by decide)
        refine g_aload_n (q0 := 34) (j := 0) rfl dX12_plan_33 rfl ?_
        obtain ⟨m34, e34, h⟩ := gI_bd h
        refine g_callVq0 (as := []) (rest := []) mt_X12_beginsPlan mi_X12_beginsPlan se_X12_beginsPlan ml_X12_436 dX12_plan_34 (q0 := 37) rfl rfl (sh_711 hOK9) rfl rfl (ok_beginsPlan hOK9 e34) rfl ⟨by decide, by decide⟩ (Nat.le_of_ble_eq_true rfl) ⟨Nat.zero_le _, Nat.zero_le _⟩ ?_
        have hOK10 : gOK sh m34 := gOK_fr hOK9 (fr_beginsPlan (b := m34) e34) (by first | decide | (intro a ha; simp only [List.mem_cons, List.not_mem_nil, or_false] at ha; omega)) (by decide)
        refine g_aload_n (q0 := 38) (j := 0) rfl dX12_plan_37 rfl ?_
        refine g_ldcw (q0 := 41) (n := 215533) rfl co_X12_439 dX12_plan_38 (k := ?_)
        refine g_iconst (q0 := 42) rfl dX12_plan_41 (k := ?_)
        obtain ⟨p42, e42, h⟩ := gI_bd h
        refine g_callVq1 (as := [_, _]) (rest := []) mt_X12_readsHistory mi_X12_readsHistory se_X12_readsHistory ml_X12_440 dX12_plan_42 (q0 := 45) rfl rfl (sh_711 hOK10) rfl rfl (ok_readsHistory hOK10 e42) rfl ⟨by decide, by decide⟩ (Nat.le_of_ble_eq_true rfl) ⟨Nat.zero_le _, Nat.zero_le _⟩ ?_
        have hOK11 : gOK sh p42.2 := gOK_fr hOK10 (fr_readsHistory (b := p42) e42) (by first | decide | (intro a ha; simp only [List.mem_cons, List.not_mem_nil, or_false] at ha; omega)) (by decide)
        refine g_if_eq (q0 := 48) (tgt := 72) rfl dX12_plan_45 (by decide) (fun h45 => ?_) (fun h45 => ?_)
        · replace h := gI_pos h45 h
          refine g_iconst (q0 := 73) rfl dX12_plan_72 (k := ?_)
          refine g_istore_n (q0 := 74) (j := 3) (lv2 := [_, _, _, _, _]) rfl dX12_plan_73 (by decide) rfl rfl ?_
          exact ok_plan_74 hOK11 h
        · replace h := gI_neg h45 h
          refine g_aload_n (q0 := 49) (j := 0) rfl dX12_plan_48 rfl ?_
          refine g_bipush (q0 := 51) rfl dX12_plan_49 (k := ?_)
          obtain ⟨p51, e51, h⟩ := gI_bd h
          refine g_callVq1 (as := [_]) (rest := []) mt_X12_takesSign mi_X12_takesSign se_X12_takesSign ml_X12_297 dX12_plan_51 (q0 := 54) rfl rfl (sh_711 hOK11) rfl rfl (ok_takesSign hOK11 e51) rfl ⟨by decide, by decide⟩ (Nat.le_of_ble_eq_true rfl) ⟨Nat.zero_le _, Nat.zero_le _⟩ ?_
          have hOK12 : gOK sh p51.2 := gOK_fr hOK11 (fr_takesSign (b := p51) e51) (by first | decide | (intro a ha; simp only [List.mem_cons, List.not_mem_nil, or_false] at ha; omega)) (by decide)
          refine g_if_eq (q0 := 57) (tgt := 72) rfl dX12_plan_54 (by decide) (fun h54 => ?_) (fun h54 => ?_)
          · replace h := gI_pos h54 h
            refine g_iconst (q0 := 73) rfl dX12_plan_72 (k := ?_)
            refine g_istore_n (q0 := 74) (j := 3) (lv2 := [_, _, _, _, _]) rfl dX12_plan_73 (by decide) rfl rfl ?_
            exact ok_plan_74 hOK12 h
          · replace h := gI_neg h54 h
            refine g_aload_n (q0 := 58) (j := 0) rfl dX12_plan_57 rfl ?_
            refine g_sipush (q0 := 61) rfl dX12_plan_58 (k := ?_)
            refine g_iconst (q0 := 62) rfl dX12_plan_61 (k := ?_)
            obtain ⟨p62, e62, h⟩ := gI_bd h
            refine g_callVq1 (as := [_, _]) (rest := []) mt_X12_readsHistory mi_X12_readsHistory se_X12_readsHistory ml_X12_440 dX12_plan_62 (q0 := 65) rfl rfl (sh_711 hOK12) rfl rfl (ok_readsHistory hOK12 e62) rfl ⟨by decide, by decide⟩ (Nat.le_of_ble_eq_true rfl) ⟨Nat.zero_le _, Nat.zero_le _⟩ ?_
            have hOK13 : gOK sh p62.2 := gOK_fr hOK12 (fr_readsHistory (b := p62) e62) (by first | decide | (intro a ha; simp only [List.mem_cons, List.not_mem_nil, or_false] at ha; omega)) (by decide)
            refine g_if_eq (q0 := 68) (tgt := 72) rfl dX12_plan_65 (by decide) (fun h65 => ?_) (fun h65 => ?_)
            · replace h := gI_pos h65 h
              refine g_iconst (q0 := 73) rfl dX12_plan_72 (k := ?_)
              refine g_istore_n (q0 := 74) (j := 3) (lv2 := [_, _, _, _, _]) rfl dX12_plan_73 (by decide) rfl rfl ?_
              exact ok_plan_74 hOK13 h
            · replace h := gI_neg h65 h
              refine g_iconst (q0 := 69) rfl dX12_plan_68 (k := ?_)
              refine g_goto (tgt := 73) dX12_plan_69 (by decide) ?_
              refine g_istore_n (q0 := 74) (j := 3) (lv2 := [_, _, _, _, _]) rfl dX12_plan_73 (by decide) rfl rfl ?_
              exact ok_plan_74 hOK13 h
      · replace h := gI_pos h23 h
        refine g_iconst (q0 := 27) rfl dX12_plan_26 (k := ?_)
        rw [← Option.some.inj h]
        refine g_ireturn dX12_plan_27 rfl ⟨Nat.zero_le _, Nat.zero_le _⟩ ?_
        exact ⟨rfl, rfl, rfl⟩
-- ==== mapped
theorem dX12_mapped_0 : decode cX12_mapped 0 = .ok (.iconst 0, 1) := by decide +kernel
theorem dX12_mapped_1 : decode cX12_mapped 1 = .ok (.istore_n 3, 1) := by decide +kernel
theorem dX12_mapped_2 : decode cX12_mapped 2 = .ok (.iconst 0, 1) := by decide +kernel
theorem dX12_mapped_3 : decode cX12_mapped 3 = .ok (.istore 4, 2) := by decide +kernel
theorem dX12_mapped_5 : decode cX12_mapped 5 = .ok (.iload 4, 2) := by decide +kernel
theorem dX12_mapped_7 : decode cX12_mapped 7 = .ok (.bipush 120, 2) := by decide +kernel
theorem dX12_mapped_9 : decode cX12_mapped 9 = .ok (.if_icmp .ge 53, 3) := by decide +kernel
theorem dX12_mapped_12 : decode cX12_mapped 12 = .ok (.iload_n 2, 1) := by decide +kernel
theorem dX12_mapped_13 : decode cX12_mapped 13 = .ok (.iconst (-1), 1) := by decide +kernel
theorem dX12_mapped_14 : decode cX12_mapped 14 = .ok (.if_icmp .ne 22, 3) := by decide +kernel
theorem dX12_mapped_17 : decode cX12_mapped 17 = .ok (.aload_n 0, 1) := by decide +kernel
theorem dX12_mapped_18 : decode cX12_mapped 18 = .ok (.getfield 66, 3) := by decide +kernel
theorem dX12_mapped_21 : decode cX12_mapped 21 = .ok (.bipush 120, 2) := by decide +kernel
theorem dX12_mapped_23 : decode cX12_mapped 23 = .ok (.iload_n 1, 1) := by decide +kernel
theorem dX12_mapped_24 : decode cX12_mapped 24 = .ok (.imul, 1) := by decide +kernel
theorem dX12_mapped_25 : decode cX12_mapped 25 = .ok (.iload 4, 2) := by decide +kernel
theorem dX12_mapped_27 : decode cX12_mapped 27 = .ok (.iadd, 1) := by decide +kernel
theorem dX12_mapped_28 : decode cX12_mapped 28 = .ok (.iaload, 1) := by decide +kernel
theorem dX12_mapped_29 : decode cX12_mapped 29 = .ok (.iconst (-1), 1) := by decide +kernel
theorem dX12_mapped_30 : decode cX12_mapped 30 = .ok (.if_icmp .eq 26, 3) := by decide +kernel
theorem dX12_mapped_33 : decode cX12_mapped 33 = .ok (.goto 19, 3) := by decide +kernel
theorem dX12_mapped_36 : decode cX12_mapped 36 = .ok (.aload_n 0, 1) := by decide +kernel
theorem dX12_mapped_37 : decode cX12_mapped 37 = .ok (.getfield 66, 3) := by decide +kernel
theorem dX12_mapped_40 : decode cX12_mapped 40 = .ok (.bipush 120, 2) := by decide +kernel
theorem dX12_mapped_42 : decode cX12_mapped 42 = .ok (.iload_n 1, 1) := by decide +kernel
theorem dX12_mapped_43 : decode cX12_mapped 43 = .ok (.imul, 1) := by decide +kernel
theorem dX12_mapped_44 : decode cX12_mapped 44 = .ok (.iload 4, 2) := by decide +kernel
theorem dX12_mapped_46 : decode cX12_mapped 46 = .ok (.iadd, 1) := by decide +kernel
theorem dX12_mapped_47 : decode cX12_mapped 47 = .ok (.iaload, 1) := by decide +kernel
theorem dX12_mapped_48 : decode cX12_mapped 48 = .ok (.iload_n 2, 1) := by decide +kernel
theorem dX12_mapped_49 : decode cX12_mapped 49 = .ok (.if_icmp .ne 7, 3) := by decide +kernel
theorem dX12_mapped_52 : decode cX12_mapped 52 = .ok (.iload_n 3, 1) := by decide +kernel
theorem dX12_mapped_53 : decode cX12_mapped 53 = .ok (.iconst 1, 1) := by decide +kernel
theorem dX12_mapped_54 : decode cX12_mapped 54 = .ok (.iadd, 1) := by decide +kernel
theorem dX12_mapped_55 : decode cX12_mapped 55 = .ok (.istore_n 3, 1) := by decide +kernel
theorem dX12_mapped_56 : decode cX12_mapped 56 = .ok (.iinc 4 1, 3) := by decide +kernel
theorem dX12_mapped_59 : decode cX12_mapped 59 = .ok (.goto (-54), 3) := by decide +kernel
theorem dX12_mapped_62 : decode cX12_mapped 62 = .ok (.iload_n 3, 1) := by decide +kernel
theorem dX12_mapped_63 : decode cX12_mapped 63 = .ok (.ireturn, 1) := by decide +kernel
noncomputable def st_mapped (M : gM) : Nat × List Int → Option ((Nat × List Int) ⊕ (Int))
  | (0, [x1, x2, x3, x4]) => (if x4 < 120 then
      (if x2 = -1 then
        (if 0 ≤ (gw32 ((gw32 ((120 : Int) * x1)) + x4)) ∧ (gw32 ((gw32 ((120 : Int) * x1)) + x4)) < 480 then
          (if (M 730 (gw32 ((gw32 ((120 : Int) * x1)) + x4))) = -1 then
            some (.inl (0, [x1, x2, x3, (gw32 (x4 + 1))]))
          else
            some (.inl (0, [x1, x2, (gw32 (x3 + (1 : Int))), (gw32 (x4 + 1))])))
        else none)
      else
        (if 0 ≤ (gw32 ((gw32 ((120 : Int) * x1)) + x4)) ∧ (gw32 ((gw32 ((120 : Int) * x1)) + x4)) < 480 then
          (if (M 730 (gw32 ((gw32 ((120 : Int) * x1)) + x4))) = x2 then
            some (.inl (0, [x1, x2, (gw32 (x3 + (1 : Int))), (gw32 (x4 + 1))]))
          else
            some (.inl (0, [x1, x2, x3, (gw32 (x4 + 1))])))
        else none))
    else
      some (.inr x3))
  | _ => none
theorem sk_mapped_5 (k : Nat × List Int → Option (Int)) (M : gM) (x1 x2 x3 x4 : Int) : gWk k (st_mapped M (0, [x1, x2, x3, x4])) = (if x4 < 120 then
    (if x2 = -1 then
      (if 0 ≤ (gw32 ((gw32 ((120 : Int) * x1)) + x4)) ∧ (gw32 ((gw32 ((120 : Int) * x1)) + x4)) < 480 then
        (if (M 730 (gw32 ((gw32 ((120 : Int) * x1)) + x4))) = -1 then
          k (0, [x1, x2, x3, (gw32 (x4 + 1))])
        else
          k (0, [x1, x2, (gw32 (x3 + (1 : Int))), (gw32 (x4 + 1))]))
      else none)
    else
      (if 0 ≤ (gw32 ((gw32 ((120 : Int) * x1)) + x4)) ∧ (gw32 ((gw32 ((120 : Int) * x1)) + x4)) < 480 then
        (if (M 730 (gw32 ((gw32 ((120 : Int) * x1)) + x4))) = x2 then
          k (0, [x1, x2, (gw32 (x3 + (1 : Int))), (gw32 (x4 + 1))])
        else
          k (0, [x1, x2, x3, (gw32 (x4 + 1))]))
      else none))
  else
    some x3) := by
  simp only [st_mapped, gWk_ite, gWk_bind, gWk_inl, gWk_inr, gWk_none]
noncomputable def F_mapped_5 (M : gM) (x1 x2 x3 x4 : Int) : Option (Int) := gWh (st_mapped M) (0, [x1, x2, x3, x4])
theorem eq_mapped_5 (M : gM) (x1 x2 x3 x4 : Int) : F_mapped_5 M x1 x2 x3 x4 = (if x4 < 120 then
    (if x2 = -1 then
      (if 0 ≤ (gw32 ((gw32 ((120 : Int) * x1)) + x4)) ∧ (gw32 ((gw32 ((120 : Int) * x1)) + x4)) < 480 then
        (if (M 730 (gw32 ((gw32 ((120 : Int) * x1)) + x4))) = -1 then
          F_mapped_5 M x1 x2 x3 (gw32 (x4 + 1))
        else
          F_mapped_5 M x1 x2 (gw32 (x3 + (1 : Int))) (gw32 (x4 + 1)))
      else none)
    else
      (if 0 ≤ (gw32 ((gw32 ((120 : Int) * x1)) + x4)) ∧ (gw32 ((gw32 ((120 : Int) * x1)) + x4)) < 480 then
        (if (M 730 (gw32 ((gw32 ((120 : Int) * x1)) + x4))) = x2 then
          F_mapped_5 M x1 x2 (gw32 (x3 + (1 : Int))) (gw32 (x4 + 1))
        else
          F_mapped_5 M x1 x2 x3 (gw32 (x4 + 1)))
      else none))
  else
    some x3) := (gWh_eq _).trans (sk_mapped_5 _ M x1 x2 x3 x4)
noncomputable def F_mapped (M : gM) (a1 a2 : Int) : Option (Int) := F_mapped_5 M a1 a2 0 0
theorem eq_mapped (M : gM) (a1 a2 : Int) : F_mapped M a1 a2 = F_mapped_5 M a1 a2 0 0 := rfl
theorem okp_mapped {sh : gS} {M : gM} : ∀ (s : Nat × List Int) (b : Int), gWh (st_mapped M) s = some b → (∀ (x1 x2 x3 x4 : Int), s = (0, [x1, x2, x3, x4]) → gOK sh M → gA (gr 0 0) yX12_mapped cX12_mapped 5 (some (.int)) (gPq sh (some (0, b)) M) (0, 0) 5 [(4, 711), (0, x1), (0, x2), (0, x3), (0, x4)] [] sh M) := by
  refine gWh_ind (fun k hk s b h => ?_)
  · rintro x1 x2 x3 x4 rfl hOK
    rw [sk_mapped_5] at h
    refine g_iload (q0 := 7) (j := 4) rfl dX12_mapped_5 rfl ?_
    refine g_bipush (q0 := 9) rfl dX12_mapped_7 (k := ?_)
    refine g_icmp_ge (q0 := 12) (tgt := 62) rfl dX12_mapped_9 (by decide) (fun h9 => ?_) (fun h9 => ?_)
    · replace h := gI_neg (Int.not_lt.mpr h9) h
      refine g_iload_n (q0 := 63) (j := 3) rfl dX12_mapped_62 rfl ?_
      rw [← Option.some.inj h]
      refine g_ireturn dX12_mapped_63 rfl ⟨Nat.zero_le _, Nat.zero_le _⟩ ?_
      exact ⟨rfl, rfl, rfl⟩
    · replace h := gI_pos h9 h
      refine g_iload_n (q0 := 13) (j := 2) rfl dX12_mapped_12 rfl ?_
      refine g_iconst (q0 := 14) rfl dX12_mapped_13 (k := ?_)
      refine g_icmp_ne (q0 := 17) (tgt := 36) rfl dX12_mapped_14 (by decide) (fun h14 => ?_) (fun h14 => ?_)
      · replace h := gI_neg h14 h
        refine g_aload_n (q0 := 37) (j := 0) rfl dX12_mapped_36 rfl ?_
        refine g_getp (q0 := 40) (b := 730) rfl ff_X12_66 dX12_mapped_37 rfl hOK (by decide) (sh_711 hOK) rfl (by decide) ?_
        refine g_bipush (q0 := 42) rfl dX12_mapped_40 (k := ?_)
        refine g_iload_n (q0 := 43) (j := 1) rfl dX12_mapped_42 rfl ?_
        refine g_imulw (q0 := 44) rfl dX12_mapped_43 ?_
        refine g_iload (q0 := 46) (j := 4) rfl dX12_mapped_44 rfl ?_
        refine g_iaddw (q0 := 47) rfl dX12_mapped_46 ?_
        obtain ⟨g1, h⟩ := gI_gd h
        refine g_iald (q0 := 48) rfl dX12_mapped_47 (sh_730 hOK) g1.1 g1.2 ?_
        refine g_iload_n (q0 := 49) (j := 2) rfl dX12_mapped_48 rfl ?_
        refine g_icmp_ne (q0 := 52) (tgt := 56) rfl dX12_mapped_49 (by decide) (fun h49 => ?_) (fun h49 => ?_)
        · replace h := gI_neg h49 h
          refine g_iincw (q0 := 59) (lv2 := [_, _, _, _, _]) rfl dX12_mapped_56 rfl (by decide) rfl rfl ?_
          refine g_goto (tgt := 5) dX12_mapped_59 (by decide) ?_
          exact (hk _ _ h) _ _ _ _ rfl hOK
        · replace h := gI_pos h49 h
          refine g_iload_n (q0 := 53) (j := 3) rfl dX12_mapped_52 rfl ?_
          refine g_iconst (q0 := 54) rfl dX12_mapped_53 (k := ?_)
          refine g_iaddw (q0 := 55) rfl dX12_mapped_54 ?_
          refine g_istore_n (q0 := 56) (j := 3) (lv2 := [_, _, _, _, _]) rfl dX12_mapped_55 (by decide) rfl rfl ?_
          refine g_iincw (q0 := 59) (lv2 := [_, _, _, _, _]) rfl dX12_mapped_56 rfl (by decide) rfl rfl ?_
          refine g_goto (tgt := 5) dX12_mapped_59 (by decide) ?_
          exact (hk _ _ h) _ _ _ _ rfl hOK
      · replace h := gI_pos h14 h
        refine g_aload_n (q0 := 18) (j := 0) rfl dX12_mapped_17 rfl ?_
        refine g_getp (q0 := 21) (b := 730) rfl ff_X12_66 dX12_mapped_18 rfl hOK (by decide) (sh_711 hOK) rfl (by decide) ?_
        refine g_bipush (q0 := 23) rfl dX12_mapped_21 (k := ?_)
        refine g_iload_n (q0 := 24) (j := 1) rfl dX12_mapped_23 rfl ?_
        refine g_imulw (q0 := 25) rfl dX12_mapped_24 ?_
        refine g_iload (q0 := 27) (j := 4) rfl dX12_mapped_25 rfl ?_
        refine g_iaddw (q0 := 28) rfl dX12_mapped_27 ?_
        obtain ⟨g2, h⟩ := gI_gd h
        refine g_iald (q0 := 29) rfl dX12_mapped_28 (sh_730 hOK) g2.1 g2.2 ?_
        refine g_iconst (q0 := 30) rfl dX12_mapped_29 (k := ?_)
        refine g_icmp_eq (q0 := 33) (tgt := 56) rfl dX12_mapped_30 (by decide) (fun h30 => ?_) (fun h30 => ?_)
        · replace h := gI_pos h30 h
          refine g_iincw (q0 := 59) (lv2 := [_, _, _, _, _]) rfl dX12_mapped_56 rfl (by decide) rfl rfl ?_
          refine g_goto (tgt := 5) dX12_mapped_59 (by decide) ?_
          exact (hk _ _ h) _ _ _ _ rfl hOK
        · replace h := gI_neg h30 h
          refine g_goto (tgt := 52) dX12_mapped_33 (by decide) ?_
          refine g_iload_n (q0 := 53) (j := 3) rfl dX12_mapped_52 rfl ?_
          refine g_iconst (q0 := 54) rfl dX12_mapped_53 (k := ?_)
          refine g_iaddw (q0 := 55) rfl dX12_mapped_54 ?_
          refine g_istore_n (q0 := 56) (j := 3) (lv2 := [_, _, _, _, _]) rfl dX12_mapped_55 (by decide) rfl rfl ?_
          refine g_iincw (q0 := 59) (lv2 := [_, _, _, _, _]) rfl dX12_mapped_56 rfl (by decide) rfl rfl ?_
          refine g_goto (tgt := 5) dX12_mapped_59 (by decide) ?_
          exact (hk _ _ h) _ _ _ _ rfl hOK
theorem ok_mapped_5 {sh : gS} {M : gM} {x1 x2 x3 x4 : Int} {b : Int} (hOK : gOK sh M) (h : F_mapped_5 M x1 x2 x3 x4 = some b) : gA (gr 0 0) yX12_mapped cX12_mapped 5 (some (.int)) (gPq sh (some (0, b)) M) (0, 0) 5 [(4, 711), (0, x1), (0, x2), (0, x3), (0, x4)] [] sh M :=
  (okp_mapped _ _ h) _ _ _ _ rfl hOK
theorem ok_mapped {sh : gS} {M : gM} {a1 a2 : Int} {b : Int} (hOK : gOK sh M) (h : F_mapped M a1 a2 = some b) : gC (gr 0 0) yX12_mapped cX12_mapped 5 (some (.int)) [(4, 711), (0, a1), (0, a2)] sh M (gPq sh (some (0, b)) M) := by
  rw [eq_mapped] at h
  refine gC_ofA (lv := [_, _, _, _, _]) (by decide +kernel) (Nat.le_of_ble_eq_true rfl) rfl (fun hMw hav => ?_)
  refine g_iconst (q0 := 1) rfl dX12_mapped_0 (k := ?_)
  refine g_istore_n (q0 := 2) (j := 3) (lv2 := [_, _, _, _, _]) rfl dX12_mapped_1 (by decide) rfl rfl ?_
  refine g_iconst (q0 := 3) rfl dX12_mapped_2 (k := ?_)
  refine g_istore (q0 := 5) (j := 4) (lv2 := [_, _, _, _, _]) rfl dX12_mapped_3 (by decide) rfl rfl ?_
  exact ok_mapped_5 hOK h
-- ==== withoutImage
theorem dX12_withoutImage_0 : decode cX12_withoutImage 0 = .ok (.iconst 0, 1) := by decide +kernel
theorem dX12_withoutImage_1 : decode cX12_withoutImage 1 = .ok (.istore_n 2, 1) := by decide +kernel
theorem dX12_withoutImage_2 : decode cX12_withoutImage 2 = .ok (.iconst 0, 1) := by decide +kernel
theorem dX12_withoutImage_3 : decode cX12_withoutImage 3 = .ok (.istore_n 3, 1) := by decide +kernel
theorem dX12_withoutImage_4 : decode cX12_withoutImage 4 = .ok (.iload_n 3, 1) := by decide +kernel
theorem dX12_withoutImage_5 : decode cX12_withoutImage 5 = .ok (.bipush 120, 2) := by decide +kernel
theorem dX12_withoutImage_7 : decode cX12_withoutImage 7 = .ok (.if_icmp .ge 43, 3) := by decide +kernel
theorem dX12_withoutImage_10 : decode cX12_withoutImage 10 = .ok (.aload_n 0, 1) := by decide +kernel
theorem dX12_withoutImage_11 : decode cX12_withoutImage 11 = .ok (.getfield 66, 3) := by decide +kernel
theorem dX12_withoutImage_14 : decode cX12_withoutImage 14 = .ok (.bipush 120, 2) := by decide +kernel
theorem dX12_withoutImage_16 : decode cX12_withoutImage 16 = .ok (.iload_n 1, 1) := by decide +kernel
theorem dX12_withoutImage_17 : decode cX12_withoutImage 17 = .ok (.imul, 1) := by decide +kernel
theorem dX12_withoutImage_18 : decode cX12_withoutImage 18 = .ok (.iload_n 3, 1) := by decide +kernel
theorem dX12_withoutImage_19 : decode cX12_withoutImage 19 = .ok (.iadd, 1) := by decide +kernel
theorem dX12_withoutImage_20 : decode cX12_withoutImage 20 = .ok (.iaload, 1) := by decide +kernel
theorem dX12_withoutImage_21 : decode cX12_withoutImage 21 = .ok (.iconst (-1), 1) := by decide +kernel
theorem dX12_withoutImage_22 : decode cX12_withoutImage 22 = .ok (.if_icmp .eq 22, 3) := by decide +kernel
theorem dX12_withoutImage_25 : decode cX12_withoutImage 25 = .ok (.aload_n 0, 1) := by decide +kernel
theorem dX12_withoutImage_26 : decode cX12_withoutImage 26 = .ok (.getfield 69, 3) := by decide +kernel
theorem dX12_withoutImage_29 : decode cX12_withoutImage 29 = .ok (.bipush 120, 2) := by decide +kernel
theorem dX12_withoutImage_31 : decode cX12_withoutImage 31 = .ok (.iload_n 1, 1) := by decide +kernel
theorem dX12_withoutImage_32 : decode cX12_withoutImage 32 = .ok (.imul, 1) := by decide +kernel
theorem dX12_withoutImage_33 : decode cX12_withoutImage 33 = .ok (.iload_n 3, 1) := by decide +kernel
theorem dX12_withoutImage_34 : decode cX12_withoutImage 34 = .ok (.iadd, 1) := by decide +kernel
theorem dX12_withoutImage_35 : decode cX12_withoutImage 35 = .ok (.iaload, 1) := by decide +kernel
theorem dX12_withoutImage_36 : decode cX12_withoutImage 36 = .ok (.iconst (-1), 1) := by decide +kernel
theorem dX12_withoutImage_37 : decode cX12_withoutImage 37 = .ok (.if_icmp .ne 7, 3) := by decide +kernel
theorem dX12_withoutImage_40 : decode cX12_withoutImage 40 = .ok (.iload_n 2, 1) := by decide +kernel
theorem dX12_withoutImage_41 : decode cX12_withoutImage 41 = .ok (.iconst 1, 1) := by decide +kernel
theorem dX12_withoutImage_42 : decode cX12_withoutImage 42 = .ok (.iadd, 1) := by decide +kernel
theorem dX12_withoutImage_43 : decode cX12_withoutImage 43 = .ok (.istore_n 2, 1) := by decide +kernel
theorem dX12_withoutImage_44 : decode cX12_withoutImage 44 = .ok (.iinc 3 1, 3) := by decide +kernel
theorem dX12_withoutImage_47 : decode cX12_withoutImage 47 = .ok (.goto (-43), 3) := by decide +kernel
theorem dX12_withoutImage_50 : decode cX12_withoutImage 50 = .ok (.iload_n 2, 1) := by decide +kernel
theorem dX12_withoutImage_51 : decode cX12_withoutImage 51 = .ok (.ireturn, 1) := by decide +kernel
noncomputable def st_withoutImage (M : gM) : Nat × List Int → Option ((Nat × List Int) ⊕ (Int))
  | (0, [x1, x2, x3]) => (if x3 < 120 then
      (if 0 ≤ (gw32 ((gw32 ((120 : Int) * x1)) + x3)) ∧ (gw32 ((gw32 ((120 : Int) * x1)) + x3)) < 480 then
        (if (M 730 (gw32 ((gw32 ((120 : Int) * x1)) + x3))) = -1 then
          some (.inl (0, [x1, x2, (gw32 (x3 + 1))]))
        else
          (if (M 731 (gw32 ((gw32 ((120 : Int) * x1)) + x3))) = -1 then
            some (.inl (0, [x1, (gw32 (x2 + (1 : Int))), (gw32 (x3 + 1))]))
          else
            some (.inl (0, [x1, x2, (gw32 (x3 + 1))]))))
      else none)
    else
      some (.inr x2))
  | _ => none
theorem sk_withoutImage_4 (k : Nat × List Int → Option (Int)) (M : gM) (x1 x2 x3 : Int) : gWk k (st_withoutImage M (0, [x1, x2, x3])) = (if x3 < 120 then
    (if 0 ≤ (gw32 ((gw32 ((120 : Int) * x1)) + x3)) ∧ (gw32 ((gw32 ((120 : Int) * x1)) + x3)) < 480 then
      (if (M 730 (gw32 ((gw32 ((120 : Int) * x1)) + x3))) = -1 then
        k (0, [x1, x2, (gw32 (x3 + 1))])
      else
        (if (M 731 (gw32 ((gw32 ((120 : Int) * x1)) + x3))) = -1 then
          k (0, [x1, (gw32 (x2 + (1 : Int))), (gw32 (x3 + 1))])
        else
          k (0, [x1, x2, (gw32 (x3 + 1))])))
    else none)
  else
    some x2) := by
  simp only [st_withoutImage, gWk_ite, gWk_bind, gWk_inl, gWk_inr, gWk_none]
noncomputable def F_withoutImage_4 (M : gM) (x1 x2 x3 : Int) : Option (Int) := gWh (st_withoutImage M) (0, [x1, x2, x3])
theorem eq_withoutImage_4 (M : gM) (x1 x2 x3 : Int) : F_withoutImage_4 M x1 x2 x3 = (if x3 < 120 then
    (if 0 ≤ (gw32 ((gw32 ((120 : Int) * x1)) + x3)) ∧ (gw32 ((gw32 ((120 : Int) * x1)) + x3)) < 480 then
      (if (M 730 (gw32 ((gw32 ((120 : Int) * x1)) + x3))) = -1 then
        F_withoutImage_4 M x1 x2 (gw32 (x3 + 1))
      else
        (if (M 731 (gw32 ((gw32 ((120 : Int) * x1)) + x3))) = -1 then
          F_withoutImage_4 M x1 (gw32 (x2 + (1 : Int))) (gw32 (x3 + 1))
        else
          F_withoutImage_4 M x1 x2 (gw32 (x3 + 1))))
    else none)
  else
    some x2) := (gWh_eq _).trans (sk_withoutImage_4 _ M x1 x2 x3)
noncomputable def F_withoutImage (M : gM) (a1 : Int) : Option (Int) := F_withoutImage_4 M a1 0 0
theorem eq_withoutImage (M : gM) (a1 : Int) : F_withoutImage M a1 = F_withoutImage_4 M a1 0 0 := rfl
theorem okp_withoutImage {sh : gS} {M : gM} : ∀ (s : Nat × List Int) (b : Int), gWh (st_withoutImage M) s = some b → (∀ (x1 x2 x3 : Int), s = (0, [x1, x2, x3]) → gOK sh M → gA (gr 0 0) yX12_withoutImage cX12_withoutImage 4 (some (.int)) (gPq sh (some (0, b)) M) (0, 0) 4 [(4, 711), (0, x1), (0, x2), (0, x3)] [] sh M) := by
  refine gWh_ind (fun k hk s b h => ?_)
  · rintro x1 x2 x3 rfl hOK
    rw [sk_withoutImage_4] at h
    refine g_iload_n (q0 := 5) (j := 3) rfl dX12_withoutImage_4 rfl ?_
    refine g_bipush (q0 := 7) rfl dX12_withoutImage_5 (k := ?_)
    refine g_icmp_ge (q0 := 10) (tgt := 50) rfl dX12_withoutImage_7 (by decide) (fun h7 => ?_) (fun h7 => ?_)
    · replace h := gI_neg (Int.not_lt.mpr h7) h
      refine g_iload_n (q0 := 51) (j := 2) rfl dX12_withoutImage_50 rfl ?_
      rw [← Option.some.inj h]
      refine g_ireturn dX12_withoutImage_51 rfl ⟨Nat.zero_le _, Nat.zero_le _⟩ ?_
      exact ⟨rfl, rfl, rfl⟩
    · replace h := gI_pos h7 h
      refine g_aload_n (q0 := 11) (j := 0) rfl dX12_withoutImage_10 rfl ?_
      refine g_getp (q0 := 14) (b := 730) rfl ff_X12_66 dX12_withoutImage_11 rfl hOK (by decide) (sh_711 hOK) rfl (by decide) ?_
      refine g_bipush (q0 := 16) rfl dX12_withoutImage_14 (k := ?_)
      refine g_iload_n (q0 := 17) (j := 1) rfl dX12_withoutImage_16 rfl ?_
      refine g_imulw (q0 := 18) rfl dX12_withoutImage_17 ?_
      refine g_iload_n (q0 := 19) (j := 3) rfl dX12_withoutImage_18 rfl ?_
      refine g_iaddw (q0 := 20) rfl dX12_withoutImage_19 ?_
      obtain ⟨g1, h⟩ := gI_gd h
      refine g_iald (q0 := 21) rfl dX12_withoutImage_20 (sh_730 hOK) g1.1 g1.2 ?_
      refine g_iconst (q0 := 22) rfl dX12_withoutImage_21 (k := ?_)
      refine g_icmp_eq (q0 := 25) (tgt := 44) rfl dX12_withoutImage_22 (by decide) (fun h22 => ?_) (fun h22 => ?_)
      · replace h := gI_pos h22 h
        refine g_iincw (q0 := 47) (lv2 := [_, _, _, _]) rfl dX12_withoutImage_44 rfl (by decide) rfl rfl ?_
        refine g_goto (tgt := 4) dX12_withoutImage_47 (by decide) ?_
        exact (hk _ _ h) _ _ _ rfl hOK
      · replace h := gI_neg h22 h
        refine g_aload_n (q0 := 26) (j := 0) rfl dX12_withoutImage_25 rfl ?_
        refine g_getp (q0 := 29) (b := 731) rfl ff_X12_69 dX12_withoutImage_26 rfl hOK (by decide) (sh_711 hOK) rfl (by decide) ?_
        refine g_bipush (q0 := 31) rfl dX12_withoutImage_29 (k := ?_)
        refine g_iload_n (q0 := 32) (j := 1) rfl dX12_withoutImage_31 rfl ?_
        refine g_imulw (q0 := 33) rfl dX12_withoutImage_32 ?_
        refine g_iload_n (q0 := 34) (j := 3) rfl dX12_withoutImage_33 rfl ?_
        refine g_iaddw (q0 := 35) rfl dX12_withoutImage_34 ?_
        refine g_iald (q0 := 36) rfl dX12_withoutImage_35 (sh_731 hOK) g1.1 g1.2 ?_
        refine g_iconst (q0 := 37) rfl dX12_withoutImage_36 (k := ?_)
        refine g_icmp_ne (q0 := 40) (tgt := 44) rfl dX12_withoutImage_37 (by decide) (fun h37 => ?_) (fun h37 => ?_)
        · replace h := gI_neg h37 h
          refine g_iincw (q0 := 47) (lv2 := [_, _, _, _]) rfl dX12_withoutImage_44 rfl (by decide) rfl rfl ?_
          refine g_goto (tgt := 4) dX12_withoutImage_47 (by decide) ?_
          exact (hk _ _ h) _ _ _ rfl hOK
        · replace h := gI_pos h37 h
          refine g_iload_n (q0 := 41) (j := 2) rfl dX12_withoutImage_40 rfl ?_
          refine g_iconst (q0 := 42) rfl dX12_withoutImage_41 (k := ?_)
          refine g_iaddw (q0 := 43) rfl dX12_withoutImage_42 ?_
          refine g_istore_n (q0 := 44) (j := 2) (lv2 := [_, _, _, _]) rfl dX12_withoutImage_43 (by decide) rfl rfl ?_
          refine g_iincw (q0 := 47) (lv2 := [_, _, _, _]) rfl dX12_withoutImage_44 rfl (by decide) rfl rfl ?_
          refine g_goto (tgt := 4) dX12_withoutImage_47 (by decide) ?_
          exact (hk _ _ h) _ _ _ rfl hOK
theorem ok_withoutImage_4 {sh : gS} {M : gM} {x1 x2 x3 : Int} {b : Int} (hOK : gOK sh M) (h : F_withoutImage_4 M x1 x2 x3 = some b) : gA (gr 0 0) yX12_withoutImage cX12_withoutImage 4 (some (.int)) (gPq sh (some (0, b)) M) (0, 0) 4 [(4, 711), (0, x1), (0, x2), (0, x3)] [] sh M :=
  (okp_withoutImage _ _ h) _ _ _ rfl hOK
theorem ok_withoutImage {sh : gS} {M : gM} {a1 : Int} {b : Int} (hOK : gOK sh M) (h : F_withoutImage M a1 = some b) : gC (gr 0 0) yX12_withoutImage cX12_withoutImage 4 (some (.int)) [(4, 711), (0, a1)] sh M (gPq sh (some (0, b)) M) := by
  rw [eq_withoutImage] at h
  refine gC_ofA (lv := [_, _, _, _]) (by decide +kernel) (Nat.le_of_ble_eq_true rfl) rfl (fun hMw hav => ?_)
  refine g_iconst (q0 := 1) rfl dX12_withoutImage_0 (k := ?_)
  refine g_istore_n (q0 := 2) (j := 2) (lv2 := [_, _, _, _]) rfl dX12_withoutImage_1 (by decide) rfl rfl ?_
  refine g_iconst (q0 := 3) rfl dX12_withoutImage_2 (k := ?_)
  refine g_istore_n (q0 := 4) (j := 3) (lv2 := [_, _, _, _]) rfl dX12_withoutImage_3 (by decide) rfl rfl ?_
  exact ok_withoutImage_4 hOK h
-- ==== planIs
theorem dX12_planIs_0 : decode cX12_planIs 0 = .ok (.iload_n 1, 1) := by decide +kernel
theorem dX12_planIs_1 : decode cX12_planIs 1 = .ok (.invokestatic 433, 3) := by decide +kernel
theorem dX12_planIs_4 : decode cX12_planIs 4 = .ok (.ifCond .eq 13, 3) := by decide +kernel
theorem dX12_planIs_7 : decode cX12_planIs 7 = .ok (.iload_n 2, 1) := by decide +kernel
theorem dX12_planIs_8 : decode cX12_planIs 8 = .ok (.iconst 0, 1) := by decide +kernel
theorem dX12_planIs_9 : decode cX12_planIs 9 = .ok (.bipush 20, 2) := by decide +kernel
theorem dX12_planIs_11 : decode cX12_planIs 11 = .ok (.invokestatic 182, 3) := by decide +kernel
theorem dX12_planIs_14 : decode cX12_planIs 14 = .ok (.ifCond .ne 5, 3) := by decide +kernel
theorem dX12_planIs_17 : decode cX12_planIs 17 = .ok (.iconst (-1), 1) := by decide +kernel
theorem dX12_planIs_18 : decode cX12_planIs 18 = .ok (.ireturn, 1) := by decide +kernel
theorem dX12_planIs_19 : decode cX12_planIs 19 = .ok (.aload_n 0, 1) := by decide +kernel
theorem dX12_planIs_20 : decode cX12_planIs 20 = .ok (.iload_n 1, 1) := by decide +kernel
theorem dX12_planIs_21 : decode cX12_planIs 21 = .ok (.invokevirtual 449, 3) := by decide +kernel
theorem dX12_planIs_24 : decode cX12_planIs 24 = .ok (.ifCond .ne 6, 3) := by decide +kernel
theorem dX12_planIs_27 : decode cX12_planIs 27 = .ok (.bipush (-2), 2) := by decide +kernel
theorem dX12_planIs_29 : decode cX12_planIs 29 = .ok (.ireturn, 1) := by decide +kernel
theorem dX12_planIs_30 : decode cX12_planIs 30 = .ok (.iload_n 2, 1) := by decide +kernel
theorem dX12_planIs_31 : decode cX12_planIs 31 = .ok (.tableswitch 240 0 19 #[93, 100, 107, 114, 121, 128, 136, 144, 152, 159, 166, 173, 180, 186, 194, 202, 210, 218, 225, 232], 93) := by decide +kernel
theorem dX12_planIs_124 : decode cX12_planIs 124 = .ok (.aload_n 0, 1) := by decide +kernel
theorem dX12_planIs_125 : decode cX12_planIs 125 = .ok (.iload_n 1, 1) := by decide +kernel
theorem dX12_planIs_126 : decode cX12_planIs 126 = .ok (.iconst 1, 1) := by decide +kernel
theorem dX12_planIs_127 : decode cX12_planIs 127 = .ok (.invokevirtual 452, 3) := by decide +kernel
theorem dX12_planIs_130 : decode cX12_planIs 130 = .ok (.ireturn, 1) := by decide +kernel
theorem dX12_planIs_131 : decode cX12_planIs 131 = .ok (.aload_n 0, 1) := by decide +kernel
theorem dX12_planIs_132 : decode cX12_planIs 132 = .ok (.iload_n 1, 1) := by decide +kernel
theorem dX12_planIs_133 : decode cX12_planIs 133 = .ok (.iconst 2, 1) := by decide +kernel
theorem dX12_planIs_134 : decode cX12_planIs 134 = .ok (.invokevirtual 452, 3) := by decide +kernel
theorem dX12_planIs_137 : decode cX12_planIs 137 = .ok (.ireturn, 1) := by decide +kernel
theorem dX12_planIs_138 : decode cX12_planIs 138 = .ok (.aload_n 0, 1) := by decide +kernel
theorem dX12_planIs_139 : decode cX12_planIs 139 = .ok (.iload_n 1, 1) := by decide +kernel
theorem dX12_planIs_140 : decode cX12_planIs 140 = .ok (.iconst 1, 1) := by decide +kernel
theorem dX12_planIs_141 : decode cX12_planIs 141 = .ok (.invokevirtual 455, 3) := by decide +kernel
theorem dX12_planIs_144 : decode cX12_planIs 144 = .ok (.ireturn, 1) := by decide +kernel
theorem dX12_planIs_145 : decode cX12_planIs 145 = .ok (.aload_n 0, 1) := by decide +kernel
theorem dX12_planIs_146 : decode cX12_planIs 146 = .ok (.iload_n 1, 1) := by decide +kernel
theorem dX12_planIs_147 : decode cX12_planIs 147 = .ok (.iconst 2, 1) := by decide +kernel
theorem dX12_planIs_148 : decode cX12_planIs 148 = .ok (.invokevirtual 455, 3) := by decide +kernel
theorem dX12_planIs_151 : decode cX12_planIs 151 = .ok (.ireturn, 1) := by decide +kernel
theorem dX12_planIs_152 : decode cX12_planIs 152 = .ok (.aload_n 0, 1) := by decide +kernel
theorem dX12_planIs_153 : decode cX12_planIs 153 = .ok (.iload_n 1, 1) := by decide +kernel
theorem dX12_planIs_154 : decode cX12_planIs 154 = .ok (.iconst 3, 1) := by decide +kernel
theorem dX12_planIs_155 : decode cX12_planIs 155 = .ok (.invokevirtual 455, 3) := by decide +kernel
theorem dX12_planIs_158 : decode cX12_planIs 158 = .ok (.ireturn, 1) := by decide +kernel
theorem dX12_planIs_159 : decode cX12_planIs 159 = .ok (.aload_n 0, 1) := by decide +kernel
theorem dX12_planIs_160 : decode cX12_planIs 160 = .ok (.iload_n 1, 1) := by decide +kernel
theorem dX12_planIs_161 : decode cX12_planIs 161 = .ok (.bipush 11, 2) := by decide +kernel
theorem dX12_planIs_163 : decode cX12_planIs 163 = .ok (.invokevirtual 452, 3) := by decide +kernel
theorem dX12_planIs_166 : decode cX12_planIs 166 = .ok (.ireturn, 1) := by decide +kernel
theorem dX12_planIs_167 : decode cX12_planIs 167 = .ok (.aload_n 0, 1) := by decide +kernel
theorem dX12_planIs_168 : decode cX12_planIs 168 = .ok (.iload_n 1, 1) := by decide +kernel
theorem dX12_planIs_169 : decode cX12_planIs 169 = .ok (.bipush 12, 2) := by decide +kernel
theorem dX12_planIs_171 : decode cX12_planIs 171 = .ok (.invokevirtual 452, 3) := by decide +kernel
theorem dX12_planIs_174 : decode cX12_planIs 174 = .ok (.ireturn, 1) := by decide +kernel
theorem dX12_planIs_175 : decode cX12_planIs 175 = .ok (.aload_n 0, 1) := by decide +kernel
theorem dX12_planIs_176 : decode cX12_planIs 176 = .ok (.iload_n 1, 1) := by decide +kernel
theorem dX12_planIs_177 : decode cX12_planIs 177 = .ok (.bipush 13, 2) := by decide +kernel
theorem dX12_planIs_179 : decode cX12_planIs 179 = .ok (.invokevirtual 452, 3) := by decide +kernel
theorem dX12_planIs_182 : decode cX12_planIs 182 = .ok (.ireturn, 1) := by decide +kernel
theorem dX12_planIs_183 : decode cX12_planIs 183 = .ok (.aload_n 0, 1) := by decide +kernel
theorem dX12_planIs_184 : decode cX12_planIs 184 = .ok (.iload_n 1, 1) := by decide +kernel
theorem dX12_planIs_185 : decode cX12_planIs 185 = .ok (.iconst (-1), 1) := by decide +kernel
theorem dX12_planIs_186 : decode cX12_planIs 186 = .ok (.invokevirtual 458, 3) := by decide +kernel
theorem dX12_planIs_189 : decode cX12_planIs 189 = .ok (.ireturn, 1) := by decide +kernel
theorem dX12_planIs_190 : decode cX12_planIs 190 = .ok (.aload_n 0, 1) := by decide +kernel
theorem dX12_planIs_191 : decode cX12_planIs 191 = .ok (.iload_n 1, 1) := by decide +kernel
theorem dX12_planIs_192 : decode cX12_planIs 192 = .ok (.iconst 0, 1) := by decide +kernel
theorem dX12_planIs_193 : decode cX12_planIs 193 = .ok (.invokevirtual 458, 3) := by decide +kernel
theorem dX12_planIs_196 : decode cX12_planIs 196 = .ok (.ireturn, 1) := by decide +kernel
theorem dX12_planIs_197 : decode cX12_planIs 197 = .ok (.aload_n 0, 1) := by decide +kernel
theorem dX12_planIs_198 : decode cX12_planIs 198 = .ok (.iload_n 1, 1) := by decide +kernel
theorem dX12_planIs_199 : decode cX12_planIs 199 = .ok (.iconst 1, 1) := by decide +kernel
theorem dX12_planIs_200 : decode cX12_planIs 200 = .ok (.invokevirtual 458, 3) := by decide +kernel
theorem dX12_planIs_203 : decode cX12_planIs 203 = .ok (.ireturn, 1) := by decide +kernel
theorem dX12_planIs_204 : decode cX12_planIs 204 = .ok (.aload_n 0, 1) := by decide +kernel
theorem dX12_planIs_205 : decode cX12_planIs 205 = .ok (.iload_n 1, 1) := by decide +kernel
theorem dX12_planIs_206 : decode cX12_planIs 206 = .ok (.iconst 2, 1) := by decide +kernel
theorem dX12_planIs_207 : decode cX12_planIs 207 = .ok (.invokevirtual 458, 3) := by decide +kernel
theorem dX12_planIs_210 : decode cX12_planIs 210 = .ok (.ireturn, 1) := by decide +kernel
theorem dX12_planIs_211 : decode cX12_planIs 211 = .ok (.aload_n 0, 1) := by decide +kernel
theorem dX12_planIs_212 : decode cX12_planIs 212 = .ok (.iload_n 1, 1) := by decide +kernel
theorem dX12_planIs_213 : decode cX12_planIs 213 = .ok (.invokevirtual 461, 3) := by decide +kernel
theorem dX12_planIs_216 : decode cX12_planIs 216 = .ok (.ireturn, 1) := by decide +kernel
theorem dX12_planIs_217 : decode cX12_planIs 217 = .ok (.aload_n 0, 1) := by decide +kernel
theorem dX12_planIs_218 : decode cX12_planIs 218 = .ok (.iload_n 1, 1) := by decide +kernel
theorem dX12_planIs_219 : decode cX12_planIs 219 = .ok (.bipush 16, 2) := by decide +kernel
theorem dX12_planIs_221 : decode cX12_planIs 221 = .ok (.invokevirtual 452, 3) := by decide +kernel
theorem dX12_planIs_224 : decode cX12_planIs 224 = .ok (.ireturn, 1) := by decide +kernel
theorem dX12_planIs_225 : decode cX12_planIs 225 = .ok (.aload_n 0, 1) := by decide +kernel
theorem dX12_planIs_226 : decode cX12_planIs 226 = .ok (.iload_n 1, 1) := by decide +kernel
theorem dX12_planIs_227 : decode cX12_planIs 227 = .ok (.bipush 10, 2) := by decide +kernel
theorem dX12_planIs_229 : decode cX12_planIs 229 = .ok (.invokevirtual 452, 3) := by decide +kernel
theorem dX12_planIs_232 : decode cX12_planIs 232 = .ok (.ireturn, 1) := by decide +kernel
theorem dX12_planIs_233 : decode cX12_planIs 233 = .ok (.aload_n 0, 1) := by decide +kernel
theorem dX12_planIs_234 : decode cX12_planIs 234 = .ok (.iload_n 1, 1) := by decide +kernel
theorem dX12_planIs_235 : decode cX12_planIs 235 = .ok (.bipush 14, 2) := by decide +kernel
theorem dX12_planIs_237 : decode cX12_planIs 237 = .ok (.invokevirtual 452, 3) := by decide +kernel
theorem dX12_planIs_240 : decode cX12_planIs 240 = .ok (.ireturn, 1) := by decide +kernel
theorem dX12_planIs_241 : decode cX12_planIs 241 = .ok (.aload_n 0, 1) := by decide +kernel
theorem dX12_planIs_242 : decode cX12_planIs 242 = .ok (.iload_n 1, 1) := by decide +kernel
theorem dX12_planIs_243 : decode cX12_planIs 243 = .ok (.bipush 15, 2) := by decide +kernel
theorem dX12_planIs_245 : decode cX12_planIs 245 = .ok (.invokevirtual 452, 3) := by decide +kernel
theorem dX12_planIs_248 : decode cX12_planIs 248 = .ok (.ireturn, 1) := by decide +kernel
theorem dX12_planIs_249 : decode cX12_planIs 249 = .ok (.aload_n 0, 1) := by decide +kernel
theorem dX12_planIs_250 : decode cX12_planIs 250 = .ok (.iload_n 1, 1) := by decide +kernel
theorem dX12_planIs_251 : decode cX12_planIs 251 = .ok (.iconst 4, 1) := by decide +kernel
theorem dX12_planIs_252 : decode cX12_planIs 252 = .ok (.invokevirtual 455, 3) := by decide +kernel
theorem dX12_planIs_255 : decode cX12_planIs 255 = .ok (.ireturn, 1) := by decide +kernel
theorem dX12_planIs_256 : decode cX12_planIs 256 = .ok (.aload_n 0, 1) := by decide +kernel
theorem dX12_planIs_257 : decode cX12_planIs 257 = .ok (.iload_n 1, 1) := by decide +kernel
theorem dX12_planIs_258 : decode cX12_planIs 258 = .ok (.iconst 5, 1) := by decide +kernel
theorem dX12_planIs_259 : decode cX12_planIs 259 = .ok (.invokevirtual 455, 3) := by decide +kernel
theorem dX12_planIs_262 : decode cX12_planIs 262 = .ok (.ireturn, 1) := by decide +kernel
theorem dX12_planIs_263 : decode cX12_planIs 263 = .ok (.aload_n 0, 1) := by decide +kernel
theorem dX12_planIs_264 : decode cX12_planIs 264 = .ok (.iload_n 1, 1) := by decide +kernel
theorem dX12_planIs_265 : decode cX12_planIs 265 = .ok (.bipush 6, 2) := by decide +kernel
theorem dX12_planIs_267 : decode cX12_planIs 267 = .ok (.invokevirtual 455, 3) := by decide +kernel
theorem dX12_planIs_270 : decode cX12_planIs 270 = .ok (.ireturn, 1) := by decide +kernel
theorem dX12_planIs_271 : decode cX12_planIs 271 = .ok (.aload_n 0, 1) := by decide +kernel
theorem dX12_planIs_272 : decode cX12_planIs 272 = .ok (.iload_n 1, 1) := by decide +kernel
theorem dX12_planIs_273 : decode cX12_planIs 273 = .ok (.bipush 9, 2) := by decide +kernel
theorem dX12_planIs_275 : decode cX12_planIs 275 = .ok (.invokevirtual 452, 3) := by decide +kernel
theorem dX12_planIs_278 : decode cX12_planIs 278 = .ok (.ireturn, 1) := by decide +kernel
noncomputable def F_planIs (M : gM) (a1 a2 : Int) : Option (Int) := (Option.bind (F_isPlan a1) (fun r1 =>
    (if r1 = 0 then
      some (-1)
    else
      (Option.bind (F_in a2 0 20) (fun r11 =>
        (if r11 = 0 then
          some (-1)
        else
          (Option.bind (F_isToldPlan M a1) (fun r21 =>
            (if r21 = 0 then
              some (-2)
            else
              (if a2 = 0 then
                (Option.bind (F_ofPlan M a1 1) (fun r127 =>
                  some r127))
              else
                (if a2 = 1 then
                  (Option.bind (F_ofPlan M a1 2) (fun r134 =>
                    some r134))
                else
                  (if a2 = 2 then
                    (Option.bind (F_manyOf M a1 1) (fun r141 =>
                      some r141))
                  else
                    (if a2 = 3 then
                      (Option.bind (F_manyOf M a1 2) (fun r148 =>
                        some r148))
                    else
                      (if a2 = 4 then
                        (Option.bind (F_manyOf M a1 3) (fun r155 =>
                          some r155))
                      else
                        (if a2 = 5 then
                          (Option.bind (F_ofPlan M a1 11) (fun r163 =>
                            some r163))
                        else
                          (if a2 = 6 then
                            (Option.bind (F_ofPlan M a1 12) (fun r171 =>
                              some r171))
                          else
                            (if a2 = 7 then
                              (Option.bind (F_ofPlan M a1 13) (fun r179 =>
                                some r179))
                            else
                              (if a2 = 8 then
                                (Option.bind (F_mapped M a1 (-1)) (fun r186 =>
                                  some r186))
                              else
                                (if a2 = 9 then
                                  (Option.bind (F_mapped M a1 0) (fun r193 =>
                                    some r193))
                                else
                                  (if a2 = 10 then
                                    (Option.bind (F_mapped M a1 1) (fun r200 =>
                                      some r200))
                                  else
                                    (if a2 = 11 then
                                      (Option.bind (F_mapped M a1 2) (fun r207 =>
                                        some r207))
                                    else
                                      (if a2 = 12 then
                                        (Option.bind (F_withoutImage M a1) (fun r213 =>
                                          some r213))
                                      else
                                        (if a2 = 13 then
                                          (Option.bind (F_ofPlan M a1 16) (fun r221 =>
                                            some r221))
                                        else
                                          (if a2 = 14 then
                                            (Option.bind (F_ofPlan M a1 10) (fun r229 =>
                                              some r229))
                                          else
                                            (if a2 = 15 then
                                              (Option.bind (F_ofPlan M a1 14) (fun r237 =>
                                                some r237))
                                            else
                                              (if a2 = 16 then
                                                (Option.bind (F_ofPlan M a1 15) (fun r245 =>
                                                  some r245))
                                              else
                                                (if a2 = 17 then
                                                  (Option.bind (F_manyOf M a1 4) (fun r252 =>
                                                    some r252))
                                                else
                                                  (if a2 = 18 then
                                                    (Option.bind (F_manyOf M a1 5) (fun r259 =>
                                                      some r259))
                                                  else
                                                    (if a2 = 19 then
                                                      (Option.bind (F_manyOf M a1 6) (fun r267 =>
                                                        some r267))
                                                    else
                                                      (Option.bind (F_ofPlan M a1 9) (fun r275 =>
                                                        some r275)))))))))))))))))))))))))))))))
theorem eq_planIs (M : gM) (a1 a2 : Int) : F_planIs M a1 a2 = (Option.bind (F_isPlan a1) (fun r1 =>
    (if r1 = 0 then
      some (-1)
    else
      (Option.bind (F_in a2 0 20) (fun r11 =>
        (if r11 = 0 then
          some (-1)
        else
          (Option.bind (F_isToldPlan M a1) (fun r21 =>
            (if r21 = 0 then
              some (-2)
            else
              (if a2 = 0 then
                (Option.bind (F_ofPlan M a1 1) (fun r127 =>
                  some r127))
              else
                (if a2 = 1 then
                  (Option.bind (F_ofPlan M a1 2) (fun r134 =>
                    some r134))
                else
                  (if a2 = 2 then
                    (Option.bind (F_manyOf M a1 1) (fun r141 =>
                      some r141))
                  else
                    (if a2 = 3 then
                      (Option.bind (F_manyOf M a1 2) (fun r148 =>
                        some r148))
                    else
                      (if a2 = 4 then
                        (Option.bind (F_manyOf M a1 3) (fun r155 =>
                          some r155))
                      else
                        (if a2 = 5 then
                          (Option.bind (F_ofPlan M a1 11) (fun r163 =>
                            some r163))
                        else
                          (if a2 = 6 then
                            (Option.bind (F_ofPlan M a1 12) (fun r171 =>
                              some r171))
                          else
                            (if a2 = 7 then
                              (Option.bind (F_ofPlan M a1 13) (fun r179 =>
                                some r179))
                            else
                              (if a2 = 8 then
                                (Option.bind (F_mapped M a1 (-1)) (fun r186 =>
                                  some r186))
                              else
                                (if a2 = 9 then
                                  (Option.bind (F_mapped M a1 0) (fun r193 =>
                                    some r193))
                                else
                                  (if a2 = 10 then
                                    (Option.bind (F_mapped M a1 1) (fun r200 =>
                                      some r200))
                                  else
                                    (if a2 = 11 then
                                      (Option.bind (F_mapped M a1 2) (fun r207 =>
                                        some r207))
                                    else
                                      (if a2 = 12 then
                                        (Option.bind (F_withoutImage M a1) (fun r213 =>
                                          some r213))
                                      else
                                        (if a2 = 13 then
                                          (Option.bind (F_ofPlan M a1 16) (fun r221 =>
                                            some r221))
                                        else
                                          (if a2 = 14 then
                                            (Option.bind (F_ofPlan M a1 10) (fun r229 =>
                                              some r229))
                                          else
                                            (if a2 = 15 then
                                              (Option.bind (F_ofPlan M a1 14) (fun r237 =>
                                                some r237))
                                            else
                                              (if a2 = 16 then
                                                (Option.bind (F_ofPlan M a1 15) (fun r245 =>
                                                  some r245))
                                              else
                                                (if a2 = 17 then
                                                  (Option.bind (F_manyOf M a1 4) (fun r252 =>
                                                    some r252))
                                                else
                                                  (if a2 = 18 then
                                                    (Option.bind (F_manyOf M a1 5) (fun r259 =>
                                                      some r259))
                                                  else
                                                    (if a2 = 19 then
                                                      (Option.bind (F_manyOf M a1 6) (fun r267 =>
                                                        some r267))
                                                    else
                                                      (Option.bind (F_ofPlan M a1 9) (fun r275 =>
                                                        some r275))))))))))))))))))))))))))))))) := rfl
theorem ok_planIs {sh : gS} {M : gM} {a1 a2 : Int} {b : Int} (hOK : gOK sh M) (h : F_planIs M a1 a2 = some b) : gC (gr 2 42) yX12_planIs cX12_planIs 3 (some (.int)) [(4, 711), (0, a1), (0, a2)] sh M (gPq sh (some (0, b)) M) := by
  rw [eq_planIs] at h
  refine gC_ofA (lv := [_, _, _]) (by decide +kernel) (Nat.le_of_ble_eq_true rfl) rfl (fun hMw hav => ?_)
  refine g_iload_n (q0 := 1) (j := 1) rfl dX12_planIs_0 rfl ?_
  obtain ⟨r1, e1, h⟩ := gI_bd h
  refine g_callSq1 (as := [_]) (rest := []) mt_X12_isPlan ms_X12_isPlan ml_X12_433 dX12_planIs_1 (q0 := 4) rfl rfl (ok_isPlan hOK e1) rfl ⟨by decide, by decide⟩ (Nat.le_of_ble_eq_true rfl) ⟨Nat.zero_le _, Nat.zero_le _⟩ ?_
  refine g_if_eq (q0 := 7) (tgt := 17) rfl dX12_planIs_4 (by decide) (fun h4 => ?_) (fun h4 => ?_)
  · replace h := gI_pos h4 h
    refine g_iconst (q0 := 18) rfl dX12_planIs_17 (k := ?_)
    rw [← Option.some.inj h]
    refine g_ireturn dX12_planIs_18 rfl ⟨Nat.zero_le _, Nat.zero_le _⟩ ?_
    exact ⟨rfl, rfl, rfl⟩
  · replace h := gI_neg h4 h
    refine g_iload_n (q0 := 8) (j := 2) rfl dX12_planIs_7 rfl ?_
    refine g_iconst (q0 := 9) rfl dX12_planIs_8 (k := ?_)
    refine g_bipush (q0 := 11) rfl dX12_planIs_9 (k := ?_)
    obtain ⟨r11, e11, h⟩ := gI_bd h
    refine g_callSq1 (as := [_, _, _]) (rest := []) mt_X12_in ms_X12_in ml_X12_182 dX12_planIs_11 (q0 := 14) rfl rfl (ok_in hOK e11) rfl ⟨by decide, by decide⟩ (Nat.le_of_ble_eq_true rfl) ⟨Nat.zero_le _, Nat.zero_le _⟩ ?_
    refine g_if_ne (q0 := 17) (tgt := 19) rfl dX12_planIs_14 (by decide) (fun h14 => ?_) (fun h14 => ?_)
    · replace h := gI_neg h14 h
      refine g_aload_n (q0 := 20) (j := 0) rfl dX12_planIs_19 rfl ?_
      refine g_iload_n (q0 := 21) (j := 1) rfl dX12_planIs_20 rfl ?_
      obtain ⟨r21, e21, h⟩ := gI_bd h
      refine g_callVq1 (as := [_]) (rest := []) mt_X12_isToldPlan mi_X12_isToldPlan se_X12_isToldPlan ml_X12_449 dX12_planIs_21 (q0 := 24) rfl rfl (sh_711 hOK) rfl rfl (ok_isToldPlan hOK e21) rfl ⟨by decide, by decide⟩ (Nat.le_of_ble_eq_true rfl) ⟨Nat.zero_le _, Nat.zero_le _⟩ ?_
      refine g_if_ne (q0 := 27) (tgt := 30) rfl dX12_planIs_24 (by decide) (fun h24 => ?_) (fun h24 => ?_)
      · replace h := gI_neg h24 h
        refine g_iload_n (q0 := 31) (j := 2) rfl dX12_planIs_30 rfl ?_
        by_cases hs0 : a2 = 0
        · replace h := gI_pos hs0 h
          refine g_tabIn (off := 93) (tgt := 124) dX12_planIs_31 (by omega) (by omega) (by rw [hs0]; rfl) (by decide) ?_
          refine g_aload_n (q0 := 125) (j := 0) rfl dX12_planIs_124 rfl ?_
          refine g_iload_n (q0 := 126) (j := 1) rfl dX12_planIs_125 rfl ?_
          refine g_iconst (q0 := 127) rfl dX12_planIs_126 (k := ?_)
          obtain ⟨r127, e127, h⟩ := gI_bd h
          refine g_callVq1 (as := [_, _]) (rest := []) mt_X12_ofPlan mi_X12_ofPlan se_X12_ofPlan ml_X12_452 dX12_planIs_127 (q0 := 130) rfl rfl (sh_711 hOK) rfl rfl (ok_ofPlan hOK e127) rfl ⟨by decide, by decide⟩ (Nat.le_of_ble_eq_true rfl) ⟨Nat.zero_le _, Nat.zero_le _⟩ ?_
          rw [← Option.some.inj h]
          refine g_ireturn dX12_planIs_130 rfl ⟨Nat.zero_le _, Nat.zero_le _⟩ ?_
          exact ⟨rfl, rfl, rfl⟩
        · replace h := gI_neg hs0 h
          by_cases hs1 : a2 = 1
          · replace h := gI_pos hs1 h
            refine g_tabIn (off := 100) (tgt := 131) dX12_planIs_31 (by omega) (by omega) (by rw [hs1]; rfl) (by decide) ?_
            refine g_aload_n (q0 := 132) (j := 0) rfl dX12_planIs_131 rfl ?_
            refine g_iload_n (q0 := 133) (j := 1) rfl dX12_planIs_132 rfl ?_
            refine g_iconst (q0 := 134) rfl dX12_planIs_133 (k := ?_)
            obtain ⟨r134, e134, h⟩ := gI_bd h
            refine g_callVq1 (as := [_, _]) (rest := []) mt_X12_ofPlan mi_X12_ofPlan se_X12_ofPlan ml_X12_452 dX12_planIs_134 (q0 := 137) rfl rfl (sh_711 hOK) rfl rfl (ok_ofPlan hOK e134) rfl ⟨by decide, by decide⟩ (Nat.le_of_ble_eq_true rfl) ⟨Nat.zero_le _, Nat.zero_le _⟩ ?_
            rw [← Option.some.inj h]
            refine g_ireturn dX12_planIs_137 rfl ⟨Nat.zero_le _, Nat.zero_le _⟩ ?_
            exact ⟨rfl, rfl, rfl⟩
          · replace h := gI_neg hs1 h
            by_cases hs2 : a2 = 2
            · replace h := gI_pos hs2 h
              refine g_tabIn (off := 107) (tgt := 138) dX12_planIs_31 (by omega) (by omega) (by rw [hs2]; rfl) (by decide) ?_
              refine g_aload_n (q0 := 139) (j := 0) rfl dX12_planIs_138 rfl ?_
              refine g_iload_n (q0 := 140) (j := 1) rfl dX12_planIs_139 rfl ?_
              refine g_iconst (q0 := 141) rfl dX12_planIs_140 (k := ?_)
              obtain ⟨r141, e141, h⟩ := gI_bd h
              refine g_callVq1 (as := [_, _]) (rest := []) mt_X12_manyOf mi_X12_manyOf se_X12_manyOf ml_X12_455 dX12_planIs_141 (q0 := 144) rfl rfl (sh_711 hOK) rfl rfl (ok_manyOf hOK e141) rfl ⟨by decide, by decide⟩ (Nat.le_of_ble_eq_true rfl) ⟨Nat.zero_le _, Nat.zero_le _⟩ ?_
              rw [← Option.some.inj h]
              refine g_ireturn dX12_planIs_144 rfl ⟨Nat.zero_le _, Nat.zero_le _⟩ ?_
              exact ⟨rfl, rfl, rfl⟩
            · replace h := gI_neg hs2 h
              by_cases hs3 : a2 = 3
              · replace h := gI_pos hs3 h
                refine g_tabIn (off := 114) (tgt := 145) dX12_planIs_31 (by omega) (by omega) (by rw [hs3]; rfl) (by decide) ?_
                refine g_aload_n (q0 := 146) (j := 0) rfl dX12_planIs_145 rfl ?_
                refine g_iload_n (q0 := 147) (j := 1) rfl dX12_planIs_146 rfl ?_
                refine g_iconst (q0 := 148) rfl dX12_planIs_147 (k := ?_)
                obtain ⟨r148, e148, h⟩ := gI_bd h
                refine g_callVq1 (as := [_, _]) (rest := []) mt_X12_manyOf mi_X12_manyOf se_X12_manyOf ml_X12_455 dX12_planIs_148 (q0 := 151) rfl rfl (sh_711 hOK) rfl rfl (ok_manyOf hOK e148) rfl ⟨by decide, by decide⟩ (Nat.le_of_ble_eq_true rfl) ⟨Nat.zero_le _, Nat.zero_le _⟩ ?_
                rw [← Option.some.inj h]
                refine g_ireturn dX12_planIs_151 rfl ⟨Nat.zero_le _, Nat.zero_le _⟩ ?_
                exact ⟨rfl, rfl, rfl⟩
              · replace h := gI_neg hs3 h
                by_cases hs4 : a2 = 4
                · replace h := gI_pos hs4 h
                  refine g_tabIn (off := 121) (tgt := 152) dX12_planIs_31 (by omega) (by omega) (by rw [hs4]; rfl) (by decide) ?_
                  refine g_aload_n (q0 := 153) (j := 0) rfl dX12_planIs_152 rfl ?_
                  refine g_iload_n (q0 := 154) (j := 1) rfl dX12_planIs_153 rfl ?_
                  refine g_iconst (q0 := 155) rfl dX12_planIs_154 (k := ?_)
                  obtain ⟨r155, e155, h⟩ := gI_bd h
                  refine g_callVq1 (as := [_, _]) (rest := []) mt_X12_manyOf mi_X12_manyOf se_X12_manyOf ml_X12_455 dX12_planIs_155 (q0 := 158) rfl rfl (sh_711 hOK) rfl rfl (ok_manyOf hOK e155) rfl ⟨by decide, by decide⟩ (Nat.le_of_ble_eq_true rfl) ⟨Nat.zero_le _, Nat.zero_le _⟩ ?_
                  rw [← Option.some.inj h]
                  refine g_ireturn dX12_planIs_158 rfl ⟨Nat.zero_le _, Nat.zero_le _⟩ ?_
                  exact ⟨rfl, rfl, rfl⟩
                · replace h := gI_neg hs4 h
                  by_cases hs5 : a2 = 5
                  · replace h := gI_pos hs5 h
                    refine g_tabIn (off := 128) (tgt := 159) dX12_planIs_31 (by omega) (by omega) (by rw [hs5]; rfl) (by decide) ?_
                    refine g_aload_n (q0 := 160) (j := 0) rfl dX12_planIs_159 rfl ?_
                    refine g_iload_n (q0 := 161) (j := 1) rfl dX12_planIs_160 rfl ?_
                    refine g_bipush (q0 := 163) rfl dX12_planIs_161 (k := ?_)
                    obtain ⟨r163, e163, h⟩ := gI_bd h
                    refine g_callVq1 (as := [_, _]) (rest := []) mt_X12_ofPlan mi_X12_ofPlan se_X12_ofPlan ml_X12_452 dX12_planIs_163 (q0 := 166) rfl rfl (sh_711 hOK) rfl rfl (ok_ofPlan hOK e163) rfl ⟨by decide, by decide⟩ (Nat.le_of_ble_eq_true rfl) ⟨Nat.zero_le _, Nat.zero_le _⟩ ?_
                    rw [← Option.some.inj h]
                    refine g_ireturn dX12_planIs_166 rfl ⟨Nat.zero_le _, Nat.zero_le _⟩ ?_
                    exact ⟨rfl, rfl, rfl⟩
                  · replace h := gI_neg hs5 h
                    by_cases hs6 : a2 = 6
                    · replace h := gI_pos hs6 h
                      refine g_tabIn (off := 136) (tgt := 167) dX12_planIs_31 (by omega) (by omega) (by rw [hs6]; rfl) (by decide) ?_
                      refine g_aload_n (q0 := 168) (j := 0) rfl dX12_planIs_167 rfl ?_
                      refine g_iload_n (q0 := 169) (j := 1) rfl dX12_planIs_168 rfl ?_
                      refine g_bipush (q0 := 171) rfl dX12_planIs_169 (k := ?_)
                      obtain ⟨r171, e171, h⟩ := gI_bd h
                      refine g_callVq1 (as := [_, _]) (rest := []) mt_X12_ofPlan mi_X12_ofPlan se_X12_ofPlan ml_X12_452 dX12_planIs_171 (q0 := 174) rfl rfl (sh_711 hOK) rfl rfl (ok_ofPlan hOK e171) rfl ⟨by decide, by decide⟩ (Nat.le_of_ble_eq_true rfl) ⟨Nat.zero_le _, Nat.zero_le _⟩ ?_
                      rw [← Option.some.inj h]
                      refine g_ireturn dX12_planIs_174 rfl ⟨Nat.zero_le _, Nat.zero_le _⟩ ?_
                      exact ⟨rfl, rfl, rfl⟩
                    · replace h := gI_neg hs6 h
                      by_cases hs7 : a2 = 7
                      · replace h := gI_pos hs7 h
                        refine g_tabIn (off := 144) (tgt := 175) dX12_planIs_31 (by omega) (by omega) (by rw [hs7]; rfl) (by decide) ?_
                        refine g_aload_n (q0 := 176) (j := 0) rfl dX12_planIs_175 rfl ?_
                        refine g_iload_n (q0 := 177) (j := 1) rfl dX12_planIs_176 rfl ?_
                        refine g_bipush (q0 := 179) rfl dX12_planIs_177 (k := ?_)
                        obtain ⟨r179, e179, h⟩ := gI_bd h
                        refine g_callVq1 (as := [_, _]) (rest := []) mt_X12_ofPlan mi_X12_ofPlan se_X12_ofPlan ml_X12_452 dX12_planIs_179 (q0 := 182) rfl rfl (sh_711 hOK) rfl rfl (ok_ofPlan hOK e179) rfl ⟨by decide, by decide⟩ (Nat.le_of_ble_eq_true rfl) ⟨Nat.zero_le _, Nat.zero_le _⟩ ?_
                        rw [← Option.some.inj h]
                        refine g_ireturn dX12_planIs_182 rfl ⟨Nat.zero_le _, Nat.zero_le _⟩ ?_
                        exact ⟨rfl, rfl, rfl⟩
                      · replace h := gI_neg hs7 h
                        by_cases hs8 : a2 = 8
                        · replace h := gI_pos hs8 h
                          refine g_tabIn (off := 152) (tgt := 183) dX12_planIs_31 (by omega) (by omega) (by rw [hs8]; rfl) (by decide) ?_
                          refine g_aload_n (q0 := 184) (j := 0) rfl dX12_planIs_183 rfl ?_
                          refine g_iload_n (q0 := 185) (j := 1) rfl dX12_planIs_184 rfl ?_
                          refine g_iconst (q0 := 186) rfl dX12_planIs_185 (k := ?_)
                          obtain ⟨r186, e186, h⟩ := gI_bd h
                          refine g_callVq1 (as := [_, _]) (rest := []) mt_X12_mapped mi_X12_mapped se_X12_mapped ml_X12_458 dX12_planIs_186 (q0 := 189) rfl rfl (sh_711 hOK) rfl rfl (ok_mapped hOK e186) rfl ⟨by decide, by decide⟩ (Nat.le_of_ble_eq_true rfl) ⟨Nat.zero_le _, Nat.zero_le _⟩ ?_
                          rw [← Option.some.inj h]
                          refine g_ireturn dX12_planIs_189 rfl ⟨Nat.zero_le _, Nat.zero_le _⟩ ?_
                          exact ⟨rfl, rfl, rfl⟩
                        · replace h := gI_neg hs8 h
                          by_cases hs9 : a2 = 9
                          · replace h := gI_pos hs9 h
                            refine g_tabIn (off := 159) (tgt := 190) dX12_planIs_31 (by omega) (by omega) (by rw [hs9]; rfl) (by decide) ?_
                            refine g_aload_n (q0 := 191) (j := 0) rfl dX12_planIs_190 rfl ?_
                            refine g_iload_n (q0 := 192) (j := 1) rfl dX12_planIs_191 rfl ?_
                            refine g_iconst (q0 := 193) rfl dX12_planIs_192 (k := ?_)
                            obtain ⟨r193, e193, h⟩ := gI_bd h
                            refine g_callVq1 (as := [_, _]) (rest := []) mt_X12_mapped mi_X12_mapped se_X12_mapped ml_X12_458 dX12_planIs_193 (q0 := 196) rfl rfl (sh_711 hOK) rfl rfl (ok_mapped hOK e193) rfl ⟨by decide, by decide⟩ (Nat.le_of_ble_eq_true rfl) ⟨Nat.zero_le _, Nat.zero_le _⟩ ?_
                            rw [← Option.some.inj h]
                            refine g_ireturn dX12_planIs_196 rfl ⟨Nat.zero_le _, Nat.zero_le _⟩ ?_
                            exact ⟨rfl, rfl, rfl⟩
                          · replace h := gI_neg hs9 h
                            by_cases hs10 : a2 = 10
                            · replace h := gI_pos hs10 h
                              refine g_tabIn (off := 166) (tgt := 197) dX12_planIs_31 (by omega) (by omega) (by rw [hs10]; rfl) (by decide) ?_
                              refine g_aload_n (q0 := 198) (j := 0) rfl dX12_planIs_197 rfl ?_
                              refine g_iload_n (q0 := 199) (j := 1) rfl dX12_planIs_198 rfl ?_
                              refine g_iconst (q0 := 200) rfl dX12_planIs_199 (k := ?_)
                              obtain ⟨r200, e200, h⟩ := gI_bd h
                              refine g_callVq1 (as := [_, _]) (rest := []) mt_X12_mapped mi_X12_mapped se_X12_mapped ml_X12_458 dX12_planIs_200 (q0 := 203) rfl rfl (sh_711 hOK) rfl rfl (ok_mapped hOK e200) rfl ⟨by decide, by decide⟩ (Nat.le_of_ble_eq_true rfl) ⟨Nat.zero_le _, Nat.zero_le _⟩ ?_
                              rw [← Option.some.inj h]
                              refine g_ireturn dX12_planIs_203 rfl ⟨Nat.zero_le _, Nat.zero_le _⟩ ?_
                              exact ⟨rfl, rfl, rfl⟩
                            · replace h := gI_neg hs10 h
                              by_cases hs11 : a2 = 11
                              · replace h := gI_pos hs11 h
                                refine g_tabIn (off := 173) (tgt := 204) dX12_planIs_31 (by omega) (by omega) (by rw [hs11]; rfl) (by decide) ?_
                                refine g_aload_n (q0 := 205) (j := 0) rfl dX12_planIs_204 rfl ?_
                                refine g_iload_n (q0 := 206) (j := 1) rfl dX12_planIs_205 rfl ?_
                                refine g_iconst (q0 := 207) rfl dX12_planIs_206 (k := ?_)
                                obtain ⟨r207, e207, h⟩ := gI_bd h
                                refine g_callVq1 (as := [_, _]) (rest := []) mt_X12_mapped mi_X12_mapped se_X12_mapped ml_X12_458 dX12_planIs_207 (q0 := 210) rfl rfl (sh_711 hOK) rfl rfl (ok_mapped hOK e207) rfl ⟨by decide, by decide⟩ (Nat.le_of_ble_eq_true rfl) ⟨Nat.zero_le _, Nat.zero_le _⟩ ?_
                                rw [← Option.some.inj h]
                                refine g_ireturn dX12_planIs_210 rfl ⟨Nat.zero_le _, Nat.zero_le _⟩ ?_
                                exact ⟨rfl, rfl, rfl⟩
                              · replace h := gI_neg hs11 h
                                by_cases hs12 : a2 = 12
                                · replace h := gI_pos hs12 h
                                  refine g_tabIn (off := 180) (tgt := 211) dX12_planIs_31 (by omega) (by omega) (by rw [hs12]; rfl) (by decide) ?_
                                  refine g_aload_n (q0 := 212) (j := 0) rfl dX12_planIs_211 rfl ?_
                                  refine g_iload_n (q0 := 213) (j := 1) rfl dX12_planIs_212 rfl ?_
                                  obtain ⟨r213, e213, h⟩ := gI_bd h
                                  refine g_callVq1 (as := [_]) (rest := []) mt_X12_withoutImage mi_X12_withoutImage se_X12_withoutImage ml_X12_461 dX12_planIs_213 (q0 := 216) rfl rfl (sh_711 hOK) rfl rfl (ok_withoutImage hOK e213) rfl ⟨by decide, by decide⟩ (Nat.le_of_ble_eq_true rfl) ⟨Nat.zero_le _, Nat.zero_le _⟩ ?_
                                  rw [← Option.some.inj h]
                                  refine g_ireturn dX12_planIs_216 rfl ⟨Nat.zero_le _, Nat.zero_le _⟩ ?_
                                  exact ⟨rfl, rfl, rfl⟩
                                · replace h := gI_neg hs12 h
                                  by_cases hs13 : a2 = 13
                                  · replace h := gI_pos hs13 h
                                    refine g_tabIn (off := 186) (tgt := 217) dX12_planIs_31 (by omega) (by omega) (by rw [hs13]; rfl) (by decide) ?_
                                    refine g_aload_n (q0 := 218) (j := 0) rfl dX12_planIs_217 rfl ?_
                                    refine g_iload_n (q0 := 219) (j := 1) rfl dX12_planIs_218 rfl ?_
                                    refine g_bipush (q0 := 221) rfl dX12_planIs_219 (k := ?_)
                                    obtain ⟨r221, e221, h⟩ := gI_bd h
                                    refine g_callVq1 (as := [_, _]) (rest := []) mt_X12_ofPlan mi_X12_ofPlan se_X12_ofPlan ml_X12_452 dX12_planIs_221 (q0 := 224) rfl rfl (sh_711 hOK) rfl rfl (ok_ofPlan hOK e221) rfl ⟨by decide, by decide⟩ (Nat.le_of_ble_eq_true rfl) ⟨Nat.zero_le _, Nat.zero_le _⟩ ?_
                                    rw [← Option.some.inj h]
                                    refine g_ireturn dX12_planIs_224 rfl ⟨Nat.zero_le _, Nat.zero_le _⟩ ?_
                                    exact ⟨rfl, rfl, rfl⟩
                                  · replace h := gI_neg hs13 h
                                    by_cases hs14 : a2 = 14
                                    · replace h := gI_pos hs14 h
                                      refine g_tabIn (off := 194) (tgt := 225) dX12_planIs_31 (by omega) (by omega) (by rw [hs14]; rfl) (by decide) ?_
                                      refine g_aload_n (q0 := 226) (j := 0) rfl dX12_planIs_225 rfl ?_
                                      refine g_iload_n (q0 := 227) (j := 1) rfl dX12_planIs_226 rfl ?_
                                      refine g_bipush (q0 := 229) rfl dX12_planIs_227 (k := ?_)
                                      obtain ⟨r229, e229, h⟩ := gI_bd h
                                      refine g_callVq1 (as := [_, _]) (rest := []) mt_X12_ofPlan mi_X12_ofPlan se_X12_ofPlan ml_X12_452 dX12_planIs_229 (q0 := 232) rfl rfl (sh_711 hOK) rfl rfl (ok_ofPlan hOK e229) rfl ⟨by decide, by decide⟩ (Nat.le_of_ble_eq_true rfl) ⟨Nat.zero_le _, Nat.zero_le _⟩ ?_
                                      rw [← Option.some.inj h]
                                      refine g_ireturn dX12_planIs_232 rfl ⟨Nat.zero_le _, Nat.zero_le _⟩ ?_
                                      exact ⟨rfl, rfl, rfl⟩
                                    · replace h := gI_neg hs14 h
                                      by_cases hs15 : a2 = 15
                                      · replace h := gI_pos hs15 h
                                        refine g_tabIn (off := 202) (tgt := 233) dX12_planIs_31 (by omega) (by omega) (by rw [hs15]; rfl) (by decide) ?_
                                        refine g_aload_n (q0 := 234) (j := 0) rfl dX12_planIs_233 rfl ?_
                                        refine g_iload_n (q0 := 235) (j := 1) rfl dX12_planIs_234 rfl ?_
                                        refine g_bipush (q0 := 237) rfl dX12_planIs_235 (k := ?_)
                                        obtain ⟨r237, e237, h⟩ := gI_bd h
                                        refine g_callVq1 (as := [_, _]) (rest := []) mt_X12_ofPlan mi_X12_ofPlan se_X12_ofPlan ml_X12_452 dX12_planIs_237 (q0 := 240) rfl rfl (sh_711 hOK) rfl rfl (ok_ofPlan hOK e237) rfl ⟨by decide, by decide⟩ (Nat.le_of_ble_eq_true rfl) ⟨Nat.zero_le _, Nat.zero_le _⟩ ?_
                                        rw [← Option.some.inj h]
                                        refine g_ireturn dX12_planIs_240 rfl ⟨Nat.zero_le _, Nat.zero_le _⟩ ?_
                                        exact ⟨rfl, rfl, rfl⟩
                                      · replace h := gI_neg hs15 h
                                        by_cases hs16 : a2 = 16
                                        · replace h := gI_pos hs16 h
                                          refine g_tabIn (off := 210) (tgt := 241) dX12_planIs_31 (by omega) (by omega) (by rw [hs16]; rfl) (by decide) ?_
                                          refine g_aload_n (q0 := 242) (j := 0) rfl dX12_planIs_241 rfl ?_
                                          refine g_iload_n (q0 := 243) (j := 1) rfl dX12_planIs_242 rfl ?_
                                          refine g_bipush (q0 := 245) rfl dX12_planIs_243 (k := ?_)
                                          obtain ⟨r245, e245, h⟩ := gI_bd h
                                          refine g_callVq1 (as := [_, _]) (rest := []) mt_X12_ofPlan mi_X12_ofPlan se_X12_ofPlan ml_X12_452 dX12_planIs_245 (q0 := 248) rfl rfl (sh_711 hOK) rfl rfl (ok_ofPlan hOK e245) rfl ⟨by decide, by decide⟩ (Nat.le_of_ble_eq_true rfl) ⟨Nat.zero_le _, Nat.zero_le _⟩ ?_
                                          rw [← Option.some.inj h]
                                          refine g_ireturn dX12_planIs_248 rfl ⟨Nat.zero_le _, Nat.zero_le _⟩ ?_
                                          exact ⟨rfl, rfl, rfl⟩
                                        · replace h := gI_neg hs16 h
                                          by_cases hs17 : a2 = 17
                                          · replace h := gI_pos hs17 h
                                            refine g_tabIn (off := 218) (tgt := 249) dX12_planIs_31 (by omega) (by omega) (by rw [hs17]; rfl) (by decide) ?_
                                            refine g_aload_n (q0 := 250) (j := 0) rfl dX12_planIs_249 rfl ?_
                                            refine g_iload_n (q0 := 251) (j := 1) rfl dX12_planIs_250 rfl ?_
                                            refine g_iconst (q0 := 252) rfl dX12_planIs_251 (k := ?_)
                                            obtain ⟨r252, e252, h⟩ := gI_bd h
                                            refine g_callVq1 (as := [_, _]) (rest := []) mt_X12_manyOf mi_X12_manyOf se_X12_manyOf ml_X12_455 dX12_planIs_252 (q0 := 255) rfl rfl (sh_711 hOK) rfl rfl (ok_manyOf hOK e252) rfl ⟨by decide, by decide⟩ (Nat.le_of_ble_eq_true rfl) ⟨Nat.zero_le _, Nat.zero_le _⟩ ?_
                                            rw [← Option.some.inj h]
                                            refine g_ireturn dX12_planIs_255 rfl ⟨Nat.zero_le _, Nat.zero_le _⟩ ?_
                                            exact ⟨rfl, rfl, rfl⟩
                                          · replace h := gI_neg hs17 h
                                            by_cases hs18 : a2 = 18
                                            · replace h := gI_pos hs18 h
                                              refine g_tabIn (off := 225) (tgt := 256) dX12_planIs_31 (by omega) (by omega) (by rw [hs18]; rfl) (by decide) ?_
                                              refine g_aload_n (q0 := 257) (j := 0) rfl dX12_planIs_256 rfl ?_
                                              refine g_iload_n (q0 := 258) (j := 1) rfl dX12_planIs_257 rfl ?_
                                              refine g_iconst (q0 := 259) rfl dX12_planIs_258 (k := ?_)
                                              obtain ⟨r259, e259, h⟩ := gI_bd h
                                              refine g_callVq1 (as := [_, _]) (rest := []) mt_X12_manyOf mi_X12_manyOf se_X12_manyOf ml_X12_455 dX12_planIs_259 (q0 := 262) rfl rfl (sh_711 hOK) rfl rfl (ok_manyOf hOK e259) rfl ⟨by decide, by decide⟩ (Nat.le_of_ble_eq_true rfl) ⟨Nat.zero_le _, Nat.zero_le _⟩ ?_
                                              rw [← Option.some.inj h]
                                              refine g_ireturn dX12_planIs_262 rfl ⟨Nat.zero_le _, Nat.zero_le _⟩ ?_
                                              exact ⟨rfl, rfl, rfl⟩
                                            · replace h := gI_neg hs18 h
                                              by_cases hs19 : a2 = 19
                                              · replace h := gI_pos hs19 h
                                                refine g_tabIn (off := 232) (tgt := 263) dX12_planIs_31 (by omega) (by omega) (by rw [hs19]; rfl) (by decide) ?_
                                                refine g_aload_n (q0 := 264) (j := 0) rfl dX12_planIs_263 rfl ?_
                                                refine g_iload_n (q0 := 265) (j := 1) rfl dX12_planIs_264 rfl ?_
                                                refine g_bipush (q0 := 267) rfl dX12_planIs_265 (k := ?_)
                                                obtain ⟨r267, e267, h⟩ := gI_bd h
                                                refine g_callVq1 (as := [_, _]) (rest := []) mt_X12_manyOf mi_X12_manyOf se_X12_manyOf ml_X12_455 dX12_planIs_267 (q0 := 270) rfl rfl (sh_711 hOK) rfl rfl (ok_manyOf hOK e267) rfl ⟨by decide, by decide⟩ (Nat.le_of_ble_eq_true rfl) ⟨Nat.zero_le _, Nat.zero_le _⟩ ?_
                                                rw [← Option.some.inj h]
                                                refine g_ireturn dX12_planIs_270 rfl ⟨Nat.zero_le _, Nat.zero_le _⟩ ?_
                                                exact ⟨rfl, rfl, rfl⟩
                                              · replace h := gI_neg hs19 h
                                                refine g_tabOut (tgt := 271) dX12_planIs_31 (by omega) (by decide) ?_
                                                refine g_aload_n (q0 := 272) (j := 0) rfl dX12_planIs_271 rfl ?_
                                                refine g_iload_n (q0 := 273) (j := 1) rfl dX12_planIs_272 rfl ?_
                                                refine g_bipush (q0 := 275) rfl dX12_planIs_273 (k := ?_)
                                                obtain ⟨r275, e275, h⟩ := gI_bd h
                                                refine g_callVq1 (as := [_, _]) (rest := []) mt_X12_ofPlan mi_X12_ofPlan se_X12_ofPlan ml_X12_452 dX12_planIs_275 (q0 := 278) rfl rfl (sh_711 hOK) rfl rfl (ok_ofPlan hOK e275) rfl ⟨by decide, by decide⟩ (Nat.le_of_ble_eq_true rfl) ⟨Nat.zero_le _, Nat.zero_le _⟩ ?_
                                                rw [← Option.some.inj h]
                                                refine g_ireturn dX12_planIs_278 rfl ⟨Nat.zero_le _, Nat.zero_le _⟩ ?_
                                                exact ⟨rfl, rfl, rfl⟩
      · replace h := gI_pos h24 h
        refine g_bipush (q0 := 29) rfl dX12_planIs_27 (k := ?_)
        rw [← Option.some.inj h]
        refine g_ireturn dX12_planIs_29 rfl ⟨Nat.zero_le _, Nat.zero_le _⟩ ?_
        exact ⟨rfl, rfl, rfl⟩
    · replace h := gI_pos h14 h
      refine g_iconst (q0 := 18) rfl dX12_planIs_17 (k := ?_)
      rw [← Option.some.inj h]
      refine g_ireturn dX12_planIs_18 rfl ⟨Nat.zero_le _, Nat.zero_le _⟩ ?_
      exact ⟨rfl, rfl, rfl⟩
-- ==== graftOf
theorem dX12_graftOf_0 : decode cX12_graftOf 0 = .ok (.iconst 0, 1) := by decide +kernel
theorem dX12_graftOf_1 : decode cX12_graftOf 1 = .ok (.istore_n 3, 1) := by decide +kernel
theorem dX12_graftOf_2 : decode cX12_graftOf 2 = .ok (.iload_n 3, 1) := by decide +kernel
theorem dX12_graftOf_3 : decode cX12_graftOf 3 = .ok (.aload_n 0, 1) := by decide +kernel
theorem dX12_graftOf_4 : decode cX12_graftOf 4 = .ok (.iload_n 1, 1) := by decide +kernel
theorem dX12_graftOf_5 : decode cX12_graftOf 5 = .ok (.bipush 6, 2) := by decide +kernel
theorem dX12_graftOf_7 : decode cX12_graftOf 7 = .ok (.invokevirtual 455, 3) := by decide +kernel
theorem dX12_graftOf_10 : decode cX12_graftOf 10 = .ok (.if_icmp .ge 23, 3) := by decide +kernel
theorem dX12_graftOf_13 : decode cX12_graftOf 13 = .ok (.aload_n 0, 1) := by decide +kernel
theorem dX12_graftOf_14 : decode cX12_graftOf 14 = .ok (.iload_n 1, 1) := by decide +kernel
theorem dX12_graftOf_15 : decode cX12_graftOf 15 = .ok (.bipush 6, 2) := by decide +kernel
theorem dX12_graftOf_17 : decode cX12_graftOf 17 = .ok (.iload_n 3, 1) := by decide +kernel
theorem dX12_graftOf_18 : decode cX12_graftOf 18 = .ok (.invokevirtual 464, 3) := by decide +kernel
theorem dX12_graftOf_21 : decode cX12_graftOf 21 = .ok (.iload_n 2, 1) := by decide +kernel
theorem dX12_graftOf_22 : decode cX12_graftOf 22 = .ok (.if_icmp .ne 5, 3) := by decide +kernel
theorem dX12_graftOf_25 : decode cX12_graftOf 25 = .ok (.iload_n 3, 1) := by decide +kernel
theorem dX12_graftOf_26 : decode cX12_graftOf 26 = .ok (.ireturn, 1) := by decide +kernel
theorem dX12_graftOf_27 : decode cX12_graftOf 27 = .ok (.iinc 3 1, 3) := by decide +kernel
theorem dX12_graftOf_30 : decode cX12_graftOf 30 = .ok (.goto (-28), 3) := by decide +kernel
theorem dX12_graftOf_33 : decode cX12_graftOf 33 = .ok (.iconst (-1), 1) := by decide +kernel
theorem dX12_graftOf_34 : decode cX12_graftOf 34 = .ok (.ireturn, 1) := by decide +kernel
noncomputable def st_graftOf (M : gM) : Nat × List Int → Option ((Nat × List Int) ⊕ (Int))
  | (0, [x1, x2, x3]) => (Option.bind (F_manyOf M x1 6) (fun r7 =>
      (if x3 < r7 then
        (Option.bind (F_firstOf M x1 6 x3) (fun r18 =>
          (if r18 = x2 then
            some (.inr x3)
          else
            some (.inl (0, [x1, x2, (gw32 (x3 + 1))])))))
      else
        some (.inr (-1)))))
  | _ => none
theorem sk_graftOf_2 (k : Nat × List Int → Option (Int)) (M : gM) (x1 x2 x3 : Int) : gWk k (st_graftOf M (0, [x1, x2, x3])) = (Option.bind (F_manyOf M x1 6) (fun r7 =>
    (if x3 < r7 then
      (Option.bind (F_firstOf M x1 6 x3) (fun r18 =>
        (if r18 = x2 then
          some x3
        else
          k (0, [x1, x2, (gw32 (x3 + 1))]))))
    else
      some (-1)))) := by
  simp only [st_graftOf, gWk_ite, gWk_bind, gWk_inl, gWk_inr, gWk_none]
noncomputable def F_graftOf_2 (M : gM) (x1 x2 x3 : Int) : Option (Int) := gWh (st_graftOf M) (0, [x1, x2, x3])
theorem eq_graftOf_2 (M : gM) (x1 x2 x3 : Int) : F_graftOf_2 M x1 x2 x3 = (Option.bind (F_manyOf M x1 6) (fun r7 =>
    (if x3 < r7 then
      (Option.bind (F_firstOf M x1 6 x3) (fun r18 =>
        (if r18 = x2 then
          some x3
        else
          F_graftOf_2 M x1 x2 (gw32 (x3 + 1)))))
    else
      some (-1)))) := (gWh_eq _).trans (sk_graftOf_2 _ M x1 x2 x3)
noncomputable def F_graftOf (M : gM) (a1 a2 : Int) : Option (Int) := F_graftOf_2 M a1 a2 0
theorem eq_graftOf (M : gM) (a1 a2 : Int) : F_graftOf M a1 a2 = F_graftOf_2 M a1 a2 0 := rfl
theorem okp_graftOf {sh : gS} {M : gM} : ∀ (s : Nat × List Int) (b : Int), gWh (st_graftOf M) s = some b → (∀ (x1 x2 x3 : Int), s = (0, [x1, x2, x3]) → gOK sh M → gA (gr 2 43) yX12_graftOf cX12_graftOf 4 (some (.int)) (gPq sh (some (0, b)) M) (0, 0) 2 [(4, 711), (0, x1), (0, x2), (0, x3)] [] sh M) := by
  refine gWh_ind (fun k hk s b h => ?_)
  · rintro x1 x2 x3 rfl hOK
    rw [sk_graftOf_2] at h
    refine g_iload_n (q0 := 3) (j := 3) rfl dX12_graftOf_2 rfl ?_
    refine g_aload_n (q0 := 4) (j := 0) rfl dX12_graftOf_3 rfl ?_
    refine g_iload_n (q0 := 5) (j := 1) rfl dX12_graftOf_4 rfl ?_
    refine g_bipush (q0 := 7) rfl dX12_graftOf_5 (k := ?_)
    obtain ⟨r7, e7, h⟩ := gI_bd h
    refine g_callVq1 (as := [_, _]) (rest := [_]) mt_X12_manyOf mi_X12_manyOf se_X12_manyOf ml_X12_455 dX12_graftOf_7 (q0 := 10) rfl rfl (sh_711 hOK) rfl rfl (ok_manyOf hOK e7) rfl ⟨by decide, by decide⟩ (Nat.le_of_ble_eq_true rfl) ⟨Nat.zero_le _, Nat.zero_le _⟩ ?_
    refine g_icmp_ge (q0 := 13) (tgt := 33) rfl dX12_graftOf_10 (by decide) (fun h10 => ?_) (fun h10 => ?_)
    · replace h := gI_neg (Int.not_lt.mpr h10) h
      refine g_iconst (q0 := 34) rfl dX12_graftOf_33 (k := ?_)
      rw [← Option.some.inj h]
      refine g_ireturn dX12_graftOf_34 rfl ⟨Nat.zero_le _, Nat.zero_le _⟩ ?_
      exact ⟨rfl, rfl, rfl⟩
    · replace h := gI_pos h10 h
      refine g_aload_n (q0 := 14) (j := 0) rfl dX12_graftOf_13 rfl ?_
      refine g_iload_n (q0 := 15) (j := 1) rfl dX12_graftOf_14 rfl ?_
      refine g_bipush (q0 := 17) rfl dX12_graftOf_15 (k := ?_)
      refine g_iload_n (q0 := 18) (j := 3) rfl dX12_graftOf_17 rfl ?_
      obtain ⟨r18, e18, h⟩ := gI_bd h
      refine g_callVq1 (as := [_, _, _]) (rest := []) mt_X12_firstOf mi_X12_firstOf se_X12_firstOf ml_X12_464 dX12_graftOf_18 (q0 := 21) rfl rfl (sh_711 hOK) rfl rfl (ok_firstOf hOK e18) rfl ⟨by decide, by decide⟩ (Nat.le_of_ble_eq_true rfl) ⟨Nat.zero_le _, Nat.zero_le _⟩ ?_
      refine g_iload_n (q0 := 22) (j := 2) rfl dX12_graftOf_21 rfl ?_
      refine g_icmp_ne (q0 := 25) (tgt := 27) rfl dX12_graftOf_22 (by decide) (fun h22 => ?_) (fun h22 => ?_)
      · replace h := gI_neg h22 h
        refine g_iincw (q0 := 30) (lv2 := [_, _, _, _]) rfl dX12_graftOf_27 rfl (by decide) rfl rfl ?_
        refine g_goto (tgt := 2) dX12_graftOf_30 (by decide) ?_
        exact (hk _ _ h) _ _ _ rfl hOK
      · replace h := gI_pos h22 h
        refine g_iload_n (q0 := 26) (j := 3) rfl dX12_graftOf_25 rfl ?_
        rw [← Option.some.inj h]
        refine g_ireturn dX12_graftOf_26 rfl ⟨Nat.zero_le _, Nat.zero_le _⟩ ?_
        exact ⟨rfl, rfl, rfl⟩
theorem ok_graftOf_2 {sh : gS} {M : gM} {x1 x2 x3 : Int} {b : Int} (hOK : gOK sh M) (h : F_graftOf_2 M x1 x2 x3 = some b) : gA (gr 2 43) yX12_graftOf cX12_graftOf 4 (some (.int)) (gPq sh (some (0, b)) M) (0, 0) 2 [(4, 711), (0, x1), (0, x2), (0, x3)] [] sh M :=
  (okp_graftOf _ _ h) _ _ _ rfl hOK
theorem ok_graftOf {sh : gS} {M : gM} {a1 a2 : Int} {b : Int} (hOK : gOK sh M) (h : F_graftOf M a1 a2 = some b) : gC (gr 2 43) yX12_graftOf cX12_graftOf 4 (some (.int)) [(4, 711), (0, a1), (0, a2)] sh M (gPq sh (some (0, b)) M) := by
  rw [eq_graftOf] at h
  refine gC_ofA (lv := [_, _, _, _]) (by decide +kernel) (Nat.le_of_ble_eq_true rfl) rfl (fun hMw hav => ?_)
  refine g_iconst (q0 := 1) rfl dX12_graftOf_0 (k := ?_)
  refine g_istore_n (q0 := 2) (j := 3) (lv2 := [_, _, _, _]) rfl dX12_graftOf_1 (by decide) rfl rfl ?_
  exact ok_graftOf_2 hOK h
-- ==== foreMany
theorem dX12_foreMany_0 : decode cX12_foreMany 0 = .ok (.aload_n 0, 1) := by decide +kernel
theorem dX12_foreMany_1 : decode cX12_foreMany 1 = .ok (.iload_n 1, 1) := by decide +kernel
theorem dX12_foreMany_2 : decode cX12_foreMany 2 = .ok (.iload_n 2, 1) := by decide +kernel
theorem dX12_foreMany_3 : decode cX12_foreMany 3 = .ok (.invokevirtual 467, 3) := by decide +kernel
theorem dX12_foreMany_6 : decode cX12_foreMany 6 = .ok (.istore_n 3, 1) := by decide +kernel
theorem dX12_foreMany_7 : decode cX12_foreMany 7 = .ok (.iload_n 3, 1) := by decide +kernel
theorem dX12_foreMany_8 : decode cX12_foreMany 8 = .ok (.iconst (-1), 1) := by decide +kernel
theorem dX12_foreMany_9 : decode cX12_foreMany 9 = .ok (.if_icmp .ne 12, 3) := by decide +kernel
theorem dX12_foreMany_12 : decode cX12_foreMany 12 = .ok (.aload_n 0, 1) := by decide +kernel
theorem dX12_foreMany_13 : decode cX12_foreMany 13 = .ok (.getfield 7, 3) := by decide +kernel
theorem dX12_foreMany_16 : decode cX12_foreMany 16 = .ok (.iload_n 2, 1) := by decide +kernel
theorem dX12_foreMany_17 : decode cX12_foreMany 17 = .ok (.iaload, 1) := by decide +kernel
theorem dX12_foreMany_18 : decode cX12_foreMany 18 = .ok (.goto 20, 3) := by decide +kernel
theorem dX12_foreMany_21 : decode cX12_foreMany 21 = .ok (.aload_n 0, 1) := by decide +kernel
theorem dX12_foreMany_22 : decode cX12_foreMany 22 = .ok (.iload_n 1, 1) := by decide +kernel
theorem dX12_foreMany_23 : decode cX12_foreMany 23 = .ok (.bipush 6, 2) := by decide +kernel
theorem dX12_foreMany_25 : decode cX12_foreMany 25 = .ok (.iload_n 3, 1) := by decide +kernel
theorem dX12_foreMany_26 : decode cX12_foreMany 26 = .ok (.invokevirtual 470, 3) := by decide +kernel
theorem dX12_foreMany_29 : decode cX12_foreMany 29 = .ok (.iconst (-1), 1) := by decide +kernel
theorem dX12_foreMany_30 : decode cX12_foreMany 30 = .ok (.if_icmp .ne 7, 3) := by decide +kernel
theorem dX12_foreMany_33 : decode cX12_foreMany 33 = .ok (.iconst 0, 1) := by decide +kernel
theorem dX12_foreMany_34 : decode cX12_foreMany 34 = .ok (.goto 4, 3) := by decide +kernel
theorem dX12_foreMany_37 : decode cX12_foreMany 37 = .ok (.iconst 1, 1) := by decide +kernel
theorem dX12_foreMany_38 : decode cX12_foreMany 38 = .ok (.ireturn, 1) := by decide +kernel
noncomputable def F_foreMany (M : gM) (a1 a2 : Int) : Option (Int) := (Option.bind (F_graftOf M a1 a2) (fun r3 =>
    (if r3 = -1 then
      (if 0 ≤ a2 ∧ a2 < 120 then
        some (M 712 a2)
      else none)
    else
      (Option.bind (F_secondOf M a1 6 r3) (fun r26 =>
        (if r26 = -1 then
          some 0
        else
          some 1))))))
theorem eq_foreMany (M : gM) (a1 a2 : Int) : F_foreMany M a1 a2 = (Option.bind (F_graftOf M a1 a2) (fun r3 =>
    (if r3 = -1 then
      (if 0 ≤ a2 ∧ a2 < 120 then
        some (M 712 a2)
      else none)
    else
      (Option.bind (F_secondOf M a1 6 r3) (fun r26 =>
        (if r26 = -1 then
          some 0
        else
          some 1)))))) := rfl
theorem ok_foreMany {sh : gS} {M : gM} {a1 a2 : Int} {b : Int} (hOK : gOK sh M) (h : F_foreMany M a1 a2 = some b) : gC (gr 3 66) yX12_foreMany cX12_foreMany 4 (some (.int)) [(4, 711), (0, a1), (0, a2)] sh M (gPq sh (some (0, b)) M) := by
  rw [eq_foreMany] at h
  refine gC_ofA (lv := [_, _, _, _]) (by decide +kernel) (Nat.le_of_ble_eq_true rfl) rfl (fun hMw hav => ?_)
  refine g_aload_n (q0 := 1) (j := 0) rfl dX12_foreMany_0 rfl ?_
  refine g_iload_n (q0 := 2) (j := 1) rfl dX12_foreMany_1 rfl ?_
  refine g_iload_n (q0 := 3) (j := 2) rfl dX12_foreMany_2 rfl ?_
  obtain ⟨r3, e3, h⟩ := gI_bd h
  refine g_callVq1 (as := [_, _]) (rest := []) mt_X12_graftOf mi_X12_graftOf se_X12_graftOf ml_X12_467 dX12_foreMany_3 (q0 := 6) rfl rfl (sh_711 hOK) rfl rfl (ok_graftOf hOK e3) rfl ⟨by decide, by decide⟩ (Nat.le_of_ble_eq_true rfl) ⟨Nat.zero_le _, Nat.zero_le _⟩ ?_
  refine g_istore_n (q0 := 7) (j := 3) (lv2 := [_, _, _, _]) rfl dX12_foreMany_6 (by decide) rfl rfl ?_
  refine g_iload_n (q0 := 8) (j := 3) rfl dX12_foreMany_7 rfl ?_
  refine g_iconst (q0 := 9) rfl dX12_foreMany_8 (k := ?_)
  refine g_icmp_ne (q0 := 12) (tgt := 21) rfl dX12_foreMany_9 (by decide) (fun h9 => ?_) (fun h9 => ?_)
  · replace h := gI_neg h9 h
    refine g_aload_n (q0 := 22) (j := 0) rfl dX12_foreMany_21 rfl ?_
    refine g_iload_n (q0 := 23) (j := 1) rfl dX12_foreMany_22 rfl ?_
    refine g_bipush (q0 := 25) rfl dX12_foreMany_23 (k := ?_)
    refine g_iload_n (q0 := 26) (j := 3) rfl dX12_foreMany_25 rfl ?_
    obtain ⟨r26, e26, h⟩ := gI_bd h
    refine g_callVq1 (as := [_, _, _]) (rest := []) mt_X12_secondOf mi_X12_secondOf se_X12_secondOf ml_X12_470 dX12_foreMany_26 (q0 := 29) rfl rfl (sh_711 hOK) rfl rfl (ok_secondOf hOK e26) rfl ⟨by decide, by decide⟩ (Nat.le_of_ble_eq_true rfl) ⟨Nat.zero_le _, Nat.zero_le _⟩ ?_
    refine g_iconst (q0 := 30) rfl dX12_foreMany_29 (k := ?_)
    refine g_icmp_ne (q0 := 33) (tgt := 37) rfl dX12_foreMany_30 (by decide) (fun h30 => ?_) (fun h30 => ?_)
    · replace h := gI_neg h30 h
      refine g_iconst (q0 := 38) rfl dX12_foreMany_37 (k := ?_)
      rw [← Option.some.inj h]
      refine g_ireturn dX12_foreMany_38 rfl ⟨Nat.zero_le _, Nat.zero_le _⟩ ?_
      exact ⟨rfl, rfl, rfl⟩
    · replace h := gI_pos h30 h
      refine g_iconst (q0 := 34) rfl dX12_foreMany_33 (k := ?_)
      refine g_goto (tgt := 38) dX12_foreMany_34 (by decide) ?_
      rw [← Option.some.inj h]
      refine g_ireturn dX12_foreMany_38 rfl ⟨Nat.zero_le _, Nat.zero_le _⟩ ?_
      exact ⟨rfl, rfl, rfl⟩
  · replace h := gI_pos h9 h
    refine g_aload_n (q0 := 13) (j := 0) rfl dX12_foreMany_12 rfl ?_
    refine g_getp (q0 := 16) (b := 712) rfl ff_X12_7 dX12_foreMany_13 rfl hOK (by decide) (sh_711 hOK) rfl (by decide) ?_
    refine g_iload_n (q0 := 17) (j := 2) rfl dX12_foreMany_16 rfl ?_
    obtain ⟨g1, h⟩ := gI_gd h
    refine g_iald (q0 := 18) rfl dX12_foreMany_17 (sh_712 hOK) g1.1 g1.2 ?_
    refine g_goto (tgt := 38) dX12_foreMany_18 (by decide) ?_
    rw [← Option.some.inj h]
    refine g_ireturn dX12_foreMany_38 rfl ⟨Nat.zero_le _, Nat.zero_le _⟩ ?_
    exact ⟨rfl, rfl, rfl⟩
-- ==== foreAt
theorem dX12_foreAt_0 : decode cX12_foreAt 0 = .ok (.aload_n 0, 1) := by decide +kernel
theorem dX12_foreAt_1 : decode cX12_foreAt 1 = .ok (.iload_n 1, 1) := by decide +kernel
theorem dX12_foreAt_2 : decode cX12_foreAt 2 = .ok (.iload_n 2, 1) := by decide +kernel
theorem dX12_foreAt_3 : decode cX12_foreAt 3 = .ok (.invokevirtual 467, 3) := by decide +kernel
theorem dX12_foreAt_6 : decode cX12_foreAt 6 = .ok (.istore 4, 2) := by decide +kernel
theorem dX12_foreAt_8 : decode cX12_foreAt 8 = .ok (.iload 4, 2) := by decide +kernel
theorem dX12_foreAt_10 : decode cX12_foreAt 10 = .ok (.iconst (-1), 1) := by decide +kernel
theorem dX12_foreAt_11 : decode cX12_foreAt 11 = .ok (.if_icmp .ne 12, 3) := by decide +kernel
theorem dX12_foreAt_14 : decode cX12_foreAt 14 = .ok (.aload_n 0, 1) := by decide +kernel
theorem dX12_foreAt_15 : decode cX12_foreAt 15 = .ok (.iload_n 2, 1) := by decide +kernel
theorem dX12_foreAt_16 : decode cX12_foreAt 16 = .ok (.iload_n 3, 1) := by decide +kernel
theorem dX12_foreAt_17 : decode cX12_foreAt 17 = .ok (.invokevirtual 192, 3) := by decide +kernel
theorem dX12_foreAt_20 : decode cX12_foreAt 20 = .ok (.goto 12, 3) := by decide +kernel
theorem dX12_foreAt_23 : decode cX12_foreAt 23 = .ok (.aload_n 0, 1) := by decide +kernel
theorem dX12_foreAt_24 : decode cX12_foreAt 24 = .ok (.iload_n 1, 1) := by decide +kernel
theorem dX12_foreAt_25 : decode cX12_foreAt 25 = .ok (.bipush 6, 2) := by decide +kernel
theorem dX12_foreAt_27 : decode cX12_foreAt 27 = .ok (.iload 4, 2) := by decide +kernel
theorem dX12_foreAt_29 : decode cX12_foreAt 29 = .ok (.invokevirtual 470, 3) := by decide +kernel
theorem dX12_foreAt_32 : decode cX12_foreAt 32 = .ok (.ireturn, 1) := by decide +kernel
noncomputable def F_foreAt (M : gM) (a1 a2 a3 : Int) : Option (Int) := (Option.bind (F_graftOf M a1 a2) (fun r3 =>
    (if r3 = -1 then
      (Option.bind (F_parentAt M a2 a3) (fun r17 =>
        some r17))
    else
      (Option.bind (F_secondOf M a1 6 r3) (fun r29 =>
        some r29)))))
theorem eq_foreAt (M : gM) (a1 a2 a3 : Int) : F_foreAt M a1 a2 a3 = (Option.bind (F_graftOf M a1 a2) (fun r3 =>
    (if r3 = -1 then
      (Option.bind (F_parentAt M a2 a3) (fun r17 =>
        some r17))
    else
      (Option.bind (F_secondOf M a1 6 r3) (fun r29 =>
        some r29))))) := rfl
theorem ok_foreAt {sh : gS} {M : gM} {a1 a2 a3 : Int} {b : Int} (hOK : gOK sh M) (h : F_foreAt M a1 a2 a3 = some b) : gC (gr 3 66) yX12_foreAt cX12_foreAt 5 (some (.int)) [(4, 711), (0, a1), (0, a2), (0, a3)] sh M (gPq sh (some (0, b)) M) := by
  rw [eq_foreAt] at h
  refine gC_ofA (lv := [_, _, _, _, _]) (by decide +kernel) (Nat.le_of_ble_eq_true rfl) rfl (fun hMw hav => ?_)
  refine g_aload_n (q0 := 1) (j := 0) rfl dX12_foreAt_0 rfl ?_
  refine g_iload_n (q0 := 2) (j := 1) rfl dX12_foreAt_1 rfl ?_
  refine g_iload_n (q0 := 3) (j := 2) rfl dX12_foreAt_2 rfl ?_
  obtain ⟨r3, e3, h⟩ := gI_bd h
  refine g_callVq1 (as := [_, _]) (rest := []) mt_X12_graftOf mi_X12_graftOf se_X12_graftOf ml_X12_467 dX12_foreAt_3 (q0 := 6) rfl rfl (sh_711 hOK) rfl rfl (ok_graftOf hOK e3) rfl ⟨by decide, by decide⟩ (Nat.le_of_ble_eq_true rfl) ⟨Nat.zero_le _, Nat.zero_le _⟩ ?_
  refine g_istore (q0 := 8) (j := 4) (lv2 := [_, _, _, _, _]) rfl dX12_foreAt_6 (by decide) rfl rfl ?_
  refine g_iload (q0 := 10) (j := 4) rfl dX12_foreAt_8 rfl ?_
  refine g_iconst (q0 := 11) rfl dX12_foreAt_10 (k := ?_)
  refine g_icmp_ne (q0 := 14) (tgt := 23) rfl dX12_foreAt_11 (by decide) (fun h11 => ?_) (fun h11 => ?_)
  · replace h := gI_neg h11 h
    refine g_aload_n (q0 := 24) (j := 0) rfl dX12_foreAt_23 rfl ?_
    refine g_iload_n (q0 := 25) (j := 1) rfl dX12_foreAt_24 rfl ?_
    refine g_bipush (q0 := 27) rfl dX12_foreAt_25 (k := ?_)
    refine g_iload (q0 := 29) (j := 4) rfl dX12_foreAt_27 rfl ?_
    obtain ⟨r29, e29, h⟩ := gI_bd h
    refine g_callVq1 (as := [_, _, _]) (rest := []) mt_X12_secondOf mi_X12_secondOf se_X12_secondOf ml_X12_470 dX12_foreAt_29 (q0 := 32) rfl rfl (sh_711 hOK) rfl rfl (ok_secondOf hOK e29) rfl ⟨by decide, by decide⟩ (Nat.le_of_ble_eq_true rfl) ⟨Nat.zero_le _, Nat.zero_le _⟩ ?_
    rw [← Option.some.inj h]
    refine g_ireturn dX12_foreAt_32 rfl ⟨Nat.zero_le _, Nat.zero_le _⟩ ?_
    exact ⟨rfl, rfl, rfl⟩
  · replace h := gI_pos h11 h
    refine g_aload_n (q0 := 15) (j := 0) rfl dX12_foreAt_14 rfl ?_
    refine g_iload_n (q0 := 16) (j := 2) rfl dX12_foreAt_15 rfl ?_
    refine g_iload_n (q0 := 17) (j := 3) rfl dX12_foreAt_16 rfl ?_
    obtain ⟨r17, e17, h⟩ := gI_bd h
    refine g_callVq1 (as := [_, _]) (rest := []) mt_X12_parentAt mi_X12_parentAt se_X12_parentAt ml_X12_192 dX12_foreAt_17 (q0 := 20) rfl rfl (sh_711 hOK) rfl rfl (ok_parentAt hOK e17) rfl ⟨by decide, by decide⟩ (Nat.le_of_ble_eq_true rfl) ⟨Nat.zero_le _, Nat.zero_le _⟩ ?_
    refine g_goto (tgt := 32) dX12_foreAt_20 (by decide) ?_
    rw [← Option.some.inj h]
    refine g_ireturn dX12_foreAt_32 rfl ⟨Nat.zero_le _, Nat.zero_le _⟩ ?_
    exact ⟨rfl, rfl, rfl⟩
-- ==== walksFore
theorem dX12_walksFore_0 : decode cX12_walksFore 0 = .ok (.aload_n 0, 1) := by decide +kernel
theorem dX12_walksFore_1 : decode cX12_walksFore 1 = .ok (.getfield 178, 3) := by decide +kernel
theorem dX12_walksFore_4 : decode cX12_walksFore 4 = .ok (.iconst 1, 1) := by decide +kernel
theorem dX12_walksFore_5 : decode cX12_walksFore 5 = .ok (.isub, 1) := by decide +kernel
theorem dX12_walksFore_6 : decode cX12_walksFore 6 = .ok (.istore_n 3, 1) := by decide +kernel
theorem dX12_walksFore_7 : decode cX12_walksFore 7 = .ok (.iload_n 3, 1) := by decide +kernel
theorem dX12_walksFore_8 : decode cX12_walksFore 8 = .ok (.ifCond .lt 54, 3) := by decide +kernel
theorem dX12_walksFore_11 : decode cX12_walksFore 11 = .ok (.aload_n 2, 1) := by decide +kernel
theorem dX12_walksFore_12 : decode cX12_walksFore 12 = .ok (.iload_n 3, 1) := by decide +kernel
theorem dX12_walksFore_13 : decode cX12_walksFore 13 = .ok (.baload, 1) := by decide +kernel
theorem dX12_walksFore_14 : decode cX12_walksFore 14 = .ok (.ifCond .eq 12, 3) := by decide +kernel
theorem dX12_walksFore_17 : decode cX12_walksFore 17 = .ok (.aload_n 0, 1) := by decide +kernel
theorem dX12_walksFore_18 : decode cX12_walksFore 18 = .ok (.iload_n 1, 1) := by decide +kernel
theorem dX12_walksFore_19 : decode cX12_walksFore 19 = .ok (.iload_n 3, 1) := by decide +kernel
theorem dX12_walksFore_20 : decode cX12_walksFore 20 = .ok (.invokevirtual 473, 3) := by decide +kernel
theorem dX12_walksFore_23 : decode cX12_walksFore 23 = .ok (.goto 4, 3) := by decide +kernel
theorem dX12_walksFore_26 : decode cX12_walksFore 26 = .ok (.iconst 0, 1) := by decide +kernel
theorem dX12_walksFore_27 : decode cX12_walksFore 27 = .ok (.istore 4, 2) := by decide +kernel
theorem dX12_walksFore_29 : decode cX12_walksFore 29 = .ok (.iconst 0, 1) := by decide +kernel
theorem dX12_walksFore_30 : decode cX12_walksFore 30 = .ok (.istore 5, 2) := by decide +kernel
theorem dX12_walksFore_32 : decode cX12_walksFore 32 = .ok (.iload 5, 2) := by decide +kernel
theorem dX12_walksFore_34 : decode cX12_walksFore 34 = .ok (.iload 4, 2) := by decide +kernel
theorem dX12_walksFore_36 : decode cX12_walksFore 36 = .ok (.if_icmp .ge 20, 3) := by decide +kernel
theorem dX12_walksFore_39 : decode cX12_walksFore 39 = .ok (.aload_n 2, 1) := by decide +kernel
theorem dX12_walksFore_40 : decode cX12_walksFore 40 = .ok (.aload_n 0, 1) := by decide +kernel
theorem dX12_walksFore_41 : decode cX12_walksFore 41 = .ok (.iload_n 1, 1) := by decide +kernel
theorem dX12_walksFore_42 : decode cX12_walksFore 42 = .ok (.iload_n 3, 1) := by decide +kernel
theorem dX12_walksFore_43 : decode cX12_walksFore 43 = .ok (.iload 5, 2) := by decide +kernel
theorem dX12_walksFore_45 : decode cX12_walksFore 45 = .ok (.invokevirtual 476, 3) := by decide +kernel
theorem dX12_walksFore_48 : decode cX12_walksFore 48 = .ok (.iconst 1, 1) := by decide +kernel
theorem dX12_walksFore_49 : decode cX12_walksFore 49 = .ok (.bastore, 1) := by decide +kernel
theorem dX12_walksFore_50 : decode cX12_walksFore 50 = .ok (.iinc 5 1, 3) := by decide +kernel
theorem dX12_walksFore_53 : decode cX12_walksFore 53 = .ok (.goto (-21), 3) := by decide +kernel
theorem dX12_walksFore_56 : decode cX12_walksFore 56 = .ok (.iinc 3 (-1), 3) := by decide +kernel
theorem dX12_walksFore_59 : decode cX12_walksFore 59 = .ok (.goto (-52), 3) := by decide +kernel
theorem dX12_walksFore_62 : decode cX12_walksFore 62 = .ok (.return_, 1) := by decide +kernel
noncomputable def st_walksFore : Nat × List Int × gM → Option ((Nat × List Int × gM) ⊕ (gM))
  | (0, [x1, a2, x3], M) => (if gRw a2 then
      (if x3 < 0 then
        some (.inr M)
      else
        (if 0 ≤ x3 ∧ x3 < 120 then
          (if (M a2 x3) = 0 then
            some (.inl (1, [x1, a2, x3, 0, 0], M))
          else
            (Option.bind (F_foreMany M x1 x3) (fun r20 =>
              some (.inl (1, [x1, a2, x3, r20, 0], M)))))
        else none))
    else none)
  | (1, [x1, a2, x3, x4, x5], M) => (if gRw a2 then
      (if x5 < x4 then
        (Option.bind (F_foreAt M x1 x3 x5) (fun r45 =>
          (if 0 ≤ r45 ∧ r45 < 120 then
            some (.inl (1, [x1, a2, x3, x4, (gw32 (x5 + 1))], (gU M a2 r45 1)))
          else none)))
      else
        some (.inl (0, [x1, a2, (gw32 (x3 + (-1)))], M)))
    else none)
  | _ => none
theorem sk_walksFore_7 (k : Nat × List Int × gM → Option (gM)) (M : gM) (x1 a2 x3 : Int) : gWk k (st_walksFore (0, [x1, a2, x3], M)) = (if gRw a2 then
    (if x3 < 0 then
      some M
    else
      (if 0 ≤ x3 ∧ x3 < 120 then
        (if (M a2 x3) = 0 then
          k (1, [x1, a2, x3, 0, 0], M)
        else
          (Option.bind (F_foreMany M x1 x3) (fun r20 =>
            k (1, [x1, a2, x3, r20, 0], M))))
      else none))
  else none) := by
  simp only [st_walksFore, gWk_ite, gWk_bind, gWk_inl, gWk_inr, gWk_none]
theorem sk_walksFore_32 (k : Nat × List Int × gM → Option (gM)) (M : gM) (x1 a2 x3 x4 x5 : Int) : gWk k (st_walksFore (1, [x1, a2, x3, x4, x5], M)) = (if gRw a2 then
    (if x5 < x4 then
      (Option.bind (F_foreAt M x1 x3 x5) (fun r45 =>
        (if 0 ≤ r45 ∧ r45 < 120 then
          k (1, [x1, a2, x3, x4, (gw32 (x5 + 1))], (gU M a2 r45 1))
        else none)))
    else
      k (0, [x1, a2, (gw32 (x3 + (-1)))], M))
  else none) := by
  simp only [st_walksFore, gWk_ite, gWk_bind, gWk_inl, gWk_inr, gWk_none]
noncomputable def F_walksFore_7 (M : gM) (x1 a2 x3 : Int) : Option (gM) := gWh (st_walksFore) (0, [x1, a2, x3], M)
noncomputable def F_walksFore_32 (M : gM) (x1 a2 x3 x4 x5 : Int) : Option (gM) := gWh (st_walksFore) (1, [x1, a2, x3, x4, x5], M)
theorem eq_walksFore_7 (M : gM) (x1 a2 x3 : Int) : F_walksFore_7 M x1 a2 x3 = (if gRw a2 then
    (if x3 < 0 then
      some M
    else
      (if 0 ≤ x3 ∧ x3 < 120 then
        (if (M a2 x3) = 0 then
          F_walksFore_32 M x1 a2 x3 0 0
        else
          (Option.bind (F_foreMany M x1 x3) (fun r20 =>
            F_walksFore_32 M x1 a2 x3 r20 0)))
      else none))
  else none) := (gWh_eq _).trans (sk_walksFore_7 _ M x1 a2 x3)
theorem eq_walksFore_32 (M : gM) (x1 a2 x3 x4 x5 : Int) : F_walksFore_32 M x1 a2 x3 x4 x5 = (if gRw a2 then
    (if x5 < x4 then
      (Option.bind (F_foreAt M x1 x3 x5) (fun r45 =>
        (if 0 ≤ r45 ∧ r45 < 120 then
          F_walksFore_32 (gU M a2 r45 1) x1 a2 x3 x4 (gw32 (x5 + 1))
        else none)))
    else
      F_walksFore_7 M x1 a2 (gw32 (x3 + (-1))))
  else none) := (gWh_eq _).trans (sk_walksFore_32 _ M x1 a2 x3 x4 x5)
noncomputable def F_walksFore (M : gM) (a1 a2 : Int) : Option (gM) := (if gRw a2 then
    F_walksFore_7 M a1 a2 (gw32 ((M 711 0) - (1 : Int)))
  else none)
theorem eq_walksFore (M : gM) (a1 a2 : Int) : F_walksFore M a1 a2 = (if gRw a2 then
    F_walksFore_7 M a1 a2 (gw32 ((M 711 0) - (1 : Int)))
  else none) := rfl
theorem frp_walksFore : ∀ (s : Nat × List Int × gM) (b : gM), gWh (st_walksFore) s = some b → (∀ (x1 a2 x3 : Int) (M : gM), s = (0, [x1, a2, x3], M) → gFr [a2] [] M b) ∧ (∀ (x1 a2 x3 x4 x5 : Int) (M : gM), s = (1, [x1, a2, x3, x4, x5], M) → gFr [a2] [] M b) := by
  refine gWh_ind (fun k hk s b h => ⟨?_, ?_⟩)
  · rintro x1 a2 x3 M rfl
    rw [sk_walksFore_7] at h
    obtain ⟨gr_a2, h⟩ := gI_gd h
    rcases gI_or h with h | h
    · rw [← Option.some.inj h]
      exact (gFr_r [a2] [] _ (by simp; omega))
    · obtain ⟨g1, h⟩ := gI_gd h
      rcases gI_or h with h | h
      · exact gFr_t (gFr_r [a2] [] _ (by simp; omega)) ((hk _ _ h).2 _ _ _ _ _ _ rfl) (fun _ z => z) (fun _ z => z)
      · obtain ⟨r20, e20, h⟩ := gI_bd h
        exact gFr_t (gFr_r [a2] [] _ (by simp; omega)) ((hk _ _ h).2 _ _ _ _ _ _ rfl) (fun _ z => z) (fun _ z => z)
  · rintro x1 a2 x3 x4 x5 M rfl
    rw [sk_walksFore_32] at h
    obtain ⟨gr_a2, h⟩ := gI_gd h
    rcases gI_or h with h | h
    · obtain ⟨r45, e45, h⟩ := gI_bd h
      obtain ⟨g2, h⟩ := gI_gd h
      exact gFr_t (gFr_a (gFr_r [a2] [] _ (by simp; omega)) (.head _) (by omega)) ((hk _ _ h).2 _ _ _ _ _ _ rfl) (fun _ z => z) (fun _ z => z)
    · exact gFr_t (gFr_r [a2] [] _ (by simp; omega)) ((hk _ _ h).1 _ _ _ _ rfl) (fun _ z => z) (fun _ z => z)
theorem fr_walksFore_7 {M : gM} {x1 a2 x3 : Int} {b : gM} (h : F_walksFore_7 M x1 a2 x3 = some b) : gFr [a2] [] M b :=
  (frp_walksFore _ _ h).1 _ _ _ _ rfl
theorem fr_walksFore_32 {M : gM} {x1 a2 x3 x4 x5 : Int} {b : gM} (h : F_walksFore_32 M x1 a2 x3 x4 x5 = some b) : gFr [a2] [] M b :=
  (frp_walksFore _ _ h).2 _ _ _ _ _ _ rfl
theorem fr_walksFore {M : gM} {a1 a2 : Int} {b : gM} (h : F_walksFore M a1 a2 = some b) : gFr [a2] [] M b := by
  rw [eq_walksFore] at h
  obtain ⟨gr_a2, h⟩ := gI_gd h
  exact gFr_t (gFr_r [a2] [] _ (by simp; omega)) (fr_walksFore_7 h) (fun _ z => z) (fun _ z => z)
theorem okp_walksFore {sh : gS} : ∀ (s : Nat × List Int × gM) (b : gM), gWh (st_walksFore) s = some b → (∀ (x1 a2 x3 : Int) (M : gM), s = (0, [x1, a2, x3], M) → gOK sh M → gA (gr 4 90) yX12_walksFore cX12_walksFore 6 none (gPq sh none b) (0, 0) 7 [(4, 711), (0, x1), (4, a2), (0, x3), (9, 0), (9, 0)] [] sh M) ∧ (∀ (x1 a2 x3 x4 x5 : Int) (M : gM), s = (1, [x1, a2, x3, x4, x5], M) → gOK sh M → gA (gr 4 90) yX12_walksFore cX12_walksFore 6 none (gPq sh none b) (0, 0) 32 [(4, 711), (0, x1), (4, a2), (0, x3), (0, x4), (0, x5)] [] sh M) := by
  refine gWh_ind (fun k hk s b h => ⟨?_, ?_⟩)
  · rintro x1 a2 x3 M rfl hOK
    rw [sk_walksFore_7] at h
    obtain ⟨gr_a2, h⟩ := gI_gd h
    refine g_iload_n (q0 := 8) (j := 3) rfl dX12_walksFore_7 rfl ?_
    refine g_if_lt (q0 := 11) (tgt := 62) rfl dX12_walksFore_8 (by decide) (fun h8 => ?_) (fun h8 => ?_)
    · replace h := gI_pos h8 h
      rw [← Option.some.inj h]
      refine g_return dX12_walksFore_62 rfl ⟨Nat.zero_le _, Nat.zero_le _⟩ ?_
      exact ⟨rfl, rfl, rfl⟩
    · replace h := gI_neg (Int.not_lt.mpr h8) h
      refine g_aload_n (q0 := 12) (j := 2) rfl dX12_walksFore_11 rfl ?_
      refine g_iload_n (q0 := 13) (j := 3) rfl dX12_walksFore_12 rfl ?_
      obtain ⟨g1, h⟩ := gI_gd h
      refine g_zald (q0 := 14) rfl dX12_walksFore_13 (gRw_sh hOK gr_a2) g1.1 g1.2 ?_
      refine g_if_eq (q0 := 17) (tgt := 26) rfl dX12_walksFore_14 (by decide) (fun h14 => ?_) (fun h14 => ?_)
      · replace h := gI_pos h14 h
        refine g_iconst (q0 := 27) rfl dX12_walksFore_26 (k := ?_)
        refine g_istore (q0 := 29) (j := 4) (lv2 := [_, _, _, _, _, _]) rfl dX12_walksFore_27 (by decide) rfl rfl ?_
        refine g_iconst (q0 := 30) rfl dX12_walksFore_29 (k := ?_)
        refine g_istore (q0 := 32) (j := 5) (lv2 := [_, _, _, _, _, _]) rfl dX12_walksFore_30 (by decide) rfl rfl ?_
        exact (hk _ _ h).2 _ _ _ _ _ _ rfl hOK
      · replace h := gI_neg h14 h
        refine g_aload_n (q0 := 18) (j := 0) rfl dX12_walksFore_17 rfl ?_
        refine g_iload_n (q0 := 19) (j := 1) rfl dX12_walksFore_18 rfl ?_
        refine g_iload_n (q0 := 20) (j := 3) rfl dX12_walksFore_19 rfl ?_
        obtain ⟨r20, e20, h⟩ := gI_bd h
        refine g_callVq1 (as := [_, _]) (rest := []) mt_X12_foreMany mi_X12_foreMany se_X12_foreMany ml_X12_473 dX12_walksFore_20 (q0 := 23) rfl rfl (sh_711 hOK) rfl rfl (ok_foreMany hOK e20) rfl ⟨by decide, by decide⟩ (Nat.le_of_ble_eq_true rfl) ⟨Nat.zero_le _, Nat.zero_le _⟩ ?_
        refine g_goto (tgt := 27) dX12_walksFore_23 (by decide) ?_
        refine g_istore (q0 := 29) (j := 4) (lv2 := [_, _, _, _, _, _]) rfl dX12_walksFore_27 (by decide) rfl rfl ?_
        refine g_iconst (q0 := 30) rfl dX12_walksFore_29 (k := ?_)
        refine g_istore (q0 := 32) (j := 5) (lv2 := [_, _, _, _, _, _]) rfl dX12_walksFore_30 (by decide) rfl rfl ?_
        exact (hk _ _ h).2 _ _ _ _ _ _ rfl hOK
  · rintro x1 a2 x3 x4 x5 M rfl hOK
    rw [sk_walksFore_32] at h
    obtain ⟨gr_a2, h⟩ := gI_gd h
    refine g_iload (q0 := 34) (j := 5) rfl dX12_walksFore_32 rfl ?_
    refine g_iload (q0 := 36) (j := 4) rfl dX12_walksFore_34 rfl ?_
    refine g_icmp_ge (q0 := 39) (tgt := 56) rfl dX12_walksFore_36 (by decide) (fun h36 => ?_) (fun h36 => ?_)
    · replace h := gI_neg (Int.not_lt.mpr h36) h
      refine g_iincw (q0 := 59) (lv2 := [_, _, _, _, _, _]) rfl dX12_walksFore_56 rfl (by decide) rfl rfl ?_
      refine g_goto (tgt := 7) dX12_walksFore_59 (by decide) ?_
      refine gA_jk (lv1 := [_, _, _, _, (9, 0), (9, 0)]) ⟨.inl rfl, .inl rfl, .inl rfl, .inl rfl, .inr rfl, .inr rfl, trivial⟩ ?_
      exact (hk _ _ h).1 _ _ _ _ rfl hOK
    · replace h := gI_pos h36 h
      refine g_aload_n (q0 := 40) (j := 2) rfl dX12_walksFore_39 rfl ?_
      refine g_aload_n (q0 := 41) (j := 0) rfl dX12_walksFore_40 rfl ?_
      refine g_iload_n (q0 := 42) (j := 1) rfl dX12_walksFore_41 rfl ?_
      refine g_iload_n (q0 := 43) (j := 3) rfl dX12_walksFore_42 rfl ?_
      refine g_iload (q0 := 45) (j := 5) rfl dX12_walksFore_43 rfl ?_
      obtain ⟨r45, e45, h⟩ := gI_bd h
      refine g_callVq1 (as := [_, _, _]) (rest := [_]) mt_X12_foreAt mi_X12_foreAt se_X12_foreAt ml_X12_476 dX12_walksFore_45 (q0 := 48) rfl rfl (sh_711 hOK) rfl rfl (ok_foreAt hOK e45) rfl ⟨by decide, by decide⟩ (Nat.le_of_ble_eq_true rfl) ⟨Nat.zero_le _, Nat.zero_le _⟩ ?_
      refine g_iconst (q0 := 49) rfl dX12_walksFore_48 (k := ?_)
      obtain ⟨g2, h⟩ := gI_gd h
      refine g_zast (q0 := 50) rfl dX12_walksFore_49 (gRw_sh hOK gr_a2) g2.1 g2.2 (Or.inr rfl) ?_
      have hOK3 : gOK sh (gU M a2 r45 1) := gOK_z hOK (gRw_sh hOK gr_a2)
      refine g_iincw (q0 := 53) (lv2 := [_, _, _, _, _, _]) rfl dX12_walksFore_50 rfl (by decide) rfl rfl ?_
      refine g_goto (tgt := 32) dX12_walksFore_53 (by decide) ?_
      exact (hk _ _ h).2 _ _ _ _ _ _ rfl hOK3
theorem ok_walksFore_7 {sh : gS} {M : gM} {x1 a2 x3 : Int} {b : gM} (hOK : gOK sh M) (h : F_walksFore_7 M x1 a2 x3 = some b) : gA (gr 4 90) yX12_walksFore cX12_walksFore 6 none (gPq sh none b) (0, 0) 7 [(4, 711), (0, x1), (4, a2), (0, x3), (9, 0), (9, 0)] [] sh M :=
  (okp_walksFore _ _ h).1 _ _ _ _ rfl hOK
theorem ok_walksFore_32 {sh : gS} {M : gM} {x1 a2 x3 x4 x5 : Int} {b : gM} (hOK : gOK sh M) (h : F_walksFore_32 M x1 a2 x3 x4 x5 = some b) : gA (gr 4 90) yX12_walksFore cX12_walksFore 6 none (gPq sh none b) (0, 0) 32 [(4, 711), (0, x1), (4, a2), (0, x3), (0, x4), (0, x5)] [] sh M :=
  (okp_walksFore _ _ h).2 _ _ _ _ _ _ rfl hOK
theorem ok_walksFore {sh : gS} {M : gM} {a1 a2 : Int} {b : gM} (hOK : gOK sh M) (h : F_walksFore M a1 a2 = some b) : gC (gr 4 90) yX12_walksFore cX12_walksFore 6 none [(4, 711), (0, a1), (4, a2)] sh M (gPq sh none b) := by
  rw [eq_walksFore] at h
  refine gC_ofA (lv := [_, _, _, _, _, _]) (by decide +kernel) (Nat.le_of_ble_eq_true rfl) rfl (fun hMw hav => ?_)
  obtain ⟨gr_a2, h⟩ := gI_gd h
  refine g_aload_n (q0 := 1) (j := 0) rfl dX12_walksFore_0 rfl ?_
  refine g_getf (q0 := 4) (t := 0) (fi := 0) rfl rfl ff_X12_178 dX12_walksFore_1 rfl (sh_711 hOK) ?_
  refine g_iconst (q0 := 5) rfl dX12_walksFore_4 (k := ?_)
  refine g_isubw (q0 := 6) rfl dX12_walksFore_5 ?_
  refine g_istore_n (q0 := 7) (j := 3) (lv2 := [_, _, _, _, _, _]) rfl dX12_walksFore_6 (by decide) rfl rfl ?_
  exact ok_walksFore_7 hOK h
-- ==== marksElders
theorem dX12_marksElders_0 : decode cX12_marksElders 0 = .ok (.aload_n 0, 1) := by decide +kernel
theorem dX12_marksElders_1 : decode cX12_marksElders 1 = .ok (.getfield 72, 3) := by decide +kernel
theorem dX12_marksElders_4 : decode cX12_marksElders 4 = .ok (.invokestatic 206, 3) := by decide +kernel
theorem dX12_marksElders_7 : decode cX12_marksElders 7 = .ok (.aload_n 0, 1) := by decide +kernel
theorem dX12_marksElders_8 : decode cX12_marksElders 8 = .ok (.getfield 72, 3) := by decide +kernel
theorem dX12_marksElders_11 : decode cX12_marksElders 11 = .ok (.iload_n 2, 1) := by decide +kernel
theorem dX12_marksElders_12 : decode cX12_marksElders 12 = .ok (.iconst 1, 1) := by decide +kernel
theorem dX12_marksElders_13 : decode cX12_marksElders 13 = .ok (.bastore, 1) := by decide +kernel
theorem dX12_marksElders_14 : decode cX12_marksElders 14 = .ok (.aload_n 0, 1) := by decide +kernel
theorem dX12_marksElders_15 : decode cX12_marksElders 15 = .ok (.iload_n 1, 1) := by decide +kernel
theorem dX12_marksElders_16 : decode cX12_marksElders 16 = .ok (.aload_n 0, 1) := by decide +kernel
theorem dX12_marksElders_17 : decode cX12_marksElders 17 = .ok (.getfield 72, 3) := by decide +kernel
theorem dX12_marksElders_20 : decode cX12_marksElders 20 = .ok (.invokevirtual 479, 3) := by decide +kernel
theorem dX12_marksElders_23 : decode cX12_marksElders 23 = .ok (.return_, 1) := by decide +kernel
noncomputable def F_marksElders (M : gM) (a1 a2 : Int) : Option (gM) := (Option.bind (F_clears M 732) (fun m4 =>
    (if 0 ≤ a2 ∧ a2 < 120 then
      (Option.bind (F_walksFore (gU m4 732 a2 1) a1 732) (fun m20 =>
        some m20))
    else none)))
theorem eq_marksElders (M : gM) (a1 a2 : Int) : F_marksElders M a1 a2 = (Option.bind (F_clears M 732) (fun m4 =>
    (if 0 ≤ a2 ∧ a2 < 120 then
      (Option.bind (F_walksFore (gU m4 732 a2 1) a1 732) (fun m20 =>
        some m20))
    else none))) := rfl
theorem fr_marksElders {M : gM} {a1 a2 : Int} {b : gM} (h : F_marksElders M a1 a2 = some b) : gFr [732] [] M b := by
  rw [eq_marksElders] at h
  obtain ⟨m4, e4, h⟩ := gI_bd h
  obtain ⟨g2, h⟩ := gI_gd h
  obtain ⟨m20, e20, h⟩ := gI_bd h
  rw [← Option.some.inj h]
  exact (gFr_t (gFr_a (gFr_t (gFr_r [732] [] _) (fr_clears (b := m4) e4) (by first | decide | simp) (by decide)) (.head _) (by decide)) (fr_walksFore (b := m20) e20) (by first | decide | simp) (by decide))
theorem ok_marksElders {sh : gS} {M : gM} {a1 a2 : Int} {b : gM} (hOK : gOK sh M) (h : F_marksElders M a1 a2 = some b) : gC (gr 5 115) yX12_marksElders cX12_marksElders 3 none [(4, 711), (0, a1), (0, a2)] sh M (gPq sh none b) := by
  rw [eq_marksElders] at h
  refine gC_ofA (lv := [_, _, _]) (by decide +kernel) (Nat.le_of_ble_eq_true rfl) rfl (fun hMw hav => ?_)
  refine g_aload_n (q0 := 1) (j := 0) rfl dX12_marksElders_0 rfl ?_
  refine g_getp (q0 := 4) (b := 732) rfl ff_X12_72 dX12_marksElders_1 rfl hOK (by decide) (sh_711 hOK) rfl (by decide) ?_
  obtain ⟨m4, e4, h⟩ := gI_bd h
  refine g_callSq0 (as := [_]) (rest := []) mt_X12_clears ms_X12_clears ml_X12_206 dX12_marksElders_4 (q0 := 7) rfl rfl (ok_clears hOK e4) rfl ⟨by decide, by decide⟩ (Nat.le_of_ble_eq_true rfl) ⟨Nat.zero_le _, Nat.zero_le _⟩ ?_
  have hOK1 : gOK sh m4 := gOK_fr hOK (fr_clears (b := m4) e4) (by first | decide | (intro a ha; simp only [List.mem_cons, List.not_mem_nil, or_false] at ha; omega)) (by decide)
  refine g_aload_n (q0 := 8) (j := 0) rfl dX12_marksElders_7 rfl ?_
  refine g_getp (q0 := 11) (b := 732) rfl ff_X12_72 dX12_marksElders_8 rfl hOK1 (by decide) (sh_711 hOK1) rfl (by decide) ?_
  refine g_iload_n (q0 := 12) (j := 2) rfl dX12_marksElders_11 rfl ?_
  refine g_iconst (q0 := 13) rfl dX12_marksElders_12 (k := ?_)
  obtain ⟨g2, h⟩ := gI_gd h
  refine g_zast (q0 := 14) rfl dX12_marksElders_13 (sh_732 hOK1) g2.1 g2.2 (Or.inr rfl) ?_
  have hOK3 : gOK sh (gU m4 732 a2 1) := gOK_z hOK1 (sh_732 hOK1)
  refine g_aload_n (q0 := 15) (j := 0) rfl dX12_marksElders_14 rfl ?_
  refine g_iload_n (q0 := 16) (j := 1) rfl dX12_marksElders_15 rfl ?_
  refine g_aload_n (q0 := 17) (j := 0) rfl dX12_marksElders_16 rfl ?_
  refine g_getp (q0 := 20) (b := 732) rfl ff_X12_72 dX12_marksElders_17 rfl hOK3 (by decide) (sh_711 hOK3) rfl (by decide) ?_
  obtain ⟨m20, e20, h⟩ := gI_bd h
  refine g_callVq0 (as := [_, _]) (rest := []) mt_X12_walksFore mi_X12_walksFore se_X12_walksFore ml_X12_479 dX12_marksElders_20 (q0 := 23) rfl rfl (sh_711 hOK3) rfl rfl (ok_walksFore hOK3 e20) rfl ⟨by decide, by decide⟩ (Nat.le_of_ble_eq_true rfl) ⟨Nat.zero_le _, Nat.zero_le _⟩ ?_
  have hOK4 : gOK sh m20 := gOK_fr hOK3 (fr_walksFore (b := m20) e20) (by first | decide | (intro a ha; simp only [List.mem_cons, List.not_mem_nil, or_false] at ha; omega)) (by decide)
  rw [← Option.some.inj h]
  refine g_return dX12_marksElders_23 rfl ⟨Nat.zero_le _, Nat.zero_le _⟩ ?_
  exact ⟨rfl, rfl, rfl⟩
-- ==== isElder
theorem dX12_isElder_0 : decode cX12_isElder 0 = .ok (.iload_n 2, 1) := by decide +kernel
theorem dX12_isElder_1 : decode cX12_isElder 1 = .ok (.iload_n 3, 1) := by decide +kernel
theorem dX12_isElder_2 : decode cX12_isElder 2 = .ok (.if_icmp .lt 5, 3) := by decide +kernel
theorem dX12_isElder_5 : decode cX12_isElder 5 = .ok (.iconst 0, 1) := by decide +kernel
theorem dX12_isElder_6 : decode cX12_isElder 6 = .ok (.ireturn, 1) := by decide +kernel
theorem dX12_isElder_7 : decode cX12_isElder 7 = .ok (.aload_n 0, 1) := by decide +kernel
theorem dX12_isElder_8 : decode cX12_isElder 8 = .ok (.iload_n 1, 1) := by decide +kernel
theorem dX12_isElder_9 : decode cX12_isElder 9 = .ok (.iload_n 3, 1) := by decide +kernel
theorem dX12_isElder_10 : decode cX12_isElder 10 = .ok (.invokevirtual 483, 3) := by decide +kernel
theorem dX12_isElder_13 : decode cX12_isElder 13 = .ok (.aload_n 0, 1) := by decide +kernel
theorem dX12_isElder_14 : decode cX12_isElder 14 = .ok (.getfield 72, 3) := by decide +kernel
theorem dX12_isElder_17 : decode cX12_isElder 17 = .ok (.iload_n 2, 1) := by decide +kernel
theorem dX12_isElder_18 : decode cX12_isElder 18 = .ok (.baload, 1) := by decide +kernel
theorem dX12_isElder_19 : decode cX12_isElder 19 = .ok (.ireturn, 1) := by decide +kernel
noncomputable def F_isElder (M : gM) (a1 a2 a3 : Int) : Option (Int × gM) := (if a2 < a3 then
    (Option.bind (F_marksElders M a1 a3) (fun m10 =>
      (if 0 ≤ a2 ∧ a2 < 120 then
        (if (m10 732 a2) = 0 ∨ (m10 732 a2) = 1 then
          some ((m10 732 a2), m10)
        else none)
      else none)))
  else
    some (0, M))
theorem eq_isElder (M : gM) (a1 a2 a3 : Int) : F_isElder M a1 a2 a3 = (if a2 < a3 then
    (Option.bind (F_marksElders M a1 a3) (fun m10 =>
      (if 0 ≤ a2 ∧ a2 < 120 then
        (if (m10 732 a2) = 0 ∨ (m10 732 a2) = 1 then
          some ((m10 732 a2), m10)
        else none)
      else none)))
  else
    some (0, M)) := rfl
theorem fr_isElder {M : gM} {a1 a2 a3 : Int} {b : Int × gM} (h : F_isElder M a1 a2 a3 = some b) : gFr [732] [] M b.2 := by
  rw [eq_isElder] at h
  rcases gI_or h with h | h
  · obtain ⟨m10, e10, h⟩ := gI_bd h
    obtain ⟨g2, h⟩ := gI_gd h
    obtain ⟨g3, h⟩ := gI_gd h
    rw [← Option.some.inj h]
    exact (gFr_t (gFr_r [732] [] _) (fr_marksElders (b := m10) e10) (by first | decide | simp) (by decide))
  · rw [← Option.some.inj h]
    exact (gFr_r [732] [] _)
theorem bo_isElder {M : gM} {a1 a2 a3 : Int} {b : Int × gM} (h : F_isElder M a1 a2 a3 = some b) : b.1 = 0 ∨ b.1 = 1 := by
  rw [eq_isElder] at h
  rcases gI_or h with h | h
  · obtain ⟨m10, e10, h⟩ := gI_bd h
    obtain ⟨g2, h⟩ := gI_gd h
    obtain ⟨g3, h⟩ := gI_gd h
    rw [← Option.some.inj h]
    exact g3
  · rw [← Option.some.inj h]
    exact (Or.inl rfl)
theorem ok_isElder {sh : gS} {M : gM} {a1 a2 a3 : Int} {b : Int × gM} (hOK : gOK sh M) (h : F_isElder M a1 a2 a3 = some b) : gC (gr 6 137) yX12_isElder cX12_isElder 4 (some (.boolean)) [(4, 711), (0, a1), (0, a2), (0, a3)] sh M (gPq sh (some (0, b.1)) b.2) := by
  rw [eq_isElder] at h
  refine gC_ofA (lv := [_, _, _, _]) (by decide +kernel) (Nat.le_of_ble_eq_true rfl) rfl (fun hMw hav => ?_)
  refine g_iload_n (q0 := 1) (j := 2) rfl dX12_isElder_0 rfl ?_
  refine g_iload_n (q0 := 2) (j := 3) rfl dX12_isElder_1 rfl ?_
  refine g_icmp_lt (q0 := 5) (tgt := 7) rfl dX12_isElder_2 (by decide) (fun h2 => ?_) (fun h2 => ?_)
  · replace h := gI_pos h2 h
    refine g_aload_n (q0 := 8) (j := 0) rfl dX12_isElder_7 rfl ?_
    refine g_iload_n (q0 := 9) (j := 1) rfl dX12_isElder_8 rfl ?_
    refine g_iload_n (q0 := 10) (j := 3) rfl dX12_isElder_9 rfl ?_
    obtain ⟨m10, e10, h⟩ := gI_bd h
    refine g_callVq0 (as := [_, _]) (rest := []) mt_X12_marksElders mi_X12_marksElders se_X12_marksElders ml_X12_483 dX12_isElder_10 (q0 := 13) rfl rfl (sh_711 hOK) rfl rfl (ok_marksElders hOK e10) rfl ⟨by decide, by decide⟩ (Nat.le_of_ble_eq_true rfl) ⟨Nat.zero_le _, Nat.zero_le _⟩ ?_
    have hOK1 : gOK sh m10 := gOK_fr hOK (fr_marksElders (b := m10) e10) (by first | decide | (intro a ha; simp only [List.mem_cons, List.not_mem_nil, or_false] at ha; omega)) (by decide)
    refine g_aload_n (q0 := 14) (j := 0) rfl dX12_isElder_13 rfl ?_
    refine g_getp (q0 := 17) (b := 732) rfl ff_X12_72 dX12_isElder_14 rfl hOK1 (by decide) (sh_711 hOK1) rfl (by decide) ?_
    refine g_iload_n (q0 := 18) (j := 2) rfl dX12_isElder_17 rfl ?_
    obtain ⟨g2, h⟩ := gI_gd h
    refine g_zald (q0 := 19) rfl dX12_isElder_18 (sh_732 hOK1) g2.1 g2.2 ?_
    obtain ⟨g3, h⟩ := gI_gd h
    rw [← Option.some.inj h]
    refine g_zreturn dX12_isElder_19 rfl (gnz g3) ⟨Nat.zero_le _, Nat.zero_le _⟩ ?_
    exact ⟨rfl, rfl, rfl⟩
  · replace h := gI_neg (Int.not_lt.mpr h2) h
    refine g_iconst (q0 := 6) rfl dX12_isElder_5 (k := ?_)
    rw [← Option.some.inj h]
    refine g_zreturn dX12_isElder_6 rfl (gnz (Or.inl rfl)) ⟨Nat.zero_le _, Nat.zero_le _⟩ ?_
    exact ⟨rfl, rfl, rfl⟩
-- ==== isTaken
theorem dX12_isTaken_0 : decode cX12_isTaken 0 = .ok (.aload_n 0, 1) := by decide +kernel
theorem dX12_isTaken_1 : decode cX12_isTaken 1 = .ok (.iload_n 2, 1) := by decide +kernel
theorem dX12_isTaken_2 : decode cX12_isTaken 2 = .ok (.iload_n 3, 1) := by decide +kernel
theorem dX12_isTaken_3 : decode cX12_isTaken 3 = .ok (.invokevirtual 169, 3) := by decide +kernel
theorem dX12_isTaken_6 : decode cX12_isTaken 6 = .ok (.invokestatic 486, 3) := by decide +kernel
theorem dX12_isTaken_9 : decode cX12_isTaken 9 = .ok (.aload_n 0, 1) := by decide +kernel
theorem dX12_isTaken_10 : decode cX12_isTaken 10 = .ok (.iload_n 1, 1) := by decide +kernel
theorem dX12_isTaken_11 : decode cX12_isTaken 11 = .ok (.bipush 15, 2) := by decide +kernel
theorem dX12_isTaken_13 : decode cX12_isTaken 13 = .ok (.invokevirtual 452, 3) := by decide +kernel
theorem dX12_isTaken_16 : decode cX12_isTaken 16 = .ok (.if_icmp .le 5, 3) := by decide +kernel
theorem dX12_isTaken_19 : decode cX12_isTaken 19 = .ok (.iconst 0, 1) := by decide +kernel
theorem dX12_isTaken_20 : decode cX12_isTaken 20 = .ok (.ireturn, 1) := by decide +kernel
theorem dX12_isTaken_21 : decode cX12_isTaken 21 = .ok (.aload_n 0, 1) := by decide +kernel
theorem dX12_isTaken_22 : decode cX12_isTaken 22 = .ok (.iload_n 1, 1) := by decide +kernel
theorem dX12_isTaken_23 : decode cX12_isTaken 23 = .ok (.iconst 1, 1) := by decide +kernel
theorem dX12_isTaken_24 : decode cX12_isTaken 24 = .ok (.invokevirtual 455, 3) := by decide +kernel
theorem dX12_isTaken_27 : decode cX12_isTaken 27 = .ok (.ifCond .ne 7, 3) := by decide +kernel
theorem dX12_isTaken_30 : decode cX12_isTaken 30 = .ok (.iconst 1, 1) := by decide +kernel
theorem dX12_isTaken_31 : decode cX12_isTaken 31 = .ok (.goto 4, 3) := by decide +kernel
theorem dX12_isTaken_34 : decode cX12_isTaken 34 = .ok (.iconst 0, 1) := by decide +kernel
theorem dX12_isTaken_35 : decode cX12_isTaken 35 = .ok (.istore 4, 2) := by decide +kernel
theorem dX12_isTaken_37 : decode cX12_isTaken 37 = .ok (.iconst 0, 1) := by decide +kernel
theorem dX12_isTaken_38 : decode cX12_isTaken 38 = .ok (.istore 5, 2) := by decide +kernel
theorem dX12_isTaken_40 : decode cX12_isTaken 40 = .ok (.iload 5, 2) := by decide +kernel
theorem dX12_isTaken_42 : decode cX12_isTaken 42 = .ok (.aload_n 0, 1) := by decide +kernel
theorem dX12_isTaken_43 : decode cX12_isTaken 43 = .ok (.iload_n 1, 1) := by decide +kernel
theorem dX12_isTaken_44 : decode cX12_isTaken 44 = .ok (.iconst 1, 1) := by decide +kernel
theorem dX12_isTaken_45 : decode cX12_isTaken 45 = .ok (.invokevirtual 455, 3) := by decide +kernel
theorem dX12_isTaken_48 : decode cX12_isTaken 48 = .ok (.if_icmp .ge 41, 3) := by decide +kernel
theorem dX12_isTaken_51 : decode cX12_isTaken 51 = .ok (.iload 4, 2) := by decide +kernel
theorem dX12_isTaken_53 : decode cX12_isTaken 53 = .ok (.ifCond .ne 23, 3) := by decide +kernel
theorem dX12_isTaken_56 : decode cX12_isTaken 56 = .ok (.aload_n 0, 1) := by decide +kernel
theorem dX12_isTaken_57 : decode cX12_isTaken 57 = .ok (.iload_n 2, 1) := by decide +kernel
theorem dX12_isTaken_58 : decode cX12_isTaken 58 = .ok (.iload_n 3, 1) := by decide +kernel
theorem dX12_isTaken_59 : decode cX12_isTaken 59 = .ok (.invokevirtual 162, 3) := by decide +kernel
theorem dX12_isTaken_62 : decode cX12_isTaken 62 = .ok (.aload_n 0, 1) := by decide +kernel
theorem dX12_isTaken_63 : decode cX12_isTaken 63 = .ok (.iload_n 1, 1) := by decide +kernel
theorem dX12_isTaken_64 : decode cX12_isTaken 64 = .ok (.iconst 1, 1) := by decide +kernel
theorem dX12_isTaken_65 : decode cX12_isTaken 65 = .ok (.iload 5, 2) := by decide +kernel
theorem dX12_isTaken_67 : decode cX12_isTaken 67 = .ok (.invokevirtual 464, 3) := by decide +kernel
theorem dX12_isTaken_70 : decode cX12_isTaken 70 = .ok (.invokestatic 172, 3) := by decide +kernel
theorem dX12_isTaken_73 : decode cX12_isTaken 73 = .ok (.ifCond .eq 7, 3) := by decide +kernel
theorem dX12_isTaken_76 : decode cX12_isTaken 76 = .ok (.iconst 1, 1) := by decide +kernel
theorem dX12_isTaken_77 : decode cX12_isTaken 77 = .ok (.goto 4, 3) := by decide +kernel
theorem dX12_isTaken_80 : decode cX12_isTaken 80 = .ok (.iconst 0, 1) := by decide +kernel
theorem dX12_isTaken_81 : decode cX12_isTaken 81 = .ok (.istore 4, 2) := by decide +kernel
theorem dX12_isTaken_83 : decode cX12_isTaken 83 = .ok (.iinc 5 1, 3) := by decide +kernel
theorem dX12_isTaken_86 : decode cX12_isTaken 86 = .ok (.goto (-46), 3) := by decide +kernel
theorem dX12_isTaken_89 : decode cX12_isTaken 89 = .ok (.iconst 0, 1) := by decide +kernel
theorem dX12_isTaken_90 : decode cX12_isTaken 90 = .ok (.istore 5, 2) := by decide +kernel
theorem dX12_isTaken_92 : decode cX12_isTaken 92 = .ok (.iload 5, 2) := by decide +kernel
theorem dX12_isTaken_94 : decode cX12_isTaken 94 = .ok (.aload_n 0, 1) := by decide +kernel
theorem dX12_isTaken_95 : decode cX12_isTaken 95 = .ok (.iload_n 1, 1) := by decide +kernel
theorem dX12_isTaken_96 : decode cX12_isTaken 96 = .ok (.iconst 2, 1) := by decide +kernel
theorem dX12_isTaken_97 : decode cX12_isTaken 97 = .ok (.invokevirtual 455, 3) := by decide +kernel
theorem dX12_isTaken_100 : decode cX12_isTaken 100 = .ok (.if_icmp .ge 41, 3) := by decide +kernel
theorem dX12_isTaken_103 : decode cX12_isTaken 103 = .ok (.iload 4, 2) := by decide +kernel
theorem dX12_isTaken_105 : decode cX12_isTaken 105 = .ok (.ifCond .eq 27, 3) := by decide +kernel
theorem dX12_isTaken_108 : decode cX12_isTaken 108 = .ok (.aload_n 0, 1) := by decide +kernel
theorem dX12_isTaken_109 : decode cX12_isTaken 109 = .ok (.iload_n 2, 1) := by decide +kernel
theorem dX12_isTaken_110 : decode cX12_isTaken 110 = .ok (.iload_n 3, 1) := by decide +kernel
theorem dX12_isTaken_111 : decode cX12_isTaken 111 = .ok (.invokevirtual 162, 3) := by decide +kernel
theorem dX12_isTaken_114 : decode cX12_isTaken 114 = .ok (.aload_n 0, 1) := by decide +kernel
theorem dX12_isTaken_115 : decode cX12_isTaken 115 = .ok (.iload_n 1, 1) := by decide +kernel
theorem dX12_isTaken_116 : decode cX12_isTaken 116 = .ok (.iconst 2, 1) := by decide +kernel
theorem dX12_isTaken_117 : decode cX12_isTaken 117 = .ok (.iload 5, 2) := by decide +kernel
theorem dX12_isTaken_119 : decode cX12_isTaken 119 = .ok (.invokevirtual 464, 3) := by decide +kernel
theorem dX12_isTaken_122 : decode cX12_isTaken 122 = .ok (.invokestatic 172, 3) := by decide +kernel
theorem dX12_isTaken_125 : decode cX12_isTaken 125 = .ok (.ifCond .ne 7, 3) := by decide +kernel
theorem dX12_isTaken_128 : decode cX12_isTaken 128 = .ok (.iconst 1, 1) := by decide +kernel
theorem dX12_isTaken_129 : decode cX12_isTaken 129 = .ok (.goto 4, 3) := by decide +kernel
theorem dX12_isTaken_132 : decode cX12_isTaken 132 = .ok (.iconst 0, 1) := by decide +kernel
theorem dX12_isTaken_133 : decode cX12_isTaken 133 = .ok (.istore 4, 2) := by decide +kernel
theorem dX12_isTaken_135 : decode cX12_isTaken 135 = .ok (.iinc 5 1, 3) := by decide +kernel
theorem dX12_isTaken_138 : decode cX12_isTaken 138 = .ok (.goto (-46), 3) := by decide +kernel
theorem dX12_isTaken_141 : decode cX12_isTaken 141 = .ok (.iload 4, 2) := by decide +kernel
theorem dX12_isTaken_143 : decode cX12_isTaken 143 = .ok (.ireturn, 1) := by decide +kernel
noncomputable def st_isTaken (M : gM) : Nat × List Int → Option ((Nat × List Int) ⊕ (Int))
  | (0, [x1, x2, x3, x4, x5]) => (Option.bind (F_manyOf M x1 1) (fun r45 =>
      (if x5 < r45 then
        (if x4 = 0 then
          (Option.bind (F_pathAt M x2 x3) (fun r59 =>
            (Option.bind (F_firstOf M x1 1 x5) (fun r67 =>
              (Option.bind (F_isAtOrBelow r59 r67) (fun r70 =>
                (if r70 = 0 then
                  some (.inl (0, [x1, x2, x3, 0, (gw32 (x5 + 1))]))
                else
                  some (.inl (0, [x1, x2, x3, 1, (gw32 (x5 + 1))])))))))))
        else
          some (.inl (0, [x1, x2, x3, 1, (gw32 (x5 + 1))])))
      else
        some (.inl (1, [x1, x2, x3, x4, 0])))))
  | (1, [x1, x2, x3, x4, x5]) => (Option.bind (F_manyOf M x1 2) (fun r97 =>
      (if x5 < r97 then
        (if x4 = 0 then
          some (.inl (1, [x1, x2, x3, 0, (gw32 (x5 + 1))]))
        else
          (Option.bind (F_pathAt M x2 x3) (fun r111 =>
            (Option.bind (F_firstOf M x1 2 x5) (fun r119 =>
              (Option.bind (F_isAtOrBelow r111 r119) (fun r122 =>
                (if r122 = 0 then
                  some (.inl (1, [x1, x2, x3, 1, (gw32 (x5 + 1))]))
                else
                  some (.inl (1, [x1, x2, x3, 0, (gw32 (x5 + 1))]))))))))))
      else
        (if x4 = 0 ∨ x4 = 1 then
          some (.inr x4)
        else none))))
  | _ => none
theorem sk_isTaken_40 (k : Nat × List Int → Option (Int)) (M : gM) (x1 x2 x3 x4 x5 : Int) : gWk k (st_isTaken M (0, [x1, x2, x3, x4, x5])) = (Option.bind (F_manyOf M x1 1) (fun r45 =>
    (if x5 < r45 then
      (if x4 = 0 then
        (Option.bind (F_pathAt M x2 x3) (fun r59 =>
          (Option.bind (F_firstOf M x1 1 x5) (fun r67 =>
            (Option.bind (F_isAtOrBelow r59 r67) (fun r70 =>
              (if r70 = 0 then
                k (0, [x1, x2, x3, 0, (gw32 (x5 + 1))])
              else
                k (0, [x1, x2, x3, 1, (gw32 (x5 + 1))]))))))))
      else
        k (0, [x1, x2, x3, 1, (gw32 (x5 + 1))]))
    else
      k (1, [x1, x2, x3, x4, 0])))) := by
  simp only [st_isTaken, gWk_ite, gWk_bind, gWk_inl, gWk_inr, gWk_none]
theorem sk_isTaken_92 (k : Nat × List Int → Option (Int)) (M : gM) (x1 x2 x3 x4 x5 : Int) : gWk k (st_isTaken M (1, [x1, x2, x3, x4, x5])) = (Option.bind (F_manyOf M x1 2) (fun r97 =>
    (if x5 < r97 then
      (if x4 = 0 then
        k (1, [x1, x2, x3, 0, (gw32 (x5 + 1))])
      else
        (Option.bind (F_pathAt M x2 x3) (fun r111 =>
          (Option.bind (F_firstOf M x1 2 x5) (fun r119 =>
            (Option.bind (F_isAtOrBelow r111 r119) (fun r122 =>
              (if r122 = 0 then
                k (1, [x1, x2, x3, 1, (gw32 (x5 + 1))])
              else
                k (1, [x1, x2, x3, 0, (gw32 (x5 + 1))])))))))))
    else
      (if x4 = 0 ∨ x4 = 1 then
        some x4
      else none)))) := by
  simp only [st_isTaken, gWk_ite, gWk_bind, gWk_inl, gWk_inr, gWk_none]
noncomputable def F_isTaken_40 (M : gM) (x1 x2 x3 x4 x5 : Int) : Option (Int) := gWh (st_isTaken M) (0, [x1, x2, x3, x4, x5])
noncomputable def F_isTaken_92 (M : gM) (x1 x2 x3 x4 x5 : Int) : Option (Int) := gWh (st_isTaken M) (1, [x1, x2, x3, x4, x5])
theorem eq_isTaken_40 (M : gM) (x1 x2 x3 x4 x5 : Int) : F_isTaken_40 M x1 x2 x3 x4 x5 = (Option.bind (F_manyOf M x1 1) (fun r45 =>
    (if x5 < r45 then
      (if x4 = 0 then
        (Option.bind (F_pathAt M x2 x3) (fun r59 =>
          (Option.bind (F_firstOf M x1 1 x5) (fun r67 =>
            (Option.bind (F_isAtOrBelow r59 r67) (fun r70 =>
              (if r70 = 0 then
                F_isTaken_40 M x1 x2 x3 0 (gw32 (x5 + 1))
              else
                F_isTaken_40 M x1 x2 x3 1 (gw32 (x5 + 1)))))))))
      else
        F_isTaken_40 M x1 x2 x3 1 (gw32 (x5 + 1)))
    else
      F_isTaken_92 M x1 x2 x3 x4 0))) := (gWh_eq _).trans (sk_isTaken_40 _ M x1 x2 x3 x4 x5)
theorem eq_isTaken_92 (M : gM) (x1 x2 x3 x4 x5 : Int) : F_isTaken_92 M x1 x2 x3 x4 x5 = (Option.bind (F_manyOf M x1 2) (fun r97 =>
    (if x5 < r97 then
      (if x4 = 0 then
        F_isTaken_92 M x1 x2 x3 0 (gw32 (x5 + 1))
      else
        (Option.bind (F_pathAt M x2 x3) (fun r111 =>
          (Option.bind (F_firstOf M x1 2 x5) (fun r119 =>
            (Option.bind (F_isAtOrBelow r111 r119) (fun r122 =>
              (if r122 = 0 then
                F_isTaken_92 M x1 x2 x3 1 (gw32 (x5 + 1))
              else
                F_isTaken_92 M x1 x2 x3 0 (gw32 (x5 + 1))))))))))
    else
      (if x4 = 0 ∨ x4 = 1 then
        some x4
      else none)))) := (gWh_eq _).trans (sk_isTaken_92 _ M x1 x2 x3 x4 x5)
noncomputable def F_isTaken (M : gM) (a1 a2 a3 : Int) : Option (Int) := (Option.bind (F_contentAt M a2 a3) (fun r3 =>
    (Option.bind (F_digits r3) (fun r6 =>
      (Option.bind (F_ofPlan M a1 15) (fun r13 =>
        (if r13 < r6 then
          some 0
        else
          (Option.bind (F_manyOf M a1 1) (fun r24 =>
            (if r24 = 0 then
              F_isTaken_40 M a1 a2 a3 1 0
            else
              F_isTaken_40 M a1 a2 a3 0 0))))))))))
theorem eq_isTaken (M : gM) (a1 a2 a3 : Int) : F_isTaken M a1 a2 a3 = (Option.bind (F_contentAt M a2 a3) (fun r3 =>
    (Option.bind (F_digits r3) (fun r6 =>
      (Option.bind (F_ofPlan M a1 15) (fun r13 =>
        (if r13 < r6 then
          some 0
        else
          (Option.bind (F_manyOf M a1 1) (fun r24 =>
            (if r24 = 0 then
              F_isTaken_40 M a1 a2 a3 1 0
            else
              F_isTaken_40 M a1 a2 a3 0 0)))))))))) := rfl
theorem bop_isTaken {M : gM} : ∀ (s : Nat × List Int) (b : Int), gWh (st_isTaken M) s = some b → (∀ (x1 x2 x3 x4 x5 : Int), s = (0, [x1, x2, x3, x4, x5]) → b = 0 ∨ b = 1) ∧ (∀ (x1 x2 x3 x4 x5 : Int), s = (1, [x1, x2, x3, x4, x5]) → b = 0 ∨ b = 1) := by
  refine gWh_ind (fun k hk s b h => ⟨?_, ?_⟩)
  · rintro x1 x2 x3 x4 x5 rfl
    rw [sk_isTaken_40] at h
    obtain ⟨r45, e45, h⟩ := gI_bd h
    rcases gI_or h with h | h
    · rcases gI_or h with h | h
      · obtain ⟨r59, e59, h⟩ := gI_bd h
        obtain ⟨r67, e67, h⟩ := gI_bd h
        obtain ⟨r70, e70, h⟩ := gI_bd h
        rcases gI_or h with h | h
        · exact (hk _ _ h).1 _ _ _ _ _ rfl
        · exact (hk _ _ h).1 _ _ _ _ _ rfl
      · exact (hk _ _ h).1 _ _ _ _ _ rfl
    · exact (hk _ _ h).2 _ _ _ _ _ rfl
  · rintro x1 x2 x3 x4 x5 rfl
    rw [sk_isTaken_92] at h
    obtain ⟨r97, e97, h⟩ := gI_bd h
    rcases gI_or h with h | h
    · rcases gI_or h with h | h
      · exact (hk _ _ h).2 _ _ _ _ _ rfl
      · obtain ⟨r111, e111, h⟩ := gI_bd h
        obtain ⟨r119, e119, h⟩ := gI_bd h
        obtain ⟨r122, e122, h⟩ := gI_bd h
        rcases gI_or h with h | h
        · exact (hk _ _ h).2 _ _ _ _ _ rfl
        · exact (hk _ _ h).2 _ _ _ _ _ rfl
    · obtain ⟨g1, h⟩ := gI_gd h
      rw [← Option.some.inj h]
      exact g1
theorem bo_isTaken_40 {M : gM} {x1 x2 x3 x4 x5 : Int} {b : Int} (h : F_isTaken_40 M x1 x2 x3 x4 x5 = some b) : b = 0 ∨ b = 1 :=
  (bop_isTaken _ _ h).1 _ _ _ _ _ rfl
theorem bo_isTaken_92 {M : gM} {x1 x2 x3 x4 x5 : Int} {b : Int} (h : F_isTaken_92 M x1 x2 x3 x4 x5 = some b) : b = 0 ∨ b = 1 :=
  (bop_isTaken _ _ h).2 _ _ _ _ _ rfl
theorem bo_isTaken {M : gM} {a1 a2 a3 : Int} {b : Int} (h : F_isTaken M a1 a2 a3 = some b) : b = 0 ∨ b = 1 := by
  rw [eq_isTaken] at h
  obtain ⟨r3, e3, h⟩ := gI_bd h
  obtain ⟨r6, e6, h⟩ := gI_bd h
  obtain ⟨r13, e13, h⟩ := gI_bd h
  rcases gI_or h with h | h
  · rw [← Option.some.inj h]
    exact (Or.inl rfl)
  · obtain ⟨r24, e24, h⟩ := gI_bd h
    rcases gI_or h with h | h
    · exact bo_isTaken_40 h
    · exact bo_isTaken_40 h
theorem okp_isTaken {sh : gS} {M : gM} : ∀ (s : Nat × List Int) (b : Int), gWh (st_isTaken M) s = some b → (∀ (x1 x2 x3 x4 x5 : Int), s = (0, [x1, x2, x3, x4, x5]) → gOK sh M → gA (gr 3 64) yX12_isTaken cX12_isTaken 6 (some (.boolean)) (gPq sh (some (0, b)) M) (0, 0) 40 [(4, 711), (0, x1), (0, x2), (0, x3), (0, x4), (0, x5)] [] sh M) ∧ (∀ (x1 x2 x3 x4 x5 : Int), s = (1, [x1, x2, x3, x4, x5]) → gOK sh M → gA (gr 3 64) yX12_isTaken cX12_isTaken 6 (some (.boolean)) (gPq sh (some (0, b)) M) (0, 0) 92 [(4, 711), (0, x1), (0, x2), (0, x3), (0, x4), (0, x5)] [] sh M) := by
  refine gWh_ind (fun k hk s b h => ⟨?_, ?_⟩)
  · rintro x1 x2 x3 x4 x5 rfl hOK
    rw [sk_isTaken_40] at h
    refine g_iload (q0 := 42) (j := 5) rfl dX12_isTaken_40 rfl ?_
    refine g_aload_n (q0 := 43) (j := 0) rfl dX12_isTaken_42 rfl ?_
    refine g_iload_n (q0 := 44) (j := 1) rfl dX12_isTaken_43 rfl ?_
    refine g_iconst (q0 := 45) rfl dX12_isTaken_44 (k := ?_)
    obtain ⟨r45, e45, h⟩ := gI_bd h
    refine g_callVq1 (as := [_, _]) (rest := [_]) mt_X12_manyOf mi_X12_manyOf se_X12_manyOf ml_X12_455 dX12_isTaken_45 (q0 := 48) rfl rfl (sh_711 hOK) rfl rfl (ok_manyOf hOK e45) rfl ⟨by decide, by decide⟩ (Nat.le_of_ble_eq_true rfl) ⟨Nat.zero_le _, Nat.zero_le _⟩ ?_
    refine g_icmp_ge (q0 := 51) (tgt := 89) rfl dX12_isTaken_48 (by decide) (fun h48 => ?_) (fun h48 => ?_)
    · replace h := gI_neg (Int.not_lt.mpr h48) h
      refine g_iconst (q0 := 90) rfl dX12_isTaken_89 (k := ?_)
      refine g_istore (q0 := 92) (j := 5) (lv2 := [_, _, _, _, _, _]) rfl dX12_isTaken_90 (by decide) rfl rfl ?_
      exact (hk _ _ h).2 _ _ _ _ _ rfl hOK
    · replace h := gI_pos h48 h
      refine g_iload (q0 := 53) (j := 4) rfl dX12_isTaken_51 rfl ?_
      refine g_if_ne (q0 := 56) (tgt := 76) rfl dX12_isTaken_53 (by decide) (fun h53 => ?_) (fun h53 => ?_)
      · replace h := gI_neg h53 h
        refine g_iconst (q0 := 77) rfl dX12_isTaken_76 (k := ?_)
        refine g_goto (tgt := 81) dX12_isTaken_77 (by decide) ?_
        refine g_istore (q0 := 83) (j := 4) (lv2 := [_, _, _, _, _, _]) rfl dX12_isTaken_81 (by decide) rfl rfl ?_
        refine g_iincw (q0 := 86) (lv2 := [_, _, _, _, _, _]) rfl dX12_isTaken_83 rfl (by decide) rfl rfl ?_
        refine g_goto (tgt := 40) dX12_isTaken_86 (by decide) ?_
        exact (hk _ _ h).1 _ _ _ _ _ rfl hOK
      · replace h := gI_pos h53 h
        refine g_aload_n (q0 := 57) (j := 0) rfl dX12_isTaken_56 rfl ?_
        refine g_iload_n (q0 := 58) (j := 2) rfl dX12_isTaken_57 rfl ?_
        refine g_iload_n (q0 := 59) (j := 3) rfl dX12_isTaken_58 rfl ?_
        obtain ⟨r59, e59, h⟩ := gI_bd h
        refine g_callVq1 (as := [_, _]) (rest := []) mt_X12_pathAt mi_X12_pathAt se_X12_pathAt ml_X12_162 dX12_isTaken_59 (q0 := 62) rfl rfl (sh_711 hOK) rfl rfl (ok_pathAt hOK e59) rfl ⟨by decide, by decide⟩ (Nat.le_of_ble_eq_true rfl) ⟨Nat.zero_le _, Nat.zero_le _⟩ ?_
        refine g_aload_n (q0 := 63) (j := 0) rfl dX12_isTaken_62 rfl ?_
        refine g_iload_n (q0 := 64) (j := 1) rfl dX12_isTaken_63 rfl ?_
        refine g_iconst (q0 := 65) rfl dX12_isTaken_64 (k := ?_)
        refine g_iload (q0 := 67) (j := 5) rfl dX12_isTaken_65 rfl ?_
        obtain ⟨r67, e67, h⟩ := gI_bd h
        refine g_callVq1 (as := [_, _, _]) (rest := [_]) mt_X12_firstOf mi_X12_firstOf se_X12_firstOf ml_X12_464 dX12_isTaken_67 (q0 := 70) rfl rfl (sh_711 hOK) rfl rfl (ok_firstOf hOK e67) rfl ⟨by decide, by decide⟩ (Nat.le_of_ble_eq_true rfl) ⟨Nat.zero_le _, Nat.zero_le _⟩ ?_
        obtain ⟨r70, e70, h⟩ := gI_bd h
        refine g_callSq1 (as := [_, _]) (rest := []) mt_X12_isAtOrBelow ms_X12_isAtOrBelow ml_X12_172 dX12_isTaken_70 (q0 := 73) rfl rfl (ok_isAtOrBelow hOK e70) rfl ⟨by decide, by decide⟩ (Nat.le_of_ble_eq_true rfl) ⟨Nat.zero_le _, Nat.zero_le _⟩ ?_
        refine g_if_eq (q0 := 76) (tgt := 80) rfl dX12_isTaken_73 (by decide) (fun h73 => ?_) (fun h73 => ?_)
        · replace h := gI_pos h73 h
          refine g_iconst (q0 := 81) rfl dX12_isTaken_80 (k := ?_)
          refine g_istore (q0 := 83) (j := 4) (lv2 := [_, _, _, _, _, _]) rfl dX12_isTaken_81 (by decide) rfl rfl ?_
          refine g_iincw (q0 := 86) (lv2 := [_, _, _, _, _, _]) rfl dX12_isTaken_83 rfl (by decide) rfl rfl ?_
          refine g_goto (tgt := 40) dX12_isTaken_86 (by decide) ?_
          exact (hk _ _ h).1 _ _ _ _ _ rfl hOK
        · replace h := gI_neg h73 h
          refine g_iconst (q0 := 77) rfl dX12_isTaken_76 (k := ?_)
          refine g_goto (tgt := 81) dX12_isTaken_77 (by decide) ?_
          refine g_istore (q0 := 83) (j := 4) (lv2 := [_, _, _, _, _, _]) rfl dX12_isTaken_81 (by decide) rfl rfl ?_
          refine g_iincw (q0 := 86) (lv2 := [_, _, _, _, _, _]) rfl dX12_isTaken_83 rfl (by decide) rfl rfl ?_
          refine g_goto (tgt := 40) dX12_isTaken_86 (by decide) ?_
          exact (hk _ _ h).1 _ _ _ _ _ rfl hOK
  · rintro x1 x2 x3 x4 x5 rfl hOK
    rw [sk_isTaken_92] at h
    refine g_iload (q0 := 94) (j := 5) rfl dX12_isTaken_92 rfl ?_
    refine g_aload_n (q0 := 95) (j := 0) rfl dX12_isTaken_94 rfl ?_
    refine g_iload_n (q0 := 96) (j := 1) rfl dX12_isTaken_95 rfl ?_
    refine g_iconst (q0 := 97) rfl dX12_isTaken_96 (k := ?_)
    obtain ⟨r97, e97, h⟩ := gI_bd h
    refine g_callVq1 (as := [_, _]) (rest := [_]) mt_X12_manyOf mi_X12_manyOf se_X12_manyOf ml_X12_455 dX12_isTaken_97 (q0 := 100) rfl rfl (sh_711 hOK) rfl rfl (ok_manyOf hOK e97) rfl ⟨by decide, by decide⟩ (Nat.le_of_ble_eq_true rfl) ⟨Nat.zero_le _, Nat.zero_le _⟩ ?_
    refine g_icmp_ge (q0 := 103) (tgt := 141) rfl dX12_isTaken_100 (by decide) (fun h100 => ?_) (fun h100 => ?_)
    · replace h := gI_neg (Int.not_lt.mpr h100) h
      refine g_iload (q0 := 143) (j := 4) rfl dX12_isTaken_141 rfl ?_
      obtain ⟨g1, h⟩ := gI_gd h
      rw [← Option.some.inj h]
      refine g_zreturn dX12_isTaken_143 rfl (gnz g1) ⟨Nat.zero_le _, Nat.zero_le _⟩ ?_
      exact ⟨rfl, rfl, rfl⟩
    · replace h := gI_pos h100 h
      refine g_iload (q0 := 105) (j := 4) rfl dX12_isTaken_103 rfl ?_
      refine g_if_eq (q0 := 108) (tgt := 132) rfl dX12_isTaken_105 (by decide) (fun h105 => ?_) (fun h105 => ?_)
      · replace h := gI_pos h105 h
        refine g_iconst (q0 := 133) rfl dX12_isTaken_132 (k := ?_)
        refine g_istore (q0 := 135) (j := 4) (lv2 := [_, _, _, _, _, _]) rfl dX12_isTaken_133 (by decide) rfl rfl ?_
        refine g_iincw (q0 := 138) (lv2 := [_, _, _, _, _, _]) rfl dX12_isTaken_135 rfl (by decide) rfl rfl ?_
        refine g_goto (tgt := 92) dX12_isTaken_138 (by decide) ?_
        exact (hk _ _ h).2 _ _ _ _ _ rfl hOK
      · replace h := gI_neg h105 h
        refine g_aload_n (q0 := 109) (j := 0) rfl dX12_isTaken_108 rfl ?_
        refine g_iload_n (q0 := 110) (j := 2) rfl dX12_isTaken_109 rfl ?_
        refine g_iload_n (q0 := 111) (j := 3) rfl dX12_isTaken_110 rfl ?_
        obtain ⟨r111, e111, h⟩ := gI_bd h
        refine g_callVq1 (as := [_, _]) (rest := []) mt_X12_pathAt mi_X12_pathAt se_X12_pathAt ml_X12_162 dX12_isTaken_111 (q0 := 114) rfl rfl (sh_711 hOK) rfl rfl (ok_pathAt hOK e111) rfl ⟨by decide, by decide⟩ (Nat.le_of_ble_eq_true rfl) ⟨Nat.zero_le _, Nat.zero_le _⟩ ?_
        refine g_aload_n (q0 := 115) (j := 0) rfl dX12_isTaken_114 rfl ?_
        refine g_iload_n (q0 := 116) (j := 1) rfl dX12_isTaken_115 rfl ?_
        refine g_iconst (q0 := 117) rfl dX12_isTaken_116 (k := ?_)
        refine g_iload (q0 := 119) (j := 5) rfl dX12_isTaken_117 rfl ?_
        obtain ⟨r119, e119, h⟩ := gI_bd h
        refine g_callVq1 (as := [_, _, _]) (rest := [_]) mt_X12_firstOf mi_X12_firstOf se_X12_firstOf ml_X12_464 dX12_isTaken_119 (q0 := 122) rfl rfl (sh_711 hOK) rfl rfl (ok_firstOf hOK e119) rfl ⟨by decide, by decide⟩ (Nat.le_of_ble_eq_true rfl) ⟨Nat.zero_le _, Nat.zero_le _⟩ ?_
        obtain ⟨r122, e122, h⟩ := gI_bd h
        refine g_callSq1 (as := [_, _]) (rest := []) mt_X12_isAtOrBelow ms_X12_isAtOrBelow ml_X12_172 dX12_isTaken_122 (q0 := 125) rfl rfl (ok_isAtOrBelow hOK e122) rfl ⟨by decide, by decide⟩ (Nat.le_of_ble_eq_true rfl) ⟨Nat.zero_le _, Nat.zero_le _⟩ ?_
        refine g_if_ne (q0 := 128) (tgt := 132) rfl dX12_isTaken_125 (by decide) (fun h125 => ?_) (fun h125 => ?_)
        · replace h := gI_neg h125 h
          refine g_iconst (q0 := 133) rfl dX12_isTaken_132 (k := ?_)
          refine g_istore (q0 := 135) (j := 4) (lv2 := [_, _, _, _, _, _]) rfl dX12_isTaken_133 (by decide) rfl rfl ?_
          refine g_iincw (q0 := 138) (lv2 := [_, _, _, _, _, _]) rfl dX12_isTaken_135 rfl (by decide) rfl rfl ?_
          refine g_goto (tgt := 92) dX12_isTaken_138 (by decide) ?_
          exact (hk _ _ h).2 _ _ _ _ _ rfl hOK
        · replace h := gI_pos h125 h
          refine g_iconst (q0 := 129) rfl dX12_isTaken_128 (k := ?_)
          refine g_goto (tgt := 133) dX12_isTaken_129 (by decide) ?_
          refine g_istore (q0 := 135) (j := 4) (lv2 := [_, _, _, _, _, _]) rfl dX12_isTaken_133 (by decide) rfl rfl ?_
          refine g_iincw (q0 := 138) (lv2 := [_, _, _, _, _, _]) rfl dX12_isTaken_135 rfl (by decide) rfl rfl ?_
          refine g_goto (tgt := 92) dX12_isTaken_138 (by decide) ?_
          exact (hk _ _ h).2 _ _ _ _ _ rfl hOK
theorem ok_isTaken_40 {sh : gS} {M : gM} {x1 x2 x3 x4 x5 : Int} {b : Int} (hOK : gOK sh M) (h : F_isTaken_40 M x1 x2 x3 x4 x5 = some b) : gA (gr 3 64) yX12_isTaken cX12_isTaken 6 (some (.boolean)) (gPq sh (some (0, b)) M) (0, 0) 40 [(4, 711), (0, x1), (0, x2), (0, x3), (0, x4), (0, x5)] [] sh M :=
  (okp_isTaken _ _ h).1 _ _ _ _ _ rfl hOK
theorem ok_isTaken_92 {sh : gS} {M : gM} {x1 x2 x3 x4 x5 : Int} {b : Int} (hOK : gOK sh M) (h : F_isTaken_92 M x1 x2 x3 x4 x5 = some b) : gA (gr 3 64) yX12_isTaken cX12_isTaken 6 (some (.boolean)) (gPq sh (some (0, b)) M) (0, 0) 92 [(4, 711), (0, x1), (0, x2), (0, x3), (0, x4), (0, x5)] [] sh M :=
  (okp_isTaken _ _ h).2 _ _ _ _ _ rfl hOK
theorem ok_isTaken {sh : gS} {M : gM} {a1 a2 a3 : Int} {b : Int} (hOK : gOK sh M) (h : F_isTaken M a1 a2 a3 = some b) : gC (gr 3 64) yX12_isTaken cX12_isTaken 6 (some (.boolean)) [(4, 711), (0, a1), (0, a2), (0, a3)] sh M (gPq sh (some (0, b)) M) := by
  rw [eq_isTaken] at h
  refine gC_ofA (lv := [_, _, _, _, _, _]) (by decide +kernel) (Nat.le_of_ble_eq_true rfl) rfl (fun hMw hav => ?_)
  refine g_aload_n (q0 := 1) (j := 0) rfl dX12_isTaken_0 rfl ?_
  refine g_iload_n (q0 := 2) (j := 2) rfl dX12_isTaken_1 rfl ?_
  refine g_iload_n (q0 := 3) (j := 3) rfl dX12_isTaken_2 rfl ?_
  obtain ⟨r3, e3, h⟩ := gI_bd h
  refine g_callVq1 (as := [_, _]) (rest := []) mt_X12_contentAt mi_X12_contentAt se_X12_contentAt ml_X12_169 dX12_isTaken_3 (q0 := 6) rfl rfl (sh_711 hOK) rfl rfl (ok_contentAt hOK e3) rfl ⟨by decide, by decide⟩ (Nat.le_of_ble_eq_true rfl) ⟨Nat.zero_le _, Nat.zero_le _⟩ ?_
  obtain ⟨r6, e6, h⟩ := gI_bd h
  refine g_callSq1 (as := [_]) (rest := []) mt_X12_digits ms_X12_digits ml_X12_486 dX12_isTaken_6 (q0 := 9) rfl rfl (ok_digits hOK e6) rfl ⟨by decide, by decide⟩ (Nat.le_of_ble_eq_true rfl) ⟨Nat.zero_le _, Nat.zero_le _⟩ ?_
  refine g_aload_n (q0 := 10) (j := 0) rfl dX12_isTaken_9 rfl ?_
  refine g_iload_n (q0 := 11) (j := 1) rfl dX12_isTaken_10 rfl ?_
  refine g_bipush (q0 := 13) rfl dX12_isTaken_11 (k := ?_)
  obtain ⟨r13, e13, h⟩ := gI_bd h
  refine g_callVq1 (as := [_, _]) (rest := [_]) mt_X12_ofPlan mi_X12_ofPlan se_X12_ofPlan ml_X12_452 dX12_isTaken_13 (q0 := 16) rfl rfl (sh_711 hOK) rfl rfl (ok_ofPlan hOK e13) rfl ⟨by decide, by decide⟩ (Nat.le_of_ble_eq_true rfl) ⟨Nat.zero_le _, Nat.zero_le _⟩ ?_
  refine g_icmp_le (q0 := 19) (tgt := 21) rfl dX12_isTaken_16 (by decide) (fun h16 => ?_) (fun h16 => ?_)
  · replace h := gI_neg (Int.not_lt.mpr h16) h
    refine g_aload_n (q0 := 22) (j := 0) rfl dX12_isTaken_21 rfl ?_
    refine g_iload_n (q0 := 23) (j := 1) rfl dX12_isTaken_22 rfl ?_
    refine g_iconst (q0 := 24) rfl dX12_isTaken_23 (k := ?_)
    obtain ⟨r24, e24, h⟩ := gI_bd h
    refine g_callVq1 (as := [_, _]) (rest := []) mt_X12_manyOf mi_X12_manyOf se_X12_manyOf ml_X12_455 dX12_isTaken_24 (q0 := 27) rfl rfl (sh_711 hOK) rfl rfl (ok_manyOf hOK e24) rfl ⟨by decide, by decide⟩ (Nat.le_of_ble_eq_true rfl) ⟨Nat.zero_le _, Nat.zero_le _⟩ ?_
    refine g_if_ne (q0 := 30) (tgt := 34) rfl dX12_isTaken_27 (by decide) (fun h27 => ?_) (fun h27 => ?_)
    · replace h := gI_neg h27 h
      refine g_iconst (q0 := 35) rfl dX12_isTaken_34 (k := ?_)
      refine g_istore (q0 := 37) (j := 4) (lv2 := [_, _, _, _, _, _]) rfl dX12_isTaken_35 (by decide) rfl rfl ?_
      refine g_iconst (q0 := 38) rfl dX12_isTaken_37 (k := ?_)
      refine g_istore (q0 := 40) (j := 5) (lv2 := [_, _, _, _, _, _]) rfl dX12_isTaken_38 (by decide) rfl rfl ?_
      exact ok_isTaken_40 hOK h
    · replace h := gI_pos h27 h
      refine g_iconst (q0 := 31) rfl dX12_isTaken_30 (k := ?_)
      refine g_goto (tgt := 35) dX12_isTaken_31 (by decide) ?_
      refine g_istore (q0 := 37) (j := 4) (lv2 := [_, _, _, _, _, _]) rfl dX12_isTaken_35 (by decide) rfl rfl ?_
      refine g_iconst (q0 := 38) rfl dX12_isTaken_37 (k := ?_)
      refine g_istore (q0 := 40) (j := 5) (lv2 := [_, _, _, _, _, _]) rfl dX12_isTaken_38 (by decide) rfl rfl ?_
      exact ok_isTaken_40 hOK h
  · replace h := gI_pos h16 h
    refine g_iconst (q0 := 20) rfl dX12_isTaken_19 (k := ?_)
    rw [← Option.some.inj h]
    refine g_zreturn dX12_isTaken_20 rfl (gnz (Or.inl rfl)) ⟨Nat.zero_le _, Nat.zero_le _⟩ ?_
    exact ⟨rfl, rfl, rfl⟩
-- ==== moveOf
theorem dX12_moveOf_0 : decode cX12_moveOf 0 = .ok (.iconst (-1), 1) := by decide +kernel
theorem dX12_moveOf_1 : decode cX12_moveOf 1 = .ok (.istore_n 3, 1) := by decide +kernel
theorem dX12_moveOf_2 : decode cX12_moveOf 2 = .ok (.iconst (-1), 1) := by decide +kernel
theorem dX12_moveOf_3 : decode cX12_moveOf 3 = .ok (.istore 4, 2) := by decide +kernel
theorem dX12_moveOf_5 : decode cX12_moveOf 5 = .ok (.iconst 0, 1) := by decide +kernel
theorem dX12_moveOf_6 : decode cX12_moveOf 6 = .ok (.istore 5, 2) := by decide +kernel
theorem dX12_moveOf_8 : decode cX12_moveOf 8 = .ok (.iload 5, 2) := by decide +kernel
theorem dX12_moveOf_10 : decode cX12_moveOf 10 = .ok (.aload_n 0, 1) := by decide +kernel
theorem dX12_moveOf_11 : decode cX12_moveOf 11 = .ok (.iload_n 1, 1) := by decide +kernel
theorem dX12_moveOf_12 : decode cX12_moveOf 12 = .ok (.iconst 3, 1) := by decide +kernel
theorem dX12_moveOf_13 : decode cX12_moveOf 13 = .ok (.invokevirtual 455, 3) := by decide +kernel
theorem dX12_moveOf_16 : decode cX12_moveOf 16 = .ok (.if_icmp .ge 48, 3) := by decide +kernel
theorem dX12_moveOf_19 : decode cX12_moveOf 19 = .ok (.aload_n 0, 1) := by decide +kernel
theorem dX12_moveOf_20 : decode cX12_moveOf 20 = .ok (.iload_n 1, 1) := by decide +kernel
theorem dX12_moveOf_21 : decode cX12_moveOf 21 = .ok (.iconst 3, 1) := by decide +kernel
theorem dX12_moveOf_22 : decode cX12_moveOf 22 = .ok (.iload 5, 2) := by decide +kernel
theorem dX12_moveOf_24 : decode cX12_moveOf 24 = .ok (.invokevirtual 464, 3) := by decide +kernel
theorem dX12_moveOf_27 : decode cX12_moveOf 27 = .ok (.istore 6, 2) := by decide +kernel
theorem dX12_moveOf_29 : decode cX12_moveOf 29 = .ok (.iload_n 2, 1) := by decide +kernel
theorem dX12_moveOf_30 : decode cX12_moveOf 30 = .ok (.iload 6, 2) := by decide +kernel
theorem dX12_moveOf_32 : decode cX12_moveOf 32 = .ok (.invokestatic 172, 3) := by decide +kernel
theorem dX12_moveOf_35 : decode cX12_moveOf 35 = .ok (.ifCond .eq 23, 3) := by decide +kernel
theorem dX12_moveOf_38 : decode cX12_moveOf 38 = .ok (.iload 6, 2) := by decide +kernel
theorem dX12_moveOf_40 : decode cX12_moveOf 40 = .ok (.invokestatic 150, 3) := by decide +kernel
theorem dX12_moveOf_43 : decode cX12_moveOf 43 = .ok (.iload 4, 2) := by decide +kernel
theorem dX12_moveOf_45 : decode cX12_moveOf 45 = .ok (.if_icmp .le 13, 3) := by decide +kernel
theorem dX12_moveOf_48 : decode cX12_moveOf 48 = .ok (.iload 6, 2) := by decide +kernel
theorem dX12_moveOf_50 : decode cX12_moveOf 50 = .ok (.invokestatic 150, 3) := by decide +kernel
theorem dX12_moveOf_53 : decode cX12_moveOf 53 = .ok (.istore 4, 2) := by decide +kernel
theorem dX12_moveOf_55 : decode cX12_moveOf 55 = .ok (.iload 5, 2) := by decide +kernel
theorem dX12_moveOf_57 : decode cX12_moveOf 57 = .ok (.istore_n 3, 1) := by decide +kernel
theorem dX12_moveOf_58 : decode cX12_moveOf 58 = .ok (.iinc 5 1, 3) := by decide +kernel
theorem dX12_moveOf_61 : decode cX12_moveOf 61 = .ok (.goto (-53), 3) := by decide +kernel
theorem dX12_moveOf_64 : decode cX12_moveOf 64 = .ok (.iload_n 3, 1) := by decide +kernel
theorem dX12_moveOf_65 : decode cX12_moveOf 65 = .ok (.ireturn, 1) := by decide +kernel
noncomputable def st_moveOf (M : gM) : Nat × List Int → Option ((Nat × List Int) ⊕ (Int))
  | (0, [x1, x2, x3, x4, x5]) => (Option.bind (F_manyOf M x1 3) (fun r13 =>
      (if x5 < r13 then
        (Option.bind (F_firstOf M x1 3 x5) (fun r24 =>
          (Option.bind (F_isAtOrBelow x2 r24) (fun r32 =>
            (if r32 = 0 then
              some (.inl (0, [x1, x2, x3, x4, (gw32 (x5 + 1))]))
            else
              (Option.bind (F_names r24) (fun r40 =>
                (if x4 < r40 then
                  (Option.bind (F_names r24) (fun r50 =>
                    some (.inl (0, [x1, x2, x5, r50, (gw32 (x5 + 1))]))))
                else
                  some (.inl (0, [x1, x2, x3, x4, (gw32 (x5 + 1))]))))))))))
      else
        some (.inr x3))))
  | _ => none
theorem sk_moveOf_8 (k : Nat × List Int → Option (Int)) (M : gM) (x1 x2 x3 x4 x5 : Int) : gWk k (st_moveOf M (0, [x1, x2, x3, x4, x5])) = (Option.bind (F_manyOf M x1 3) (fun r13 =>
    (if x5 < r13 then
      (Option.bind (F_firstOf M x1 3 x5) (fun r24 =>
        (Option.bind (F_isAtOrBelow x2 r24) (fun r32 =>
          (if r32 = 0 then
            k (0, [x1, x2, x3, x4, (gw32 (x5 + 1))])
          else
            (Option.bind (F_names r24) (fun r40 =>
              (if x4 < r40 then
                (Option.bind (F_names r24) (fun r50 =>
                  k (0, [x1, x2, x5, r50, (gw32 (x5 + 1))])))
              else
                k (0, [x1, x2, x3, x4, (gw32 (x5 + 1))])))))))))
    else
      some x3))) := by
  simp only [st_moveOf, gWk_ite, gWk_bind, gWk_inl, gWk_inr, gWk_none]
noncomputable def F_moveOf_8 (M : gM) (x1 x2 x3 x4 x5 : Int) : Option (Int) := gWh (st_moveOf M) (0, [x1, x2, x3, x4, x5])
theorem eq_moveOf_8 (M : gM) (x1 x2 x3 x4 x5 : Int) : F_moveOf_8 M x1 x2 x3 x4 x5 = (Option.bind (F_manyOf M x1 3) (fun r13 =>
    (if x5 < r13 then
      (Option.bind (F_firstOf M x1 3 x5) (fun r24 =>
        (Option.bind (F_isAtOrBelow x2 r24) (fun r32 =>
          (if r32 = 0 then
            F_moveOf_8 M x1 x2 x3 x4 (gw32 (x5 + 1))
          else
            (Option.bind (F_names r24) (fun r40 =>
              (if x4 < r40 then
                (Option.bind (F_names r24) (fun r50 =>
                  F_moveOf_8 M x1 x2 x5 r50 (gw32 (x5 + 1))))
              else
                F_moveOf_8 M x1 x2 x3 x4 (gw32 (x5 + 1))))))))))
    else
      some x3))) := (gWh_eq _).trans (sk_moveOf_8 _ M x1 x2 x3 x4 x5)
noncomputable def F_moveOf (M : gM) (a1 a2 : Int) : Option (Int) := F_moveOf_8 M a1 a2 (-1) (-1) 0
theorem eq_moveOf (M : gM) (a1 a2 : Int) : F_moveOf M a1 a2 = F_moveOf_8 M a1 a2 (-1) (-1) 0 := rfl
theorem okp_moveOf {sh : gS} {M : gM} : ∀ (s : Nat × List Int) (b : Int), gWh (st_moveOf M) s = some b → (∀ (x1 x2 x3 x4 x5 : Int), s = (0, [x1, x2, x3, x4, x5]) → gOK sh M → gA (gr 3 64) yX12_moveOf cX12_moveOf 7 (some (.int)) (gPq sh (some (0, b)) M) (0, 0) 8 [(4, 711), (0, x1), (0, x2), (0, x3), (0, x4), (0, x5), (9, 0)] [] sh M) := by
  refine gWh_ind (fun k hk s b h => ?_)
  · rintro x1 x2 x3 x4 x5 rfl hOK
    rw [sk_moveOf_8] at h
    refine g_iload (q0 := 10) (j := 5) rfl dX12_moveOf_8 rfl ?_
    refine g_aload_n (q0 := 11) (j := 0) rfl dX12_moveOf_10 rfl ?_
    refine g_iload_n (q0 := 12) (j := 1) rfl dX12_moveOf_11 rfl ?_
    refine g_iconst (q0 := 13) rfl dX12_moveOf_12 (k := ?_)
    obtain ⟨r13, e13, h⟩ := gI_bd h
    refine g_callVq1 (as := [_, _]) (rest := [_]) mt_X12_manyOf mi_X12_manyOf se_X12_manyOf ml_X12_455 dX12_moveOf_13 (q0 := 16) rfl rfl (sh_711 hOK) rfl rfl (ok_manyOf hOK e13) rfl ⟨by decide, by decide⟩ (Nat.le_of_ble_eq_true rfl) ⟨Nat.zero_le _, Nat.zero_le _⟩ ?_
    refine g_icmp_ge (q0 := 19) (tgt := 64) rfl dX12_moveOf_16 (by decide) (fun h16 => ?_) (fun h16 => ?_)
    · replace h := gI_neg (Int.not_lt.mpr h16) h
      refine g_iload_n (q0 := 65) (j := 3) rfl dX12_moveOf_64 rfl ?_
      rw [← Option.some.inj h]
      refine g_ireturn dX12_moveOf_65 rfl ⟨Nat.zero_le _, Nat.zero_le _⟩ ?_
      exact ⟨rfl, rfl, rfl⟩
    · replace h := gI_pos h16 h
      refine g_aload_n (q0 := 20) (j := 0) rfl dX12_moveOf_19 rfl ?_
      refine g_iload_n (q0 := 21) (j := 1) rfl dX12_moveOf_20 rfl ?_
      refine g_iconst (q0 := 22) rfl dX12_moveOf_21 (k := ?_)
      refine g_iload (q0 := 24) (j := 5) rfl dX12_moveOf_22 rfl ?_
      obtain ⟨r24, e24, h⟩ := gI_bd h
      refine g_callVq1 (as := [_, _, _]) (rest := []) mt_X12_firstOf mi_X12_firstOf se_X12_firstOf ml_X12_464 dX12_moveOf_24 (q0 := 27) rfl rfl (sh_711 hOK) rfl rfl (ok_firstOf hOK e24) rfl ⟨by decide, by decide⟩ (Nat.le_of_ble_eq_true rfl) ⟨Nat.zero_le _, Nat.zero_le _⟩ ?_
      refine g_istore (q0 := 29) (j := 6) (lv2 := [_, _, _, _, _, _, _]) rfl dX12_moveOf_27 (by decide) rfl rfl ?_
      refine g_iload_n (q0 := 30) (j := 2) rfl dX12_moveOf_29 rfl ?_
      refine g_iload (q0 := 32) (j := 6) rfl dX12_moveOf_30 rfl ?_
      obtain ⟨r32, e32, h⟩ := gI_bd h
      refine g_callSq1 (as := [_, _]) (rest := []) mt_X12_isAtOrBelow ms_X12_isAtOrBelow ml_X12_172 dX12_moveOf_32 (q0 := 35) rfl rfl (ok_isAtOrBelow hOK e32) rfl ⟨by decide, by decide⟩ (Nat.le_of_ble_eq_true rfl) ⟨Nat.zero_le _, Nat.zero_le _⟩ ?_
      refine g_if_eq (q0 := 38) (tgt := 58) rfl dX12_moveOf_35 (by decide) (fun h35 => ?_) (fun h35 => ?_)
      · replace h := gI_pos h35 h
        refine g_iincw (q0 := 61) (lv2 := [_, _, _, _, _, _, _]) rfl dX12_moveOf_58 rfl (by decide) rfl rfl ?_
        refine g_goto (tgt := 8) dX12_moveOf_61 (by decide) ?_
        refine gA_jk (lv1 := [_, _, _, _, _, _, (9, 0)]) ⟨.inl rfl, .inl rfl, .inl rfl, .inl rfl, .inl rfl, .inl rfl, .inr rfl, trivial⟩ ?_
        exact (hk _ _ h) _ _ _ _ _ rfl hOK
      · replace h := gI_neg h35 h
        refine g_iload (q0 := 40) (j := 6) rfl dX12_moveOf_38 rfl ?_
        obtain ⟨r40, e40, h⟩ := gI_bd h
        refine g_callSq1 (as := [_]) (rest := []) mt_X12_names ms_X12_names ml_X12_150 dX12_moveOf_40 (q0 := 43) rfl rfl (ok_names hOK e40) rfl ⟨by decide, by decide⟩ (Nat.le_of_ble_eq_true rfl) ⟨Nat.zero_le _, Nat.zero_le _⟩ ?_
        refine g_iload (q0 := 45) (j := 4) rfl dX12_moveOf_43 rfl ?_
        refine g_icmp_le (q0 := 48) (tgt := 58) rfl dX12_moveOf_45 (by decide) (fun h45 => ?_) (fun h45 => ?_)
        · replace h := gI_neg (Int.not_lt.mpr h45) h
          refine g_iincw (q0 := 61) (lv2 := [_, _, _, _, _, _, _]) rfl dX12_moveOf_58 rfl (by decide) rfl rfl ?_
          refine g_goto (tgt := 8) dX12_moveOf_61 (by decide) ?_
          refine gA_jk (lv1 := [_, _, _, _, _, _, (9, 0)]) ⟨.inl rfl, .inl rfl, .inl rfl, .inl rfl, .inl rfl, .inl rfl, .inr rfl, trivial⟩ ?_
          exact (hk _ _ h) _ _ _ _ _ rfl hOK
        · replace h := gI_pos h45 h
          refine g_iload (q0 := 50) (j := 6) rfl dX12_moveOf_48 rfl ?_
          obtain ⟨r50, e50, h⟩ := gI_bd h
          refine g_callSq1 (as := [_]) (rest := []) mt_X12_names ms_X12_names ml_X12_150 dX12_moveOf_50 (q0 := 53) rfl rfl (ok_names hOK e50) rfl ⟨by decide, by decide⟩ (Nat.le_of_ble_eq_true rfl) ⟨Nat.zero_le _, Nat.zero_le _⟩ ?_
          refine g_istore (q0 := 55) (j := 4) (lv2 := [_, _, _, _, _, _, _]) rfl dX12_moveOf_53 (by decide) rfl rfl ?_
          refine g_iload (q0 := 57) (j := 5) rfl dX12_moveOf_55 rfl ?_
          refine g_istore_n (q0 := 58) (j := 3) (lv2 := [_, _, _, _, _, _, _]) rfl dX12_moveOf_57 (by decide) rfl rfl ?_
          refine g_iincw (q0 := 61) (lv2 := [_, _, _, _, _, _, _]) rfl dX12_moveOf_58 rfl (by decide) rfl rfl ?_
          refine g_goto (tgt := 8) dX12_moveOf_61 (by decide) ?_
          refine gA_jk (lv1 := [_, _, _, _, _, _, (9, 0)]) ⟨.inl rfl, .inl rfl, .inl rfl, .inl rfl, .inl rfl, .inl rfl, .inr rfl, trivial⟩ ?_
          exact (hk _ _ h) _ _ _ _ _ rfl hOK
theorem ok_moveOf_8 {sh : gS} {M : gM} {x1 x2 x3 x4 x5 : Int} {b : Int} (hOK : gOK sh M) (h : F_moveOf_8 M x1 x2 x3 x4 x5 = some b) : gA (gr 3 64) yX12_moveOf cX12_moveOf 7 (some (.int)) (gPq sh (some (0, b)) M) (0, 0) 8 [(4, 711), (0, x1), (0, x2), (0, x3), (0, x4), (0, x5), (9, 0)] [] sh M :=
  (okp_moveOf _ _ h) _ _ _ _ _ rfl hOK
theorem ok_moveOf {sh : gS} {M : gM} {a1 a2 : Int} {b : Int} (hOK : gOK sh M) (h : F_moveOf M a1 a2 = some b) : gC (gr 3 64) yX12_moveOf cX12_moveOf 7 (some (.int)) [(4, 711), (0, a1), (0, a2)] sh M (gPq sh (some (0, b)) M) := by
  rw [eq_moveOf] at h
  refine gC_ofA (lv := [_, _, _, _, _, _, _]) (by decide +kernel) (Nat.le_of_ble_eq_true rfl) rfl (fun hMw hav => ?_)
  refine g_iconst (q0 := 1) rfl dX12_moveOf_0 (k := ?_)
  refine g_istore_n (q0 := 2) (j := 3) (lv2 := [_, _, _, _, _, _, _]) rfl dX12_moveOf_1 (by decide) rfl rfl ?_
  refine g_iconst (q0 := 3) rfl dX12_moveOf_2 (k := ?_)
  refine g_istore (q0 := 5) (j := 4) (lv2 := [_, _, _, _, _, _, _]) rfl dX12_moveOf_3 (by decide) rfl rfl ?_
  refine g_iconst (q0 := 6) rfl dX12_moveOf_5 (k := ?_)
  refine g_istore (q0 := 8) (j := 5) (lv2 := [_, _, _, _, _, _, _]) rfl dX12_moveOf_6 (by decide) rfl rfl ?_
  exact ok_moveOf_8 hOK h
-- ==== carriedPath
theorem dX12_carriedPath_0 : decode cX12_carriedPath 0 = .ok (.aload_n 0, 1) := by decide +kernel
theorem dX12_carriedPath_1 : decode cX12_carriedPath 1 = .ok (.iload_n 1, 1) := by decide +kernel
theorem dX12_carriedPath_2 : decode cX12_carriedPath 2 = .ok (.iload_n 2, 1) := by decide +kernel
theorem dX12_carriedPath_3 : decode cX12_carriedPath 3 = .ok (.invokevirtual 489, 3) := by decide +kernel
theorem dX12_carriedPath_6 : decode cX12_carriedPath 6 = .ok (.istore_n 3, 1) := by decide +kernel
theorem dX12_carriedPath_7 : decode cX12_carriedPath 7 = .ok (.iload_n 3, 1) := by decide +kernel
theorem dX12_carriedPath_8 : decode cX12_carriedPath 8 = .ok (.iconst (-1), 1) := by decide +kernel
theorem dX12_carriedPath_9 : decode cX12_carriedPath 9 = .ok (.if_icmp .ne 5, 3) := by decide +kernel
theorem dX12_carriedPath_12 : decode cX12_carriedPath 12 = .ok (.iload_n 2, 1) := by decide +kernel
theorem dX12_carriedPath_13 : decode cX12_carriedPath 13 = .ok (.ireturn, 1) := by decide +kernel
theorem dX12_carriedPath_14 : decode cX12_carriedPath 14 = .ok (.aload_n 0, 1) := by decide +kernel
theorem dX12_carriedPath_15 : decode cX12_carriedPath 15 = .ok (.iload_n 1, 1) := by decide +kernel
theorem dX12_carriedPath_16 : decode cX12_carriedPath 16 = .ok (.iconst 3, 1) := by decide +kernel
theorem dX12_carriedPath_17 : decode cX12_carriedPath 17 = .ok (.iload_n 3, 1) := by decide +kernel
theorem dX12_carriedPath_18 : decode cX12_carriedPath 18 = .ok (.invokevirtual 464, 3) := by decide +kernel
theorem dX12_carriedPath_21 : decode cX12_carriedPath 21 = .ok (.istore 4, 2) := by decide +kernel
theorem dX12_carriedPath_23 : decode cX12_carriedPath 23 = .ok (.aload_n 0, 1) := by decide +kernel
theorem dX12_carriedPath_24 : decode cX12_carriedPath 24 = .ok (.iload_n 1, 1) := by decide +kernel
theorem dX12_carriedPath_25 : decode cX12_carriedPath 25 = .ok (.iconst 3, 1) := by decide +kernel
theorem dX12_carriedPath_26 : decode cX12_carriedPath 26 = .ok (.iload_n 3, 1) := by decide +kernel
theorem dX12_carriedPath_27 : decode cX12_carriedPath 27 = .ok (.invokevirtual 470, 3) := by decide +kernel
theorem dX12_carriedPath_30 : decode cX12_carriedPath 30 = .ok (.istore 5, 2) := by decide +kernel
theorem dX12_carriedPath_32 : decode cX12_carriedPath 32 = .ok (.iload_n 2, 1) := by decide +kernel
theorem dX12_carriedPath_33 : decode cX12_carriedPath 33 = .ok (.invokestatic 150, 3) := by decide +kernel
theorem dX12_carriedPath_36 : decode cX12_carriedPath 36 = .ok (.iload 4, 2) := by decide +kernel
theorem dX12_carriedPath_38 : decode cX12_carriedPath 38 = .ok (.invokestatic 150, 3) := by decide +kernel
theorem dX12_carriedPath_41 : decode cX12_carriedPath 41 = .ok (.isub, 1) := by decide +kernel
theorem dX12_carriedPath_42 : decode cX12_carriedPath 42 = .ok (.iload 5, 2) := by decide +kernel
theorem dX12_carriedPath_44 : decode cX12_carriedPath 44 = .ok (.invokestatic 150, 3) := by decide +kernel
theorem dX12_carriedPath_47 : decode cX12_carriedPath 47 = .ok (.iadd, 1) := by decide +kernel
theorem dX12_carriedPath_48 : decode cX12_carriedPath 48 = .ok (.istore 6, 2) := by decide +kernel
theorem dX12_carriedPath_50 : decode cX12_carriedPath 50 = .ok (.iload 6, 2) := by decide +kernel
theorem dX12_carriedPath_52 : decode cX12_carriedPath 52 = .ok (.iconst 1, 1) := by decide +kernel
theorem dX12_carriedPath_53 : decode cX12_carriedPath 53 = .ok (.bipush 6, 2) := by decide +kernel
theorem dX12_carriedPath_55 : decode cX12_carriedPath 55 = .ok (.invokestatic 182, 3) := by decide +kernel
theorem dX12_carriedPath_58 : decode cX12_carriedPath 58 = .ok (.ifCond .eq 14, 3) := by decide +kernel
theorem dX12_carriedPath_61 : decode cX12_carriedPath 61 = .ok (.iload_n 2, 1) := by decide +kernel
theorem dX12_carriedPath_62 : decode cX12_carriedPath 62 = .ok (.iload 4, 2) := by decide +kernel
theorem dX12_carriedPath_64 : decode cX12_carriedPath 64 = .ok (.iload 5, 2) := by decide +kernel
theorem dX12_carriedPath_66 : decode cX12_carriedPath 66 = .ok (.invokestatic 319, 3) := by decide +kernel
theorem dX12_carriedPath_69 : decode cX12_carriedPath 69 = .ok (.goto 4, 3) := by decide +kernel
theorem dX12_carriedPath_72 : decode cX12_carriedPath 72 = .ok (.iconst (-1), 1) := by decide +kernel
theorem dX12_carriedPath_73 : decode cX12_carriedPath 73 = .ok (.ireturn, 1) := by decide +kernel
noncomputable def F_carriedPath (M : gM) (a1 a2 : Int) : Option (Int) := (Option.bind (F_moveOf M a1 a2) (fun r3 =>
    (if r3 = -1 then
      some a2
    else
      (Option.bind (F_firstOf M a1 3 r3) (fun r18 =>
        (Option.bind (F_secondOf M a1 3 r3) (fun r27 =>
          (Option.bind (F_names a2) (fun r33 =>
            (Option.bind (F_names r18) (fun r38 =>
              (Option.bind (F_names r27) (fun r44 =>
                (Option.bind (F_in (gw32 ((gw32 (r33 - r38)) + r44)) 1 6) (fun r55 =>
                  (if r55 = 0 then
                    some (-1)
                  else
                    (Option.bind (F_moved a2 r18 r27) (fun r66 =>
                      some r66))))))))))))))))))
theorem eq_carriedPath (M : gM) (a1 a2 : Int) : F_carriedPath M a1 a2 = (Option.bind (F_moveOf M a1 a2) (fun r3 =>
    (if r3 = -1 then
      some a2
    else
      (Option.bind (F_firstOf M a1 3 r3) (fun r18 =>
        (Option.bind (F_secondOf M a1 3 r3) (fun r27 =>
          (Option.bind (F_names a2) (fun r33 =>
            (Option.bind (F_names r18) (fun r38 =>
              (Option.bind (F_names r27) (fun r44 =>
                (Option.bind (F_in (gw32 ((gw32 (r33 - r38)) + r44)) 1 6) (fun r55 =>
                  (if r55 = 0 then
                    some (-1)
                  else
                    (Option.bind (F_moved a2 r18 r27) (fun r66 =>
                      some r66)))))))))))))))))) := rfl
theorem ok_carriedPath {sh : gS} {M : gM} {a1 a2 : Int} {b : Int} (hOK : gOK sh M) (h : F_carriedPath M a1 a2 = some b) : gC (gr 4 90) yX12_carriedPath cX12_carriedPath 7 (some (.int)) [(4, 711), (0, a1), (0, a2)] sh M (gPq sh (some (0, b)) M) := by
  rw [eq_carriedPath] at h
  refine gC_ofA (lv := [_, _, _, _, _, _, _]) (by decide +kernel) (Nat.le_of_ble_eq_true rfl) rfl (fun hMw hav => ?_)
  refine g_aload_n (q0 := 1) (j := 0) rfl dX12_carriedPath_0 rfl ?_
  refine g_iload_n (q0 := 2) (j := 1) rfl dX12_carriedPath_1 rfl ?_
  refine g_iload_n (q0 := 3) (j := 2) rfl dX12_carriedPath_2 rfl ?_
  obtain ⟨r3, e3, h⟩ := gI_bd h
  refine g_callVq1 (as := [_, _]) (rest := []) mt_X12_moveOf mi_X12_moveOf se_X12_moveOf ml_X12_489 dX12_carriedPath_3 (q0 := 6) rfl rfl (sh_711 hOK) rfl rfl (ok_moveOf hOK e3) rfl ⟨by decide, by decide⟩ (Nat.le_of_ble_eq_true rfl) ⟨Nat.zero_le _, Nat.zero_le _⟩ ?_
  refine g_istore_n (q0 := 7) (j := 3) (lv2 := [_, _, _, _, _, _, _]) rfl dX12_carriedPath_6 (by decide) rfl rfl ?_
  refine g_iload_n (q0 := 8) (j := 3) rfl dX12_carriedPath_7 rfl ?_
  refine g_iconst (q0 := 9) rfl dX12_carriedPath_8 (k := ?_)
  refine g_icmp_ne (q0 := 12) (tgt := 14) rfl dX12_carriedPath_9 (by decide) (fun h9 => ?_) (fun h9 => ?_)
  · replace h := gI_neg h9 h
    refine g_aload_n (q0 := 15) (j := 0) rfl dX12_carriedPath_14 rfl ?_
    refine g_iload_n (q0 := 16) (j := 1) rfl dX12_carriedPath_15 rfl ?_
    refine g_iconst (q0 := 17) rfl dX12_carriedPath_16 (k := ?_)
    refine g_iload_n (q0 := 18) (j := 3) rfl dX12_carriedPath_17 rfl ?_
    obtain ⟨r18, e18, h⟩ := gI_bd h
    refine g_callVq1 (as := [_, _, _]) (rest := []) mt_X12_firstOf mi_X12_firstOf se_X12_firstOf ml_X12_464 dX12_carriedPath_18 (q0 := 21) rfl rfl (sh_711 hOK) rfl rfl (ok_firstOf hOK e18) rfl ⟨by decide, by decide⟩ (Nat.le_of_ble_eq_true rfl) ⟨Nat.zero_le _, Nat.zero_le _⟩ ?_
    refine g_istore (q0 := 23) (j := 4) (lv2 := [_, _, _, _, _, _, _]) rfl dX12_carriedPath_21 (by decide) rfl rfl ?_
    refine g_aload_n (q0 := 24) (j := 0) rfl dX12_carriedPath_23 rfl ?_
    refine g_iload_n (q0 := 25) (j := 1) rfl dX12_carriedPath_24 rfl ?_
    refine g_iconst (q0 := 26) rfl dX12_carriedPath_25 (k := ?_)
    refine g_iload_n (q0 := 27) (j := 3) rfl dX12_carriedPath_26 rfl ?_
    obtain ⟨r27, e27, h⟩ := gI_bd h
    refine g_callVq1 (as := [_, _, _]) (rest := []) mt_X12_secondOf mi_X12_secondOf se_X12_secondOf ml_X12_470 dX12_carriedPath_27 (q0 := 30) rfl rfl (sh_711 hOK) rfl rfl (ok_secondOf hOK e27) rfl ⟨by decide, by decide⟩ (Nat.le_of_ble_eq_true rfl) ⟨Nat.zero_le _, Nat.zero_le _⟩ ?_
    refine g_istore (q0 := 32) (j := 5) (lv2 := [_, _, _, _, _, _, _]) rfl dX12_carriedPath_30 (by decide) rfl rfl ?_
    refine g_iload_n (q0 := 33) (j := 2) rfl dX12_carriedPath_32 rfl ?_
    obtain ⟨r33, e33, h⟩ := gI_bd h
    refine g_callSq1 (as := [_]) (rest := []) mt_X12_names ms_X12_names ml_X12_150 dX12_carriedPath_33 (q0 := 36) rfl rfl (ok_names hOK e33) rfl ⟨by decide, by decide⟩ (Nat.le_of_ble_eq_true rfl) ⟨Nat.zero_le _, Nat.zero_le _⟩ ?_
    refine g_iload (q0 := 38) (j := 4) rfl dX12_carriedPath_36 rfl ?_
    obtain ⟨r38, e38, h⟩ := gI_bd h
    refine g_callSq1 (as := [_]) (rest := [_]) mt_X12_names ms_X12_names ml_X12_150 dX12_carriedPath_38 (q0 := 41) rfl rfl (ok_names hOK e38) rfl ⟨by decide, by decide⟩ (Nat.le_of_ble_eq_true rfl) ⟨Nat.zero_le _, Nat.zero_le _⟩ ?_
    refine g_isubw (q0 := 42) rfl dX12_carriedPath_41 ?_
    refine g_iload (q0 := 44) (j := 5) rfl dX12_carriedPath_42 rfl ?_
    obtain ⟨r44, e44, h⟩ := gI_bd h
    refine g_callSq1 (as := [_]) (rest := [_]) mt_X12_names ms_X12_names ml_X12_150 dX12_carriedPath_44 (q0 := 47) rfl rfl (ok_names hOK e44) rfl ⟨by decide, by decide⟩ (Nat.le_of_ble_eq_true rfl) ⟨Nat.zero_le _, Nat.zero_le _⟩ ?_
    refine g_iaddw (q0 := 48) rfl dX12_carriedPath_47 ?_
    refine g_istore (q0 := 50) (j := 6) (lv2 := [_, _, _, _, _, _, _]) rfl dX12_carriedPath_48 (by decide) rfl rfl ?_
    refine g_iload (q0 := 52) (j := 6) rfl dX12_carriedPath_50 rfl ?_
    refine g_iconst (q0 := 53) rfl dX12_carriedPath_52 (k := ?_)
    refine g_bipush (q0 := 55) rfl dX12_carriedPath_53 (k := ?_)
    obtain ⟨r55, e55, h⟩ := gI_bd h
    refine g_callSq1 (as := [_, _, _]) (rest := []) mt_X12_in ms_X12_in ml_X12_182 dX12_carriedPath_55 (q0 := 58) rfl rfl (ok_in hOK e55) rfl ⟨by decide, by decide⟩ (Nat.le_of_ble_eq_true rfl) ⟨Nat.zero_le _, Nat.zero_le _⟩ ?_
    refine g_if_eq (q0 := 61) (tgt := 72) rfl dX12_carriedPath_58 (by decide) (fun h58 => ?_) (fun h58 => ?_)
    · replace h := gI_pos h58 h
      refine g_iconst (q0 := 73) rfl dX12_carriedPath_72 (k := ?_)
      rw [← Option.some.inj h]
      refine g_ireturn dX12_carriedPath_73 rfl ⟨Nat.zero_le _, Nat.zero_le _⟩ ?_
      exact ⟨rfl, rfl, rfl⟩
    · replace h := gI_neg h58 h
      refine g_iload_n (q0 := 62) (j := 2) rfl dX12_carriedPath_61 rfl ?_
      refine g_iload (q0 := 64) (j := 4) rfl dX12_carriedPath_62 rfl ?_
      refine g_iload (q0 := 66) (j := 5) rfl dX12_carriedPath_64 rfl ?_
      obtain ⟨r66, e66, h⟩ := gI_bd h
      refine g_callSq1 (as := [_, _, _]) (rest := []) mt_X12_moved ms_X12_moved ml_X12_319 dX12_carriedPath_66 (q0 := 69) rfl rfl (ok_moved hOK e66) rfl ⟨by decide, by decide⟩ (Nat.le_of_ble_eq_true rfl) ⟨Nat.zero_le _, Nat.zero_le _⟩ ?_
      refine g_goto (tgt := 73) dX12_carriedPath_69 (by decide) ?_
      rw [← Option.some.inj h]
      refine g_ireturn dX12_carriedPath_73 rfl ⟨Nat.zero_le _, Nat.zero_le _⟩ ?_
      exact ⟨rfl, rfl, rfl⟩
  · replace h := gI_pos h9 h
    refine g_iload_n (q0 := 13) (j := 2) rfl dX12_carriedPath_12 rfl ?_
    rw [← Option.some.inj h]
    refine g_ireturn dX12_carriedPath_13 rfl ⟨Nat.zero_le _, Nat.zero_le _⟩ ?_
    exact ⟨rfl, rfl, rfl⟩
-- ==== isInTheWay
theorem dX12_isInTheWay_0 : decode cX12_isInTheWay 0 = .ok (.iconst 0, 1) := by decide +kernel
theorem dX12_isInTheWay_1 : decode cX12_isInTheWay 1 = .ok (.istore_n 2, 1) := by decide +kernel
theorem dX12_isInTheWay_2 : decode cX12_isInTheWay 2 = .ok (.iload_n 2, 1) := by decide +kernel
theorem dX12_isInTheWay_3 : decode cX12_isInTheWay 3 = .ok (.aload_n 0, 1) := by decide +kernel
theorem dX12_isInTheWay_4 : decode cX12_isInTheWay 4 = .ok (.getfield 28, 3) := by decide +kernel
theorem dX12_isInTheWay_7 : decode cX12_isInTheWay 7 = .ok (.bipush 121, 2) := by decide +kernel
theorem dX12_isInTheWay_9 : decode cX12_isInTheWay 9 = .ok (.iaload, 1) := by decide +kernel
theorem dX12_isInTheWay_10 : decode cX12_isInTheWay 10 = .ok (.if_icmp .ge 50, 3) := by decide +kernel
theorem dX12_isInTheWay_13 : decode cX12_isInTheWay 13 = .ok (.aload_n 0, 1) := by decide +kernel
theorem dX12_isInTheWay_14 : decode cX12_isInTheWay 14 = .ok (.bipush 121, 2) := by decide +kernel
theorem dX12_isInTheWay_16 : decode cX12_isInTheWay 16 = .ok (.iload_n 2, 1) := by decide +kernel
theorem dX12_isInTheWay_17 : decode cX12_isInTheWay 17 = .ok (.invokevirtual 162, 3) := by decide +kernel
theorem dX12_isInTheWay_20 : decode cX12_isInTheWay 20 = .ok (.iload_n 1, 1) := by decide +kernel
theorem dX12_isInTheWay_21 : decode cX12_isInTheWay 21 = .ok (.if_icmp .eq 31, 3) := by decide +kernel
theorem dX12_isInTheWay_24 : decode cX12_isInTheWay 24 = .ok (.aload_n 0, 1) := by decide +kernel
theorem dX12_isInTheWay_25 : decode cX12_isInTheWay 25 = .ok (.bipush 121, 2) := by decide +kernel
theorem dX12_isInTheWay_27 : decode cX12_isInTheWay 27 = .ok (.iload_n 2, 1) := by decide +kernel
theorem dX12_isInTheWay_28 : decode cX12_isInTheWay 28 = .ok (.invokevirtual 162, 3) := by decide +kernel
theorem dX12_isInTheWay_31 : decode cX12_isInTheWay 31 = .ok (.iload_n 1, 1) := by decide +kernel
theorem dX12_isInTheWay_32 : decode cX12_isInTheWay 32 = .ok (.invokestatic 154, 3) := by decide +kernel
theorem dX12_isInTheWay_35 : decode cX12_isInTheWay 35 = .ok (.ifCond .ne 17, 3) := by decide +kernel
theorem dX12_isInTheWay_38 : decode cX12_isInTheWay 38 = .ok (.iload_n 1, 1) := by decide +kernel
theorem dX12_isInTheWay_39 : decode cX12_isInTheWay 39 = .ok (.aload_n 0, 1) := by decide +kernel
theorem dX12_isInTheWay_40 : decode cX12_isInTheWay 40 = .ok (.bipush 121, 2) := by decide +kernel
theorem dX12_isInTheWay_42 : decode cX12_isInTheWay 42 = .ok (.iload_n 2, 1) := by decide +kernel
theorem dX12_isInTheWay_43 : decode cX12_isInTheWay 43 = .ok (.invokevirtual 162, 3) := by decide +kernel
theorem dX12_isInTheWay_46 : decode cX12_isInTheWay 46 = .ok (.invokestatic 154, 3) := by decide +kernel
theorem dX12_isInTheWay_49 : decode cX12_isInTheWay 49 = .ok (.ifCond .eq 5, 3) := by decide +kernel
theorem dX12_isInTheWay_52 : decode cX12_isInTheWay 52 = .ok (.iconst 1, 1) := by decide +kernel
theorem dX12_isInTheWay_53 : decode cX12_isInTheWay 53 = .ok (.ireturn, 1) := by decide +kernel
theorem dX12_isInTheWay_54 : decode cX12_isInTheWay 54 = .ok (.iinc 2 1, 3) := by decide +kernel
theorem dX12_isInTheWay_57 : decode cX12_isInTheWay 57 = .ok (.goto (-55), 3) := by decide +kernel
theorem dX12_isInTheWay_60 : decode cX12_isInTheWay 60 = .ok (.iconst 0, 1) := by decide +kernel
theorem dX12_isInTheWay_61 : decode cX12_isInTheWay 61 = .ok (.ireturn, 1) := by decide +kernel
noncomputable def st_isInTheWay (M : gM) : Nat × List Int → Option ((Nat × List Int) ⊕ (Int))
  | (0, [x1, x2]) => (if x2 < (M 718 121) then
      (Option.bind (F_pathAt M 121 x2) (fun r17 =>
        (if r17 = x1 then
          some (.inr 1)
        else
          (Option.bind (F_pathAt M 121 x2) (fun r28 =>
            (Option.bind (F_begins r28 x1) (fun r32 =>
              (if r32 = 0 then
                (Option.bind (F_pathAt M 121 x2) (fun r43 =>
                  (Option.bind (F_begins x1 r43) (fun r46 =>
                    (if r46 = 0 then
                      some (.inl (0, [x1, (gw32 (x2 + 1))]))
                    else
                      some (.inr 1))))))
              else
                some (.inr 1)))))))))
    else
      some (.inr 0))
  | _ => none
theorem sk_isInTheWay_2 (k : Nat × List Int → Option (Int)) (M : gM) (x1 x2 : Int) : gWk k (st_isInTheWay M (0, [x1, x2])) = (if x2 < (M 718 121) then
    (Option.bind (F_pathAt M 121 x2) (fun r17 =>
      (if r17 = x1 then
        some 1
      else
        (Option.bind (F_pathAt M 121 x2) (fun r28 =>
          (Option.bind (F_begins r28 x1) (fun r32 =>
            (if r32 = 0 then
              (Option.bind (F_pathAt M 121 x2) (fun r43 =>
                (Option.bind (F_begins x1 r43) (fun r46 =>
                  (if r46 = 0 then
                    k (0, [x1, (gw32 (x2 + 1))])
                  else
                    some 1)))))
            else
              some 1))))))))
  else
    some 0) := by
  simp only [st_isInTheWay, gWk_ite, gWk_bind, gWk_inl, gWk_inr, gWk_none]
noncomputable def F_isInTheWay_2 (M : gM) (x1 x2 : Int) : Option (Int) := gWh (st_isInTheWay M) (0, [x1, x2])
theorem eq_isInTheWay_2 (M : gM) (x1 x2 : Int) : F_isInTheWay_2 M x1 x2 = (if x2 < (M 718 121) then
    (Option.bind (F_pathAt M 121 x2) (fun r17 =>
      (if r17 = x1 then
        some 1
      else
        (Option.bind (F_pathAt M 121 x2) (fun r28 =>
          (Option.bind (F_begins r28 x1) (fun r32 =>
            (if r32 = 0 then
              (Option.bind (F_pathAt M 121 x2) (fun r43 =>
                (Option.bind (F_begins x1 r43) (fun r46 =>
                  (if r46 = 0 then
                    F_isInTheWay_2 M x1 (gw32 (x2 + 1))
                  else
                    some 1)))))
            else
              some 1))))))))
  else
    some 0) := (gWh_eq _).trans (sk_isInTheWay_2 _ M x1 x2)
noncomputable def F_isInTheWay (M : gM) (a1 : Int) : Option (Int) := F_isInTheWay_2 M a1 0
theorem eq_isInTheWay (M : gM) (a1 : Int) : F_isInTheWay M a1 = F_isInTheWay_2 M a1 0 := rfl
theorem bop_isInTheWay {M : gM} : ∀ (s : Nat × List Int) (b : Int), gWh (st_isInTheWay M) s = some b → (∀ (x1 x2 : Int), s = (0, [x1, x2]) → b = 0 ∨ b = 1) := by
  refine gWh_ind (fun k hk s b h => ?_)
  · rintro x1 x2 rfl
    rw [sk_isInTheWay_2] at h
    rcases gI_or h with h | h
    · obtain ⟨r17, e17, h⟩ := gI_bd h
      rcases gI_or h with h | h
      · rw [← Option.some.inj h]
        exact (Or.inr rfl)
      · obtain ⟨r28, e28, h⟩ := gI_bd h
        obtain ⟨r32, e32, h⟩ := gI_bd h
        rcases gI_or h with h | h
        · obtain ⟨r43, e43, h⟩ := gI_bd h
          obtain ⟨r46, e46, h⟩ := gI_bd h
          rcases gI_or h with h | h
          · exact (hk _ _ h) _ _ rfl
          · rw [← Option.some.inj h]
            exact (Or.inr rfl)
        · rw [← Option.some.inj h]
          exact (Or.inr rfl)
    · rw [← Option.some.inj h]
      exact (Or.inl rfl)
theorem bo_isInTheWay_2 {M : gM} {x1 x2 : Int} {b : Int} (h : F_isInTheWay_2 M x1 x2 = some b) : b = 0 ∨ b = 1 :=
  (bop_isInTheWay _ _ h) _ _ rfl
theorem bo_isInTheWay {M : gM} {a1 : Int} {b : Int} (h : F_isInTheWay M a1 = some b) : b = 0 ∨ b = 1 := by
  rw [eq_isInTheWay] at h
  exact bo_isInTheWay_2 h
theorem okp_isInTheWay {sh : gS} {M : gM} : ∀ (s : Nat × List Int) (b : Int), gWh (st_isInTheWay M) s = some b → (∀ (x1 x2 : Int), s = (0, [x1, x2]) → gOK sh M → gA (gr 2 43) yX12_isInTheWay cX12_isInTheWay 3 (some (.boolean)) (gPq sh (some (0, b)) M) (0, 0) 2 [(4, 711), (0, x1), (0, x2)] [] sh M) := by
  refine gWh_ind (fun k hk s b h => ?_)
  · rintro x1 x2 rfl hOK
    rw [sk_isInTheWay_2] at h
    refine g_iload_n (q0 := 3) (j := 2) rfl dX12_isInTheWay_2 rfl ?_
    refine g_aload_n (q0 := 4) (j := 0) rfl dX12_isInTheWay_3 rfl ?_
    refine g_getp (q0 := 7) (b := 718) rfl ff_X12_28 dX12_isInTheWay_4 rfl hOK (by decide) (sh_711 hOK) rfl (by decide) ?_
    refine g_bipush (q0 := 9) rfl dX12_isInTheWay_7 (k := ?_)
    refine g_iald (q0 := 10) rfl dX12_isInTheWay_9 (sh_718 hOK) (by decide) (by decide) ?_
    refine g_icmp_ge (q0 := 13) (tgt := 60) rfl dX12_isInTheWay_10 (by decide) (fun h10 => ?_) (fun h10 => ?_)
    · replace h := gI_neg (Int.not_lt.mpr h10) h
      refine g_iconst (q0 := 61) rfl dX12_isInTheWay_60 (k := ?_)
      rw [← Option.some.inj h]
      refine g_zreturn dX12_isInTheWay_61 rfl (gnz (Or.inl rfl)) ⟨Nat.zero_le _, Nat.zero_le _⟩ ?_
      exact ⟨rfl, rfl, rfl⟩
    · replace h := gI_pos h10 h
      refine g_aload_n (q0 := 14) (j := 0) rfl dX12_isInTheWay_13 rfl ?_
      refine g_bipush (q0 := 16) rfl dX12_isInTheWay_14 (k := ?_)
      refine g_iload_n (q0 := 17) (j := 2) rfl dX12_isInTheWay_16 rfl ?_
      obtain ⟨r17, e17, h⟩ := gI_bd h
      refine g_callVq1 (as := [_, _]) (rest := []) mt_X12_pathAt mi_X12_pathAt se_X12_pathAt ml_X12_162 dX12_isInTheWay_17 (q0 := 20) rfl rfl (sh_711 hOK) rfl rfl (ok_pathAt hOK e17) rfl ⟨by decide, by decide⟩ (Nat.le_of_ble_eq_true rfl) ⟨Nat.zero_le _, Nat.zero_le _⟩ ?_
      refine g_iload_n (q0 := 21) (j := 1) rfl dX12_isInTheWay_20 rfl ?_
      refine g_icmp_eq (q0 := 24) (tgt := 52) rfl dX12_isInTheWay_21 (by decide) (fun h21 => ?_) (fun h21 => ?_)
      · replace h := gI_pos h21 h
        refine g_iconst (q0 := 53) rfl dX12_isInTheWay_52 (k := ?_)
        rw [← Option.some.inj h]
        refine g_zreturn dX12_isInTheWay_53 rfl (gnz (Or.inr rfl)) ⟨Nat.zero_le _, Nat.zero_le _⟩ ?_
        exact ⟨rfl, rfl, rfl⟩
      · replace h := gI_neg h21 h
        refine g_aload_n (q0 := 25) (j := 0) rfl dX12_isInTheWay_24 rfl ?_
        refine g_bipush (q0 := 27) rfl dX12_isInTheWay_25 (k := ?_)
        refine g_iload_n (q0 := 28) (j := 2) rfl dX12_isInTheWay_27 rfl ?_
        obtain ⟨r28, e28, h⟩ := gI_bd h
        refine g_callVq1 (as := [_, _]) (rest := []) mt_X12_pathAt mi_X12_pathAt se_X12_pathAt ml_X12_162 dX12_isInTheWay_28 (q0 := 31) rfl rfl (sh_711 hOK) rfl rfl (ok_pathAt hOK e28) rfl ⟨by decide, by decide⟩ (Nat.le_of_ble_eq_true rfl) ⟨Nat.zero_le _, Nat.zero_le _⟩ ?_
        refine g_iload_n (q0 := 32) (j := 1) rfl dX12_isInTheWay_31 rfl ?_
        obtain ⟨r32, e32, h⟩ := gI_bd h
        refine g_callSq1 (as := [_, _]) (rest := []) mt_X12_begins ms_X12_begins ml_X12_154 dX12_isInTheWay_32 (q0 := 35) rfl rfl (ok_begins hOK e32) rfl ⟨by decide, by decide⟩ (Nat.le_of_ble_eq_true rfl) ⟨Nat.zero_le _, Nat.zero_le _⟩ ?_
        refine g_if_ne (q0 := 38) (tgt := 52) rfl dX12_isInTheWay_35 (by decide) (fun h35 => ?_) (fun h35 => ?_)
        · replace h := gI_neg h35 h
          refine g_iconst (q0 := 53) rfl dX12_isInTheWay_52 (k := ?_)
          rw [← Option.some.inj h]
          refine g_zreturn dX12_isInTheWay_53 rfl (gnz (Or.inr rfl)) ⟨Nat.zero_le _, Nat.zero_le _⟩ ?_
          exact ⟨rfl, rfl, rfl⟩
        · replace h := gI_pos h35 h
          refine g_iload_n (q0 := 39) (j := 1) rfl dX12_isInTheWay_38 rfl ?_
          refine g_aload_n (q0 := 40) (j := 0) rfl dX12_isInTheWay_39 rfl ?_
          refine g_bipush (q0 := 42) rfl dX12_isInTheWay_40 (k := ?_)
          refine g_iload_n (q0 := 43) (j := 2) rfl dX12_isInTheWay_42 rfl ?_
          obtain ⟨r43, e43, h⟩ := gI_bd h
          refine g_callVq1 (as := [_, _]) (rest := [_]) mt_X12_pathAt mi_X12_pathAt se_X12_pathAt ml_X12_162 dX12_isInTheWay_43 (q0 := 46) rfl rfl (sh_711 hOK) rfl rfl (ok_pathAt hOK e43) rfl ⟨by decide, by decide⟩ (Nat.le_of_ble_eq_true rfl) ⟨Nat.zero_le _, Nat.zero_le _⟩ ?_
          obtain ⟨r46, e46, h⟩ := gI_bd h
          refine g_callSq1 (as := [_, _]) (rest := []) mt_X12_begins ms_X12_begins ml_X12_154 dX12_isInTheWay_46 (q0 := 49) rfl rfl (ok_begins hOK e46) rfl ⟨by decide, by decide⟩ (Nat.le_of_ble_eq_true rfl) ⟨Nat.zero_le _, Nat.zero_le _⟩ ?_
          refine g_if_eq (q0 := 52) (tgt := 54) rfl dX12_isInTheWay_49 (by decide) (fun h49 => ?_) (fun h49 => ?_)
          · replace h := gI_pos h49 h
            refine g_iincw (q0 := 57) (lv2 := [_, _, _]) rfl dX12_isInTheWay_54 rfl (by decide) rfl rfl ?_
            refine g_goto (tgt := 2) dX12_isInTheWay_57 (by decide) ?_
            exact (hk _ _ h) _ _ rfl hOK
          · replace h := gI_neg h49 h
            refine g_iconst (q0 := 53) rfl dX12_isInTheWay_52 (k := ?_)
            rw [← Option.some.inj h]
            refine g_zreturn dX12_isInTheWay_53 rfl (gnz (Or.inr rfl)) ⟨Nat.zero_le _, Nat.zero_le _⟩ ?_
            exact ⟨rfl, rfl, rfl⟩
theorem ok_isInTheWay_2 {sh : gS} {M : gM} {x1 x2 : Int} {b : Int} (hOK : gOK sh M) (h : F_isInTheWay_2 M x1 x2 = some b) : gA (gr 2 43) yX12_isInTheWay cX12_isInTheWay 3 (some (.boolean)) (gPq sh (some (0, b)) M) (0, 0) 2 [(4, 711), (0, x1), (0, x2)] [] sh M :=
  (okp_isInTheWay _ _ h) _ _ rfl hOK
theorem ok_isInTheWay {sh : gS} {M : gM} {a1 : Int} {b : Int} (hOK : gOK sh M) (h : F_isInTheWay M a1 = some b) : gC (gr 2 43) yX12_isInTheWay cX12_isInTheWay 3 (some (.boolean)) [(4, 711), (0, a1)] sh M (gPq sh (some (0, b)) M) := by
  rw [eq_isInTheWay] at h
  refine gC_ofA (lv := [_, _, _]) (by decide +kernel) (Nat.le_of_ble_eq_true rfl) rfl (fun hMw hav => ?_)
  refine g_iconst (q0 := 1) rfl dX12_isInTheWay_0 (k := ?_)
  refine g_istore_n (q0 := 2) (j := 2) (lv2 := [_, _, _]) rfl dX12_isInTheWay_1 (by decide) rfl rfl ?_
  exact ok_isInTheWay_2 hOK h
-- ==== swapped
theorem dX12_swapped_0 : decode cX12_swapped 0 = .ok (.iconst 0, 1) := by decide +kernel
theorem dX12_swapped_1 : decode cX12_swapped 1 = .ok (.istore_n 3, 1) := by decide +kernel
theorem dX12_swapped_2 : decode cX12_swapped 2 = .ok (.iload_n 3, 1) := by decide +kernel
theorem dX12_swapped_3 : decode cX12_swapped 3 = .ok (.aload_n 0, 1) := by decide +kernel
theorem dX12_swapped_4 : decode cX12_swapped 4 = .ok (.iload_n 1, 1) := by decide +kernel
theorem dX12_swapped_5 : decode cX12_swapped 5 = .ok (.iconst 4, 1) := by decide +kernel
theorem dX12_swapped_6 : decode cX12_swapped 6 = .ok (.invokevirtual 455, 3) := by decide +kernel
theorem dX12_swapped_9 : decode cX12_swapped 9 = .ok (.if_icmp .ge 28, 3) := by decide +kernel
theorem dX12_swapped_12 : decode cX12_swapped 12 = .ok (.aload_n 0, 1) := by decide +kernel
theorem dX12_swapped_13 : decode cX12_swapped 13 = .ok (.iload_n 1, 1) := by decide +kernel
theorem dX12_swapped_14 : decode cX12_swapped 14 = .ok (.iconst 4, 1) := by decide +kernel
theorem dX12_swapped_15 : decode cX12_swapped 15 = .ok (.iload_n 3, 1) := by decide +kernel
theorem dX12_swapped_16 : decode cX12_swapped 16 = .ok (.invokevirtual 464, 3) := by decide +kernel
theorem dX12_swapped_19 : decode cX12_swapped 19 = .ok (.iload_n 2, 1) := by decide +kernel
theorem dX12_swapped_20 : decode cX12_swapped 20 = .ok (.if_icmp .ne 11, 3) := by decide +kernel
theorem dX12_swapped_23 : decode cX12_swapped 23 = .ok (.aload_n 0, 1) := by decide +kernel
theorem dX12_swapped_24 : decode cX12_swapped 24 = .ok (.iload_n 1, 1) := by decide +kernel
theorem dX12_swapped_25 : decode cX12_swapped 25 = .ok (.iconst 4, 1) := by decide +kernel
theorem dX12_swapped_26 : decode cX12_swapped 26 = .ok (.iload_n 3, 1) := by decide +kernel
theorem dX12_swapped_27 : decode cX12_swapped 27 = .ok (.invokevirtual 470, 3) := by decide +kernel
theorem dX12_swapped_30 : decode cX12_swapped 30 = .ok (.ireturn, 1) := by decide +kernel
theorem dX12_swapped_31 : decode cX12_swapped 31 = .ok (.iinc 3 1, 3) := by decide +kernel
theorem dX12_swapped_34 : decode cX12_swapped 34 = .ok (.goto (-32), 3) := by decide +kernel
theorem dX12_swapped_37 : decode cX12_swapped 37 = .ok (.iload_n 2, 1) := by decide +kernel
theorem dX12_swapped_38 : decode cX12_swapped 38 = .ok (.ireturn, 1) := by decide +kernel
noncomputable def st_swapped (M : gM) : Nat × List Int → Option ((Nat × List Int) ⊕ (Int))
  | (0, [x1, x2, x3]) => (Option.bind (F_manyOf M x1 4) (fun r6 =>
      (if x3 < r6 then
        (Option.bind (F_firstOf M x1 4 x3) (fun r16 =>
          (if r16 = x2 then
            (Option.bind (F_secondOf M x1 4 x3) (fun r27 =>
              some (.inr r27)))
          else
            some (.inl (0, [x1, x2, (gw32 (x3 + 1))])))))
      else
        some (.inr x2))))
  | _ => none
theorem sk_swapped_2 (k : Nat × List Int → Option (Int)) (M : gM) (x1 x2 x3 : Int) : gWk k (st_swapped M (0, [x1, x2, x3])) = (Option.bind (F_manyOf M x1 4) (fun r6 =>
    (if x3 < r6 then
      (Option.bind (F_firstOf M x1 4 x3) (fun r16 =>
        (if r16 = x2 then
          (Option.bind (F_secondOf M x1 4 x3) (fun r27 =>
            some r27))
        else
          k (0, [x1, x2, (gw32 (x3 + 1))]))))
    else
      some x2))) := by
  simp only [st_swapped, gWk_ite, gWk_bind, gWk_inl, gWk_inr, gWk_none]
noncomputable def F_swapped_2 (M : gM) (x1 x2 x3 : Int) : Option (Int) := gWh (st_swapped M) (0, [x1, x2, x3])
theorem eq_swapped_2 (M : gM) (x1 x2 x3 : Int) : F_swapped_2 M x1 x2 x3 = (Option.bind (F_manyOf M x1 4) (fun r6 =>
    (if x3 < r6 then
      (Option.bind (F_firstOf M x1 4 x3) (fun r16 =>
        (if r16 = x2 then
          (Option.bind (F_secondOf M x1 4 x3) (fun r27 =>
            some r27))
        else
          F_swapped_2 M x1 x2 (gw32 (x3 + 1)))))
    else
      some x2))) := (gWh_eq _).trans (sk_swapped_2 _ M x1 x2 x3)
noncomputable def F_swapped (M : gM) (a1 a2 : Int) : Option (Int) := F_swapped_2 M a1 a2 0
theorem eq_swapped (M : gM) (a1 a2 : Int) : F_swapped M a1 a2 = F_swapped_2 M a1 a2 0 := rfl
theorem okp_swapped {sh : gS} {M : gM} : ∀ (s : Nat × List Int) (b : Int), gWh (st_swapped M) s = some b → (∀ (x1 x2 x3 : Int), s = (0, [x1, x2, x3]) → gOK sh M → gA (gr 2 43) yX12_swapped cX12_swapped 4 (some (.int)) (gPq sh (some (0, b)) M) (0, 0) 2 [(4, 711), (0, x1), (0, x2), (0, x3)] [] sh M) := by
  refine gWh_ind (fun k hk s b h => ?_)
  · rintro x1 x2 x3 rfl hOK
    rw [sk_swapped_2] at h
    refine g_iload_n (q0 := 3) (j := 3) rfl dX12_swapped_2 rfl ?_
    refine g_aload_n (q0 := 4) (j := 0) rfl dX12_swapped_3 rfl ?_
    refine g_iload_n (q0 := 5) (j := 1) rfl dX12_swapped_4 rfl ?_
    refine g_iconst (q0 := 6) rfl dX12_swapped_5 (k := ?_)
    obtain ⟨r6, e6, h⟩ := gI_bd h
    refine g_callVq1 (as := [_, _]) (rest := [_]) mt_X12_manyOf mi_X12_manyOf se_X12_manyOf ml_X12_455 dX12_swapped_6 (q0 := 9) rfl rfl (sh_711 hOK) rfl rfl (ok_manyOf hOK e6) rfl ⟨by decide, by decide⟩ (Nat.le_of_ble_eq_true rfl) ⟨Nat.zero_le _, Nat.zero_le _⟩ ?_
    refine g_icmp_ge (q0 := 12) (tgt := 37) rfl dX12_swapped_9 (by decide) (fun h9 => ?_) (fun h9 => ?_)
    · replace h := gI_neg (Int.not_lt.mpr h9) h
      refine g_iload_n (q0 := 38) (j := 2) rfl dX12_swapped_37 rfl ?_
      rw [← Option.some.inj h]
      refine g_ireturn dX12_swapped_38 rfl ⟨Nat.zero_le _, Nat.zero_le _⟩ ?_
      exact ⟨rfl, rfl, rfl⟩
    · replace h := gI_pos h9 h
      refine g_aload_n (q0 := 13) (j := 0) rfl dX12_swapped_12 rfl ?_
      refine g_iload_n (q0 := 14) (j := 1) rfl dX12_swapped_13 rfl ?_
      refine g_iconst (q0 := 15) rfl dX12_swapped_14 (k := ?_)
      refine g_iload_n (q0 := 16) (j := 3) rfl dX12_swapped_15 rfl ?_
      obtain ⟨r16, e16, h⟩ := gI_bd h
      refine g_callVq1 (as := [_, _, _]) (rest := []) mt_X12_firstOf mi_X12_firstOf se_X12_firstOf ml_X12_464 dX12_swapped_16 (q0 := 19) rfl rfl (sh_711 hOK) rfl rfl (ok_firstOf hOK e16) rfl ⟨by decide, by decide⟩ (Nat.le_of_ble_eq_true rfl) ⟨Nat.zero_le _, Nat.zero_le _⟩ ?_
      refine g_iload_n (q0 := 20) (j := 2) rfl dX12_swapped_19 rfl ?_
      refine g_icmp_ne (q0 := 23) (tgt := 31) rfl dX12_swapped_20 (by decide) (fun h20 => ?_) (fun h20 => ?_)
      · replace h := gI_neg h20 h
        refine g_iincw (q0 := 34) (lv2 := [_, _, _, _]) rfl dX12_swapped_31 rfl (by decide) rfl rfl ?_
        refine g_goto (tgt := 2) dX12_swapped_34 (by decide) ?_
        exact (hk _ _ h) _ _ _ rfl hOK
      · replace h := gI_pos h20 h
        refine g_aload_n (q0 := 24) (j := 0) rfl dX12_swapped_23 rfl ?_
        refine g_iload_n (q0 := 25) (j := 1) rfl dX12_swapped_24 rfl ?_
        refine g_iconst (q0 := 26) rfl dX12_swapped_25 (k := ?_)
        refine g_iload_n (q0 := 27) (j := 3) rfl dX12_swapped_26 rfl ?_
        obtain ⟨r27, e27, h⟩ := gI_bd h
        refine g_callVq1 (as := [_, _, _]) (rest := []) mt_X12_secondOf mi_X12_secondOf se_X12_secondOf ml_X12_470 dX12_swapped_27 (q0 := 30) rfl rfl (sh_711 hOK) rfl rfl (ok_secondOf hOK e27) rfl ⟨by decide, by decide⟩ (Nat.le_of_ble_eq_true rfl) ⟨Nat.zero_le _, Nat.zero_le _⟩ ?_
        rw [← Option.some.inj h]
        refine g_ireturn dX12_swapped_30 rfl ⟨Nat.zero_le _, Nat.zero_le _⟩ ?_
        exact ⟨rfl, rfl, rfl⟩
theorem ok_swapped_2 {sh : gS} {M : gM} {x1 x2 x3 : Int} {b : Int} (hOK : gOK sh M) (h : F_swapped_2 M x1 x2 x3 = some b) : gA (gr 2 43) yX12_swapped cX12_swapped 4 (some (.int)) (gPq sh (some (0, b)) M) (0, 0) 2 [(4, 711), (0, x1), (0, x2), (0, x3)] [] sh M :=
  (okp_swapped _ _ h) _ _ _ rfl hOK
theorem ok_swapped {sh : gS} {M : gM} {a1 a2 : Int} {b : Int} (hOK : gOK sh M) (h : F_swapped M a1 a2 = some b) : gC (gr 2 43) yX12_swapped cX12_swapped 4 (some (.int)) [(4, 711), (0, a1), (0, a2)] sh M (gPq sh (some (0, b)) M) := by
  rw [eq_swapped] at h
  refine gC_ofA (lv := [_, _, _, _]) (by decide +kernel) (Nat.le_of_ble_eq_true rfl) rfl (fun hMw hav => ?_)
  refine g_iconst (q0 := 1) rfl dX12_swapped_0 (k := ?_)
  refine g_istore_n (q0 := 2) (j := 3) (lv2 := [_, _, _, _]) rfl dX12_swapped_1 (by decide) rfl rfl ?_
  exact ok_swapped_2 hOK h
-- ==== carriesTree
theorem dX12_carriesTree_0 : decode cX12_carriesTree 0 = .ok (.aload_n 0, 1) := by decide +kernel
theorem dX12_carriesTree_1 : decode cX12_carriesTree 1 = .ok (.getfield 28, 3) := by decide +kernel
theorem dX12_carriesTree_4 : decode cX12_carriesTree 4 = .ok (.bipush 121, 2) := by decide +kernel
theorem dX12_carriesTree_6 : decode cX12_carriesTree 6 = .ok (.iconst 0, 1) := by decide +kernel
theorem dX12_carriesTree_7 : decode cX12_carriesTree 7 = .ok (.iastore, 1) := by decide +kernel
theorem dX12_carriesTree_8 : decode cX12_carriesTree 8 = .ok (.aload_n 0, 1) := by decide +kernel
theorem dX12_carriesTree_9 : decode cX12_carriesTree 9 = .ok (.iconst 0, 1) := by decide +kernel
theorem dX12_carriesTree_10 : decode cX12_carriesTree 10 = .ok (.putfield 492, 3) := by decide +kernel
theorem dX12_carriesTree_13 : decode cX12_carriesTree 13 = .ok (.aload_n 0, 1) := by decide +kernel
theorem dX12_carriesTree_14 : decode cX12_carriesTree 14 = .ok (.iconst 0, 1) := by decide +kernel
theorem dX12_carriesTree_15 : decode cX12_carriesTree 15 = .ok (.putfield 495, 3) := by decide +kernel
theorem dX12_carriesTree_18 : decode cX12_carriesTree 18 = .ok (.iconst 0, 1) := by decide +kernel
theorem dX12_carriesTree_19 : decode cX12_carriesTree 19 = .ok (.istore_n 3, 1) := by decide +kernel
theorem dX12_carriesTree_20 : decode cX12_carriesTree 20 = .ok (.iload_n 3, 1) := by decide +kernel
theorem dX12_carriesTree_21 : decode cX12_carriesTree 21 = .ok (.aload_n 0, 1) := by decide +kernel
theorem dX12_carriesTree_22 : decode cX12_carriesTree 22 = .ok (.getfield 28, 3) := by decide +kernel
theorem dX12_carriesTree_25 : decode cX12_carriesTree 25 = .ok (.iload_n 2, 1) := by decide +kernel
theorem dX12_carriesTree_26 : decode cX12_carriesTree 26 = .ok (.iaload, 1) := by decide +kernel
theorem dX12_carriesTree_27 : decode cX12_carriesTree 27 = .ok (.if_icmp .ge 92, 3) := by decide +kernel
theorem dX12_carriesTree_30 : decode cX12_carriesTree 30 = .ok (.aload_n 0, 1) := by decide +kernel
theorem dX12_carriesTree_31 : decode cX12_carriesTree 31 = .ok (.iload_n 1, 1) := by decide +kernel
theorem dX12_carriesTree_32 : decode cX12_carriesTree 32 = .ok (.iload_n 2, 1) := by decide +kernel
theorem dX12_carriesTree_33 : decode cX12_carriesTree 33 = .ok (.iload_n 3, 1) := by decide +kernel
theorem dX12_carriesTree_34 : decode cX12_carriesTree 34 = .ok (.invokevirtual 498, 3) := by decide +kernel
theorem dX12_carriesTree_37 : decode cX12_carriesTree 37 = .ok (.ifCond .ne 6, 3) := by decide +kernel
theorem dX12_carriesTree_40 : decode cX12_carriesTree 40 = .ok (.goto 73, 3) := by decide +kernel
theorem dX12_carriesTree_43 : decode cX12_carriesTree 43 = .ok (.aload_n 0, 1) := by decide +kernel
theorem dX12_carriesTree_44 : decode cX12_carriesTree 44 = .ok (.aload_n 0, 1) := by decide +kernel
theorem dX12_carriesTree_45 : decode cX12_carriesTree 45 = .ok (.getfield 492, 3) := by decide +kernel
theorem dX12_carriesTree_48 : decode cX12_carriesTree 48 = .ok (.iconst 1, 1) := by decide +kernel
theorem dX12_carriesTree_49 : decode cX12_carriesTree 49 = .ok (.iadd, 1) := by decide +kernel
theorem dX12_carriesTree_50 : decode cX12_carriesTree 50 = .ok (.putfield 492, 3) := by decide +kernel
theorem dX12_carriesTree_53 : decode cX12_carriesTree 53 = .ok (.aload_n 0, 1) := by decide +kernel
theorem dX12_carriesTree_54 : decode cX12_carriesTree 54 = .ok (.iload_n 1, 1) := by decide +kernel
theorem dX12_carriesTree_55 : decode cX12_carriesTree 55 = .ok (.aload_n 0, 1) := by decide +kernel
theorem dX12_carriesTree_56 : decode cX12_carriesTree 56 = .ok (.iload_n 2, 1) := by decide +kernel
theorem dX12_carriesTree_57 : decode cX12_carriesTree 57 = .ok (.iload_n 3, 1) := by decide +kernel
theorem dX12_carriesTree_58 : decode cX12_carriesTree 58 = .ok (.invokevirtual 162, 3) := by decide +kernel
theorem dX12_carriesTree_61 : decode cX12_carriesTree 61 = .ok (.invokevirtual 501, 3) := by decide +kernel
theorem dX12_carriesTree_64 : decode cX12_carriesTree 64 = .ok (.istore 4, 2) := by decide +kernel
theorem dX12_carriesTree_66 : decode cX12_carriesTree 66 = .ok (.iload 4, 2) := by decide +kernel
theorem dX12_carriesTree_68 : decode cX12_carriesTree 68 = .ok (.iconst (-1), 1) := by decide +kernel
theorem dX12_carriesTree_69 : decode cX12_carriesTree 69 = .ok (.if_icmp .eq 12, 3) := by decide +kernel
theorem dX12_carriesTree_72 : decode cX12_carriesTree 72 = .ok (.aload_n 0, 1) := by decide +kernel
theorem dX12_carriesTree_73 : decode cX12_carriesTree 73 = .ok (.iload 4, 2) := by decide +kernel
theorem dX12_carriesTree_75 : decode cX12_carriesTree 75 = .ok (.invokevirtual 504, 3) := by decide +kernel
theorem dX12_carriesTree_78 : decode cX12_carriesTree 78 = .ok (.ifCond .eq 16, 3) := by decide +kernel
theorem dX12_carriesTree_81 : decode cX12_carriesTree 81 = .ok (.aload_n 0, 1) := by decide +kernel
theorem dX12_carriesTree_82 : decode cX12_carriesTree 82 = .ok (.aload_n 0, 1) := by decide +kernel
theorem dX12_carriesTree_83 : decode cX12_carriesTree 83 = .ok (.getfield 495, 3) := by decide +kernel
theorem dX12_carriesTree_86 : decode cX12_carriesTree 86 = .ok (.iconst 1, 1) := by decide +kernel
theorem dX12_carriesTree_87 : decode cX12_carriesTree 87 = .ok (.iadd, 1) := by decide +kernel
theorem dX12_carriesTree_88 : decode cX12_carriesTree 88 = .ok (.putfield 495, 3) := by decide +kernel
theorem dX12_carriesTree_91 : decode cX12_carriesTree 91 = .ok (.goto 22, 3) := by decide +kernel
theorem dX12_carriesTree_94 : decode cX12_carriesTree 94 = .ok (.aload_n 0, 1) := by decide +kernel
theorem dX12_carriesTree_95 : decode cX12_carriesTree 95 = .ok (.bipush 121, 2) := by decide +kernel
theorem dX12_carriesTree_97 : decode cX12_carriesTree 97 = .ok (.iload 4, 2) := by decide +kernel
theorem dX12_carriesTree_99 : decode cX12_carriesTree 99 = .ok (.aload_n 0, 1) := by decide +kernel
theorem dX12_carriesTree_100 : decode cX12_carriesTree 100 = .ok (.iload_n 1, 1) := by decide +kernel
theorem dX12_carriesTree_101 : decode cX12_carriesTree 101 = .ok (.aload_n 0, 1) := by decide +kernel
theorem dX12_carriesTree_102 : decode cX12_carriesTree 102 = .ok (.iload_n 2, 1) := by decide +kernel
theorem dX12_carriesTree_103 : decode cX12_carriesTree 103 = .ok (.iload_n 3, 1) := by decide +kernel
theorem dX12_carriesTree_104 : decode cX12_carriesTree 104 = .ok (.invokevirtual 169, 3) := by decide +kernel
theorem dX12_carriesTree_107 : decode cX12_carriesTree 107 = .ok (.invokevirtual 507, 3) := by decide +kernel
theorem dX12_carriesTree_110 : decode cX12_carriesTree 110 = .ok (.invokevirtual 309, 3) := by decide +kernel
theorem dX12_carriesTree_113 : decode cX12_carriesTree 113 = .ok (.iinc 3 1, 3) := by decide +kernel
theorem dX12_carriesTree_116 : decode cX12_carriesTree 116 = .ok (.goto (-96), 3) := by decide +kernel
theorem dX12_carriesTree_119 : decode cX12_carriesTree 119 = .ok (.return_, 1) := by decide +kernel
noncomputable def st_carriesTree : Nat × List Int × gM → Option ((Nat × List Int × gM) ⊕ (gM))
  | (0, [x1, x2, x3], M) => (if 0 ≤ x2 ∧ x2 < 123 then
      (if x3 < (M 718 x2) then
        (Option.bind (F_isTaken M x1 x2 x3) (fun r34 =>
          (if r34 = 0 then
            some (.inl (0, [x1, x2, (gw32 (x3 + 1))], M))
          else
            (Option.bind (F_pathAt (gU M 711 32 (gw32 ((M 711 32) + (1 : Int)))) x2 x3) (fun r58 =>
              (Option.bind (F_carriedPath (gU M 711 32 (gw32 ((M 711 32) + (1 : Int)))) x1 r58) (fun r61 =>
                (if r61 = -1 then
                  some (.inl (0, [x1, x2, (gw32 (x3 + 1))], (gU (gU M 711 32 (gw32 ((M 711 32) + (1 : Int)))) 711 33 (gw32 (((gU M 711 32 (gw32 ((M 711 32) + (1 : Int)))) 711 33) + (1 : Int))))))
                else
                  (Option.bind (F_isInTheWay (gU M 711 32 (gw32 ((M 711 32) + (1 : Int)))) r61) (fun r75 =>
                    (if r75 = 0 then
                      (Option.bind (F_contentAt (gU M 711 32 (gw32 ((M 711 32) + (1 : Int)))) x2 x3) (fun r104 =>
                        (Option.bind (F_swapped (gU M 711 32 (gw32 ((M 711 32) + (1 : Int)))) x1 r104) (fun r107 =>
                          (Option.bind (F_puts (gU M 711 32 (gw32 ((M 711 32) + (1 : Int)))) 121 r61 r107) (fun m110 =>
                            some (.inl (0, [x1, x2, (gw32 (x3 + 1))], m110))))))))
                    else
                      some (.inl (0, [x1, x2, (gw32 (x3 + 1))], (gU (gU M 711 32 (gw32 ((M 711 32) + (1 : Int)))) 711 33 (gw32 (((gU M 711 32 (gw32 ((M 711 32) + (1 : Int)))) 711 33) + (1 : Int)))))))))))))))))
      else
        some (.inr M))
    else none)
  | _ => none
theorem sk_carriesTree_20 (k : Nat × List Int × gM → Option (gM)) (M : gM) (x1 x2 x3 : Int) : gWk k (st_carriesTree (0, [x1, x2, x3], M)) = (if 0 ≤ x2 ∧ x2 < 123 then
    (if x3 < (M 718 x2) then
      (Option.bind (F_isTaken M x1 x2 x3) (fun r34 =>
        (if r34 = 0 then
          k (0, [x1, x2, (gw32 (x3 + 1))], M)
        else
          (Option.bind (F_pathAt (gU M 711 32 (gw32 ((M 711 32) + (1 : Int)))) x2 x3) (fun r58 =>
            (Option.bind (F_carriedPath (gU M 711 32 (gw32 ((M 711 32) + (1 : Int)))) x1 r58) (fun r61 =>
              (if r61 = -1 then
                k (0, [x1, x2, (gw32 (x3 + 1))], (gU (gU M 711 32 (gw32 ((M 711 32) + (1 : Int)))) 711 33 (gw32 (((gU M 711 32 (gw32 ((M 711 32) + (1 : Int)))) 711 33) + (1 : Int)))))
              else
                (Option.bind (F_isInTheWay (gU M 711 32 (gw32 ((M 711 32) + (1 : Int)))) r61) (fun r75 =>
                  (if r75 = 0 then
                    (Option.bind (F_contentAt (gU M 711 32 (gw32 ((M 711 32) + (1 : Int)))) x2 x3) (fun r104 =>
                      (Option.bind (F_swapped (gU M 711 32 (gw32 ((M 711 32) + (1 : Int)))) x1 r104) (fun r107 =>
                        (Option.bind (F_puts (gU M 711 32 (gw32 ((M 711 32) + (1 : Int)))) 121 r61 r107) (fun m110 =>
                          k (0, [x1, x2, (gw32 (x3 + 1))], m110)))))))
                  else
                    k (0, [x1, x2, (gw32 (x3 + 1))], (gU (gU M 711 32 (gw32 ((M 711 32) + (1 : Int)))) 711 33 (gw32 (((gU M 711 32 (gw32 ((M 711 32) + (1 : Int)))) 711 33) + (1 : Int))))))))))))))))
    else
      some M)
  else none) := by
  simp only [st_carriesTree, gWk_ite, gWk_bind, gWk_inl, gWk_inr, gWk_none]
noncomputable def F_carriesTree_20 (M : gM) (x1 x2 x3 : Int) : Option (gM) := gWh (st_carriesTree) (0, [x1, x2, x3], M)
theorem eq_carriesTree_20 (M : gM) (x1 x2 x3 : Int) : F_carriesTree_20 M x1 x2 x3 = (if 0 ≤ x2 ∧ x2 < 123 then
    (if x3 < (M 718 x2) then
      (Option.bind (F_isTaken M x1 x2 x3) (fun r34 =>
        (if r34 = 0 then
          F_carriesTree_20 M x1 x2 (gw32 (x3 + 1))
        else
          (Option.bind (F_pathAt (gU M 711 32 (gw32 ((M 711 32) + (1 : Int)))) x2 x3) (fun r58 =>
            (Option.bind (F_carriedPath (gU M 711 32 (gw32 ((M 711 32) + (1 : Int)))) x1 r58) (fun r61 =>
              (if r61 = -1 then
                F_carriesTree_20 (gU (gU M 711 32 (gw32 ((M 711 32) + (1 : Int)))) 711 33 (gw32 (((gU M 711 32 (gw32 ((M 711 32) + (1 : Int)))) 711 33) + (1 : Int)))) x1 x2 (gw32 (x3 + 1))
              else
                (Option.bind (F_isInTheWay (gU M 711 32 (gw32 ((M 711 32) + (1 : Int)))) r61) (fun r75 =>
                  (if r75 = 0 then
                    (Option.bind (F_contentAt (gU M 711 32 (gw32 ((M 711 32) + (1 : Int)))) x2 x3) (fun r104 =>
                      (Option.bind (F_swapped (gU M 711 32 (gw32 ((M 711 32) + (1 : Int)))) x1 r104) (fun r107 =>
                        (Option.bind (F_puts (gU M 711 32 (gw32 ((M 711 32) + (1 : Int)))) 121 r61 r107) (fun m110 =>
                          F_carriesTree_20 m110 x1 x2 (gw32 (x3 + 1))))))))
                  else
                    F_carriesTree_20 (gU (gU M 711 32 (gw32 ((M 711 32) + (1 : Int)))) 711 33 (gw32 (((gU M 711 32 (gw32 ((M 711 32) + (1 : Int)))) 711 33) + (1 : Int)))) x1 x2 (gw32 (x3 + 1)))))))))))))
    else
      some M)
  else none) := (gWh_eq _).trans (sk_carriesTree_20 _ M x1 x2 x3)
noncomputable def F_carriesTree (M : gM) (a1 a2 : Int) : Option (gM) := F_carriesTree_20 (gU (gU (gU M 718 121 0) 711 32 0) 711 33 0) a1 a2 0
theorem eq_carriesTree (M : gM) (a1 a2 : Int) : F_carriesTree M a1 a2 = F_carriesTree_20 (gU (gU (gU M 718 121 0) 711 32 0) 711 33 0) a1 a2 0 := rfl
theorem frp_carriesTree : ∀ (s : Nat × List Int × gM) (b : gM), gWh (st_carriesTree) s = some b → (∀ (x1 x2 x3 : Int) (M : gM), s = (0, [x1, x2, x3], M) → gFr [718, 719, 720] [32, 33] M b) := by
  refine gWh_ind (fun k hk s b h => ?_)
  · rintro x1 x2 x3 M rfl
    rw [sk_carriesTree_20] at h
    obtain ⟨g1, h⟩ := gI_gd h
    rcases gI_or h with h | h
    · obtain ⟨r34, e34, h⟩ := gI_bd h
      rcases gI_or h with h | h
      · exact gFr_t (gFr_r [718, 719, 720] [32, 33] _) ((hk _ _ h) _ _ _ _ rfl) (fun _ z => z) (fun _ z => z)
      · obtain ⟨r58, e58, h⟩ := gI_bd h
        obtain ⟨r61, e61, h⟩ := gI_bd h
        rcases gI_or h with h | h
        · exact gFr_t (gFr_f (gFr_f (gFr_r [718, 719, 720] [32, 33] _) (.head _)) (.tail _ (.head _))) ((hk _ _ h) _ _ _ _ rfl) (fun _ z => z) (fun _ z => z)
        · obtain ⟨r75, e75, h⟩ := gI_bd h
          rcases gI_or h with h | h
          · obtain ⟨r104, e104, h⟩ := gI_bd h
            obtain ⟨r107, e107, h⟩ := gI_bd h
            obtain ⟨m110, e110, h⟩ := gI_bd h
            exact gFr_t (gFr_t (gFr_f (gFr_r [718, 719, 720] [32, 33] _) (.head _)) (fr_puts (b := m110) e110) (by first | decide | simp) (by decide)) ((hk _ _ h) _ _ _ _ rfl) (fun _ z => z) (fun _ z => z)
          · exact gFr_t (gFr_f (gFr_f (gFr_r [718, 719, 720] [32, 33] _) (.head _)) (.tail _ (.head _))) ((hk _ _ h) _ _ _ _ rfl) (fun _ z => z) (fun _ z => z)
    · rw [← Option.some.inj h]
      exact (gFr_r [718, 719, 720] [32, 33] _)
theorem fr_carriesTree_20 {M : gM} {x1 x2 x3 : Int} {b : gM} (h : F_carriesTree_20 M x1 x2 x3 = some b) : gFr [718, 719, 720] [32, 33] M b :=
  (frp_carriesTree _ _ h) _ _ _ _ rfl
theorem fr_carriesTree {M : gM} {a1 a2 : Int} {b : gM} (h : F_carriesTree M a1 a2 = some b) : gFr [718, 719, 720] [32, 33] M b := by
  rw [eq_carriesTree] at h
  exact gFr_t (gFr_f (gFr_f (gFr_a (gFr_r [718, 719, 720] [32, 33] _) (.head _) (by decide)) (.head _)) (.tail _ (.head _))) (fr_carriesTree_20 h) (fun _ z => z) (fun _ z => z)
theorem okp_carriesTree {sh : gS} : ∀ (s : Nat × List Int × gM) (b : gM), gWh (st_carriesTree) s = some b → (∀ (x1 x2 x3 : Int) (M : gM), s = (0, [x1, x2, x3], M) → gOK sh M → gA (gr 5 116) yX12_carriesTree cX12_carriesTree 5 none (gPq sh none b) (0, 0) 20 [(4, 711), (0, x1), (0, x2), (0, x3), (9, 0)] [] sh M) := by
  refine gWh_ind (fun k hk s b h => ?_)
  · rintro x1 x2 x3 M rfl hOK
    rw [sk_carriesTree_20] at h
    refine g_iload_n (q0 := 21) (j := 3) rfl dX12_carriesTree_20 rfl ?_
    refine g_aload_n (q0 := 22) (j := 0) rfl dX12_carriesTree_21 rfl ?_
    refine g_getp (q0 := 25) (b := 718) rfl ff_X12_28 dX12_carriesTree_22 rfl hOK (by decide) (sh_711 hOK) rfl (by decide) ?_
    refine g_iload_n (q0 := 26) (j := 2) rfl dX12_carriesTree_25 rfl ?_
    obtain ⟨g1, h⟩ := gI_gd h
    refine g_iald (q0 := 27) rfl dX12_carriesTree_26 (sh_718 hOK) g1.1 g1.2 ?_
    refine g_icmp_ge (q0 := 30) (tgt := 119) rfl dX12_carriesTree_27 (by decide) (fun h27 => ?_) (fun h27 => ?_)
    · replace h := gI_neg (Int.not_lt.mpr h27) h
      rw [← Option.some.inj h]
      refine g_return dX12_carriesTree_119 rfl ⟨Nat.zero_le _, Nat.zero_le _⟩ ?_
      exact ⟨rfl, rfl, rfl⟩
    · replace h := gI_pos h27 h
      refine g_aload_n (q0 := 31) (j := 0) rfl dX12_carriesTree_30 rfl ?_
      refine g_iload_n (q0 := 32) (j := 1) rfl dX12_carriesTree_31 rfl ?_
      refine g_iload_n (q0 := 33) (j := 2) rfl dX12_carriesTree_32 rfl ?_
      refine g_iload_n (q0 := 34) (j := 3) rfl dX12_carriesTree_33 rfl ?_
      obtain ⟨r34, e34, h⟩ := gI_bd h
      refine g_callVq1 (as := [_, _, _]) (rest := []) mt_X12_isTaken mi_X12_isTaken se_X12_isTaken ml_X12_498 dX12_carriesTree_34 (q0 := 37) rfl rfl (sh_711 hOK) rfl rfl (ok_isTaken hOK e34) rfl ⟨by decide, by decide⟩ (Nat.le_of_ble_eq_true rfl) ⟨Nat.zero_le _, Nat.zero_le _⟩ ?_
      refine g_if_ne (q0 := 40) (tgt := 43) rfl dX12_carriesTree_37 (by decide) (fun h37 => ?_) (fun h37 => ?_)
      · replace h := gI_neg h37 h
        refine g_aload_n (q0 := 44) (j := 0) rfl dX12_carriesTree_43 rfl ?_
        refine g_aload_n (q0 := 45) (j := 0) rfl dX12_carriesTree_44 rfl ?_
        refine g_getf (q0 := 48) (t := 0) (fi := 32) rfl rfl ff_X12_492 dX12_carriesTree_45 rfl (sh_711 hOK) ?_
        refine g_iconst (q0 := 49) rfl dX12_carriesTree_48 (k := ?_)
        refine g_iaddw (q0 := 50) rfl dX12_carriesTree_49 ?_
        refine g_put (q0 := 53) (t := 0) (fi := 32) rfl rfl ff_X12_492 dX12_carriesTree_50 rfl (sh_711 hOK) rfl (fun _ => ⟨rfl, rfl⟩) ?_
        have hOK2 : gOK sh (gU M 711 32 (gw32 ((M 711 32) + (1 : Int)))) := gOK_o hOK (sh_711 hOK) (f := 32) rfl rfl
        refine g_aload_n (q0 := 54) (j := 0) rfl dX12_carriesTree_53 rfl ?_
        refine g_iload_n (q0 := 55) (j := 1) rfl dX12_carriesTree_54 rfl ?_
        refine g_aload_n (q0 := 56) (j := 0) rfl dX12_carriesTree_55 rfl ?_
        refine g_iload_n (q0 := 57) (j := 2) rfl dX12_carriesTree_56 rfl ?_
        refine g_iload_n (q0 := 58) (j := 3) rfl dX12_carriesTree_57 rfl ?_
        obtain ⟨r58, e58, h⟩ := gI_bd h
        refine g_callVq1 (as := [_, _]) (rest := [_, _]) mt_X12_pathAt mi_X12_pathAt se_X12_pathAt ml_X12_162 dX12_carriesTree_58 (q0 := 61) rfl rfl (sh_711 hOK2) rfl rfl (ok_pathAt hOK2 e58) rfl ⟨by decide, by decide⟩ (Nat.le_of_ble_eq_true rfl) ⟨Nat.zero_le _, Nat.zero_le _⟩ ?_
        obtain ⟨r61, e61, h⟩ := gI_bd h
        refine g_callVq1 (as := [_, _]) (rest := []) mt_X12_carriedPath mi_X12_carriedPath se_X12_carriedPath ml_X12_501 dX12_carriesTree_61 (q0 := 64) rfl rfl (sh_711 hOK2) rfl rfl (ok_carriedPath hOK2 e61) rfl ⟨by decide, by decide⟩ (Nat.le_of_ble_eq_true rfl) ⟨Nat.zero_le _, Nat.zero_le _⟩ ?_
        refine g_istore (q0 := 66) (j := 4) (lv2 := [_, _, _, _, _]) rfl dX12_carriesTree_64 (by decide) rfl rfl ?_
        refine g_iload (q0 := 68) (j := 4) rfl dX12_carriesTree_66 rfl ?_
        refine g_iconst (q0 := 69) rfl dX12_carriesTree_68 (k := ?_)
        refine g_icmp_eq (q0 := 72) (tgt := 81) rfl dX12_carriesTree_69 (by decide) (fun h69 => ?_) (fun h69 => ?_)
        · replace h := gI_pos h69 h
          refine g_aload_n (q0 := 82) (j := 0) rfl dX12_carriesTree_81 rfl ?_
          refine g_aload_n (q0 := 83) (j := 0) rfl dX12_carriesTree_82 rfl ?_
          refine g_getf (q0 := 86) (t := 0) (fi := 33) rfl rfl ff_X12_495 dX12_carriesTree_83 rfl (sh_711 hOK2) ?_
          refine g_iconst (q0 := 87) rfl dX12_carriesTree_86 (k := ?_)
          refine g_iaddw (q0 := 88) rfl dX12_carriesTree_87 ?_
          refine g_put (q0 := 91) (t := 0) (fi := 33) rfl rfl ff_X12_495 dX12_carriesTree_88 rfl (sh_711 hOK2) rfl (fun _ => ⟨rfl, rfl⟩) ?_
          have hOK3 : gOK sh (gU (gU M 711 32 (gw32 ((M 711 32) + (1 : Int)))) 711 33 (gw32 (((gU M 711 32 (gw32 ((M 711 32) + (1 : Int)))) 711 33) + (1 : Int)))) := gOK_o hOK2 (sh_711 hOK2) (f := 33) rfl rfl
          refine g_goto (tgt := 113) dX12_carriesTree_91 (by decide) ?_
          refine g_iincw (q0 := 116) (lv2 := [_, _, _, _, _]) rfl dX12_carriesTree_113 rfl (by decide) rfl rfl ?_
          refine g_goto (tgt := 20) dX12_carriesTree_116 (by decide) ?_
          refine gA_jk (lv1 := [_, _, _, _, (9, 0)]) ⟨.inl rfl, .inl rfl, .inl rfl, .inl rfl, .inr rfl, trivial⟩ ?_
          exact (hk _ _ h) _ _ _ _ rfl hOK3
        · replace h := gI_neg h69 h
          refine g_aload_n (q0 := 73) (j := 0) rfl dX12_carriesTree_72 rfl ?_
          refine g_iload (q0 := 75) (j := 4) rfl dX12_carriesTree_73 rfl ?_
          obtain ⟨r75, e75, h⟩ := gI_bd h
          refine g_callVq1 (as := [_]) (rest := []) mt_X12_isInTheWay mi_X12_isInTheWay se_X12_isInTheWay ml_X12_504 dX12_carriesTree_75 (q0 := 78) rfl rfl (sh_711 hOK2) rfl rfl (ok_isInTheWay hOK2 e75) rfl ⟨by decide, by decide⟩ (Nat.le_of_ble_eq_true rfl) ⟨Nat.zero_le _, Nat.zero_le _⟩ ?_
          refine g_if_eq (q0 := 81) (tgt := 94) rfl dX12_carriesTree_78 (by decide) (fun h78 => ?_) (fun h78 => ?_)
          · replace h := gI_pos h78 h
            refine g_aload_n (q0 := 95) (j := 0) rfl dX12_carriesTree_94 rfl ?_
            refine g_bipush (q0 := 97) rfl dX12_carriesTree_95 (k := ?_)
            refine g_iload (q0 := 99) (j := 4) rfl dX12_carriesTree_97 rfl ?_
            refine g_aload_n (q0 := 100) (j := 0) rfl dX12_carriesTree_99 rfl ?_
            refine g_iload_n (q0 := 101) (j := 1) rfl dX12_carriesTree_100 rfl ?_
            refine g_aload_n (q0 := 102) (j := 0) rfl dX12_carriesTree_101 rfl ?_
            refine g_iload_n (q0 := 103) (j := 2) rfl dX12_carriesTree_102 rfl ?_
            refine g_iload_n (q0 := 104) (j := 3) rfl dX12_carriesTree_103 rfl ?_
            obtain ⟨r104, e104, h⟩ := gI_bd h
            refine g_callVq1 (as := [_, _]) (rest := [_, _, _, _, _]) mt_X12_contentAt mi_X12_contentAt se_X12_contentAt ml_X12_169 dX12_carriesTree_104 (q0 := 107) rfl rfl (sh_711 hOK2) rfl rfl (ok_contentAt hOK2 e104) rfl ⟨by decide, by decide⟩ (Nat.le_of_ble_eq_true rfl) ⟨Nat.zero_le _, Nat.zero_le _⟩ ?_
            obtain ⟨r107, e107, h⟩ := gI_bd h
            refine g_callVq1 (as := [_, _]) (rest := [_, _, _]) mt_X12_swapped mi_X12_swapped se_X12_swapped ml_X12_507 dX12_carriesTree_107 (q0 := 110) rfl rfl (sh_711 hOK2) rfl rfl (ok_swapped hOK2 e107) rfl ⟨by decide, by decide⟩ (Nat.le_of_ble_eq_true rfl) ⟨Nat.zero_le _, Nat.zero_le _⟩ ?_
            obtain ⟨m110, e110, h⟩ := gI_bd h
            refine g_callVq0 (as := [_, _, _]) (rest := []) mt_X12_puts mi_X12_puts se_X12_puts ml_X12_309 dX12_carriesTree_110 (q0 := 113) rfl rfl (sh_711 hOK2) rfl rfl (ok_puts hOK2 e110) rfl ⟨by decide, by decide⟩ (Nat.le_of_ble_eq_true rfl) ⟨Nat.zero_le _, Nat.zero_le _⟩ ?_
            have hOK4 : gOK sh m110 := gOK_fr hOK2 (fr_puts (b := m110) e110) (by first | decide | (intro a ha; simp only [List.mem_cons, List.not_mem_nil, or_false] at ha; omega)) (by decide)
            refine g_iincw (q0 := 116) (lv2 := [_, _, _, _, _]) rfl dX12_carriesTree_113 rfl (by decide) rfl rfl ?_
            refine g_goto (tgt := 20) dX12_carriesTree_116 (by decide) ?_
            refine gA_jk (lv1 := [_, _, _, _, (9, 0)]) ⟨.inl rfl, .inl rfl, .inl rfl, .inl rfl, .inr rfl, trivial⟩ ?_
            exact (hk _ _ h) _ _ _ _ rfl hOK4
          · replace h := gI_neg h78 h
            refine g_aload_n (q0 := 82) (j := 0) rfl dX12_carriesTree_81 rfl ?_
            refine g_aload_n (q0 := 83) (j := 0) rfl dX12_carriesTree_82 rfl ?_
            refine g_getf (q0 := 86) (t := 0) (fi := 33) rfl rfl ff_X12_495 dX12_carriesTree_83 rfl (sh_711 hOK2) ?_
            refine g_iconst (q0 := 87) rfl dX12_carriesTree_86 (k := ?_)
            refine g_iaddw (q0 := 88) rfl dX12_carriesTree_87 ?_
            refine g_put (q0 := 91) (t := 0) (fi := 33) rfl rfl ff_X12_495 dX12_carriesTree_88 rfl (sh_711 hOK2) rfl (fun _ => ⟨rfl, rfl⟩) ?_
            have hOK5 : gOK sh (gU (gU M 711 32 (gw32 ((M 711 32) + (1 : Int)))) 711 33 (gw32 (((gU M 711 32 (gw32 ((M 711 32) + (1 : Int)))) 711 33) + (1 : Int)))) := gOK_o hOK2 (sh_711 hOK2) (f := 33) rfl rfl
            refine g_goto (tgt := 113) dX12_carriesTree_91 (by decide) ?_
            refine g_iincw (q0 := 116) (lv2 := [_, _, _, _, _]) rfl dX12_carriesTree_113 rfl (by decide) rfl rfl ?_
            refine g_goto (tgt := 20) dX12_carriesTree_116 (by decide) ?_
            refine gA_jk (lv1 := [_, _, _, _, (9, 0)]) ⟨.inl rfl, .inl rfl, .inl rfl, .inl rfl, .inr rfl, trivial⟩ ?_
            exact (hk _ _ h) _ _ _ _ rfl hOK5
      · replace h := gI_pos h37 h
        refine g_goto (tgt := 113) dX12_carriesTree_40 (by decide) ?_
        refine g_iincw (q0 := 116) (lv2 := [_, _, _, _, _]) rfl dX12_carriesTree_113 rfl (by decide) rfl rfl ?_
        refine g_goto (tgt := 20) dX12_carriesTree_116 (by decide) ?_
        exact (hk _ _ h) _ _ _ _ rfl hOK
theorem ok_carriesTree_20 {sh : gS} {M : gM} {x1 x2 x3 : Int} {b : gM} (hOK : gOK sh M) (h : F_carriesTree_20 M x1 x2 x3 = some b) : gA (gr 5 116) yX12_carriesTree cX12_carriesTree 5 none (gPq sh none b) (0, 0) 20 [(4, 711), (0, x1), (0, x2), (0, x3), (9, 0)] [] sh M :=
  (okp_carriesTree _ _ h) _ _ _ _ rfl hOK
theorem ok_carriesTree {sh : gS} {M : gM} {a1 a2 : Int} {b : gM} (hOK : gOK sh M) (h : F_carriesTree M a1 a2 = some b) : gC (gr 5 116) yX12_carriesTree cX12_carriesTree 5 none [(4, 711), (0, a1), (0, a2)] sh M (gPq sh none b) := by
  rw [eq_carriesTree] at h
  refine gC_ofA (lv := [_, _, _, _, _]) (by decide +kernel) (Nat.le_of_ble_eq_true rfl) rfl (fun hMw hav => ?_)
  refine g_aload_n (q0 := 1) (j := 0) rfl dX12_carriesTree_0 rfl ?_
  refine g_getp (q0 := 4) (b := 718) rfl ff_X12_28 dX12_carriesTree_1 rfl hOK (by decide) (sh_711 hOK) rfl (by decide) ?_
  refine g_bipush (q0 := 6) rfl dX12_carriesTree_4 (k := ?_)
  refine g_iconst (q0 := 7) rfl dX12_carriesTree_6 (k := ?_)
  refine g_iast (q0 := 8) rfl dX12_carriesTree_7 (sh_718 hOK) (by decide) (by decide) ?_
  have hOK6 : gOK sh (gU M 718 121 0) := gOK_i hOK (sh_718 hOK)
  refine g_aload_n (q0 := 9) (j := 0) rfl dX12_carriesTree_8 rfl ?_
  refine g_iconst (q0 := 10) rfl dX12_carriesTree_9 (k := ?_)
  refine g_put (q0 := 13) (t := 0) (fi := 32) rfl rfl ff_X12_492 dX12_carriesTree_10 rfl (sh_711 hOK6) rfl (fun _ => ⟨rfl, rfl⟩) ?_
  have hOK7 : gOK sh (gU (gU M 718 121 0) 711 32 0) := gOK_o hOK6 (sh_711 hOK6) (f := 32) rfl rfl
  refine g_aload_n (q0 := 14) (j := 0) rfl dX12_carriesTree_13 rfl ?_
  refine g_iconst (q0 := 15) rfl dX12_carriesTree_14 (k := ?_)
  refine g_put (q0 := 18) (t := 0) (fi := 33) rfl rfl ff_X12_495 dX12_carriesTree_15 rfl (sh_711 hOK7) rfl (fun _ => ⟨rfl, rfl⟩) ?_
  have hOK8 : gOK sh (gU (gU (gU M 718 121 0) 711 32 0) 711 33 0) := gOK_o hOK7 (sh_711 hOK7) (f := 33) rfl rfl
  refine g_iconst (q0 := 19) rfl dX12_carriesTree_18 (k := ?_)
  refine g_istore_n (q0 := 20) (j := 3) (lv2 := [_, _, _, _, _]) rfl dX12_carriesTree_19 (by decide) rfl rfl ?_
  exact ok_carriesTree_20 hOK8 h
-- ==== imageAt
theorem dX12_imageAt_0 : decode cX12_imageAt 0 = .ok (.aload_n 0, 1) := by decide +kernel
theorem dX12_imageAt_1 : decode cX12_imageAt 1 = .ok (.getfield 69, 3) := by decide +kernel
theorem dX12_imageAt_4 : decode cX12_imageAt 4 = .ok (.bipush 120, 2) := by decide +kernel
theorem dX12_imageAt_6 : decode cX12_imageAt 6 = .ok (.iload_n 1, 1) := by decide +kernel
theorem dX12_imageAt_7 : decode cX12_imageAt 7 = .ok (.imul, 1) := by decide +kernel
theorem dX12_imageAt_8 : decode cX12_imageAt 8 = .ok (.iload_n 2, 1) := by decide +kernel
theorem dX12_imageAt_9 : decode cX12_imageAt 9 = .ok (.iadd, 1) := by decide +kernel
theorem dX12_imageAt_10 : decode cX12_imageAt 10 = .ok (.iaload, 1) := by decide +kernel
theorem dX12_imageAt_11 : decode cX12_imageAt 11 = .ok (.ireturn, 1) := by decide +kernel
noncomputable def F_imageAt (M : gM) (a1 a2 : Int) : Option (Int) := (if 0 ≤ (gw32 ((gw32 ((120 : Int) * a1)) + a2)) ∧ (gw32 ((gw32 ((120 : Int) * a1)) + a2)) < 480 then
    some (M 731 (gw32 ((gw32 ((120 : Int) * a1)) + a2)))
  else none)
theorem eq_imageAt (M : gM) (a1 a2 : Int) : F_imageAt M a1 a2 = (if 0 ≤ (gw32 ((gw32 ((120 : Int) * a1)) + a2)) ∧ (gw32 ((gw32 ((120 : Int) * a1)) + a2)) < 480 then
    some (M 731 (gw32 ((gw32 ((120 : Int) * a1)) + a2)))
  else none) := rfl
theorem ok_imageAt {sh : gS} {M : gM} {a1 a2 : Int} {b : Int} (hOK : gOK sh M) (h : F_imageAt M a1 a2 = some b) : gC (gr 0 0) yX12_imageAt cX12_imageAt 3 (some (.int)) [(4, 711), (0, a1), (0, a2)] sh M (gPq sh (some (0, b)) M) := by
  rw [eq_imageAt] at h
  refine gC_ofA (lv := [_, _, _]) (by decide +kernel) (Nat.le_of_ble_eq_true rfl) rfl (fun hMw hav => ?_)
  refine g_aload_n (q0 := 1) (j := 0) rfl dX12_imageAt_0 rfl ?_
  refine g_getp (q0 := 4) (b := 731) rfl ff_X12_69 dX12_imageAt_1 rfl hOK (by decide) (sh_711 hOK) rfl (by decide) ?_
  refine g_bipush (q0 := 6) rfl dX12_imageAt_4 (k := ?_)
  refine g_iload_n (q0 := 7) (j := 1) rfl dX12_imageAt_6 rfl ?_
  refine g_imulw (q0 := 8) rfl dX12_imageAt_7 ?_
  refine g_iload_n (q0 := 9) (j := 2) rfl dX12_imageAt_8 rfl ?_
  refine g_iaddw (q0 := 10) rfl dX12_imageAt_9 ?_
  obtain ⟨g1, h⟩ := gI_gd h
  refine g_iald (q0 := 11) rfl dX12_imageAt_10 (sh_731 hOK) g1.1 g1.2 ?_
  rw [← Option.some.inj h]
  refine g_ireturn dX12_imageAt_11 rfl ⟨Nat.zero_le _, Nat.zero_le _⟩ ?_
  exact ⟨rfl, rfl, rfl⟩
-- ==== isCarried
theorem dX12_isCarried_0 : decode cX12_isCarried 0 = .ok (.iconst 0, 1) := by decide +kernel
theorem dX12_isCarried_1 : decode cX12_isCarried 1 = .ok (.istore_n 2, 1) := by decide +kernel
theorem dX12_isCarried_2 : decode cX12_isCarried 2 = .ok (.iload_n 2, 1) := by decide +kernel
theorem dX12_isCarried_3 : decode cX12_isCarried 3 = .ok (.aload_n 0, 1) := by decide +kernel
theorem dX12_isCarried_4 : decode cX12_isCarried 4 = .ok (.getfield 510, 3) := by decide +kernel
theorem dX12_isCarried_7 : decode cX12_isCarried 7 = .ok (.if_icmp .ge 21, 3) := by decide +kernel
theorem dX12_isCarried_10 : decode cX12_isCarried 10 = .ok (.aload_n 0, 1) := by decide +kernel
theorem dX12_isCarried_11 : decode cX12_isCarried 11 = .ok (.getfield 75, 3) := by decide +kernel
theorem dX12_isCarried_14 : decode cX12_isCarried 14 = .ok (.iload_n 2, 1) := by decide +kernel
theorem dX12_isCarried_15 : decode cX12_isCarried 15 = .ok (.iaload, 1) := by decide +kernel
theorem dX12_isCarried_16 : decode cX12_isCarried 16 = .ok (.iload_n 1, 1) := by decide +kernel
theorem dX12_isCarried_17 : decode cX12_isCarried 17 = .ok (.if_icmp .ne 5, 3) := by decide +kernel
theorem dX12_isCarried_20 : decode cX12_isCarried 20 = .ok (.iconst 1, 1) := by decide +kernel
theorem dX12_isCarried_21 : decode cX12_isCarried 21 = .ok (.ireturn, 1) := by decide +kernel
theorem dX12_isCarried_22 : decode cX12_isCarried 22 = .ok (.iinc 2 1, 3) := by decide +kernel
theorem dX12_isCarried_25 : decode cX12_isCarried 25 = .ok (.goto (-23), 3) := by decide +kernel
theorem dX12_isCarried_28 : decode cX12_isCarried 28 = .ok (.iconst 0, 1) := by decide +kernel
theorem dX12_isCarried_29 : decode cX12_isCarried 29 = .ok (.ireturn, 1) := by decide +kernel
noncomputable def st_isCarried (M : gM) : Nat × List Int → Option ((Nat × List Int) ⊕ (Int))
  | (0, [x1, x2]) => (if x2 < (M 711 37) then
      (if 0 ≤ x2 ∧ x2 < 3 then
        (if (M 733 x2) = x1 then
          some (.inr 1)
        else
          some (.inl (0, [x1, (gw32 (x2 + 1))])))
      else none)
    else
      some (.inr 0))
  | _ => none
theorem sk_isCarried_2 (k : Nat × List Int → Option (Int)) (M : gM) (x1 x2 : Int) : gWk k (st_isCarried M (0, [x1, x2])) = (if x2 < (M 711 37) then
    (if 0 ≤ x2 ∧ x2 < 3 then
      (if (M 733 x2) = x1 then
        some 1
      else
        k (0, [x1, (gw32 (x2 + 1))]))
    else none)
  else
    some 0) := by
  simp only [st_isCarried, gWk_ite, gWk_bind, gWk_inl, gWk_inr, gWk_none]
noncomputable def F_isCarried_2 (M : gM) (x1 x2 : Int) : Option (Int) := gWh (st_isCarried M) (0, [x1, x2])
theorem eq_isCarried_2 (M : gM) (x1 x2 : Int) : F_isCarried_2 M x1 x2 = (if x2 < (M 711 37) then
    (if 0 ≤ x2 ∧ x2 < 3 then
      (if (M 733 x2) = x1 then
        some 1
      else
        F_isCarried_2 M x1 (gw32 (x2 + 1)))
    else none)
  else
    some 0) := (gWh_eq _).trans (sk_isCarried_2 _ M x1 x2)
noncomputable def F_isCarried (M : gM) (a1 : Int) : Option (Int) := F_isCarried_2 M a1 0
theorem eq_isCarried (M : gM) (a1 : Int) : F_isCarried M a1 = F_isCarried_2 M a1 0 := rfl
theorem bop_isCarried {M : gM} : ∀ (s : Nat × List Int) (b : Int), gWh (st_isCarried M) s = some b → (∀ (x1 x2 : Int), s = (0, [x1, x2]) → b = 0 ∨ b = 1) := by
  refine gWh_ind (fun k hk s b h => ?_)
  · rintro x1 x2 rfl
    rw [sk_isCarried_2] at h
    rcases gI_or h with h | h
    · obtain ⟨g1, h⟩ := gI_gd h
      rcases gI_or h with h | h
      · rw [← Option.some.inj h]
        exact (Or.inr rfl)
      · exact (hk _ _ h) _ _ rfl
    · rw [← Option.some.inj h]
      exact (Or.inl rfl)
theorem bo_isCarried_2 {M : gM} {x1 x2 : Int} {b : Int} (h : F_isCarried_2 M x1 x2 = some b) : b = 0 ∨ b = 1 :=
  (bop_isCarried _ _ h) _ _ rfl
theorem bo_isCarried {M : gM} {a1 : Int} {b : Int} (h : F_isCarried M a1 = some b) : b = 0 ∨ b = 1 := by
  rw [eq_isCarried] at h
  exact bo_isCarried_2 h
theorem okp_isCarried {sh : gS} {M : gM} : ∀ (s : Nat × List Int) (b : Int), gWh (st_isCarried M) s = some b → (∀ (x1 x2 : Int), s = (0, [x1, x2]) → gOK sh M → gA (gr 0 0) yX12_isCarried cX12_isCarried 3 (some (.boolean)) (gPq sh (some (0, b)) M) (0, 0) 2 [(4, 711), (0, x1), (0, x2)] [] sh M) := by
  refine gWh_ind (fun k hk s b h => ?_)
  · rintro x1 x2 rfl hOK
    rw [sk_isCarried_2] at h
    refine g_iload_n (q0 := 3) (j := 2) rfl dX12_isCarried_2 rfl ?_
    refine g_aload_n (q0 := 4) (j := 0) rfl dX12_isCarried_3 rfl ?_
    refine g_getf (q0 := 7) (t := 0) (fi := 37) rfl rfl ff_X12_510 dX12_isCarried_4 rfl (sh_711 hOK) ?_
    refine g_icmp_ge (q0 := 10) (tgt := 28) rfl dX12_isCarried_7 (by decide) (fun h7 => ?_) (fun h7 => ?_)
    · replace h := gI_neg (Int.not_lt.mpr h7) h
      refine g_iconst (q0 := 29) rfl dX12_isCarried_28 (k := ?_)
      rw [← Option.some.inj h]
      refine g_zreturn dX12_isCarried_29 rfl (gnz (Or.inl rfl)) ⟨Nat.zero_le _, Nat.zero_le _⟩ ?_
      exact ⟨rfl, rfl, rfl⟩
    · replace h := gI_pos h7 h
      refine g_aload_n (q0 := 11) (j := 0) rfl dX12_isCarried_10 rfl ?_
      refine g_getp (q0 := 14) (b := 733) rfl ff_X12_75 dX12_isCarried_11 rfl hOK (by decide) (sh_711 hOK) rfl (by decide) ?_
      refine g_iload_n (q0 := 15) (j := 2) rfl dX12_isCarried_14 rfl ?_
      obtain ⟨g1, h⟩ := gI_gd h
      refine g_iald (q0 := 16) rfl dX12_isCarried_15 (sh_733 hOK) g1.1 g1.2 ?_
      refine g_iload_n (q0 := 17) (j := 1) rfl dX12_isCarried_16 rfl ?_
      refine g_icmp_ne (q0 := 20) (tgt := 22) rfl dX12_isCarried_17 (by decide) (fun h17 => ?_) (fun h17 => ?_)
      · replace h := gI_neg h17 h
        refine g_iincw (q0 := 25) (lv2 := [_, _, _]) rfl dX12_isCarried_22 rfl (by decide) rfl rfl ?_
        refine g_goto (tgt := 2) dX12_isCarried_25 (by decide) ?_
        exact (hk _ _ h) _ _ rfl hOK
      · replace h := gI_pos h17 h
        refine g_iconst (q0 := 21) rfl dX12_isCarried_20 (k := ?_)
        rw [← Option.some.inj h]
        refine g_zreturn dX12_isCarried_21 rfl (gnz (Or.inr rfl)) ⟨Nat.zero_le _, Nat.zero_le _⟩ ?_
        exact ⟨rfl, rfl, rfl⟩
theorem ok_isCarried_2 {sh : gS} {M : gM} {x1 x2 : Int} {b : Int} (hOK : gOK sh M) (h : F_isCarried_2 M x1 x2 = some b) : gA (gr 0 0) yX12_isCarried cX12_isCarried 3 (some (.boolean)) (gPq sh (some (0, b)) M) (0, 0) 2 [(4, 711), (0, x1), (0, x2)] [] sh M :=
  (okp_isCarried _ _ h) _ _ rfl hOK
theorem ok_isCarried {sh : gS} {M : gM} {a1 : Int} {b : Int} (hOK : gOK sh M) (h : F_isCarried M a1 = some b) : gC (gr 0 0) yX12_isCarried cX12_isCarried 3 (some (.boolean)) [(4, 711), (0, a1)] sh M (gPq sh (some (0, b)) M) := by
  rw [eq_isCarried] at h
  refine gC_ofA (lv := [_, _, _]) (by decide +kernel) (Nat.le_of_ble_eq_true rfl) rfl (fun hMw hav => ?_)
  refine g_iconst (q0 := 1) rfl dX12_isCarried_0 (k := ?_)
  refine g_istore_n (q0 := 2) (j := 2) (lv2 := [_, _, _]) rfl dX12_isCarried_1 (by decide) rfl rfl ?_
  exact ok_isCarried_2 hOK h
-- ==== carriesAll
theorem dX12_carriesAll_0 : decode cX12_carriesAll 0 = .ok (.aload_n 0, 1) := by decide +kernel
theorem dX12_carriesAll_1 : decode cX12_carriesAll 1 = .ok (.iconst 0, 1) := by decide +kernel
theorem dX12_carriesAll_2 : decode cX12_carriesAll 2 = .ok (.putfield 510, 3) := by decide +kernel
theorem dX12_carriesAll_5 : decode cX12_carriesAll 5 = .ok (.aload_n 0, 1) := by decide +kernel
theorem dX12_carriesAll_6 : decode cX12_carriesAll 6 = .ok (.iload_n 1, 1) := by decide +kernel
theorem dX12_carriesAll_7 : decode cX12_carriesAll 7 = .ok (.iload_n 2, 1) := by decide +kernel
theorem dX12_carriesAll_8 : decode cX12_carriesAll 8 = .ok (.invokevirtual 473, 3) := by decide +kernel
theorem dX12_carriesAll_11 : decode cX12_carriesAll 11 = .ok (.istore_n 3, 1) := by decide +kernel
theorem dX12_carriesAll_12 : decode cX12_carriesAll 12 = .ok (.iconst 0, 1) := by decide +kernel
theorem dX12_carriesAll_13 : decode cX12_carriesAll 13 = .ok (.istore 4, 2) := by decide +kernel
theorem dX12_carriesAll_15 : decode cX12_carriesAll 15 = .ok (.iload 4, 2) := by decide +kernel
theorem dX12_carriesAll_17 : decode cX12_carriesAll 17 = .ok (.iload_n 3, 1) := by decide +kernel
theorem dX12_carriesAll_18 : decode cX12_carriesAll 18 = .ok (.if_icmp .ge 77, 3) := by decide +kernel
theorem dX12_carriesAll_21 : decode cX12_carriesAll 21 = .ok (.aload_n 0, 1) := by decide +kernel
theorem dX12_carriesAll_22 : decode cX12_carriesAll 22 = .ok (.iload_n 1, 1) := by decide +kernel
theorem dX12_carriesAll_23 : decode cX12_carriesAll 23 = .ok (.aload_n 0, 1) := by decide +kernel
theorem dX12_carriesAll_24 : decode cX12_carriesAll 24 = .ok (.iload_n 1, 1) := by decide +kernel
theorem dX12_carriesAll_25 : decode cX12_carriesAll 25 = .ok (.iload_n 2, 1) := by decide +kernel
theorem dX12_carriesAll_26 : decode cX12_carriesAll 26 = .ok (.iload 4, 2) := by decide +kernel
theorem dX12_carriesAll_28 : decode cX12_carriesAll 28 = .ok (.invokevirtual 476, 3) := by decide +kernel
theorem dX12_carriesAll_31 : decode cX12_carriesAll 31 = .ok (.invokevirtual 513, 3) := by decide +kernel
theorem dX12_carriesAll_34 : decode cX12_carriesAll 34 = .ok (.istore 5, 2) := by decide +kernel
theorem dX12_carriesAll_36 : decode cX12_carriesAll 36 = .ok (.iload 5, 2) := by decide +kernel
theorem dX12_carriesAll_38 : decode cX12_carriesAll 38 = .ok (.iconst (-1), 1) := by decide +kernel
theorem dX12_carriesAll_39 : decode cX12_carriesAll 39 = .ok (.if_icmp .eq 50, 3) := by decide +kernel
theorem dX12_carriesAll_42 : decode cX12_carriesAll 42 = .ok (.aload_n 0, 1) := by decide +kernel
theorem dX12_carriesAll_43 : decode cX12_carriesAll 43 = .ok (.iload 5, 2) := by decide +kernel
theorem dX12_carriesAll_45 : decode cX12_carriesAll 45 = .ok (.invokevirtual 516, 3) := by decide +kernel
theorem dX12_carriesAll_48 : decode cX12_carriesAll 48 = .ok (.ifCond .ne 41, 3) := by decide +kernel
theorem dX12_carriesAll_51 : decode cX12_carriesAll 51 = .ok (.aload_n 0, 1) := by decide +kernel
theorem dX12_carriesAll_52 : decode cX12_carriesAll 52 = .ok (.getfield 75, 3) := by decide +kernel
theorem dX12_carriesAll_55 : decode cX12_carriesAll 55 = .ok (.aload_n 0, 1) := by decide +kernel
theorem dX12_carriesAll_56 : decode cX12_carriesAll 56 = .ok (.getfield 510, 3) := by decide +kernel
theorem dX12_carriesAll_59 : decode cX12_carriesAll 59 = .ok (.iload 5, 2) := by decide +kernel
theorem dX12_carriesAll_61 : decode cX12_carriesAll 61 = .ok (.iastore, 1) := by decide +kernel
theorem dX12_carriesAll_62 : decode cX12_carriesAll 62 = .ok (.aload_n 0, 1) := by decide +kernel
theorem dX12_carriesAll_63 : decode cX12_carriesAll 63 = .ok (.getfield 78, 3) := by decide +kernel
theorem dX12_carriesAll_66 : decode cX12_carriesAll 66 = .ok (.aload_n 0, 1) := by decide +kernel
theorem dX12_carriesAll_67 : decode cX12_carriesAll 67 = .ok (.getfield 510, 3) := by decide +kernel
theorem dX12_carriesAll_70 : decode cX12_carriesAll 70 = .ok (.aload_n 0, 1) := by decide +kernel
theorem dX12_carriesAll_71 : decode cX12_carriesAll 71 = .ok (.iload_n 1, 1) := by decide +kernel
theorem dX12_carriesAll_72 : decode cX12_carriesAll 72 = .ok (.iload_n 2, 1) := by decide +kernel
theorem dX12_carriesAll_73 : decode cX12_carriesAll 73 = .ok (.iload 4, 2) := by decide +kernel
theorem dX12_carriesAll_75 : decode cX12_carriesAll 75 = .ok (.invokevirtual 476, 3) := by decide +kernel
theorem dX12_carriesAll_78 : decode cX12_carriesAll 78 = .ok (.iastore, 1) := by decide +kernel
theorem dX12_carriesAll_79 : decode cX12_carriesAll 79 = .ok (.aload_n 0, 1) := by decide +kernel
theorem dX12_carriesAll_80 : decode cX12_carriesAll 80 = .ok (.aload_n 0, 1) := by decide +kernel
theorem dX12_carriesAll_81 : decode cX12_carriesAll 81 = .ok (.getfield 510, 3) := by decide +kernel
theorem dX12_carriesAll_84 : decode cX12_carriesAll 84 = .ok (.iconst 1, 1) := by decide +kernel
theorem dX12_carriesAll_85 : decode cX12_carriesAll 85 = .ok (.iadd, 1) := by decide +kernel
theorem dX12_carriesAll_86 : decode cX12_carriesAll 86 = .ok (.putfield 510, 3) := by decide +kernel
theorem dX12_carriesAll_89 : decode cX12_carriesAll 89 = .ok (.iinc 4 1, 3) := by decide +kernel
theorem dX12_carriesAll_92 : decode cX12_carriesAll 92 = .ok (.goto (-77), 3) := by decide +kernel
theorem dX12_carriesAll_95 : decode cX12_carriesAll 95 = .ok (.return_, 1) := by decide +kernel
noncomputable def st_carriesAll : Nat × List Int × gM → Option ((Nat × List Int × gM) ⊕ (gM))
  | (0, [x1, x2, x3, x4], M) => (if x4 < x3 then
      (Option.bind (F_foreAt M x1 x2 x4) (fun r28 =>
        (Option.bind (F_imageAt M x1 r28) (fun r31 =>
          (if r31 = -1 then
            some (.inl (0, [x1, x2, x3, (gw32 (x4 + 1))], M))
          else
            (Option.bind (F_isCarried M r31) (fun r45 =>
              (if r45 = 0 then
                (if 0 ≤ (M 711 37) ∧ (M 711 37) < 3 then
                  (Option.bind (F_foreAt (gU M 733 (M 711 37) r31) x1 x2 x4) (fun r75 =>
                    (if 0 ≤ ((gU M 733 (M 711 37) r31) 711 37) ∧ ((gU M 733 (M 711 37) r31) 711 37) < 3 then
                      some (.inl (0, [x1, x2, x3, (gw32 (x4 + 1))], (gU (gU (gU M 733 (M 711 37) r31) 734 ((gU M 733 (M 711 37) r31) 711 37) r75) 711 37 (gw32 (((gU (gU M 733 (M 711 37) r31) 734 ((gU M 733 (M 711 37) r31) 711 37) r75) 711 37) + (1 : Int))))))
                    else none)))
                else none)
              else
                some (.inl (0, [x1, x2, x3, (gw32 (x4 + 1))], M))))))))))
    else
      some (.inr M))
  | _ => none
theorem sk_carriesAll_15 (k : Nat × List Int × gM → Option (gM)) (M : gM) (x1 x2 x3 x4 : Int) : gWk k (st_carriesAll (0, [x1, x2, x3, x4], M)) = (if x4 < x3 then
    (Option.bind (F_foreAt M x1 x2 x4) (fun r28 =>
      (Option.bind (F_imageAt M x1 r28) (fun r31 =>
        (if r31 = -1 then
          k (0, [x1, x2, x3, (gw32 (x4 + 1))], M)
        else
          (Option.bind (F_isCarried M r31) (fun r45 =>
            (if r45 = 0 then
              (if 0 ≤ (M 711 37) ∧ (M 711 37) < 3 then
                (Option.bind (F_foreAt (gU M 733 (M 711 37) r31) x1 x2 x4) (fun r75 =>
                  (if 0 ≤ ((gU M 733 (M 711 37) r31) 711 37) ∧ ((gU M 733 (M 711 37) r31) 711 37) < 3 then
                    k (0, [x1, x2, x3, (gw32 (x4 + 1))], (gU (gU (gU M 733 (M 711 37) r31) 734 ((gU M 733 (M 711 37) r31) 711 37) r75) 711 37 (gw32 (((gU (gU M 733 (M 711 37) r31) 734 ((gU M 733 (M 711 37) r31) 711 37) r75) 711 37) + (1 : Int)))))
                  else none)))
              else none)
            else
              k (0, [x1, x2, x3, (gw32 (x4 + 1))], M)))))))))
  else
    some M) := by
  simp only [st_carriesAll, gWk_ite, gWk_bind, gWk_inl, gWk_inr, gWk_none]
noncomputable def F_carriesAll_15 (M : gM) (x1 x2 x3 x4 : Int) : Option (gM) := gWh (st_carriesAll) (0, [x1, x2, x3, x4], M)
theorem eq_carriesAll_15 (M : gM) (x1 x2 x3 x4 : Int) : F_carriesAll_15 M x1 x2 x3 x4 = (if x4 < x3 then
    (Option.bind (F_foreAt M x1 x2 x4) (fun r28 =>
      (Option.bind (F_imageAt M x1 r28) (fun r31 =>
        (if r31 = -1 then
          F_carriesAll_15 M x1 x2 x3 (gw32 (x4 + 1))
        else
          (Option.bind (F_isCarried M r31) (fun r45 =>
            (if r45 = 0 then
              (if 0 ≤ (M 711 37) ∧ (M 711 37) < 3 then
                (Option.bind (F_foreAt (gU M 733 (M 711 37) r31) x1 x2 x4) (fun r75 =>
                  (if 0 ≤ ((gU M 733 (M 711 37) r31) 711 37) ∧ ((gU M 733 (M 711 37) r31) 711 37) < 3 then
                    F_carriesAll_15 (gU (gU (gU M 733 (M 711 37) r31) 734 ((gU M 733 (M 711 37) r31) 711 37) r75) 711 37 (gw32 (((gU (gU M 733 (M 711 37) r31) 734 ((gU M 733 (M 711 37) r31) 711 37) r75) 711 37) + (1 : Int)))) x1 x2 x3 (gw32 (x4 + 1))
                  else none)))
              else none)
            else
              F_carriesAll_15 M x1 x2 x3 (gw32 (x4 + 1))))))))))
  else
    some M) := (gWh_eq _).trans (sk_carriesAll_15 _ M x1 x2 x3 x4)
noncomputable def F_carriesAll (M : gM) (a1 a2 : Int) : Option (gM) := (Option.bind (F_foreMany (gU M 711 37 0) a1 a2) (fun r8 =>
    F_carriesAll_15 (gU M 711 37 0) a1 a2 r8 0))
theorem eq_carriesAll (M : gM) (a1 a2 : Int) : F_carriesAll M a1 a2 = (Option.bind (F_foreMany (gU M 711 37 0) a1 a2) (fun r8 =>
    F_carriesAll_15 (gU M 711 37 0) a1 a2 r8 0)) := rfl
theorem frp_carriesAll : ∀ (s : Nat × List Int × gM) (b : gM), gWh (st_carriesAll) s = some b → (∀ (x1 x2 x3 x4 : Int) (M : gM), s = (0, [x1, x2, x3, x4], M) → gFr [733, 734] [37] M b) := by
  refine gWh_ind (fun k hk s b h => ?_)
  · rintro x1 x2 x3 x4 M rfl
    rw [sk_carriesAll_15] at h
    rcases gI_or h with h | h
    · obtain ⟨r28, e28, h⟩ := gI_bd h
      obtain ⟨r31, e31, h⟩ := gI_bd h
      rcases gI_or h with h | h
      · exact gFr_t (gFr_r [733, 734] [37] _) ((hk _ _ h) _ _ _ _ _ rfl) (fun _ z => z) (fun _ z => z)
      · obtain ⟨r45, e45, h⟩ := gI_bd h
        rcases gI_or h with h | h
        · obtain ⟨g1, h⟩ := gI_gd h
          obtain ⟨r75, e75, h⟩ := gI_bd h
          obtain ⟨g3, h⟩ := gI_gd h
          exact gFr_t (gFr_f (gFr_a (gFr_a (gFr_r [733, 734] [37] _) (.head _) (by decide)) (.tail _ (.head _)) (by decide)) (.head _)) ((hk _ _ h) _ _ _ _ _ rfl) (fun _ z => z) (fun _ z => z)
        · exact gFr_t (gFr_r [733, 734] [37] _) ((hk _ _ h) _ _ _ _ _ rfl) (fun _ z => z) (fun _ z => z)
    · rw [← Option.some.inj h]
      exact (gFr_r [733, 734] [37] _)
theorem fr_carriesAll_15 {M : gM} {x1 x2 x3 x4 : Int} {b : gM} (h : F_carriesAll_15 M x1 x2 x3 x4 = some b) : gFr [733, 734] [37] M b :=
  (frp_carriesAll _ _ h) _ _ _ _ _ rfl
theorem fr_carriesAll {M : gM} {a1 a2 : Int} {b : gM} (h : F_carriesAll M a1 a2 = some b) : gFr [733, 734] [37] M b := by
  rw [eq_carriesAll] at h
  obtain ⟨r8, e8, h⟩ := gI_bd h
  exact gFr_t (gFr_f (gFr_r [733, 734] [37] _) (.head _)) (fr_carriesAll_15 h) (fun _ z => z) (fun _ z => z)
theorem okp_carriesAll {sh : gS} : ∀ (s : Nat × List Int × gM) (b : gM), gWh (st_carriesAll) s = some b → (∀ (x1 x2 x3 x4 : Int) (M : gM), s = (0, [x1, x2, x3, x4], M) → gOK sh M → gA (gr 4 90) yX12_carriesAll cX12_carriesAll 6 none (gPq sh none b) (0, 0) 15 [(4, 711), (0, x1), (0, x2), (0, x3), (0, x4), (9, 0)] [] sh M) := by
  refine gWh_ind (fun k hk s b h => ?_)
  · rintro x1 x2 x3 x4 M rfl hOK
    rw [sk_carriesAll_15] at h
    refine g_iload (q0 := 17) (j := 4) rfl dX12_carriesAll_15 rfl ?_
    refine g_iload_n (q0 := 18) (j := 3) rfl dX12_carriesAll_17 rfl ?_
    refine g_icmp_ge (q0 := 21) (tgt := 95) rfl dX12_carriesAll_18 (by decide) (fun h18 => ?_) (fun h18 => ?_)
    · replace h := gI_neg (Int.not_lt.mpr h18) h
      rw [← Option.some.inj h]
      refine g_return dX12_carriesAll_95 rfl ⟨Nat.zero_le _, Nat.zero_le _⟩ ?_
      exact ⟨rfl, rfl, rfl⟩
    · replace h := gI_pos h18 h
      refine g_aload_n (q0 := 22) (j := 0) rfl dX12_carriesAll_21 rfl ?_
      refine g_iload_n (q0 := 23) (j := 1) rfl dX12_carriesAll_22 rfl ?_
      refine g_aload_n (q0 := 24) (j := 0) rfl dX12_carriesAll_23 rfl ?_
      refine g_iload_n (q0 := 25) (j := 1) rfl dX12_carriesAll_24 rfl ?_
      refine g_iload_n (q0 := 26) (j := 2) rfl dX12_carriesAll_25 rfl ?_
      refine g_iload (q0 := 28) (j := 4) rfl dX12_carriesAll_26 rfl ?_
      obtain ⟨r28, e28, h⟩ := gI_bd h
      refine g_callVq1 (as := [_, _, _]) (rest := [_, _]) mt_X12_foreAt mi_X12_foreAt se_X12_foreAt ml_X12_476 dX12_carriesAll_28 (q0 := 31) rfl rfl (sh_711 hOK) rfl rfl (ok_foreAt hOK e28) rfl ⟨by decide, by decide⟩ (Nat.le_of_ble_eq_true rfl) ⟨Nat.zero_le _, Nat.zero_le _⟩ ?_
      obtain ⟨r31, e31, h⟩ := gI_bd h
      refine g_callVq1 (as := [_, _]) (rest := []) mt_X12_imageAt mi_X12_imageAt se_X12_imageAt ml_X12_513 dX12_carriesAll_31 (q0 := 34) rfl rfl (sh_711 hOK) rfl rfl (ok_imageAt hOK e31) rfl ⟨by decide, by decide⟩ (Nat.le_of_ble_eq_true rfl) ⟨Nat.zero_le _, Nat.zero_le _⟩ ?_
      refine g_istore (q0 := 36) (j := 5) (lv2 := [_, _, _, _, _, _]) rfl dX12_carriesAll_34 (by decide) rfl rfl ?_
      refine g_iload (q0 := 38) (j := 5) rfl dX12_carriesAll_36 rfl ?_
      refine g_iconst (q0 := 39) rfl dX12_carriesAll_38 (k := ?_)
      refine g_icmp_eq (q0 := 42) (tgt := 89) rfl dX12_carriesAll_39 (by decide) (fun h39 => ?_) (fun h39 => ?_)
      · replace h := gI_pos h39 h
        refine g_iincw (q0 := 92) (lv2 := [_, _, _, _, _, _]) rfl dX12_carriesAll_89 rfl (by decide) rfl rfl ?_
        refine g_goto (tgt := 15) dX12_carriesAll_92 (by decide) ?_
        refine gA_jk (lv1 := [_, _, _, _, _, (9, 0)]) ⟨.inl rfl, .inl rfl, .inl rfl, .inl rfl, .inl rfl, .inr rfl, trivial⟩ ?_
        exact (hk _ _ h) _ _ _ _ _ rfl hOK
      · replace h := gI_neg h39 h
        refine g_aload_n (q0 := 43) (j := 0) rfl dX12_carriesAll_42 rfl ?_
        refine g_iload (q0 := 45) (j := 5) rfl dX12_carriesAll_43 rfl ?_
        obtain ⟨r45, e45, h⟩ := gI_bd h
        refine g_callVq1 (as := [_]) (rest := []) mt_X12_isCarried mi_X12_isCarried se_X12_isCarried ml_X12_516 dX12_carriesAll_45 (q0 := 48) rfl rfl (sh_711 hOK) rfl rfl (ok_isCarried hOK e45) rfl ⟨by decide, by decide⟩ (Nat.le_of_ble_eq_true rfl) ⟨Nat.zero_le _, Nat.zero_le _⟩ ?_
        refine g_if_ne (q0 := 51) (tgt := 89) rfl dX12_carriesAll_48 (by decide) (fun h48 => ?_) (fun h48 => ?_)
        · replace h := gI_neg h48 h
          refine g_iincw (q0 := 92) (lv2 := [_, _, _, _, _, _]) rfl dX12_carriesAll_89 rfl (by decide) rfl rfl ?_
          refine g_goto (tgt := 15) dX12_carriesAll_92 (by decide) ?_
          refine gA_jk (lv1 := [_, _, _, _, _, (9, 0)]) ⟨.inl rfl, .inl rfl, .inl rfl, .inl rfl, .inl rfl, .inr rfl, trivial⟩ ?_
          exact (hk _ _ h) _ _ _ _ _ rfl hOK
        · replace h := gI_pos h48 h
          refine g_aload_n (q0 := 52) (j := 0) rfl dX12_carriesAll_51 rfl ?_
          refine g_getp (q0 := 55) (b := 733) rfl ff_X12_75 dX12_carriesAll_52 rfl hOK (by decide) (sh_711 hOK) rfl (by decide) ?_
          refine g_aload_n (q0 := 56) (j := 0) rfl dX12_carriesAll_55 rfl ?_
          refine g_getf (q0 := 59) (t := 0) (fi := 37) rfl rfl ff_X12_510 dX12_carriesAll_56 rfl (sh_711 hOK) ?_
          refine g_iload (q0 := 61) (j := 5) rfl dX12_carriesAll_59 rfl ?_
          obtain ⟨g1, h⟩ := gI_gd h
          refine g_iast (q0 := 62) rfl dX12_carriesAll_61 (sh_733 hOK) g1.1 g1.2 ?_
          have hOK2 : gOK sh (gU M 733 (M 711 37) r31) := gOK_i hOK (sh_733 hOK)
          refine g_aload_n (q0 := 63) (j := 0) rfl dX12_carriesAll_62 rfl ?_
          refine g_getp (q0 := 66) (b := 734) rfl ff_X12_78 dX12_carriesAll_63 rfl hOK2 (by decide) (sh_711 hOK2) rfl (by decide) ?_
          refine g_aload_n (q0 := 67) (j := 0) rfl dX12_carriesAll_66 rfl ?_
          refine g_getf (q0 := 70) (t := 0) (fi := 37) rfl rfl ff_X12_510 dX12_carriesAll_67 rfl (sh_711 hOK2) ?_
          refine g_aload_n (q0 := 71) (j := 0) rfl dX12_carriesAll_70 rfl ?_
          refine g_iload_n (q0 := 72) (j := 1) rfl dX12_carriesAll_71 rfl ?_
          refine g_iload_n (q0 := 73) (j := 2) rfl dX12_carriesAll_72 rfl ?_
          refine g_iload (q0 := 75) (j := 4) rfl dX12_carriesAll_73 rfl ?_
          obtain ⟨r75, e75, h⟩ := gI_bd h
          refine g_callVq1 (as := [_, _, _]) (rest := [_, _]) mt_X12_foreAt mi_X12_foreAt se_X12_foreAt ml_X12_476 dX12_carriesAll_75 (q0 := 78) rfl rfl (sh_711 hOK2) rfl rfl (ok_foreAt hOK2 e75) rfl ⟨by decide, by decide⟩ (Nat.le_of_ble_eq_true rfl) ⟨Nat.zero_le _, Nat.zero_le _⟩ ?_
          obtain ⟨g3, h⟩ := gI_gd h
          refine g_iast (q0 := 79) rfl dX12_carriesAll_78 (sh_734 hOK2) g3.1 g3.2 ?_
          have hOK4 : gOK sh (gU (gU M 733 (M 711 37) r31) 734 ((gU M 733 (M 711 37) r31) 711 37) r75) := gOK_i hOK2 (sh_734 hOK2)
          refine g_aload_n (q0 := 80) (j := 0) rfl dX12_carriesAll_79 rfl ?_
          refine g_aload_n (q0 := 81) (j := 0) rfl dX12_carriesAll_80 rfl ?_
          refine g_getf (q0 := 84) (t := 0) (fi := 37) rfl rfl ff_X12_510 dX12_carriesAll_81 rfl (sh_711 hOK4) ?_
          refine g_iconst (q0 := 85) rfl dX12_carriesAll_84 (k := ?_)
          refine g_iaddw (q0 := 86) rfl dX12_carriesAll_85 ?_
          refine g_put (q0 := 89) (t := 0) (fi := 37) rfl rfl ff_X12_510 dX12_carriesAll_86 rfl (sh_711 hOK4) rfl (fun _ => ⟨rfl, rfl⟩) ?_
          have hOK5 : gOK sh (gU (gU (gU M 733 (M 711 37) r31) 734 ((gU M 733 (M 711 37) r31) 711 37) r75) 711 37 (gw32 (((gU (gU M 733 (M 711 37) r31) 734 ((gU M 733 (M 711 37) r31) 711 37) r75) 711 37) + (1 : Int)))) := gOK_o hOK4 (sh_711 hOK4) (f := 37) rfl rfl
          refine g_iincw (q0 := 92) (lv2 := [_, _, _, _, _, _]) rfl dX12_carriesAll_89 rfl (by decide) rfl rfl ?_
          refine g_goto (tgt := 15) dX12_carriesAll_92 (by decide) ?_
          refine gA_jk (lv1 := [_, _, _, _, _, (9, 0)]) ⟨.inl rfl, .inl rfl, .inl rfl, .inl rfl, .inl rfl, .inr rfl, trivial⟩ ?_
          exact (hk _ _ h) _ _ _ _ _ rfl hOK5
theorem ok_carriesAll_15 {sh : gS} {M : gM} {x1 x2 x3 x4 : Int} {b : gM} (hOK : gOK sh M) (h : F_carriesAll_15 M x1 x2 x3 x4 = some b) : gA (gr 4 90) yX12_carriesAll cX12_carriesAll 6 none (gPq sh none b) (0, 0) 15 [(4, 711), (0, x1), (0, x2), (0, x3), (0, x4), (9, 0)] [] sh M :=
  (okp_carriesAll _ _ h) _ _ _ _ _ rfl hOK
theorem ok_carriesAll {sh : gS} {M : gM} {a1 a2 : Int} {b : gM} (hOK : gOK sh M) (h : F_carriesAll M a1 a2 = some b) : gC (gr 4 90) yX12_carriesAll cX12_carriesAll 6 none [(4, 711), (0, a1), (0, a2)] sh M (gPq sh none b) := by
  rw [eq_carriesAll] at h
  refine gC_ofA (lv := [_, _, _, _, _, _]) (by decide +kernel) (Nat.le_of_ble_eq_true rfl) rfl (fun hMw hav => ?_)
  refine g_aload_n (q0 := 1) (j := 0) rfl dX12_carriesAll_0 rfl ?_
  refine g_iconst (q0 := 2) rfl dX12_carriesAll_1 (k := ?_)
  refine g_put (q0 := 5) (t := 0) (fi := 37) rfl rfl ff_X12_510 dX12_carriesAll_2 rfl (sh_711 hOK) rfl (fun _ => ⟨rfl, rfl⟩) ?_
  have hOK6 : gOK sh (gU M 711 37 0) := gOK_o hOK (sh_711 hOK) (f := 37) rfl rfl
  refine g_aload_n (q0 := 6) (j := 0) rfl dX12_carriesAll_5 rfl ?_
  refine g_iload_n (q0 := 7) (j := 1) rfl dX12_carriesAll_6 rfl ?_
  refine g_iload_n (q0 := 8) (j := 2) rfl dX12_carriesAll_7 rfl ?_
  obtain ⟨r8, e8, h⟩ := gI_bd h
  refine g_callVq1 (as := [_, _]) (rest := []) mt_X12_foreMany mi_X12_foreMany se_X12_foreMany ml_X12_473 dX12_carriesAll_8 (q0 := 11) rfl rfl (sh_711 hOK6) rfl rfl (ok_foreMany hOK6 e8) rfl ⟨by decide, by decide⟩ (Nat.le_of_ble_eq_true rfl) ⟨Nat.zero_le _, Nat.zero_le _⟩ ?_
  refine g_istore_n (q0 := 12) (j := 3) (lv2 := [_, _, _, _, _, _]) rfl dX12_carriesAll_11 (by decide) rfl rfl ?_
  refine g_iconst (q0 := 13) rfl dX12_carriesAll_12 (k := ?_)
  refine g_istore (q0 := 15) (j := 4) (lv2 := [_, _, _, _, _, _]) rfl dX12_carriesAll_13 (by decide) rfl rfl ?_
  exact ok_carriesAll_15 hOK6 h
-- ==== goesFor
theorem dX12_goesFor_0 : decode cX12_goesFor 0 = .ok (.iload_n 2, 1) := by decide +kernel
theorem dX12_goesFor_1 : decode cX12_goesFor 1 = .ok (.iload_n 3, 1) := by decide +kernel
theorem dX12_goesFor_2 : decode cX12_goesFor 2 = .ok (.if_icmp .eq 22, 3) := by decide +kernel
theorem dX12_goesFor_5 : decode cX12_goesFor 5 = .ok (.aload_n 0, 1) := by decide +kernel
theorem dX12_goesFor_6 : decode cX12_goesFor 6 = .ok (.aload_n 0, 1) := by decide +kernel
theorem dX12_goesFor_7 : decode cX12_goesFor 7 = .ok (.getfield 75, 3) := by decide +kernel
theorem dX12_goesFor_10 : decode cX12_goesFor 10 = .ok (.iload_n 2, 1) := by decide +kernel
theorem dX12_goesFor_11 : decode cX12_goesFor 11 = .ok (.iaload, 1) := by decide +kernel
theorem dX12_goesFor_12 : decode cX12_goesFor 12 = .ok (.aload_n 0, 1) := by decide +kernel
theorem dX12_goesFor_13 : decode cX12_goesFor 13 = .ok (.getfield 75, 3) := by decide +kernel
theorem dX12_goesFor_16 : decode cX12_goesFor 16 = .ok (.iload_n 3, 1) := by decide +kernel
theorem dX12_goesFor_17 : decode cX12_goesFor 17 = .ok (.iaload, 1) := by decide +kernel
theorem dX12_goesFor_18 : decode cX12_goesFor 18 = .ok (.invokevirtual 246, 3) := by decide +kernel
theorem dX12_goesFor_21 : decode cX12_goesFor 21 = .ok (.ifCond .ne 5, 3) := by decide +kernel
theorem dX12_goesFor_24 : decode cX12_goesFor 24 = .ok (.iconst 0, 1) := by decide +kernel
theorem dX12_goesFor_25 : decode cX12_goesFor 25 = .ok (.ireturn, 1) := by decide +kernel
theorem dX12_goesFor_26 : decode cX12_goesFor 26 = .ok (.aload_n 0, 1) := by decide +kernel
theorem dX12_goesFor_27 : decode cX12_goesFor 27 = .ok (.iload_n 1, 1) := by decide +kernel
theorem dX12_goesFor_28 : decode cX12_goesFor 28 = .ok (.bipush 11, 2) := by decide +kernel
theorem dX12_goesFor_30 : decode cX12_goesFor 30 = .ok (.invokevirtual 452, 3) := by decide +kernel
theorem dX12_goesFor_33 : decode cX12_goesFor 33 = .ok (.iconst 1, 1) := by decide +kernel
theorem dX12_goesFor_34 : decode cX12_goesFor 34 = .ok (.if_icmp .gt 23, 3) := by decide +kernel
theorem dX12_goesFor_37 : decode cX12_goesFor 37 = .ok (.aload_n 0, 1) := by decide +kernel
theorem dX12_goesFor_38 : decode cX12_goesFor 38 = .ok (.iload_n 1, 1) := by decide +kernel
theorem dX12_goesFor_39 : decode cX12_goesFor 39 = .ok (.aload_n 0, 1) := by decide +kernel
theorem dX12_goesFor_40 : decode cX12_goesFor 40 = .ok (.getfield 78, 3) := by decide +kernel
theorem dX12_goesFor_43 : decode cX12_goesFor 43 = .ok (.iload_n 2, 1) := by decide +kernel
theorem dX12_goesFor_44 : decode cX12_goesFor 44 = .ok (.iaload, 1) := by decide +kernel
theorem dX12_goesFor_45 : decode cX12_goesFor 45 = .ok (.aload_n 0, 1) := by decide +kernel
theorem dX12_goesFor_46 : decode cX12_goesFor 46 = .ok (.getfield 78, 3) := by decide +kernel
theorem dX12_goesFor_49 : decode cX12_goesFor 49 = .ok (.iload_n 3, 1) := by decide +kernel
theorem dX12_goesFor_50 : decode cX12_goesFor 50 = .ok (.iaload, 1) := by decide +kernel
theorem dX12_goesFor_51 : decode cX12_goesFor 51 = .ok (.invokevirtual 519, 3) := by decide +kernel
theorem dX12_goesFor_54 : decode cX12_goesFor 54 = .ok (.ifCond .ne 7, 3) := by decide +kernel
theorem dX12_goesFor_57 : decode cX12_goesFor 57 = .ok (.iconst 1, 1) := by decide +kernel
theorem dX12_goesFor_58 : decode cX12_goesFor 58 = .ok (.goto 4, 3) := by decide +kernel
theorem dX12_goesFor_61 : decode cX12_goesFor 61 = .ok (.iconst 0, 1) := by decide +kernel
theorem dX12_goesFor_62 : decode cX12_goesFor 62 = .ok (.ireturn, 1) := by decide +kernel
noncomputable def F_goesFor (M : gM) (a1 a2 a3 : Int) : Option (Int × gM) := (if a2 = a3 then
    some (0, M)
  else
    (if 0 ≤ a2 ∧ a2 < 3 then
      (if 0 ≤ a3 ∧ a3 < 3 then
        (Option.bind (F_isAncestor M (M 733 a2) (M 733 a3)) (fun p18 =>
          (if p18.1 = 0 then
            some (0, p18.2)
          else
            (Option.bind (F_ofPlan p18.2 a1 11) (fun r30 =>
              (if (1 : Int) < r30 then
                some (1, p18.2)
              else
                (Option.bind (F_isElder p18.2 a1 (p18.2 734 a2) (p18.2 734 a3)) (fun p51 =>
                  (if p51.1 = 0 then
                    some (1, p51.2)
                  else
                    some (0, p51.2))))))))))
      else none)
    else none))
theorem eq_goesFor (M : gM) (a1 a2 a3 : Int) : F_goesFor M a1 a2 a3 = (if a2 = a3 then
    some (0, M)
  else
    (if 0 ≤ a2 ∧ a2 < 3 then
      (if 0 ≤ a3 ∧ a3 < 3 then
        (Option.bind (F_isAncestor M (M 733 a2) (M 733 a3)) (fun p18 =>
          (if p18.1 = 0 then
            some (0, p18.2)
          else
            (Option.bind (F_ofPlan p18.2 a1 11) (fun r30 =>
              (if (1 : Int) < r30 then
                some (1, p18.2)
              else
                (Option.bind (F_isElder p18.2 a1 (p18.2 734 a2) (p18.2 734 a3)) (fun p51 =>
                  (if p51.1 = 0 then
                    some (1, p51.2)
                  else
                    some (0, p51.2))))))))))
      else none)
    else none)) := rfl
theorem fr_goesFor {M : gM} {a1 a2 a3 : Int} {b : Int × gM} (h : F_goesFor M a1 a2 a3 = some b) : gFr [723, 732] [] M b.2 := by
  rw [eq_goesFor] at h
  rcases gI_or h with h | h
  · rw [← Option.some.inj h]
    exact (gFr_r [723, 732] [] _)
  · obtain ⟨g1, h⟩ := gI_gd h
    obtain ⟨g2, h⟩ := gI_gd h
    obtain ⟨p18, e18, h⟩ := gI_bd h
    rcases gI_or h with h | h
    · rw [← Option.some.inj h]
      exact (gFr_t (gFr_r [723, 732] [] _) (fr_isAncestor (b := p18) e18) (by first | decide | simp) (by decide))
    · obtain ⟨r30, e30, h⟩ := gI_bd h
      rcases gI_or h with h | h
      · rw [← Option.some.inj h]
        exact (gFr_t (gFr_r [723, 732] [] _) (fr_isAncestor (b := p18) e18) (by first | decide | simp) (by decide))
      · obtain ⟨p51, e51, h⟩ := gI_bd h
        rcases gI_or h with h | h
        · rw [← Option.some.inj h]
          exact (gFr_t (gFr_t (gFr_r [723, 732] [] _) (fr_isAncestor (b := p18) e18) (by first | decide | simp) (by decide)) (fr_isElder (b := p51) e51) (by first | decide | simp) (by decide))
        · rw [← Option.some.inj h]
          exact (gFr_t (gFr_t (gFr_r [723, 732] [] _) (fr_isAncestor (b := p18) e18) (by first | decide | simp) (by decide)) (fr_isElder (b := p51) e51) (by first | decide | simp) (by decide))
theorem bo_goesFor {M : gM} {a1 a2 a3 : Int} {b : Int × gM} (h : F_goesFor M a1 a2 a3 = some b) : b.1 = 0 ∨ b.1 = 1 := by
  rw [eq_goesFor] at h
  rcases gI_or h with h | h
  · rw [← Option.some.inj h]
    exact (Or.inl rfl)
  · obtain ⟨g1, h⟩ := gI_gd h
    obtain ⟨g2, h⟩ := gI_gd h
    obtain ⟨p18, e18, h⟩ := gI_bd h
    rcases gI_or h with h | h
    · rw [← Option.some.inj h]
      exact (Or.inl rfl)
    · obtain ⟨r30, e30, h⟩ := gI_bd h
      rcases gI_or h with h | h
      · rw [← Option.some.inj h]
        exact (Or.inr rfl)
      · obtain ⟨p51, e51, h⟩ := gI_bd h
        rcases gI_or h with h | h
        · rw [← Option.some.inj h]
          exact (Or.inr rfl)
        · rw [← Option.some.inj h]
          exact (Or.inl rfl)
theorem ok_goesFor {sh : gS} {M : gM} {a1 a2 a3 : Int} {b : Int × gM} (hOK : gOK sh M) (h : F_goesFor M a1 a2 a3 = some b) : gC (gr 7 160) yX12_goesFor cX12_goesFor 4 (some (.boolean)) [(4, 711), (0, a1), (0, a2), (0, a3)] sh M (gPq sh (some (0, b.1)) b.2) := by
  rw [eq_goesFor] at h
  refine gC_ofA (lv := [_, _, _, _]) (by decide +kernel) (Nat.le_of_ble_eq_true rfl) rfl (fun hMw hav => ?_)
  refine g_iload_n (q0 := 1) (j := 2) rfl dX12_goesFor_0 rfl ?_
  refine g_iload_n (q0 := 2) (j := 3) rfl dX12_goesFor_1 rfl ?_
  refine g_icmp_eq (q0 := 5) (tgt := 24) rfl dX12_goesFor_2 (by decide) (fun h2 => ?_) (fun h2 => ?_)
  · replace h := gI_pos h2 h
    refine g_iconst (q0 := 25) rfl dX12_goesFor_24 (k := ?_)
    rw [← Option.some.inj h]
    refine g_zreturn dX12_goesFor_25 rfl (gnz (Or.inl rfl)) ⟨Nat.zero_le _, Nat.zero_le _⟩ ?_
    exact ⟨rfl, rfl, rfl⟩
  · replace h := gI_neg h2 h
    refine g_aload_n (q0 := 6) (j := 0) rfl dX12_goesFor_5 rfl ?_
    refine g_aload_n (q0 := 7) (j := 0) rfl dX12_goesFor_6 rfl ?_
    refine g_getp (q0 := 10) (b := 733) rfl ff_X12_75 dX12_goesFor_7 rfl hOK (by decide) (sh_711 hOK) rfl (by decide) ?_
    refine g_iload_n (q0 := 11) (j := 2) rfl dX12_goesFor_10 rfl ?_
    obtain ⟨g1, h⟩ := gI_gd h
    refine g_iald (q0 := 12) rfl dX12_goesFor_11 (sh_733 hOK) g1.1 g1.2 ?_
    refine g_aload_n (q0 := 13) (j := 0) rfl dX12_goesFor_12 rfl ?_
    refine g_getp (q0 := 16) (b := 733) rfl ff_X12_75 dX12_goesFor_13 rfl hOK (by decide) (sh_711 hOK) rfl (by decide) ?_
    refine g_iload_n (q0 := 17) (j := 3) rfl dX12_goesFor_16 rfl ?_
    obtain ⟨g2, h⟩ := gI_gd h
    refine g_iald (q0 := 18) rfl dX12_goesFor_17 (sh_733 hOK) g2.1 g2.2 ?_
    obtain ⟨p18, e18, h⟩ := gI_bd h
    refine g_callVq1 (as := [_, _]) (rest := []) mt_X12_isAncestor mi_X12_isAncestor se_X12_isAncestor ml_X12_246 dX12_goesFor_18 (q0 := 21) rfl rfl (sh_711 hOK) rfl rfl (ok_isAncestor hOK e18) rfl ⟨by decide, by decide⟩ (Nat.le_of_ble_eq_true rfl) ⟨Nat.zero_le _, Nat.zero_le _⟩ ?_
    have hOK3 : gOK sh p18.2 := gOK_fr hOK (fr_isAncestor (b := p18) e18) (by first | decide | (intro a ha; simp only [List.mem_cons, List.not_mem_nil, or_false] at ha; omega)) (by decide)
    refine g_if_ne (q0 := 24) (tgt := 26) rfl dX12_goesFor_21 (by decide) (fun h21 => ?_) (fun h21 => ?_)
    · replace h := gI_neg h21 h
      refine g_aload_n (q0 := 27) (j := 0) rfl dX12_goesFor_26 rfl ?_
      refine g_iload_n (q0 := 28) (j := 1) rfl dX12_goesFor_27 rfl ?_
      refine g_bipush (q0 := 30) rfl dX12_goesFor_28 (k := ?_)
      obtain ⟨r30, e30, h⟩ := gI_bd h
      refine g_callVq1 (as := [_, _]) (rest := []) mt_X12_ofPlan mi_X12_ofPlan se_X12_ofPlan ml_X12_452 dX12_goesFor_30 (q0 := 33) rfl rfl (sh_711 hOK3) rfl rfl (ok_ofPlan hOK3 e30) rfl ⟨by decide, by decide⟩ (Nat.le_of_ble_eq_true rfl) ⟨Nat.zero_le _, Nat.zero_le _⟩ ?_
      refine g_iconst (q0 := 34) rfl dX12_goesFor_33 (k := ?_)
      refine g_icmp_gt (q0 := 37) (tgt := 57) rfl dX12_goesFor_34 (by decide) (fun h34 => ?_) (fun h34 => ?_)
      · replace h := gI_pos h34 h
        refine g_iconst (q0 := 58) rfl dX12_goesFor_57 (k := ?_)
        refine g_goto (tgt := 62) dX12_goesFor_58 (by decide) ?_
        rw [← Option.some.inj h]
        refine g_zreturn dX12_goesFor_62 rfl (gnz (Or.inr rfl)) ⟨Nat.zero_le _, Nat.zero_le _⟩ ?_
        exact ⟨rfl, rfl, rfl⟩
      · replace h := gI_neg (Int.not_lt.mpr h34) h
        refine g_aload_n (q0 := 38) (j := 0) rfl dX12_goesFor_37 rfl ?_
        refine g_iload_n (q0 := 39) (j := 1) rfl dX12_goesFor_38 rfl ?_
        refine g_aload_n (q0 := 40) (j := 0) rfl dX12_goesFor_39 rfl ?_
        refine g_getp (q0 := 43) (b := 734) rfl ff_X12_78 dX12_goesFor_40 rfl hOK3 (by decide) (sh_711 hOK3) rfl (by decide) ?_
        refine g_iload_n (q0 := 44) (j := 2) rfl dX12_goesFor_43 rfl ?_
        refine g_iald (q0 := 45) rfl dX12_goesFor_44 (sh_734 hOK3) g1.1 g1.2 ?_
        refine g_aload_n (q0 := 46) (j := 0) rfl dX12_goesFor_45 rfl ?_
        refine g_getp (q0 := 49) (b := 734) rfl ff_X12_78 dX12_goesFor_46 rfl hOK3 (by decide) (sh_711 hOK3) rfl (by decide) ?_
        refine g_iload_n (q0 := 50) (j := 3) rfl dX12_goesFor_49 rfl ?_
        refine g_iald (q0 := 51) rfl dX12_goesFor_50 (sh_734 hOK3) g2.1 g2.2 ?_
        obtain ⟨p51, e51, h⟩ := gI_bd h
        refine g_callVq1 (as := [_, _, _]) (rest := []) mt_X12_isElder mi_X12_isElder se_X12_isElder ml_X12_519 dX12_goesFor_51 (q0 := 54) rfl rfl (sh_711 hOK3) rfl rfl (ok_isElder hOK3 e51) rfl ⟨by decide, by decide⟩ (Nat.le_of_ble_eq_true rfl) ⟨Nat.zero_le _, Nat.zero_le _⟩ ?_
        have hOK4 : gOK sh p51.2 := gOK_fr hOK3 (fr_isElder (b := p51) e51) (by first | decide | (intro a ha; simp only [List.mem_cons, List.not_mem_nil, or_false] at ha; omega)) (by decide)
        refine g_if_ne (q0 := 57) (tgt := 61) rfl dX12_goesFor_54 (by decide) (fun h54 => ?_) (fun h54 => ?_)
        · replace h := gI_neg h54 h
          refine g_iconst (q0 := 62) rfl dX12_goesFor_61 (k := ?_)
          rw [← Option.some.inj h]
          refine g_zreturn dX12_goesFor_62 rfl (gnz (Or.inl rfl)) ⟨Nat.zero_le _, Nat.zero_le _⟩ ?_
          exact ⟨rfl, rfl, rfl⟩
        · replace h := gI_pos h54 h
          refine g_iconst (q0 := 58) rfl dX12_goesFor_57 (k := ?_)
          refine g_goto (tgt := 62) dX12_goesFor_58 (by decide) ?_
          rw [← Option.some.inj h]
          refine g_zreturn dX12_goesFor_62 rfl (gnz (Or.inr rfl)) ⟨Nat.zero_le _, Nat.zero_le _⟩ ?_
          exact ⟨rfl, rfl, rfl⟩
    · replace h := gI_pos h21 h
      refine g_iconst (q0 := 25) rfl dX12_goesFor_24 (k := ?_)
      rw [← Option.some.inj h]
      refine g_zreturn dX12_goesFor_25 rfl (gnz (Or.inl rfl)) ⟨Nat.zero_le _, Nat.zero_le _⟩ ?_
      exact ⟨rfl, rfl, rfl⟩
-- ==== closesUp
theorem dX12_closesUp_0 : decode cX12_closesUp 0 = .ok (.iconst 0, 1) := by decide +kernel
theorem dX12_closesUp_1 : decode cX12_closesUp 1 = .ok (.istore_n 1, 1) := by decide +kernel
theorem dX12_closesUp_2 : decode cX12_closesUp 2 = .ok (.iconst 0, 1) := by decide +kernel
theorem dX12_closesUp_3 : decode cX12_closesUp 3 = .ok (.istore_n 2, 1) := by decide +kernel
theorem dX12_closesUp_4 : decode cX12_closesUp 4 = .ok (.iload_n 2, 1) := by decide +kernel
theorem dX12_closesUp_5 : decode cX12_closesUp 5 = .ok (.aload_n 0, 1) := by decide +kernel
theorem dX12_closesUp_6 : decode cX12_closesUp 6 = .ok (.getfield 510, 3) := by decide +kernel
theorem dX12_closesUp_9 : decode cX12_closesUp 9 = .ok (.if_icmp .ge 34, 3) := by decide +kernel
theorem dX12_closesUp_12 : decode cX12_closesUp 12 = .ok (.aload_n 0, 1) := by decide +kernel
theorem dX12_closesUp_13 : decode cX12_closesUp 13 = .ok (.getfield 81, 3) := by decide +kernel
theorem dX12_closesUp_16 : decode cX12_closesUp 16 = .ok (.iload_n 2, 1) := by decide +kernel
theorem dX12_closesUp_17 : decode cX12_closesUp 17 = .ok (.baload, 1) := by decide +kernel
theorem dX12_closesUp_18 : decode cX12_closesUp 18 = .ok (.ifCond .ne 19, 3) := by decide +kernel
theorem dX12_closesUp_21 : decode cX12_closesUp 21 = .ok (.aload_n 0, 1) := by decide +kernel
theorem dX12_closesUp_22 : decode cX12_closesUp 22 = .ok (.getfield 75, 3) := by decide +kernel
theorem dX12_closesUp_25 : decode cX12_closesUp 25 = .ok (.iload_n 1, 1) := by decide +kernel
theorem dX12_closesUp_26 : decode cX12_closesUp 26 = .ok (.aload_n 0, 1) := by decide +kernel
theorem dX12_closesUp_27 : decode cX12_closesUp 27 = .ok (.getfield 75, 3) := by decide +kernel
theorem dX12_closesUp_30 : decode cX12_closesUp 30 = .ok (.iload_n 2, 1) := by decide +kernel
theorem dX12_closesUp_31 : decode cX12_closesUp 31 = .ok (.iaload, 1) := by decide +kernel
theorem dX12_closesUp_32 : decode cX12_closesUp 32 = .ok (.iastore, 1) := by decide +kernel
theorem dX12_closesUp_33 : decode cX12_closesUp 33 = .ok (.iload_n 1, 1) := by decide +kernel
theorem dX12_closesUp_34 : decode cX12_closesUp 34 = .ok (.iconst 1, 1) := by decide +kernel
theorem dX12_closesUp_35 : decode cX12_closesUp 35 = .ok (.iadd, 1) := by decide +kernel
theorem dX12_closesUp_36 : decode cX12_closesUp 36 = .ok (.istore_n 1, 1) := by decide +kernel
theorem dX12_closesUp_37 : decode cX12_closesUp 37 = .ok (.iinc 2 1, 3) := by decide +kernel
theorem dX12_closesUp_40 : decode cX12_closesUp 40 = .ok (.goto (-36), 3) := by decide +kernel
theorem dX12_closesUp_43 : decode cX12_closesUp 43 = .ok (.aload_n 0, 1) := by decide +kernel
theorem dX12_closesUp_44 : decode cX12_closesUp 44 = .ok (.iload_n 1, 1) := by decide +kernel
theorem dX12_closesUp_45 : decode cX12_closesUp 45 = .ok (.putfield 510, 3) := by decide +kernel
theorem dX12_closesUp_48 : decode cX12_closesUp 48 = .ok (.return_, 1) := by decide +kernel
noncomputable def st_closesUp : Nat × List Int × gM → Option ((Nat × List Int × gM) ⊕ (gM))
  | (0, [x1, x2], M) => (if x2 < (M 711 37) then
      (if 0 ≤ x2 ∧ x2 < 3 then
        (if (M 735 x2) = 0 then
          (if 0 ≤ x1 ∧ x1 < 3 then
            some (.inl (0, [(gw32 (x1 + (1 : Int))), (gw32 (x2 + 1))], (gU M 733 x1 (M 733 x2))))
          else none)
        else
          some (.inl (0, [x1, (gw32 (x2 + 1))], M)))
      else none)
    else
      some (.inr (gU M 711 37 x1)))
  | _ => none
theorem sk_closesUp_4 (k : Nat × List Int × gM → Option (gM)) (M : gM) (x1 x2 : Int) : gWk k (st_closesUp (0, [x1, x2], M)) = (if x2 < (M 711 37) then
    (if 0 ≤ x2 ∧ x2 < 3 then
      (if (M 735 x2) = 0 then
        (if 0 ≤ x1 ∧ x1 < 3 then
          k (0, [(gw32 (x1 + (1 : Int))), (gw32 (x2 + 1))], (gU M 733 x1 (M 733 x2)))
        else none)
      else
        k (0, [x1, (gw32 (x2 + 1))], M))
    else none)
  else
    some (gU M 711 37 x1)) := by
  simp only [st_closesUp, gWk_ite, gWk_bind, gWk_inl, gWk_inr, gWk_none]
noncomputable def F_closesUp_4 (M : gM) (x1 x2 : Int) : Option (gM) := gWh (st_closesUp) (0, [x1, x2], M)
theorem eq_closesUp_4 (M : gM) (x1 x2 : Int) : F_closesUp_4 M x1 x2 = (if x2 < (M 711 37) then
    (if 0 ≤ x2 ∧ x2 < 3 then
      (if (M 735 x2) = 0 then
        (if 0 ≤ x1 ∧ x1 < 3 then
          F_closesUp_4 (gU M 733 x1 (M 733 x2)) (gw32 (x1 + (1 : Int))) (gw32 (x2 + 1))
        else none)
      else
        F_closesUp_4 M x1 (gw32 (x2 + 1)))
    else none)
  else
    some (gU M 711 37 x1)) := (gWh_eq _).trans (sk_closesUp_4 _ M x1 x2)
noncomputable def F_closesUp (M : gM) : Option (gM) := F_closesUp_4 M 0 0
theorem eq_closesUp (M : gM) : F_closesUp M = F_closesUp_4 M 0 0 := rfl
theorem frp_closesUp : ∀ (s : Nat × List Int × gM) (b : gM), gWh (st_closesUp) s = some b → (∀ (x1 x2 : Int) (M : gM), s = (0, [x1, x2], M) → gFr [733] [37] M b) := by
  refine gWh_ind (fun k hk s b h => ?_)
  · rintro x1 x2 M rfl
    rw [sk_closesUp_4] at h
    rcases gI_or h with h | h
    · obtain ⟨g2, h⟩ := gI_gd h
      rcases gI_or h with h | h
      · obtain ⟨g3, h⟩ := gI_gd h
        exact gFr_t (gFr_a (gFr_r [733] [37] _) (.head _) (by decide)) ((hk _ _ h) _ _ _ rfl) (fun _ z => z) (fun _ z => z)
      · exact gFr_t (gFr_r [733] [37] _) ((hk _ _ h) _ _ _ rfl) (fun _ z => z) (fun _ z => z)
    · rw [← Option.some.inj h]
      exact (gFr_f (gFr_r [733] [37] _) (.head _))
theorem fr_closesUp_4 {M : gM} {x1 x2 : Int} {b : gM} (h : F_closesUp_4 M x1 x2 = some b) : gFr [733] [37] M b :=
  (frp_closesUp _ _ h) _ _ _ rfl
theorem fr_closesUp {M : gM} {b : gM} (h : F_closesUp M = some b) : gFr [733] [37] M b := by
  rw [eq_closesUp] at h
  exact gFr_t (gFr_r [733] [37] _) (fr_closesUp_4 h) (fun _ z => z) (fun _ z => z)
theorem okp_closesUp {sh : gS} : ∀ (s : Nat × List Int × gM) (b : gM), gWh (st_closesUp) s = some b → (∀ (x1 x2 : Int) (M : gM), s = (0, [x1, x2], M) → gOK sh M → gA (gr 0 0) yX12_closesUp cX12_closesUp 3 none (gPq sh none b) (0, 0) 4 [(4, 711), (0, x1), (0, x2)] [] sh M) := by
  refine gWh_ind (fun k hk s b h => ?_)
  · rintro x1 x2 M rfl hOK
    rw [sk_closesUp_4] at h
    refine g_iload_n (q0 := 5) (j := 2) rfl dX12_closesUp_4 rfl ?_
    refine g_aload_n (q0 := 6) (j := 0) rfl dX12_closesUp_5 rfl ?_
    refine g_getf (q0 := 9) (t := 0) (fi := 37) rfl rfl ff_X12_510 dX12_closesUp_6 rfl (sh_711 hOK) ?_
    refine g_icmp_ge (q0 := 12) (tgt := 43) rfl dX12_closesUp_9 (by decide) (fun h9 => ?_) (fun h9 => ?_)
    · replace h := gI_neg (Int.not_lt.mpr h9) h
      refine g_aload_n (q0 := 44) (j := 0) rfl dX12_closesUp_43 rfl ?_
      refine g_iload_n (q0 := 45) (j := 1) rfl dX12_closesUp_44 rfl ?_
      refine g_put (q0 := 48) (t := 0) (fi := 37) rfl rfl ff_X12_510 dX12_closesUp_45 rfl (sh_711 hOK) rfl (fun _ => ⟨rfl, rfl⟩) ?_
      have hOK1 : gOK sh (gU M 711 37 x1) := gOK_o hOK (sh_711 hOK) (f := 37) rfl rfl
      rw [← Option.some.inj h]
      refine g_return dX12_closesUp_48 rfl ⟨Nat.zero_le _, Nat.zero_le _⟩ ?_
      exact ⟨rfl, rfl, rfl⟩
    · replace h := gI_pos h9 h
      refine g_aload_n (q0 := 13) (j := 0) rfl dX12_closesUp_12 rfl ?_
      refine g_getp (q0 := 16) (b := 735) rfl ff_X12_81 dX12_closesUp_13 rfl hOK (by decide) (sh_711 hOK) rfl (by decide) ?_
      refine g_iload_n (q0 := 17) (j := 2) rfl dX12_closesUp_16 rfl ?_
      obtain ⟨g2, h⟩ := gI_gd h
      refine g_zald (q0 := 18) rfl dX12_closesUp_17 (sh_735 hOK) g2.1 g2.2 ?_
      refine g_if_ne (q0 := 21) (tgt := 37) rfl dX12_closesUp_18 (by decide) (fun h18 => ?_) (fun h18 => ?_)
      · replace h := gI_neg h18 h
        refine g_iincw (q0 := 40) (lv2 := [_, _, _]) rfl dX12_closesUp_37 rfl (by decide) rfl rfl ?_
        refine g_goto (tgt := 4) dX12_closesUp_40 (by decide) ?_
        exact (hk _ _ h) _ _ _ rfl hOK
      · replace h := gI_pos h18 h
        refine g_aload_n (q0 := 22) (j := 0) rfl dX12_closesUp_21 rfl ?_
        refine g_getp (q0 := 25) (b := 733) rfl ff_X12_75 dX12_closesUp_22 rfl hOK (by decide) (sh_711 hOK) rfl (by decide) ?_
        refine g_iload_n (q0 := 26) (j := 1) rfl dX12_closesUp_25 rfl ?_
        refine g_aload_n (q0 := 27) (j := 0) rfl dX12_closesUp_26 rfl ?_
        refine g_getp (q0 := 30) (b := 733) rfl ff_X12_75 dX12_closesUp_27 rfl hOK (by decide) (sh_711 hOK) rfl (by decide) ?_
        refine g_iload_n (q0 := 31) (j := 2) rfl dX12_closesUp_30 rfl ?_
        refine g_iald (q0 := 32) rfl dX12_closesUp_31 (sh_733 hOK) g2.1 g2.2 ?_
        obtain ⟨g3, h⟩ := gI_gd h
        refine g_iast (q0 := 33) rfl dX12_closesUp_32 (sh_733 hOK) g3.1 g3.2 ?_
        have hOK4 : gOK sh (gU M 733 x1 (M 733 x2)) := gOK_i hOK (sh_733 hOK)
        refine g_iload_n (q0 := 34) (j := 1) rfl dX12_closesUp_33 rfl ?_
        refine g_iconst (q0 := 35) rfl dX12_closesUp_34 (k := ?_)
        refine g_iaddw (q0 := 36) rfl dX12_closesUp_35 ?_
        refine g_istore_n (q0 := 37) (j := 1) (lv2 := [_, _, _]) rfl dX12_closesUp_36 (by decide) rfl rfl ?_
        refine g_iincw (q0 := 40) (lv2 := [_, _, _]) rfl dX12_closesUp_37 rfl (by decide) rfl rfl ?_
        refine g_goto (tgt := 4) dX12_closesUp_40 (by decide) ?_
        exact (hk _ _ h) _ _ _ rfl hOK4
theorem ok_closesUp_4 {sh : gS} {M : gM} {x1 x2 : Int} {b : gM} (hOK : gOK sh M) (h : F_closesUp_4 M x1 x2 = some b) : gA (gr 0 0) yX12_closesUp cX12_closesUp 3 none (gPq sh none b) (0, 0) 4 [(4, 711), (0, x1), (0, x2)] [] sh M :=
  (okp_closesUp _ _ h) _ _ _ rfl hOK
theorem ok_closesUp {sh : gS} {M : gM} {b : gM} (hOK : gOK sh M) (h : F_closesUp M = some b) : gC (gr 0 0) yX12_closesUp cX12_closesUp 3 none [(4, 711)] sh M (gPq sh none b) := by
  rw [eq_closesUp] at h
  refine gC_ofA (lv := [_, _, _]) (by decide +kernel) (Nat.le_of_ble_eq_true rfl) rfl (fun hMw hav => ?_)
  refine g_iconst (q0 := 1) rfl dX12_closesUp_0 (k := ?_)
  refine g_istore_n (q0 := 2) (j := 1) (lv2 := [_, _, _]) rfl dX12_closesUp_1 (by decide) rfl rfl ?_
  refine g_iconst (q0 := 3) rfl dX12_closesUp_2 (k := ?_)
  refine g_istore_n (q0 := 4) (j := 2) (lv2 := [_, _, _]) rfl dX12_closesUp_3 (by decide) rfl rfl ?_
  exact ok_closesUp_4 hOK h
-- ==== carriesParents
theorem dX12_carriesParents_0 : decode cX12_carriesParents 0 = .ok (.aload_n 0, 1) := by decide +kernel
theorem dX12_carriesParents_1 : decode cX12_carriesParents 1 = .ok (.iload_n 1, 1) := by decide +kernel
theorem dX12_carriesParents_2 : decode cX12_carriesParents 2 = .ok (.iload_n 2, 1) := by decide +kernel
theorem dX12_carriesParents_3 : decode cX12_carriesParents 3 = .ok (.invokevirtual 522, 3) := by decide +kernel
theorem dX12_carriesParents_6 : decode cX12_carriesParents 6 = .ok (.aload_n 0, 1) := by decide +kernel
theorem dX12_carriesParents_7 : decode cX12_carriesParents 7 = .ok (.iload_n 1, 1) := by decide +kernel
theorem dX12_carriesParents_8 : decode cX12_carriesParents 8 = .ok (.bipush 11, 2) := by decide +kernel
theorem dX12_carriesParents_10 : decode cX12_carriesParents 10 = .ok (.invokevirtual 452, 3) := by decide +kernel
theorem dX12_carriesParents_13 : decode cX12_carriesParents 13 = .ok (.ifCond .ne 4, 3) := by decide +kernel
theorem dX12_carriesParents_16 : decode cX12_carriesParents 16 = .ok (.return_, 1) := by decide +kernel
theorem dX12_carriesParents_17 : decode cX12_carriesParents 17 = .ok (.iconst 0, 1) := by decide +kernel
theorem dX12_carriesParents_18 : decode cX12_carriesParents 18 = .ok (.istore_n 3, 1) := by decide +kernel
theorem dX12_carriesParents_19 : decode cX12_carriesParents 19 = .ok (.iload_n 3, 1) := by decide +kernel
theorem dX12_carriesParents_20 : decode cX12_carriesParents 20 = .ok (.aload_n 0, 1) := by decide +kernel
theorem dX12_carriesParents_21 : decode cX12_carriesParents 21 = .ok (.getfield 510, 3) := by decide +kernel
theorem dX12_carriesParents_24 : decode cX12_carriesParents 24 = .ok (.if_icmp .ge 65, 3) := by decide +kernel
theorem dX12_carriesParents_27 : decode cX12_carriesParents 27 = .ok (.aload_n 0, 1) := by decide +kernel
theorem dX12_carriesParents_28 : decode cX12_carriesParents 28 = .ok (.getfield 81, 3) := by decide +kernel
theorem dX12_carriesParents_31 : decode cX12_carriesParents 31 = .ok (.iload_n 3, 1) := by decide +kernel
theorem dX12_carriesParents_32 : decode cX12_carriesParents 32 = .ok (.iconst 0, 1) := by decide +kernel
theorem dX12_carriesParents_33 : decode cX12_carriesParents 33 = .ok (.bastore, 1) := by decide +kernel
theorem dX12_carriesParents_34 : decode cX12_carriesParents 34 = .ok (.iconst 0, 1) := by decide +kernel
theorem dX12_carriesParents_35 : decode cX12_carriesParents 35 = .ok (.istore 4, 2) := by decide +kernel
theorem dX12_carriesParents_37 : decode cX12_carriesParents 37 = .ok (.iload 4, 2) := by decide +kernel
theorem dX12_carriesParents_39 : decode cX12_carriesParents 39 = .ok (.aload_n 0, 1) := by decide +kernel
theorem dX12_carriesParents_40 : decode cX12_carriesParents 40 = .ok (.getfield 510, 3) := by decide +kernel
theorem dX12_carriesParents_43 : decode cX12_carriesParents 43 = .ok (.if_icmp .ge 40, 3) := by decide +kernel
theorem dX12_carriesParents_46 : decode cX12_carriesParents 46 = .ok (.aload_n 0, 1) := by decide +kernel
theorem dX12_carriesParents_47 : decode cX12_carriesParents 47 = .ok (.getfield 81, 3) := by decide +kernel
theorem dX12_carriesParents_50 : decode cX12_carriesParents 50 = .ok (.iload_n 3, 1) := by decide +kernel
theorem dX12_carriesParents_51 : decode cX12_carriesParents 51 = .ok (.aload_n 0, 1) := by decide +kernel
theorem dX12_carriesParents_52 : decode cX12_carriesParents 52 = .ok (.getfield 81, 3) := by decide +kernel
theorem dX12_carriesParents_55 : decode cX12_carriesParents 55 = .ok (.iload_n 3, 1) := by decide +kernel
theorem dX12_carriesParents_56 : decode cX12_carriesParents 56 = .ok (.baload, 1) := by decide +kernel
theorem dX12_carriesParents_57 : decode cX12_carriesParents 57 = .ok (.ifCond .ne 14, 3) := by decide +kernel
theorem dX12_carriesParents_60 : decode cX12_carriesParents 60 = .ok (.aload_n 0, 1) := by decide +kernel
theorem dX12_carriesParents_61 : decode cX12_carriesParents 61 = .ok (.iload_n 1, 1) := by decide +kernel
theorem dX12_carriesParents_62 : decode cX12_carriesParents 62 = .ok (.iload_n 3, 1) := by decide +kernel
theorem dX12_carriesParents_63 : decode cX12_carriesParents 63 = .ok (.iload 4, 2) := by decide +kernel
theorem dX12_carriesParents_65 : decode cX12_carriesParents 65 = .ok (.invokevirtual 525, 3) := by decide +kernel
theorem dX12_carriesParents_68 : decode cX12_carriesParents 68 = .ok (.ifCond .eq 7, 3) := by decide +kernel
theorem dX12_carriesParents_71 : decode cX12_carriesParents 71 = .ok (.iconst 1, 1) := by decide +kernel
theorem dX12_carriesParents_72 : decode cX12_carriesParents 72 = .ok (.goto 4, 3) := by decide +kernel
theorem dX12_carriesParents_75 : decode cX12_carriesParents 75 = .ok (.iconst 0, 1) := by decide +kernel
theorem dX12_carriesParents_76 : decode cX12_carriesParents 76 = .ok (.bastore, 1) := by decide +kernel
theorem dX12_carriesParents_77 : decode cX12_carriesParents 77 = .ok (.iinc 4 1, 3) := by decide +kernel
theorem dX12_carriesParents_80 : decode cX12_carriesParents 80 = .ok (.goto (-43), 3) := by decide +kernel
theorem dX12_carriesParents_83 : decode cX12_carriesParents 83 = .ok (.iinc 3 1, 3) := by decide +kernel
theorem dX12_carriesParents_86 : decode cX12_carriesParents 86 = .ok (.goto (-67), 3) := by decide +kernel
theorem dX12_carriesParents_89 : decode cX12_carriesParents 89 = .ok (.aload_n 0, 1) := by decide +kernel
theorem dX12_carriesParents_90 : decode cX12_carriesParents 90 = .ok (.invokevirtual 528, 3) := by decide +kernel
theorem dX12_carriesParents_93 : decode cX12_carriesParents 93 = .ok (.aload_n 0, 1) := by decide +kernel
theorem dX12_carriesParents_94 : decode cX12_carriesParents 94 = .ok (.iload_n 1, 1) := by decide +kernel
theorem dX12_carriesParents_95 : decode cX12_carriesParents 95 = .ok (.bipush 11, 2) := by decide +kernel
theorem dX12_carriesParents_97 : decode cX12_carriesParents 97 = .ok (.invokevirtual 452, 3) := by decide +kernel
theorem dX12_carriesParents_100 : decode cX12_carriesParents 100 = .ok (.iconst 3, 1) := by decide +kernel
theorem dX12_carriesParents_101 : decode cX12_carriesParents 101 = .ok (.if_icmp .lt 11, 3) := by decide +kernel
theorem dX12_carriesParents_104 : decode cX12_carriesParents 104 = .ok (.aload_n 0, 1) := by decide +kernel
theorem dX12_carriesParents_105 : decode cX12_carriesParents 105 = .ok (.getfield 510, 3) := by decide +kernel
theorem dX12_carriesParents_108 : decode cX12_carriesParents 108 = .ok (.iconst 2, 1) := by decide +kernel
theorem dX12_carriesParents_109 : decode cX12_carriesParents 109 = .ok (.if_icmp .ge 4, 3) := by decide +kernel
theorem dX12_carriesParents_112 : decode cX12_carriesParents 112 = .ok (.return_, 1) := by decide +kernel
theorem dX12_carriesParents_113 : decode cX12_carriesParents 113 = .ok (.iconst 0, 1) := by decide +kernel
theorem dX12_carriesParents_114 : decode cX12_carriesParents 114 = .ok (.istore_n 3, 1) := by decide +kernel
theorem dX12_carriesParents_115 : decode cX12_carriesParents 115 = .ok (.iload_n 3, 1) := by decide +kernel
theorem dX12_carriesParents_116 : decode cX12_carriesParents 116 = .ok (.aload_n 0, 1) := by decide +kernel
theorem dX12_carriesParents_117 : decode cX12_carriesParents 117 = .ok (.getfield 510, 3) := by decide +kernel
theorem dX12_carriesParents_120 : decode cX12_carriesParents 120 = .ok (.if_icmp .ge 25, 3) := by decide +kernel
theorem dX12_carriesParents_123 : decode cX12_carriesParents 123 = .ok (.aload_n 0, 1) := by decide +kernel
theorem dX12_carriesParents_124 : decode cX12_carriesParents 124 = .ok (.aload_n 0, 1) := by decide +kernel
theorem dX12_carriesParents_125 : decode cX12_carriesParents 125 = .ok (.getfield 75, 3) := by decide +kernel
theorem dX12_carriesParents_128 : decode cX12_carriesParents 128 = .ok (.iload_n 3, 1) := by decide +kernel
theorem dX12_carriesParents_129 : decode cX12_carriesParents 129 = .ok (.iaload, 1) := by decide +kernel
theorem dX12_carriesParents_130 : decode cX12_carriesParents 130 = .ok (.bipush 121, 2) := by decide +kernel
theorem dX12_carriesParents_132 : decode cX12_carriesParents 132 = .ok (.invokevirtual 195, 3) := by decide +kernel
theorem dX12_carriesParents_135 : decode cX12_carriesParents 135 = .ok (.ifCond .ne 10, 3) := by decide +kernel
theorem dX12_carriesParents_138 : decode cX12_carriesParents 138 = .ok (.iload_n 3, 1) := by decide +kernel
theorem dX12_carriesParents_139 : decode cX12_carriesParents 139 = .ok (.iconst 1, 1) := by decide +kernel
theorem dX12_carriesParents_140 : decode cX12_carriesParents 140 = .ok (.iadd, 1) := by decide +kernel
theorem dX12_carriesParents_141 : decode cX12_carriesParents 141 = .ok (.istore_n 3, 1) := by decide +kernel
theorem dX12_carriesParents_142 : decode cX12_carriesParents 142 = .ok (.goto (-27), 3) := by decide +kernel
theorem dX12_carriesParents_145 : decode cX12_carriesParents 145 = .ok (.iload_n 3, 1) := by decide +kernel
theorem dX12_carriesParents_146 : decode cX12_carriesParents 146 = .ok (.aload_n 0, 1) := by decide +kernel
theorem dX12_carriesParents_147 : decode cX12_carriesParents 147 = .ok (.getfield 510, 3) := by decide +kernel
theorem dX12_carriesParents_150 : decode cX12_carriesParents 150 = .ok (.if_icmp .ge 20, 3) := by decide +kernel
theorem dX12_carriesParents_153 : decode cX12_carriesParents 153 = .ok (.aload_n 0, 1) := by decide +kernel
theorem dX12_carriesParents_154 : decode cX12_carriesParents 154 = .ok (.getfield 75, 3) := by decide +kernel
theorem dX12_carriesParents_157 : decode cX12_carriesParents 157 = .ok (.iconst 0, 1) := by decide +kernel
theorem dX12_carriesParents_158 : decode cX12_carriesParents 158 = .ok (.aload_n 0, 1) := by decide +kernel
theorem dX12_carriesParents_159 : decode cX12_carriesParents 159 = .ok (.getfield 75, 3) := by decide +kernel
theorem dX12_carriesParents_162 : decode cX12_carriesParents 162 = .ok (.iload_n 3, 1) := by decide +kernel
theorem dX12_carriesParents_163 : decode cX12_carriesParents 163 = .ok (.iaload, 1) := by decide +kernel
theorem dX12_carriesParents_164 : decode cX12_carriesParents 164 = .ok (.iastore, 1) := by decide +kernel
theorem dX12_carriesParents_165 : decode cX12_carriesParents 165 = .ok (.aload_n 0, 1) := by decide +kernel
theorem dX12_carriesParents_166 : decode cX12_carriesParents 166 = .ok (.iconst 1, 1) := by decide +kernel
theorem dX12_carriesParents_167 : decode cX12_carriesParents 167 = .ok (.putfield 510, 3) := by decide +kernel
theorem dX12_carriesParents_170 : decode cX12_carriesParents 170 = .ok (.return_, 1) := by decide +kernel
noncomputable def st_carriesParents : Nat × List Int × gM → Option ((Nat × List Int × gM) ⊕ (gM))
  | (0, [x1, x2, x3], M) => (if x3 < (M 711 37) then
      (if 0 ≤ x3 ∧ x3 < 3 then
        some (.inl (1, [x1, x2, x3, 0], (gU M 735 x3 0)))
      else none)
    else
      (Option.bind (F_closesUp M) (fun m90 =>
        (Option.bind (F_ofPlan m90 x1 11) (fun r97 =>
          (if r97 < 3 then
            some (.inr m90)
          else
            (if (m90 711 37) < 2 then
              some (.inr m90)
            else
              some (.inl (2, [x1, x2, 0], m90)))))))))
  | (1, [x1, x2, x3, x4], M) => (if x4 < (M 711 37) then
      (if 0 ≤ x3 ∧ x3 < 3 then
        (if (M 735 x3) = 0 then
          (Option.bind (F_goesFor M x1 x3 x4) (fun p65 =>
            (if p65.1 = 0 then
              some (.inl (1, [x1, x2, x3, (gw32 (x4 + 1))], (gU p65.2 735 x3 0)))
            else
              some (.inl (1, [x1, x2, x3, (gw32 (x4 + 1))], (gU p65.2 735 x3 1))))))
        else
          some (.inl (1, [x1, x2, x3, (gw32 (x4 + 1))], (gU M 735 x3 1))))
      else none)
    else
      some (.inl (0, [x1, x2, (gw32 (x3 + 1))], M)))
  | (2, [x1, x2, x3], M) => (if x3 < (M 711 37) then
      (if 0 ≤ x3 ∧ x3 < 3 then
        (Option.bind (F_areLike M (M 733 x3) 121) (fun r132 =>
          (if r132 = 0 then
            some (.inl (2, [x1, x2, (gw32 (x3 + (1 : Int)))], M))
          else
            some (.inl (3, [x1, x2, x3], M)))))
      else none)
    else
      some (.inl (3, [x1, x2, x3], M)))
  | (3, [x1, x2, x3], M) => (if x3 < (M 711 37) then
      (if 0 ≤ x3 ∧ x3 < 3 then
        some (.inr (gU (gU M 733 0 (M 733 x3)) 711 37 1))
      else none)
    else
      some (.inr M))
  | _ => none
theorem sk_carriesParents_19 (k : Nat × List Int × gM → Option (gM)) (M : gM) (x1 x2 x3 : Int) : gWk k (st_carriesParents (0, [x1, x2, x3], M)) = (if x3 < (M 711 37) then
    (if 0 ≤ x3 ∧ x3 < 3 then
      k (1, [x1, x2, x3, 0], (gU M 735 x3 0))
    else none)
  else
    (Option.bind (F_closesUp M) (fun m90 =>
      (Option.bind (F_ofPlan m90 x1 11) (fun r97 =>
        (if r97 < 3 then
          some m90
        else
          (if (m90 711 37) < 2 then
            some m90
          else
            k (2, [x1, x2, 0], m90)))))))) := by
  simp only [st_carriesParents, gWk_ite, gWk_bind, gWk_inl, gWk_inr, gWk_none]
theorem sk_carriesParents_37 (k : Nat × List Int × gM → Option (gM)) (M : gM) (x1 x2 x3 x4 : Int) : gWk k (st_carriesParents (1, [x1, x2, x3, x4], M)) = (if x4 < (M 711 37) then
    (if 0 ≤ x3 ∧ x3 < 3 then
      (if (M 735 x3) = 0 then
        (Option.bind (F_goesFor M x1 x3 x4) (fun p65 =>
          (if p65.1 = 0 then
            k (1, [x1, x2, x3, (gw32 (x4 + 1))], (gU p65.2 735 x3 0))
          else
            k (1, [x1, x2, x3, (gw32 (x4 + 1))], (gU p65.2 735 x3 1)))))
      else
        k (1, [x1, x2, x3, (gw32 (x4 + 1))], (gU M 735 x3 1)))
    else none)
  else
    k (0, [x1, x2, (gw32 (x3 + 1))], M)) := by
  simp only [st_carriesParents, gWk_ite, gWk_bind, gWk_inl, gWk_inr, gWk_none]
theorem sk_carriesParents_115 (k : Nat × List Int × gM → Option (gM)) (M : gM) (x1 x2 x3 : Int) : gWk k (st_carriesParents (2, [x1, x2, x3], M)) = (if x3 < (M 711 37) then
    (if 0 ≤ x3 ∧ x3 < 3 then
      (Option.bind (F_areLike M (M 733 x3) 121) (fun r132 =>
        (if r132 = 0 then
          k (2, [x1, x2, (gw32 (x3 + (1 : Int)))], M)
        else
          k (3, [x1, x2, x3], M))))
    else none)
  else
    k (3, [x1, x2, x3], M)) := by
  simp only [st_carriesParents, gWk_ite, gWk_bind, gWk_inl, gWk_inr, gWk_none]
theorem sk_carriesParents_145 (k : Nat × List Int × gM → Option (gM)) (M : gM) (x1 x2 x3 : Int) : gWk k (st_carriesParents (3, [x1, x2, x3], M)) = (if x3 < (M 711 37) then
    (if 0 ≤ x3 ∧ x3 < 3 then
      some (gU (gU M 733 0 (M 733 x3)) 711 37 1)
    else none)
  else
    some M) := by
  simp only [st_carriesParents, gWk_ite, gWk_bind, gWk_inl, gWk_inr, gWk_none]
noncomputable def F_carriesParents_19 (M : gM) (x1 x2 x3 : Int) : Option (gM) := gWh (st_carriesParents) (0, [x1, x2, x3], M)
noncomputable def F_carriesParents_37 (M : gM) (x1 x2 x3 x4 : Int) : Option (gM) := gWh (st_carriesParents) (1, [x1, x2, x3, x4], M)
noncomputable def F_carriesParents_115 (M : gM) (x1 x2 x3 : Int) : Option (gM) := gWh (st_carriesParents) (2, [x1, x2, x3], M)
noncomputable def F_carriesParents_145 (M : gM) (x1 x2 x3 : Int) : Option (gM) := gWh (st_carriesParents) (3, [x1, x2, x3], M)
theorem eq_carriesParents_19 (M : gM) (x1 x2 x3 : Int) : F_carriesParents_19 M x1 x2 x3 = (if x3 < (M 711 37) then
    (if 0 ≤ x3 ∧ x3 < 3 then
      F_carriesParents_37 (gU M 735 x3 0) x1 x2 x3 0
    else none)
  else
    (Option.bind (F_closesUp M) (fun m90 =>
      (Option.bind (F_ofPlan m90 x1 11) (fun r97 =>
        (if r97 < 3 then
          some m90
        else
          (if (m90 711 37) < 2 then
            some m90
          else
            F_carriesParents_115 m90 x1 x2 0))))))) := (gWh_eq _).trans (sk_carriesParents_19 _ M x1 x2 x3)
theorem eq_carriesParents_37 (M : gM) (x1 x2 x3 x4 : Int) : F_carriesParents_37 M x1 x2 x3 x4 = (if x4 < (M 711 37) then
    (if 0 ≤ x3 ∧ x3 < 3 then
      (if (M 735 x3) = 0 then
        (Option.bind (F_goesFor M x1 x3 x4) (fun p65 =>
          (if p65.1 = 0 then
            F_carriesParents_37 (gU p65.2 735 x3 0) x1 x2 x3 (gw32 (x4 + 1))
          else
            F_carriesParents_37 (gU p65.2 735 x3 1) x1 x2 x3 (gw32 (x4 + 1)))))
      else
        F_carriesParents_37 (gU M 735 x3 1) x1 x2 x3 (gw32 (x4 + 1)))
    else none)
  else
    F_carriesParents_19 M x1 x2 (gw32 (x3 + 1))) := (gWh_eq _).trans (sk_carriesParents_37 _ M x1 x2 x3 x4)
theorem eq_carriesParents_115 (M : gM) (x1 x2 x3 : Int) : F_carriesParents_115 M x1 x2 x3 = (if x3 < (M 711 37) then
    (if 0 ≤ x3 ∧ x3 < 3 then
      (Option.bind (F_areLike M (M 733 x3) 121) (fun r132 =>
        (if r132 = 0 then
          F_carriesParents_115 M x1 x2 (gw32 (x3 + (1 : Int)))
        else
          F_carriesParents_145 M x1 x2 x3)))
    else none)
  else
    F_carriesParents_145 M x1 x2 x3) := (gWh_eq _).trans (sk_carriesParents_115 _ M x1 x2 x3)
theorem eq_carriesParents_145 (M : gM) (x1 x2 x3 : Int) : F_carriesParents_145 M x1 x2 x3 = (if x3 < (M 711 37) then
    (if 0 ≤ x3 ∧ x3 < 3 then
      some (gU (gU M 733 0 (M 733 x3)) 711 37 1)
    else none)
  else
    some M) := (gWh_eq _).trans (sk_carriesParents_145 _ M x1 x2 x3)
noncomputable def F_carriesParents (M : gM) (a1 a2 : Int) : Option (gM) := (Option.bind (F_carriesAll M a1 a2) (fun m3 =>
    (Option.bind (F_ofPlan m3 a1 11) (fun r10 =>
      (if r10 = 0 then
        some m3
      else
        F_carriesParents_19 m3 a1 a2 0)))))
theorem eq_carriesParents (M : gM) (a1 a2 : Int) : F_carriesParents M a1 a2 = (Option.bind (F_carriesAll M a1 a2) (fun m3 =>
    (Option.bind (F_ofPlan m3 a1 11) (fun r10 =>
      (if r10 = 0 then
        some m3
      else
        F_carriesParents_19 m3 a1 a2 0))))) := rfl
theorem frp_carriesParents : ∀ (s : Nat × List Int × gM) (b : gM), gWh (st_carriesParents) s = some b → (∀ (x1 x2 x3 : Int) (M : gM), s = (0, [x1, x2, x3], M) → gFr [723, 732, 733, 734, 735] [37] M b) ∧ (∀ (x1 x2 x3 x4 : Int) (M : gM), s = (1, [x1, x2, x3, x4], M) → gFr [723, 732, 733, 734, 735] [37] M b) ∧ (∀ (x1 x2 x3 : Int) (M : gM), s = (2, [x1, x2, x3], M) → gFr [723, 732, 733, 734, 735] [37] M b) ∧ (∀ (x1 x2 x3 : Int) (M : gM), s = (3, [x1, x2, x3], M) → gFr [723, 732, 733, 734, 735] [37] M b) := by
  refine gWh_ind (fun k hk s b h => ⟨?_, ?_, ?_, ?_⟩)
  · rintro x1 x2 x3 M rfl
    rw [sk_carriesParents_19] at h
    rcases gI_or h with h | h
    · obtain ⟨g2, h⟩ := gI_gd h
      exact gFr_t (gFr_a (gFr_r [723, 732, 733, 734, 735] [37] _) (.tail _ (.tail _ (.tail _ (.tail _ (.head _))))) (by decide)) ((hk _ _ h).2.1 _ _ _ _ _ rfl) (fun _ z => z) (fun _ z => z)
    · obtain ⟨m90, e90, h⟩ := gI_bd h
      obtain ⟨r97, e97, h⟩ := gI_bd h
      rcases gI_or h with h | h
      · rw [← Option.some.inj h]
        exact (gFr_t (gFr_r [723, 732, 733, 734, 735] [37] _) (fr_closesUp (b := m90) e90) (by first | decide | simp) (by decide))
      · rcases gI_or h with h | h
        · rw [← Option.some.inj h]
          exact (gFr_t (gFr_r [723, 732, 733, 734, 735] [37] _) (fr_closesUp (b := m90) e90) (by first | decide | simp) (by decide))
        · exact gFr_t (gFr_t (gFr_r [723, 732, 733, 734, 735] [37] _) (fr_closesUp (b := m90) e90) (by first | decide | simp) (by decide)) ((hk _ _ h).2.2.1 _ _ _ _ rfl) (fun _ z => z) (fun _ z => z)
  · rintro x1 x2 x3 x4 M rfl
    rw [sk_carriesParents_37] at h
    rcases gI_or h with h | h
    · obtain ⟨g4, h⟩ := gI_gd h
      rcases gI_or h with h | h
      · obtain ⟨p65, e65, h⟩ := gI_bd h
        rcases gI_or h with h | h
        · exact gFr_t (gFr_a (gFr_t (gFr_r [723, 732, 733, 734, 735] [37] _) (fr_goesFor (b := p65) e65) (by first | decide | simp) (by decide)) (.tail _ (.tail _ (.tail _ (.tail _ (.head _))))) (by decide)) ((hk _ _ h).2.1 _ _ _ _ _ rfl) (fun _ z => z) (fun _ z => z)
        · exact gFr_t (gFr_a (gFr_t (gFr_r [723, 732, 733, 734, 735] [37] _) (fr_goesFor (b := p65) e65) (by first | decide | simp) (by decide)) (.tail _ (.tail _ (.tail _ (.tail _ (.head _))))) (by decide)) ((hk _ _ h).2.1 _ _ _ _ _ rfl) (fun _ z => z) (fun _ z => z)
      · exact gFr_t (gFr_a (gFr_r [723, 732, 733, 734, 735] [37] _) (.tail _ (.tail _ (.tail _ (.tail _ (.head _))))) (by decide)) ((hk _ _ h).2.1 _ _ _ _ _ rfl) (fun _ z => z) (fun _ z => z)
    · exact gFr_t (gFr_r [723, 732, 733, 734, 735] [37] _) ((hk _ _ h).1 _ _ _ _ rfl) (fun _ z => z) (fun _ z => z)
  · rintro x1 x2 x3 M rfl
    rw [sk_carriesParents_115] at h
    rcases gI_or h with h | h
    · obtain ⟨g9, h⟩ := gI_gd h
      obtain ⟨r132, e132, h⟩ := gI_bd h
      rcases gI_or h with h | h
      · exact gFr_t (gFr_r [723, 732, 733, 734, 735] [37] _) ((hk _ _ h).2.2.1 _ _ _ _ rfl) (fun _ z => z) (fun _ z => z)
      · exact gFr_t (gFr_r [723, 732, 733, 734, 735] [37] _) ((hk _ _ h).2.2.2 _ _ _ _ rfl) (fun _ z => z) (fun _ z => z)
    · exact gFr_t (gFr_r [723, 732, 733, 734, 735] [37] _) ((hk _ _ h).2.2.2 _ _ _ _ rfl) (fun _ z => z) (fun _ z => z)
  · rintro x1 x2 x3 M rfl
    rw [sk_carriesParents_145] at h
    rcases gI_or h with h | h
    · obtain ⟨g10, h⟩ := gI_gd h
      rw [← Option.some.inj h]
      exact (gFr_f (gFr_a (gFr_r [723, 732, 733, 734, 735] [37] _) (.tail _ (.tail _ (.head _))) (by decide)) (.head _))
    · rw [← Option.some.inj h]
      exact (gFr_r [723, 732, 733, 734, 735] [37] _)
theorem fr_carriesParents_19 {M : gM} {x1 x2 x3 : Int} {b : gM} (h : F_carriesParents_19 M x1 x2 x3 = some b) : gFr [723, 732, 733, 734, 735] [37] M b :=
  (frp_carriesParents _ _ h).1 _ _ _ _ rfl
theorem fr_carriesParents_37 {M : gM} {x1 x2 x3 x4 : Int} {b : gM} (h : F_carriesParents_37 M x1 x2 x3 x4 = some b) : gFr [723, 732, 733, 734, 735] [37] M b :=
  (frp_carriesParents _ _ h).2.1 _ _ _ _ _ rfl
theorem fr_carriesParents_115 {M : gM} {x1 x2 x3 : Int} {b : gM} (h : F_carriesParents_115 M x1 x2 x3 = some b) : gFr [723, 732, 733, 734, 735] [37] M b :=
  (frp_carriesParents _ _ h).2.2.1 _ _ _ _ rfl
theorem fr_carriesParents_145 {M : gM} {x1 x2 x3 : Int} {b : gM} (h : F_carriesParents_145 M x1 x2 x3 = some b) : gFr [723, 732, 733, 734, 735] [37] M b :=
  (frp_carriesParents _ _ h).2.2.2 _ _ _ _ rfl
theorem fr_carriesParents {M : gM} {a1 a2 : Int} {b : gM} (h : F_carriesParents M a1 a2 = some b) : gFr [723, 732, 733, 734, 735] [37] M b := by
  rw [eq_carriesParents] at h
  obtain ⟨m3, e3, h⟩ := gI_bd h
  obtain ⟨r10, e10, h⟩ := gI_bd h
  rcases gI_or h with h | h
  · rw [← Option.some.inj h]
    exact (gFr_t (gFr_r [723, 732, 733, 734, 735] [37] _) (fr_carriesAll (b := m3) e3) (by first | decide | simp) (by decide))
  · exact gFr_t (gFr_t (gFr_r [723, 732, 733, 734, 735] [37] _) (fr_carriesAll (b := m3) e3) (by first | decide | simp) (by decide)) (fr_carriesParents_19 h) (fun _ z => z) (fun _ z => z)
theorem okp_carriesParents {sh : gS} : ∀ (s : Nat × List Int × gM) (b : gM), gWh (st_carriesParents) s = some b → (∀ (x1 x2 x3 : Int) (M : gM), s = (0, [x1, x2, x3], M) → gOK sh M → gA (gr 8 183) yX12_carriesParents cX12_carriesParents 5 none (gPq sh none b) (0, 0) 19 [(4, 711), (0, x1), (0, x2), (0, x3), (9, 0)] [] sh M) ∧ (∀ (x1 x2 x3 x4 : Int) (M : gM), s = (1, [x1, x2, x3, x4], M) → gOK sh M → gA (gr 8 183) yX12_carriesParents cX12_carriesParents 5 none (gPq sh none b) (0, 0) 37 [(4, 711), (0, x1), (0, x2), (0, x3), (0, x4)] [] sh M) ∧ (∀ (x1 x2 x3 : Int) (M : gM), s = (2, [x1, x2, x3], M) → gOK sh M → gA (gr 8 183) yX12_carriesParents cX12_carriesParents 5 none (gPq sh none b) (0, 0) 115 [(4, 711), (0, x1), (0, x2), (0, x3), (9, 0)] [] sh M) ∧ (∀ (x1 x2 x3 : Int) (M : gM), s = (3, [x1, x2, x3], M) → gOK sh M → gA (gr 8 183) yX12_carriesParents cX12_carriesParents 5 none (gPq sh none b) (0, 0) 145 [(4, 711), (0, x1), (0, x2), (0, x3), (9, 0)] [] sh M) := by
  refine gWh_ind (fun k hk s b h => ⟨?_, ?_, ?_, ?_⟩)
  · rintro x1 x2 x3 M rfl hOK
    rw [sk_carriesParents_19] at h
    refine g_iload_n (q0 := 20) (j := 3) rfl dX12_carriesParents_19 rfl ?_
    refine g_aload_n (q0 := 21) (j := 0) rfl dX12_carriesParents_20 rfl ?_
    refine g_getf (q0 := 24) (t := 0) (fi := 37) rfl rfl ff_X12_510 dX12_carriesParents_21 rfl (sh_711 hOK) ?_
    refine g_icmp_ge (q0 := 27) (tgt := 89) rfl dX12_carriesParents_24 (by decide) (fun h24 => ?_) (fun h24 => ?_)
    · replace h := gI_neg (Int.not_lt.mpr h24) h
      refine g_aload_n (q0 := 90) (j := 0) rfl dX12_carriesParents_89 rfl ?_
      obtain ⟨m90, e90, h⟩ := gI_bd h
      refine g_callVq0 (as := []) (rest := []) mt_X12_closesUp mi_X12_closesUp se_X12_closesUp ml_X12_528 dX12_carriesParents_90 (q0 := 93) rfl rfl (sh_711 hOK) rfl rfl (ok_closesUp hOK e90) rfl ⟨by decide, by decide⟩ (Nat.le_of_ble_eq_true rfl) ⟨Nat.zero_le _, Nat.zero_le _⟩ ?_
      have hOK1 : gOK sh m90 := gOK_fr hOK (fr_closesUp (b := m90) e90) (by first | decide | (intro a ha; simp only [List.mem_cons, List.not_mem_nil, or_false] at ha; omega)) (by decide)
      refine g_aload_n (q0 := 94) (j := 0) rfl dX12_carriesParents_93 rfl ?_
      refine g_iload_n (q0 := 95) (j := 1) rfl dX12_carriesParents_94 rfl ?_
      refine g_bipush (q0 := 97) rfl dX12_carriesParents_95 (k := ?_)
      obtain ⟨r97, e97, h⟩ := gI_bd h
      refine g_callVq1 (as := [_, _]) (rest := []) mt_X12_ofPlan mi_X12_ofPlan se_X12_ofPlan ml_X12_452 dX12_carriesParents_97 (q0 := 100) rfl rfl (sh_711 hOK1) rfl rfl (ok_ofPlan hOK1 e97) rfl ⟨by decide, by decide⟩ (Nat.le_of_ble_eq_true rfl) ⟨Nat.zero_le _, Nat.zero_le _⟩ ?_
      refine g_iconst (q0 := 101) rfl dX12_carriesParents_100 (k := ?_)
      refine g_icmp_lt (q0 := 104) (tgt := 112) rfl dX12_carriesParents_101 (by decide) (fun h101 => ?_) (fun h101 => ?_)
      · replace h := gI_pos h101 h
        rw [← Option.some.inj h]
        refine g_return dX12_carriesParents_112 rfl ⟨Nat.zero_le _, Nat.zero_le _⟩ ?_
        exact ⟨rfl, rfl, rfl⟩
      · replace h := gI_neg (Int.not_lt.mpr h101) h
        refine g_aload_n (q0 := 105) (j := 0) rfl dX12_carriesParents_104 rfl ?_
        refine g_getf (q0 := 108) (t := 0) (fi := 37) rfl rfl ff_X12_510 dX12_carriesParents_105 rfl (sh_711 hOK1) ?_
        refine g_iconst (q0 := 109) rfl dX12_carriesParents_108 (k := ?_)
        refine g_icmp_ge (q0 := 112) (tgt := 113) rfl dX12_carriesParents_109 (by decide) (fun h109 => ?_) (fun h109 => ?_)
        · replace h := gI_neg (Int.not_lt.mpr h109) h
          refine g_iconst (q0 := 114) rfl dX12_carriesParents_113 (k := ?_)
          refine g_istore_n (q0 := 115) (j := 3) (lv2 := [_, _, _, _, _]) rfl dX12_carriesParents_114 (by decide) rfl rfl ?_
          exact (hk _ _ h).2.2.1 _ _ _ _ rfl hOK1
        · replace h := gI_pos h109 h
          rw [← Option.some.inj h]
          refine g_return dX12_carriesParents_112 rfl ⟨Nat.zero_le _, Nat.zero_le _⟩ ?_
          exact ⟨rfl, rfl, rfl⟩
    · replace h := gI_pos h24 h
      refine g_aload_n (q0 := 28) (j := 0) rfl dX12_carriesParents_27 rfl ?_
      refine g_getp (q0 := 31) (b := 735) rfl ff_X12_81 dX12_carriesParents_28 rfl hOK (by decide) (sh_711 hOK) rfl (by decide) ?_
      refine g_iload_n (q0 := 32) (j := 3) rfl dX12_carriesParents_31 rfl ?_
      refine g_iconst (q0 := 33) rfl dX12_carriesParents_32 (k := ?_)
      obtain ⟨g2, h⟩ := gI_gd h
      refine g_zast (q0 := 34) rfl dX12_carriesParents_33 (sh_735 hOK) g2.1 g2.2 (Or.inl rfl) ?_
      have hOK3 : gOK sh (gU M 735 x3 0) := gOK_z hOK (sh_735 hOK)
      refine g_iconst (q0 := 35) rfl dX12_carriesParents_34 (k := ?_)
      refine g_istore (q0 := 37) (j := 4) (lv2 := [_, _, _, _, _]) rfl dX12_carriesParents_35 (by decide) rfl rfl ?_
      exact (hk _ _ h).2.1 _ _ _ _ _ rfl hOK3
  · rintro x1 x2 x3 x4 M rfl hOK
    rw [sk_carriesParents_37] at h
    refine g_iload (q0 := 39) (j := 4) rfl dX12_carriesParents_37 rfl ?_
    refine g_aload_n (q0 := 40) (j := 0) rfl dX12_carriesParents_39 rfl ?_
    refine g_getf (q0 := 43) (t := 0) (fi := 37) rfl rfl ff_X12_510 dX12_carriesParents_40 rfl (sh_711 hOK) ?_
    refine g_icmp_ge (q0 := 46) (tgt := 83) rfl dX12_carriesParents_43 (by decide) (fun h43 => ?_) (fun h43 => ?_)
    · replace h := gI_neg (Int.not_lt.mpr h43) h
      refine g_iincw (q0 := 86) (lv2 := [_, _, _, _, _]) rfl dX12_carriesParents_83 rfl (by decide) rfl rfl ?_
      refine g_goto (tgt := 19) dX12_carriesParents_86 (by decide) ?_
      refine gA_jk (lv1 := [_, _, _, _, (9, 0)]) ⟨.inl rfl, .inl rfl, .inl rfl, .inl rfl, .inr rfl, trivial⟩ ?_
      exact (hk _ _ h).1 _ _ _ _ rfl hOK
    · replace h := gI_pos h43 h
      refine g_aload_n (q0 := 47) (j := 0) rfl dX12_carriesParents_46 rfl ?_
      refine g_getp (q0 := 50) (b := 735) rfl ff_X12_81 dX12_carriesParents_47 rfl hOK (by decide) (sh_711 hOK) rfl (by decide) ?_
      refine g_iload_n (q0 := 51) (j := 3) rfl dX12_carriesParents_50 rfl ?_
      refine g_aload_n (q0 := 52) (j := 0) rfl dX12_carriesParents_51 rfl ?_
      refine g_getp (q0 := 55) (b := 735) rfl ff_X12_81 dX12_carriesParents_52 rfl hOK (by decide) (sh_711 hOK) rfl (by decide) ?_
      refine g_iload_n (q0 := 56) (j := 3) rfl dX12_carriesParents_55 rfl ?_
      obtain ⟨g4, h⟩ := gI_gd h
      refine g_zald (q0 := 57) rfl dX12_carriesParents_56 (sh_735 hOK) g4.1 g4.2 ?_
      refine g_if_ne (q0 := 60) (tgt := 71) rfl dX12_carriesParents_57 (by decide) (fun h57 => ?_) (fun h57 => ?_)
      · replace h := gI_neg h57 h
        refine g_iconst (q0 := 72) rfl dX12_carriesParents_71 (k := ?_)
        refine g_goto (tgt := 76) dX12_carriesParents_72 (by decide) ?_
        refine g_zast (q0 := 77) rfl dX12_carriesParents_76 (sh_735 hOK) g4.1 g4.2 (Or.inr rfl) ?_
        have hOK5 : gOK sh (gU M 735 x3 1) := gOK_z hOK (sh_735 hOK)
        refine g_iincw (q0 := 80) (lv2 := [_, _, _, _, _]) rfl dX12_carriesParents_77 rfl (by decide) rfl rfl ?_
        refine g_goto (tgt := 37) dX12_carriesParents_80 (by decide) ?_
        exact (hk _ _ h).2.1 _ _ _ _ _ rfl hOK5
      · replace h := gI_pos h57 h
        refine g_aload_n (q0 := 61) (j := 0) rfl dX12_carriesParents_60 rfl ?_
        refine g_iload_n (q0 := 62) (j := 1) rfl dX12_carriesParents_61 rfl ?_
        refine g_iload_n (q0 := 63) (j := 3) rfl dX12_carriesParents_62 rfl ?_
        refine g_iload (q0 := 65) (j := 4) rfl dX12_carriesParents_63 rfl ?_
        obtain ⟨p65, e65, h⟩ := gI_bd h
        refine g_callVq1 (as := [_, _, _]) (rest := [_, _]) mt_X12_goesFor mi_X12_goesFor se_X12_goesFor ml_X12_525 dX12_carriesParents_65 (q0 := 68) rfl rfl (sh_711 hOK) rfl rfl (ok_goesFor hOK e65) rfl ⟨by decide, by decide⟩ (Nat.le_of_ble_eq_true rfl) ⟨Nat.zero_le _, Nat.zero_le _⟩ ?_
        have hOK6 : gOK sh p65.2 := gOK_fr hOK (fr_goesFor (b := p65) e65) (by first | decide | (intro a ha; simp only [List.mem_cons, List.not_mem_nil, or_false] at ha; omega)) (by decide)
        refine g_if_eq (q0 := 71) (tgt := 75) rfl dX12_carriesParents_68 (by decide) (fun h68 => ?_) (fun h68 => ?_)
        · replace h := gI_pos h68 h
          refine g_iconst (q0 := 76) rfl dX12_carriesParents_75 (k := ?_)
          refine g_zast (q0 := 77) rfl dX12_carriesParents_76 (sh_735 hOK6) g4.1 g4.2 (Or.inl rfl) ?_
          have hOK7 : gOK sh (gU p65.2 735 x3 0) := gOK_z hOK6 (sh_735 hOK6)
          refine g_iincw (q0 := 80) (lv2 := [_, _, _, _, _]) rfl dX12_carriesParents_77 rfl (by decide) rfl rfl ?_
          refine g_goto (tgt := 37) dX12_carriesParents_80 (by decide) ?_
          exact (hk _ _ h).2.1 _ _ _ _ _ rfl hOK7
        · replace h := gI_neg h68 h
          refine g_iconst (q0 := 72) rfl dX12_carriesParents_71 (k := ?_)
          refine g_goto (tgt := 76) dX12_carriesParents_72 (by decide) ?_
          refine g_zast (q0 := 77) rfl dX12_carriesParents_76 (sh_735 hOK6) g4.1 g4.2 (Or.inr rfl) ?_
          have hOK8 : gOK sh (gU p65.2 735 x3 1) := gOK_z hOK6 (sh_735 hOK6)
          refine g_iincw (q0 := 80) (lv2 := [_, _, _, _, _]) rfl dX12_carriesParents_77 rfl (by decide) rfl rfl ?_
          refine g_goto (tgt := 37) dX12_carriesParents_80 (by decide) ?_
          exact (hk _ _ h).2.1 _ _ _ _ _ rfl hOK8
  · rintro x1 x2 x3 M rfl hOK
    rw [sk_carriesParents_115] at h
    refine g_iload_n (q0 := 116) (j := 3) rfl dX12_carriesParents_115 rfl ?_
    refine g_aload_n (q0 := 117) (j := 0) rfl dX12_carriesParents_116 rfl ?_
    refine g_getf (q0 := 120) (t := 0) (fi := 37) rfl rfl ff_X12_510 dX12_carriesParents_117 rfl (sh_711 hOK) ?_
    refine g_icmp_ge (q0 := 123) (tgt := 145) rfl dX12_carriesParents_120 (by decide) (fun h120 => ?_) (fun h120 => ?_)
    · replace h := gI_neg (Int.not_lt.mpr h120) h
      exact (hk _ _ h).2.2.2 _ _ _ _ rfl hOK
    · replace h := gI_pos h120 h
      refine g_aload_n (q0 := 124) (j := 0) rfl dX12_carriesParents_123 rfl ?_
      refine g_aload_n (q0 := 125) (j := 0) rfl dX12_carriesParents_124 rfl ?_
      refine g_getp (q0 := 128) (b := 733) rfl ff_X12_75 dX12_carriesParents_125 rfl hOK (by decide) (sh_711 hOK) rfl (by decide) ?_
      refine g_iload_n (q0 := 129) (j := 3) rfl dX12_carriesParents_128 rfl ?_
      obtain ⟨g9, h⟩ := gI_gd h
      refine g_iald (q0 := 130) rfl dX12_carriesParents_129 (sh_733 hOK) g9.1 g9.2 ?_
      refine g_bipush (q0 := 132) rfl dX12_carriesParents_130 (k := ?_)
      obtain ⟨r132, e132, h⟩ := gI_bd h
      refine g_callVq1 (as := [_, _]) (rest := []) mt_X12_areLike mi_X12_areLike se_X12_areLike ml_X12_195 dX12_carriesParents_132 (q0 := 135) rfl rfl (sh_711 hOK) rfl rfl (ok_areLike hOK e132) rfl ⟨by decide, by decide⟩ (Nat.le_of_ble_eq_true rfl) ⟨Nat.zero_le _, Nat.zero_le _⟩ ?_
      refine g_if_ne (q0 := 138) (tgt := 145) rfl dX12_carriesParents_135 (by decide) (fun h135 => ?_) (fun h135 => ?_)
      · replace h := gI_neg h135 h
        exact (hk _ _ h).2.2.2 _ _ _ _ rfl hOK
      · replace h := gI_pos h135 h
        refine g_iload_n (q0 := 139) (j := 3) rfl dX12_carriesParents_138 rfl ?_
        refine g_iconst (q0 := 140) rfl dX12_carriesParents_139 (k := ?_)
        refine g_iaddw (q0 := 141) rfl dX12_carriesParents_140 ?_
        refine g_istore_n (q0 := 142) (j := 3) (lv2 := [_, _, _, _, _]) rfl dX12_carriesParents_141 (by decide) rfl rfl ?_
        refine g_goto (tgt := 115) dX12_carriesParents_142 (by decide) ?_
        exact (hk _ _ h).2.2.1 _ _ _ _ rfl hOK
  · rintro x1 x2 x3 M rfl hOK
    rw [sk_carriesParents_145] at h
    refine g_iload_n (q0 := 146) (j := 3) rfl dX12_carriesParents_145 rfl ?_
    refine g_aload_n (q0 := 147) (j := 0) rfl dX12_carriesParents_146 rfl ?_
    refine g_getf (q0 := 150) (t := 0) (fi := 37) rfl rfl ff_X12_510 dX12_carriesParents_147 rfl (sh_711 hOK) ?_
    refine g_icmp_ge (q0 := 153) (tgt := 170) rfl dX12_carriesParents_150 (by decide) (fun h150 => ?_) (fun h150 => ?_)
    · replace h := gI_neg (Int.not_lt.mpr h150) h
      rw [← Option.some.inj h]
      refine g_return dX12_carriesParents_170 rfl ⟨Nat.zero_le _, Nat.zero_le _⟩ ?_
      exact ⟨rfl, rfl, rfl⟩
    · replace h := gI_pos h150 h
      refine g_aload_n (q0 := 154) (j := 0) rfl dX12_carriesParents_153 rfl ?_
      refine g_getp (q0 := 157) (b := 733) rfl ff_X12_75 dX12_carriesParents_154 rfl hOK (by decide) (sh_711 hOK) rfl (by decide) ?_
      refine g_iconst (q0 := 158) rfl dX12_carriesParents_157 (k := ?_)
      refine g_aload_n (q0 := 159) (j := 0) rfl dX12_carriesParents_158 rfl ?_
      refine g_getp (q0 := 162) (b := 733) rfl ff_X12_75 dX12_carriesParents_159 rfl hOK (by decide) (sh_711 hOK) rfl (by decide) ?_
      refine g_iload_n (q0 := 163) (j := 3) rfl dX12_carriesParents_162 rfl ?_
      obtain ⟨g10, h⟩ := gI_gd h
      refine g_iald (q0 := 164) rfl dX12_carriesParents_163 (sh_733 hOK) g10.1 g10.2 ?_
      refine g_iast (q0 := 165) rfl dX12_carriesParents_164 (sh_733 hOK) (by decide) (by decide) ?_
      have hOK11 : gOK sh (gU M 733 0 (M 733 x3)) := gOK_i hOK (sh_733 hOK)
      refine g_aload_n (q0 := 166) (j := 0) rfl dX12_carriesParents_165 rfl ?_
      refine g_iconst (q0 := 167) rfl dX12_carriesParents_166 (k := ?_)
      refine g_put (q0 := 170) (t := 0) (fi := 37) rfl rfl ff_X12_510 dX12_carriesParents_167 rfl (sh_711 hOK11) rfl (fun _ => ⟨rfl, rfl⟩) ?_
      have hOK12 : gOK sh (gU (gU M 733 0 (M 733 x3)) 711 37 1) := gOK_o hOK11 (sh_711 hOK11) (f := 37) rfl rfl
      rw [← Option.some.inj h]
      refine g_return dX12_carriesParents_170 rfl ⟨Nat.zero_le _, Nat.zero_le _⟩ ?_
      exact ⟨rfl, rfl, rfl⟩
theorem ok_carriesParents_19 {sh : gS} {M : gM} {x1 x2 x3 : Int} {b : gM} (hOK : gOK sh M) (h : F_carriesParents_19 M x1 x2 x3 = some b) : gA (gr 8 183) yX12_carriesParents cX12_carriesParents 5 none (gPq sh none b) (0, 0) 19 [(4, 711), (0, x1), (0, x2), (0, x3), (9, 0)] [] sh M :=
  (okp_carriesParents _ _ h).1 _ _ _ _ rfl hOK
theorem ok_carriesParents_37 {sh : gS} {M : gM} {x1 x2 x3 x4 : Int} {b : gM} (hOK : gOK sh M) (h : F_carriesParents_37 M x1 x2 x3 x4 = some b) : gA (gr 8 183) yX12_carriesParents cX12_carriesParents 5 none (gPq sh none b) (0, 0) 37 [(4, 711), (0, x1), (0, x2), (0, x3), (0, x4)] [] sh M :=
  (okp_carriesParents _ _ h).2.1 _ _ _ _ _ rfl hOK
theorem ok_carriesParents_115 {sh : gS} {M : gM} {x1 x2 x3 : Int} {b : gM} (hOK : gOK sh M) (h : F_carriesParents_115 M x1 x2 x3 = some b) : gA (gr 8 183) yX12_carriesParents cX12_carriesParents 5 none (gPq sh none b) (0, 0) 115 [(4, 711), (0, x1), (0, x2), (0, x3), (9, 0)] [] sh M :=
  (okp_carriesParents _ _ h).2.2.1 _ _ _ _ rfl hOK
theorem ok_carriesParents_145 {sh : gS} {M : gM} {x1 x2 x3 : Int} {b : gM} (hOK : gOK sh M) (h : F_carriesParents_145 M x1 x2 x3 = some b) : gA (gr 8 183) yX12_carriesParents cX12_carriesParents 5 none (gPq sh none b) (0, 0) 145 [(4, 711), (0, x1), (0, x2), (0, x3), (9, 0)] [] sh M :=
  (okp_carriesParents _ _ h).2.2.2 _ _ _ _ rfl hOK
theorem ok_carriesParents {sh : gS} {M : gM} {a1 a2 : Int} {b : gM} (hOK : gOK sh M) (h : F_carriesParents M a1 a2 = some b) : gC (gr 8 183) yX12_carriesParents cX12_carriesParents 5 none [(4, 711), (0, a1), (0, a2)] sh M (gPq sh none b) := by
  rw [eq_carriesParents] at h
  refine gC_ofA (lv := [_, _, _, _, _]) (by decide +kernel) (Nat.le_of_ble_eq_true rfl) rfl (fun hMw hav => ?_)
  refine g_aload_n (q0 := 1) (j := 0) rfl dX12_carriesParents_0 rfl ?_
  refine g_iload_n (q0 := 2) (j := 1) rfl dX12_carriesParents_1 rfl ?_
  refine g_iload_n (q0 := 3) (j := 2) rfl dX12_carriesParents_2 rfl ?_
  obtain ⟨m3, e3, h⟩ := gI_bd h
  refine g_callVq0 (as := [_, _]) (rest := []) mt_X12_carriesAll mi_X12_carriesAll se_X12_carriesAll ml_X12_522 dX12_carriesParents_3 (q0 := 6) rfl rfl (sh_711 hOK) rfl rfl (ok_carriesAll hOK e3) rfl ⟨by decide, by decide⟩ (Nat.le_of_ble_eq_true rfl) ⟨Nat.zero_le _, Nat.zero_le _⟩ ?_
  have hOK13 : gOK sh m3 := gOK_fr hOK (fr_carriesAll (b := m3) e3) (by first | decide | (intro a ha; simp only [List.mem_cons, List.not_mem_nil, or_false] at ha; omega)) (by decide)
  refine g_aload_n (q0 := 7) (j := 0) rfl dX12_carriesParents_6 rfl ?_
  refine g_iload_n (q0 := 8) (j := 1) rfl dX12_carriesParents_7 rfl ?_
  refine g_bipush (q0 := 10) rfl dX12_carriesParents_8 (k := ?_)
  obtain ⟨r10, e10, h⟩ := gI_bd h
  refine g_callVq1 (as := [_, _]) (rest := []) mt_X12_ofPlan mi_X12_ofPlan se_X12_ofPlan ml_X12_452 dX12_carriesParents_10 (q0 := 13) rfl rfl (sh_711 hOK13) rfl rfl (ok_ofPlan hOK13 e10) rfl ⟨by decide, by decide⟩ (Nat.le_of_ble_eq_true rfl) ⟨Nat.zero_le _, Nat.zero_le _⟩ ?_
  refine g_if_ne (q0 := 16) (tgt := 17) rfl dX12_carriesParents_13 (by decide) (fun h13 => ?_) (fun h13 => ?_)
  · replace h := gI_neg h13 h
    refine g_iconst (q0 := 18) rfl dX12_carriesParents_17 (k := ?_)
    refine g_istore_n (q0 := 19) (j := 3) (lv2 := [_, _, _, _, _]) rfl dX12_carriesParents_18 (by decide) rfl rfl ?_
    exact ok_carriesParents_19 hOK13 h
  · replace h := gI_pos h13 h
    rw [← Option.some.inj h]
    refine g_return dX12_carriesParents_16 rfl ⟨Nat.zero_le _, Nat.zero_le _⟩ ?_
    exact ⟨rfl, rfl, rfl⟩
-- ==== isEmptyByItself
theorem dX12_isEmptyByItself_0 : decode cX12_isEmptyByItself 0 = .ok (.aload_n 0, 1) := by decide +kernel
theorem dX12_isEmptyByItself_1 : decode cX12_isEmptyByItself 1 = .ok (.iload_n 1, 1) := by decide +kernel
theorem dX12_isEmptyByItself_2 : decode cX12_isEmptyByItself 2 = .ok (.iload_n 2, 1) := by decide +kernel
theorem dX12_isEmptyByItself_3 : decode cX12_isEmptyByItself 3 = .ok (.invokevirtual 473, 3) := by decide +kernel
theorem dX12_isEmptyByItself_6 : decode cX12_isEmptyByItself 6 = .ok (.istore_n 3, 1) := by decide +kernel
theorem dX12_isEmptyByItself_7 : decode cX12_isEmptyByItself 7 = .ok (.iload_n 3, 1) := by decide +kernel
theorem dX12_isEmptyByItself_8 : decode cX12_isEmptyByItself 8 = .ok (.ifCond .ne 20, 3) := by decide +kernel
theorem dX12_isEmptyByItself_11 : decode cX12_isEmptyByItself 11 = .ok (.aload_n 0, 1) := by decide +kernel
theorem dX12_isEmptyByItself_12 : decode cX12_isEmptyByItself 12 = .ok (.getfield 28, 3) := by decide +kernel
theorem dX12_isEmptyByItself_15 : decode cX12_isEmptyByItself 15 = .ok (.iload_n 2, 1) := by decide +kernel
theorem dX12_isEmptyByItself_16 : decode cX12_isEmptyByItself 16 = .ok (.iaload, 1) := by decide +kernel
theorem dX12_isEmptyByItself_17 : decode cX12_isEmptyByItself 17 = .ok (.ifCond .ne 7, 3) := by decide +kernel
theorem dX12_isEmptyByItself_20 : decode cX12_isEmptyByItself 20 = .ok (.iconst 1, 1) := by decide +kernel
theorem dX12_isEmptyByItself_21 : decode cX12_isEmptyByItself 21 = .ok (.goto 32, 3) := by decide +kernel
theorem dX12_isEmptyByItself_24 : decode cX12_isEmptyByItself 24 = .ok (.iconst 0, 1) := by decide +kernel
theorem dX12_isEmptyByItself_25 : decode cX12_isEmptyByItself 25 = .ok (.goto 28, 3) := by decide +kernel
theorem dX12_isEmptyByItself_28 : decode cX12_isEmptyByItself 28 = .ok (.iload_n 3, 1) := by decide +kernel
theorem dX12_isEmptyByItself_29 : decode cX12_isEmptyByItself 29 = .ok (.iconst 1, 1) := by decide +kernel
theorem dX12_isEmptyByItself_30 : decode cX12_isEmptyByItself 30 = .ok (.if_icmp .ne 22, 3) := by decide +kernel
theorem dX12_isEmptyByItself_33 : decode cX12_isEmptyByItself 33 = .ok (.aload_n 0, 1) := by decide +kernel
theorem dX12_isEmptyByItself_34 : decode cX12_isEmptyByItself 34 = .ok (.aload_n 0, 1) := by decide +kernel
theorem dX12_isEmptyByItself_35 : decode cX12_isEmptyByItself 35 = .ok (.iload_n 1, 1) := by decide +kernel
theorem dX12_isEmptyByItself_36 : decode cX12_isEmptyByItself 36 = .ok (.iload_n 2, 1) := by decide +kernel
theorem dX12_isEmptyByItself_37 : decode cX12_isEmptyByItself 37 = .ok (.iconst 0, 1) := by decide +kernel
theorem dX12_isEmptyByItself_38 : decode cX12_isEmptyByItself 38 = .ok (.invokevirtual 476, 3) := by decide +kernel
theorem dX12_isEmptyByItself_41 : decode cX12_isEmptyByItself 41 = .ok (.iload_n 2, 1) := by decide +kernel
theorem dX12_isEmptyByItself_42 : decode cX12_isEmptyByItself 42 = .ok (.invokevirtual 195, 3) := by decide +kernel
theorem dX12_isEmptyByItself_45 : decode cX12_isEmptyByItself 45 = .ok (.ifCond .eq 7, 3) := by decide +kernel
theorem dX12_isEmptyByItself_48 : decode cX12_isEmptyByItself 48 = .ok (.iconst 1, 1) := by decide +kernel
theorem dX12_isEmptyByItself_49 : decode cX12_isEmptyByItself 49 = .ok (.goto 4, 3) := by decide +kernel
theorem dX12_isEmptyByItself_52 : decode cX12_isEmptyByItself 52 = .ok (.iconst 0, 1) := by decide +kernel
theorem dX12_isEmptyByItself_53 : decode cX12_isEmptyByItself 53 = .ok (.ireturn, 1) := by decide +kernel
noncomputable def F_isEmptyByItself (M : gM) (a1 a2 : Int) : Option (Int) := (Option.bind (F_foreMany M a1 a2) (fun r3 =>
    (if r3 = 0 then
      (if 0 ≤ a2 ∧ a2 < 123 then
        (if (M 718 a2) = 0 then
          some 1
        else
          some 0)
      else none)
    else
      (if r3 = 1 then
        (Option.bind (F_foreAt M a1 a2 0) (fun r38 =>
          (Option.bind (F_areLike M r38 a2) (fun r42 =>
            (if r42 = 0 then
              some 0
            else
              some 1)))))
      else
        some 0))))
theorem eq_isEmptyByItself (M : gM) (a1 a2 : Int) : F_isEmptyByItself M a1 a2 = (Option.bind (F_foreMany M a1 a2) (fun r3 =>
    (if r3 = 0 then
      (if 0 ≤ a2 ∧ a2 < 123 then
        (if (M 718 a2) = 0 then
          some 1
        else
          some 0)
      else none)
    else
      (if r3 = 1 then
        (Option.bind (F_foreAt M a1 a2 0) (fun r38 =>
          (Option.bind (F_areLike M r38 a2) (fun r42 =>
            (if r42 = 0 then
              some 0
            else
              some 1)))))
      else
        some 0)))) := rfl
theorem bo_isEmptyByItself {M : gM} {a1 a2 : Int} {b : Int} (h : F_isEmptyByItself M a1 a2 = some b) : b = 0 ∨ b = 1 := by
  rw [eq_isEmptyByItself] at h
  obtain ⟨r3, e3, h⟩ := gI_bd h
  rcases gI_or h with h | h
  · obtain ⟨g1, h⟩ := gI_gd h
    rcases gI_or h with h | h
    · rw [← Option.some.inj h]
      exact (Or.inr rfl)
    · rw [← Option.some.inj h]
      exact (Or.inl rfl)
  · rcases gI_or h with h | h
    · obtain ⟨r38, e38, h⟩ := gI_bd h
      obtain ⟨r42, e42, h⟩ := gI_bd h
      rcases gI_or h with h | h
      · rw [← Option.some.inj h]
        exact (Or.inl rfl)
      · rw [← Option.some.inj h]
        exact (Or.inr rfl)
    · rw [← Option.some.inj h]
      exact (Or.inl rfl)
theorem ok_isEmptyByItself {sh : gS} {M : gM} {a1 a2 : Int} {b : Int} (hOK : gOK sh M) (h : F_isEmptyByItself M a1 a2 = some b) : gC (gr 4 90) yX12_isEmptyByItself cX12_isEmptyByItself 4 (some (.boolean)) [(4, 711), (0, a1), (0, a2)] sh M (gPq sh (some (0, b)) M) := by
  rw [eq_isEmptyByItself] at h
  refine gC_ofA (lv := [_, _, _, _]) (by decide +kernel) (Nat.le_of_ble_eq_true rfl) rfl (fun hMw hav => ?_)
  refine g_aload_n (q0 := 1) (j := 0) rfl dX12_isEmptyByItself_0 rfl ?_
  refine g_iload_n (q0 := 2) (j := 1) rfl dX12_isEmptyByItself_1 rfl ?_
  refine g_iload_n (q0 := 3) (j := 2) rfl dX12_isEmptyByItself_2 rfl ?_
  obtain ⟨r3, e3, h⟩ := gI_bd h
  refine g_callVq1 (as := [_, _]) (rest := []) mt_X12_foreMany mi_X12_foreMany se_X12_foreMany ml_X12_473 dX12_isEmptyByItself_3 (q0 := 6) rfl rfl (sh_711 hOK) rfl rfl (ok_foreMany hOK e3) rfl ⟨by decide, by decide⟩ (Nat.le_of_ble_eq_true rfl) ⟨Nat.zero_le _, Nat.zero_le _⟩ ?_
  refine g_istore_n (q0 := 7) (j := 3) (lv2 := [_, _, _, _]) rfl dX12_isEmptyByItself_6 (by decide) rfl rfl ?_
  refine g_iload_n (q0 := 8) (j := 3) rfl dX12_isEmptyByItself_7 rfl ?_
  refine g_if_ne (q0 := 11) (tgt := 28) rfl dX12_isEmptyByItself_8 (by decide) (fun h8 => ?_) (fun h8 => ?_)
  · replace h := gI_neg h8 h
    refine g_iload_n (q0 := 29) (j := 3) rfl dX12_isEmptyByItself_28 rfl ?_
    refine g_iconst (q0 := 30) rfl dX12_isEmptyByItself_29 (k := ?_)
    refine g_icmp_ne (q0 := 33) (tgt := 52) rfl dX12_isEmptyByItself_30 (by decide) (fun h30 => ?_) (fun h30 => ?_)
    · replace h := gI_neg h30 h
      refine g_iconst (q0 := 53) rfl dX12_isEmptyByItself_52 (k := ?_)
      rw [← Option.some.inj h]
      refine g_zreturn dX12_isEmptyByItself_53 rfl (gnz (Or.inl rfl)) ⟨Nat.zero_le _, Nat.zero_le _⟩ ?_
      exact ⟨rfl, rfl, rfl⟩
    · replace h := gI_pos h30 h
      refine g_aload_n (q0 := 34) (j := 0) rfl dX12_isEmptyByItself_33 rfl ?_
      refine g_aload_n (q0 := 35) (j := 0) rfl dX12_isEmptyByItself_34 rfl ?_
      refine g_iload_n (q0 := 36) (j := 1) rfl dX12_isEmptyByItself_35 rfl ?_
      refine g_iload_n (q0 := 37) (j := 2) rfl dX12_isEmptyByItself_36 rfl ?_
      refine g_iconst (q0 := 38) rfl dX12_isEmptyByItself_37 (k := ?_)
      obtain ⟨r38, e38, h⟩ := gI_bd h
      refine g_callVq1 (as := [_, _, _]) (rest := [_]) mt_X12_foreAt mi_X12_foreAt se_X12_foreAt ml_X12_476 dX12_isEmptyByItself_38 (q0 := 41) rfl rfl (sh_711 hOK) rfl rfl (ok_foreAt hOK e38) rfl ⟨by decide, by decide⟩ (Nat.le_of_ble_eq_true rfl) ⟨Nat.zero_le _, Nat.zero_le _⟩ ?_
      refine g_iload_n (q0 := 42) (j := 2) rfl dX12_isEmptyByItself_41 rfl ?_
      obtain ⟨r42, e42, h⟩ := gI_bd h
      refine g_callVq1 (as := [_, _]) (rest := []) mt_X12_areLike mi_X12_areLike se_X12_areLike ml_X12_195 dX12_isEmptyByItself_42 (q0 := 45) rfl rfl (sh_711 hOK) rfl rfl (ok_areLike hOK e42) rfl ⟨by decide, by decide⟩ (Nat.le_of_ble_eq_true rfl) ⟨Nat.zero_le _, Nat.zero_le _⟩ ?_
      refine g_if_eq (q0 := 48) (tgt := 52) rfl dX12_isEmptyByItself_45 (by decide) (fun h45 => ?_) (fun h45 => ?_)
      · replace h := gI_pos h45 h
        refine g_iconst (q0 := 53) rfl dX12_isEmptyByItself_52 (k := ?_)
        rw [← Option.some.inj h]
        refine g_zreturn dX12_isEmptyByItself_53 rfl (gnz (Or.inl rfl)) ⟨Nat.zero_le _, Nat.zero_le _⟩ ?_
        exact ⟨rfl, rfl, rfl⟩
      · replace h := gI_neg h45 h
        refine g_iconst (q0 := 49) rfl dX12_isEmptyByItself_48 (k := ?_)
        refine g_goto (tgt := 53) dX12_isEmptyByItself_49 (by decide) ?_
        rw [← Option.some.inj h]
        refine g_zreturn dX12_isEmptyByItself_53 rfl (gnz (Or.inr rfl)) ⟨Nat.zero_le _, Nat.zero_le _⟩ ?_
        exact ⟨rfl, rfl, rfl⟩
  · replace h := gI_pos h8 h
    refine g_aload_n (q0 := 12) (j := 0) rfl dX12_isEmptyByItself_11 rfl ?_
    refine g_getp (q0 := 15) (b := 718) rfl ff_X12_28 dX12_isEmptyByItself_12 rfl hOK (by decide) (sh_711 hOK) rfl (by decide) ?_
    refine g_iload_n (q0 := 16) (j := 2) rfl dX12_isEmptyByItself_15 rfl ?_
    obtain ⟨g1, h⟩ := gI_gd h
    refine g_iald (q0 := 17) rfl dX12_isEmptyByItself_16 (sh_718 hOK) g1.1 g1.2 ?_
    refine g_if_ne (q0 := 20) (tgt := 24) rfl dX12_isEmptyByItself_17 (by decide) (fun h17 => ?_) (fun h17 => ?_)
    · replace h := gI_neg h17 h
      refine g_iconst (q0 := 25) rfl dX12_isEmptyByItself_24 (k := ?_)
      refine g_goto (tgt := 53) dX12_isEmptyByItself_25 (by decide) ?_
      rw [← Option.some.inj h]
      refine g_zreturn dX12_isEmptyByItself_53 rfl (gnz (Or.inl rfl)) ⟨Nat.zero_le _, Nat.zero_le _⟩ ?_
      exact ⟨rfl, rfl, rfl⟩
    · replace h := gI_pos h17 h
      refine g_iconst (q0 := 21) rfl dX12_isEmptyByItself_20 (k := ?_)
      refine g_goto (tgt := 53) dX12_isEmptyByItself_21 (by decide) ?_
      rw [← Option.some.inj h]
      refine g_zreturn dX12_isEmptyByItself_53 rfl (gnz (Or.inr rfl)) ⟨Nat.zero_le _, Nat.zero_le _⟩ ?_
      exact ⟨rfl, rfl, rfl⟩
-- ==== isEmpty
theorem dX12_isEmpty_0 : decode cX12_isEmpty 0 = .ok (.aload_n 0, 1) := by decide +kernel
theorem dX12_isEmpty_1 : decode cX12_isEmpty 1 = .ok (.iload_n 1, 1) := by decide +kernel
theorem dX12_isEmpty_2 : decode cX12_isEmpty 2 = .ok (.bipush 12, 2) := by decide +kernel
theorem dX12_isEmpty_4 : decode cX12_isEmpty 4 = .ok (.invokevirtual 452, 3) := by decide +kernel
theorem dX12_isEmpty_7 : decode cX12_isEmpty 7 = .ok (.istore_n 3, 1) := by decide +kernel
theorem dX12_isEmpty_8 : decode cX12_isEmpty 8 = .ok (.aload_n 0, 1) := by decide +kernel
theorem dX12_isEmpty_9 : decode cX12_isEmpty 9 = .ok (.getfield 510, 3) := by decide +kernel
theorem dX12_isEmpty_12 : decode cX12_isEmpty 12 = .ok (.ifCond .ne 21, 3) := by decide +kernel
theorem dX12_isEmpty_15 : decode cX12_isEmpty 15 = .ok (.aload_n 0, 1) := by decide +kernel
theorem dX12_isEmpty_16 : decode cX12_isEmpty 16 = .ok (.getfield 28, 3) := by decide +kernel
theorem dX12_isEmpty_19 : decode cX12_isEmpty 19 = .ok (.bipush 121, 2) := by decide +kernel
theorem dX12_isEmpty_21 : decode cX12_isEmpty 21 = .ok (.iaload, 1) := by decide +kernel
theorem dX12_isEmpty_22 : decode cX12_isEmpty 22 = .ok (.ifCond .ne 7, 3) := by decide +kernel
theorem dX12_isEmpty_25 : decode cX12_isEmpty 25 = .ok (.iconst 1, 1) := by decide +kernel
theorem dX12_isEmpty_26 : decode cX12_isEmpty 26 = .ok (.goto 35, 3) := by decide +kernel
theorem dX12_isEmpty_29 : decode cX12_isEmpty 29 = .ok (.iconst 0, 1) := by decide +kernel
theorem dX12_isEmpty_30 : decode cX12_isEmpty 30 = .ok (.goto 31, 3) := by decide +kernel
theorem dX12_isEmpty_33 : decode cX12_isEmpty 33 = .ok (.aload_n 0, 1) := by decide +kernel
theorem dX12_isEmpty_34 : decode cX12_isEmpty 34 = .ok (.getfield 510, 3) := by decide +kernel
theorem dX12_isEmpty_37 : decode cX12_isEmpty 37 = .ok (.iconst 1, 1) := by decide +kernel
theorem dX12_isEmpty_38 : decode cX12_isEmpty 38 = .ok (.if_icmp .ne 22, 3) := by decide +kernel
theorem dX12_isEmpty_41 : decode cX12_isEmpty 41 = .ok (.aload_n 0, 1) := by decide +kernel
theorem dX12_isEmpty_42 : decode cX12_isEmpty 42 = .ok (.aload_n 0, 1) := by decide +kernel
theorem dX12_isEmpty_43 : decode cX12_isEmpty 43 = .ok (.getfield 75, 3) := by decide +kernel
theorem dX12_isEmpty_46 : decode cX12_isEmpty 46 = .ok (.iconst 0, 1) := by decide +kernel
theorem dX12_isEmpty_47 : decode cX12_isEmpty 47 = .ok (.iaload, 1) := by decide +kernel
theorem dX12_isEmpty_48 : decode cX12_isEmpty 48 = .ok (.bipush 121, 2) := by decide +kernel
theorem dX12_isEmpty_50 : decode cX12_isEmpty 50 = .ok (.invokevirtual 195, 3) := by decide +kernel
theorem dX12_isEmpty_53 : decode cX12_isEmpty 53 = .ok (.ifCond .eq 7, 3) := by decide +kernel
theorem dX12_isEmpty_56 : decode cX12_isEmpty 56 = .ok (.iconst 1, 1) := by decide +kernel
theorem dX12_isEmpty_57 : decode cX12_isEmpty 57 = .ok (.goto 4, 3) := by decide +kernel
theorem dX12_isEmpty_60 : decode cX12_isEmpty 60 = .ok (.iconst 0, 1) := by decide +kernel
theorem dX12_isEmpty_61 : decode cX12_isEmpty 61 = .ok (.istore 4, 2) := by decide +kernel
theorem dX12_isEmpty_63 : decode cX12_isEmpty 63 = .ok (.iload 4, 2) := by decide +kernel
theorem dX12_isEmpty_65 : decode cX12_isEmpty 65 = .ok (.ifCond .eq 25, 3) := by decide +kernel
theorem dX12_isEmpty_68 : decode cX12_isEmpty 68 = .ok (.iload_n 3, 1) := by decide +kernel
theorem dX12_isEmpty_69 : decode cX12_isEmpty 69 = .ok (.ifCond .le 21, 3) := by decide +kernel
theorem dX12_isEmpty_72 : decode cX12_isEmpty 72 = .ok (.iload_n 3, 1) := by decide +kernel
theorem dX12_isEmpty_73 : decode cX12_isEmpty 73 = .ok (.iconst 2, 1) := by decide +kernel
theorem dX12_isEmpty_74 : decode cX12_isEmpty 74 = .ok (.if_icmp .eq 12, 3) := by decide +kernel
theorem dX12_isEmpty_77 : decode cX12_isEmpty 77 = .ok (.aload_n 0, 1) := by decide +kernel
theorem dX12_isEmpty_78 : decode cX12_isEmpty 78 = .ok (.iload_n 1, 1) := by decide +kernel
theorem dX12_isEmpty_79 : decode cX12_isEmpty 79 = .ok (.iload_n 2, 1) := by decide +kernel
theorem dX12_isEmpty_80 : decode cX12_isEmpty 80 = .ok (.invokevirtual 531, 3) := by decide +kernel
theorem dX12_isEmpty_83 : decode cX12_isEmpty 83 = .ok (.ifCond .ne 7, 3) := by decide +kernel
theorem dX12_isEmpty_86 : decode cX12_isEmpty 86 = .ok (.iconst 1, 1) := by decide +kernel
theorem dX12_isEmpty_87 : decode cX12_isEmpty 87 = .ok (.goto 4, 3) := by decide +kernel
theorem dX12_isEmpty_90 : decode cX12_isEmpty 90 = .ok (.iconst 0, 1) := by decide +kernel
theorem dX12_isEmpty_91 : decode cX12_isEmpty 91 = .ok (.ireturn, 1) := by decide +kernel
noncomputable def st_isEmpty (M : gM) : Nat × List Int → Option ((Nat × List Int) ⊕ (Int))
  | (0, [x1, x2, x3, s0]) => (if s0 = 0 then
      some (.inr 0)
    else
      (if (0 : Int) < x3 then
        (if x3 = 2 then
          some (.inr 1)
        else
          (Option.bind (F_isEmptyByItself M x1 x2) (fun r80 =>
            (if r80 = 0 then
              some (.inr 1)
            else
              some (.inr 0)))))
      else
        some (.inr 0)))
  | _ => none
theorem sk_isEmpty_61 (k : Nat × List Int → Option (Int)) (M : gM) (x1 x2 x3 s0 : Int) : gWk k (st_isEmpty M (0, [x1, x2, x3, s0])) = (if s0 = 0 then
    some 0
  else
    (if (0 : Int) < x3 then
      (if x3 = 2 then
        some 1
      else
        (Option.bind (F_isEmptyByItself M x1 x2) (fun r80 =>
          (if r80 = 0 then
            some 1
          else
            some 0))))
    else
      some 0)) := by
  simp only [st_isEmpty, gWk_ite, gWk_bind, gWk_inl, gWk_inr, gWk_none]
noncomputable def F_isEmpty_61 (M : gM) (x1 x2 x3 s0 : Int) : Option (Int) := gWh (st_isEmpty M) (0, [x1, x2, x3, s0])
theorem eq_isEmpty_61 (M : gM) (x1 x2 x3 s0 : Int) : F_isEmpty_61 M x1 x2 x3 s0 = (if s0 = 0 then
    some 0
  else
    (if (0 : Int) < x3 then
      (if x3 = 2 then
        some 1
      else
        (Option.bind (F_isEmptyByItself M x1 x2) (fun r80 =>
          (if r80 = 0 then
            some 1
          else
            some 0))))
    else
      some 0)) := (gWh_eq _).trans (sk_isEmpty_61 _ M x1 x2 x3 s0)
noncomputable def F_isEmpty (M : gM) (a1 a2 : Int) : Option (Int) := (Option.bind (F_ofPlan M a1 12) (fun r4 =>
    (if (M 711 37) = 0 then
      (if (M 718 121) = 0 then
        F_isEmpty_61 M a1 a2 r4 1
      else
        F_isEmpty_61 M a1 a2 r4 0)
    else
      (if (M 711 37) = 1 then
        (Option.bind (F_areLike M (M 733 0) 121) (fun r50 =>
          (if r50 = 0 then
            F_isEmpty_61 M a1 a2 r4 0
          else
            F_isEmpty_61 M a1 a2 r4 1)))
      else
        F_isEmpty_61 M a1 a2 r4 0))))
theorem eq_isEmpty (M : gM) (a1 a2 : Int) : F_isEmpty M a1 a2 = (Option.bind (F_ofPlan M a1 12) (fun r4 =>
    (if (M 711 37) = 0 then
      (if (M 718 121) = 0 then
        F_isEmpty_61 M a1 a2 r4 1
      else
        F_isEmpty_61 M a1 a2 r4 0)
    else
      (if (M 711 37) = 1 then
        (Option.bind (F_areLike M (M 733 0) 121) (fun r50 =>
          (if r50 = 0 then
            F_isEmpty_61 M a1 a2 r4 0
          else
            F_isEmpty_61 M a1 a2 r4 1)))
      else
        F_isEmpty_61 M a1 a2 r4 0)))) := rfl
theorem bop_isEmpty {M : gM} : ∀ (s : Nat × List Int) (b : Int), gWh (st_isEmpty M) s = some b → (∀ (x1 x2 x3 s0 : Int), s = (0, [x1, x2, x3, s0]) → b = 0 ∨ b = 1) := by
  refine gWh_ind (fun k hk s b h => ?_)
  · rintro x1 x2 x3 s0 rfl
    rw [sk_isEmpty_61] at h
    rcases gI_or h with h | h
    · rw [← Option.some.inj h]
      exact (Or.inl rfl)
    · rcases gI_or h with h | h
      · rcases gI_or h with h | h
        · rw [← Option.some.inj h]
          exact (Or.inr rfl)
        · obtain ⟨r80, e80, h⟩ := gI_bd h
          rcases gI_or h with h | h
          · rw [← Option.some.inj h]
            exact (Or.inr rfl)
          · rw [← Option.some.inj h]
            exact (Or.inl rfl)
      · rw [← Option.some.inj h]
        exact (Or.inl rfl)
theorem bo_isEmpty_61 {M : gM} {x1 x2 x3 s0 : Int} {b : Int} (h : F_isEmpty_61 M x1 x2 x3 s0 = some b) : b = 0 ∨ b = 1 :=
  (bop_isEmpty _ _ h) _ _ _ _ rfl
theorem bo_isEmpty {M : gM} {a1 a2 : Int} {b : Int} (h : F_isEmpty M a1 a2 = some b) : b = 0 ∨ b = 1 := by
  rw [eq_isEmpty] at h
  obtain ⟨r4, e4, h⟩ := gI_bd h
  rcases gI_or h with h | h
  · rcases gI_or h with h | h
    · exact bo_isEmpty_61 h
    · exact bo_isEmpty_61 h
  · rcases gI_or h with h | h
    · obtain ⟨r50, e50, h⟩ := gI_bd h
      rcases gI_or h with h | h
      · exact bo_isEmpty_61 h
      · exact bo_isEmpty_61 h
    · exact bo_isEmpty_61 h
theorem okp_isEmpty {sh : gS} {M : gM} : ∀ (s : Nat × List Int) (b : Int), gWh (st_isEmpty M) s = some b → (∀ (x1 x2 x3 s0 : Int), s = (0, [x1, x2, x3, s0]) → gOK sh M → gA (gr 5 113) yX12_isEmpty cX12_isEmpty 5 (some (.boolean)) (gPq sh (some (0, b)) M) (0, 0) 61 [(4, 711), (0, x1), (0, x2), (0, x3), (9, 0)] [(0, s0)] sh M) := by
  refine gWh_ind (fun k hk s b h => ?_)
  · rintro x1 x2 x3 s0 rfl hOK
    rw [sk_isEmpty_61] at h
    refine g_istore (q0 := 63) (j := 4) (lv2 := [_, _, _, _, _]) rfl dX12_isEmpty_61 (by decide) rfl rfl ?_
    refine g_iload (q0 := 65) (j := 4) rfl dX12_isEmpty_63 rfl ?_
    refine g_if_eq (q0 := 68) (tgt := 90) rfl dX12_isEmpty_65 (by decide) (fun h65 => ?_) (fun h65 => ?_)
    · replace h := gI_pos h65 h
      refine g_iconst (q0 := 91) rfl dX12_isEmpty_90 (k := ?_)
      rw [← Option.some.inj h]
      refine g_zreturn dX12_isEmpty_91 rfl (gnz (Or.inl rfl)) ⟨Nat.zero_le _, Nat.zero_le _⟩ ?_
      exact ⟨rfl, rfl, rfl⟩
    · replace h := gI_neg h65 h
      refine g_iload_n (q0 := 69) (j := 3) rfl dX12_isEmpty_68 rfl ?_
      refine g_if_le (q0 := 72) (tgt := 90) rfl dX12_isEmpty_69 (by decide) (fun h69 => ?_) (fun h69 => ?_)
      · replace h := gI_neg (Int.not_lt.mpr h69) h
        refine g_iconst (q0 := 91) rfl dX12_isEmpty_90 (k := ?_)
        rw [← Option.some.inj h]
        refine g_zreturn dX12_isEmpty_91 rfl (gnz (Or.inl rfl)) ⟨Nat.zero_le _, Nat.zero_le _⟩ ?_
        exact ⟨rfl, rfl, rfl⟩
      · replace h := gI_pos h69 h
        refine g_iload_n (q0 := 73) (j := 3) rfl dX12_isEmpty_72 rfl ?_
        refine g_iconst (q0 := 74) rfl dX12_isEmpty_73 (k := ?_)
        refine g_icmp_eq (q0 := 77) (tgt := 86) rfl dX12_isEmpty_74 (by decide) (fun h74 => ?_) (fun h74 => ?_)
        · replace h := gI_pos h74 h
          refine g_iconst (q0 := 87) rfl dX12_isEmpty_86 (k := ?_)
          refine g_goto (tgt := 91) dX12_isEmpty_87 (by decide) ?_
          rw [← Option.some.inj h]
          refine g_zreturn dX12_isEmpty_91 rfl (gnz (Or.inr rfl)) ⟨Nat.zero_le _, Nat.zero_le _⟩ ?_
          exact ⟨rfl, rfl, rfl⟩
        · replace h := gI_neg h74 h
          refine g_aload_n (q0 := 78) (j := 0) rfl dX12_isEmpty_77 rfl ?_
          refine g_iload_n (q0 := 79) (j := 1) rfl dX12_isEmpty_78 rfl ?_
          refine g_iload_n (q0 := 80) (j := 2) rfl dX12_isEmpty_79 rfl ?_
          obtain ⟨r80, e80, h⟩ := gI_bd h
          refine g_callVq1 (as := [_, _]) (rest := []) mt_X12_isEmptyByItself mi_X12_isEmptyByItself se_X12_isEmptyByItself ml_X12_531 dX12_isEmpty_80 (q0 := 83) rfl rfl (sh_711 hOK) rfl rfl (ok_isEmptyByItself hOK e80) rfl ⟨by decide, by decide⟩ (Nat.le_of_ble_eq_true rfl) ⟨Nat.zero_le _, Nat.zero_le _⟩ ?_
          refine g_if_ne (q0 := 86) (tgt := 90) rfl dX12_isEmpty_83 (by decide) (fun h83 => ?_) (fun h83 => ?_)
          · replace h := gI_neg h83 h
            refine g_iconst (q0 := 91) rfl dX12_isEmpty_90 (k := ?_)
            rw [← Option.some.inj h]
            refine g_zreturn dX12_isEmpty_91 rfl (gnz (Or.inl rfl)) ⟨Nat.zero_le _, Nat.zero_le _⟩ ?_
            exact ⟨rfl, rfl, rfl⟩
          · replace h := gI_pos h83 h
            refine g_iconst (q0 := 87) rfl dX12_isEmpty_86 (k := ?_)
            refine g_goto (tgt := 91) dX12_isEmpty_87 (by decide) ?_
            rw [← Option.some.inj h]
            refine g_zreturn dX12_isEmpty_91 rfl (gnz (Or.inr rfl)) ⟨Nat.zero_le _, Nat.zero_le _⟩ ?_
            exact ⟨rfl, rfl, rfl⟩
theorem ok_isEmpty_61 {sh : gS} {M : gM} {x1 x2 x3 s0 : Int} {b : Int} (hOK : gOK sh M) (h : F_isEmpty_61 M x1 x2 x3 s0 = some b) : gA (gr 5 113) yX12_isEmpty cX12_isEmpty 5 (some (.boolean)) (gPq sh (some (0, b)) M) (0, 0) 61 [(4, 711), (0, x1), (0, x2), (0, x3), (9, 0)] [(0, s0)] sh M :=
  (okp_isEmpty _ _ h) _ _ _ _ rfl hOK
theorem ok_isEmpty {sh : gS} {M : gM} {a1 a2 : Int} {b : Int} (hOK : gOK sh M) (h : F_isEmpty M a1 a2 = some b) : gC (gr 5 113) yX12_isEmpty cX12_isEmpty 5 (some (.boolean)) [(4, 711), (0, a1), (0, a2)] sh M (gPq sh (some (0, b)) M) := by
  rw [eq_isEmpty] at h
  refine gC_ofA (lv := [_, _, _, _, _]) (by decide +kernel) (Nat.le_of_ble_eq_true rfl) rfl (fun hMw hav => ?_)
  refine g_aload_n (q0 := 1) (j := 0) rfl dX12_isEmpty_0 rfl ?_
  refine g_iload_n (q0 := 2) (j := 1) rfl dX12_isEmpty_1 rfl ?_
  refine g_bipush (q0 := 4) rfl dX12_isEmpty_2 (k := ?_)
  obtain ⟨r4, e4, h⟩ := gI_bd h
  refine g_callVq1 (as := [_, _]) (rest := []) mt_X12_ofPlan mi_X12_ofPlan se_X12_ofPlan ml_X12_452 dX12_isEmpty_4 (q0 := 7) rfl rfl (sh_711 hOK) rfl rfl (ok_ofPlan hOK e4) rfl ⟨by decide, by decide⟩ (Nat.le_of_ble_eq_true rfl) ⟨Nat.zero_le _, Nat.zero_le _⟩ ?_
  refine g_istore_n (q0 := 8) (j := 3) (lv2 := [_, _, _, _, _]) rfl dX12_isEmpty_7 (by decide) rfl rfl ?_
  refine g_aload_n (q0 := 9) (j := 0) rfl dX12_isEmpty_8 rfl ?_
  refine g_getf (q0 := 12) (t := 0) (fi := 37) rfl rfl ff_X12_510 dX12_isEmpty_9 rfl (sh_711 hOK) ?_
  refine g_if_ne (q0 := 15) (tgt := 33) rfl dX12_isEmpty_12 (by decide) (fun h12 => ?_) (fun h12 => ?_)
  · replace h := gI_neg h12 h
    refine g_aload_n (q0 := 34) (j := 0) rfl dX12_isEmpty_33 rfl ?_
    refine g_getf (q0 := 37) (t := 0) (fi := 37) rfl rfl ff_X12_510 dX12_isEmpty_34 rfl (sh_711 hOK) ?_
    refine g_iconst (q0 := 38) rfl dX12_isEmpty_37 (k := ?_)
    refine g_icmp_ne (q0 := 41) (tgt := 60) rfl dX12_isEmpty_38 (by decide) (fun h38 => ?_) (fun h38 => ?_)
    · replace h := gI_neg h38 h
      refine g_iconst (q0 := 61) rfl dX12_isEmpty_60 (k := ?_)
      exact ok_isEmpty_61 hOK h
    · replace h := gI_pos h38 h
      refine g_aload_n (q0 := 42) (j := 0) rfl dX12_isEmpty_41 rfl ?_
      refine g_aload_n (q0 := 43) (j := 0) rfl dX12_isEmpty_42 rfl ?_
      refine g_getp (q0 := 46) (b := 733) rfl ff_X12_75 dX12_isEmpty_43 rfl hOK (by decide) (sh_711 hOK) rfl (by decide) ?_
      refine g_iconst (q0 := 47) rfl dX12_isEmpty_46 (k := ?_)
      refine g_iald (q0 := 48) rfl dX12_isEmpty_47 (sh_733 hOK) (by decide) (by decide) ?_
      refine g_bipush (q0 := 50) rfl dX12_isEmpty_48 (k := ?_)
      obtain ⟨r50, e50, h⟩ := gI_bd h
      refine g_callVq1 (as := [_, _]) (rest := []) mt_X12_areLike mi_X12_areLike se_X12_areLike ml_X12_195 dX12_isEmpty_50 (q0 := 53) rfl rfl (sh_711 hOK) rfl rfl (ok_areLike hOK e50) rfl ⟨by decide, by decide⟩ (Nat.le_of_ble_eq_true rfl) ⟨Nat.zero_le _, Nat.zero_le _⟩ ?_
      refine g_if_eq (q0 := 56) (tgt := 60) rfl dX12_isEmpty_53 (by decide) (fun h53 => ?_) (fun h53 => ?_)
      · replace h := gI_pos h53 h
        refine g_iconst (q0 := 61) rfl dX12_isEmpty_60 (k := ?_)
        exact ok_isEmpty_61 hOK h
      · replace h := gI_neg h53 h
        refine g_iconst (q0 := 57) rfl dX12_isEmpty_56 (k := ?_)
        refine g_goto (tgt := 61) dX12_isEmpty_57 (by decide) ?_
        exact ok_isEmpty_61 hOK h
  · replace h := gI_pos h12 h
    refine g_aload_n (q0 := 16) (j := 0) rfl dX12_isEmpty_15 rfl ?_
    refine g_getp (q0 := 19) (b := 718) rfl ff_X12_28 dX12_isEmpty_16 rfl hOK (by decide) (sh_711 hOK) rfl (by decide) ?_
    refine g_bipush (q0 := 21) rfl dX12_isEmpty_19 (k := ?_)
    refine g_iald (q0 := 22) rfl dX12_isEmpty_21 (sh_718 hOK) (by decide) (by decide) ?_
    refine g_if_ne (q0 := 25) (tgt := 29) rfl dX12_isEmpty_22 (by decide) (fun h22 => ?_) (fun h22 => ?_)
    · replace h := gI_neg h22 h
      refine g_iconst (q0 := 30) rfl dX12_isEmpty_29 (k := ?_)
      refine g_goto (tgt := 61) dX12_isEmpty_30 (by decide) ?_
      exact ok_isEmpty_61 hOK h
    · replace h := gI_pos h22 h
      refine g_iconst (q0 := 26) rfl dX12_isEmpty_25 (k := ?_)
      refine g_goto (tgt := 61) dX12_isEmpty_26 (by decide) ?_
      exact ok_isEmpty_61 hOK h
-- ==== saidAt
theorem dX12_saidAt_0 : decode cX12_saidAt 0 = .ok (.iload_n 2, 1) := by decide +kernel
theorem dX12_saidAt_1 : decode cX12_saidAt 1 = .ok (.aload_n 0, 1) := by decide +kernel
theorem dX12_saidAt_2 : decode cX12_saidAt 2 = .ok (.getfield 22, 3) := by decide +kernel
theorem dX12_saidAt_5 : decode cX12_saidAt 5 = .ok (.iload_n 1, 1) := by decide +kernel
theorem dX12_saidAt_6 : decode cX12_saidAt 6 = .ok (.iaload, 1) := by decide +kernel
theorem dX12_saidAt_7 : decode cX12_saidAt 7 = .ok (.if_icmp .ge 17, 3) := by decide +kernel
theorem dX12_saidAt_10 : decode cX12_saidAt 10 = .ok (.aload_n 0, 1) := by decide +kernel
theorem dX12_saidAt_11 : decode cX12_saidAt 11 = .ok (.getfield 25, 3) := by decide +kernel
theorem dX12_saidAt_14 : decode cX12_saidAt 14 = .ok (.bipush 24, 2) := by decide +kernel
theorem dX12_saidAt_16 : decode cX12_saidAt 16 = .ok (.iload_n 1, 1) := by decide +kernel
theorem dX12_saidAt_17 : decode cX12_saidAt 17 = .ok (.imul, 1) := by decide +kernel
theorem dX12_saidAt_18 : decode cX12_saidAt 18 = .ok (.iload_n 2, 1) := by decide +kernel
theorem dX12_saidAt_19 : decode cX12_saidAt 19 = .ok (.iadd, 1) := by decide +kernel
theorem dX12_saidAt_20 : decode cX12_saidAt 20 = .ok (.iaload, 1) := by decide +kernel
theorem dX12_saidAt_21 : decode cX12_saidAt 21 = .ok (.goto 4, 3) := by decide +kernel
theorem dX12_saidAt_24 : decode cX12_saidAt 24 = .ok (.iconst (-1), 1) := by decide +kernel
theorem dX12_saidAt_25 : decode cX12_saidAt 25 = .ok (.ireturn, 1) := by decide +kernel
noncomputable def F_saidAt (M : gM) (a1 a2 : Int) : Option (Int) := (if 0 ≤ a1 ∧ a1 < 120 then
    (if a2 < (M 716 a1) then
      (if 0 ≤ (gw32 ((gw32 ((24 : Int) * a1)) + a2)) ∧ (gw32 ((gw32 ((24 : Int) * a1)) + a2)) < 2880 then
        some (M 717 (gw32 ((gw32 ((24 : Int) * a1)) + a2)))
      else none)
    else
      some (-1))
  else none)
theorem eq_saidAt (M : gM) (a1 a2 : Int) : F_saidAt M a1 a2 = (if 0 ≤ a1 ∧ a1 < 120 then
    (if a2 < (M 716 a1) then
      (if 0 ≤ (gw32 ((gw32 ((24 : Int) * a1)) + a2)) ∧ (gw32 ((gw32 ((24 : Int) * a1)) + a2)) < 2880 then
        some (M 717 (gw32 ((gw32 ((24 : Int) * a1)) + a2)))
      else none)
    else
      some (-1))
  else none) := rfl
theorem ok_saidAt {sh : gS} {M : gM} {a1 a2 : Int} {b : Int} (hOK : gOK sh M) (h : F_saidAt M a1 a2 = some b) : gC (gr 0 0) yX12_saidAt cX12_saidAt 3 (some (.int)) [(4, 711), (0, a1), (0, a2)] sh M (gPq sh (some (0, b)) M) := by
  rw [eq_saidAt] at h
  refine gC_ofA (lv := [_, _, _]) (by decide +kernel) (Nat.le_of_ble_eq_true rfl) rfl (fun hMw hav => ?_)
  refine g_iload_n (q0 := 1) (j := 2) rfl dX12_saidAt_0 rfl ?_
  refine g_aload_n (q0 := 2) (j := 0) rfl dX12_saidAt_1 rfl ?_
  refine g_getp (q0 := 5) (b := 716) rfl ff_X12_22 dX12_saidAt_2 rfl hOK (by decide) (sh_711 hOK) rfl (by decide) ?_
  refine g_iload_n (q0 := 6) (j := 1) rfl dX12_saidAt_5 rfl ?_
  obtain ⟨g1, h⟩ := gI_gd h
  refine g_iald (q0 := 7) rfl dX12_saidAt_6 (sh_716 hOK) g1.1 g1.2 ?_
  refine g_icmp_ge (q0 := 10) (tgt := 24) rfl dX12_saidAt_7 (by decide) (fun h7 => ?_) (fun h7 => ?_)
  · replace h := gI_neg (Int.not_lt.mpr h7) h
    refine g_iconst (q0 := 25) rfl dX12_saidAt_24 (k := ?_)
    rw [← Option.some.inj h]
    refine g_ireturn dX12_saidAt_25 rfl ⟨Nat.zero_le _, Nat.zero_le _⟩ ?_
    exact ⟨rfl, rfl, rfl⟩
  · replace h := gI_pos h7 h
    refine g_aload_n (q0 := 11) (j := 0) rfl dX12_saidAt_10 rfl ?_
    refine g_getp (q0 := 14) (b := 717) rfl ff_X12_25 dX12_saidAt_11 rfl hOK (by decide) (sh_711 hOK) rfl (by decide) ?_
    refine g_bipush (q0 := 16) rfl dX12_saidAt_14 (k := ?_)
    refine g_iload_n (q0 := 17) (j := 1) rfl dX12_saidAt_16 rfl ?_
    refine g_imulw (q0 := 18) rfl dX12_saidAt_17 ?_
    refine g_iload_n (q0 := 19) (j := 2) rfl dX12_saidAt_18 rfl ?_
    refine g_iaddw (q0 := 20) rfl dX12_saidAt_19 ?_
    obtain ⟨g2, h⟩ := gI_gd h
    refine g_iald (q0 := 21) rfl dX12_saidAt_20 (sh_717 hOK) g2.1 g2.2 ?_
    refine g_goto (tgt := 25) dX12_saidAt_21 (by decide) ?_
    rw [← Option.some.inj h]
    refine g_ireturn dX12_saidAt_25 rfl ⟨Nat.zero_le _, Nat.zero_le _⟩ ?_
    exact ⟨rfl, rfl, rfl⟩
-- ==== says
theorem dX12_says_0 : decode cX12_says 0 = .ok (.aload_n 0, 1) := by decide +kernel
theorem dX12_says_1 : decode cX12_says 1 = .ok (.getfield 40, 3) := by decide +kernel
theorem dX12_says_4 : decode cX12_says 4 = .ok (.aload_n 0, 1) := by decide +kernel
theorem dX12_says_5 : decode cX12_says 5 = .ok (.getfield 189, 3) := by decide +kernel
theorem dX12_says_8 : decode cX12_says 8 = .ok (.iload_n 1, 1) := by decide +kernel
theorem dX12_says_9 : decode cX12_says 9 = .ok (.iastore, 1) := by decide +kernel
theorem dX12_says_10 : decode cX12_says 10 = .ok (.aload_n 0, 1) := by decide +kernel
theorem dX12_says_11 : decode cX12_says 11 = .ok (.aload_n 0, 1) := by decide +kernel
theorem dX12_says_12 : decode cX12_says 12 = .ok (.getfield 189, 3) := by decide +kernel
theorem dX12_says_15 : decode cX12_says 15 = .ok (.iconst 1, 1) := by decide +kernel
theorem dX12_says_16 : decode cX12_says 16 = .ok (.iadd, 1) := by decide +kernel
theorem dX12_says_17 : decode cX12_says 17 = .ok (.putfield 189, 3) := by decide +kernel
theorem dX12_says_20 : decode cX12_says 20 = .ok (.return_, 1) := by decide +kernel
noncomputable def F_says (M : gM) (a1 : Int) : Option (gM) := (if 0 ≤ (M 711 13) ∧ (M 711 13) < 400 then
    some (gU (gU M 722 (M 711 13) a1) 711 13 (gw32 (((gU M 722 (M 711 13) a1) 711 13) + (1 : Int))))
  else none)
theorem eq_says (M : gM) (a1 : Int) : F_says M a1 = (if 0 ≤ (M 711 13) ∧ (M 711 13) < 400 then
    some (gU (gU M 722 (M 711 13) a1) 711 13 (gw32 (((gU M 722 (M 711 13) a1) 711 13) + (1 : Int))))
  else none) := rfl
theorem fr_says {M : gM} {a1 : Int} {b : gM} (h : F_says M a1 = some b) : gFr [722] [13] M b := by
  rw [eq_says] at h
  obtain ⟨g1, h⟩ := gI_gd h
  rw [← Option.some.inj h]
  exact (gFr_f (gFr_a (gFr_r [722] [13] _) (.head _) (by decide)) (.head _))
theorem ok_says {sh : gS} {M : gM} {a1 : Int} {b : gM} (hOK : gOK sh M) (h : F_says M a1 = some b) : gC (gr 0 0) yX12_says cX12_says 2 none [(4, 711), (0, a1)] sh M (gPq sh none b) := by
  rw [eq_says] at h
  refine gC_ofA (lv := [_, _]) (by decide +kernel) (Nat.le_of_ble_eq_true rfl) rfl (fun hMw hav => ?_)
  refine g_aload_n (q0 := 1) (j := 0) rfl dX12_says_0 rfl ?_
  refine g_getp (q0 := 4) (b := 722) rfl ff_X12_40 dX12_says_1 rfl hOK (by decide) (sh_711 hOK) rfl (by decide) ?_
  refine g_aload_n (q0 := 5) (j := 0) rfl dX12_says_4 rfl ?_
  refine g_getf (q0 := 8) (t := 0) (fi := 13) rfl rfl ff_X12_189 dX12_says_5 rfl (sh_711 hOK) ?_
  refine g_iload_n (q0 := 9) (j := 1) rfl dX12_says_8 rfl ?_
  obtain ⟨g1, h⟩ := gI_gd h
  refine g_iast (q0 := 10) rfl dX12_says_9 (sh_722 hOK) g1.1 g1.2 ?_
  have hOK2 : gOK sh (gU M 722 (M 711 13) a1) := gOK_i hOK (sh_722 hOK)
  refine g_aload_n (q0 := 11) (j := 0) rfl dX12_says_10 rfl ?_
  refine g_aload_n (q0 := 12) (j := 0) rfl dX12_says_11 rfl ?_
  refine g_getf (q0 := 15) (t := 0) (fi := 13) rfl rfl ff_X12_189 dX12_says_12 rfl (sh_711 hOK2) ?_
  refine g_iconst (q0 := 16) rfl dX12_says_15 (k := ?_)
  refine g_iaddw (q0 := 17) rfl dX12_says_16 ?_
  refine g_put (q0 := 20) (t := 0) (fi := 13) rfl rfl ff_X12_189 dX12_says_17 rfl (sh_711 hOK2) rfl (fun _ => ⟨rfl, rfl⟩) ?_
  have hOK3 : gOK sh (gU (gU M 722 (M 711 13) a1) 711 13 (gw32 (((gU M 722 (M 711 13) a1) 711 13) + (1 : Int)))) := gOK_o hOK2 (sh_711 hOK2) (f := 13) rfl rfl
  rw [← Option.some.inj h]
  refine g_return dX12_says_20 rfl ⟨Nat.zero_le _, Nat.zero_le _⟩ ?_
  exact ⟨rfl, rfl, rfl⟩
-- ==== saysNumber
theorem dX12_saysNumber_0 : decode cX12_saysNumber 0 = .ok (.iload_n 1, 1) := by decide +kernel
theorem dX12_saysNumber_1 : decode cX12_saysNumber 1 = .ok (.bipush 99, 2) := by decide +kernel
theorem dX12_saysNumber_3 : decode cX12_saysNumber 3 = .ok (.if_icmp .le 14, 3) := by decide +kernel
theorem dX12_saysNumber_6 : decode cX12_saysNumber 6 = .ok (.aload_n 0, 1) := by decide +kernel
theorem dX12_saysNumber_7 : decode cX12_saysNumber 7 = .ok (.bipush 48, 2) := by decide +kernel
theorem dX12_saysNumber_9 : decode cX12_saysNumber 9 = .ok (.iload_n 1, 1) := by decide +kernel
theorem dX12_saysNumber_10 : decode cX12_saysNumber 10 = .ok (.bipush 100, 2) := by decide +kernel
theorem dX12_saysNumber_12 : decode cX12_saysNumber 12 = .ok (.idiv, 1) := by decide +kernel
theorem dX12_saysNumber_13 : decode cX12_saysNumber 13 = .ok (.iadd, 1) := by decide +kernel
theorem dX12_saysNumber_14 : decode cX12_saysNumber 14 = .ok (.invokevirtual 534, 3) := by decide +kernel
theorem dX12_saysNumber_17 : decode cX12_saysNumber 17 = .ok (.iload_n 1, 1) := by decide +kernel
theorem dX12_saysNumber_18 : decode cX12_saysNumber 18 = .ok (.bipush 9, 2) := by decide +kernel
theorem dX12_saysNumber_20 : decode cX12_saysNumber 20 = .ok (.if_icmp .le 17, 3) := by decide +kernel
theorem dX12_saysNumber_23 : decode cX12_saysNumber 23 = .ok (.aload_n 0, 1) := by decide +kernel
theorem dX12_saysNumber_24 : decode cX12_saysNumber 24 = .ok (.bipush 48, 2) := by decide +kernel
theorem dX12_saysNumber_26 : decode cX12_saysNumber 26 = .ok (.iload_n 1, 1) := by decide +kernel
theorem dX12_saysNumber_27 : decode cX12_saysNumber 27 = .ok (.bipush 10, 2) := by decide +kernel
theorem dX12_saysNumber_29 : decode cX12_saysNumber 29 = .ok (.idiv, 1) := by decide +kernel
theorem dX12_saysNumber_30 : decode cX12_saysNumber 30 = .ok (.bipush 10, 2) := by decide +kernel
theorem dX12_saysNumber_32 : decode cX12_saysNumber 32 = .ok (.irem, 1) := by decide +kernel
theorem dX12_saysNumber_33 : decode cX12_saysNumber 33 = .ok (.iadd, 1) := by decide +kernel
theorem dX12_saysNumber_34 : decode cX12_saysNumber 34 = .ok (.invokevirtual 534, 3) := by decide +kernel
theorem dX12_saysNumber_37 : decode cX12_saysNumber 37 = .ok (.aload_n 0, 1) := by decide +kernel
theorem dX12_saysNumber_38 : decode cX12_saysNumber 38 = .ok (.bipush 48, 2) := by decide +kernel
theorem dX12_saysNumber_40 : decode cX12_saysNumber 40 = .ok (.iload_n 1, 1) := by decide +kernel
theorem dX12_saysNumber_41 : decode cX12_saysNumber 41 = .ok (.bipush 10, 2) := by decide +kernel
theorem dX12_saysNumber_43 : decode cX12_saysNumber 43 = .ok (.irem, 1) := by decide +kernel
theorem dX12_saysNumber_44 : decode cX12_saysNumber 44 = .ok (.iadd, 1) := by decide +kernel
theorem dX12_saysNumber_45 : decode cX12_saysNumber 45 = .ok (.invokevirtual 534, 3) := by decide +kernel
theorem dX12_saysNumber_48 : decode cX12_saysNumber 48 = .ok (.return_, 1) := by decide +kernel
noncomputable def st_saysNumber : Nat × List Int × gM → Option ((Nat × List Int × gM) ⊕ (gM))
  | (0, [x1], M) => (if (9 : Int) < x1 then
      (Option.bind (F_says M (gw32 ((48 : Int) + (grem (gdiv x1 10) 10)))) (fun m34 =>
        (Option.bind (F_says m34 (gw32 ((48 : Int) + (grem x1 10)))) (fun m45 =>
          some (.inr m45)))))
    else
      (Option.bind (F_says M (gw32 ((48 : Int) + (grem x1 10)))) (fun m45 =>
        some (.inr m45))))
  | _ => none
theorem sk_saysNumber_17 (k : Nat × List Int × gM → Option (gM)) (M : gM) (x1 : Int) : gWk k (st_saysNumber (0, [x1], M)) = (if (9 : Int) < x1 then
    (Option.bind (F_says M (gw32 ((48 : Int) + (grem (gdiv x1 10) 10)))) (fun m34 =>
      (Option.bind (F_says m34 (gw32 ((48 : Int) + (grem x1 10)))) (fun m45 =>
        some m45))))
  else
    (Option.bind (F_says M (gw32 ((48 : Int) + (grem x1 10)))) (fun m45 =>
      some m45))) := by
  simp only [st_saysNumber, gWk_ite, gWk_bind, gWk_inl, gWk_inr, gWk_none]
noncomputable def F_saysNumber_17 (M : gM) (x1 : Int) : Option (gM) := gWh (st_saysNumber) (0, [x1], M)
theorem eq_saysNumber_17 (M : gM) (x1 : Int) : F_saysNumber_17 M x1 = (if (9 : Int) < x1 then
    (Option.bind (F_says M (gw32 ((48 : Int) + (grem (gdiv x1 10) 10)))) (fun m34 =>
      (Option.bind (F_says m34 (gw32 ((48 : Int) + (grem x1 10)))) (fun m45 =>
        some m45))))
  else
    (Option.bind (F_says M (gw32 ((48 : Int) + (grem x1 10)))) (fun m45 =>
      some m45))) := (gWh_eq _).trans (sk_saysNumber_17 _ M x1)
noncomputable def F_saysNumber (M : gM) (a1 : Int) : Option (gM) := (if (99 : Int) < a1 then
    (Option.bind (F_says M (gw32 ((48 : Int) + (gdiv a1 100)))) (fun m14 =>
      F_saysNumber_17 m14 a1))
  else
    F_saysNumber_17 M a1)
theorem eq_saysNumber (M : gM) (a1 : Int) : F_saysNumber M a1 = (if (99 : Int) < a1 then
    (Option.bind (F_says M (gw32 ((48 : Int) + (gdiv a1 100)))) (fun m14 =>
      F_saysNumber_17 m14 a1))
  else
    F_saysNumber_17 M a1) := rfl
theorem frp_saysNumber : ∀ (s : Nat × List Int × gM) (b : gM), gWh (st_saysNumber) s = some b → (∀ (x1 : Int) (M : gM), s = (0, [x1], M) → gFr [722] [13] M b) := by
  refine gWh_ind (fun k hk s b h => ?_)
  · rintro x1 M rfl
    rw [sk_saysNumber_17] at h
    rcases gI_or h with h | h
    · obtain ⟨m34, e34, h⟩ := gI_bd h
      obtain ⟨m45, e45, h⟩ := gI_bd h
      rw [← Option.some.inj h]
      exact (gFr_t (gFr_t (gFr_r [722] [13] _) (fr_says (b := m34) e34) (by first | decide | simp) (by decide)) (fr_says (b := m45) e45) (by first | decide | simp) (by decide))
    · obtain ⟨m45, e45, h⟩ := gI_bd h
      rw [← Option.some.inj h]
      exact (gFr_t (gFr_r [722] [13] _) (fr_says (b := m45) e45) (by first | decide | simp) (by decide))
theorem fr_saysNumber_17 {M : gM} {x1 : Int} {b : gM} (h : F_saysNumber_17 M x1 = some b) : gFr [722] [13] M b :=
  (frp_saysNumber _ _ h) _ _ rfl
theorem fr_saysNumber {M : gM} {a1 : Int} {b : gM} (h : F_saysNumber M a1 = some b) : gFr [722] [13] M b := by
  rw [eq_saysNumber] at h
  rcases gI_or h with h | h
  · obtain ⟨m14, e14, h⟩ := gI_bd h
    exact gFr_t (gFr_t (gFr_r [722] [13] _) (fr_says (b := m14) e14) (by first | decide | simp) (by decide)) (fr_saysNumber_17 h) (fun _ z => z) (fun _ z => z)
  · exact gFr_t (gFr_r [722] [13] _) (fr_saysNumber_17 h) (fun _ z => z) (fun _ z => z)
theorem okp_saysNumber {sh : gS} : ∀ (s : Nat × List Int × gM) (b : gM), gWh (st_saysNumber) s = some b → (∀ (x1 : Int) (M : gM), s = (0, [x1], M) → gOK sh M → gA (gr 1 21) yX12_saysNumber cX12_saysNumber 2 none (gPq sh none b) (0, 0) 17 [(4, 711), (0, x1)] [] sh M) := by
  refine gWh_ind (fun k hk s b h => ?_)
  · rintro x1 M rfl hOK
    rw [sk_saysNumber_17] at h
    refine g_iload_n (q0 := 18) (j := 1) rfl dX12_saysNumber_17 rfl ?_
    refine g_bipush (q0 := 20) rfl dX12_saysNumber_18 (k := ?_)
    refine g_icmp_le (q0 := 23) (tgt := 37) rfl dX12_saysNumber_20 (by decide) (fun h20 => ?_) (fun h20 => ?_)
    · replace h := gI_neg (Int.not_lt.mpr h20) h
      refine g_aload_n (q0 := 38) (j := 0) rfl dX12_saysNumber_37 rfl ?_
      refine g_bipush (q0 := 40) rfl dX12_saysNumber_38 (k := ?_)
      refine g_iload_n (q0 := 41) (j := 1) rfl dX12_saysNumber_40 rfl ?_
      refine g_bipush (q0 := 43) rfl dX12_saysNumber_41 (k := ?_)
      refine g_irem (q0 := 44) rfl dX12_saysNumber_43 (by decide) ?_
      refine g_iaddw (q0 := 45) rfl dX12_saysNumber_44 ?_
      obtain ⟨m45, e45, h⟩ := gI_bd h
      refine g_callVq0 (as := [_]) (rest := []) mt_X12_says mi_X12_says se_X12_says ml_X12_534 dX12_saysNumber_45 (q0 := 48) rfl rfl (sh_711 hOK) rfl rfl (ok_says hOK e45) rfl ⟨by decide, by decide⟩ (Nat.le_of_ble_eq_true rfl) ⟨Nat.zero_le _, Nat.zero_le _⟩ ?_
      have hOK1 : gOK sh m45 := gOK_fr hOK (fr_says (b := m45) e45) (by first | decide | (intro a ha; simp only [List.mem_cons, List.not_mem_nil, or_false] at ha; omega)) (by decide)
      rw [← Option.some.inj h]
      refine g_return dX12_saysNumber_48 rfl ⟨Nat.zero_le _, Nat.zero_le _⟩ ?_
      exact ⟨rfl, rfl, rfl⟩
    · replace h := gI_pos h20 h
      refine g_aload_n (q0 := 24) (j := 0) rfl dX12_saysNumber_23 rfl ?_
      refine g_bipush (q0 := 26) rfl dX12_saysNumber_24 (k := ?_)
      refine g_iload_n (q0 := 27) (j := 1) rfl dX12_saysNumber_26 rfl ?_
      refine g_bipush (q0 := 29) rfl dX12_saysNumber_27 (k := ?_)
      refine g_idiv (q0 := 30) rfl dX12_saysNumber_29 (by decide) ?_
      refine g_bipush (q0 := 32) rfl dX12_saysNumber_30 (k := ?_)
      refine g_irem (q0 := 33) rfl dX12_saysNumber_32 (by decide) ?_
      refine g_iaddw (q0 := 34) rfl dX12_saysNumber_33 ?_
      obtain ⟨m34, e34, h⟩ := gI_bd h
      refine g_callVq0 (as := [_]) (rest := []) mt_X12_says mi_X12_says se_X12_says ml_X12_534 dX12_saysNumber_34 (q0 := 37) rfl rfl (sh_711 hOK) rfl rfl (ok_says hOK e34) rfl ⟨by decide, by decide⟩ (Nat.le_of_ble_eq_true rfl) ⟨Nat.zero_le _, Nat.zero_le _⟩ ?_
      have hOK2 : gOK sh m34 := gOK_fr hOK (fr_says (b := m34) e34) (by first | decide | (intro a ha; simp only [List.mem_cons, List.not_mem_nil, or_false] at ha; omega)) (by decide)
      refine g_aload_n (q0 := 38) (j := 0) rfl dX12_saysNumber_37 rfl ?_
      refine g_bipush (q0 := 40) rfl dX12_saysNumber_38 (k := ?_)
      refine g_iload_n (q0 := 41) (j := 1) rfl dX12_saysNumber_40 rfl ?_
      refine g_bipush (q0 := 43) rfl dX12_saysNumber_41 (k := ?_)
      refine g_irem (q0 := 44) rfl dX12_saysNumber_43 (by decide) ?_
      refine g_iaddw (q0 := 45) rfl dX12_saysNumber_44 ?_
      obtain ⟨m45, e45, h⟩ := gI_bd h
      refine g_callVq0 (as := [_]) (rest := []) mt_X12_says mi_X12_says se_X12_says ml_X12_534 dX12_saysNumber_45 (q0 := 48) rfl rfl (sh_711 hOK2) rfl rfl (ok_says hOK2 e45) rfl ⟨by decide, by decide⟩ (Nat.le_of_ble_eq_true rfl) ⟨Nat.zero_le _, Nat.zero_le _⟩ ?_
      have hOK3 : gOK sh m45 := gOK_fr hOK2 (fr_says (b := m45) e45) (by first | decide | (intro a ha; simp only [List.mem_cons, List.not_mem_nil, or_false] at ha; omega)) (by decide)
      rw [← Option.some.inj h]
      refine g_return dX12_saysNumber_48 rfl ⟨Nat.zero_le _, Nat.zero_le _⟩ ?_
      exact ⟨rfl, rfl, rfl⟩
theorem ok_saysNumber_17 {sh : gS} {M : gM} {x1 : Int} {b : gM} (hOK : gOK sh M) (h : F_saysNumber_17 M x1 = some b) : gA (gr 1 21) yX12_saysNumber cX12_saysNumber 2 none (gPq sh none b) (0, 0) 17 [(4, 711), (0, x1)] [] sh M :=
  (okp_saysNumber _ _ h) _ _ rfl hOK
theorem ok_saysNumber {sh : gS} {M : gM} {a1 : Int} {b : gM} (hOK : gOK sh M) (h : F_saysNumber M a1 = some b) : gC (gr 1 21) yX12_saysNumber cX12_saysNumber 2 none [(4, 711), (0, a1)] sh M (gPq sh none b) := by
  rw [eq_saysNumber] at h
  refine gC_ofA (lv := [_, _]) (by decide +kernel) (Nat.le_of_ble_eq_true rfl) rfl (fun hMw hav => ?_)
  refine g_iload_n (q0 := 1) (j := 1) rfl dX12_saysNumber_0 rfl ?_
  refine g_bipush (q0 := 3) rfl dX12_saysNumber_1 (k := ?_)
  refine g_icmp_le (q0 := 6) (tgt := 17) rfl dX12_saysNumber_3 (by decide) (fun h3 => ?_) (fun h3 => ?_)
  · replace h := gI_neg (Int.not_lt.mpr h3) h
    exact ok_saysNumber_17 hOK h
  · replace h := gI_pos h3 h
    refine g_aload_n (q0 := 7) (j := 0) rfl dX12_saysNumber_6 rfl ?_
    refine g_bipush (q0 := 9) rfl dX12_saysNumber_7 (k := ?_)
    refine g_iload_n (q0 := 10) (j := 1) rfl dX12_saysNumber_9 rfl ?_
    refine g_bipush (q0 := 12) rfl dX12_saysNumber_10 (k := ?_)
    refine g_idiv (q0 := 13) rfl dX12_saysNumber_12 (by decide) ?_
    refine g_iaddw (q0 := 14) rfl dX12_saysNumber_13 ?_
    obtain ⟨m14, e14, h⟩ := gI_bd h
    refine g_callVq0 (as := [_]) (rest := []) mt_X12_says mi_X12_says se_X12_says ml_X12_534 dX12_saysNumber_14 (q0 := 17) rfl rfl (sh_711 hOK) rfl rfl (ok_says hOK e14) rfl ⟨by decide, by decide⟩ (Nat.le_of_ble_eq_true rfl) ⟨Nat.zero_le _, Nat.zero_le _⟩ ?_
    have hOK4 : gOK sh m14 := gOK_fr hOK (fr_says (b := m14) e14) (by first | decide | (intro a ha; simp only [List.mem_cons, List.not_mem_nil, or_false] at ha; omega)) (by decide)
    exact ok_saysNumber_17 hOK4 h
-- ==== carriesMention
theorem dX12_carriesMention_0 : decode cX12_carriesMention 0 = .ok (.aload_n 0, 1) := by decide +kernel
theorem dX12_carriesMention_1 : decode cX12_carriesMention 1 = .ok (.getfield 537, 3) := by decide +kernel
theorem dX12_carriesMention_4 : decode cX12_carriesMention 4 = .ok (.iconst 1, 1) := by decide +kernel
theorem dX12_carriesMention_5 : decode cX12_carriesMention 5 = .ok (.iadd, 1) := by decide +kernel
theorem dX12_carriesMention_6 : decode cX12_carriesMention 6 = .ok (.istore_n 3, 1) := by decide +kernel
theorem dX12_carriesMention_7 : decode cX12_carriesMention 7 = .ok (.iload_n 3, 1) := by decide +kernel
theorem dX12_carriesMention_8 : decode cX12_carriesMention 8 = .ok (.istore 4, 2) := by decide +kernel
theorem dX12_carriesMention_10 : decode cX12_carriesMention 10 = .ok (.iconst 0, 1) := by decide +kernel
theorem dX12_carriesMention_11 : decode cX12_carriesMention 11 = .ok (.istore 5, 2) := by decide +kernel
theorem dX12_carriesMention_13 : decode cX12_carriesMention 13 = .ok (.aload_n 0, 1) := by decide +kernel
theorem dX12_carriesMention_14 : decode cX12_carriesMention 14 = .ok (.iload_n 2, 1) := by decide +kernel
theorem dX12_carriesMention_15 : decode cX12_carriesMention 15 = .ok (.iload 4, 2) := by decide +kernel
theorem dX12_carriesMention_17 : decode cX12_carriesMention 17 = .ok (.invokevirtual 540, 3) := by decide +kernel
theorem dX12_carriesMention_20 : decode cX12_carriesMention 20 = .ok (.invokestatic 272, 3) := by decide +kernel
theorem dX12_carriesMention_23 : decode cX12_carriesMention 23 = .ok (.ifCond .eq 43, 3) := by decide +kernel
theorem dX12_carriesMention_26 : decode cX12_carriesMention 26 = .ok (.iload 4, 2) := by decide +kernel
theorem dX12_carriesMention_28 : decode cX12_carriesMention 28 = .ok (.iload_n 3, 1) := by decide +kernel
theorem dX12_carriesMention_29 : decode cX12_carriesMention 29 = .ok (.isub, 1) := by decide +kernel
theorem dX12_carriesMention_30 : decode cX12_carriesMention 30 = .ok (.iconst 3, 1) := by decide +kernel
theorem dX12_carriesMention_31 : decode cX12_carriesMention 31 = .ok (.if_icmp .ge 22, 3) := by decide +kernel
theorem dX12_carriesMention_34 : decode cX12_carriesMention 34 = .ok (.bipush 10, 2) := by decide +kernel
theorem dX12_carriesMention_36 : decode cX12_carriesMention 36 = .ok (.iload 5, 2) := by decide +kernel
theorem dX12_carriesMention_38 : decode cX12_carriesMention 38 = .ok (.imul, 1) := by decide +kernel
theorem dX12_carriesMention_39 : decode cX12_carriesMention 39 = .ok (.aload_n 0, 1) := by decide +kernel
theorem dX12_carriesMention_40 : decode cX12_carriesMention 40 = .ok (.iload_n 2, 1) := by decide +kernel
theorem dX12_carriesMention_41 : decode cX12_carriesMention 41 = .ok (.iload 4, 2) := by decide +kernel
theorem dX12_carriesMention_43 : decode cX12_carriesMention 43 = .ok (.invokevirtual 540, 3) := by decide +kernel
theorem dX12_carriesMention_46 : decode cX12_carriesMention 46 = .ok (.iadd, 1) := by decide +kernel
theorem dX12_carriesMention_47 : decode cX12_carriesMention 47 = .ok (.bipush 48, 2) := by decide +kernel
theorem dX12_carriesMention_49 : decode cX12_carriesMention 49 = .ok (.isub, 1) := by decide +kernel
theorem dX12_carriesMention_50 : decode cX12_carriesMention 50 = .ok (.goto 5, 3) := by decide +kernel
theorem dX12_carriesMention_53 : decode cX12_carriesMention 53 = .ok (.iload 5, 2) := by decide +kernel
theorem dX12_carriesMention_55 : decode cX12_carriesMention 55 = .ok (.istore 5, 2) := by decide +kernel
theorem dX12_carriesMention_57 : decode cX12_carriesMention 57 = .ok (.iload 4, 2) := by decide +kernel
theorem dX12_carriesMention_59 : decode cX12_carriesMention 59 = .ok (.iconst 1, 1) := by decide +kernel
theorem dX12_carriesMention_60 : decode cX12_carriesMention 60 = .ok (.iadd, 1) := by decide +kernel
theorem dX12_carriesMention_61 : decode cX12_carriesMention 61 = .ok (.istore 4, 2) := by decide +kernel
theorem dX12_carriesMention_63 : decode cX12_carriesMention 63 = .ok (.goto (-50), 3) := by decide +kernel
theorem dX12_carriesMention_66 : decode cX12_carriesMention 66 = .ok (.aload_n 0, 1) := by decide +kernel
theorem dX12_carriesMention_67 : decode cX12_carriesMention 67 = .ok (.bipush 35, 2) := by decide +kernel
theorem dX12_carriesMention_69 : decode cX12_carriesMention 69 = .ok (.invokevirtual 534, 3) := by decide +kernel
theorem dX12_carriesMention_72 : decode cX12_carriesMention 72 = .ok (.iload 4, 2) := by decide +kernel
theorem dX12_carriesMention_74 : decode cX12_carriesMention 74 = .ok (.iload_n 3, 1) := by decide +kernel
theorem dX12_carriesMention_75 : decode cX12_carriesMention 75 = .ok (.isub, 1) := by decide +kernel
theorem dX12_carriesMention_76 : decode cX12_carriesMention 76 = .ok (.istore 6, 2) := by decide +kernel
theorem dX12_carriesMention_78 : decode cX12_carriesMention 78 = .ok (.iload 6, 2) := by decide +kernel
theorem dX12_carriesMention_80 : decode cX12_carriesMention 80 = .ok (.iconst 1, 1) := by decide +kernel
theorem dX12_carriesMention_81 : decode cX12_carriesMention 81 = .ok (.iconst 3, 1) := by decide +kernel
theorem dX12_carriesMention_82 : decode cX12_carriesMention 82 = .ok (.invokestatic 182, 3) := by decide +kernel
theorem dX12_carriesMention_85 : decode cX12_carriesMention 85 = .ok (.ifCond .eq 49, 3) := by decide +kernel
theorem dX12_carriesMention_88 : decode cX12_carriesMention 88 = .ok (.iload 6, 2) := by decide +kernel
theorem dX12_carriesMention_90 : decode cX12_carriesMention 90 = .ok (.iconst 1, 1) := by decide +kernel
theorem dX12_carriesMention_91 : decode cX12_carriesMention 91 = .ok (.if_icmp .eq 14, 3) := by decide +kernel
theorem dX12_carriesMention_94 : decode cX12_carriesMention 94 = .ok (.aload_n 0, 1) := by decide +kernel
theorem dX12_carriesMention_95 : decode cX12_carriesMention 95 = .ok (.iload_n 2, 1) := by decide +kernel
theorem dX12_carriesMention_96 : decode cX12_carriesMention 96 = .ok (.iload_n 3, 1) := by decide +kernel
theorem dX12_carriesMention_97 : decode cX12_carriesMention 97 = .ok (.invokevirtual 540, 3) := by decide +kernel
theorem dX12_carriesMention_100 : decode cX12_carriesMention 100 = .ok (.bipush 48, 2) := by decide +kernel
theorem dX12_carriesMention_102 : decode cX12_carriesMention 102 = .ok (.if_icmp .eq 32, 3) := by decide +kernel
theorem dX12_carriesMention_105 : decode cX12_carriesMention 105 = .ok (.iload 5, 2) := by decide +kernel
theorem dX12_carriesMention_107 : decode cX12_carriesMention 107 = .ok (.aload_n 0, 1) := by decide +kernel
theorem dX12_carriesMention_108 : decode cX12_carriesMention 108 = .ok (.getfield 178, 3) := by decide +kernel
theorem dX12_carriesMention_111 : decode cX12_carriesMention 111 = .ok (.if_icmp .ge 23, 3) := by decide +kernel
theorem dX12_carriesMention_114 : decode cX12_carriesMention 114 = .ok (.iload 5, 2) := by decide +kernel
theorem dX12_carriesMention_116 : decode cX12_carriesMention 116 = .ok (.iload_n 2, 1) := by decide +kernel
theorem dX12_carriesMention_117 : decode cX12_carriesMention 117 = .ok (.if_icmp .eq 17, 3) := by decide +kernel
theorem dX12_carriesMention_120 : decode cX12_carriesMention 120 = .ok (.aload_n 0, 1) := by decide +kernel
theorem dX12_carriesMention_121 : decode cX12_carriesMention 121 = .ok (.getfield 72, 3) := by decide +kernel
theorem dX12_carriesMention_124 : decode cX12_carriesMention 124 = .ok (.iload 5, 2) := by decide +kernel
theorem dX12_carriesMention_126 : decode cX12_carriesMention 126 = .ok (.baload, 1) := by decide +kernel
theorem dX12_carriesMention_127 : decode cX12_carriesMention 127 = .ok (.ifCond .eq 7, 3) := by decide +kernel
theorem dX12_carriesMention_130 : decode cX12_carriesMention 130 = .ok (.iconst 1, 1) := by decide +kernel
theorem dX12_carriesMention_131 : decode cX12_carriesMention 131 = .ok (.goto 4, 3) := by decide +kernel
theorem dX12_carriesMention_134 : decode cX12_carriesMention 134 = .ok (.iconst 0, 1) := by decide +kernel
theorem dX12_carriesMention_135 : decode cX12_carriesMention 135 = .ok (.istore 7, 2) := by decide +kernel
theorem dX12_carriesMention_137 : decode cX12_carriesMention 137 = .ok (.iload 7, 2) := by decide +kernel
theorem dX12_carriesMention_139 : decode cX12_carriesMention 139 = .ok (.ifCond .eq 23, 3) := by decide +kernel
theorem dX12_carriesMention_142 : decode cX12_carriesMention 142 = .ok (.aload_n 0, 1) := by decide +kernel
theorem dX12_carriesMention_143 : decode cX12_carriesMention 143 = .ok (.iload_n 1, 1) := by decide +kernel
theorem dX12_carriesMention_144 : decode cX12_carriesMention 144 = .ok (.iload 5, 2) := by decide +kernel
theorem dX12_carriesMention_146 : decode cX12_carriesMention 146 = .ok (.invokevirtual 513, 3) := by decide +kernel
theorem dX12_carriesMention_149 : decode cX12_carriesMention 149 = .ok (.iconst (-1), 1) := by decide +kernel
theorem dX12_carriesMention_150 : decode cX12_carriesMention 150 = .ok (.if_icmp .ne 12, 3) := by decide +kernel
theorem dX12_carriesMention_153 : decode cX12_carriesMention 153 = .ok (.aload_n 0, 1) := by decide +kernel
theorem dX12_carriesMention_154 : decode cX12_carriesMention 154 = .ok (.bipush 63, 2) := by decide +kernel
theorem dX12_carriesMention_156 : decode cX12_carriesMention 156 = .ok (.invokevirtual 534, 3) := by decide +kernel
theorem dX12_carriesMention_159 : decode cX12_carriesMention 159 = .ok (.goto 19, 3) := by decide +kernel
theorem dX12_carriesMention_162 : decode cX12_carriesMention 162 = .ok (.iload 7, 2) := by decide +kernel
theorem dX12_carriesMention_164 : decode cX12_carriesMention 164 = .ok (.ifCond .eq 14, 3) := by decide +kernel
theorem dX12_carriesMention_167 : decode cX12_carriesMention 167 = .ok (.aload_n 0, 1) := by decide +kernel
theorem dX12_carriesMention_168 : decode cX12_carriesMention 168 = .ok (.aload_n 0, 1) := by decide +kernel
theorem dX12_carriesMention_169 : decode cX12_carriesMention 169 = .ok (.iload_n 1, 1) := by decide +kernel
theorem dX12_carriesMention_170 : decode cX12_carriesMention 170 = .ok (.iload 5, 2) := by decide +kernel
theorem dX12_carriesMention_172 : decode cX12_carriesMention 172 = .ok (.invokevirtual 513, 3) := by decide +kernel
theorem dX12_carriesMention_175 : decode cX12_carriesMention 175 = .ok (.invokevirtual 543, 3) := by decide +kernel
theorem dX12_carriesMention_178 : decode cX12_carriesMention 178 = .ok (.iload_n 3, 1) := by decide +kernel
theorem dX12_carriesMention_179 : decode cX12_carriesMention 179 = .ok (.istore 8, 2) := by decide +kernel
theorem dX12_carriesMention_181 : decode cX12_carriesMention 181 = .ok (.iload 8, 2) := by decide +kernel
theorem dX12_carriesMention_183 : decode cX12_carriesMention 183 = .ok (.iload 4, 2) := by decide +kernel
theorem dX12_carriesMention_185 : decode cX12_carriesMention 185 = .ok (.if_icmp .ge 25, 3) := by decide +kernel
theorem dX12_carriesMention_188 : decode cX12_carriesMention 188 = .ok (.iload 7, 2) := by decide +kernel
theorem dX12_carriesMention_190 : decode cX12_carriesMention 190 = .ok (.ifCond .ne 20, 3) := by decide +kernel
theorem dX12_carriesMention_193 : decode cX12_carriesMention 193 = .ok (.aload_n 0, 1) := by decide +kernel
theorem dX12_carriesMention_194 : decode cX12_carriesMention 194 = .ok (.aload_n 0, 1) := by decide +kernel
theorem dX12_carriesMention_195 : decode cX12_carriesMention 195 = .ok (.iload_n 2, 1) := by decide +kernel
theorem dX12_carriesMention_196 : decode cX12_carriesMention 196 = .ok (.iload 8, 2) := by decide +kernel
theorem dX12_carriesMention_198 : decode cX12_carriesMention 198 = .ok (.invokevirtual 540, 3) := by decide +kernel
theorem dX12_carriesMention_201 : decode cX12_carriesMention 201 = .ok (.invokevirtual 534, 3) := by decide +kernel
theorem dX12_carriesMention_204 : decode cX12_carriesMention 204 = .ok (.iinc 8 1, 3) := by decide +kernel
theorem dX12_carriesMention_207 : decode cX12_carriesMention 207 = .ok (.goto (-26), 3) := by decide +kernel
theorem dX12_carriesMention_210 : decode cX12_carriesMention 210 = .ok (.aload_n 0, 1) := by decide +kernel
theorem dX12_carriesMention_211 : decode cX12_carriesMention 211 = .ok (.iload 4, 2) := by decide +kernel
theorem dX12_carriesMention_213 : decode cX12_carriesMention 213 = .ok (.putfield 537, 3) := by decide +kernel
theorem dX12_carriesMention_216 : decode cX12_carriesMention 216 = .ok (.return_, 1) := by decide +kernel
noncomputable def st_carriesMention : Nat × List Int × gM → Option ((Nat × List Int × gM) ⊕ (gM))
  | (0, [x1, x2, x3, x4, x5], M) => (Option.bind (F_saidAt M x2 x4) (fun r17 =>
      (Option.bind (F_isDigit r17) (fun r20 =>
        (if r20 = 0 then
          (Option.bind (F_says M 35) (fun m69 =>
            (Option.bind (F_in (gw32 (x4 - x3)) 1 3) (fun r82 =>
              (if r82 = 0 then
                some (.inl (2, [x1, x2, x3, x4, x5, (gw32 (x4 - x3)), 0], m69))
              else
                (if (gw32 (x4 - x3)) = 1 then
                  some (.inl (1, [x1, x2, x3, x4, x5, (gw32 (x4 - x3))], m69))
                else
                  (Option.bind (F_saidAt m69 x2 x3) (fun r97 =>
                    (if r97 = 48 then
                      some (.inl (2, [x1, x2, x3, x4, x5, (gw32 (x4 - x3)), 0], m69))
                    else
                      some (.inl (1, [x1, x2, x3, x4, x5, (gw32 (x4 - x3))], m69)))))))))))
        else
          (if (gw32 (x4 - x3)) < 3 then
            (Option.bind (F_saidAt M x2 x4) (fun r43 =>
              some (.inl (0, [x1, x2, x3, (gw32 (x4 + (1 : Int))), (gw32 ((gw32 ((gw32 ((10 : Int) * x5)) + r43)) - (48 : Int)))], M))))
          else
            some (.inl (0, [x1, x2, x3, (gw32 (x4 + (1 : Int))), x5], M))))))))
  | (1, [x1, x2, x3, x4, x5, x6], M) => (if x5 < (M 711 0) then
      (if x5 = x2 then
        some (.inl (2, [x1, x2, x3, x4, x5, x6, 0], M))
      else
        (if 0 ≤ x5 ∧ x5 < 120 then
          (if (M 732 x5) = 0 then
            some (.inl (2, [x1, x2, x3, x4, x5, x6, 0], M))
          else
            some (.inl (2, [x1, x2, x3, x4, x5, x6, 1], M)))
        else none))
    else
      some (.inl (2, [x1, x2, x3, x4, x5, x6, 0], M)))
  | (2, [x1, x2, x3, x4, x5, x6, s0], M) => (if s0 = 0 then
      (if s0 = 0 then
        some (.inl (3, [x1, x2, x3, x4, x5, x6, s0, x3], M))
      else
        (Option.bind (F_imageAt M x1 x5) (fun r172 =>
          (Option.bind (F_saysNumber M r172) (fun m175 =>
            some (.inl (3, [x1, x2, x3, x4, x5, x6, s0, x3], m175)))))))
    else
      (Option.bind (F_imageAt M x1 x5) (fun r146 =>
        (if r146 = -1 then
          (Option.bind (F_says M 63) (fun m156 =>
            some (.inl (3, [x1, x2, x3, x4, x5, x6, s0, x3], m156))))
        else
          (if s0 = 0 then
            some (.inl (3, [x1, x2, x3, x4, x5, x6, s0, x3], M))
          else
            (Option.bind (F_imageAt M x1 x5) (fun r172 =>
              (Option.bind (F_saysNumber M r172) (fun m175 =>
                some (.inl (3, [x1, x2, x3, x4, x5, x6, s0, x3], m175)))))))))))
  | (3, [x1, x2, x3, x4, x5, x6, x7, x8], M) => (if x8 < x4 then
      (if x7 = 0 then
        (Option.bind (F_saidAt M x2 x8) (fun r198 =>
          (Option.bind (F_says M r198) (fun m201 =>
            some (.inl (3, [x1, x2, x3, x4, x5, x6, x7, (gw32 (x8 + 1))], m201))))))
      else
        some (.inr (gU M 711 38 x4)))
    else
      some (.inr (gU M 711 38 x4)))
  | _ => none
theorem sk_carriesMention_13 (k : Nat × List Int × gM → Option (gM)) (M : gM) (x1 x2 x3 x4 x5 : Int) : gWk k (st_carriesMention (0, [x1, x2, x3, x4, x5], M)) = (Option.bind (F_saidAt M x2 x4) (fun r17 =>
    (Option.bind (F_isDigit r17) (fun r20 =>
      (if r20 = 0 then
        (Option.bind (F_says M 35) (fun m69 =>
          (Option.bind (F_in (gw32 (x4 - x3)) 1 3) (fun r82 =>
            (if r82 = 0 then
              k (2, [x1, x2, x3, x4, x5, (gw32 (x4 - x3)), 0], m69)
            else
              (if (gw32 (x4 - x3)) = 1 then
                k (1, [x1, x2, x3, x4, x5, (gw32 (x4 - x3))], m69)
              else
                (Option.bind (F_saidAt m69 x2 x3) (fun r97 =>
                  (if r97 = 48 then
                    k (2, [x1, x2, x3, x4, x5, (gw32 (x4 - x3)), 0], m69)
                  else
                    k (1, [x1, x2, x3, x4, x5, (gw32 (x4 - x3))], m69))))))))))
      else
        (if (gw32 (x4 - x3)) < 3 then
          (Option.bind (F_saidAt M x2 x4) (fun r43 =>
            k (0, [x1, x2, x3, (gw32 (x4 + (1 : Int))), (gw32 ((gw32 ((gw32 ((10 : Int) * x5)) + r43)) - (48 : Int)))], M)))
        else
          k (0, [x1, x2, x3, (gw32 (x4 + (1 : Int))), x5], M))))))) := by
  simp only [st_carriesMention, gWk_ite, gWk_bind, gWk_inl, gWk_inr, gWk_none]
theorem sk_carriesMention_105 (k : Nat × List Int × gM → Option (gM)) (M : gM) (x1 x2 x3 x4 x5 x6 : Int) : gWk k (st_carriesMention (1, [x1, x2, x3, x4, x5, x6], M)) = (if x5 < (M 711 0) then
    (if x5 = x2 then
      k (2, [x1, x2, x3, x4, x5, x6, 0], M)
    else
      (if 0 ≤ x5 ∧ x5 < 120 then
        (if (M 732 x5) = 0 then
          k (2, [x1, x2, x3, x4, x5, x6, 0], M)
        else
          k (2, [x1, x2, x3, x4, x5, x6, 1], M))
      else none))
  else
    k (2, [x1, x2, x3, x4, x5, x6, 0], M)) := by
  simp only [st_carriesMention, gWk_ite, gWk_bind, gWk_inl, gWk_inr, gWk_none]
theorem sk_carriesMention_135 (k : Nat × List Int × gM → Option (gM)) (M : gM) (x1 x2 x3 x4 x5 x6 s0 : Int) : gWk k (st_carriesMention (2, [x1, x2, x3, x4, x5, x6, s0], M)) = (if s0 = 0 then
    (if s0 = 0 then
      k (3, [x1, x2, x3, x4, x5, x6, s0, x3], M)
    else
      (Option.bind (F_imageAt M x1 x5) (fun r172 =>
        (Option.bind (F_saysNumber M r172) (fun m175 =>
          k (3, [x1, x2, x3, x4, x5, x6, s0, x3], m175))))))
  else
    (Option.bind (F_imageAt M x1 x5) (fun r146 =>
      (if r146 = -1 then
        (Option.bind (F_says M 63) (fun m156 =>
          k (3, [x1, x2, x3, x4, x5, x6, s0, x3], m156)))
      else
        (if s0 = 0 then
          k (3, [x1, x2, x3, x4, x5, x6, s0, x3], M)
        else
          (Option.bind (F_imageAt M x1 x5) (fun r172 =>
            (Option.bind (F_saysNumber M r172) (fun m175 =>
              k (3, [x1, x2, x3, x4, x5, x6, s0, x3], m175)))))))))) := by
  simp only [st_carriesMention, gWk_ite, gWk_bind, gWk_inl, gWk_inr, gWk_none]
theorem sk_carriesMention_181 (k : Nat × List Int × gM → Option (gM)) (M : gM) (x1 x2 x3 x4 x5 x6 x7 x8 : Int) : gWk k (st_carriesMention (3, [x1, x2, x3, x4, x5, x6, x7, x8], M)) = (if x8 < x4 then
    (if x7 = 0 then
      (Option.bind (F_saidAt M x2 x8) (fun r198 =>
        (Option.bind (F_says M r198) (fun m201 =>
          k (3, [x1, x2, x3, x4, x5, x6, x7, (gw32 (x8 + 1))], m201)))))
    else
      some (gU M 711 38 x4))
  else
    some (gU M 711 38 x4)) := by
  simp only [st_carriesMention, gWk_ite, gWk_bind, gWk_inl, gWk_inr, gWk_none]
noncomputable def F_carriesMention_13 (M : gM) (x1 x2 x3 x4 x5 : Int) : Option (gM) := gWh (st_carriesMention) (0, [x1, x2, x3, x4, x5], M)
noncomputable def F_carriesMention_105 (M : gM) (x1 x2 x3 x4 x5 x6 : Int) : Option (gM) := gWh (st_carriesMention) (1, [x1, x2, x3, x4, x5, x6], M)
noncomputable def F_carriesMention_135 (M : gM) (x1 x2 x3 x4 x5 x6 s0 : Int) : Option (gM) := gWh (st_carriesMention) (2, [x1, x2, x3, x4, x5, x6, s0], M)
noncomputable def F_carriesMention_181 (M : gM) (x1 x2 x3 x4 x5 x6 x7 x8 : Int) : Option (gM) := gWh (st_carriesMention) (3, [x1, x2, x3, x4, x5, x6, x7, x8], M)
theorem eq_carriesMention_13 (M : gM) (x1 x2 x3 x4 x5 : Int) : F_carriesMention_13 M x1 x2 x3 x4 x5 = (Option.bind (F_saidAt M x2 x4) (fun r17 =>
    (Option.bind (F_isDigit r17) (fun r20 =>
      (if r20 = 0 then
        (Option.bind (F_says M 35) (fun m69 =>
          (Option.bind (F_in (gw32 (x4 - x3)) 1 3) (fun r82 =>
            (if r82 = 0 then
              F_carriesMention_135 m69 x1 x2 x3 x4 x5 (gw32 (x4 - x3)) 0
            else
              (if (gw32 (x4 - x3)) = 1 then
                F_carriesMention_105 m69 x1 x2 x3 x4 x5 (gw32 (x4 - x3))
              else
                (Option.bind (F_saidAt m69 x2 x3) (fun r97 =>
                  (if r97 = 48 then
                    F_carriesMention_135 m69 x1 x2 x3 x4 x5 (gw32 (x4 - x3)) 0
                  else
                    F_carriesMention_105 m69 x1 x2 x3 x4 x5 (gw32 (x4 - x3)))))))))))
      else
        (if (gw32 (x4 - x3)) < 3 then
          (Option.bind (F_saidAt M x2 x4) (fun r43 =>
            F_carriesMention_13 M x1 x2 x3 (gw32 (x4 + (1 : Int))) (gw32 ((gw32 ((gw32 ((10 : Int) * x5)) + r43)) - (48 : Int)))))
        else
          F_carriesMention_13 M x1 x2 x3 (gw32 (x4 + (1 : Int))) x5)))))) := (gWh_eq _).trans (sk_carriesMention_13 _ M x1 x2 x3 x4 x5)
theorem eq_carriesMention_105 (M : gM) (x1 x2 x3 x4 x5 x6 : Int) : F_carriesMention_105 M x1 x2 x3 x4 x5 x6 = (if x5 < (M 711 0) then
    (if x5 = x2 then
      F_carriesMention_135 M x1 x2 x3 x4 x5 x6 0
    else
      (if 0 ≤ x5 ∧ x5 < 120 then
        (if (M 732 x5) = 0 then
          F_carriesMention_135 M x1 x2 x3 x4 x5 x6 0
        else
          F_carriesMention_135 M x1 x2 x3 x4 x5 x6 1)
      else none))
  else
    F_carriesMention_135 M x1 x2 x3 x4 x5 x6 0) := (gWh_eq _).trans (sk_carriesMention_105 _ M x1 x2 x3 x4 x5 x6)
theorem eq_carriesMention_135 (M : gM) (x1 x2 x3 x4 x5 x6 s0 : Int) : F_carriesMention_135 M x1 x2 x3 x4 x5 x6 s0 = (if s0 = 0 then
    (if s0 = 0 then
      F_carriesMention_181 M x1 x2 x3 x4 x5 x6 s0 x3
    else
      (Option.bind (F_imageAt M x1 x5) (fun r172 =>
        (Option.bind (F_saysNumber M r172) (fun m175 =>
          F_carriesMention_181 m175 x1 x2 x3 x4 x5 x6 s0 x3)))))
  else
    (Option.bind (F_imageAt M x1 x5) (fun r146 =>
      (if r146 = -1 then
        (Option.bind (F_says M 63) (fun m156 =>
          F_carriesMention_181 m156 x1 x2 x3 x4 x5 x6 s0 x3))
      else
        (if s0 = 0 then
          F_carriesMention_181 M x1 x2 x3 x4 x5 x6 s0 x3
        else
          (Option.bind (F_imageAt M x1 x5) (fun r172 =>
            (Option.bind (F_saysNumber M r172) (fun m175 =>
              F_carriesMention_181 m175 x1 x2 x3 x4 x5 x6 s0 x3))))))))) := (gWh_eq _).trans (sk_carriesMention_135 _ M x1 x2 x3 x4 x5 x6 s0)
theorem eq_carriesMention_181 (M : gM) (x1 x2 x3 x4 x5 x6 x7 x8 : Int) : F_carriesMention_181 M x1 x2 x3 x4 x5 x6 x7 x8 = (if x8 < x4 then
    (if x7 = 0 then
      (Option.bind (F_saidAt M x2 x8) (fun r198 =>
        (Option.bind (F_says M r198) (fun m201 =>
          F_carriesMention_181 m201 x1 x2 x3 x4 x5 x6 x7 (gw32 (x8 + 1))))))
    else
      some (gU M 711 38 x4))
  else
    some (gU M 711 38 x4)) := (gWh_eq _).trans (sk_carriesMention_181 _ M x1 x2 x3 x4 x5 x6 x7 x8)
noncomputable def F_carriesMention (M : gM) (a1 a2 : Int) : Option (gM) := F_carriesMention_13 M a1 a2 (gw32 ((M 711 38) + (1 : Int))) (gw32 ((M 711 38) + (1 : Int))) 0
theorem eq_carriesMention (M : gM) (a1 a2 : Int) : F_carriesMention M a1 a2 = F_carriesMention_13 M a1 a2 (gw32 ((M 711 38) + (1 : Int))) (gw32 ((M 711 38) + (1 : Int))) 0 := rfl
theorem frp_carriesMention : ∀ (s : Nat × List Int × gM) (b : gM), gWh (st_carriesMention) s = some b → (∀ (x1 x2 x3 x4 x5 : Int) (M : gM), s = (0, [x1, x2, x3, x4, x5], M) → gFr [722] [13, 38] M b) ∧ (∀ (x1 x2 x3 x4 x5 x6 : Int) (M : gM), s = (1, [x1, x2, x3, x4, x5, x6], M) → gFr [722] [13, 38] M b) ∧ (∀ (x1 x2 x3 x4 x5 x6 s0 : Int) (M : gM), s = (2, [x1, x2, x3, x4, x5, x6, s0], M) → gFr [722] [13, 38] M b) ∧ (∀ (x1 x2 x3 x4 x5 x6 x7 x8 : Int) (M : gM), s = (3, [x1, x2, x3, x4, x5, x6, x7, x8], M) → gFr [722] [13, 38] M b) := by
  refine gWh_ind (fun k hk s b h => ⟨?_, ?_, ?_, ?_⟩)
  · rintro x1 x2 x3 x4 x5 M rfl
    rw [sk_carriesMention_13] at h
    obtain ⟨r17, e17, h⟩ := gI_bd h
    obtain ⟨r20, e20, h⟩ := gI_bd h
    rcases gI_or h with h | h
    · obtain ⟨m69, e69, h⟩ := gI_bd h
      obtain ⟨r82, e82, h⟩ := gI_bd h
      rcases gI_or h with h | h
      · exact gFr_t (gFr_t (gFr_r [722] [13, 38] _) (fr_says (b := m69) e69) (by first | decide | simp) (by decide)) ((hk _ _ h).2.2.1 _ _ _ _ _ _ _ _ rfl) (fun _ z => z) (fun _ z => z)
      · rcases gI_or h with h | h
        · exact gFr_t (gFr_t (gFr_r [722] [13, 38] _) (fr_says (b := m69) e69) (by first | decide | simp) (by decide)) ((hk _ _ h).2.1 _ _ _ _ _ _ _ rfl) (fun _ z => z) (fun _ z => z)
        · obtain ⟨r97, e97, h⟩ := gI_bd h
          rcases gI_or h with h | h
          · exact gFr_t (gFr_t (gFr_r [722] [13, 38] _) (fr_says (b := m69) e69) (by first | decide | simp) (by decide)) ((hk _ _ h).2.2.1 _ _ _ _ _ _ _ _ rfl) (fun _ z => z) (fun _ z => z)
          · exact gFr_t (gFr_t (gFr_r [722] [13, 38] _) (fr_says (b := m69) e69) (by first | decide | simp) (by decide)) ((hk _ _ h).2.1 _ _ _ _ _ _ _ rfl) (fun _ z => z) (fun _ z => z)
    · rcases gI_or h with h | h
      · obtain ⟨r43, e43, h⟩ := gI_bd h
        exact gFr_t (gFr_r [722] [13, 38] _) ((hk _ _ h).1 _ _ _ _ _ _ rfl) (fun _ z => z) (fun _ z => z)
      · exact gFr_t (gFr_r [722] [13, 38] _) ((hk _ _ h).1 _ _ _ _ _ _ rfl) (fun _ z => z) (fun _ z => z)
  · rintro x1 x2 x3 x4 x5 x6 M rfl
    rw [sk_carriesMention_105] at h
    rcases gI_or h with h | h
    · rcases gI_or h with h | h
      · exact gFr_t (gFr_r [722] [13, 38] _) ((hk _ _ h).2.2.1 _ _ _ _ _ _ _ _ rfl) (fun _ z => z) (fun _ z => z)
      · obtain ⟨g2, h⟩ := gI_gd h
        rcases gI_or h with h | h
        · exact gFr_t (gFr_r [722] [13, 38] _) ((hk _ _ h).2.2.1 _ _ _ _ _ _ _ _ rfl) (fun _ z => z) (fun _ z => z)
        · exact gFr_t (gFr_r [722] [13, 38] _) ((hk _ _ h).2.2.1 _ _ _ _ _ _ _ _ rfl) (fun _ z => z) (fun _ z => z)
    · exact gFr_t (gFr_r [722] [13, 38] _) ((hk _ _ h).2.2.1 _ _ _ _ _ _ _ _ rfl) (fun _ z => z) (fun _ z => z)
  · rintro x1 x2 x3 x4 x5 x6 s0 M rfl
    rw [sk_carriesMention_135] at h
    rcases gI_or h with h | h
    · rcases gI_or h with h | h
      · exact gFr_t (gFr_r [722] [13, 38] _) ((hk _ _ h).2.2.2 _ _ _ _ _ _ _ _ _ rfl) (fun _ z => z) (fun _ z => z)
      · obtain ⟨r172, e172, h⟩ := gI_bd h
        obtain ⟨m175, e175, h⟩ := gI_bd h
        exact gFr_t (gFr_t (gFr_r [722] [13, 38] _) (fr_saysNumber (b := m175) e175) (by first | decide | simp) (by decide)) ((hk _ _ h).2.2.2 _ _ _ _ _ _ _ _ _ rfl) (fun _ z => z) (fun _ z => z)
    · obtain ⟨r146, e146, h⟩ := gI_bd h
      rcases gI_or h with h | h
      · obtain ⟨m156, e156, h⟩ := gI_bd h
        exact gFr_t (gFr_t (gFr_r [722] [13, 38] _) (fr_says (b := m156) e156) (by first | decide | simp) (by decide)) ((hk _ _ h).2.2.2 _ _ _ _ _ _ _ _ _ rfl) (fun _ z => z) (fun _ z => z)
      · rcases gI_or h with h | h
        · exact gFr_t (gFr_r [722] [13, 38] _) ((hk _ _ h).2.2.2 _ _ _ _ _ _ _ _ _ rfl) (fun _ z => z) (fun _ z => z)
        · obtain ⟨r172, e172, h⟩ := gI_bd h
          obtain ⟨m175, e175, h⟩ := gI_bd h
          exact gFr_t (gFr_t (gFr_r [722] [13, 38] _) (fr_saysNumber (b := m175) e175) (by first | decide | simp) (by decide)) ((hk _ _ h).2.2.2 _ _ _ _ _ _ _ _ _ rfl) (fun _ z => z) (fun _ z => z)
  · rintro x1 x2 x3 x4 x5 x6 x7 x8 M rfl
    rw [sk_carriesMention_181] at h
    rcases gI_or h with h | h
    · rcases gI_or h with h | h
      · obtain ⟨r198, e198, h⟩ := gI_bd h
        obtain ⟨m201, e201, h⟩ := gI_bd h
        exact gFr_t (gFr_t (gFr_r [722] [13, 38] _) (fr_says (b := m201) e201) (by first | decide | simp) (by decide)) ((hk _ _ h).2.2.2 _ _ _ _ _ _ _ _ _ rfl) (fun _ z => z) (fun _ z => z)
      · rw [← Option.some.inj h]
        exact (gFr_f (gFr_r [722] [13, 38] _) (.tail _ (.head _)))
    · rw [← Option.some.inj h]
      exact (gFr_f (gFr_r [722] [13, 38] _) (.tail _ (.head _)))
theorem fr_carriesMention_13 {M : gM} {x1 x2 x3 x4 x5 : Int} {b : gM} (h : F_carriesMention_13 M x1 x2 x3 x4 x5 = some b) : gFr [722] [13, 38] M b :=
  (frp_carriesMention _ _ h).1 _ _ _ _ _ _ rfl
theorem fr_carriesMention_105 {M : gM} {x1 x2 x3 x4 x5 x6 : Int} {b : gM} (h : F_carriesMention_105 M x1 x2 x3 x4 x5 x6 = some b) : gFr [722] [13, 38] M b :=
  (frp_carriesMention _ _ h).2.1 _ _ _ _ _ _ _ rfl
theorem fr_carriesMention_135 {M : gM} {x1 x2 x3 x4 x5 x6 s0 : Int} {b : gM} (h : F_carriesMention_135 M x1 x2 x3 x4 x5 x6 s0 = some b) : gFr [722] [13, 38] M b :=
  (frp_carriesMention _ _ h).2.2.1 _ _ _ _ _ _ _ _ rfl
theorem fr_carriesMention_181 {M : gM} {x1 x2 x3 x4 x5 x6 x7 x8 : Int} {b : gM} (h : F_carriesMention_181 M x1 x2 x3 x4 x5 x6 x7 x8 = some b) : gFr [722] [13, 38] M b :=
  (frp_carriesMention _ _ h).2.2.2 _ _ _ _ _ _ _ _ _ rfl
theorem fr_carriesMention {M : gM} {a1 a2 : Int} {b : gM} (h : F_carriesMention M a1 a2 = some b) : gFr [722] [13, 38] M b := by
  rw [eq_carriesMention] at h
  exact gFr_t (gFr_r [722] [13, 38] _) (fr_carriesMention_13 h) (fun _ z => z) (fun _ z => z)
theorem okp_carriesMention {sh : gS} : ∀ (s : Nat × List Int × gM) (b : gM), gWh (st_carriesMention) s = some b → (∀ (x1 x2 x3 x4 x5 : Int) (M : gM), s = (0, [x1, x2, x3, x4, x5], M) → gOK sh M → gA (gr 2 42) yX12_carriesMention cX12_carriesMention 9 none (gPq sh none b) (0, 0) 13 [(4, 711), (0, x1), (0, x2), (0, x3), (0, x4), (0, x5), (9, 0), (9, 0), (9, 0)] [] sh M) ∧ (∀ (x1 x2 x3 x4 x5 x6 : Int) (M : gM), s = (1, [x1, x2, x3, x4, x5, x6], M) → gOK sh M → gA (gr 2 42) yX12_carriesMention cX12_carriesMention 9 none (gPq sh none b) (0, 0) 105 [(4, 711), (0, x1), (0, x2), (0, x3), (0, x4), (0, x5), (0, x6), (9, 0), (9, 0)] [] sh M) ∧ (∀ (x1 x2 x3 x4 x5 x6 s0 : Int) (M : gM), s = (2, [x1, x2, x3, x4, x5, x6, s0], M) → gOK sh M → gA (gr 2 42) yX12_carriesMention cX12_carriesMention 9 none (gPq sh none b) (0, 0) 135 [(4, 711), (0, x1), (0, x2), (0, x3), (0, x4), (0, x5), (0, x6), (9, 0), (9, 0)] [(0, s0)] sh M) ∧ (∀ (x1 x2 x3 x4 x5 x6 x7 x8 : Int) (M : gM), s = (3, [x1, x2, x3, x4, x5, x6, x7, x8], M) → gOK sh M → gA (gr 2 42) yX12_carriesMention cX12_carriesMention 9 none (gPq sh none b) (0, 0) 181 [(4, 711), (0, x1), (0, x2), (0, x3), (0, x4), (0, x5), (0, x6), (0, x7), (0, x8)] [] sh M) := by
  refine gWh_ind (fun k hk s b h => ⟨?_, ?_, ?_, ?_⟩)
  · rintro x1 x2 x3 x4 x5 M rfl hOK
    rw [sk_carriesMention_13] at h
    refine g_aload_n (q0 := 14) (j := 0) rfl dX12_carriesMention_13 rfl ?_
    refine g_iload_n (q0 := 15) (j := 2) rfl dX12_carriesMention_14 rfl ?_
    refine g_iload (q0 := 17) (j := 4) rfl dX12_carriesMention_15 rfl ?_
    obtain ⟨r17, e17, h⟩ := gI_bd h
    refine g_callVq1 (as := [_, _]) (rest := []) mt_X12_saidAt mi_X12_saidAt se_X12_saidAt ml_X12_540 dX12_carriesMention_17 (q0 := 20) rfl rfl (sh_711 hOK) rfl rfl (ok_saidAt hOK e17) rfl ⟨by decide, by decide⟩ (Nat.le_of_ble_eq_true rfl) ⟨Nat.zero_le _, Nat.zero_le _⟩ ?_
    obtain ⟨r20, e20, h⟩ := gI_bd h
    refine g_callSq1 (as := [_]) (rest := []) mt_X12_isDigit ms_X12_isDigit ml_X12_272 dX12_carriesMention_20 (q0 := 23) rfl rfl (ok_isDigit hOK e20) rfl ⟨by decide, by decide⟩ (Nat.le_of_ble_eq_true rfl) ⟨Nat.zero_le _, Nat.zero_le _⟩ ?_
    refine g_if_eq (q0 := 26) (tgt := 66) rfl dX12_carriesMention_23 (by decide) (fun h23 => ?_) (fun h23 => ?_)
    · replace h := gI_pos h23 h
      refine g_aload_n (q0 := 67) (j := 0) rfl dX12_carriesMention_66 rfl ?_
      refine g_bipush (q0 := 69) rfl dX12_carriesMention_67 (k := ?_)
      obtain ⟨m69, e69, h⟩ := gI_bd h
      refine g_callVq0 (as := [_]) (rest := []) mt_X12_says mi_X12_says se_X12_says ml_X12_534 dX12_carriesMention_69 (q0 := 72) rfl rfl (sh_711 hOK) rfl rfl (ok_says hOK e69) rfl ⟨by decide, by decide⟩ (Nat.le_of_ble_eq_true rfl) ⟨Nat.zero_le _, Nat.zero_le _⟩ ?_
      have hOK1 : gOK sh m69 := gOK_fr hOK (fr_says (b := m69) e69) (by first | decide | (intro a ha; simp only [List.mem_cons, List.not_mem_nil, or_false] at ha; omega)) (by decide)
      refine g_iload (q0 := 74) (j := 4) rfl dX12_carriesMention_72 rfl ?_
      refine g_iload_n (q0 := 75) (j := 3) rfl dX12_carriesMention_74 rfl ?_
      refine g_isubw (q0 := 76) rfl dX12_carriesMention_75 ?_
      refine g_istore (q0 := 78) (j := 6) (lv2 := [_, _, _, _, _, _, _, _, _]) rfl dX12_carriesMention_76 (by decide) rfl rfl ?_
      refine g_iload (q0 := 80) (j := 6) rfl dX12_carriesMention_78 rfl ?_
      refine g_iconst (q0 := 81) rfl dX12_carriesMention_80 (k := ?_)
      refine g_iconst (q0 := 82) rfl dX12_carriesMention_81 (k := ?_)
      obtain ⟨r82, e82, h⟩ := gI_bd h
      refine g_callSq1 (as := [_, _, _]) (rest := []) mt_X12_in ms_X12_in ml_X12_182 dX12_carriesMention_82 (q0 := 85) rfl rfl (ok_in hOK1 e82) rfl ⟨by decide, by decide⟩ (Nat.le_of_ble_eq_true rfl) ⟨Nat.zero_le _, Nat.zero_le _⟩ ?_
      refine g_if_eq (q0 := 88) (tgt := 134) rfl dX12_carriesMention_85 (by decide) (fun h85 => ?_) (fun h85 => ?_)
      · replace h := gI_pos h85 h
        refine g_iconst (q0 := 135) rfl dX12_carriesMention_134 (k := ?_)
        exact (hk _ _ h).2.2.1 _ _ _ _ _ _ _ _ rfl hOK1
      · replace h := gI_neg h85 h
        refine g_iload (q0 := 90) (j := 6) rfl dX12_carriesMention_88 rfl ?_
        refine g_iconst (q0 := 91) rfl dX12_carriesMention_90 (k := ?_)
        refine g_icmp_eq (q0 := 94) (tgt := 105) rfl dX12_carriesMention_91 (by decide) (fun h91 => ?_) (fun h91 => ?_)
        · replace h := gI_pos h91 h
          exact (hk _ _ h).2.1 _ _ _ _ _ _ _ rfl hOK1
        · replace h := gI_neg h91 h
          refine g_aload_n (q0 := 95) (j := 0) rfl dX12_carriesMention_94 rfl ?_
          refine g_iload_n (q0 := 96) (j := 2) rfl dX12_carriesMention_95 rfl ?_
          refine g_iload_n (q0 := 97) (j := 3) rfl dX12_carriesMention_96 rfl ?_
          obtain ⟨r97, e97, h⟩ := gI_bd h
          refine g_callVq1 (as := [_, _]) (rest := []) mt_X12_saidAt mi_X12_saidAt se_X12_saidAt ml_X12_540 dX12_carriesMention_97 (q0 := 100) rfl rfl (sh_711 hOK1) rfl rfl (ok_saidAt hOK1 e97) rfl ⟨by decide, by decide⟩ (Nat.le_of_ble_eq_true rfl) ⟨Nat.zero_le _, Nat.zero_le _⟩ ?_
          refine g_bipush (q0 := 102) rfl dX12_carriesMention_100 (k := ?_)
          refine g_icmp_eq (q0 := 105) (tgt := 134) rfl dX12_carriesMention_102 (by decide) (fun h102 => ?_) (fun h102 => ?_)
          · replace h := gI_pos h102 h
            refine g_iconst (q0 := 135) rfl dX12_carriesMention_134 (k := ?_)
            exact (hk _ _ h).2.2.1 _ _ _ _ _ _ _ _ rfl hOK1
          · replace h := gI_neg h102 h
            exact (hk _ _ h).2.1 _ _ _ _ _ _ _ rfl hOK1
    · replace h := gI_neg h23 h
      refine g_iload (q0 := 28) (j := 4) rfl dX12_carriesMention_26 rfl ?_
      refine g_iload_n (q0 := 29) (j := 3) rfl dX12_carriesMention_28 rfl ?_
      refine g_isubw (q0 := 30) rfl dX12_carriesMention_29 ?_
      refine g_iconst (q0 := 31) rfl dX12_carriesMention_30 (k := ?_)
      refine g_icmp_ge (q0 := 34) (tgt := 53) rfl dX12_carriesMention_31 (by decide) (fun h31 => ?_) (fun h31 => ?_)
      · replace h := gI_neg (Int.not_lt.mpr h31) h
        refine g_iload (q0 := 55) (j := 5) rfl dX12_carriesMention_53 rfl ?_
        refine g_istore (q0 := 57) (j := 5) (lv2 := [_, _, _, _, _, _, _, _, _]) rfl dX12_carriesMention_55 (by decide) rfl rfl ?_
        refine g_iload (q0 := 59) (j := 4) rfl dX12_carriesMention_57 rfl ?_
        refine g_iconst (q0 := 60) rfl dX12_carriesMention_59 (k := ?_)
        refine g_iaddw (q0 := 61) rfl dX12_carriesMention_60 ?_
        refine g_istore (q0 := 63) (j := 4) (lv2 := [_, _, _, _, _, _, _, _, _]) rfl dX12_carriesMention_61 (by decide) rfl rfl ?_
        refine g_goto (tgt := 13) dX12_carriesMention_63 (by decide) ?_
        exact (hk _ _ h).1 _ _ _ _ _ _ rfl hOK
      · replace h := gI_pos h31 h
        refine g_bipush (q0 := 36) rfl dX12_carriesMention_34 (k := ?_)
        refine g_iload (q0 := 38) (j := 5) rfl dX12_carriesMention_36 rfl ?_
        refine g_imulw (q0 := 39) rfl dX12_carriesMention_38 ?_
        refine g_aload_n (q0 := 40) (j := 0) rfl dX12_carriesMention_39 rfl ?_
        refine g_iload_n (q0 := 41) (j := 2) rfl dX12_carriesMention_40 rfl ?_
        refine g_iload (q0 := 43) (j := 4) rfl dX12_carriesMention_41 rfl ?_
        obtain ⟨r43, e43, h⟩ := gI_bd h
        refine g_callVq1 (as := [_, _]) (rest := [_]) mt_X12_saidAt mi_X12_saidAt se_X12_saidAt ml_X12_540 dX12_carriesMention_43 (q0 := 46) rfl rfl (sh_711 hOK) rfl rfl (ok_saidAt hOK e43) rfl ⟨by decide, by decide⟩ (Nat.le_of_ble_eq_true rfl) ⟨Nat.zero_le _, Nat.zero_le _⟩ ?_
        refine g_iaddw (q0 := 47) rfl dX12_carriesMention_46 ?_
        refine g_bipush (q0 := 49) rfl dX12_carriesMention_47 (k := ?_)
        refine g_isubw (q0 := 50) rfl dX12_carriesMention_49 ?_
        refine g_goto (tgt := 55) dX12_carriesMention_50 (by decide) ?_
        refine g_istore (q0 := 57) (j := 5) (lv2 := [_, _, _, _, _, _, _, _, _]) rfl dX12_carriesMention_55 (by decide) rfl rfl ?_
        refine g_iload (q0 := 59) (j := 4) rfl dX12_carriesMention_57 rfl ?_
        refine g_iconst (q0 := 60) rfl dX12_carriesMention_59 (k := ?_)
        refine g_iaddw (q0 := 61) rfl dX12_carriesMention_60 ?_
        refine g_istore (q0 := 63) (j := 4) (lv2 := [_, _, _, _, _, _, _, _, _]) rfl dX12_carriesMention_61 (by decide) rfl rfl ?_
        refine g_goto (tgt := 13) dX12_carriesMention_63 (by decide) ?_
        exact (hk _ _ h).1 _ _ _ _ _ _ rfl hOK
  · rintro x1 x2 x3 x4 x5 x6 M rfl hOK
    rw [sk_carriesMention_105] at h
    refine g_iload (q0 := 107) (j := 5) rfl dX12_carriesMention_105 rfl ?_
    refine g_aload_n (q0 := 108) (j := 0) rfl dX12_carriesMention_107 rfl ?_
    refine g_getf (q0 := 111) (t := 0) (fi := 0) rfl rfl ff_X12_178 dX12_carriesMention_108 rfl (sh_711 hOK) ?_
    refine g_icmp_ge (q0 := 114) (tgt := 134) rfl dX12_carriesMention_111 (by decide) (fun h111 => ?_) (fun h111 => ?_)
    · replace h := gI_neg (Int.not_lt.mpr h111) h
      refine g_iconst (q0 := 135) rfl dX12_carriesMention_134 (k := ?_)
      exact (hk _ _ h).2.2.1 _ _ _ _ _ _ _ _ rfl hOK
    · replace h := gI_pos h111 h
      refine g_iload (q0 := 116) (j := 5) rfl dX12_carriesMention_114 rfl ?_
      refine g_iload_n (q0 := 117) (j := 2) rfl dX12_carriesMention_116 rfl ?_
      refine g_icmp_eq (q0 := 120) (tgt := 134) rfl dX12_carriesMention_117 (by decide) (fun h117 => ?_) (fun h117 => ?_)
      · replace h := gI_pos h117 h
        refine g_iconst (q0 := 135) rfl dX12_carriesMention_134 (k := ?_)
        exact (hk _ _ h).2.2.1 _ _ _ _ _ _ _ _ rfl hOK
      · replace h := gI_neg h117 h
        refine g_aload_n (q0 := 121) (j := 0) rfl dX12_carriesMention_120 rfl ?_
        refine g_getp (q0 := 124) (b := 732) rfl ff_X12_72 dX12_carriesMention_121 rfl hOK (by decide) (sh_711 hOK) rfl (by decide) ?_
        refine g_iload (q0 := 126) (j := 5) rfl dX12_carriesMention_124 rfl ?_
        obtain ⟨g2, h⟩ := gI_gd h
        refine g_zald (q0 := 127) rfl dX12_carriesMention_126 (sh_732 hOK) g2.1 g2.2 ?_
        refine g_if_eq (q0 := 130) (tgt := 134) rfl dX12_carriesMention_127 (by decide) (fun h127 => ?_) (fun h127 => ?_)
        · replace h := gI_pos h127 h
          refine g_iconst (q0 := 135) rfl dX12_carriesMention_134 (k := ?_)
          exact (hk _ _ h).2.2.1 _ _ _ _ _ _ _ _ rfl hOK
        · replace h := gI_neg h127 h
          refine g_iconst (q0 := 131) rfl dX12_carriesMention_130 (k := ?_)
          refine g_goto (tgt := 135) dX12_carriesMention_131 (by decide) ?_
          exact (hk _ _ h).2.2.1 _ _ _ _ _ _ _ _ rfl hOK
  · rintro x1 x2 x3 x4 x5 x6 s0 M rfl hOK
    rw [sk_carriesMention_135] at h
    refine g_istore (q0 := 137) (j := 7) (lv2 := [_, _, _, _, _, _, _, _, _]) rfl dX12_carriesMention_135 (by decide) rfl rfl ?_
    refine g_iload (q0 := 139) (j := 7) rfl dX12_carriesMention_137 rfl ?_
    refine g_if_eq (q0 := 142) (tgt := 162) rfl dX12_carriesMention_139 (by decide) (fun h139 => ?_) (fun h139 => ?_)
    · replace h := gI_pos h139 h
      refine g_iload (q0 := 164) (j := 7) rfl dX12_carriesMention_162 rfl ?_
      refine g_if_eq (q0 := 167) (tgt := 178) rfl dX12_carriesMention_164 (by decide) (fun h164 => ?_) (fun h164 => ?_)
      · replace h := gI_pos h164 h
        refine g_iload_n (q0 := 179) (j := 3) rfl dX12_carriesMention_178 rfl ?_
        refine g_istore (q0 := 181) (j := 8) (lv2 := [_, _, _, _, _, _, _, _, _]) rfl dX12_carriesMention_179 (by decide) rfl rfl ?_
        exact (hk _ _ h).2.2.2 _ _ _ _ _ _ _ _ _ rfl hOK
      · replace h := gI_neg h164 h
        refine g_aload_n (q0 := 168) (j := 0) rfl dX12_carriesMention_167 rfl ?_
        refine g_aload_n (q0 := 169) (j := 0) rfl dX12_carriesMention_168 rfl ?_
        refine g_iload_n (q0 := 170) (j := 1) rfl dX12_carriesMention_169 rfl ?_
        refine g_iload (q0 := 172) (j := 5) rfl dX12_carriesMention_170 rfl ?_
        obtain ⟨r172, e172, h⟩ := gI_bd h
        refine g_callVq1 (as := [_, _]) (rest := [_]) mt_X12_imageAt mi_X12_imageAt se_X12_imageAt ml_X12_513 dX12_carriesMention_172 (q0 := 175) rfl rfl (sh_711 hOK) rfl rfl (ok_imageAt hOK e172) rfl ⟨by decide, by decide⟩ (Nat.le_of_ble_eq_true rfl) ⟨Nat.zero_le _, Nat.zero_le _⟩ ?_
        obtain ⟨m175, e175, h⟩ := gI_bd h
        refine g_callVq0 (as := [_]) (rest := []) mt_X12_saysNumber mi_X12_saysNumber se_X12_saysNumber ml_X12_543 dX12_carriesMention_175 (q0 := 178) rfl rfl (sh_711 hOK) rfl rfl (ok_saysNumber hOK e175) rfl ⟨by decide, by decide⟩ (Nat.le_of_ble_eq_true rfl) ⟨Nat.zero_le _, Nat.zero_le _⟩ ?_
        have hOK3 : gOK sh m175 := gOK_fr hOK (fr_saysNumber (b := m175) e175) (by first | decide | (intro a ha; simp only [List.mem_cons, List.not_mem_nil, or_false] at ha; omega)) (by decide)
        refine g_iload_n (q0 := 179) (j := 3) rfl dX12_carriesMention_178 rfl ?_
        refine g_istore (q0 := 181) (j := 8) (lv2 := [_, _, _, _, _, _, _, _, _]) rfl dX12_carriesMention_179 (by decide) rfl rfl ?_
        exact (hk _ _ h).2.2.2 _ _ _ _ _ _ _ _ _ rfl hOK3
    · replace h := gI_neg h139 h
      refine g_aload_n (q0 := 143) (j := 0) rfl dX12_carriesMention_142 rfl ?_
      refine g_iload_n (q0 := 144) (j := 1) rfl dX12_carriesMention_143 rfl ?_
      refine g_iload (q0 := 146) (j := 5) rfl dX12_carriesMention_144 rfl ?_
      obtain ⟨r146, e146, h⟩ := gI_bd h
      refine g_callVq1 (as := [_, _]) (rest := []) mt_X12_imageAt mi_X12_imageAt se_X12_imageAt ml_X12_513 dX12_carriesMention_146 (q0 := 149) rfl rfl (sh_711 hOK) rfl rfl (ok_imageAt hOK e146) rfl ⟨by decide, by decide⟩ (Nat.le_of_ble_eq_true rfl) ⟨Nat.zero_le _, Nat.zero_le _⟩ ?_
      refine g_iconst (q0 := 150) rfl dX12_carriesMention_149 (k := ?_)
      refine g_icmp_ne (q0 := 153) (tgt := 162) rfl dX12_carriesMention_150 (by decide) (fun h150 => ?_) (fun h150 => ?_)
      · replace h := gI_neg h150 h
        refine g_iload (q0 := 164) (j := 7) rfl dX12_carriesMention_162 rfl ?_
        refine g_if_eq (q0 := 167) (tgt := 178) rfl dX12_carriesMention_164 (by decide) (fun h164 => ?_) (fun h164 => ?_)
        · replace h := gI_pos h164 h
          refine g_iload_n (q0 := 179) (j := 3) rfl dX12_carriesMention_178 rfl ?_
          refine g_istore (q0 := 181) (j := 8) (lv2 := [_, _, _, _, _, _, _, _, _]) rfl dX12_carriesMention_179 (by decide) rfl rfl ?_
          exact (hk _ _ h).2.2.2 _ _ _ _ _ _ _ _ _ rfl hOK
        · replace h := gI_neg h164 h
          refine g_aload_n (q0 := 168) (j := 0) rfl dX12_carriesMention_167 rfl ?_
          refine g_aload_n (q0 := 169) (j := 0) rfl dX12_carriesMention_168 rfl ?_
          refine g_iload_n (q0 := 170) (j := 1) rfl dX12_carriesMention_169 rfl ?_
          refine g_iload (q0 := 172) (j := 5) rfl dX12_carriesMention_170 rfl ?_
          obtain ⟨r172, e172, h⟩ := gI_bd h
          refine g_callVq1 (as := [_, _]) (rest := [_]) mt_X12_imageAt mi_X12_imageAt se_X12_imageAt ml_X12_513 dX12_carriesMention_172 (q0 := 175) rfl rfl (sh_711 hOK) rfl rfl (ok_imageAt hOK e172) rfl ⟨by decide, by decide⟩ (Nat.le_of_ble_eq_true rfl) ⟨Nat.zero_le _, Nat.zero_le _⟩ ?_
          obtain ⟨m175, e175, h⟩ := gI_bd h
          refine g_callVq0 (as := [_]) (rest := []) mt_X12_saysNumber mi_X12_saysNumber se_X12_saysNumber ml_X12_543 dX12_carriesMention_175 (q0 := 178) rfl rfl (sh_711 hOK) rfl rfl (ok_saysNumber hOK e175) rfl ⟨by decide, by decide⟩ (Nat.le_of_ble_eq_true rfl) ⟨Nat.zero_le _, Nat.zero_le _⟩ ?_
          have hOK4 : gOK sh m175 := gOK_fr hOK (fr_saysNumber (b := m175) e175) (by first | decide | (intro a ha; simp only [List.mem_cons, List.not_mem_nil, or_false] at ha; omega)) (by decide)
          refine g_iload_n (q0 := 179) (j := 3) rfl dX12_carriesMention_178 rfl ?_
          refine g_istore (q0 := 181) (j := 8) (lv2 := [_, _, _, _, _, _, _, _, _]) rfl dX12_carriesMention_179 (by decide) rfl rfl ?_
          exact (hk _ _ h).2.2.2 _ _ _ _ _ _ _ _ _ rfl hOK4
      · replace h := gI_pos h150 h
        refine g_aload_n (q0 := 154) (j := 0) rfl dX12_carriesMention_153 rfl ?_
        refine g_bipush (q0 := 156) rfl dX12_carriesMention_154 (k := ?_)
        obtain ⟨m156, e156, h⟩ := gI_bd h
        refine g_callVq0 (as := [_]) (rest := []) mt_X12_says mi_X12_says se_X12_says ml_X12_534 dX12_carriesMention_156 (q0 := 159) rfl rfl (sh_711 hOK) rfl rfl (ok_says hOK e156) rfl ⟨by decide, by decide⟩ (Nat.le_of_ble_eq_true rfl) ⟨Nat.zero_le _, Nat.zero_le _⟩ ?_
        have hOK5 : gOK sh m156 := gOK_fr hOK (fr_says (b := m156) e156) (by first | decide | (intro a ha; simp only [List.mem_cons, List.not_mem_nil, or_false] at ha; omega)) (by decide)
        refine g_goto (tgt := 178) dX12_carriesMention_159 (by decide) ?_
        refine g_iload_n (q0 := 179) (j := 3) rfl dX12_carriesMention_178 rfl ?_
        refine g_istore (q0 := 181) (j := 8) (lv2 := [_, _, _, _, _, _, _, _, _]) rfl dX12_carriesMention_179 (by decide) rfl rfl ?_
        exact (hk _ _ h).2.2.2 _ _ _ _ _ _ _ _ _ rfl hOK5
  · rintro x1 x2 x3 x4 x5 x6 x7 x8 M rfl hOK
    rw [sk_carriesMention_181] at h
    refine g_iload (q0 := 183) (j := 8) rfl dX12_carriesMention_181 rfl ?_
    refine g_iload (q0 := 185) (j := 4) rfl dX12_carriesMention_183 rfl ?_
    refine g_icmp_ge (q0 := 188) (tgt := 210) rfl dX12_carriesMention_185 (by decide) (fun h185 => ?_) (fun h185 => ?_)
    · replace h := gI_neg (Int.not_lt.mpr h185) h
      refine g_aload_n (q0 := 211) (j := 0) rfl dX12_carriesMention_210 rfl ?_
      refine g_iload (q0 := 213) (j := 4) rfl dX12_carriesMention_211 rfl ?_
      refine g_put (q0 := 216) (t := 0) (fi := 38) rfl rfl ff_X12_537 dX12_carriesMention_213 rfl (sh_711 hOK) rfl (fun _ => ⟨rfl, rfl⟩) ?_
      have hOK6 : gOK sh (gU M 711 38 x4) := gOK_o hOK (sh_711 hOK) (f := 38) rfl rfl
      rw [← Option.some.inj h]
      refine g_return dX12_carriesMention_216 rfl ⟨Nat.zero_le _, Nat.zero_le _⟩ ?_
      exact ⟨rfl, rfl, rfl⟩
    · replace h := gI_pos h185 h
      refine g_iload (q0 := 190) (j := 7) rfl dX12_carriesMention_188 rfl ?_
      refine g_if_ne (q0 := 193) (tgt := 210) rfl dX12_carriesMention_190 (by decide) (fun h190 => ?_) (fun h190 => ?_)
      · replace h := gI_neg h190 h
        refine g_aload_n (q0 := 211) (j := 0) rfl dX12_carriesMention_210 rfl ?_
        refine g_iload (q0 := 213) (j := 4) rfl dX12_carriesMention_211 rfl ?_
        refine g_put (q0 := 216) (t := 0) (fi := 38) rfl rfl ff_X12_537 dX12_carriesMention_213 rfl (sh_711 hOK) rfl (fun _ => ⟨rfl, rfl⟩) ?_
        have hOK7 : gOK sh (gU M 711 38 x4) := gOK_o hOK (sh_711 hOK) (f := 38) rfl rfl
        rw [← Option.some.inj h]
        refine g_return dX12_carriesMention_216 rfl ⟨Nat.zero_le _, Nat.zero_le _⟩ ?_
        exact ⟨rfl, rfl, rfl⟩
      · replace h := gI_pos h190 h
        refine g_aload_n (q0 := 194) (j := 0) rfl dX12_carriesMention_193 rfl ?_
        refine g_aload_n (q0 := 195) (j := 0) rfl dX12_carriesMention_194 rfl ?_
        refine g_iload_n (q0 := 196) (j := 2) rfl dX12_carriesMention_195 rfl ?_
        refine g_iload (q0 := 198) (j := 8) rfl dX12_carriesMention_196 rfl ?_
        obtain ⟨r198, e198, h⟩ := gI_bd h
        refine g_callVq1 (as := [_, _]) (rest := [_]) mt_X12_saidAt mi_X12_saidAt se_X12_saidAt ml_X12_540 dX12_carriesMention_198 (q0 := 201) rfl rfl (sh_711 hOK) rfl rfl (ok_saidAt hOK e198) rfl ⟨by decide, by decide⟩ (Nat.le_of_ble_eq_true rfl) ⟨Nat.zero_le _, Nat.zero_le _⟩ ?_
        obtain ⟨m201, e201, h⟩ := gI_bd h
        refine g_callVq0 (as := [_]) (rest := []) mt_X12_says mi_X12_says se_X12_says ml_X12_534 dX12_carriesMention_201 (q0 := 204) rfl rfl (sh_711 hOK) rfl rfl (ok_says hOK e201) rfl ⟨by decide, by decide⟩ (Nat.le_of_ble_eq_true rfl) ⟨Nat.zero_le _, Nat.zero_le _⟩ ?_
        have hOK8 : gOK sh m201 := gOK_fr hOK (fr_says (b := m201) e201) (by first | decide | (intro a ha; simp only [List.mem_cons, List.not_mem_nil, or_false] at ha; omega)) (by decide)
        refine g_iincw (q0 := 207) (lv2 := [_, _, _, _, _, _, _, _, _]) rfl dX12_carriesMention_204 rfl (by decide) rfl rfl ?_
        refine g_goto (tgt := 181) dX12_carriesMention_207 (by decide) ?_
        exact (hk _ _ h).2.2.2 _ _ _ _ _ _ _ _ _ rfl hOK8
theorem ok_carriesMention_13 {sh : gS} {M : gM} {x1 x2 x3 x4 x5 : Int} {b : gM} (hOK : gOK sh M) (h : F_carriesMention_13 M x1 x2 x3 x4 x5 = some b) : gA (gr 2 42) yX12_carriesMention cX12_carriesMention 9 none (gPq sh none b) (0, 0) 13 [(4, 711), (0, x1), (0, x2), (0, x3), (0, x4), (0, x5), (9, 0), (9, 0), (9, 0)] [] sh M :=
  (okp_carriesMention _ _ h).1 _ _ _ _ _ _ rfl hOK
theorem ok_carriesMention_105 {sh : gS} {M : gM} {x1 x2 x3 x4 x5 x6 : Int} {b : gM} (hOK : gOK sh M) (h : F_carriesMention_105 M x1 x2 x3 x4 x5 x6 = some b) : gA (gr 2 42) yX12_carriesMention cX12_carriesMention 9 none (gPq sh none b) (0, 0) 105 [(4, 711), (0, x1), (0, x2), (0, x3), (0, x4), (0, x5), (0, x6), (9, 0), (9, 0)] [] sh M :=
  (okp_carriesMention _ _ h).2.1 _ _ _ _ _ _ _ rfl hOK
theorem ok_carriesMention_135 {sh : gS} {M : gM} {x1 x2 x3 x4 x5 x6 s0 : Int} {b : gM} (hOK : gOK sh M) (h : F_carriesMention_135 M x1 x2 x3 x4 x5 x6 s0 = some b) : gA (gr 2 42) yX12_carriesMention cX12_carriesMention 9 none (gPq sh none b) (0, 0) 135 [(4, 711), (0, x1), (0, x2), (0, x3), (0, x4), (0, x5), (0, x6), (9, 0), (9, 0)] [(0, s0)] sh M :=
  (okp_carriesMention _ _ h).2.2.1 _ _ _ _ _ _ _ _ rfl hOK
theorem ok_carriesMention_181 {sh : gS} {M : gM} {x1 x2 x3 x4 x5 x6 x7 x8 : Int} {b : gM} (hOK : gOK sh M) (h : F_carriesMention_181 M x1 x2 x3 x4 x5 x6 x7 x8 = some b) : gA (gr 2 42) yX12_carriesMention cX12_carriesMention 9 none (gPq sh none b) (0, 0) 181 [(4, 711), (0, x1), (0, x2), (0, x3), (0, x4), (0, x5), (0, x6), (0, x7), (0, x8)] [] sh M :=
  (okp_carriesMention _ _ h).2.2.2 _ _ _ _ _ _ _ _ _ rfl hOK
theorem ok_carriesMention {sh : gS} {M : gM} {a1 a2 : Int} {b : gM} (hOK : gOK sh M) (h : F_carriesMention M a1 a2 = some b) : gC (gr 2 42) yX12_carriesMention cX12_carriesMention 9 none [(4, 711), (0, a1), (0, a2)] sh M (gPq sh none b) := by
  rw [eq_carriesMention] at h
  refine gC_ofA (lv := [_, _, _, _, _, _, _, _, _]) (by decide +kernel) (Nat.le_of_ble_eq_true rfl) rfl (fun hMw hav => ?_)
  refine g_aload_n (q0 := 1) (j := 0) rfl dX12_carriesMention_0 rfl ?_
  refine g_getf (q0 := 4) (t := 0) (fi := 38) rfl rfl ff_X12_537 dX12_carriesMention_1 rfl (sh_711 hOK) ?_
  refine g_iconst (q0 := 5) rfl dX12_carriesMention_4 (k := ?_)
  refine g_iaddw (q0 := 6) rfl dX12_carriesMention_5 ?_
  refine g_istore_n (q0 := 7) (j := 3) (lv2 := [_, _, _, _, _, _, _, _, _]) rfl dX12_carriesMention_6 (by decide) rfl rfl ?_
  refine g_iload_n (q0 := 8) (j := 3) rfl dX12_carriesMention_7 rfl ?_
  refine g_istore (q0 := 10) (j := 4) (lv2 := [_, _, _, _, _, _, _, _, _]) rfl dX12_carriesMention_8 (by decide) rfl rfl ?_
  refine g_iconst (q0 := 11) rfl dX12_carriesMention_10 (k := ?_)
  refine g_istore (q0 := 13) (j := 5) (lv2 := [_, _, _, _, _, _, _, _, _]) rfl dX12_carriesMention_11 (by decide) rfl rfl ?_
  exact ok_carriesMention_13 hOK h
-- ==== saysLetters
theorem dX12_saysLetters_0 : decode cX12_saysLetters 0 = .ok (.iconst 1, 1) := by decide +kernel
theorem dX12_saysLetters_1 : decode cX12_saysLetters 1 = .ok (.istore_n 2, 1) := by decide +kernel
theorem dX12_saysLetters_2 : decode cX12_saysLetters 2 = .ok (.iload_n 1, 1) := by decide +kernel
theorem dX12_saysLetters_3 : decode cX12_saysLetters 3 = .ok (.iload_n 2, 1) := by decide +kernel
theorem dX12_saysLetters_4 : decode cX12_saysLetters 4 = .ok (.idiv, 1) := by decide +kernel
theorem dX12_saysLetters_5 : decode cX12_saysLetters 5 = .ok (.bipush 31, 2) := by decide +kernel
theorem dX12_saysLetters_7 : decode cX12_saysLetters 7 = .ok (.if_icmp .le 11, 3) := by decide +kernel
theorem dX12_saysLetters_10 : decode cX12_saysLetters 10 = .ok (.bipush 32, 2) := by decide +kernel
theorem dX12_saysLetters_12 : decode cX12_saysLetters 12 = .ok (.iload_n 2, 1) := by decide +kernel
theorem dX12_saysLetters_13 : decode cX12_saysLetters 13 = .ok (.imul, 1) := by decide +kernel
theorem dX12_saysLetters_14 : decode cX12_saysLetters 14 = .ok (.istore_n 2, 1) := by decide +kernel
theorem dX12_saysLetters_15 : decode cX12_saysLetters 15 = .ok (.goto (-13), 3) := by decide +kernel
theorem dX12_saysLetters_18 : decode cX12_saysLetters 18 = .ok (.iload_n 2, 1) := by decide +kernel
theorem dX12_saysLetters_19 : decode cX12_saysLetters 19 = .ok (.ifCond .le 24, 3) := by decide +kernel
theorem dX12_saysLetters_22 : decode cX12_saysLetters 22 = .ok (.aload_n 0, 1) := by decide +kernel
theorem dX12_saysLetters_23 : decode cX12_saysLetters 23 = .ok (.bipush 96, 2) := by decide +kernel
theorem dX12_saysLetters_25 : decode cX12_saysLetters 25 = .ok (.iload_n 1, 1) := by decide +kernel
theorem dX12_saysLetters_26 : decode cX12_saysLetters 26 = .ok (.iload_n 2, 1) := by decide +kernel
theorem dX12_saysLetters_27 : decode cX12_saysLetters 27 = .ok (.idiv, 1) := by decide +kernel
theorem dX12_saysLetters_28 : decode cX12_saysLetters 28 = .ok (.bipush 32, 2) := by decide +kernel
theorem dX12_saysLetters_30 : decode cX12_saysLetters 30 = .ok (.irem, 1) := by decide +kernel
theorem dX12_saysLetters_31 : decode cX12_saysLetters 31 = .ok (.iadd, 1) := by decide +kernel
theorem dX12_saysLetters_32 : decode cX12_saysLetters 32 = .ok (.invokevirtual 534, 3) := by decide +kernel
theorem dX12_saysLetters_35 : decode cX12_saysLetters 35 = .ok (.iload_n 2, 1) := by decide +kernel
theorem dX12_saysLetters_36 : decode cX12_saysLetters 36 = .ok (.bipush 32, 2) := by decide +kernel
theorem dX12_saysLetters_38 : decode cX12_saysLetters 38 = .ok (.idiv, 1) := by decide +kernel
theorem dX12_saysLetters_39 : decode cX12_saysLetters 39 = .ok (.istore_n 2, 1) := by decide +kernel
theorem dX12_saysLetters_40 : decode cX12_saysLetters 40 = .ok (.goto (-22), 3) := by decide +kernel
theorem dX12_saysLetters_43 : decode cX12_saysLetters 43 = .ok (.return_, 1) := by decide +kernel
noncomputable def st_saysLetters : Nat × List Int × gM → Option ((Nat × List Int × gM) ⊕ (gM))
  | (0, [x1, x2], M) => (if x2 ≠ 0 then
      (if (31 : Int) < (gdiv x1 x2) then
        some (.inl (0, [x1, (gw32 ((32 : Int) * x2))], M))
      else
        some (.inl (1, [x1, x2], M)))
    else none)
  | (1, [x1, x2], M) => (if (0 : Int) < x2 then
      (if x2 ≠ 0 then
        (Option.bind (F_says M (gw32 ((96 : Int) + (grem (gdiv x1 x2) 32)))) (fun m32 =>
          some (.inl (1, [x1, (gdiv x2 32)], m32))))
      else none)
    else
      some (.inr M))
  | _ => none
theorem sk_saysLetters_2 (k : Nat × List Int × gM → Option (gM)) (M : gM) (x1 x2 : Int) : gWk k (st_saysLetters (0, [x1, x2], M)) = (if x2 ≠ 0 then
    (if (31 : Int) < (gdiv x1 x2) then
      k (0, [x1, (gw32 ((32 : Int) * x2))], M)
    else
      k (1, [x1, x2], M))
  else none) := by
  simp only [st_saysLetters, gWk_ite, gWk_bind, gWk_inl, gWk_inr, gWk_none]
theorem sk_saysLetters_18 (k : Nat × List Int × gM → Option (gM)) (M : gM) (x1 x2 : Int) : gWk k (st_saysLetters (1, [x1, x2], M)) = (if (0 : Int) < x2 then
    (if x2 ≠ 0 then
      (Option.bind (F_says M (gw32 ((96 : Int) + (grem (gdiv x1 x2) 32)))) (fun m32 =>
        k (1, [x1, (gdiv x2 32)], m32)))
    else none)
  else
    some M) := by
  simp only [st_saysLetters, gWk_ite, gWk_bind, gWk_inl, gWk_inr, gWk_none]
noncomputable def F_saysLetters_2 (M : gM) (x1 x2 : Int) : Option (gM) := gWh (st_saysLetters) (0, [x1, x2], M)
noncomputable def F_saysLetters_18 (M : gM) (x1 x2 : Int) : Option (gM) := gWh (st_saysLetters) (1, [x1, x2], M)
theorem eq_saysLetters_2 (M : gM) (x1 x2 : Int) : F_saysLetters_2 M x1 x2 = (if x2 ≠ 0 then
    (if (31 : Int) < (gdiv x1 x2) then
      F_saysLetters_2 M x1 (gw32 ((32 : Int) * x2))
    else
      F_saysLetters_18 M x1 x2)
  else none) := (gWh_eq _).trans (sk_saysLetters_2 _ M x1 x2)
theorem eq_saysLetters_18 (M : gM) (x1 x2 : Int) : F_saysLetters_18 M x1 x2 = (if (0 : Int) < x2 then
    (if x2 ≠ 0 then
      (Option.bind (F_says M (gw32 ((96 : Int) + (grem (gdiv x1 x2) 32)))) (fun m32 =>
        F_saysLetters_18 m32 x1 (gdiv x2 32)))
    else none)
  else
    some M) := (gWh_eq _).trans (sk_saysLetters_18 _ M x1 x2)
noncomputable def F_saysLetters (M : gM) (a1 : Int) : Option (gM) := F_saysLetters_2 M a1 1
theorem eq_saysLetters (M : gM) (a1 : Int) : F_saysLetters M a1 = F_saysLetters_2 M a1 1 := rfl
theorem frp_saysLetters : ∀ (s : Nat × List Int × gM) (b : gM), gWh (st_saysLetters) s = some b → (∀ (x1 x2 : Int) (M : gM), s = (0, [x1, x2], M) → gFr [722] [13] M b) ∧ (∀ (x1 x2 : Int) (M : gM), s = (1, [x1, x2], M) → gFr [722] [13] M b) := by
  refine gWh_ind (fun k hk s b h => ⟨?_, ?_⟩)
  · rintro x1 x2 M rfl
    rw [sk_saysLetters_2] at h
    obtain ⟨g1, h⟩ := gI_gd h
    rcases gI_or h with h | h
    · exact gFr_t (gFr_r [722] [13] _) ((hk _ _ h).1 _ _ _ rfl) (fun _ z => z) (fun _ z => z)
    · exact gFr_t (gFr_r [722] [13] _) ((hk _ _ h).2 _ _ _ rfl) (fun _ z => z) (fun _ z => z)
  · rintro x1 x2 M rfl
    rw [sk_saysLetters_18] at h
    rcases gI_or h with h | h
    · obtain ⟨g2, h⟩ := gI_gd h
      obtain ⟨m32, e32, h⟩ := gI_bd h
      exact gFr_t (gFr_t (gFr_r [722] [13] _) (fr_says (b := m32) e32) (by first | decide | simp) (by decide)) ((hk _ _ h).2 _ _ _ rfl) (fun _ z => z) (fun _ z => z)
    · rw [← Option.some.inj h]
      exact (gFr_r [722] [13] _)
theorem fr_saysLetters_2 {M : gM} {x1 x2 : Int} {b : gM} (h : F_saysLetters_2 M x1 x2 = some b) : gFr [722] [13] M b :=
  (frp_saysLetters _ _ h).1 _ _ _ rfl
theorem fr_saysLetters_18 {M : gM} {x1 x2 : Int} {b : gM} (h : F_saysLetters_18 M x1 x2 = some b) : gFr [722] [13] M b :=
  (frp_saysLetters _ _ h).2 _ _ _ rfl
theorem fr_saysLetters {M : gM} {a1 : Int} {b : gM} (h : F_saysLetters M a1 = some b) : gFr [722] [13] M b := by
  rw [eq_saysLetters] at h
  exact gFr_t (gFr_r [722] [13] _) (fr_saysLetters_2 h) (fun _ z => z) (fun _ z => z)
theorem okp_saysLetters {sh : gS} : ∀ (s : Nat × List Int × gM) (b : gM), gWh (st_saysLetters) s = some b → (∀ (x1 x2 : Int) (M : gM), s = (0, [x1, x2], M) → gOK sh M → gA (gr 1 21) yX12_saysLetters cX12_saysLetters 3 none (gPq sh none b) (0, 0) 2 [(4, 711), (0, x1), (0, x2)] [] sh M) ∧ (∀ (x1 x2 : Int) (M : gM), s = (1, [x1, x2], M) → gOK sh M → gA (gr 1 21) yX12_saysLetters cX12_saysLetters 3 none (gPq sh none b) (0, 0) 18 [(4, 711), (0, x1), (0, x2)] [] sh M) := by
  refine gWh_ind (fun k hk s b h => ⟨?_, ?_⟩)
  · rintro x1 x2 M rfl hOK
    rw [sk_saysLetters_2] at h
    refine g_iload_n (q0 := 3) (j := 1) rfl dX12_saysLetters_2 rfl ?_
    refine g_iload_n (q0 := 4) (j := 2) rfl dX12_saysLetters_3 rfl ?_
    obtain ⟨g1, h⟩ := gI_gd h
    refine g_idiv (q0 := 5) rfl dX12_saysLetters_4 g1 ?_
    refine g_bipush (q0 := 7) rfl dX12_saysLetters_5 (k := ?_)
    refine g_icmp_le (q0 := 10) (tgt := 18) rfl dX12_saysLetters_7 (by decide) (fun h7 => ?_) (fun h7 => ?_)
    · replace h := gI_neg (Int.not_lt.mpr h7) h
      exact (hk _ _ h).2 _ _ _ rfl hOK
    · replace h := gI_pos h7 h
      refine g_bipush (q0 := 12) rfl dX12_saysLetters_10 (k := ?_)
      refine g_iload_n (q0 := 13) (j := 2) rfl dX12_saysLetters_12 rfl ?_
      refine g_imulw (q0 := 14) rfl dX12_saysLetters_13 ?_
      refine g_istore_n (q0 := 15) (j := 2) (lv2 := [_, _, _]) rfl dX12_saysLetters_14 (by decide) rfl rfl ?_
      refine g_goto (tgt := 2) dX12_saysLetters_15 (by decide) ?_
      exact (hk _ _ h).1 _ _ _ rfl hOK
  · rintro x1 x2 M rfl hOK
    rw [sk_saysLetters_18] at h
    refine g_iload_n (q0 := 19) (j := 2) rfl dX12_saysLetters_18 rfl ?_
    refine g_if_le (q0 := 22) (tgt := 43) rfl dX12_saysLetters_19 (by decide) (fun h19 => ?_) (fun h19 => ?_)
    · replace h := gI_neg (Int.not_lt.mpr h19) h
      rw [← Option.some.inj h]
      refine g_return dX12_saysLetters_43 rfl ⟨Nat.zero_le _, Nat.zero_le _⟩ ?_
      exact ⟨rfl, rfl, rfl⟩
    · replace h := gI_pos h19 h
      refine g_aload_n (q0 := 23) (j := 0) rfl dX12_saysLetters_22 rfl ?_
      refine g_bipush (q0 := 25) rfl dX12_saysLetters_23 (k := ?_)
      refine g_iload_n (q0 := 26) (j := 1) rfl dX12_saysLetters_25 rfl ?_
      refine g_iload_n (q0 := 27) (j := 2) rfl dX12_saysLetters_26 rfl ?_
      obtain ⟨g2, h⟩ := gI_gd h
      refine g_idiv (q0 := 28) rfl dX12_saysLetters_27 g2 ?_
      refine g_bipush (q0 := 30) rfl dX12_saysLetters_28 (k := ?_)
      refine g_irem (q0 := 31) rfl dX12_saysLetters_30 (by decide) ?_
      refine g_iaddw (q0 := 32) rfl dX12_saysLetters_31 ?_
      obtain ⟨m32, e32, h⟩ := gI_bd h
      refine g_callVq0 (as := [_]) (rest := []) mt_X12_says mi_X12_says se_X12_says ml_X12_534 dX12_saysLetters_32 (q0 := 35) rfl rfl (sh_711 hOK) rfl rfl (ok_says hOK e32) rfl ⟨by decide, by decide⟩ (Nat.le_of_ble_eq_true rfl) ⟨Nat.zero_le _, Nat.zero_le _⟩ ?_
      have hOK3 : gOK sh m32 := gOK_fr hOK (fr_says (b := m32) e32) (by first | decide | (intro a ha; simp only [List.mem_cons, List.not_mem_nil, or_false] at ha; omega)) (by decide)
      refine g_iload_n (q0 := 36) (j := 2) rfl dX12_saysLetters_35 rfl ?_
      refine g_bipush (q0 := 38) rfl dX12_saysLetters_36 (k := ?_)
      refine g_idiv (q0 := 39) rfl dX12_saysLetters_38 (by decide) ?_
      refine g_istore_n (q0 := 40) (j := 2) (lv2 := [_, _, _]) rfl dX12_saysLetters_39 (by decide) rfl rfl ?_
      refine g_goto (tgt := 18) dX12_saysLetters_40 (by decide) ?_
      exact (hk _ _ h).2 _ _ _ rfl hOK3
theorem ok_saysLetters_2 {sh : gS} {M : gM} {x1 x2 : Int} {b : gM} (hOK : gOK sh M) (h : F_saysLetters_2 M x1 x2 = some b) : gA (gr 1 21) yX12_saysLetters cX12_saysLetters 3 none (gPq sh none b) (0, 0) 2 [(4, 711), (0, x1), (0, x2)] [] sh M :=
  (okp_saysLetters _ _ h).1 _ _ _ rfl hOK
theorem ok_saysLetters_18 {sh : gS} {M : gM} {x1 x2 : Int} {b : gM} (hOK : gOK sh M) (h : F_saysLetters_18 M x1 x2 = some b) : gA (gr 1 21) yX12_saysLetters cX12_saysLetters 3 none (gPq sh none b) (0, 0) 18 [(4, 711), (0, x1), (0, x2)] [] sh M :=
  (okp_saysLetters _ _ h).2 _ _ _ rfl hOK
theorem ok_saysLetters {sh : gS} {M : gM} {a1 : Int} {b : gM} (hOK : gOK sh M) (h : F_saysLetters M a1 = some b) : gC (gr 1 21) yX12_saysLetters cX12_saysLetters 3 none [(4, 711), (0, a1)] sh M (gPq sh none b) := by
  rw [eq_saysLetters] at h
  refine gC_ofA (lv := [_, _, _]) (by decide +kernel) (Nat.le_of_ble_eq_true rfl) rfl (fun hMw hav => ?_)
  refine g_iconst (q0 := 1) rfl dX12_saysLetters_0 (k := ?_)
  refine g_istore_n (q0 := 2) (j := 2) (lv2 := [_, _, _]) rfl dX12_saysLetters_1 (by decide) rfl rfl ?_
  exact ok_saysLetters_2 hOK h
-- ==== wordFor
theorem dX12_wordFor_0 : decode cX12_wordFor 0 = .ok (.iconst 0, 1) := by decide +kernel
theorem dX12_wordFor_1 : decode cX12_wordFor 1 = .ok (.istore_n 3, 1) := by decide +kernel
theorem dX12_wordFor_2 : decode cX12_wordFor 2 = .ok (.iload_n 3, 1) := by decide +kernel
theorem dX12_wordFor_3 : decode cX12_wordFor 3 = .ok (.aload_n 0, 1) := by decide +kernel
theorem dX12_wordFor_4 : decode cX12_wordFor 4 = .ok (.iload_n 1, 1) := by decide +kernel
theorem dX12_wordFor_5 : decode cX12_wordFor 5 = .ok (.iconst 5, 1) := by decide +kernel
theorem dX12_wordFor_6 : decode cX12_wordFor 6 = .ok (.invokevirtual 455, 3) := by decide +kernel
theorem dX12_wordFor_9 : decode cX12_wordFor 9 = .ok (.if_icmp .ge 28, 3) := by decide +kernel
theorem dX12_wordFor_12 : decode cX12_wordFor 12 = .ok (.aload_n 0, 1) := by decide +kernel
theorem dX12_wordFor_13 : decode cX12_wordFor 13 = .ok (.iload_n 1, 1) := by decide +kernel
theorem dX12_wordFor_14 : decode cX12_wordFor 14 = .ok (.iconst 5, 1) := by decide +kernel
theorem dX12_wordFor_15 : decode cX12_wordFor 15 = .ok (.iload_n 3, 1) := by decide +kernel
theorem dX12_wordFor_16 : decode cX12_wordFor 16 = .ok (.invokevirtual 464, 3) := by decide +kernel
theorem dX12_wordFor_19 : decode cX12_wordFor 19 = .ok (.iload_n 2, 1) := by decide +kernel
theorem dX12_wordFor_20 : decode cX12_wordFor 20 = .ok (.if_icmp .ne 11, 3) := by decide +kernel
theorem dX12_wordFor_23 : decode cX12_wordFor 23 = .ok (.aload_n 0, 1) := by decide +kernel
theorem dX12_wordFor_24 : decode cX12_wordFor 24 = .ok (.iload_n 1, 1) := by decide +kernel
theorem dX12_wordFor_25 : decode cX12_wordFor 25 = .ok (.iconst 5, 1) := by decide +kernel
theorem dX12_wordFor_26 : decode cX12_wordFor 26 = .ok (.iload_n 3, 1) := by decide +kernel
theorem dX12_wordFor_27 : decode cX12_wordFor 27 = .ok (.invokevirtual 470, 3) := by decide +kernel
theorem dX12_wordFor_30 : decode cX12_wordFor 30 = .ok (.ireturn, 1) := by decide +kernel
theorem dX12_wordFor_31 : decode cX12_wordFor 31 = .ok (.iinc 3 1, 3) := by decide +kernel
theorem dX12_wordFor_34 : decode cX12_wordFor 34 = .ok (.goto (-32), 3) := by decide +kernel
theorem dX12_wordFor_37 : decode cX12_wordFor 37 = .ok (.iconst (-1), 1) := by decide +kernel
theorem dX12_wordFor_38 : decode cX12_wordFor 38 = .ok (.ireturn, 1) := by decide +kernel
noncomputable def st_wordFor (M : gM) : Nat × List Int → Option ((Nat × List Int) ⊕ (Int))
  | (0, [x1, x2, x3]) => (Option.bind (F_manyOf M x1 5) (fun r6 =>
      (if x3 < r6 then
        (Option.bind (F_firstOf M x1 5 x3) (fun r16 =>
          (if r16 = x2 then
            (Option.bind (F_secondOf M x1 5 x3) (fun r27 =>
              some (.inr r27)))
          else
            some (.inl (0, [x1, x2, (gw32 (x3 + 1))])))))
      else
        some (.inr (-1)))))
  | _ => none
theorem sk_wordFor_2 (k : Nat × List Int → Option (Int)) (M : gM) (x1 x2 x3 : Int) : gWk k (st_wordFor M (0, [x1, x2, x3])) = (Option.bind (F_manyOf M x1 5) (fun r6 =>
    (if x3 < r6 then
      (Option.bind (F_firstOf M x1 5 x3) (fun r16 =>
        (if r16 = x2 then
          (Option.bind (F_secondOf M x1 5 x3) (fun r27 =>
            some r27))
        else
          k (0, [x1, x2, (gw32 (x3 + 1))]))))
    else
      some (-1)))) := by
  simp only [st_wordFor, gWk_ite, gWk_bind, gWk_inl, gWk_inr, gWk_none]
noncomputable def F_wordFor_2 (M : gM) (x1 x2 x3 : Int) : Option (Int) := gWh (st_wordFor M) (0, [x1, x2, x3])
theorem eq_wordFor_2 (M : gM) (x1 x2 x3 : Int) : F_wordFor_2 M x1 x2 x3 = (Option.bind (F_manyOf M x1 5) (fun r6 =>
    (if x3 < r6 then
      (Option.bind (F_firstOf M x1 5 x3) (fun r16 =>
        (if r16 = x2 then
          (Option.bind (F_secondOf M x1 5 x3) (fun r27 =>
            some r27))
        else
          F_wordFor_2 M x1 x2 (gw32 (x3 + 1)))))
    else
      some (-1)))) := (gWh_eq _).trans (sk_wordFor_2 _ M x1 x2 x3)
noncomputable def F_wordFor (M : gM) (a1 a2 : Int) : Option (Int) := F_wordFor_2 M a1 a2 0
theorem eq_wordFor (M : gM) (a1 a2 : Int) : F_wordFor M a1 a2 = F_wordFor_2 M a1 a2 0 := rfl
theorem okp_wordFor {sh : gS} {M : gM} : ∀ (s : Nat × List Int) (b : Int), gWh (st_wordFor M) s = some b → (∀ (x1 x2 x3 : Int), s = (0, [x1, x2, x3]) → gOK sh M → gA (gr 2 43) yX12_wordFor cX12_wordFor 4 (some (.int)) (gPq sh (some (0, b)) M) (0, 0) 2 [(4, 711), (0, x1), (0, x2), (0, x3)] [] sh M) := by
  refine gWh_ind (fun k hk s b h => ?_)
  · rintro x1 x2 x3 rfl hOK
    rw [sk_wordFor_2] at h
    refine g_iload_n (q0 := 3) (j := 3) rfl dX12_wordFor_2 rfl ?_
    refine g_aload_n (q0 := 4) (j := 0) rfl dX12_wordFor_3 rfl ?_
    refine g_iload_n (q0 := 5) (j := 1) rfl dX12_wordFor_4 rfl ?_
    refine g_iconst (q0 := 6) rfl dX12_wordFor_5 (k := ?_)
    obtain ⟨r6, e6, h⟩ := gI_bd h
    refine g_callVq1 (as := [_, _]) (rest := [_]) mt_X12_manyOf mi_X12_manyOf se_X12_manyOf ml_X12_455 dX12_wordFor_6 (q0 := 9) rfl rfl (sh_711 hOK) rfl rfl (ok_manyOf hOK e6) rfl ⟨by decide, by decide⟩ (Nat.le_of_ble_eq_true rfl) ⟨Nat.zero_le _, Nat.zero_le _⟩ ?_
    refine g_icmp_ge (q0 := 12) (tgt := 37) rfl dX12_wordFor_9 (by decide) (fun h9 => ?_) (fun h9 => ?_)
    · replace h := gI_neg (Int.not_lt.mpr h9) h
      refine g_iconst (q0 := 38) rfl dX12_wordFor_37 (k := ?_)
      rw [← Option.some.inj h]
      refine g_ireturn dX12_wordFor_38 rfl ⟨Nat.zero_le _, Nat.zero_le _⟩ ?_
      exact ⟨rfl, rfl, rfl⟩
    · replace h := gI_pos h9 h
      refine g_aload_n (q0 := 13) (j := 0) rfl dX12_wordFor_12 rfl ?_
      refine g_iload_n (q0 := 14) (j := 1) rfl dX12_wordFor_13 rfl ?_
      refine g_iconst (q0 := 15) rfl dX12_wordFor_14 (k := ?_)
      refine g_iload_n (q0 := 16) (j := 3) rfl dX12_wordFor_15 rfl ?_
      obtain ⟨r16, e16, h⟩ := gI_bd h
      refine g_callVq1 (as := [_, _, _]) (rest := []) mt_X12_firstOf mi_X12_firstOf se_X12_firstOf ml_X12_464 dX12_wordFor_16 (q0 := 19) rfl rfl (sh_711 hOK) rfl rfl (ok_firstOf hOK e16) rfl ⟨by decide, by decide⟩ (Nat.le_of_ble_eq_true rfl) ⟨Nat.zero_le _, Nat.zero_le _⟩ ?_
      refine g_iload_n (q0 := 20) (j := 2) rfl dX12_wordFor_19 rfl ?_
      refine g_icmp_ne (q0 := 23) (tgt := 31) rfl dX12_wordFor_20 (by decide) (fun h20 => ?_) (fun h20 => ?_)
      · replace h := gI_neg h20 h
        refine g_iincw (q0 := 34) (lv2 := [_, _, _, _]) rfl dX12_wordFor_31 rfl (by decide) rfl rfl ?_
        refine g_goto (tgt := 2) dX12_wordFor_34 (by decide) ?_
        exact (hk _ _ h) _ _ _ rfl hOK
      · replace h := gI_pos h20 h
        refine g_aload_n (q0 := 24) (j := 0) rfl dX12_wordFor_23 rfl ?_
        refine g_iload_n (q0 := 25) (j := 1) rfl dX12_wordFor_24 rfl ?_
        refine g_iconst (q0 := 26) rfl dX12_wordFor_25 (k := ?_)
        refine g_iload_n (q0 := 27) (j := 3) rfl dX12_wordFor_26 rfl ?_
        obtain ⟨r27, e27, h⟩ := gI_bd h
        refine g_callVq1 (as := [_, _, _]) (rest := []) mt_X12_secondOf mi_X12_secondOf se_X12_secondOf ml_X12_470 dX12_wordFor_27 (q0 := 30) rfl rfl (sh_711 hOK) rfl rfl (ok_secondOf hOK e27) rfl ⟨by decide, by decide⟩ (Nat.le_of_ble_eq_true rfl) ⟨Nat.zero_le _, Nat.zero_le _⟩ ?_
        rw [← Option.some.inj h]
        refine g_ireturn dX12_wordFor_30 rfl ⟨Nat.zero_le _, Nat.zero_le _⟩ ?_
        exact ⟨rfl, rfl, rfl⟩
theorem ok_wordFor_2 {sh : gS} {M : gM} {x1 x2 x3 : Int} {b : Int} (hOK : gOK sh M) (h : F_wordFor_2 M x1 x2 x3 = some b) : gA (gr 2 43) yX12_wordFor cX12_wordFor 4 (some (.int)) (gPq sh (some (0, b)) M) (0, 0) 2 [(4, 711), (0, x1), (0, x2), (0, x3)] [] sh M :=
  (okp_wordFor _ _ h) _ _ _ rfl hOK
theorem ok_wordFor {sh : gS} {M : gM} {a1 a2 : Int} {b : Int} (hOK : gOK sh M) (h : F_wordFor M a1 a2 = some b) : gC (gr 2 43) yX12_wordFor cX12_wordFor 4 (some (.int)) [(4, 711), (0, a1), (0, a2)] sh M (gPq sh (some (0, b)) M) := by
  rw [eq_wordFor] at h
  refine gC_ofA (lv := [_, _, _, _]) (by decide +kernel) (Nat.le_of_ble_eq_true rfl) rfl (fun hMw hav => ?_)
  refine g_iconst (q0 := 1) rfl dX12_wordFor_0 (k := ?_)
  refine g_istore_n (q0 := 2) (j := 3) (lv2 := [_, _, _, _]) rfl dX12_wordFor_1 (by decide) rfl rfl ?_
  exact ok_wordFor_2 hOK h
-- ==== carriesLetters
theorem dX12_carriesLetters_0 : decode cX12_carriesLetters 0 = .ok (.aload_n 0, 1) := by decide +kernel
theorem dX12_carriesLetters_1 : decode cX12_carriesLetters 1 = .ok (.getfield 537, 3) := by decide +kernel
theorem dX12_carriesLetters_4 : decode cX12_carriesLetters 4 = .ok (.istore_n 3, 1) := by decide +kernel
theorem dX12_carriesLetters_5 : decode cX12_carriesLetters 5 = .ok (.iconst 0, 1) := by decide +kernel
theorem dX12_carriesLetters_6 : decode cX12_carriesLetters 6 = .ok (.istore 4, 2) := by decide +kernel
theorem dX12_carriesLetters_8 : decode cX12_carriesLetters 8 = .ok (.aload_n 0, 1) := by decide +kernel
theorem dX12_carriesLetters_9 : decode cX12_carriesLetters 9 = .ok (.iload_n 2, 1) := by decide +kernel
theorem dX12_carriesLetters_10 : decode cX12_carriesLetters 10 = .ok (.aload_n 0, 1) := by decide +kernel
theorem dX12_carriesLetters_11 : decode cX12_carriesLetters 11 = .ok (.getfield 537, 3) := by decide +kernel
theorem dX12_carriesLetters_14 : decode cX12_carriesLetters 14 = .ok (.invokevirtual 540, 3) := by decide +kernel
theorem dX12_carriesLetters_17 : decode cX12_carriesLetters 17 = .ok (.invokestatic 281, 3) := by decide +kernel
theorem dX12_carriesLetters_20 : decode cX12_carriesLetters 20 = .ok (.ifCond .eq 52, 3) := by decide +kernel
theorem dX12_carriesLetters_23 : decode cX12_carriesLetters 23 = .ok (.aload_n 0, 1) := by decide +kernel
theorem dX12_carriesLetters_24 : decode cX12_carriesLetters 24 = .ok (.getfield 537, 3) := by decide +kernel
theorem dX12_carriesLetters_27 : decode cX12_carriesLetters 27 = .ok (.iload_n 3, 1) := by decide +kernel
theorem dX12_carriesLetters_28 : decode cX12_carriesLetters 28 = .ok (.isub, 1) := by decide +kernel
theorem dX12_carriesLetters_29 : decode cX12_carriesLetters 29 = .ok (.iconst 4, 1) := by decide +kernel
theorem dX12_carriesLetters_30 : decode cX12_carriesLetters 30 = .ok (.if_icmp .ge 26, 3) := by decide +kernel
theorem dX12_carriesLetters_33 : decode cX12_carriesLetters 33 = .ok (.bipush 32, 2) := by decide +kernel
theorem dX12_carriesLetters_35 : decode cX12_carriesLetters 35 = .ok (.iload 4, 2) := by decide +kernel
theorem dX12_carriesLetters_37 : decode cX12_carriesLetters 37 = .ok (.imul, 1) := by decide +kernel
theorem dX12_carriesLetters_38 : decode cX12_carriesLetters 38 = .ok (.aload_n 0, 1) := by decide +kernel
theorem dX12_carriesLetters_39 : decode cX12_carriesLetters 39 = .ok (.iload_n 2, 1) := by decide +kernel
theorem dX12_carriesLetters_40 : decode cX12_carriesLetters 40 = .ok (.aload_n 0, 1) := by decide +kernel
theorem dX12_carriesLetters_41 : decode cX12_carriesLetters 41 = .ok (.getfield 537, 3) := by decide +kernel
theorem dX12_carriesLetters_44 : decode cX12_carriesLetters 44 = .ok (.invokevirtual 540, 3) := by decide +kernel
theorem dX12_carriesLetters_47 : decode cX12_carriesLetters 47 = .ok (.iadd, 1) := by decide +kernel
theorem dX12_carriesLetters_48 : decode cX12_carriesLetters 48 = .ok (.bipush 97, 2) := by decide +kernel
theorem dX12_carriesLetters_50 : decode cX12_carriesLetters 50 = .ok (.isub, 1) := by decide +kernel
theorem dX12_carriesLetters_51 : decode cX12_carriesLetters 51 = .ok (.iconst 1, 1) := by decide +kernel
theorem dX12_carriesLetters_52 : decode cX12_carriesLetters 52 = .ok (.iadd, 1) := by decide +kernel
theorem dX12_carriesLetters_53 : decode cX12_carriesLetters 53 = .ok (.goto 4, 3) := by decide +kernel
theorem dX12_carriesLetters_56 : decode cX12_carriesLetters 56 = .ok (.iconst (-1), 1) := by decide +kernel
theorem dX12_carriesLetters_57 : decode cX12_carriesLetters 57 = .ok (.istore 4, 2) := by decide +kernel
theorem dX12_carriesLetters_59 : decode cX12_carriesLetters 59 = .ok (.aload_n 0, 1) := by decide +kernel
theorem dX12_carriesLetters_60 : decode cX12_carriesLetters 60 = .ok (.aload_n 0, 1) := by decide +kernel
theorem dX12_carriesLetters_61 : decode cX12_carriesLetters 61 = .ok (.getfield 537, 3) := by decide +kernel
theorem dX12_carriesLetters_64 : decode cX12_carriesLetters 64 = .ok (.iconst 1, 1) := by decide +kernel
theorem dX12_carriesLetters_65 : decode cX12_carriesLetters 65 = .ok (.iadd, 1) := by decide +kernel
theorem dX12_carriesLetters_66 : decode cX12_carriesLetters 66 = .ok (.putfield 537, 3) := by decide +kernel
theorem dX12_carriesLetters_69 : decode cX12_carriesLetters 69 = .ok (.goto (-61), 3) := by decide +kernel
theorem dX12_carriesLetters_72 : decode cX12_carriesLetters 72 = .ok (.aload_n 0, 1) := by decide +kernel
theorem dX12_carriesLetters_73 : decode cX12_carriesLetters 73 = .ok (.getfield 537, 3) := by decide +kernel
theorem dX12_carriesLetters_76 : decode cX12_carriesLetters 76 = .ok (.iload_n 3, 1) := by decide +kernel
theorem dX12_carriesLetters_77 : decode cX12_carriesLetters 77 = .ok (.isub, 1) := by decide +kernel
theorem dX12_carriesLetters_78 : decode cX12_carriesLetters 78 = .ok (.iconst 4, 1) := by decide +kernel
theorem dX12_carriesLetters_79 : decode cX12_carriesLetters 79 = .ok (.if_icmp .le 7, 3) := by decide +kernel
theorem dX12_carriesLetters_82 : decode cX12_carriesLetters 82 = .ok (.iconst (-1), 1) := by decide +kernel
theorem dX12_carriesLetters_83 : decode cX12_carriesLetters 83 = .ok (.goto 10, 3) := by decide +kernel
theorem dX12_carriesLetters_86 : decode cX12_carriesLetters 86 = .ok (.aload_n 0, 1) := by decide +kernel
theorem dX12_carriesLetters_87 : decode cX12_carriesLetters 87 = .ok (.iload_n 1, 1) := by decide +kernel
theorem dX12_carriesLetters_88 : decode cX12_carriesLetters 88 = .ok (.iload 4, 2) := by decide +kernel
theorem dX12_carriesLetters_90 : decode cX12_carriesLetters 90 = .ok (.invokevirtual 546, 3) := by decide +kernel
theorem dX12_carriesLetters_93 : decode cX12_carriesLetters 93 = .ok (.istore 5, 2) := by decide +kernel
theorem dX12_carriesLetters_95 : decode cX12_carriesLetters 95 = .ok (.iload 5, 2) := by decide +kernel
theorem dX12_carriesLetters_97 : decode cX12_carriesLetters 97 = .ok (.iconst (-1), 1) := by decide +kernel
theorem dX12_carriesLetters_98 : decode cX12_carriesLetters 98 = .ok (.if_icmp .eq 9, 3) := by decide +kernel
theorem dX12_carriesLetters_101 : decode cX12_carriesLetters 101 = .ok (.aload_n 0, 1) := by decide +kernel
theorem dX12_carriesLetters_102 : decode cX12_carriesLetters 102 = .ok (.iload 5, 2) := by decide +kernel
theorem dX12_carriesLetters_104 : decode cX12_carriesLetters 104 = .ok (.invokevirtual 549, 3) := by decide +kernel
theorem dX12_carriesLetters_107 : decode cX12_carriesLetters 107 = .ok (.iload_n 3, 1) := by decide +kernel
theorem dX12_carriesLetters_108 : decode cX12_carriesLetters 108 = .ok (.istore 6, 2) := by decide +kernel
theorem dX12_carriesLetters_110 : decode cX12_carriesLetters 110 = .ok (.iload 6, 2) := by decide +kernel
theorem dX12_carriesLetters_112 : decode cX12_carriesLetters 112 = .ok (.aload_n 0, 1) := by decide +kernel
theorem dX12_carriesLetters_113 : decode cX12_carriesLetters 113 = .ok (.getfield 537, 3) := by decide +kernel
theorem dX12_carriesLetters_116 : decode cX12_carriesLetters 116 = .ok (.if_icmp .ge 26, 3) := by decide +kernel
theorem dX12_carriesLetters_119 : decode cX12_carriesLetters 119 = .ok (.iload 5, 2) := by decide +kernel
theorem dX12_carriesLetters_121 : decode cX12_carriesLetters 121 = .ok (.iconst (-1), 1) := by decide +kernel
theorem dX12_carriesLetters_122 : decode cX12_carriesLetters 122 = .ok (.if_icmp .ne 20, 3) := by decide +kernel
theorem dX12_carriesLetters_125 : decode cX12_carriesLetters 125 = .ok (.aload_n 0, 1) := by decide +kernel
theorem dX12_carriesLetters_126 : decode cX12_carriesLetters 126 = .ok (.aload_n 0, 1) := by decide +kernel
theorem dX12_carriesLetters_127 : decode cX12_carriesLetters 127 = .ok (.iload_n 2, 1) := by decide +kernel
theorem dX12_carriesLetters_128 : decode cX12_carriesLetters 128 = .ok (.iload 6, 2) := by decide +kernel
theorem dX12_carriesLetters_130 : decode cX12_carriesLetters 130 = .ok (.invokevirtual 540, 3) := by decide +kernel
theorem dX12_carriesLetters_133 : decode cX12_carriesLetters 133 = .ok (.invokevirtual 534, 3) := by decide +kernel
theorem dX12_carriesLetters_136 : decode cX12_carriesLetters 136 = .ok (.iinc 6 1, 3) := by decide +kernel
theorem dX12_carriesLetters_139 : decode cX12_carriesLetters 139 = .ok (.goto (-29), 3) := by decide +kernel
theorem dX12_carriesLetters_142 : decode cX12_carriesLetters 142 = .ok (.return_, 1) := by decide +kernel
noncomputable def st_carriesLetters : Nat × List Int × gM → Option ((Nat × List Int × gM) ⊕ (gM))
  | (0, [x1, x2, x3, x4], M) => (Option.bind (F_saidAt M x2 (M 711 38)) (fun r14 =>
      (Option.bind (F_isSmall r14) (fun r17 =>
        (if r17 = 0 then
          (if (4 : Int) < (gw32 ((M 711 38) - x3)) then
            some (.inl (1, [x1, x2, x3, x4, -1, x3], M))
          else
            (Option.bind (F_wordFor M x1 x4) (fun r90 =>
              (if r90 = -1 then
                some (.inl (1, [x1, x2, x3, x4, r90, x3], M))
              else
                (Option.bind (F_saysLetters M r90) (fun m104 =>
                  some (.inl (1, [x1, x2, x3, x4, r90, x3], m104))))))))
        else
          (if (gw32 ((M 711 38) - x3)) < 4 then
            (Option.bind (F_saidAt M x2 (M 711 38)) (fun r44 =>
              some (.inl (0, [x1, x2, x3, (gw32 ((gw32 ((gw32 ((gw32 ((32 : Int) * x4)) + r44)) - (97 : Int))) + (1 : Int)))], (gU M 711 38 (gw32 ((M 711 38) + (1 : Int))))))))
          else
            some (.inl (0, [x1, x2, x3, -1], (gU M 711 38 (gw32 ((M 711 38) + (1 : Int))))))))))))
  | (1, [x1, x2, x3, x4, x5, x6], M) => (if x6 < (M 711 38) then
      (if x5 = -1 then
        (Option.bind (F_saidAt M x2 x6) (fun r130 =>
          (Option.bind (F_says M r130) (fun m133 =>
            some (.inl (1, [x1, x2, x3, x4, x5, (gw32 (x6 + 1))], m133))))))
      else
        some (.inr M))
    else
      some (.inr M))
  | _ => none
theorem sk_carriesLetters_8 (k : Nat × List Int × gM → Option (gM)) (M : gM) (x1 x2 x3 x4 : Int) : gWk k (st_carriesLetters (0, [x1, x2, x3, x4], M)) = (Option.bind (F_saidAt M x2 (M 711 38)) (fun r14 =>
    (Option.bind (F_isSmall r14) (fun r17 =>
      (if r17 = 0 then
        (if (4 : Int) < (gw32 ((M 711 38) - x3)) then
          k (1, [x1, x2, x3, x4, -1, x3], M)
        else
          (Option.bind (F_wordFor M x1 x4) (fun r90 =>
            (if r90 = -1 then
              k (1, [x1, x2, x3, x4, r90, x3], M)
            else
              (Option.bind (F_saysLetters M r90) (fun m104 =>
                k (1, [x1, x2, x3, x4, r90, x3], m104)))))))
      else
        (if (gw32 ((M 711 38) - x3)) < 4 then
          (Option.bind (F_saidAt M x2 (M 711 38)) (fun r44 =>
            k (0, [x1, x2, x3, (gw32 ((gw32 ((gw32 ((gw32 ((32 : Int) * x4)) + r44)) - (97 : Int))) + (1 : Int)))], (gU M 711 38 (gw32 ((M 711 38) + (1 : Int)))))))
        else
          k (0, [x1, x2, x3, -1], (gU M 711 38 (gw32 ((M 711 38) + (1 : Int))))))))))) := by
  simp only [st_carriesLetters, gWk_ite, gWk_bind, gWk_inl, gWk_inr, gWk_none]
theorem sk_carriesLetters_110 (k : Nat × List Int × gM → Option (gM)) (M : gM) (x1 x2 x3 x4 x5 x6 : Int) : gWk k (st_carriesLetters (1, [x1, x2, x3, x4, x5, x6], M)) = (if x6 < (M 711 38) then
    (if x5 = -1 then
      (Option.bind (F_saidAt M x2 x6) (fun r130 =>
        (Option.bind (F_says M r130) (fun m133 =>
          k (1, [x1, x2, x3, x4, x5, (gw32 (x6 + 1))], m133)))))
    else
      some M)
  else
    some M) := by
  simp only [st_carriesLetters, gWk_ite, gWk_bind, gWk_inl, gWk_inr, gWk_none]
noncomputable def F_carriesLetters_8 (M : gM) (x1 x2 x3 x4 : Int) : Option (gM) := gWh (st_carriesLetters) (0, [x1, x2, x3, x4], M)
noncomputable def F_carriesLetters_110 (M : gM) (x1 x2 x3 x4 x5 x6 : Int) : Option (gM) := gWh (st_carriesLetters) (1, [x1, x2, x3, x4, x5, x6], M)
theorem eq_carriesLetters_8 (M : gM) (x1 x2 x3 x4 : Int) : F_carriesLetters_8 M x1 x2 x3 x4 = (Option.bind (F_saidAt M x2 (M 711 38)) (fun r14 =>
    (Option.bind (F_isSmall r14) (fun r17 =>
      (if r17 = 0 then
        (if (4 : Int) < (gw32 ((M 711 38) - x3)) then
          F_carriesLetters_110 M x1 x2 x3 x4 (-1) x3
        else
          (Option.bind (F_wordFor M x1 x4) (fun r90 =>
            (if r90 = -1 then
              F_carriesLetters_110 M x1 x2 x3 x4 r90 x3
            else
              (Option.bind (F_saysLetters M r90) (fun m104 =>
                F_carriesLetters_110 m104 x1 x2 x3 x4 r90 x3))))))
      else
        (if (gw32 ((M 711 38) - x3)) < 4 then
          (Option.bind (F_saidAt M x2 (M 711 38)) (fun r44 =>
            F_carriesLetters_8 (gU M 711 38 (gw32 ((M 711 38) + (1 : Int)))) x1 x2 x3 (gw32 ((gw32 ((gw32 ((gw32 ((32 : Int) * x4)) + r44)) - (97 : Int))) + (1 : Int)))))
        else
          F_carriesLetters_8 (gU M 711 38 (gw32 ((M 711 38) + (1 : Int)))) x1 x2 x3 (-1))))))) := (gWh_eq _).trans (sk_carriesLetters_8 _ M x1 x2 x3 x4)
theorem eq_carriesLetters_110 (M : gM) (x1 x2 x3 x4 x5 x6 : Int) : F_carriesLetters_110 M x1 x2 x3 x4 x5 x6 = (if x6 < (M 711 38) then
    (if x5 = -1 then
      (Option.bind (F_saidAt M x2 x6) (fun r130 =>
        (Option.bind (F_says M r130) (fun m133 =>
          F_carriesLetters_110 m133 x1 x2 x3 x4 x5 (gw32 (x6 + 1))))))
    else
      some M)
  else
    some M) := (gWh_eq _).trans (sk_carriesLetters_110 _ M x1 x2 x3 x4 x5 x6)
noncomputable def F_carriesLetters (M : gM) (a1 a2 : Int) : Option (gM) := F_carriesLetters_8 M a1 a2 (M 711 38) 0
theorem eq_carriesLetters (M : gM) (a1 a2 : Int) : F_carriesLetters M a1 a2 = F_carriesLetters_8 M a1 a2 (M 711 38) 0 := rfl
theorem frp_carriesLetters : ∀ (s : Nat × List Int × gM) (b : gM), gWh (st_carriesLetters) s = some b → (∀ (x1 x2 x3 x4 : Int) (M : gM), s = (0, [x1, x2, x3, x4], M) → gFr [722] [13, 38] M b) ∧ (∀ (x1 x2 x3 x4 x5 x6 : Int) (M : gM), s = (1, [x1, x2, x3, x4, x5, x6], M) → gFr [722] [13, 38] M b) := by
  refine gWh_ind (fun k hk s b h => ⟨?_, ?_⟩)
  · rintro x1 x2 x3 x4 M rfl
    rw [sk_carriesLetters_8] at h
    obtain ⟨r14, e14, h⟩ := gI_bd h
    obtain ⟨r17, e17, h⟩ := gI_bd h
    rcases gI_or h with h | h
    · rcases gI_or h with h | h
      · exact gFr_t (gFr_r [722] [13, 38] _) ((hk _ _ h).2 _ _ _ _ _ _ _ rfl) (fun _ z => z) (fun _ z => z)
      · obtain ⟨r90, e90, h⟩ := gI_bd h
        rcases gI_or h with h | h
        · exact gFr_t (gFr_r [722] [13, 38] _) ((hk _ _ h).2 _ _ _ _ _ _ _ rfl) (fun _ z => z) (fun _ z => z)
        · obtain ⟨m104, e104, h⟩ := gI_bd h
          exact gFr_t (gFr_t (gFr_r [722] [13, 38] _) (fr_saysLetters (b := m104) e104) (by first | decide | simp) (by decide)) ((hk _ _ h).2 _ _ _ _ _ _ _ rfl) (fun _ z => z) (fun _ z => z)
    · rcases gI_or h with h | h
      · obtain ⟨r44, e44, h⟩ := gI_bd h
        exact gFr_t (gFr_f (gFr_r [722] [13, 38] _) (.tail _ (.head _))) ((hk _ _ h).1 _ _ _ _ _ rfl) (fun _ z => z) (fun _ z => z)
      · exact gFr_t (gFr_f (gFr_r [722] [13, 38] _) (.tail _ (.head _))) ((hk _ _ h).1 _ _ _ _ _ rfl) (fun _ z => z) (fun _ z => z)
  · rintro x1 x2 x3 x4 x5 x6 M rfl
    rw [sk_carriesLetters_110] at h
    rcases gI_or h with h | h
    · rcases gI_or h with h | h
      · obtain ⟨r130, e130, h⟩ := gI_bd h
        obtain ⟨m133, e133, h⟩ := gI_bd h
        exact gFr_t (gFr_t (gFr_r [722] [13, 38] _) (fr_says (b := m133) e133) (by first | decide | simp) (by decide)) ((hk _ _ h).2 _ _ _ _ _ _ _ rfl) (fun _ z => z) (fun _ z => z)
      · rw [← Option.some.inj h]
        exact (gFr_r [722] [13, 38] _)
    · rw [← Option.some.inj h]
      exact (gFr_r [722] [13, 38] _)
theorem fr_carriesLetters_8 {M : gM} {x1 x2 x3 x4 : Int} {b : gM} (h : F_carriesLetters_8 M x1 x2 x3 x4 = some b) : gFr [722] [13, 38] M b :=
  (frp_carriesLetters _ _ h).1 _ _ _ _ _ rfl
theorem fr_carriesLetters_110 {M : gM} {x1 x2 x3 x4 x5 x6 : Int} {b : gM} (h : F_carriesLetters_110 M x1 x2 x3 x4 x5 x6 = some b) : gFr [722] [13, 38] M b :=
  (frp_carriesLetters _ _ h).2 _ _ _ _ _ _ _ rfl
theorem fr_carriesLetters {M : gM} {a1 a2 : Int} {b : gM} (h : F_carriesLetters M a1 a2 = some b) : gFr [722] [13, 38] M b := by
  rw [eq_carriesLetters] at h
  exact gFr_t (gFr_r [722] [13, 38] _) (fr_carriesLetters_8 h) (fun _ z => z) (fun _ z => z)
theorem okp_carriesLetters {sh : gS} : ∀ (s : Nat × List Int × gM) (b : gM), gWh (st_carriesLetters) s = some b → (∀ (x1 x2 x3 x4 : Int) (M : gM), s = (0, [x1, x2, x3, x4], M) → gOK sh M → gA (gr 3 66) yX12_carriesLetters cX12_carriesLetters 7 none (gPq sh none b) (0, 0) 8 [(4, 711), (0, x1), (0, x2), (0, x3), (0, x4), (9, 0), (9, 0)] [] sh M) ∧ (∀ (x1 x2 x3 x4 x5 x6 : Int) (M : gM), s = (1, [x1, x2, x3, x4, x5, x6], M) → gOK sh M → gA (gr 3 66) yX12_carriesLetters cX12_carriesLetters 7 none (gPq sh none b) (0, 0) 110 [(4, 711), (0, x1), (0, x2), (0, x3), (0, x4), (0, x5), (0, x6)] [] sh M) := by
  refine gWh_ind (fun k hk s b h => ⟨?_, ?_⟩)
  · rintro x1 x2 x3 x4 M rfl hOK
    rw [sk_carriesLetters_8] at h
    refine g_aload_n (q0 := 9) (j := 0) rfl dX12_carriesLetters_8 rfl ?_
    refine g_iload_n (q0 := 10) (j := 2) rfl dX12_carriesLetters_9 rfl ?_
    refine g_aload_n (q0 := 11) (j := 0) rfl dX12_carriesLetters_10 rfl ?_
    refine g_getf (q0 := 14) (t := 0) (fi := 38) rfl rfl ff_X12_537 dX12_carriesLetters_11 rfl (sh_711 hOK) ?_
    obtain ⟨r14, e14, h⟩ := gI_bd h
    refine g_callVq1 (as := [_, _]) (rest := []) mt_X12_saidAt mi_X12_saidAt se_X12_saidAt ml_X12_540 dX12_carriesLetters_14 (q0 := 17) rfl rfl (sh_711 hOK) rfl rfl (ok_saidAt hOK e14) rfl ⟨by decide, by decide⟩ (Nat.le_of_ble_eq_true rfl) ⟨Nat.zero_le _, Nat.zero_le _⟩ ?_
    obtain ⟨r17, e17, h⟩ := gI_bd h
    refine g_callSq1 (as := [_]) (rest := []) mt_X12_isSmall ms_X12_isSmall ml_X12_281 dX12_carriesLetters_17 (q0 := 20) rfl rfl (ok_isSmall hOK e17) rfl ⟨by decide, by decide⟩ (Nat.le_of_ble_eq_true rfl) ⟨Nat.zero_le _, Nat.zero_le _⟩ ?_
    refine g_if_eq (q0 := 23) (tgt := 72) rfl dX12_carriesLetters_20 (by decide) (fun h20 => ?_) (fun h20 => ?_)
    · replace h := gI_pos h20 h
      refine g_aload_n (q0 := 73) (j := 0) rfl dX12_carriesLetters_72 rfl ?_
      refine g_getf (q0 := 76) (t := 0) (fi := 38) rfl rfl ff_X12_537 dX12_carriesLetters_73 rfl (sh_711 hOK) ?_
      refine g_iload_n (q0 := 77) (j := 3) rfl dX12_carriesLetters_76 rfl ?_
      refine g_isubw (q0 := 78) rfl dX12_carriesLetters_77 ?_
      refine g_iconst (q0 := 79) rfl dX12_carriesLetters_78 (k := ?_)
      refine g_icmp_le (q0 := 82) (tgt := 86) rfl dX12_carriesLetters_79 (by decide) (fun h79 => ?_) (fun h79 => ?_)
      · replace h := gI_neg (Int.not_lt.mpr h79) h
        refine g_aload_n (q0 := 87) (j := 0) rfl dX12_carriesLetters_86 rfl ?_
        refine g_iload_n (q0 := 88) (j := 1) rfl dX12_carriesLetters_87 rfl ?_
        refine g_iload (q0 := 90) (j := 4) rfl dX12_carriesLetters_88 rfl ?_
        obtain ⟨r90, e90, h⟩ := gI_bd h
        refine g_callVq1 (as := [_, _]) (rest := []) mt_X12_wordFor mi_X12_wordFor se_X12_wordFor ml_X12_546 dX12_carriesLetters_90 (q0 := 93) rfl rfl (sh_711 hOK) rfl rfl (ok_wordFor hOK e90) rfl ⟨by decide, by decide⟩ (Nat.le_of_ble_eq_true rfl) ⟨Nat.zero_le _, Nat.zero_le _⟩ ?_
        refine g_istore (q0 := 95) (j := 5) (lv2 := [_, _, _, _, _, _, _]) rfl dX12_carriesLetters_93 (by decide) rfl rfl ?_
        refine g_iload (q0 := 97) (j := 5) rfl dX12_carriesLetters_95 rfl ?_
        refine g_iconst (q0 := 98) rfl dX12_carriesLetters_97 (k := ?_)
        refine g_icmp_eq (q0 := 101) (tgt := 107) rfl dX12_carriesLetters_98 (by decide) (fun h98 => ?_) (fun h98 => ?_)
        · replace h := gI_pos h98 h
          refine g_iload_n (q0 := 108) (j := 3) rfl dX12_carriesLetters_107 rfl ?_
          refine g_istore (q0 := 110) (j := 6) (lv2 := [_, _, _, _, _, _, _]) rfl dX12_carriesLetters_108 (by decide) rfl rfl ?_
          exact (hk _ _ h).2 _ _ _ _ _ _ _ rfl hOK
        · replace h := gI_neg h98 h
          refine g_aload_n (q0 := 102) (j := 0) rfl dX12_carriesLetters_101 rfl ?_
          refine g_iload (q0 := 104) (j := 5) rfl dX12_carriesLetters_102 rfl ?_
          obtain ⟨m104, e104, h⟩ := gI_bd h
          refine g_callVq0 (as := [_]) (rest := []) mt_X12_saysLetters mi_X12_saysLetters se_X12_saysLetters ml_X12_549 dX12_carriesLetters_104 (q0 := 107) rfl rfl (sh_711 hOK) rfl rfl (ok_saysLetters hOK e104) rfl ⟨by decide, by decide⟩ (Nat.le_of_ble_eq_true rfl) ⟨Nat.zero_le _, Nat.zero_le _⟩ ?_
          have hOK1 : gOK sh m104 := gOK_fr hOK (fr_saysLetters (b := m104) e104) (by first | decide | (intro a ha; simp only [List.mem_cons, List.not_mem_nil, or_false] at ha; omega)) (by decide)
          refine g_iload_n (q0 := 108) (j := 3) rfl dX12_carriesLetters_107 rfl ?_
          refine g_istore (q0 := 110) (j := 6) (lv2 := [_, _, _, _, _, _, _]) rfl dX12_carriesLetters_108 (by decide) rfl rfl ?_
          exact (hk _ _ h).2 _ _ _ _ _ _ _ rfl hOK1
      · replace h := gI_pos h79 h
        refine g_iconst (q0 := 83) rfl dX12_carriesLetters_82 (k := ?_)
        refine g_goto (tgt := 93) dX12_carriesLetters_83 (by decide) ?_
        refine g_istore (q0 := 95) (j := 5) (lv2 := [_, _, _, _, _, _, _]) rfl dX12_carriesLetters_93 (by decide) rfl rfl ?_
        refine g_iload (q0 := 97) (j := 5) rfl dX12_carriesLetters_95 rfl ?_
        refine g_iconst (q0 := 98) rfl dX12_carriesLetters_97 (k := ?_)
        refine g_icmp_eq (q0 := 101) (tgt := 107) rfl dX12_carriesLetters_98 (by decide) (fun h98 => ?_) (fun h98 => ?_)
        · refine g_iload_n (q0 := 108) (j := 3) rfl dX12_carriesLetters_107 rfl ?_
          refine g_istore (q0 := 110) (j := 6) (lv2 := [_, _, _, _, _, _, _]) rfl dX12_carriesLetters_108 (by decide) rfl rfl ?_
          exact (hk _ _ h).2 _ _ _ _ _ _ _ rfl hOK
        · exact absurd h98 (by decide)
    · replace h := gI_neg h20 h
      refine g_aload_n (q0 := 24) (j := 0) rfl dX12_carriesLetters_23 rfl ?_
      refine g_getf (q0 := 27) (t := 0) (fi := 38) rfl rfl ff_X12_537 dX12_carriesLetters_24 rfl (sh_711 hOK) ?_
      refine g_iload_n (q0 := 28) (j := 3) rfl dX12_carriesLetters_27 rfl ?_
      refine g_isubw (q0 := 29) rfl dX12_carriesLetters_28 ?_
      refine g_iconst (q0 := 30) rfl dX12_carriesLetters_29 (k := ?_)
      refine g_icmp_ge (q0 := 33) (tgt := 56) rfl dX12_carriesLetters_30 (by decide) (fun h30 => ?_) (fun h30 => ?_)
      · replace h := gI_neg (Int.not_lt.mpr h30) h
        refine g_iconst (q0 := 57) rfl dX12_carriesLetters_56 (k := ?_)
        refine g_istore (q0 := 59) (j := 4) (lv2 := [_, _, _, _, _, _, _]) rfl dX12_carriesLetters_57 (by decide) rfl rfl ?_
        refine g_aload_n (q0 := 60) (j := 0) rfl dX12_carriesLetters_59 rfl ?_
        refine g_aload_n (q0 := 61) (j := 0) rfl dX12_carriesLetters_60 rfl ?_
        refine g_getf (q0 := 64) (t := 0) (fi := 38) rfl rfl ff_X12_537 dX12_carriesLetters_61 rfl (sh_711 hOK) ?_
        refine g_iconst (q0 := 65) rfl dX12_carriesLetters_64 (k := ?_)
        refine g_iaddw (q0 := 66) rfl dX12_carriesLetters_65 ?_
        refine g_put (q0 := 69) (t := 0) (fi := 38) rfl rfl ff_X12_537 dX12_carriesLetters_66 rfl (sh_711 hOK) rfl (fun _ => ⟨rfl, rfl⟩) ?_
        have hOK2 : gOK sh (gU M 711 38 (gw32 ((M 711 38) + (1 : Int)))) := gOK_o hOK (sh_711 hOK) (f := 38) rfl rfl
        refine g_goto (tgt := 8) dX12_carriesLetters_69 (by decide) ?_
        exact (hk _ _ h).1 _ _ _ _ _ rfl hOK2
      · replace h := gI_pos h30 h
        refine g_bipush (q0 := 35) rfl dX12_carriesLetters_33 (k := ?_)
        refine g_iload (q0 := 37) (j := 4) rfl dX12_carriesLetters_35 rfl ?_
        refine g_imulw (q0 := 38) rfl dX12_carriesLetters_37 ?_
        refine g_aload_n (q0 := 39) (j := 0) rfl dX12_carriesLetters_38 rfl ?_
        refine g_iload_n (q0 := 40) (j := 2) rfl dX12_carriesLetters_39 rfl ?_
        refine g_aload_n (q0 := 41) (j := 0) rfl dX12_carriesLetters_40 rfl ?_
        refine g_getf (q0 := 44) (t := 0) (fi := 38) rfl rfl ff_X12_537 dX12_carriesLetters_41 rfl (sh_711 hOK) ?_
        obtain ⟨r44, e44, h⟩ := gI_bd h
        refine g_callVq1 (as := [_, _]) (rest := [_]) mt_X12_saidAt mi_X12_saidAt se_X12_saidAt ml_X12_540 dX12_carriesLetters_44 (q0 := 47) rfl rfl (sh_711 hOK) rfl rfl (ok_saidAt hOK e44) rfl ⟨by decide, by decide⟩ (Nat.le_of_ble_eq_true rfl) ⟨Nat.zero_le _, Nat.zero_le _⟩ ?_
        refine g_iaddw (q0 := 48) rfl dX12_carriesLetters_47 ?_
        refine g_bipush (q0 := 50) rfl dX12_carriesLetters_48 (k := ?_)
        refine g_isubw (q0 := 51) rfl dX12_carriesLetters_50 ?_
        refine g_iconst (q0 := 52) rfl dX12_carriesLetters_51 (k := ?_)
        refine g_iaddw (q0 := 53) rfl dX12_carriesLetters_52 ?_
        refine g_goto (tgt := 57) dX12_carriesLetters_53 (by decide) ?_
        refine g_istore (q0 := 59) (j := 4) (lv2 := [_, _, _, _, _, _, _]) rfl dX12_carriesLetters_57 (by decide) rfl rfl ?_
        refine g_aload_n (q0 := 60) (j := 0) rfl dX12_carriesLetters_59 rfl ?_
        refine g_aload_n (q0 := 61) (j := 0) rfl dX12_carriesLetters_60 rfl ?_
        refine g_getf (q0 := 64) (t := 0) (fi := 38) rfl rfl ff_X12_537 dX12_carriesLetters_61 rfl (sh_711 hOK) ?_
        refine g_iconst (q0 := 65) rfl dX12_carriesLetters_64 (k := ?_)
        refine g_iaddw (q0 := 66) rfl dX12_carriesLetters_65 ?_
        refine g_put (q0 := 69) (t := 0) (fi := 38) rfl rfl ff_X12_537 dX12_carriesLetters_66 rfl (sh_711 hOK) rfl (fun _ => ⟨rfl, rfl⟩) ?_
        have hOK3 : gOK sh (gU M 711 38 (gw32 ((M 711 38) + (1 : Int)))) := gOK_o hOK (sh_711 hOK) (f := 38) rfl rfl
        refine g_goto (tgt := 8) dX12_carriesLetters_69 (by decide) ?_
        exact (hk _ _ h).1 _ _ _ _ _ rfl hOK3
  · rintro x1 x2 x3 x4 x5 x6 M rfl hOK
    rw [sk_carriesLetters_110] at h
    refine g_iload (q0 := 112) (j := 6) rfl dX12_carriesLetters_110 rfl ?_
    refine g_aload_n (q0 := 113) (j := 0) rfl dX12_carriesLetters_112 rfl ?_
    refine g_getf (q0 := 116) (t := 0) (fi := 38) rfl rfl ff_X12_537 dX12_carriesLetters_113 rfl (sh_711 hOK) ?_
    refine g_icmp_ge (q0 := 119) (tgt := 142) rfl dX12_carriesLetters_116 (by decide) (fun h116 => ?_) (fun h116 => ?_)
    · replace h := gI_neg (Int.not_lt.mpr h116) h
      rw [← Option.some.inj h]
      refine g_return dX12_carriesLetters_142 rfl ⟨Nat.zero_le _, Nat.zero_le _⟩ ?_
      exact ⟨rfl, rfl, rfl⟩
    · replace h := gI_pos h116 h
      refine g_iload (q0 := 121) (j := 5) rfl dX12_carriesLetters_119 rfl ?_
      refine g_iconst (q0 := 122) rfl dX12_carriesLetters_121 (k := ?_)
      refine g_icmp_ne (q0 := 125) (tgt := 142) rfl dX12_carriesLetters_122 (by decide) (fun h122 => ?_) (fun h122 => ?_)
      · replace h := gI_neg h122 h
        rw [← Option.some.inj h]
        refine g_return dX12_carriesLetters_142 rfl ⟨Nat.zero_le _, Nat.zero_le _⟩ ?_
        exact ⟨rfl, rfl, rfl⟩
      · replace h := gI_pos h122 h
        refine g_aload_n (q0 := 126) (j := 0) rfl dX12_carriesLetters_125 rfl ?_
        refine g_aload_n (q0 := 127) (j := 0) rfl dX12_carriesLetters_126 rfl ?_
        refine g_iload_n (q0 := 128) (j := 2) rfl dX12_carriesLetters_127 rfl ?_
        refine g_iload (q0 := 130) (j := 6) rfl dX12_carriesLetters_128 rfl ?_
        obtain ⟨r130, e130, h⟩ := gI_bd h
        refine g_callVq1 (as := [_, _]) (rest := [_]) mt_X12_saidAt mi_X12_saidAt se_X12_saidAt ml_X12_540 dX12_carriesLetters_130 (q0 := 133) rfl rfl (sh_711 hOK) rfl rfl (ok_saidAt hOK e130) rfl ⟨by decide, by decide⟩ (Nat.le_of_ble_eq_true rfl) ⟨Nat.zero_le _, Nat.zero_le _⟩ ?_
        obtain ⟨m133, e133, h⟩ := gI_bd h
        refine g_callVq0 (as := [_]) (rest := []) mt_X12_says mi_X12_says se_X12_says ml_X12_534 dX12_carriesLetters_133 (q0 := 136) rfl rfl (sh_711 hOK) rfl rfl (ok_says hOK e133) rfl ⟨by decide, by decide⟩ (Nat.le_of_ble_eq_true rfl) ⟨Nat.zero_le _, Nat.zero_le _⟩ ?_
        have hOK4 : gOK sh m133 := gOK_fr hOK (fr_says (b := m133) e133) (by first | decide | (intro a ha; simp only [List.mem_cons, List.not_mem_nil, or_false] at ha; omega)) (by decide)
        refine g_iincw (q0 := 139) (lv2 := [_, _, _, _, _, _, _]) rfl dX12_carriesLetters_136 rfl (by decide) rfl rfl ?_
        refine g_goto (tgt := 110) dX12_carriesLetters_139 (by decide) ?_
        exact (hk _ _ h).2 _ _ _ _ _ _ _ rfl hOK4
theorem ok_carriesLetters_8 {sh : gS} {M : gM} {x1 x2 x3 x4 : Int} {b : gM} (hOK : gOK sh M) (h : F_carriesLetters_8 M x1 x2 x3 x4 = some b) : gA (gr 3 66) yX12_carriesLetters cX12_carriesLetters 7 none (gPq sh none b) (0, 0) 8 [(4, 711), (0, x1), (0, x2), (0, x3), (0, x4), (9, 0), (9, 0)] [] sh M :=
  (okp_carriesLetters _ _ h).1 _ _ _ _ _ rfl hOK
theorem ok_carriesLetters_110 {sh : gS} {M : gM} {x1 x2 x3 x4 x5 x6 : Int} {b : gM} (hOK : gOK sh M) (h : F_carriesLetters_110 M x1 x2 x3 x4 x5 x6 = some b) : gA (gr 3 66) yX12_carriesLetters cX12_carriesLetters 7 none (gPq sh none b) (0, 0) 110 [(4, 711), (0, x1), (0, x2), (0, x3), (0, x4), (0, x5), (0, x6)] [] sh M :=
  (okp_carriesLetters _ _ h).2 _ _ _ _ _ _ _ rfl hOK
theorem ok_carriesLetters {sh : gS} {M : gM} {a1 a2 : Int} {b : gM} (hOK : gOK sh M) (h : F_carriesLetters M a1 a2 = some b) : gC (gr 3 66) yX12_carriesLetters cX12_carriesLetters 7 none [(4, 711), (0, a1), (0, a2)] sh M (gPq sh none b) := by
  rw [eq_carriesLetters] at h
  refine gC_ofA (lv := [_, _, _, _, _, _, _]) (by decide +kernel) (Nat.le_of_ble_eq_true rfl) rfl (fun hMw hav => ?_)
  refine g_aload_n (q0 := 1) (j := 0) rfl dX12_carriesLetters_0 rfl ?_
  refine g_getf (q0 := 4) (t := 0) (fi := 38) rfl rfl ff_X12_537 dX12_carriesLetters_1 rfl (sh_711 hOK) ?_
  refine g_istore_n (q0 := 5) (j := 3) (lv2 := [_, _, _, _, _, _, _]) rfl dX12_carriesLetters_4 (by decide) rfl rfl ?_
  refine g_iconst (q0 := 6) rfl dX12_carriesLetters_5 (k := ?_)
  refine g_istore (q0 := 8) (j := 4) (lv2 := [_, _, _, _, _, _, _]) rfl dX12_carriesLetters_6 (by decide) rfl rfl ?_
  exact ok_carriesLetters_8 hOK h
-- ==== carriesSaid
theorem dX12_carriesSaid_0 : decode cX12_carriesSaid 0 = .ok (.aload_n 0, 1) := by decide +kernel
theorem dX12_carriesSaid_1 : decode cX12_carriesSaid 1 = .ok (.iload_n 1, 1) := by decide +kernel
theorem dX12_carriesSaid_2 : decode cX12_carriesSaid 2 = .ok (.iload_n 2, 1) := by decide +kernel
theorem dX12_carriesSaid_3 : decode cX12_carriesSaid 3 = .ok (.invokevirtual 483, 3) := by decide +kernel
theorem dX12_carriesSaid_6 : decode cX12_carriesSaid 6 = .ok (.aload_n 0, 1) := by decide +kernel
theorem dX12_carriesSaid_7 : decode cX12_carriesSaid 7 = .ok (.iconst 0, 1) := by decide +kernel
theorem dX12_carriesSaid_8 : decode cX12_carriesSaid 8 = .ok (.putfield 189, 3) := by decide +kernel
theorem dX12_carriesSaid_11 : decode cX12_carriesSaid 11 = .ok (.aload_n 0, 1) := by decide +kernel
theorem dX12_carriesSaid_12 : decode cX12_carriesSaid 12 = .ok (.iconst 0, 1) := by decide +kernel
theorem dX12_carriesSaid_13 : decode cX12_carriesSaid 13 = .ok (.putfield 537, 3) := by decide +kernel
theorem dX12_carriesSaid_16 : decode cX12_carriesSaid 16 = .ok (.aload_n 0, 1) := by decide +kernel
theorem dX12_carriesSaid_17 : decode cX12_carriesSaid 17 = .ok (.getfield 537, 3) := by decide +kernel
theorem dX12_carriesSaid_20 : decode cX12_carriesSaid 20 = .ok (.aload_n 0, 1) := by decide +kernel
theorem dX12_carriesSaid_21 : decode cX12_carriesSaid 21 = .ok (.getfield 22, 3) := by decide +kernel
theorem dX12_carriesSaid_24 : decode cX12_carriesSaid 24 = .ok (.iload_n 2, 1) := by decide +kernel
theorem dX12_carriesSaid_25 : decode cX12_carriesSaid 25 = .ok (.iaload, 1) := by decide +kernel
theorem dX12_carriesSaid_26 : decode cX12_carriesSaid 26 = .ok (.if_icmp .ge 62, 3) := by decide +kernel
theorem dX12_carriesSaid_29 : decode cX12_carriesSaid 29 = .ok (.aload_n 0, 1) := by decide +kernel
theorem dX12_carriesSaid_30 : decode cX12_carriesSaid 30 = .ok (.iload_n 2, 1) := by decide +kernel
theorem dX12_carriesSaid_31 : decode cX12_carriesSaid 31 = .ok (.aload_n 0, 1) := by decide +kernel
theorem dX12_carriesSaid_32 : decode cX12_carriesSaid 32 = .ok (.getfield 537, 3) := by decide +kernel
theorem dX12_carriesSaid_35 : decode cX12_carriesSaid 35 = .ok (.invokevirtual 540, 3) := by decide +kernel
theorem dX12_carriesSaid_38 : decode cX12_carriesSaid 38 = .ok (.istore_n 3, 1) := by decide +kernel
theorem dX12_carriesSaid_39 : decode cX12_carriesSaid 39 = .ok (.iload_n 3, 1) := by decide +kernel
theorem dX12_carriesSaid_40 : decode cX12_carriesSaid 40 = .ok (.bipush 35, 2) := by decide +kernel
theorem dX12_carriesSaid_42 : decode cX12_carriesSaid 42 = .ok (.if_icmp .ne 12, 3) := by decide +kernel
theorem dX12_carriesSaid_45 : decode cX12_carriesSaid 45 = .ok (.aload_n 0, 1) := by decide +kernel
theorem dX12_carriesSaid_46 : decode cX12_carriesSaid 46 = .ok (.iload_n 1, 1) := by decide +kernel
theorem dX12_carriesSaid_47 : decode cX12_carriesSaid 47 = .ok (.iload_n 2, 1) := by decide +kernel
theorem dX12_carriesSaid_48 : decode cX12_carriesSaid 48 = .ok (.invokevirtual 552, 3) := by decide +kernel
theorem dX12_carriesSaid_51 : decode cX12_carriesSaid 51 = .ok (.goto 34, 3) := by decide +kernel
theorem dX12_carriesSaid_54 : decode cX12_carriesSaid 54 = .ok (.iload_n 3, 1) := by decide +kernel
theorem dX12_carriesSaid_55 : decode cX12_carriesSaid 55 = .ok (.invokestatic 281, 3) := by decide +kernel
theorem dX12_carriesSaid_58 : decode cX12_carriesSaid 58 = .ok (.ifCond .eq 12, 3) := by decide +kernel
theorem dX12_carriesSaid_61 : decode cX12_carriesSaid 61 = .ok (.aload_n 0, 1) := by decide +kernel
theorem dX12_carriesSaid_62 : decode cX12_carriesSaid 62 = .ok (.iload_n 1, 1) := by decide +kernel
theorem dX12_carriesSaid_63 : decode cX12_carriesSaid 63 = .ok (.iload_n 2, 1) := by decide +kernel
theorem dX12_carriesSaid_64 : decode cX12_carriesSaid 64 = .ok (.invokevirtual 555, 3) := by decide +kernel
theorem dX12_carriesSaid_67 : decode cX12_carriesSaid 67 = .ok (.goto 18, 3) := by decide +kernel
theorem dX12_carriesSaid_70 : decode cX12_carriesSaid 70 = .ok (.aload_n 0, 1) := by decide +kernel
theorem dX12_carriesSaid_71 : decode cX12_carriesSaid 71 = .ok (.iload_n 3, 1) := by decide +kernel
theorem dX12_carriesSaid_72 : decode cX12_carriesSaid 72 = .ok (.invokevirtual 534, 3) := by decide +kernel
theorem dX12_carriesSaid_75 : decode cX12_carriesSaid 75 = .ok (.aload_n 0, 1) := by decide +kernel
theorem dX12_carriesSaid_76 : decode cX12_carriesSaid 76 = .ok (.aload_n 0, 1) := by decide +kernel
theorem dX12_carriesSaid_77 : decode cX12_carriesSaid 77 = .ok (.getfield 537, 3) := by decide +kernel
theorem dX12_carriesSaid_80 : decode cX12_carriesSaid 80 = .ok (.iconst 1, 1) := by decide +kernel
theorem dX12_carriesSaid_81 : decode cX12_carriesSaid 81 = .ok (.iadd, 1) := by decide +kernel
theorem dX12_carriesSaid_82 : decode cX12_carriesSaid 82 = .ok (.putfield 537, 3) := by decide +kernel
theorem dX12_carriesSaid_85 : decode cX12_carriesSaid 85 = .ok (.goto (-69), 3) := by decide +kernel
theorem dX12_carriesSaid_88 : decode cX12_carriesSaid 88 = .ok (.aload_n 0, 1) := by decide +kernel
theorem dX12_carriesSaid_89 : decode cX12_carriesSaid 89 = .ok (.bipush 24, 2) := by decide +kernel
theorem dX12_carriesSaid_91 : decode cX12_carriesSaid 91 = .ok (.aload_n 0, 1) := by decide +kernel
theorem dX12_carriesSaid_92 : decode cX12_carriesSaid 92 = .ok (.getfield 189, 3) := by decide +kernel
theorem dX12_carriesSaid_95 : decode cX12_carriesSaid 95 = .ok (.invokestatic 558, 3) := by decide +kernel
theorem dX12_carriesSaid_98 : decode cX12_carriesSaid 98 = .ok (.putfield 189, 3) := by decide +kernel
theorem dX12_carriesSaid_101 : decode cX12_carriesSaid 101 = .ok (.return_, 1) := by decide +kernel
noncomputable def st_carriesSaid : Nat × List Int × gM → Option ((Nat × List Int × gM) ⊕ (gM))
  | (0, [x1, x2], M) => (if 0 ≤ x2 ∧ x2 < 120 then
      (if (M 711 38) < (M 716 x2) then
        (Option.bind (F_saidAt M x2 (M 711 38)) (fun r35 =>
          (if r35 = 35 then
            (Option.bind (F_carriesMention M x1 x2) (fun m48 =>
              some (.inl (0, [x1, x2], m48))))
          else
            (Option.bind (F_isSmall r35) (fun r55 =>
              (if r55 = 0 then
                (Option.bind (F_says M r35) (fun m72 =>
                  some (.inl (0, [x1, x2], (gU m72 711 38 (gw32 ((m72 711 38) + (1 : Int))))))))
              else
                (Option.bind (F_carriesLetters M x1 x2) (fun m64 =>
                  some (.inl (0, [x1, x2], m64))))))))))
      else
        (Option.bind (F_min 24 (M 711 13)) (fun r95 =>
          some (.inr (gU M 711 13 r95)))))
    else none)
  | _ => none
theorem sk_carriesSaid_16 (k : Nat × List Int × gM → Option (gM)) (M : gM) (x1 x2 : Int) : gWk k (st_carriesSaid (0, [x1, x2], M)) = (if 0 ≤ x2 ∧ x2 < 120 then
    (if (M 711 38) < (M 716 x2) then
      (Option.bind (F_saidAt M x2 (M 711 38)) (fun r35 =>
        (if r35 = 35 then
          (Option.bind (F_carriesMention M x1 x2) (fun m48 =>
            k (0, [x1, x2], m48)))
        else
          (Option.bind (F_isSmall r35) (fun r55 =>
            (if r55 = 0 then
              (Option.bind (F_says M r35) (fun m72 =>
                k (0, [x1, x2], (gU m72 711 38 (gw32 ((m72 711 38) + (1 : Int)))))))
            else
              (Option.bind (F_carriesLetters M x1 x2) (fun m64 =>
                k (0, [x1, x2], m64)))))))))
    else
      (Option.bind (F_min 24 (M 711 13)) (fun r95 =>
        some (gU M 711 13 r95))))
  else none) := by
  simp only [st_carriesSaid, gWk_ite, gWk_bind, gWk_inl, gWk_inr, gWk_none]
noncomputable def F_carriesSaid_16 (M : gM) (x1 x2 : Int) : Option (gM) := gWh (st_carriesSaid) (0, [x1, x2], M)
theorem eq_carriesSaid_16 (M : gM) (x1 x2 : Int) : F_carriesSaid_16 M x1 x2 = (if 0 ≤ x2 ∧ x2 < 120 then
    (if (M 711 38) < (M 716 x2) then
      (Option.bind (F_saidAt M x2 (M 711 38)) (fun r35 =>
        (if r35 = 35 then
          (Option.bind (F_carriesMention M x1 x2) (fun m48 =>
            F_carriesSaid_16 m48 x1 x2))
        else
          (Option.bind (F_isSmall r35) (fun r55 =>
            (if r55 = 0 then
              (Option.bind (F_says M r35) (fun m72 =>
                F_carriesSaid_16 (gU m72 711 38 (gw32 ((m72 711 38) + (1 : Int)))) x1 x2))
            else
              (Option.bind (F_carriesLetters M x1 x2) (fun m64 =>
                F_carriesSaid_16 m64 x1 x2))))))))
    else
      (Option.bind (F_min 24 (M 711 13)) (fun r95 =>
        some (gU M 711 13 r95))))
  else none) := (gWh_eq _).trans (sk_carriesSaid_16 _ M x1 x2)
noncomputable def F_carriesSaid (M : gM) (a1 a2 : Int) : Option (gM) := (Option.bind (F_marksElders M a1 a2) (fun m3 =>
    F_carriesSaid_16 (gU (gU m3 711 13 0) 711 38 0) a1 a2))
theorem eq_carriesSaid (M : gM) (a1 a2 : Int) : F_carriesSaid M a1 a2 = (Option.bind (F_marksElders M a1 a2) (fun m3 =>
    F_carriesSaid_16 (gU (gU m3 711 13 0) 711 38 0) a1 a2)) := rfl
theorem frp_carriesSaid : ∀ (s : Nat × List Int × gM) (b : gM), gWh (st_carriesSaid) s = some b → (∀ (x1 x2 : Int) (M : gM), s = (0, [x1, x2], M) → gFr [722, 732] [13, 38] M b) := by
  refine gWh_ind (fun k hk s b h => ?_)
  · rintro x1 x2 M rfl
    rw [sk_carriesSaid_16] at h
    obtain ⟨g1, h⟩ := gI_gd h
    rcases gI_or h with h | h
    · obtain ⟨r35, e35, h⟩ := gI_bd h
      rcases gI_or h with h | h
      · obtain ⟨m48, e48, h⟩ := gI_bd h
        exact gFr_t (gFr_t (gFr_r [722, 732] [13, 38] _) (fr_carriesMention (b := m48) e48) (by first | decide | simp) (by decide)) ((hk _ _ h) _ _ _ rfl) (fun _ z => z) (fun _ z => z)
      · obtain ⟨r55, e55, h⟩ := gI_bd h
        rcases gI_or h with h | h
        · obtain ⟨m72, e72, h⟩ := gI_bd h
          exact gFr_t (gFr_f (gFr_t (gFr_r [722, 732] [13, 38] _) (fr_says (b := m72) e72) (by first | decide | simp) (by decide)) (.tail _ (.head _))) ((hk _ _ h) _ _ _ rfl) (fun _ z => z) (fun _ z => z)
        · obtain ⟨m64, e64, h⟩ := gI_bd h
          exact gFr_t (gFr_t (gFr_r [722, 732] [13, 38] _) (fr_carriesLetters (b := m64) e64) (by first | decide | simp) (by decide)) ((hk _ _ h) _ _ _ rfl) (fun _ z => z) (fun _ z => z)
    · obtain ⟨r95, e95, h⟩ := gI_bd h
      rw [← Option.some.inj h]
      exact (gFr_f (gFr_r [722, 732] [13, 38] _) (.head _))
theorem fr_carriesSaid_16 {M : gM} {x1 x2 : Int} {b : gM} (h : F_carriesSaid_16 M x1 x2 = some b) : gFr [722, 732] [13, 38] M b :=
  (frp_carriesSaid _ _ h) _ _ _ rfl
theorem fr_carriesSaid {M : gM} {a1 a2 : Int} {b : gM} (h : F_carriesSaid M a1 a2 = some b) : gFr [722, 732] [13, 38] M b := by
  rw [eq_carriesSaid] at h
  obtain ⟨m3, e3, h⟩ := gI_bd h
  exact gFr_t (gFr_f (gFr_f (gFr_t (gFr_r [722, 732] [13, 38] _) (fr_marksElders (b := m3) e3) (by first | decide | simp) (by decide)) (.head _)) (.tail _ (.head _))) (fr_carriesSaid_16 h) (fun _ z => z) (fun _ z => z)
theorem okp_carriesSaid {sh : gS} : ∀ (s : Nat × List Int × gM) (b : gM), gWh (st_carriesSaid) s = some b → (∀ (x1 x2 : Int) (M : gM), s = (0, [x1, x2], M) → gOK sh M → gA (gr 6 137) yX12_carriesSaid cX12_carriesSaid 4 none (gPq sh none b) (0, 0) 16 [(4, 711), (0, x1), (0, x2), (9, 0)] [] sh M) := by
  refine gWh_ind (fun k hk s b h => ?_)
  · rintro x1 x2 M rfl hOK
    rw [sk_carriesSaid_16] at h
    refine g_aload_n (q0 := 17) (j := 0) rfl dX12_carriesSaid_16 rfl ?_
    refine g_getf (q0 := 20) (t := 0) (fi := 38) rfl rfl ff_X12_537 dX12_carriesSaid_17 rfl (sh_711 hOK) ?_
    refine g_aload_n (q0 := 21) (j := 0) rfl dX12_carriesSaid_20 rfl ?_
    refine g_getp (q0 := 24) (b := 716) rfl ff_X12_22 dX12_carriesSaid_21 rfl hOK (by decide) (sh_711 hOK) rfl (by decide) ?_
    refine g_iload_n (q0 := 25) (j := 2) rfl dX12_carriesSaid_24 rfl ?_
    obtain ⟨g1, h⟩ := gI_gd h
    refine g_iald (q0 := 26) rfl dX12_carriesSaid_25 (sh_716 hOK) g1.1 g1.2 ?_
    refine g_icmp_ge (q0 := 29) (tgt := 88) rfl dX12_carriesSaid_26 (by decide) (fun h26 => ?_) (fun h26 => ?_)
    · replace h := gI_neg (Int.not_lt.mpr h26) h
      refine g_aload_n (q0 := 89) (j := 0) rfl dX12_carriesSaid_88 rfl ?_
      refine g_bipush (q0 := 91) rfl dX12_carriesSaid_89 (k := ?_)
      refine g_aload_n (q0 := 92) (j := 0) rfl dX12_carriesSaid_91 rfl ?_
      refine g_getf (q0 := 95) (t := 0) (fi := 13) rfl rfl ff_X12_189 dX12_carriesSaid_92 rfl (sh_711 hOK) ?_
      obtain ⟨r95, e95, h⟩ := gI_bd h
      refine g_callSq1 (as := [_, _]) (rest := [_]) mt_X12_min ms_X12_min ml_X12_558 dX12_carriesSaid_95 (q0 := 98) rfl rfl (ok_min hOK e95) rfl ⟨by decide, by decide⟩ (Nat.le_of_ble_eq_true rfl) ⟨Nat.zero_le _, Nat.zero_le _⟩ ?_
      refine g_put (q0 := 101) (t := 0) (fi := 13) rfl rfl ff_X12_189 dX12_carriesSaid_98 rfl (sh_711 hOK) rfl (fun _ => ⟨rfl, rfl⟩) ?_
      have hOK2 : gOK sh (gU M 711 13 r95) := gOK_o hOK (sh_711 hOK) (f := 13) rfl rfl
      rw [← Option.some.inj h]
      refine g_return dX12_carriesSaid_101 rfl ⟨Nat.zero_le _, Nat.zero_le _⟩ ?_
      exact ⟨rfl, rfl, rfl⟩
    · replace h := gI_pos h26 h
      refine g_aload_n (q0 := 30) (j := 0) rfl dX12_carriesSaid_29 rfl ?_
      refine g_iload_n (q0 := 31) (j := 2) rfl dX12_carriesSaid_30 rfl ?_
      refine g_aload_n (q0 := 32) (j := 0) rfl dX12_carriesSaid_31 rfl ?_
      refine g_getf (q0 := 35) (t := 0) (fi := 38) rfl rfl ff_X12_537 dX12_carriesSaid_32 rfl (sh_711 hOK) ?_
      obtain ⟨r35, e35, h⟩ := gI_bd h
      refine g_callVq1 (as := [_, _]) (rest := []) mt_X12_saidAt mi_X12_saidAt se_X12_saidAt ml_X12_540 dX12_carriesSaid_35 (q0 := 38) rfl rfl (sh_711 hOK) rfl rfl (ok_saidAt hOK e35) rfl ⟨by decide, by decide⟩ (Nat.le_of_ble_eq_true rfl) ⟨Nat.zero_le _, Nat.zero_le _⟩ ?_
      refine g_istore_n (q0 := 39) (j := 3) (lv2 := [_, _, _, _]) rfl dX12_carriesSaid_38 (by decide) rfl rfl ?_
      refine g_iload_n (q0 := 40) (j := 3) rfl dX12_carriesSaid_39 rfl ?_
      refine g_bipush (q0 := 42) rfl dX12_carriesSaid_40 (k := ?_)
      refine g_icmp_ne (q0 := 45) (tgt := 54) rfl dX12_carriesSaid_42 (by decide) (fun h42 => ?_) (fun h42 => ?_)
      · replace h := gI_neg h42 h
        refine g_iload_n (q0 := 55) (j := 3) rfl dX12_carriesSaid_54 rfl ?_
        obtain ⟨r55, e55, h⟩ := gI_bd h
        refine g_callSq1 (as := [_]) (rest := []) mt_X12_isSmall ms_X12_isSmall ml_X12_281 dX12_carriesSaid_55 (q0 := 58) rfl rfl (ok_isSmall hOK e55) rfl ⟨by decide, by decide⟩ (Nat.le_of_ble_eq_true rfl) ⟨Nat.zero_le _, Nat.zero_le _⟩ ?_
        refine g_if_eq (q0 := 61) (tgt := 70) rfl dX12_carriesSaid_58 (by decide) (fun h58 => ?_) (fun h58 => ?_)
        · replace h := gI_pos h58 h
          refine g_aload_n (q0 := 71) (j := 0) rfl dX12_carriesSaid_70 rfl ?_
          refine g_iload_n (q0 := 72) (j := 3) rfl dX12_carriesSaid_71 rfl ?_
          obtain ⟨m72, e72, h⟩ := gI_bd h
          refine g_callVq0 (as := [_]) (rest := []) mt_X12_says mi_X12_says se_X12_says ml_X12_534 dX12_carriesSaid_72 (q0 := 75) rfl rfl (sh_711 hOK) rfl rfl (ok_says hOK e72) rfl ⟨by decide, by decide⟩ (Nat.le_of_ble_eq_true rfl) ⟨Nat.zero_le _, Nat.zero_le _⟩ ?_
          have hOK3 : gOK sh m72 := gOK_fr hOK (fr_says (b := m72) e72) (by first | decide | (intro a ha; simp only [List.mem_cons, List.not_mem_nil, or_false] at ha; omega)) (by decide)
          refine g_aload_n (q0 := 76) (j := 0) rfl dX12_carriesSaid_75 rfl ?_
          refine g_aload_n (q0 := 77) (j := 0) rfl dX12_carriesSaid_76 rfl ?_
          refine g_getf (q0 := 80) (t := 0) (fi := 38) rfl rfl ff_X12_537 dX12_carriesSaid_77 rfl (sh_711 hOK3) ?_
          refine g_iconst (q0 := 81) rfl dX12_carriesSaid_80 (k := ?_)
          refine g_iaddw (q0 := 82) rfl dX12_carriesSaid_81 ?_
          refine g_put (q0 := 85) (t := 0) (fi := 38) rfl rfl ff_X12_537 dX12_carriesSaid_82 rfl (sh_711 hOK3) rfl (fun _ => ⟨rfl, rfl⟩) ?_
          have hOK4 : gOK sh (gU m72 711 38 (gw32 ((m72 711 38) + (1 : Int)))) := gOK_o hOK3 (sh_711 hOK3) (f := 38) rfl rfl
          refine g_goto (tgt := 16) dX12_carriesSaid_85 (by decide) ?_
          refine gA_jk (lv1 := [_, _, _, (9, 0)]) ⟨.inl rfl, .inl rfl, .inl rfl, .inr rfl, trivial⟩ ?_
          exact (hk _ _ h) _ _ _ rfl hOK4
        · replace h := gI_neg h58 h
          refine g_aload_n (q0 := 62) (j := 0) rfl dX12_carriesSaid_61 rfl ?_
          refine g_iload_n (q0 := 63) (j := 1) rfl dX12_carriesSaid_62 rfl ?_
          refine g_iload_n (q0 := 64) (j := 2) rfl dX12_carriesSaid_63 rfl ?_
          obtain ⟨m64, e64, h⟩ := gI_bd h
          refine g_callVq0 (as := [_, _]) (rest := []) mt_X12_carriesLetters mi_X12_carriesLetters se_X12_carriesLetters ml_X12_555 dX12_carriesSaid_64 (q0 := 67) rfl rfl (sh_711 hOK) rfl rfl (ok_carriesLetters hOK e64) rfl ⟨by decide, by decide⟩ (Nat.le_of_ble_eq_true rfl) ⟨Nat.zero_le _, Nat.zero_le _⟩ ?_
          have hOK5 : gOK sh m64 := gOK_fr hOK (fr_carriesLetters (b := m64) e64) (by first | decide | (intro a ha; simp only [List.mem_cons, List.not_mem_nil, or_false] at ha; omega)) (by decide)
          refine g_goto (tgt := 85) dX12_carriesSaid_67 (by decide) ?_
          refine g_goto (tgt := 16) dX12_carriesSaid_85 (by decide) ?_
          refine gA_jk (lv1 := [_, _, _, (9, 0)]) ⟨.inl rfl, .inl rfl, .inl rfl, .inr rfl, trivial⟩ ?_
          exact (hk _ _ h) _ _ _ rfl hOK5
      · replace h := gI_pos h42 h
        refine g_aload_n (q0 := 46) (j := 0) rfl dX12_carriesSaid_45 rfl ?_
        refine g_iload_n (q0 := 47) (j := 1) rfl dX12_carriesSaid_46 rfl ?_
        refine g_iload_n (q0 := 48) (j := 2) rfl dX12_carriesSaid_47 rfl ?_
        obtain ⟨m48, e48, h⟩ := gI_bd h
        refine g_callVq0 (as := [_, _]) (rest := []) mt_X12_carriesMention mi_X12_carriesMention se_X12_carriesMention ml_X12_552 dX12_carriesSaid_48 (q0 := 51) rfl rfl (sh_711 hOK) rfl rfl (ok_carriesMention hOK e48) rfl ⟨by decide, by decide⟩ (Nat.le_of_ble_eq_true rfl) ⟨Nat.zero_le _, Nat.zero_le _⟩ ?_
        have hOK6 : gOK sh m48 := gOK_fr hOK (fr_carriesMention (b := m48) e48) (by first | decide | (intro a ha; simp only [List.mem_cons, List.not_mem_nil, or_false] at ha; omega)) (by decide)
        refine g_goto (tgt := 85) dX12_carriesSaid_51 (by decide) ?_
        refine g_goto (tgt := 16) dX12_carriesSaid_85 (by decide) ?_
        refine gA_jk (lv1 := [_, _, _, (9, 0)]) ⟨.inl rfl, .inl rfl, .inl rfl, .inr rfl, trivial⟩ ?_
        exact (hk _ _ h) _ _ _ rfl hOK6
theorem ok_carriesSaid_16 {sh : gS} {M : gM} {x1 x2 : Int} {b : gM} (hOK : gOK sh M) (h : F_carriesSaid_16 M x1 x2 = some b) : gA (gr 6 137) yX12_carriesSaid cX12_carriesSaid 4 none (gPq sh none b) (0, 0) 16 [(4, 711), (0, x1), (0, x2), (9, 0)] [] sh M :=
  (okp_carriesSaid _ _ h) _ _ _ rfl hOK
theorem ok_carriesSaid {sh : gS} {M : gM} {a1 a2 : Int} {b : gM} (hOK : gOK sh M) (h : F_carriesSaid M a1 a2 = some b) : gC (gr 6 137) yX12_carriesSaid cX12_carriesSaid 4 none [(4, 711), (0, a1), (0, a2)] sh M (gPq sh none b) := by
  rw [eq_carriesSaid] at h
  refine gC_ofA (lv := [_, _, _, _]) (by decide +kernel) (Nat.le_of_ble_eq_true rfl) rfl (fun hMw hav => ?_)
  refine g_aload_n (q0 := 1) (j := 0) rfl dX12_carriesSaid_0 rfl ?_
  refine g_iload_n (q0 := 2) (j := 1) rfl dX12_carriesSaid_1 rfl ?_
  refine g_iload_n (q0 := 3) (j := 2) rfl dX12_carriesSaid_2 rfl ?_
  obtain ⟨m3, e3, h⟩ := gI_bd h
  refine g_callVq0 (as := [_, _]) (rest := []) mt_X12_marksElders mi_X12_marksElders se_X12_marksElders ml_X12_483 dX12_carriesSaid_3 (q0 := 6) rfl rfl (sh_711 hOK) rfl rfl (ok_marksElders hOK e3) rfl ⟨by decide, by decide⟩ (Nat.le_of_ble_eq_true rfl) ⟨Nat.zero_le _, Nat.zero_le _⟩ ?_
  have hOK7 : gOK sh m3 := gOK_fr hOK (fr_marksElders (b := m3) e3) (by first | decide | (intro a ha; simp only [List.mem_cons, List.not_mem_nil, or_false] at ha; omega)) (by decide)
  refine g_aload_n (q0 := 7) (j := 0) rfl dX12_carriesSaid_6 rfl ?_
  refine g_iconst (q0 := 8) rfl dX12_carriesSaid_7 (k := ?_)
  refine g_put (q0 := 11) (t := 0) (fi := 13) rfl rfl ff_X12_189 dX12_carriesSaid_8 rfl (sh_711 hOK7) rfl (fun _ => ⟨rfl, rfl⟩) ?_
  have hOK8 : gOK sh (gU m3 711 13 0) := gOK_o hOK7 (sh_711 hOK7) (f := 13) rfl rfl
  refine g_aload_n (q0 := 12) (j := 0) rfl dX12_carriesSaid_11 rfl ?_
  refine g_iconst (q0 := 13) rfl dX12_carriesSaid_12 (k := ?_)
  refine g_put (q0 := 16) (t := 0) (fi := 38) rfl rfl ff_X12_537 dX12_carriesSaid_13 rfl (sh_711 hOK8) rfl (fun _ => ⟨rfl, rfl⟩) ?_
  have hOK9 : gOK sh (gU (gU m3 711 13 0) 711 38 0) := gOK_o hOK8 (sh_711 hOK8) (f := 38) rfl rfl
  exact ok_carriesSaid_16 hOK9 h
-- ==== isSkipped
theorem dX12_isSkipped_0 : decode cX12_isSkipped 0 = .ok (.aload_n 0, 1) := by decide +kernel
theorem dX12_isSkipped_1 : decode cX12_isSkipped 1 = .ok (.getfield 510, 3) := by decide +kernel
theorem dX12_isSkipped_4 : decode cX12_isSkipped 4 = .ok (.iconst 2, 1) := by decide +kernel
theorem dX12_isSkipped_5 : decode cX12_isSkipped 5 = .ok (.if_icmp .ge 42, 3) := by decide +kernel
theorem dX12_isSkipped_8 : decode cX12_isSkipped 8 = .ok (.aload_n 0, 1) := by decide +kernel
theorem dX12_isSkipped_9 : decode cX12_isSkipped 9 = .ok (.iload_n 1, 1) := by decide +kernel
theorem dX12_isSkipped_10 : decode cX12_isSkipped 10 = .ok (.bipush 10, 2) := by decide +kernel
theorem dX12_isSkipped_12 : decode cX12_isSkipped 12 = .ok (.invokevirtual 452, 3) := by decide +kernel
theorem dX12_isSkipped_15 : decode cX12_isSkipped 15 = .ok (.aload_n 0, 1) := by decide +kernel
theorem dX12_isSkipped_16 : decode cX12_isSkipped 16 = .ok (.getfield 16, 3) := by decide +kernel
theorem dX12_isSkipped_19 : decode cX12_isSkipped 19 = .ok (.iload_n 2, 1) := by decide +kernel
theorem dX12_isSkipped_20 : decode cX12_isSkipped 20 = .ok (.iaload, 1) := by decide +kernel
theorem dX12_isSkipped_21 : decode cX12_isSkipped 21 = .ok (.invokestatic 418, 3) := by decide +kernel
theorem dX12_isSkipped_24 : decode cX12_isSkipped 24 = .ok (.ifCond .ne 19, 3) := by decide +kernel
theorem dX12_isSkipped_27 : decode cX12_isSkipped 27 = .ok (.aload_n 0, 1) := by decide +kernel
theorem dX12_isSkipped_28 : decode cX12_isSkipped 28 = .ok (.getfield 19, 3) := by decide +kernel
theorem dX12_isSkipped_31 : decode cX12_isSkipped 31 = .ok (.iload_n 2, 1) := by decide +kernel
theorem dX12_isSkipped_32 : decode cX12_isSkipped 32 = .ok (.iaload, 1) := by decide +kernel
theorem dX12_isSkipped_33 : decode cX12_isSkipped 33 = .ok (.aload_n 0, 1) := by decide +kernel
theorem dX12_isSkipped_34 : decode cX12_isSkipped 34 = .ok (.iload_n 1, 1) := by decide +kernel
theorem dX12_isSkipped_35 : decode cX12_isSkipped 35 = .ok (.bipush 14, 2) := by decide +kernel
theorem dX12_isSkipped_37 : decode cX12_isSkipped 37 = .ok (.invokevirtual 452, 3) := by decide +kernel
theorem dX12_isSkipped_40 : decode cX12_isSkipped 40 = .ok (.if_icmp .ge 7, 3) := by decide +kernel
theorem dX12_isSkipped_43 : decode cX12_isSkipped 43 = .ok (.iconst 1, 1) := by decide +kernel
theorem dX12_isSkipped_44 : decode cX12_isSkipped 44 = .ok (.goto 4, 3) := by decide +kernel
theorem dX12_isSkipped_47 : decode cX12_isSkipped 47 = .ok (.iconst 0, 1) := by decide +kernel
theorem dX12_isSkipped_48 : decode cX12_isSkipped 48 = .ok (.ireturn, 1) := by decide +kernel
noncomputable def F_isSkipped (M : gM) (a1 a2 : Int) : Option (Int) := (if (M 711 37) < 2 then
    (Option.bind (F_ofPlan M a1 10) (fun r12 =>
      (if 0 ≤ a2 ∧ a2 < 120 then
        (Option.bind (F_has r12 (M 714 a2)) (fun r21 =>
          (if r21 = 0 then
            (Option.bind (F_ofPlan M a1 14) (fun r37 =>
              (if (M 715 a2) < r37 then
                some 1
              else
                some 0)))
          else
            some 1)))
      else none)))
  else
    some 0)
theorem eq_isSkipped (M : gM) (a1 a2 : Int) : F_isSkipped M a1 a2 = (if (M 711 37) < 2 then
    (Option.bind (F_ofPlan M a1 10) (fun r12 =>
      (if 0 ≤ a2 ∧ a2 < 120 then
        (Option.bind (F_has r12 (M 714 a2)) (fun r21 =>
          (if r21 = 0 then
            (Option.bind (F_ofPlan M a1 14) (fun r37 =>
              (if (M 715 a2) < r37 then
                some 1
              else
                some 0)))
          else
            some 1)))
      else none)))
  else
    some 0) := rfl
theorem bo_isSkipped {M : gM} {a1 a2 : Int} {b : Int} (h : F_isSkipped M a1 a2 = some b) : b = 0 ∨ b = 1 := by
  rw [eq_isSkipped] at h
  rcases gI_or h with h | h
  · obtain ⟨r12, e12, h⟩ := gI_bd h
    obtain ⟨g1, h⟩ := gI_gd h
    obtain ⟨r21, e21, h⟩ := gI_bd h
    rcases gI_or h with h | h
    · obtain ⟨r37, e37, h⟩ := gI_bd h
      rcases gI_or h with h | h
      · rw [← Option.some.inj h]
        exact (Or.inr rfl)
      · rw [← Option.some.inj h]
        exact (Or.inl rfl)
    · rw [← Option.some.inj h]
      exact (Or.inr rfl)
  · rw [← Option.some.inj h]
    exact (Or.inl rfl)
theorem ok_isSkipped {sh : gS} {M : gM} {a1 a2 : Int} {b : Int} (hOK : gOK sh M) (h : F_isSkipped M a1 a2 = some b) : gC (gr 1 22) yX12_isSkipped cX12_isSkipped 3 (some (.boolean)) [(4, 711), (0, a1), (0, a2)] sh M (gPq sh (some (0, b)) M) := by
  rw [eq_isSkipped] at h
  refine gC_ofA (lv := [_, _, _]) (by decide +kernel) (Nat.le_of_ble_eq_true rfl) rfl (fun hMw hav => ?_)
  refine g_aload_n (q0 := 1) (j := 0) rfl dX12_isSkipped_0 rfl ?_
  refine g_getf (q0 := 4) (t := 0) (fi := 37) rfl rfl ff_X12_510 dX12_isSkipped_1 rfl (sh_711 hOK) ?_
  refine g_iconst (q0 := 5) rfl dX12_isSkipped_4 (k := ?_)
  refine g_icmp_ge (q0 := 8) (tgt := 47) rfl dX12_isSkipped_5 (by decide) (fun h5 => ?_) (fun h5 => ?_)
  · replace h := gI_neg (Int.not_lt.mpr h5) h
    refine g_iconst (q0 := 48) rfl dX12_isSkipped_47 (k := ?_)
    rw [← Option.some.inj h]
    refine g_zreturn dX12_isSkipped_48 rfl (gnz (Or.inl rfl)) ⟨Nat.zero_le _, Nat.zero_le _⟩ ?_
    exact ⟨rfl, rfl, rfl⟩
  · replace h := gI_pos h5 h
    refine g_aload_n (q0 := 9) (j := 0) rfl dX12_isSkipped_8 rfl ?_
    refine g_iload_n (q0 := 10) (j := 1) rfl dX12_isSkipped_9 rfl ?_
    refine g_bipush (q0 := 12) rfl dX12_isSkipped_10 (k := ?_)
    obtain ⟨r12, e12, h⟩ := gI_bd h
    refine g_callVq1 (as := [_, _]) (rest := []) mt_X12_ofPlan mi_X12_ofPlan se_X12_ofPlan ml_X12_452 dX12_isSkipped_12 (q0 := 15) rfl rfl (sh_711 hOK) rfl rfl (ok_ofPlan hOK e12) rfl ⟨by decide, by decide⟩ (Nat.le_of_ble_eq_true rfl) ⟨Nat.zero_le _, Nat.zero_le _⟩ ?_
    refine g_aload_n (q0 := 16) (j := 0) rfl dX12_isSkipped_15 rfl ?_
    refine g_getp (q0 := 19) (b := 714) rfl ff_X12_16 dX12_isSkipped_16 rfl hOK (by decide) (sh_711 hOK) rfl (by decide) ?_
    refine g_iload_n (q0 := 20) (j := 2) rfl dX12_isSkipped_19 rfl ?_
    obtain ⟨g1, h⟩ := gI_gd h
    refine g_iald (q0 := 21) rfl dX12_isSkipped_20 (sh_714 hOK) g1.1 g1.2 ?_
    obtain ⟨r21, e21, h⟩ := gI_bd h
    refine g_callSq1 (as := [_, _]) (rest := []) mt_X12_has ms_X12_has ml_X12_418 dX12_isSkipped_21 (q0 := 24) rfl rfl (ok_has hOK e21) rfl ⟨by decide, by decide⟩ (Nat.le_of_ble_eq_true rfl) ⟨Nat.zero_le _, Nat.zero_le _⟩ ?_
    refine g_if_ne (q0 := 27) (tgt := 43) rfl dX12_isSkipped_24 (by decide) (fun h24 => ?_) (fun h24 => ?_)
    · replace h := gI_neg h24 h
      refine g_iconst (q0 := 44) rfl dX12_isSkipped_43 (k := ?_)
      refine g_goto (tgt := 48) dX12_isSkipped_44 (by decide) ?_
      rw [← Option.some.inj h]
      refine g_zreturn dX12_isSkipped_48 rfl (gnz (Or.inr rfl)) ⟨Nat.zero_le _, Nat.zero_le _⟩ ?_
      exact ⟨rfl, rfl, rfl⟩
    · replace h := gI_pos h24 h
      refine g_aload_n (q0 := 28) (j := 0) rfl dX12_isSkipped_27 rfl ?_
      refine g_getp (q0 := 31) (b := 715) rfl ff_X12_19 dX12_isSkipped_28 rfl hOK (by decide) (sh_711 hOK) rfl (by decide) ?_
      refine g_iload_n (q0 := 32) (j := 2) rfl dX12_isSkipped_31 rfl ?_
      refine g_iald (q0 := 33) rfl dX12_isSkipped_32 (sh_715 hOK) g1.1 g1.2 ?_
      refine g_aload_n (q0 := 34) (j := 0) rfl dX12_isSkipped_33 rfl ?_
      refine g_iload_n (q0 := 35) (j := 1) rfl dX12_isSkipped_34 rfl ?_
      refine g_bipush (q0 := 37) rfl dX12_isSkipped_35 (k := ?_)
      obtain ⟨r37, e37, h⟩ := gI_bd h
      refine g_callVq1 (as := [_, _]) (rest := [_]) mt_X12_ofPlan mi_X12_ofPlan se_X12_ofPlan ml_X12_452 dX12_isSkipped_37 (q0 := 40) rfl rfl (sh_711 hOK) rfl rfl (ok_ofPlan hOK e37) rfl ⟨by decide, by decide⟩ (Nat.le_of_ble_eq_true rfl) ⟨Nat.zero_le _, Nat.zero_le _⟩ ?_
      refine g_icmp_ge (q0 := 43) (tgt := 47) rfl dX12_isSkipped_40 (by decide) (fun h40 => ?_) (fun h40 => ?_)
      · replace h := gI_neg (Int.not_lt.mpr h40) h
        refine g_iconst (q0 := 48) rfl dX12_isSkipped_47 (k := ?_)
        rw [← Option.some.inj h]
        refine g_zreturn dX12_isSkipped_48 rfl (gnz (Or.inl rfl)) ⟨Nat.zero_le _, Nat.zero_le _⟩ ?_
        exact ⟨rfl, rfl, rfl⟩
      · replace h := gI_pos h40 h
        refine g_iconst (q0 := 44) rfl dX12_isSkipped_43 (k := ?_)
        refine g_goto (tgt := 48) dX12_isSkipped_44 (by decide) ?_
        rw [← Option.some.inj h]
        refine g_zreturn dX12_isSkipped_48 rfl (gnz (Or.inr rfl)) ⟨Nat.zero_le _, Nat.zero_le _⟩ ?_
        exact ⟨rfl, rfl, rfl⟩
-- ==== maps
theorem dX12_maps_0 : decode cX12_maps 0 = .ok (.aload_n 0, 1) := by decide +kernel
theorem dX12_maps_1 : decode cX12_maps 1 = .ok (.getfield 66, 3) := by decide +kernel
theorem dX12_maps_4 : decode cX12_maps 4 = .ok (.bipush 120, 2) := by decide +kernel
theorem dX12_maps_6 : decode cX12_maps 6 = .ok (.iload_n 1, 1) := by decide +kernel
theorem dX12_maps_7 : decode cX12_maps 7 = .ok (.imul, 1) := by decide +kernel
theorem dX12_maps_8 : decode cX12_maps 8 = .ok (.iload_n 2, 1) := by decide +kernel
theorem dX12_maps_9 : decode cX12_maps 9 = .ok (.iadd, 1) := by decide +kernel
theorem dX12_maps_10 : decode cX12_maps 10 = .ok (.iload_n 3, 1) := by decide +kernel
theorem dX12_maps_11 : decode cX12_maps 11 = .ok (.iastore, 1) := by decide +kernel
theorem dX12_maps_12 : decode cX12_maps 12 = .ok (.aload_n 0, 1) := by decide +kernel
theorem dX12_maps_13 : decode cX12_maps 13 = .ok (.getfield 69, 3) := by decide +kernel
theorem dX12_maps_16 : decode cX12_maps 16 = .ok (.bipush 120, 2) := by decide +kernel
theorem dX12_maps_18 : decode cX12_maps 18 = .ok (.iload_n 1, 1) := by decide +kernel
theorem dX12_maps_19 : decode cX12_maps 19 = .ok (.imul, 1) := by decide +kernel
theorem dX12_maps_20 : decode cX12_maps 20 = .ok (.iload_n 2, 1) := by decide +kernel
theorem dX12_maps_21 : decode cX12_maps 21 = .ok (.iadd, 1) := by decide +kernel
theorem dX12_maps_22 : decode cX12_maps 22 = .ok (.iload 4, 2) := by decide +kernel
theorem dX12_maps_24 : decode cX12_maps 24 = .ok (.iastore, 1) := by decide +kernel
theorem dX12_maps_25 : decode cX12_maps 25 = .ok (.return_, 1) := by decide +kernel
noncomputable def F_maps (M : gM) (a1 a2 a3 a4 : Int) : Option (gM) := (if 0 ≤ (gw32 ((gw32 ((120 : Int) * a1)) + a2)) ∧ (gw32 ((gw32 ((120 : Int) * a1)) + a2)) < 480 then
    some (gU (gU M 730 (gw32 ((gw32 ((120 : Int) * a1)) + a2)) a3) 731 (gw32 ((gw32 ((120 : Int) * a1)) + a2)) a4)
  else none)
theorem eq_maps (M : gM) (a1 a2 a3 a4 : Int) : F_maps M a1 a2 a3 a4 = (if 0 ≤ (gw32 ((gw32 ((120 : Int) * a1)) + a2)) ∧ (gw32 ((gw32 ((120 : Int) * a1)) + a2)) < 480 then
    some (gU (gU M 730 (gw32 ((gw32 ((120 : Int) * a1)) + a2)) a3) 731 (gw32 ((gw32 ((120 : Int) * a1)) + a2)) a4)
  else none) := rfl
theorem fr_maps {M : gM} {a1 a2 a3 a4 : Int} {b : gM} (h : F_maps M a1 a2 a3 a4 = some b) : gFr [730, 731] [] M b := by
  rw [eq_maps] at h
  obtain ⟨g1, h⟩ := gI_gd h
  rw [← Option.some.inj h]
  exact (gFr_a (gFr_a (gFr_r [730, 731] [] _) (.head _) (by decide)) (.tail _ (.head _)) (by decide))
theorem ok_maps {sh : gS} {M : gM} {a1 a2 a3 a4 : Int} {b : gM} (hOK : gOK sh M) (h : F_maps M a1 a2 a3 a4 = some b) : gC (gr 0 0) yX12_maps cX12_maps 5 none [(4, 711), (0, a1), (0, a2), (0, a3), (0, a4)] sh M (gPq sh none b) := by
  rw [eq_maps] at h
  refine gC_ofA (lv := [_, _, _, _, _]) (by decide +kernel) (Nat.le_of_ble_eq_true rfl) rfl (fun hMw hav => ?_)
  refine g_aload_n (q0 := 1) (j := 0) rfl dX12_maps_0 rfl ?_
  refine g_getp (q0 := 4) (b := 730) rfl ff_X12_66 dX12_maps_1 rfl hOK (by decide) (sh_711 hOK) rfl (by decide) ?_
  refine g_bipush (q0 := 6) rfl dX12_maps_4 (k := ?_)
  refine g_iload_n (q0 := 7) (j := 1) rfl dX12_maps_6 rfl ?_
  refine g_imulw (q0 := 8) rfl dX12_maps_7 ?_
  refine g_iload_n (q0 := 9) (j := 2) rfl dX12_maps_8 rfl ?_
  refine g_iaddw (q0 := 10) rfl dX12_maps_9 ?_
  refine g_iload_n (q0 := 11) (j := 3) rfl dX12_maps_10 rfl ?_
  obtain ⟨g1, h⟩ := gI_gd h
  refine g_iast (q0 := 12) rfl dX12_maps_11 (sh_730 hOK) g1.1 g1.2 ?_
  have hOK2 : gOK sh (gU M 730 (gw32 ((gw32 ((120 : Int) * a1)) + a2)) a3) := gOK_i hOK (sh_730 hOK)
  refine g_aload_n (q0 := 13) (j := 0) rfl dX12_maps_12 rfl ?_
  refine g_getp (q0 := 16) (b := 731) rfl ff_X12_69 dX12_maps_13 rfl hOK2 (by decide) (sh_711 hOK2) rfl (by decide) ?_
  refine g_bipush (q0 := 18) rfl dX12_maps_16 (k := ?_)
  refine g_iload_n (q0 := 19) (j := 1) rfl dX12_maps_18 rfl ?_
  refine g_imulw (q0 := 20) rfl dX12_maps_19 ?_
  refine g_iload_n (q0 := 21) (j := 2) rfl dX12_maps_20 rfl ?_
  refine g_iaddw (q0 := 22) rfl dX12_maps_21 ?_
  refine g_iload (q0 := 24) (j := 4) rfl dX12_maps_22 rfl ?_
  refine g_iast (q0 := 25) rfl dX12_maps_24 (sh_731 hOK2) g1.1 g1.2 ?_
  have hOK3 : gOK sh (gU (gU M 730 (gw32 ((gw32 ((120 : Int) * a1)) + a2)) a3) 731 (gw32 ((gw32 ((120 : Int) * a1)) + a2)) a4) := gOK_i hOK2 (sh_731 hOK2)
  rw [← Option.some.inj h]
  refine g_return dX12_maps_25 rfl ⟨Nat.zero_le _, Nat.zero_le _⟩ ?_
  exact ⟨rfl, rfl, rfl⟩
