-- ==== in
theorem dX12_in_0 : decode cX12_in 0 = .ok (.iload_n 0, 1) := by decide +kernel
theorem dX12_in_1 : decode cX12_in 1 = .ok (.iload_n 1, 1) := by decide +kernel
theorem dX12_in_2 : decode cX12_in 2 = .ok (.if_icmp .lt 12, 3) := by decide +kernel
theorem dX12_in_5 : decode cX12_in 5 = .ok (.iload_n 0, 1) := by decide +kernel
theorem dX12_in_6 : decode cX12_in 6 = .ok (.iload_n 2, 1) := by decide +kernel
theorem dX12_in_7 : decode cX12_in 7 = .ok (.if_icmp .gt 7, 3) := by decide +kernel
theorem dX12_in_10 : decode cX12_in 10 = .ok (.iconst 1, 1) := by decide +kernel
theorem dX12_in_11 : decode cX12_in 11 = .ok (.goto 4, 3) := by decide +kernel
theorem dX12_in_14 : decode cX12_in 14 = .ok (.iconst 0, 1) := by decide +kernel
theorem dX12_in_15 : decode cX12_in 15 = .ok (.ireturn, 1) := by decide +kernel
noncomputable def F_in (a0 a1 a2 : Int) : Option (Int) := (if a0 < a1 then
    some 0
  else
    (if a2 < a0 then
      some 0
    else
      some 1))
theorem eq_in (a0 a1 a2 : Int) : F_in a0 a1 a2 = (if a0 < a1 then
    some 0
  else
    (if a2 < a0 then
      some 0
    else
      some 1)) := rfl
theorem bo_in {a0 a1 a2 : Int} {b : Int} (h : F_in a0 a1 a2 = some b) : b = 0 ∨ b = 1 := by
  rw [eq_in] at h
  rcases gI_or h with h | h
  · rw [← Option.some.inj h]
    exact (Or.inl rfl)
  · rcases gI_or h with h | h
    · rw [← Option.some.inj h]
      exact (Or.inl rfl)
    · rw [← Option.some.inj h]
      exact (Or.inr rfl)
theorem ok_in {sh : gS} {M : gM} {a0 a1 a2 : Int} {b : Int} (hOK : gOK sh M) (h : F_in a0 a1 a2 = some b) : gC (gr 0 0) yX12_in cX12_in 3 (some (.boolean)) [(0, a0), (0, a1), (0, a2)] sh M (gPq sh (some (0, b)) M) := by
  rw [eq_in] at h
  refine gC_ofA (lv := [_, _, _]) (by decide +kernel) (Nat.le_of_ble_eq_true rfl) rfl (fun hMw hav => ?_)
  refine g_iload_n (q0 := 1) (j := 0) rfl dX12_in_0 rfl ?_
  refine g_iload_n (q0 := 2) (j := 1) rfl dX12_in_1 rfl ?_
  refine g_icmp_lt (q0 := 5) (tgt := 14) rfl dX12_in_2 (by decide) (fun h2 => ?_) (fun h2 => ?_)
  · replace h := gI_pos h2 h
    refine g_iconst (q0 := 15) rfl dX12_in_14 (k := ?_)
    rw [← Option.some.inj h]
    refine g_zreturn dX12_in_15 rfl (gnz (Or.inl rfl)) ⟨Nat.zero_le _, Nat.zero_le _⟩ ?_
    exact ⟨rfl, rfl, rfl⟩
  · replace h := gI_neg (Int.not_lt.mpr h2) h
    refine g_iload_n (q0 := 6) (j := 0) rfl dX12_in_5 rfl ?_
    refine g_iload_n (q0 := 7) (j := 2) rfl dX12_in_6 rfl ?_
    refine g_icmp_gt (q0 := 10) (tgt := 14) rfl dX12_in_7 (by decide) (fun h7 => ?_) (fun h7 => ?_)
    · replace h := gI_pos h7 h
      refine g_iconst (q0 := 15) rfl dX12_in_14 (k := ?_)
      rw [← Option.some.inj h]
      refine g_zreturn dX12_in_15 rfl (gnz (Or.inl rfl)) ⟨Nat.zero_le _, Nat.zero_le _⟩ ?_
      exact ⟨rfl, rfl, rfl⟩
    · replace h := gI_neg (Int.not_lt.mpr h7) h
      refine g_iconst (q0 := 11) rfl dX12_in_10 (k := ?_)
      refine g_goto (tgt := 15) dX12_in_11 (by decide) ?_
      rw [← Option.some.inj h]
      refine g_zreturn dX12_in_15 rfl (gnz (Or.inr rfl)) ⟨Nat.zero_le _, Nat.zero_le _⟩ ?_
      exact ⟨rfl, rfl, rfl⟩
-- ==== min
theorem dX12_min_0 : decode cX12_min 0 = .ok (.iload_n 0, 1) := by decide +kernel
theorem dX12_min_1 : decode cX12_min 1 = .ok (.iload_n 1, 1) := by decide +kernel
theorem dX12_min_2 : decode cX12_min 2 = .ok (.if_icmp .ge 7, 3) := by decide +kernel
theorem dX12_min_5 : decode cX12_min 5 = .ok (.iload_n 0, 1) := by decide +kernel
theorem dX12_min_6 : decode cX12_min 6 = .ok (.goto 4, 3) := by decide +kernel
theorem dX12_min_9 : decode cX12_min 9 = .ok (.iload_n 1, 1) := by decide +kernel
theorem dX12_min_10 : decode cX12_min 10 = .ok (.ireturn, 1) := by decide +kernel
noncomputable def F_min (a0 a1 : Int) : Option (Int) := (if a0 < a1 then
    some a0
  else
    some a1)
theorem eq_min (a0 a1 : Int) : F_min a0 a1 = (if a0 < a1 then
    some a0
  else
    some a1) := rfl
theorem ok_min {sh : gS} {M : gM} {a0 a1 : Int} {b : Int} (hOK : gOK sh M) (h : F_min a0 a1 = some b) : gC (gr 0 0) yX12_min cX12_min 2 (some (.int)) [(0, a0), (0, a1)] sh M (gPq sh (some (0, b)) M) := by
  rw [eq_min] at h
  refine gC_ofA (lv := [_, _]) (by decide +kernel) (Nat.le_of_ble_eq_true rfl) rfl (fun hMw hav => ?_)
  refine g_iload_n (q0 := 1) (j := 0) rfl dX12_min_0 rfl ?_
  refine g_iload_n (q0 := 2) (j := 1) rfl dX12_min_1 rfl ?_
  refine g_icmp_ge (q0 := 5) (tgt := 9) rfl dX12_min_2 (by decide) (fun h2 => ?_) (fun h2 => ?_)
  · replace h := gI_neg (Int.not_lt.mpr h2) h
    refine g_iload_n (q0 := 10) (j := 1) rfl dX12_min_9 rfl ?_
    rw [← Option.some.inj h]
    refine g_ireturn dX12_min_10 rfl ⟨Nat.zero_le _, Nat.zero_le _⟩ ?_
    exact ⟨rfl, rfl, rfl⟩
  · replace h := gI_pos h2 h
    refine g_iload_n (q0 := 6) (j := 0) rfl dX12_min_5 rfl ?_
    refine g_goto (tgt := 10) dX12_min_6 (by decide) ?_
    rw [← Option.some.inj h]
    refine g_ireturn dX12_min_10 rfl ⟨Nat.zero_le _, Nat.zero_le _⟩ ?_
    exact ⟨rfl, rfl, rfl⟩
-- ==== max
theorem dX12_max_0 : decode cX12_max 0 = .ok (.iload_n 0, 1) := by decide +kernel
theorem dX12_max_1 : decode cX12_max 1 = .ok (.iload_n 1, 1) := by decide +kernel
theorem dX12_max_2 : decode cX12_max 2 = .ok (.if_icmp .le 7, 3) := by decide +kernel
theorem dX12_max_5 : decode cX12_max 5 = .ok (.iload_n 0, 1) := by decide +kernel
theorem dX12_max_6 : decode cX12_max 6 = .ok (.goto 4, 3) := by decide +kernel
theorem dX12_max_9 : decode cX12_max 9 = .ok (.iload_n 1, 1) := by decide +kernel
theorem dX12_max_10 : decode cX12_max 10 = .ok (.ireturn, 1) := by decide +kernel
noncomputable def F_max (a0 a1 : Int) : Option (Int) := (if a1 < a0 then
    some a0
  else
    some a1)
theorem eq_max (a0 a1 : Int) : F_max a0 a1 = (if a1 < a0 then
    some a0
  else
    some a1) := rfl
theorem ok_max {sh : gS} {M : gM} {a0 a1 : Int} {b : Int} (hOK : gOK sh M) (h : F_max a0 a1 = some b) : gC (gr 0 0) yX12_max cX12_max 2 (some (.int)) [(0, a0), (0, a1)] sh M (gPq sh (some (0, b)) M) := by
  rw [eq_max] at h
  refine gC_ofA (lv := [_, _]) (by decide +kernel) (Nat.le_of_ble_eq_true rfl) rfl (fun hMw hav => ?_)
  refine g_iload_n (q0 := 1) (j := 0) rfl dX12_max_0 rfl ?_
  refine g_iload_n (q0 := 2) (j := 1) rfl dX12_max_1 rfl ?_
  refine g_icmp_le (q0 := 5) (tgt := 9) rfl dX12_max_2 (by decide) (fun h2 => ?_) (fun h2 => ?_)
  · replace h := gI_neg (Int.not_lt.mpr h2) h
    refine g_iload_n (q0 := 10) (j := 1) rfl dX12_max_9 rfl ?_
    rw [← Option.some.inj h]
    refine g_ireturn dX12_max_10 rfl ⟨Nat.zero_le _, Nat.zero_le _⟩ ?_
    exact ⟨rfl, rfl, rfl⟩
  · replace h := gI_pos h2 h
    refine g_iload_n (q0 := 6) (j := 0) rfl dX12_max_5 rfl ?_
    refine g_goto (tgt := 10) dX12_max_6 (by decide) ?_
    rw [← Option.some.inj h]
    refine g_ireturn dX12_max_10 rfl ⟨Nat.zero_le _, Nat.zero_le _⟩ ?_
    exact ⟨rfl, rfl, rfl⟩
-- ==== has
theorem dX12_has_0 : decode cX12_has 0 = .ok (.iload_n 0, 1) := by decide +kernel
theorem dX12_has_1 : decode cX12_has 1 = .ok (.iload_n 1, 1) := by decide +kernel
theorem dX12_has_2 : decode cX12_has 2 = .ok (.ishr, 1) := by decide +kernel
theorem dX12_has_3 : decode cX12_has 3 = .ok (.iconst 1, 1) := by decide +kernel
theorem dX12_has_4 : decode cX12_has 4 = .ok (.iand, 1) := by decide +kernel
theorem dX12_has_5 : decode cX12_has 5 = .ok (.iconst 1, 1) := by decide +kernel
theorem dX12_has_6 : decode cX12_has 6 = .ok (.if_icmp .ne 7, 3) := by decide +kernel
theorem dX12_has_9 : decode cX12_has 9 = .ok (.iconst 1, 1) := by decide +kernel
theorem dX12_has_10 : decode cX12_has 10 = .ok (.goto 4, 3) := by decide +kernel
theorem dX12_has_13 : decode cX12_has 13 = .ok (.iconst 0, 1) := by decide +kernel
theorem dX12_has_14 : decode cX12_has 14 = .ok (.ireturn, 1) := by decide +kernel
noncomputable def F_has (a0 a1 : Int) : Option (Int) := (if (gand (gshr a0 a1) 1) = 1 then
    some 1
  else
    some 0)
theorem eq_has (a0 a1 : Int) : F_has a0 a1 = (if (gand (gshr a0 a1) 1) = 1 then
    some 1
  else
    some 0) := rfl
theorem bo_has {a0 a1 : Int} {b : Int} (h : F_has a0 a1 = some b) : b = 0 ∨ b = 1 := by
  rw [eq_has] at h
  rcases gI_or h with h | h
  · rw [← Option.some.inj h]
    exact (Or.inr rfl)
  · rw [← Option.some.inj h]
    exact (Or.inl rfl)
theorem ok_has {sh : gS} {M : gM} {a0 a1 : Int} {b : Int} (hOK : gOK sh M) (h : F_has a0 a1 = some b) : gC (gr 0 0) yX12_has cX12_has 2 (some (.boolean)) [(0, a0), (0, a1)] sh M (gPq sh (some (0, b)) M) := by
  rw [eq_has] at h
  refine gC_ofA (lv := [_, _]) (by decide +kernel) (Nat.le_of_ble_eq_true rfl) rfl (fun hMw hav => ?_)
  refine g_iload_n (q0 := 1) (j := 0) rfl dX12_has_0 rfl ?_
  refine g_iload_n (q0 := 2) (j := 1) rfl dX12_has_1 rfl ?_
  refine g_ishr (q0 := 3) rfl dX12_has_2 ?_
  refine g_iconst (q0 := 4) rfl dX12_has_3 (k := ?_)
  refine g_iand (q0 := 5) rfl dX12_has_4 ?_
  refine g_iconst (q0 := 6) rfl dX12_has_5 (k := ?_)
  refine g_icmp_ne (q0 := 9) (tgt := 13) rfl dX12_has_6 (by decide) (fun h6 => ?_) (fun h6 => ?_)
  · replace h := gI_neg h6 h
    refine g_iconst (q0 := 14) rfl dX12_has_13 (k := ?_)
    rw [← Option.some.inj h]
    refine g_zreturn dX12_has_14 rfl (gnz (Or.inl rfl)) ⟨Nat.zero_le _, Nat.zero_le _⟩ ?_
    exact ⟨rfl, rfl, rfl⟩
  · replace h := gI_pos h6 h
    refine g_iconst (q0 := 10) rfl dX12_has_9 (k := ?_)
    refine g_goto (tgt := 14) dX12_has_10 (by decide) ?_
    rw [← Option.some.inj h]
    refine g_zreturn dX12_has_14 rfl (gnz (Or.inr rfl)) ⟨Nat.zero_le _, Nat.zero_le _⟩ ?_
    exact ⟨rfl, rfl, rfl⟩
-- ==== names
theorem dX12_names_0 : decode cX12_names 0 = .ok (.iconst 0, 1) := by decide +kernel
theorem dX12_names_1 : decode cX12_names 1 = .ok (.istore_n 1, 1) := by decide +kernel
theorem dX12_names_2 : decode cX12_names 2 = .ok (.iload_n 1, 1) := by decide +kernel
theorem dX12_names_3 : decode cX12_names 3 = .ok (.bipush 6, 2) := by decide +kernel
theorem dX12_names_5 : decode cX12_names 5 = .ok (.if_icmp .ge 24, 3) := by decide +kernel
theorem dX12_names_8 : decode cX12_names 8 = .ok (.iload_n 0, 1) := by decide +kernel
theorem dX12_names_9 : decode cX12_names 9 = .ok (.bipush 25, 2) := by decide +kernel
theorem dX12_names_11 : decode cX12_names 11 = .ok (.iconst 5, 1) := by decide +kernel
theorem dX12_names_12 : decode cX12_names 12 = .ok (.iload_n 1, 1) := by decide +kernel
theorem dX12_names_13 : decode cX12_names 13 = .ok (.imul, 1) := by decide +kernel
theorem dX12_names_14 : decode cX12_names 14 = .ok (.isub, 1) := by decide +kernel
theorem dX12_names_15 : decode cX12_names 15 = .ok (.ishr, 1) := by decide +kernel
theorem dX12_names_16 : decode cX12_names 16 = .ok (.bipush 31, 2) := by decide +kernel
theorem dX12_names_18 : decode cX12_names 18 = .ok (.iand, 1) := by decide +kernel
theorem dX12_names_19 : decode cX12_names 19 = .ok (.ifCond .eq 10, 3) := by decide +kernel
theorem dX12_names_22 : decode cX12_names 22 = .ok (.iload_n 1, 1) := by decide +kernel
theorem dX12_names_23 : decode cX12_names 23 = .ok (.iconst 1, 1) := by decide +kernel
theorem dX12_names_24 : decode cX12_names 24 = .ok (.iadd, 1) := by decide +kernel
theorem dX12_names_25 : decode cX12_names 25 = .ok (.istore_n 1, 1) := by decide +kernel
theorem dX12_names_26 : decode cX12_names 26 = .ok (.goto (-24), 3) := by decide +kernel
theorem dX12_names_29 : decode cX12_names 29 = .ok (.iload_n 1, 1) := by decide +kernel
theorem dX12_names_30 : decode cX12_names 30 = .ok (.ireturn, 1) := by decide +kernel
noncomputable def st_names : Nat × List Int → Option ((Nat × List Int) ⊕ (Int))
  | (0, [x0, x1]) => (if x1 < 6 then
      (if (gand (gshr x0 (gw32 ((25 : Int) - (gw32 ((5 : Int) * x1))))) 31) = 0 then
        some (.inr x1)
      else
        some (.inl (0, [x0, (gw32 (x1 + (1 : Int)))])))
    else
      some (.inr x1))
  | _ => none
theorem sk_names_2 (k : Nat × List Int → Option (Int)) (x0 x1 : Int) : gWk k (st_names (0, [x0, x1])) = (if x1 < 6 then
    (if (gand (gshr x0 (gw32 ((25 : Int) - (gw32 ((5 : Int) * x1))))) 31) = 0 then
      some x1
    else
      k (0, [x0, (gw32 (x1 + (1 : Int)))]))
  else
    some x1) := by
  simp only [st_names, gWk_ite, gWk_bind, gWk_inl, gWk_inr, gWk_none]
noncomputable def F_names_2 (x0 x1 : Int) : Option (Int) := gWh (st_names) (0, [x0, x1])
theorem eq_names_2 (x0 x1 : Int) : F_names_2 x0 x1 = (if x1 < 6 then
    (if (gand (gshr x0 (gw32 ((25 : Int) - (gw32 ((5 : Int) * x1))))) 31) = 0 then
      some x1
    else
      F_names_2 x0 (gw32 (x1 + (1 : Int))))
  else
    some x1) := (gWh_eq _).trans (sk_names_2 _ x0 x1)
noncomputable def F_names (a0 : Int) : Option (Int) := F_names_2 a0 0
theorem eq_names (a0 : Int) : F_names a0 = F_names_2 a0 0 := rfl
theorem okp_names {sh : gS} {M : gM} : ∀ (s : Nat × List Int) (b : Int), gWh (st_names) s = some b → (∀ (x0 x1 : Int), s = (0, [x0, x1]) → gOK sh M → gA (gr 0 0) yX12_names cX12_names 2 (some (.int)) (gPq sh (some (0, b)) M) (0, 0) 2 [(0, x0), (0, x1)] [] sh M) := by
  refine gWh_ind (fun k hk s b h => ?_)
  · rintro x0 x1 rfl hOK
    rw [sk_names_2] at h
    refine g_iload_n (q0 := 3) (j := 1) rfl dX12_names_2 rfl ?_
    refine g_bipush (q0 := 5) rfl dX12_names_3 (k := ?_)
    refine g_icmp_ge (q0 := 8) (tgt := 29) rfl dX12_names_5 (by decide) (fun h5 => ?_) (fun h5 => ?_)
    · replace h := gI_neg (Int.not_lt.mpr h5) h
      refine g_iload_n (q0 := 30) (j := 1) rfl dX12_names_29 rfl ?_
      rw [← Option.some.inj h]
      refine g_ireturn dX12_names_30 rfl ⟨Nat.zero_le _, Nat.zero_le _⟩ ?_
      exact ⟨rfl, rfl, rfl⟩
    · replace h := gI_pos h5 h
      refine g_iload_n (q0 := 9) (j := 0) rfl dX12_names_8 rfl ?_
      refine g_bipush (q0 := 11) rfl dX12_names_9 (k := ?_)
      refine g_iconst (q0 := 12) rfl dX12_names_11 (k := ?_)
      refine g_iload_n (q0 := 13) (j := 1) rfl dX12_names_12 rfl ?_
      refine g_imulw (q0 := 14) rfl dX12_names_13 ?_
      refine g_isubw (q0 := 15) rfl dX12_names_14 ?_
      refine g_ishr (q0 := 16) rfl dX12_names_15 ?_
      refine g_bipush (q0 := 18) rfl dX12_names_16 (k := ?_)
      refine g_iand (q0 := 19) rfl dX12_names_18 ?_
      refine g_if_eq (q0 := 22) (tgt := 29) rfl dX12_names_19 (by decide) (fun h19 => ?_) (fun h19 => ?_)
      · replace h := gI_pos h19 h
        refine g_iload_n (q0 := 30) (j := 1) rfl dX12_names_29 rfl ?_
        rw [← Option.some.inj h]
        refine g_ireturn dX12_names_30 rfl ⟨Nat.zero_le _, Nat.zero_le _⟩ ?_
        exact ⟨rfl, rfl, rfl⟩
      · replace h := gI_neg h19 h
        refine g_iload_n (q0 := 23) (j := 1) rfl dX12_names_22 rfl ?_
        refine g_iconst (q0 := 24) rfl dX12_names_23 (k := ?_)
        refine g_iaddw (q0 := 25) rfl dX12_names_24 ?_
        refine g_istore_n (q0 := 26) (j := 1) (lv2 := [_, _]) rfl dX12_names_25 (by decide) rfl rfl ?_
        refine g_goto (tgt := 2) dX12_names_26 (by decide) ?_
        exact (hk _ _ h) _ _ rfl hOK
theorem ok_names_2 {sh : gS} {M : gM} {x0 x1 : Int} {b : Int} (hOK : gOK sh M) (h : F_names_2 x0 x1 = some b) : gA (gr 0 0) yX12_names cX12_names 2 (some (.int)) (gPq sh (some (0, b)) M) (0, 0) 2 [(0, x0), (0, x1)] [] sh M :=
  (okp_names _ _ h) _ _ rfl hOK
theorem ok_names {sh : gS} {M : gM} {a0 : Int} {b : Int} (hOK : gOK sh M) (h : F_names a0 = some b) : gC (gr 0 0) yX12_names cX12_names 2 (some (.int)) [(0, a0)] sh M (gPq sh (some (0, b)) M) := by
  rw [eq_names] at h
  refine gC_ofA (lv := [_, _]) (by decide +kernel) (Nat.le_of_ble_eq_true rfl) rfl (fun hMw hav => ?_)
  refine g_iconst (q0 := 1) rfl dX12_names_0 (k := ?_)
  refine g_istore_n (q0 := 2) (j := 1) (lv2 := [_, _]) rfl dX12_names_1 (by decide) rfl rfl ?_
  exact ok_names_2 hOK h
-- ==== begins
theorem dX12_begins_0 : decode cX12_begins 0 = .ok (.iload_n 0, 1) := by decide +kernel
theorem dX12_begins_1 : decode cX12_begins 1 = .ok (.invokestatic 150, 3) := by decide +kernel
theorem dX12_begins_4 : decode cX12_begins 4 = .ok (.istore_n 2, 1) := by decide +kernel
theorem dX12_begins_5 : decode cX12_begins 5 = .ok (.iload_n 2, 1) := by decide +kernel
theorem dX12_begins_6 : decode cX12_begins 6 = .ok (.iload_n 1, 1) := by decide +kernel
theorem dX12_begins_7 : decode cX12_begins 7 = .ok (.invokestatic 150, 3) := by decide +kernel
theorem dX12_begins_10 : decode cX12_begins 10 = .ok (.if_icmp .ge 26, 3) := by decide +kernel
theorem dX12_begins_13 : decode cX12_begins 13 = .ok (.iload_n 1, 1) := by decide +kernel
theorem dX12_begins_14 : decode cX12_begins 14 = .ok (.bipush 30, 2) := by decide +kernel
theorem dX12_begins_16 : decode cX12_begins 16 = .ok (.iconst 5, 1) := by decide +kernel
theorem dX12_begins_17 : decode cX12_begins 17 = .ok (.iload_n 2, 1) := by decide +kernel
theorem dX12_begins_18 : decode cX12_begins 18 = .ok (.imul, 1) := by decide +kernel
theorem dX12_begins_19 : decode cX12_begins 19 = .ok (.isub, 1) := by decide +kernel
theorem dX12_begins_20 : decode cX12_begins 20 = .ok (.ishr, 1) := by decide +kernel
theorem dX12_begins_21 : decode cX12_begins 21 = .ok (.iload_n 0, 1) := by decide +kernel
theorem dX12_begins_22 : decode cX12_begins 22 = .ok (.bipush 30, 2) := by decide +kernel
theorem dX12_begins_24 : decode cX12_begins 24 = .ok (.iconst 5, 1) := by decide +kernel
theorem dX12_begins_25 : decode cX12_begins 25 = .ok (.iload_n 2, 1) := by decide +kernel
theorem dX12_begins_26 : decode cX12_begins 26 = .ok (.imul, 1) := by decide +kernel
theorem dX12_begins_27 : decode cX12_begins 27 = .ok (.isub, 1) := by decide +kernel
theorem dX12_begins_28 : decode cX12_begins 28 = .ok (.ishr, 1) := by decide +kernel
theorem dX12_begins_29 : decode cX12_begins 29 = .ok (.if_icmp .ne 7, 3) := by decide +kernel
theorem dX12_begins_32 : decode cX12_begins 32 = .ok (.iconst 1, 1) := by decide +kernel
theorem dX12_begins_33 : decode cX12_begins 33 = .ok (.goto 4, 3) := by decide +kernel
theorem dX12_begins_36 : decode cX12_begins 36 = .ok (.iconst 0, 1) := by decide +kernel
theorem dX12_begins_37 : decode cX12_begins 37 = .ok (.ireturn, 1) := by decide +kernel
noncomputable def F_begins (a0 a1 : Int) : Option (Int) := (Option.bind (F_names a0) (fun r1 =>
    (Option.bind (F_names a1) (fun r7 =>
      (if r1 < r7 then
        (if (gshr a1 (gw32 ((30 : Int) - (gw32 ((5 : Int) * r1))))) = (gshr a0 (gw32 ((30 : Int) - (gw32 ((5 : Int) * r1))))) then
          some 1
        else
          some 0)
      else
        some 0)))))
theorem eq_begins (a0 a1 : Int) : F_begins a0 a1 = (Option.bind (F_names a0) (fun r1 =>
    (Option.bind (F_names a1) (fun r7 =>
      (if r1 < r7 then
        (if (gshr a1 (gw32 ((30 : Int) - (gw32 ((5 : Int) * r1))))) = (gshr a0 (gw32 ((30 : Int) - (gw32 ((5 : Int) * r1))))) then
          some 1
        else
          some 0)
      else
        some 0))))) := rfl
theorem bo_begins {a0 a1 : Int} {b : Int} (h : F_begins a0 a1 = some b) : b = 0 ∨ b = 1 := by
  rw [eq_begins] at h
  obtain ⟨r1, e1, h⟩ := gI_bd h
  obtain ⟨r7, e7, h⟩ := gI_bd h
  rcases gI_or h with h | h
  · rcases gI_or h with h | h
    · rw [← Option.some.inj h]
      exact (Or.inr rfl)
    · rw [← Option.some.inj h]
      exact (Or.inl rfl)
  · rw [← Option.some.inj h]
    exact (Or.inl rfl)
theorem ok_begins {sh : gS} {M : gM} {a0 a1 : Int} {b : Int} (hOK : gOK sh M) (h : F_begins a0 a1 = some b) : gC (gr 1 21) yX12_begins cX12_begins 3 (some (.boolean)) [(0, a0), (0, a1)] sh M (gPq sh (some (0, b)) M) := by
  rw [eq_begins] at h
  refine gC_ofA (lv := [_, _, _]) (by decide +kernel) (Nat.le_of_ble_eq_true rfl) rfl (fun hMw hav => ?_)
  refine g_iload_n (q0 := 1) (j := 0) rfl dX12_begins_0 rfl ?_
  obtain ⟨r1, e1, h⟩ := gI_bd h
  refine g_callSq1 (as := [_]) (rest := []) mt_X12_names ms_X12_names ml_X12_150 dX12_begins_1 (q0 := 4) rfl rfl (ok_names hOK e1) rfl ⟨by decide, by decide⟩ (Nat.le_of_ble_eq_true rfl) ⟨Nat.zero_le _, Nat.zero_le _⟩ ?_
  refine g_istore_n (q0 := 5) (j := 2) (lv2 := [_, _, _]) rfl dX12_begins_4 (by decide) rfl rfl ?_
  refine g_iload_n (q0 := 6) (j := 2) rfl dX12_begins_5 rfl ?_
  refine g_iload_n (q0 := 7) (j := 1) rfl dX12_begins_6 rfl ?_
  obtain ⟨r7, e7, h⟩ := gI_bd h
  refine g_callSq1 (as := [_]) (rest := [_]) mt_X12_names ms_X12_names ml_X12_150 dX12_begins_7 (q0 := 10) rfl rfl (ok_names hOK e7) rfl ⟨by decide, by decide⟩ (Nat.le_of_ble_eq_true rfl) ⟨Nat.zero_le _, Nat.zero_le _⟩ ?_
  refine g_icmp_ge (q0 := 13) (tgt := 36) rfl dX12_begins_10 (by decide) (fun h10 => ?_) (fun h10 => ?_)
  · replace h := gI_neg (Int.not_lt.mpr h10) h
    refine g_iconst (q0 := 37) rfl dX12_begins_36 (k := ?_)
    rw [← Option.some.inj h]
    refine g_zreturn dX12_begins_37 rfl (gnz (Or.inl rfl)) ⟨Nat.zero_le _, Nat.zero_le _⟩ ?_
    exact ⟨rfl, rfl, rfl⟩
  · replace h := gI_pos h10 h
    refine g_iload_n (q0 := 14) (j := 1) rfl dX12_begins_13 rfl ?_
    refine g_bipush (q0 := 16) rfl dX12_begins_14 (k := ?_)
    refine g_iconst (q0 := 17) rfl dX12_begins_16 (k := ?_)
    refine g_iload_n (q0 := 18) (j := 2) rfl dX12_begins_17 rfl ?_
    refine g_imulw (q0 := 19) rfl dX12_begins_18 ?_
    refine g_isubw (q0 := 20) rfl dX12_begins_19 ?_
    refine g_ishr (q0 := 21) rfl dX12_begins_20 ?_
    refine g_iload_n (q0 := 22) (j := 0) rfl dX12_begins_21 rfl ?_
    refine g_bipush (q0 := 24) rfl dX12_begins_22 (k := ?_)
    refine g_iconst (q0 := 25) rfl dX12_begins_24 (k := ?_)
    refine g_iload_n (q0 := 26) (j := 2) rfl dX12_begins_25 rfl ?_
    refine g_imulw (q0 := 27) rfl dX12_begins_26 ?_
    refine g_isubw (q0 := 28) rfl dX12_begins_27 ?_
    refine g_ishr (q0 := 29) rfl dX12_begins_28 ?_
    refine g_icmp_ne (q0 := 32) (tgt := 36) rfl dX12_begins_29 (by decide) (fun h29 => ?_) (fun h29 => ?_)
    · replace h := gI_neg h29 h
      refine g_iconst (q0 := 37) rfl dX12_begins_36 (k := ?_)
      rw [← Option.some.inj h]
      refine g_zreturn dX12_begins_37 rfl (gnz (Or.inl rfl)) ⟨Nat.zero_le _, Nat.zero_le _⟩ ?_
      exact ⟨rfl, rfl, rfl⟩
    · replace h := gI_pos h29 h
      refine g_iconst (q0 := 33) rfl dX12_begins_32 (k := ?_)
      refine g_goto (tgt := 37) dX12_begins_33 (by decide) ?_
      rw [← Option.some.inj h]
      refine g_zreturn dX12_begins_37 rfl (gnz (Or.inr rfl)) ⟨Nat.zero_le _, Nat.zero_le _⟩ ?_
      exact ⟨rfl, rfl, rfl⟩
-- ==== isAtOrBelow
theorem dX12_isAtOrBelow_0 : decode cX12_isAtOrBelow 0 = .ok (.iload_n 0, 1) := by decide +kernel
theorem dX12_isAtOrBelow_1 : decode cX12_isAtOrBelow 1 = .ok (.iload_n 1, 1) := by decide +kernel
theorem dX12_isAtOrBelow_2 : decode cX12_isAtOrBelow 2 = .ok (.if_icmp .eq 11, 3) := by decide +kernel
theorem dX12_isAtOrBelow_5 : decode cX12_isAtOrBelow 5 = .ok (.iload_n 1, 1) := by decide +kernel
theorem dX12_isAtOrBelow_6 : decode cX12_isAtOrBelow 6 = .ok (.iload_n 0, 1) := by decide +kernel
theorem dX12_isAtOrBelow_7 : decode cX12_isAtOrBelow 7 = .ok (.invokestatic 154, 3) := by decide +kernel
theorem dX12_isAtOrBelow_10 : decode cX12_isAtOrBelow 10 = .ok (.ifCond .eq 7, 3) := by decide +kernel
theorem dX12_isAtOrBelow_13 : decode cX12_isAtOrBelow 13 = .ok (.iconst 1, 1) := by decide +kernel
theorem dX12_isAtOrBelow_14 : decode cX12_isAtOrBelow 14 = .ok (.goto 4, 3) := by decide +kernel
theorem dX12_isAtOrBelow_17 : decode cX12_isAtOrBelow 17 = .ok (.iconst 0, 1) := by decide +kernel
theorem dX12_isAtOrBelow_18 : decode cX12_isAtOrBelow 18 = .ok (.ireturn, 1) := by decide +kernel
noncomputable def F_isAtOrBelow (a0 a1 : Int) : Option (Int) := (if a0 = a1 then
    some 1
  else
    (Option.bind (F_begins a1 a0) (fun r7 =>
      (if r7 = 0 then
        some 0
      else
        some 1))))
theorem eq_isAtOrBelow (a0 a1 : Int) : F_isAtOrBelow a0 a1 = (if a0 = a1 then
    some 1
  else
    (Option.bind (F_begins a1 a0) (fun r7 =>
      (if r7 = 0 then
        some 0
      else
        some 1)))) := rfl
theorem bo_isAtOrBelow {a0 a1 : Int} {b : Int} (h : F_isAtOrBelow a0 a1 = some b) : b = 0 ∨ b = 1 := by
  rw [eq_isAtOrBelow] at h
  rcases gI_or h with h | h
  · rw [← Option.some.inj h]
    exact (Or.inr rfl)
  · obtain ⟨r7, e7, h⟩ := gI_bd h
    rcases gI_or h with h | h
    · rw [← Option.some.inj h]
      exact (Or.inl rfl)
    · rw [← Option.some.inj h]
      exact (Or.inr rfl)
theorem ok_isAtOrBelow {sh : gS} {M : gM} {a0 a1 : Int} {b : Int} (hOK : gOK sh M) (h : F_isAtOrBelow a0 a1 = some b) : gC (gr 2 43) yX12_isAtOrBelow cX12_isAtOrBelow 2 (some (.boolean)) [(0, a0), (0, a1)] sh M (gPq sh (some (0, b)) M) := by
  rw [eq_isAtOrBelow] at h
  refine gC_ofA (lv := [_, _]) (by decide +kernel) (Nat.le_of_ble_eq_true rfl) rfl (fun hMw hav => ?_)
  refine g_iload_n (q0 := 1) (j := 0) rfl dX12_isAtOrBelow_0 rfl ?_
  refine g_iload_n (q0 := 2) (j := 1) rfl dX12_isAtOrBelow_1 rfl ?_
  refine g_icmp_eq (q0 := 5) (tgt := 13) rfl dX12_isAtOrBelow_2 (by decide) (fun h2 => ?_) (fun h2 => ?_)
  · replace h := gI_pos h2 h
    refine g_iconst (q0 := 14) rfl dX12_isAtOrBelow_13 (k := ?_)
    refine g_goto (tgt := 18) dX12_isAtOrBelow_14 (by decide) ?_
    rw [← Option.some.inj h]
    refine g_zreturn dX12_isAtOrBelow_18 rfl (gnz (Or.inr rfl)) ⟨Nat.zero_le _, Nat.zero_le _⟩ ?_
    exact ⟨rfl, rfl, rfl⟩
  · replace h := gI_neg h2 h
    refine g_iload_n (q0 := 6) (j := 1) rfl dX12_isAtOrBelow_5 rfl ?_
    refine g_iload_n (q0 := 7) (j := 0) rfl dX12_isAtOrBelow_6 rfl ?_
    obtain ⟨r7, e7, h⟩ := gI_bd h
    refine g_callSq1 (as := [_, _]) (rest := []) mt_X12_begins ms_X12_begins ml_X12_154 dX12_isAtOrBelow_7 (q0 := 10) rfl rfl (ok_begins hOK e7) rfl ⟨by decide, by decide⟩ (Nat.le_of_ble_eq_true rfl) ⟨Nat.zero_le _, Nat.zero_le _⟩ ?_
    refine g_if_eq (q0 := 13) (tgt := 17) rfl dX12_isAtOrBelow_10 (by decide) (fun h10 => ?_) (fun h10 => ?_)
    · replace h := gI_pos h10 h
      refine g_iconst (q0 := 18) rfl dX12_isAtOrBelow_17 (k := ?_)
      rw [← Option.some.inj h]
      refine g_zreturn dX12_isAtOrBelow_18 rfl (gnz (Or.inl rfl)) ⟨Nat.zero_le _, Nat.zero_le _⟩ ?_
      exact ⟨rfl, rfl, rfl⟩
    · replace h := gI_neg h10 h
      refine g_iconst (q0 := 14) rfl dX12_isAtOrBelow_13 (k := ?_)
      refine g_goto (tgt := 18) dX12_isAtOrBelow_14 (by decide) ?_
      rw [← Option.some.inj h]
      refine g_zreturn dX12_isAtOrBelow_18 rfl (gnz (Or.inr rfl)) ⟨Nat.zero_le _, Nat.zero_le _⟩ ?_
      exact ⟨rfl, rfl, rfl⟩
-- ==== moved
theorem dX12_moved_0 : decode cX12_moved 0 = .ok (.iload_n 0, 1) := by decide +kernel
theorem dX12_moved_1 : decode cX12_moved 1 = .ok (.iconst 5, 1) := by decide +kernel
theorem dX12_moved_2 : decode cX12_moved 2 = .ok (.iload_n 1, 1) := by decide +kernel
theorem dX12_moved_3 : decode cX12_moved 3 = .ok (.invokestatic 150, 3) := by decide +kernel
theorem dX12_moved_6 : decode cX12_moved 6 = .ok (.imul, 1) := by decide +kernel
theorem dX12_moved_7 : decode cX12_moved 7 = .ok (.ishl, 1) := by decide +kernel
theorem dX12_moved_8 : decode cX12_moved 8 = .ok (.ldc 158, 2) := by decide +kernel
theorem dX12_moved_10 : decode cX12_moved 10 = .ok (.iand, 1) := by decide +kernel
theorem dX12_moved_11 : decode cX12_moved 11 = .ok (.istore_n 3, 1) := by decide +kernel
theorem dX12_moved_12 : decode cX12_moved 12 = .ok (.iload_n 2, 1) := by decide +kernel
theorem dX12_moved_13 : decode cX12_moved 13 = .ok (.iload_n 3, 1) := by decide +kernel
theorem dX12_moved_14 : decode cX12_moved 14 = .ok (.iconst 5, 1) := by decide +kernel
theorem dX12_moved_15 : decode cX12_moved 15 = .ok (.iload_n 2, 1) := by decide +kernel
theorem dX12_moved_16 : decode cX12_moved 16 = .ok (.invokestatic 150, 3) := by decide +kernel
theorem dX12_moved_19 : decode cX12_moved 19 = .ok (.imul, 1) := by decide +kernel
theorem dX12_moved_20 : decode cX12_moved 20 = .ok (.ishr, 1) := by decide +kernel
theorem dX12_moved_21 : decode cX12_moved 21 = .ok (.ior, 1) := by decide +kernel
theorem dX12_moved_22 : decode cX12_moved 22 = .ok (.ireturn, 1) := by decide +kernel
noncomputable def F_moved (a0 a1 a2 : Int) : Option (Int) := (Option.bind (F_names a1) (fun r3 =>
    (Option.bind (F_names a2) (fun r16 =>
      some (gor a2 (gshr (gand (gshl a0 (gw32 ((5 : Int) * r3))) 1073741823) (gw32 ((5 : Int) * r16))))))))
theorem eq_moved (a0 a1 a2 : Int) : F_moved a0 a1 a2 = (Option.bind (F_names a1) (fun r3 =>
    (Option.bind (F_names a2) (fun r16 =>
      some (gor a2 (gshr (gand (gshl a0 (gw32 ((5 : Int) * r3))) 1073741823) (gw32 ((5 : Int) * r16)))))))) := rfl
theorem ok_moved {sh : gS} {M : gM} {a0 a1 a2 : Int} {b : Int} (hOK : gOK sh M) (h : F_moved a0 a1 a2 = some b) : gC (gr 1 21) yX12_moved cX12_moved 4 (some (.int)) [(0, a0), (0, a1), (0, a2)] sh M (gPq sh (some (0, b)) M) := by
  rw [eq_moved] at h
  refine gC_ofA (lv := [_, _, _, _]) (by decide +kernel) (Nat.le_of_ble_eq_true rfl) rfl (fun hMw hav => ?_)
  refine g_iload_n (q0 := 1) (j := 0) rfl dX12_moved_0 rfl ?_
  refine g_iconst (q0 := 2) rfl dX12_moved_1 (k := ?_)
  refine g_iload_n (q0 := 3) (j := 1) rfl dX12_moved_2 rfl ?_
  obtain ⟨r3, e3, h⟩ := gI_bd h
  refine g_callSq1 (as := [_]) (rest := [_, _]) mt_X12_names ms_X12_names ml_X12_150 dX12_moved_3 (q0 := 6) rfl rfl (ok_names hOK e3) rfl ⟨by decide, by decide⟩ (Nat.le_of_ble_eq_true rfl) ⟨Nat.zero_le _, Nat.zero_le _⟩ ?_
  refine g_imulw (q0 := 7) rfl dX12_moved_6 ?_
  refine g_ishl (q0 := 8) rfl dX12_moved_7 ?_
  refine g_ldc (q0 := 10) (n := 1073741823) rfl co_X12_158 dX12_moved_8 (k := ?_)
  refine g_iand (q0 := 11) rfl dX12_moved_10 ?_
  refine g_istore_n (q0 := 12) (j := 3) (lv2 := [_, _, _, _]) rfl dX12_moved_11 (by decide) rfl rfl ?_
  refine g_iload_n (q0 := 13) (j := 2) rfl dX12_moved_12 rfl ?_
  refine g_iload_n (q0 := 14) (j := 3) rfl dX12_moved_13 rfl ?_
  refine g_iconst (q0 := 15) rfl dX12_moved_14 (k := ?_)
  refine g_iload_n (q0 := 16) (j := 2) rfl dX12_moved_15 rfl ?_
  obtain ⟨r16, e16, h⟩ := gI_bd h
  refine g_callSq1 (as := [_]) (rest := [_, _, _]) mt_X12_names ms_X12_names ml_X12_150 dX12_moved_16 (q0 := 19) rfl rfl (ok_names hOK e16) rfl ⟨by decide, by decide⟩ (Nat.le_of_ble_eq_true rfl) ⟨Nat.zero_le _, Nat.zero_le _⟩ ?_
  refine g_imulw (q0 := 20) rfl dX12_moved_19 ?_
  refine g_ishr (q0 := 21) rfl dX12_moved_20 ?_
  refine g_ior (q0 := 22) rfl dX12_moved_21 ?_
  rw [← Option.some.inj h]
  refine g_ireturn dX12_moved_22 rfl ⟨Nat.zero_le _, Nat.zero_le _⟩ ?_
  exact ⟨rfl, rfl, rfl⟩
-- ==== digits
theorem dX12_digits_0 : decode cX12_digits 0 = .ok (.iconst 0, 1) := by decide +kernel
theorem dX12_digits_1 : decode cX12_digits 1 = .ok (.istore_n 1, 1) := by decide +kernel
theorem dX12_digits_2 : decode cX12_digits 2 = .ok (.iload_n 0, 1) := by decide +kernel
theorem dX12_digits_3 : decode cX12_digits 3 = .ok (.istore_n 2, 1) := by decide +kernel
theorem dX12_digits_4 : decode cX12_digits 4 = .ok (.iload_n 2, 1) := by decide +kernel
theorem dX12_digits_5 : decode cX12_digits 5 = .ok (.bipush 9, 2) := by decide +kernel
theorem dX12_digits_7 : decode cX12_digits 7 = .ok (.if_icmp .le 15, 3) := by decide +kernel
theorem dX12_digits_10 : decode cX12_digits 10 = .ok (.iload_n 1, 1) := by decide +kernel
theorem dX12_digits_11 : decode cX12_digits 11 = .ok (.iconst 1, 1) := by decide +kernel
theorem dX12_digits_12 : decode cX12_digits 12 = .ok (.iadd, 1) := by decide +kernel
theorem dX12_digits_13 : decode cX12_digits 13 = .ok (.istore_n 1, 1) := by decide +kernel
theorem dX12_digits_14 : decode cX12_digits 14 = .ok (.iload_n 2, 1) := by decide +kernel
theorem dX12_digits_15 : decode cX12_digits 15 = .ok (.bipush 10, 2) := by decide +kernel
theorem dX12_digits_17 : decode cX12_digits 17 = .ok (.idiv, 1) := by decide +kernel
theorem dX12_digits_18 : decode cX12_digits 18 = .ok (.istore_n 2, 1) := by decide +kernel
theorem dX12_digits_19 : decode cX12_digits 19 = .ok (.goto (-15), 3) := by decide +kernel
theorem dX12_digits_22 : decode cX12_digits 22 = .ok (.iload_n 1, 1) := by decide +kernel
theorem dX12_digits_23 : decode cX12_digits 23 = .ok (.ireturn, 1) := by decide +kernel
noncomputable def st_digits : Nat × List Int → Option ((Nat × List Int) ⊕ (Int))
  | (0, [x0, x1, x2]) => (if (9 : Int) < x2 then
      some (.inl (0, [x0, (gw32 (x1 + (1 : Int))), (gdiv x2 10)]))
    else
      some (.inr x1))
  | _ => none
theorem sk_digits_4 (k : Nat × List Int → Option (Int)) (x0 x1 x2 : Int) : gWk k (st_digits (0, [x0, x1, x2])) = (if (9 : Int) < x2 then
    k (0, [x0, (gw32 (x1 + (1 : Int))), (gdiv x2 10)])
  else
    some x1) := by
  simp only [st_digits, gWk_ite, gWk_bind, gWk_inl, gWk_inr, gWk_none]
noncomputable def F_digits_4 (x0 x1 x2 : Int) : Option (Int) := gWh (st_digits) (0, [x0, x1, x2])
theorem eq_digits_4 (x0 x1 x2 : Int) : F_digits_4 x0 x1 x2 = (if (9 : Int) < x2 then
    F_digits_4 x0 (gw32 (x1 + (1 : Int))) (gdiv x2 10)
  else
    some x1) := (gWh_eq _).trans (sk_digits_4 _ x0 x1 x2)
noncomputable def F_digits (a0 : Int) : Option (Int) := F_digits_4 a0 0 a0
theorem eq_digits (a0 : Int) : F_digits a0 = F_digits_4 a0 0 a0 := rfl
theorem okp_digits {sh : gS} {M : gM} : ∀ (s : Nat × List Int) (b : Int), gWh (st_digits) s = some b → (∀ (x0 x1 x2 : Int), s = (0, [x0, x1, x2]) → gOK sh M → gA (gr 0 0) yX12_digits cX12_digits 3 (some (.int)) (gPq sh (some (0, b)) M) (0, 0) 4 [(0, x0), (0, x1), (0, x2)] [] sh M) := by
  refine gWh_ind (fun k hk s b h => ?_)
  · rintro x0 x1 x2 rfl hOK
    rw [sk_digits_4] at h
    refine g_iload_n (q0 := 5) (j := 2) rfl dX12_digits_4 rfl ?_
    refine g_bipush (q0 := 7) rfl dX12_digits_5 (k := ?_)
    refine g_icmp_le (q0 := 10) (tgt := 22) rfl dX12_digits_7 (by decide) (fun h7 => ?_) (fun h7 => ?_)
    · replace h := gI_neg (Int.not_lt.mpr h7) h
      refine g_iload_n (q0 := 23) (j := 1) rfl dX12_digits_22 rfl ?_
      rw [← Option.some.inj h]
      refine g_ireturn dX12_digits_23 rfl ⟨Nat.zero_le _, Nat.zero_le _⟩ ?_
      exact ⟨rfl, rfl, rfl⟩
    · replace h := gI_pos h7 h
      refine g_iload_n (q0 := 11) (j := 1) rfl dX12_digits_10 rfl ?_
      refine g_iconst (q0 := 12) rfl dX12_digits_11 (k := ?_)
      refine g_iaddw (q0 := 13) rfl dX12_digits_12 ?_
      refine g_istore_n (q0 := 14) (j := 1) (lv2 := [_, _, _]) rfl dX12_digits_13 (by decide) rfl rfl ?_
      refine g_iload_n (q0 := 15) (j := 2) rfl dX12_digits_14 rfl ?_
      refine g_bipush (q0 := 17) rfl dX12_digits_15 (k := ?_)
      refine g_idiv (q0 := 18) rfl dX12_digits_17 (by decide) ?_
      refine g_istore_n (q0 := 19) (j := 2) (lv2 := [_, _, _]) rfl dX12_digits_18 (by decide) rfl rfl ?_
      refine g_goto (tgt := 4) dX12_digits_19 (by decide) ?_
      exact (hk _ _ h) _ _ _ rfl hOK
theorem ok_digits_4 {sh : gS} {M : gM} {x0 x1 x2 : Int} {b : Int} (hOK : gOK sh M) (h : F_digits_4 x0 x1 x2 = some b) : gA (gr 0 0) yX12_digits cX12_digits 3 (some (.int)) (gPq sh (some (0, b)) M) (0, 0) 4 [(0, x0), (0, x1), (0, x2)] [] sh M :=
  (okp_digits _ _ h) _ _ _ rfl hOK
theorem ok_digits {sh : gS} {M : gM} {a0 : Int} {b : Int} (hOK : gOK sh M) (h : F_digits a0 = some b) : gC (gr 0 0) yX12_digits cX12_digits 3 (some (.int)) [(0, a0)] sh M (gPq sh (some (0, b)) M) := by
  rw [eq_digits] at h
  refine gC_ofA (lv := [_, _, _]) (by decide +kernel) (Nat.le_of_ble_eq_true rfl) rfl (fun hMw hav => ?_)
  refine g_iconst (q0 := 1) rfl dX12_digits_0 (k := ?_)
  refine g_istore_n (q0 := 2) (j := 1) (lv2 := [_, _, _]) rfl dX12_digits_1 (by decide) rfl rfl ?_
  refine g_iload_n (q0 := 3) (j := 0) rfl dX12_digits_2 rfl ?_
  refine g_istore_n (q0 := 4) (j := 2) (lv2 := [_, _, _]) rfl dX12_digits_3 (by decide) rfl rfl ?_
  exact ok_digits_4 hOK h
-- ==== rowOf
theorem dX12_rowOf_0 : decode cX12_rowOf 0 = .ok (.iload_n 0, 1) := by decide +kernel
theorem dX12_rowOf_1 : decode cX12_rowOf 1 = .ok (.bipush 120, 2) := by decide +kernel
theorem dX12_rowOf_3 : decode cX12_rowOf 3 = .ok (.if_icmp .ge 10, 3) := by decide +kernel
theorem dX12_rowOf_6 : decode cX12_rowOf 6 = .ok (.bipush 16, 2) := by decide +kernel
theorem dX12_rowOf_8 : decode cX12_rowOf 8 = .ok (.iload_n 0, 1) := by decide +kernel
theorem dX12_rowOf_9 : decode cX12_rowOf 9 = .ok (.imul, 1) := by decide +kernel
theorem dX12_rowOf_10 : decode cX12_rowOf 10 = .ok (.goto 14, 3) := by decide +kernel
theorem dX12_rowOf_13 : decode cX12_rowOf 13 = .ok (.sipush 1920, 3) := by decide +kernel
theorem dX12_rowOf_16 : decode cX12_rowOf 16 = .ok (.bipush 32, 2) := by decide +kernel
theorem dX12_rowOf_18 : decode cX12_rowOf 18 = .ok (.iload_n 0, 1) := by decide +kernel
theorem dX12_rowOf_19 : decode cX12_rowOf 19 = .ok (.bipush 120, 2) := by decide +kernel
theorem dX12_rowOf_21 : decode cX12_rowOf 21 = .ok (.isub, 1) := by decide +kernel
theorem dX12_rowOf_22 : decode cX12_rowOf 22 = .ok (.imul, 1) := by decide +kernel
theorem dX12_rowOf_23 : decode cX12_rowOf 23 = .ok (.iadd, 1) := by decide +kernel
theorem dX12_rowOf_24 : decode cX12_rowOf 24 = .ok (.ireturn, 1) := by decide +kernel
noncomputable def F_rowOf (a0 : Int) : Option (Int) := (if a0 < 120 then
    some (gw32 ((16 : Int) * a0))
  else
    some (gw32 ((1920 : Int) + (gw32 ((32 : Int) * (gw32 (a0 - (120 : Int))))))))
theorem eq_rowOf (a0 : Int) : F_rowOf a0 = (if a0 < 120 then
    some (gw32 ((16 : Int) * a0))
  else
    some (gw32 ((1920 : Int) + (gw32 ((32 : Int) * (gw32 (a0 - (120 : Int)))))))) := rfl
theorem ok_rowOf {sh : gS} {M : gM} {a0 : Int} {b : Int} (hOK : gOK sh M) (h : F_rowOf a0 = some b) : gC (gr 0 0) yX12_rowOf cX12_rowOf 1 (some (.int)) [(0, a0)] sh M (gPq sh (some (0, b)) M) := by
  rw [eq_rowOf] at h
  refine gC_ofA (lv := [_]) (by decide +kernel) (Nat.le_of_ble_eq_true rfl) rfl (fun hMw hav => ?_)
  refine g_iload_n (q0 := 1) (j := 0) rfl dX12_rowOf_0 rfl ?_
  refine g_bipush (q0 := 3) rfl dX12_rowOf_1 (k := ?_)
  refine g_icmp_ge (q0 := 6) (tgt := 13) rfl dX12_rowOf_3 (by decide) (fun h3 => ?_) (fun h3 => ?_)
  · replace h := gI_neg (Int.not_lt.mpr h3) h
    refine g_sipush (q0 := 16) rfl dX12_rowOf_13 (k := ?_)
    refine g_bipush (q0 := 18) rfl dX12_rowOf_16 (k := ?_)
    refine g_iload_n (q0 := 19) (j := 0) rfl dX12_rowOf_18 rfl ?_
    refine g_bipush (q0 := 21) rfl dX12_rowOf_19 (k := ?_)
    refine g_isubw (q0 := 22) rfl dX12_rowOf_21 ?_
    refine g_imulw (q0 := 23) rfl dX12_rowOf_22 ?_
    refine g_iaddw (q0 := 24) rfl dX12_rowOf_23 ?_
    rw [← Option.some.inj h]
    refine g_ireturn dX12_rowOf_24 rfl ⟨Nat.zero_le _, Nat.zero_le _⟩ ?_
    exact ⟨rfl, rfl, rfl⟩
  · replace h := gI_pos h3 h
    refine g_bipush (q0 := 8) rfl dX12_rowOf_6 (k := ?_)
    refine g_iload_n (q0 := 9) (j := 0) rfl dX12_rowOf_8 rfl ?_
    refine g_imulw (q0 := 10) rfl dX12_rowOf_9 ?_
    refine g_goto (tgt := 24) dX12_rowOf_10 (by decide) ?_
    rw [← Option.some.inj h]
    refine g_ireturn dX12_rowOf_24 rfl ⟨Nat.zero_le _, Nat.zero_le _⟩ ?_
    exact ⟨rfl, rfl, rfl⟩
-- ==== pathAt
theorem dX12_pathAt_0 : decode cX12_pathAt 0 = .ok (.aload_n 0, 1) := by decide +kernel
theorem dX12_pathAt_1 : decode cX12_pathAt 1 = .ok (.getfield 31, 3) := by decide +kernel
theorem dX12_pathAt_4 : decode cX12_pathAt 4 = .ok (.iload_n 1, 1) := by decide +kernel
theorem dX12_pathAt_5 : decode cX12_pathAt 5 = .ok (.invokestatic 159, 3) := by decide +kernel
theorem dX12_pathAt_8 : decode cX12_pathAt 8 = .ok (.iload_n 2, 1) := by decide +kernel
theorem dX12_pathAt_9 : decode cX12_pathAt 9 = .ok (.iadd, 1) := by decide +kernel
theorem dX12_pathAt_10 : decode cX12_pathAt 10 = .ok (.iaload, 1) := by decide +kernel
theorem dX12_pathAt_11 : decode cX12_pathAt 11 = .ok (.ireturn, 1) := by decide +kernel
noncomputable def F_pathAt (M : gM) (a1 a2 : Int) : Option (Int) := (Option.bind (F_rowOf a1) (fun r5 =>
    (if 0 ≤ (gw32 (r5 + a2)) ∧ (gw32 (r5 + a2)) < 2016 then
      some (M 719 (gw32 (r5 + a2)))
    else none)))
theorem eq_pathAt (M : gM) (a1 a2 : Int) : F_pathAt M a1 a2 = (Option.bind (F_rowOf a1) (fun r5 =>
    (if 0 ≤ (gw32 (r5 + a2)) ∧ (gw32 (r5 + a2)) < 2016 then
      some (M 719 (gw32 (r5 + a2)))
    else none))) := rfl
theorem ok_pathAt {sh : gS} {M : gM} {a1 a2 : Int} {b : Int} (hOK : gOK sh M) (h : F_pathAt M a1 a2 = some b) : gC (gr 1 20) yX12_pathAt cX12_pathAt 3 (some (.int)) [(4, 711), (0, a1), (0, a2)] sh M (gPq sh (some (0, b)) M) := by
  rw [eq_pathAt] at h
  refine gC_ofA (lv := [_, _, _]) (by decide +kernel) (Nat.le_of_ble_eq_true rfl) rfl (fun hMw hav => ?_)
  refine g_aload_n (q0 := 1) (j := 0) rfl dX12_pathAt_0 rfl ?_
  refine g_getp (q0 := 4) (b := 719) rfl ff_X12_31 dX12_pathAt_1 rfl hOK (by decide) (sh_711 hOK) rfl (by decide) ?_
  refine g_iload_n (q0 := 5) (j := 1) rfl dX12_pathAt_4 rfl ?_
  obtain ⟨r5, e5, h⟩ := gI_bd h
  refine g_callSq1 (as := [_]) (rest := [_]) mt_X12_rowOf ms_X12_rowOf ml_X12_159 dX12_pathAt_5 (q0 := 8) rfl rfl (ok_rowOf hOK e5) rfl ⟨by decide, by decide⟩ (Nat.le_of_ble_eq_true rfl) ⟨Nat.zero_le _, Nat.zero_le _⟩ ?_
  refine g_iload_n (q0 := 9) (j := 2) rfl dX12_pathAt_8 rfl ?_
  refine g_iaddw (q0 := 10) rfl dX12_pathAt_9 ?_
  obtain ⟨g1, h⟩ := gI_gd h
  refine g_iald (q0 := 11) rfl dX12_pathAt_10 (sh_719 hOK) g1.1 g1.2 ?_
  rw [← Option.some.inj h]
  refine g_ireturn dX12_pathAt_11 rfl ⟨Nat.zero_le _, Nat.zero_le _⟩ ?_
  exact ⟨rfl, rfl, rfl⟩
-- ==== contentAt
theorem dX12_contentAt_0 : decode cX12_contentAt 0 = .ok (.aload_n 0, 1) := by decide +kernel
theorem dX12_contentAt_1 : decode cX12_contentAt 1 = .ok (.getfield 34, 3) := by decide +kernel
theorem dX12_contentAt_4 : decode cX12_contentAt 4 = .ok (.iload_n 1, 1) := by decide +kernel
theorem dX12_contentAt_5 : decode cX12_contentAt 5 = .ok (.invokestatic 159, 3) := by decide +kernel
theorem dX12_contentAt_8 : decode cX12_contentAt 8 = .ok (.iload_n 2, 1) := by decide +kernel
theorem dX12_contentAt_9 : decode cX12_contentAt 9 = .ok (.iadd, 1) := by decide +kernel
theorem dX12_contentAt_10 : decode cX12_contentAt 10 = .ok (.iaload, 1) := by decide +kernel
theorem dX12_contentAt_11 : decode cX12_contentAt 11 = .ok (.ireturn, 1) := by decide +kernel
noncomputable def F_contentAt (M : gM) (a1 a2 : Int) : Option (Int) := (Option.bind (F_rowOf a1) (fun r5 =>
    (if 0 ≤ (gw32 (r5 + a2)) ∧ (gw32 (r5 + a2)) < 2016 then
      some (M 720 (gw32 (r5 + a2)))
    else none)))
theorem eq_contentAt (M : gM) (a1 a2 : Int) : F_contentAt M a1 a2 = (Option.bind (F_rowOf a1) (fun r5 =>
    (if 0 ≤ (gw32 (r5 + a2)) ∧ (gw32 (r5 + a2)) < 2016 then
      some (M 720 (gw32 (r5 + a2)))
    else none))) := rfl
theorem ok_contentAt {sh : gS} {M : gM} {a1 a2 : Int} {b : Int} (hOK : gOK sh M) (h : F_contentAt M a1 a2 = some b) : gC (gr 1 20) yX12_contentAt cX12_contentAt 3 (some (.int)) [(4, 711), (0, a1), (0, a2)] sh M (gPq sh (some (0, b)) M) := by
  rw [eq_contentAt] at h
  refine gC_ofA (lv := [_, _, _]) (by decide +kernel) (Nat.le_of_ble_eq_true rfl) rfl (fun hMw hav => ?_)
  refine g_aload_n (q0 := 1) (j := 0) rfl dX12_contentAt_0 rfl ?_
  refine g_getp (q0 := 4) (b := 720) rfl ff_X12_34 dX12_contentAt_1 rfl hOK (by decide) (sh_711 hOK) rfl (by decide) ?_
  refine g_iload_n (q0 := 5) (j := 1) rfl dX12_contentAt_4 rfl ?_
  obtain ⟨r5, e5, h⟩ := gI_bd h
  refine g_callSq1 (as := [_]) (rest := [_]) mt_X12_rowOf ms_X12_rowOf ml_X12_159 dX12_contentAt_5 (q0 := 8) rfl rfl (ok_rowOf hOK e5) rfl ⟨by decide, by decide⟩ (Nat.le_of_ble_eq_true rfl) ⟨Nat.zero_le _, Nat.zero_le _⟩ ?_
  refine g_iload_n (q0 := 9) (j := 2) rfl dX12_contentAt_8 rfl ?_
  refine g_iaddw (q0 := 10) rfl dX12_contentAt_9 ?_
  obtain ⟨g1, h⟩ := gI_gd h
  refine g_iald (q0 := 11) rfl dX12_contentAt_10 (sh_720 hOK) g1.1 g1.2 ?_
  rw [← Option.some.inj h]
  refine g_ireturn dX12_contentAt_11 rfl ⟨Nat.zero_le _, Nat.zero_le _⟩ ?_
  exact ⟨rfl, rfl, rfl⟩
-- ==== fileAt
theorem dX12_fileAt_0 : decode cX12_fileAt 0 = .ok (.iconst 0, 1) := by decide +kernel
theorem dX12_fileAt_1 : decode cX12_fileAt 1 = .ok (.istore_n 3, 1) := by decide +kernel
theorem dX12_fileAt_2 : decode cX12_fileAt 2 = .ok (.iload_n 3, 1) := by decide +kernel
theorem dX12_fileAt_3 : decode cX12_fileAt 3 = .ok (.aload_n 0, 1) := by decide +kernel
theorem dX12_fileAt_4 : decode cX12_fileAt 4 = .ok (.getfield 28, 3) := by decide +kernel
theorem dX12_fileAt_7 : decode cX12_fileAt 7 = .ok (.iload_n 1, 1) := by decide +kernel
theorem dX12_fileAt_8 : decode cX12_fileAt 8 = .ok (.iaload, 1) := by decide +kernel
theorem dX12_fileAt_9 : decode cX12_fileAt 9 = .ok (.if_icmp .ge 21, 3) := by decide +kernel
theorem dX12_fileAt_12 : decode cX12_fileAt 12 = .ok (.aload_n 0, 1) := by decide +kernel
theorem dX12_fileAt_13 : decode cX12_fileAt 13 = .ok (.iload_n 1, 1) := by decide +kernel
theorem dX12_fileAt_14 : decode cX12_fileAt 14 = .ok (.iload_n 3, 1) := by decide +kernel
theorem dX12_fileAt_15 : decode cX12_fileAt 15 = .ok (.invokevirtual 162, 3) := by decide +kernel
theorem dX12_fileAt_18 : decode cX12_fileAt 18 = .ok (.iload_n 2, 1) := by decide +kernel
theorem dX12_fileAt_19 : decode cX12_fileAt 19 = .ok (.if_icmp .ne 5, 3) := by decide +kernel
theorem dX12_fileAt_22 : decode cX12_fileAt 22 = .ok (.iload_n 3, 1) := by decide +kernel
theorem dX12_fileAt_23 : decode cX12_fileAt 23 = .ok (.ireturn, 1) := by decide +kernel
theorem dX12_fileAt_24 : decode cX12_fileAt 24 = .ok (.iinc 3 1, 3) := by decide +kernel
theorem dX12_fileAt_27 : decode cX12_fileAt 27 = .ok (.goto (-25), 3) := by decide +kernel
theorem dX12_fileAt_30 : decode cX12_fileAt 30 = .ok (.iconst (-1), 1) := by decide +kernel
theorem dX12_fileAt_31 : decode cX12_fileAt 31 = .ok (.ireturn, 1) := by decide +kernel
noncomputable def st_fileAt (M : gM) : Nat × List Int → Option ((Nat × List Int) ⊕ (Int))
  | (0, [x1, x2, x3]) => (if 0 ≤ x1 ∧ x1 < 123 then
      (if x3 < (M 718 x1) then
        (Option.bind (F_pathAt M x1 x3) (fun r15 =>
          (if r15 = x2 then
            some (.inr x3)
          else
            some (.inl (0, [x1, x2, (gw32 (x3 + 1))])))))
      else
        some (.inr (-1)))
    else none)
  | _ => none
theorem sk_fileAt_2 (k : Nat × List Int → Option (Int)) (M : gM) (x1 x2 x3 : Int) : gWk k (st_fileAt M (0, [x1, x2, x3])) = (if 0 ≤ x1 ∧ x1 < 123 then
    (if x3 < (M 718 x1) then
      (Option.bind (F_pathAt M x1 x3) (fun r15 =>
        (if r15 = x2 then
          some x3
        else
          k (0, [x1, x2, (gw32 (x3 + 1))]))))
    else
      some (-1))
  else none) := by
  simp only [st_fileAt, gWk_ite, gWk_bind, gWk_inl, gWk_inr, gWk_none]
noncomputable def F_fileAt_2 (M : gM) (x1 x2 x3 : Int) : Option (Int) := gWh (st_fileAt M) (0, [x1, x2, x3])
theorem eq_fileAt_2 (M : gM) (x1 x2 x3 : Int) : F_fileAt_2 M x1 x2 x3 = (if 0 ≤ x1 ∧ x1 < 123 then
    (if x3 < (M 718 x1) then
      (Option.bind (F_pathAt M x1 x3) (fun r15 =>
        (if r15 = x2 then
          some x3
        else
          F_fileAt_2 M x1 x2 (gw32 (x3 + 1)))))
    else
      some (-1))
  else none) := (gWh_eq _).trans (sk_fileAt_2 _ M x1 x2 x3)
noncomputable def F_fileAt (M : gM) (a1 a2 : Int) : Option (Int) := F_fileAt_2 M a1 a2 0
theorem eq_fileAt (M : gM) (a1 a2 : Int) : F_fileAt M a1 a2 = F_fileAt_2 M a1 a2 0 := rfl
theorem okp_fileAt {sh : gS} {M : gM} : ∀ (s : Nat × List Int) (b : Int), gWh (st_fileAt M) s = some b → (∀ (x1 x2 x3 : Int), s = (0, [x1, x2, x3]) → gOK sh M → gA (gr 2 42) yX12_fileAt cX12_fileAt 4 (some (.int)) (gPq sh (some (0, b)) M) (0, 0) 2 [(4, 711), (0, x1), (0, x2), (0, x3)] [] sh M) := by
  refine gWh_ind (fun k hk s b h => ?_)
  · rintro x1 x2 x3 rfl hOK
    rw [sk_fileAt_2] at h
    refine g_iload_n (q0 := 3) (j := 3) rfl dX12_fileAt_2 rfl ?_
    refine g_aload_n (q0 := 4) (j := 0) rfl dX12_fileAt_3 rfl ?_
    refine g_getp (q0 := 7) (b := 718) rfl ff_X12_28 dX12_fileAt_4 rfl hOK (by decide) (sh_711 hOK) rfl (by decide) ?_
    refine g_iload_n (q0 := 8) (j := 1) rfl dX12_fileAt_7 rfl ?_
    obtain ⟨g1, h⟩ := gI_gd h
    refine g_iald (q0 := 9) rfl dX12_fileAt_8 (sh_718 hOK) g1.1 g1.2 ?_
    refine g_icmp_ge (q0 := 12) (tgt := 30) rfl dX12_fileAt_9 (by decide) (fun h9 => ?_) (fun h9 => ?_)
    · replace h := gI_neg (Int.not_lt.mpr h9) h
      refine g_iconst (q0 := 31) rfl dX12_fileAt_30 (k := ?_)
      rw [← Option.some.inj h]
      refine g_ireturn dX12_fileAt_31 rfl ⟨Nat.zero_le _, Nat.zero_le _⟩ ?_
      exact ⟨rfl, rfl, rfl⟩
    · replace h := gI_pos h9 h
      refine g_aload_n (q0 := 13) (j := 0) rfl dX12_fileAt_12 rfl ?_
      refine g_iload_n (q0 := 14) (j := 1) rfl dX12_fileAt_13 rfl ?_
      refine g_iload_n (q0 := 15) (j := 3) rfl dX12_fileAt_14 rfl ?_
      obtain ⟨r15, e15, h⟩ := gI_bd h
      refine g_callVq1 (as := [_, _]) (rest := []) mt_X12_pathAt mi_X12_pathAt se_X12_pathAt ml_X12_162 dX12_fileAt_15 (q0 := 18) rfl rfl (sh_711 hOK) rfl rfl (ok_pathAt hOK e15) rfl ⟨by decide, by decide⟩ (Nat.le_of_ble_eq_true rfl) ⟨Nat.zero_le _, Nat.zero_le _⟩ ?_
      refine g_iload_n (q0 := 19) (j := 2) rfl dX12_fileAt_18 rfl ?_
      refine g_icmp_ne (q0 := 22) (tgt := 24) rfl dX12_fileAt_19 (by decide) (fun h19 => ?_) (fun h19 => ?_)
      · replace h := gI_neg h19 h
        refine g_iincw (q0 := 27) (lv2 := [_, _, _, _]) rfl dX12_fileAt_24 rfl (by decide) rfl rfl ?_
        refine g_goto (tgt := 2) dX12_fileAt_27 (by decide) ?_
        exact (hk _ _ h) _ _ _ rfl hOK
      · replace h := gI_pos h19 h
        refine g_iload_n (q0 := 23) (j := 3) rfl dX12_fileAt_22 rfl ?_
        rw [← Option.some.inj h]
        refine g_ireturn dX12_fileAt_23 rfl ⟨Nat.zero_le _, Nat.zero_le _⟩ ?_
        exact ⟨rfl, rfl, rfl⟩
theorem ok_fileAt_2 {sh : gS} {M : gM} {x1 x2 x3 : Int} {b : Int} (hOK : gOK sh M) (h : F_fileAt_2 M x1 x2 x3 = some b) : gA (gr 2 42) yX12_fileAt cX12_fileAt 4 (some (.int)) (gPq sh (some (0, b)) M) (0, 0) 2 [(4, 711), (0, x1), (0, x2), (0, x3)] [] sh M :=
  (okp_fileAt _ _ h) _ _ _ rfl hOK
theorem ok_fileAt {sh : gS} {M : gM} {a1 a2 : Int} {b : Int} (hOK : gOK sh M) (h : F_fileAt M a1 a2 = some b) : gC (gr 2 42) yX12_fileAt cX12_fileAt 4 (some (.int)) [(4, 711), (0, a1), (0, a2)] sh M (gPq sh (some (0, b)) M) := by
  rw [eq_fileAt] at h
  refine gC_ofA (lv := [_, _, _, _]) (by decide +kernel) (Nat.le_of_ble_eq_true rfl) rfl (fun hMw hav => ?_)
  refine g_iconst (q0 := 1) rfl dX12_fileAt_0 (k := ?_)
  refine g_istore_n (q0 := 2) (j := 3) (lv2 := [_, _, _, _]) rfl dX12_fileAt_1 (by decide) rfl rfl ?_
  exact ok_fileAt_2 hOK h
-- ==== contentBy
theorem dX12_contentBy_0 : decode cX12_contentBy 0 = .ok (.aload_n 0, 1) := by decide +kernel
theorem dX12_contentBy_1 : decode cX12_contentBy 1 = .ok (.iload_n 1, 1) := by decide +kernel
theorem dX12_contentBy_2 : decode cX12_contentBy 2 = .ok (.iload_n 2, 1) := by decide +kernel
theorem dX12_contentBy_3 : decode cX12_contentBy 3 = .ok (.invokevirtual 166, 3) := by decide +kernel
theorem dX12_contentBy_6 : decode cX12_contentBy 6 = .ok (.istore_n 3, 1) := by decide +kernel
theorem dX12_contentBy_7 : decode cX12_contentBy 7 = .ok (.iload_n 3, 1) := by decide +kernel
theorem dX12_contentBy_8 : decode cX12_contentBy 8 = .ok (.iconst (-1), 1) := by decide +kernel
theorem dX12_contentBy_9 : decode cX12_contentBy 9 = .ok (.if_icmp .ne 7, 3) := by decide +kernel
theorem dX12_contentBy_12 : decode cX12_contentBy 12 = .ok (.iconst 0, 1) := by decide +kernel
theorem dX12_contentBy_13 : decode cX12_contentBy 13 = .ok (.goto 9, 3) := by decide +kernel
theorem dX12_contentBy_16 : decode cX12_contentBy 16 = .ok (.aload_n 0, 1) := by decide +kernel
theorem dX12_contentBy_17 : decode cX12_contentBy 17 = .ok (.iload_n 1, 1) := by decide +kernel
theorem dX12_contentBy_18 : decode cX12_contentBy 18 = .ok (.iload_n 3, 1) := by decide +kernel
theorem dX12_contentBy_19 : decode cX12_contentBy 19 = .ok (.invokevirtual 169, 3) := by decide +kernel
theorem dX12_contentBy_22 : decode cX12_contentBy 22 = .ok (.ireturn, 1) := by decide +kernel
noncomputable def F_contentBy (M : gM) (a1 a2 : Int) : Option (Int) := (Option.bind (F_fileAt M a1 a2) (fun r3 =>
    (if r3 = -1 then
      some 0
    else
      (Option.bind (F_contentAt M a1 r3) (fun r19 =>
        some r19)))))
theorem eq_contentBy (M : gM) (a1 a2 : Int) : F_contentBy M a1 a2 = (Option.bind (F_fileAt M a1 a2) (fun r3 =>
    (if r3 = -1 then
      some 0
    else
      (Option.bind (F_contentAt M a1 r3) (fun r19 =>
        some r19))))) := rfl
theorem ok_contentBy {sh : gS} {M : gM} {a1 a2 : Int} {b : Int} (hOK : gOK sh M) (h : F_contentBy M a1 a2 = some b) : gC (gr 3 65) yX12_contentBy cX12_contentBy 4 (some (.int)) [(4, 711), (0, a1), (0, a2)] sh M (gPq sh (some (0, b)) M) := by
  rw [eq_contentBy] at h
  refine gC_ofA (lv := [_, _, _, _]) (by decide +kernel) (Nat.le_of_ble_eq_true rfl) rfl (fun hMw hav => ?_)
  refine g_aload_n (q0 := 1) (j := 0) rfl dX12_contentBy_0 rfl ?_
  refine g_iload_n (q0 := 2) (j := 1) rfl dX12_contentBy_1 rfl ?_
  refine g_iload_n (q0 := 3) (j := 2) rfl dX12_contentBy_2 rfl ?_
  obtain ⟨r3, e3, h⟩ := gI_bd h
  refine g_callVq1 (as := [_, _]) (rest := []) mt_X12_fileAt mi_X12_fileAt se_X12_fileAt ml_X12_166 dX12_contentBy_3 (q0 := 6) rfl rfl (sh_711 hOK) rfl rfl (ok_fileAt hOK e3) rfl ⟨by decide, by decide⟩ (Nat.le_of_ble_eq_true rfl) ⟨Nat.zero_le _, Nat.zero_le _⟩ ?_
  refine g_istore_n (q0 := 7) (j := 3) (lv2 := [_, _, _, _]) rfl dX12_contentBy_6 (by decide) rfl rfl ?_
  refine g_iload_n (q0 := 8) (j := 3) rfl dX12_contentBy_7 rfl ?_
  refine g_iconst (q0 := 9) rfl dX12_contentBy_8 (k := ?_)
  refine g_icmp_ne (q0 := 12) (tgt := 16) rfl dX12_contentBy_9 (by decide) (fun h9 => ?_) (fun h9 => ?_)
  · replace h := gI_neg h9 h
    refine g_aload_n (q0 := 17) (j := 0) rfl dX12_contentBy_16 rfl ?_
    refine g_iload_n (q0 := 18) (j := 1) rfl dX12_contentBy_17 rfl ?_
    refine g_iload_n (q0 := 19) (j := 3) rfl dX12_contentBy_18 rfl ?_
    obtain ⟨r19, e19, h⟩ := gI_bd h
    refine g_callVq1 (as := [_, _]) (rest := []) mt_X12_contentAt mi_X12_contentAt se_X12_contentAt ml_X12_169 dX12_contentBy_19 (q0 := 22) rfl rfl (sh_711 hOK) rfl rfl (ok_contentAt hOK e19) rfl ⟨by decide, by decide⟩ (Nat.le_of_ble_eq_true rfl) ⟨Nat.zero_le _, Nat.zero_le _⟩ ?_
    rw [← Option.some.inj h]
    refine g_ireturn dX12_contentBy_22 rfl ⟨Nat.zero_le _, Nat.zero_le _⟩ ?_
    exact ⟨rfl, rfl, rfl⟩
  · replace h := gI_pos h9 h
    refine g_iconst (q0 := 13) rfl dX12_contentBy_12 (k := ?_)
    refine g_goto (tgt := 22) dX12_contentBy_13 (by decide) ?_
    rw [← Option.some.inj h]
    refine g_ireturn dX12_contentBy_22 rfl ⟨Nat.zero_le _, Nat.zero_le _⟩ ?_
    exact ⟨rfl, rfl, rfl⟩
-- ==== filesBelow
theorem dX12_filesBelow_0 : decode cX12_filesBelow 0 = .ok (.iconst 0, 1) := by decide +kernel
theorem dX12_filesBelow_1 : decode cX12_filesBelow 1 = .ok (.istore_n 3, 1) := by decide +kernel
theorem dX12_filesBelow_2 : decode cX12_filesBelow 2 = .ok (.iconst 0, 1) := by decide +kernel
theorem dX12_filesBelow_3 : decode cX12_filesBelow 3 = .ok (.istore 4, 2) := by decide +kernel
theorem dX12_filesBelow_5 : decode cX12_filesBelow 5 = .ok (.iload 4, 2) := by decide +kernel
theorem dX12_filesBelow_7 : decode cX12_filesBelow 7 = .ok (.aload_n 0, 1) := by decide +kernel
theorem dX12_filesBelow_8 : decode cX12_filesBelow 8 = .ok (.getfield 28, 3) := by decide +kernel
theorem dX12_filesBelow_11 : decode cX12_filesBelow 11 = .ok (.iload_n 1, 1) := by decide +kernel
theorem dX12_filesBelow_12 : decode cX12_filesBelow 12 = .ok (.iaload, 1) := by decide +kernel
theorem dX12_filesBelow_13 : decode cX12_filesBelow 13 = .ok (.if_icmp .ge 27, 3) := by decide +kernel
theorem dX12_filesBelow_16 : decode cX12_filesBelow 16 = .ok (.aload_n 0, 1) := by decide +kernel
theorem dX12_filesBelow_17 : decode cX12_filesBelow 17 = .ok (.iload_n 1, 1) := by decide +kernel
theorem dX12_filesBelow_18 : decode cX12_filesBelow 18 = .ok (.iload 4, 2) := by decide +kernel
theorem dX12_filesBelow_20 : decode cX12_filesBelow 20 = .ok (.invokevirtual 162, 3) := by decide +kernel
theorem dX12_filesBelow_23 : decode cX12_filesBelow 23 = .ok (.iload_n 2, 1) := by decide +kernel
theorem dX12_filesBelow_24 : decode cX12_filesBelow 24 = .ok (.invokestatic 172, 3) := by decide +kernel
theorem dX12_filesBelow_27 : decode cX12_filesBelow 27 = .ok (.ifCond .eq 7, 3) := by decide +kernel
theorem dX12_filesBelow_30 : decode cX12_filesBelow 30 = .ok (.iload_n 3, 1) := by decide +kernel
theorem dX12_filesBelow_31 : decode cX12_filesBelow 31 = .ok (.iconst 1, 1) := by decide +kernel
theorem dX12_filesBelow_32 : decode cX12_filesBelow 32 = .ok (.iadd, 1) := by decide +kernel
theorem dX12_filesBelow_33 : decode cX12_filesBelow 33 = .ok (.istore_n 3, 1) := by decide +kernel
theorem dX12_filesBelow_34 : decode cX12_filesBelow 34 = .ok (.iinc 4 1, 3) := by decide +kernel
theorem dX12_filesBelow_37 : decode cX12_filesBelow 37 = .ok (.goto (-32), 3) := by decide +kernel
theorem dX12_filesBelow_40 : decode cX12_filesBelow 40 = .ok (.iload_n 3, 1) := by decide +kernel
theorem dX12_filesBelow_41 : decode cX12_filesBelow 41 = .ok (.ireturn, 1) := by decide +kernel
noncomputable def st_filesBelow (M : gM) : Nat × List Int → Option ((Nat × List Int) ⊕ (Int))
  | (0, [x1, x2, x3, x4]) => (if 0 ≤ x1 ∧ x1 < 123 then
      (if x4 < (M 718 x1) then
        (Option.bind (F_pathAt M x1 x4) (fun r20 =>
          (Option.bind (F_isAtOrBelow r20 x2) (fun r24 =>
            (if r24 = 0 then
              some (.inl (0, [x1, x2, x3, (gw32 (x4 + 1))]))
            else
              some (.inl (0, [x1, x2, (gw32 (x3 + (1 : Int))), (gw32 (x4 + 1))])))))))
      else
        some (.inr x3))
    else none)
  | _ => none
theorem sk_filesBelow_5 (k : Nat × List Int → Option (Int)) (M : gM) (x1 x2 x3 x4 : Int) : gWk k (st_filesBelow M (0, [x1, x2, x3, x4])) = (if 0 ≤ x1 ∧ x1 < 123 then
    (if x4 < (M 718 x1) then
      (Option.bind (F_pathAt M x1 x4) (fun r20 =>
        (Option.bind (F_isAtOrBelow r20 x2) (fun r24 =>
          (if r24 = 0 then
            k (0, [x1, x2, x3, (gw32 (x4 + 1))])
          else
            k (0, [x1, x2, (gw32 (x3 + (1 : Int))), (gw32 (x4 + 1))]))))))
    else
      some x3)
  else none) := by
  simp only [st_filesBelow, gWk_ite, gWk_bind, gWk_inl, gWk_inr, gWk_none]
noncomputable def F_filesBelow_5 (M : gM) (x1 x2 x3 x4 : Int) : Option (Int) := gWh (st_filesBelow M) (0, [x1, x2, x3, x4])
theorem eq_filesBelow_5 (M : gM) (x1 x2 x3 x4 : Int) : F_filesBelow_5 M x1 x2 x3 x4 = (if 0 ≤ x1 ∧ x1 < 123 then
    (if x4 < (M 718 x1) then
      (Option.bind (F_pathAt M x1 x4) (fun r20 =>
        (Option.bind (F_isAtOrBelow r20 x2) (fun r24 =>
          (if r24 = 0 then
            F_filesBelow_5 M x1 x2 x3 (gw32 (x4 + 1))
          else
            F_filesBelow_5 M x1 x2 (gw32 (x3 + (1 : Int))) (gw32 (x4 + 1)))))))
    else
      some x3)
  else none) := (gWh_eq _).trans (sk_filesBelow_5 _ M x1 x2 x3 x4)
noncomputable def F_filesBelow (M : gM) (a1 a2 : Int) : Option (Int) := F_filesBelow_5 M a1 a2 0 0
theorem eq_filesBelow (M : gM) (a1 a2 : Int) : F_filesBelow M a1 a2 = F_filesBelow_5 M a1 a2 0 0 := rfl
theorem okp_filesBelow {sh : gS} {M : gM} : ∀ (s : Nat × List Int) (b : Int), gWh (st_filesBelow M) s = some b → (∀ (x1 x2 x3 x4 : Int), s = (0, [x1, x2, x3, x4]) → gOK sh M → gA (gr 3 64) yX12_filesBelow cX12_filesBelow 5 (some (.int)) (gPq sh (some (0, b)) M) (0, 0) 5 [(4, 711), (0, x1), (0, x2), (0, x3), (0, x4)] [] sh M) := by
  refine gWh_ind (fun k hk s b h => ?_)
  · rintro x1 x2 x3 x4 rfl hOK
    rw [sk_filesBelow_5] at h
    refine g_iload (q0 := 7) (j := 4) rfl dX12_filesBelow_5 rfl ?_
    refine g_aload_n (q0 := 8) (j := 0) rfl dX12_filesBelow_7 rfl ?_
    refine g_getp (q0 := 11) (b := 718) rfl ff_X12_28 dX12_filesBelow_8 rfl hOK (by decide) (sh_711 hOK) rfl (by decide) ?_
    refine g_iload_n (q0 := 12) (j := 1) rfl dX12_filesBelow_11 rfl ?_
    obtain ⟨g1, h⟩ := gI_gd h
    refine g_iald (q0 := 13) rfl dX12_filesBelow_12 (sh_718 hOK) g1.1 g1.2 ?_
    refine g_icmp_ge (q0 := 16) (tgt := 40) rfl dX12_filesBelow_13 (by decide) (fun h13 => ?_) (fun h13 => ?_)
    · replace h := gI_neg (Int.not_lt.mpr h13) h
      refine g_iload_n (q0 := 41) (j := 3) rfl dX12_filesBelow_40 rfl ?_
      rw [← Option.some.inj h]
      refine g_ireturn dX12_filesBelow_41 rfl ⟨Nat.zero_le _, Nat.zero_le _⟩ ?_
      exact ⟨rfl, rfl, rfl⟩
    · replace h := gI_pos h13 h
      refine g_aload_n (q0 := 17) (j := 0) rfl dX12_filesBelow_16 rfl ?_
      refine g_iload_n (q0 := 18) (j := 1) rfl dX12_filesBelow_17 rfl ?_
      refine g_iload (q0 := 20) (j := 4) rfl dX12_filesBelow_18 rfl ?_
      obtain ⟨r20, e20, h⟩ := gI_bd h
      refine g_callVq1 (as := [_, _]) (rest := []) mt_X12_pathAt mi_X12_pathAt se_X12_pathAt ml_X12_162 dX12_filesBelow_20 (q0 := 23) rfl rfl (sh_711 hOK) rfl rfl (ok_pathAt hOK e20) rfl ⟨by decide, by decide⟩ (Nat.le_of_ble_eq_true rfl) ⟨Nat.zero_le _, Nat.zero_le _⟩ ?_
      refine g_iload_n (q0 := 24) (j := 2) rfl dX12_filesBelow_23 rfl ?_
      obtain ⟨r24, e24, h⟩ := gI_bd h
      refine g_callSq1 (as := [_, _]) (rest := []) mt_X12_isAtOrBelow ms_X12_isAtOrBelow ml_X12_172 dX12_filesBelow_24 (q0 := 27) rfl rfl (ok_isAtOrBelow hOK e24) rfl ⟨by decide, by decide⟩ (Nat.le_of_ble_eq_true rfl) ⟨Nat.zero_le _, Nat.zero_le _⟩ ?_
      refine g_if_eq (q0 := 30) (tgt := 34) rfl dX12_filesBelow_27 (by decide) (fun h27 => ?_) (fun h27 => ?_)
      · replace h := gI_pos h27 h
        refine g_iincw (q0 := 37) (lv2 := [_, _, _, _, _]) rfl dX12_filesBelow_34 rfl (by decide) rfl rfl ?_
        refine g_goto (tgt := 5) dX12_filesBelow_37 (by decide) ?_
        exact (hk _ _ h) _ _ _ _ rfl hOK
      · replace h := gI_neg h27 h
        refine g_iload_n (q0 := 31) (j := 3) rfl dX12_filesBelow_30 rfl ?_
        refine g_iconst (q0 := 32) rfl dX12_filesBelow_31 (k := ?_)
        refine g_iaddw (q0 := 33) rfl dX12_filesBelow_32 ?_
        refine g_istore_n (q0 := 34) (j := 3) (lv2 := [_, _, _, _, _]) rfl dX12_filesBelow_33 (by decide) rfl rfl ?_
        refine g_iincw (q0 := 37) (lv2 := [_, _, _, _, _]) rfl dX12_filesBelow_34 rfl (by decide) rfl rfl ?_
        refine g_goto (tgt := 5) dX12_filesBelow_37 (by decide) ?_
        exact (hk _ _ h) _ _ _ _ rfl hOK
theorem ok_filesBelow_5 {sh : gS} {M : gM} {x1 x2 x3 x4 : Int} {b : Int} (hOK : gOK sh M) (h : F_filesBelow_5 M x1 x2 x3 x4 = some b) : gA (gr 3 64) yX12_filesBelow cX12_filesBelow 5 (some (.int)) (gPq sh (some (0, b)) M) (0, 0) 5 [(4, 711), (0, x1), (0, x2), (0, x3), (0, x4)] [] sh M :=
  (okp_filesBelow _ _ h) _ _ _ _ rfl hOK
theorem ok_filesBelow {sh : gS} {M : gM} {a1 a2 : Int} {b : Int} (hOK : gOK sh M) (h : F_filesBelow M a1 a2 = some b) : gC (gr 3 64) yX12_filesBelow cX12_filesBelow 5 (some (.int)) [(4, 711), (0, a1), (0, a2)] sh M (gPq sh (some (0, b)) M) := by
  rw [eq_filesBelow] at h
  refine gC_ofA (lv := [_, _, _, _, _]) (by decide +kernel) (Nat.le_of_ble_eq_true rfl) rfl (fun hMw hav => ?_)
  refine g_iconst (q0 := 1) rfl dX12_filesBelow_0 (k := ?_)
  refine g_istore_n (q0 := 2) (j := 3) (lv2 := [_, _, _, _, _]) rfl dX12_filesBelow_1 (by decide) rfl rfl ?_
  refine g_iconst (q0 := 3) rfl dX12_filesBelow_2 (k := ?_)
  refine g_istore (q0 := 5) (j := 4) (lv2 := [_, _, _, _, _]) rfl dX12_filesBelow_3 (by decide) rfl rfl ?_
  exact ok_filesBelow_5 hOK h
-- ==== kindAt
theorem dX12_kindAt_0 : decode cX12_kindAt 0 = .ok (.aload_n 0, 1) := by decide +kernel
theorem dX12_kindAt_1 : decode cX12_kindAt 1 = .ok (.iload_n 1, 1) := by decide +kernel
theorem dX12_kindAt_2 : decode cX12_kindAt 2 = .ok (.iload_n 2, 1) := by decide +kernel
theorem dX12_kindAt_3 : decode cX12_kindAt 3 = .ok (.invokevirtual 166, 3) := by decide +kernel
theorem dX12_kindAt_6 : decode cX12_kindAt 6 = .ok (.iconst (-1), 1) := by decide +kernel
theorem dX12_kindAt_7 : decode cX12_kindAt 7 = .ok (.if_icmp .eq 7, 3) := by decide +kernel
theorem dX12_kindAt_10 : decode cX12_kindAt 10 = .ok (.iconst 1, 1) := by decide +kernel
theorem dX12_kindAt_11 : decode cX12_kindAt 11 = .ok (.goto 17, 3) := by decide +kernel
theorem dX12_kindAt_14 : decode cX12_kindAt 14 = .ok (.aload_n 0, 1) := by decide +kernel
theorem dX12_kindAt_15 : decode cX12_kindAt 15 = .ok (.iload_n 1, 1) := by decide +kernel
theorem dX12_kindAt_16 : decode cX12_kindAt 16 = .ok (.iload_n 2, 1) := by decide +kernel
theorem dX12_kindAt_17 : decode cX12_kindAt 17 = .ok (.invokevirtual 175, 3) := by decide +kernel
theorem dX12_kindAt_20 : decode cX12_kindAt 20 = .ok (.ifCond .le 7, 3) := by decide +kernel
theorem dX12_kindAt_23 : decode cX12_kindAt 23 = .ok (.iconst 2, 1) := by decide +kernel
theorem dX12_kindAt_24 : decode cX12_kindAt 24 = .ok (.goto 4, 3) := by decide +kernel
theorem dX12_kindAt_27 : decode cX12_kindAt 27 = .ok (.iconst 0, 1) := by decide +kernel
theorem dX12_kindAt_28 : decode cX12_kindAt 28 = .ok (.ireturn, 1) := by decide +kernel
noncomputable def F_kindAt (M : gM) (a1 a2 : Int) : Option (Int) := (Option.bind (F_fileAt M a1 a2) (fun r3 =>
    (if r3 = -1 then
      (Option.bind (F_filesBelow M a1 a2) (fun r17 =>
        (if (0 : Int) < r17 then
          some 2
        else
          some 0)))
    else
      some 1)))
theorem eq_kindAt (M : gM) (a1 a2 : Int) : F_kindAt M a1 a2 = (Option.bind (F_fileAt M a1 a2) (fun r3 =>
    (if r3 = -1 then
      (Option.bind (F_filesBelow M a1 a2) (fun r17 =>
        (if (0 : Int) < r17 then
          some 2
        else
          some 0)))
    else
      some 1))) := rfl
theorem ok_kindAt {sh : gS} {M : gM} {a1 a2 : Int} {b : Int} (hOK : gOK sh M) (h : F_kindAt M a1 a2 = some b) : gC (gr 4 88) yX12_kindAt cX12_kindAt 3 (some (.int)) [(4, 711), (0, a1), (0, a2)] sh M (gPq sh (some (0, b)) M) := by
  rw [eq_kindAt] at h
  refine gC_ofA (lv := [_, _, _]) (by decide +kernel) (Nat.le_of_ble_eq_true rfl) rfl (fun hMw hav => ?_)
  refine g_aload_n (q0 := 1) (j := 0) rfl dX12_kindAt_0 rfl ?_
  refine g_iload_n (q0 := 2) (j := 1) rfl dX12_kindAt_1 rfl ?_
  refine g_iload_n (q0 := 3) (j := 2) rfl dX12_kindAt_2 rfl ?_
  obtain ⟨r3, e3, h⟩ := gI_bd h
  refine g_callVq1 (as := [_, _]) (rest := []) mt_X12_fileAt mi_X12_fileAt se_X12_fileAt ml_X12_166 dX12_kindAt_3 (q0 := 6) rfl rfl (sh_711 hOK) rfl rfl (ok_fileAt hOK e3) rfl ⟨by decide, by decide⟩ (Nat.le_of_ble_eq_true rfl) ⟨Nat.zero_le _, Nat.zero_le _⟩ ?_
  refine g_iconst (q0 := 7) rfl dX12_kindAt_6 (k := ?_)
  refine g_icmp_eq (q0 := 10) (tgt := 14) rfl dX12_kindAt_7 (by decide) (fun h7 => ?_) (fun h7 => ?_)
  · replace h := gI_pos h7 h
    refine g_aload_n (q0 := 15) (j := 0) rfl dX12_kindAt_14 rfl ?_
    refine g_iload_n (q0 := 16) (j := 1) rfl dX12_kindAt_15 rfl ?_
    refine g_iload_n (q0 := 17) (j := 2) rfl dX12_kindAt_16 rfl ?_
    obtain ⟨r17, e17, h⟩ := gI_bd h
    refine g_callVq1 (as := [_, _]) (rest := []) mt_X12_filesBelow mi_X12_filesBelow se_X12_filesBelow ml_X12_175 dX12_kindAt_17 (q0 := 20) rfl rfl (sh_711 hOK) rfl rfl (ok_filesBelow hOK e17) rfl ⟨by decide, by decide⟩ (Nat.le_of_ble_eq_true rfl) ⟨Nat.zero_le _, Nat.zero_le _⟩ ?_
    refine g_if_le (q0 := 23) (tgt := 27) rfl dX12_kindAt_20 (by decide) (fun h20 => ?_) (fun h20 => ?_)
    · replace h := gI_neg (Int.not_lt.mpr h20) h
      refine g_iconst (q0 := 28) rfl dX12_kindAt_27 (k := ?_)
      rw [← Option.some.inj h]
      refine g_ireturn dX12_kindAt_28 rfl ⟨Nat.zero_le _, Nat.zero_le _⟩ ?_
      exact ⟨rfl, rfl, rfl⟩
    · replace h := gI_pos h20 h
      refine g_iconst (q0 := 24) rfl dX12_kindAt_23 (k := ?_)
      refine g_goto (tgt := 28) dX12_kindAt_24 (by decide) ?_
      rw [← Option.some.inj h]
      refine g_ireturn dX12_kindAt_28 rfl ⟨Nat.zero_le _, Nat.zero_le _⟩ ?_
      exact ⟨rfl, rfl, rfl⟩
  · replace h := gI_neg h7 h
    refine g_iconst (q0 := 11) rfl dX12_kindAt_10 (k := ?_)
    refine g_goto (tgt := 28) dX12_kindAt_11 (by decide) ?_
    rw [← Option.some.inj h]
    refine g_ireturn dX12_kindAt_28 rfl ⟨Nat.zero_le _, Nat.zero_le _⟩ ?_
    exact ⟨rfl, rfl, rfl⟩
-- ==== isBarred
theorem dX12_isBarred_0 : decode cX12_isBarred 0 = .ok (.iconst 0, 1) := by decide +kernel
theorem dX12_isBarred_1 : decode cX12_isBarred 1 = .ok (.istore_n 3, 1) := by decide +kernel
theorem dX12_isBarred_2 : decode cX12_isBarred 2 = .ok (.iload_n 3, 1) := by decide +kernel
theorem dX12_isBarred_3 : decode cX12_isBarred 3 = .ok (.aload_n 0, 1) := by decide +kernel
theorem dX12_isBarred_4 : decode cX12_isBarred 4 = .ok (.getfield 28, 3) := by decide +kernel
theorem dX12_isBarred_7 : decode cX12_isBarred 7 = .ok (.iload_n 1, 1) := by decide +kernel
theorem dX12_isBarred_8 : decode cX12_isBarred 8 = .ok (.iaload, 1) := by decide +kernel
theorem dX12_isBarred_9 : decode cX12_isBarred 9 = .ok (.if_icmp .ge 24, 3) := by decide +kernel
theorem dX12_isBarred_12 : decode cX12_isBarred 12 = .ok (.aload_n 0, 1) := by decide +kernel
theorem dX12_isBarred_13 : decode cX12_isBarred 13 = .ok (.iload_n 1, 1) := by decide +kernel
theorem dX12_isBarred_14 : decode cX12_isBarred 14 = .ok (.iload_n 3, 1) := by decide +kernel
theorem dX12_isBarred_15 : decode cX12_isBarred 15 = .ok (.invokevirtual 162, 3) := by decide +kernel
theorem dX12_isBarred_18 : decode cX12_isBarred 18 = .ok (.iload_n 2, 1) := by decide +kernel
theorem dX12_isBarred_19 : decode cX12_isBarred 19 = .ok (.invokestatic 154, 3) := by decide +kernel
theorem dX12_isBarred_22 : decode cX12_isBarred 22 = .ok (.ifCond .eq 5, 3) := by decide +kernel
theorem dX12_isBarred_25 : decode cX12_isBarred 25 = .ok (.iconst 1, 1) := by decide +kernel
theorem dX12_isBarred_26 : decode cX12_isBarred 26 = .ok (.ireturn, 1) := by decide +kernel
theorem dX12_isBarred_27 : decode cX12_isBarred 27 = .ok (.iinc 3 1, 3) := by decide +kernel
theorem dX12_isBarred_30 : decode cX12_isBarred 30 = .ok (.goto (-28), 3) := by decide +kernel
theorem dX12_isBarred_33 : decode cX12_isBarred 33 = .ok (.iconst 0, 1) := by decide +kernel
theorem dX12_isBarred_34 : decode cX12_isBarred 34 = .ok (.ireturn, 1) := by decide +kernel
noncomputable def st_isBarred (M : gM) : Nat × List Int → Option ((Nat × List Int) ⊕ (Int))
  | (0, [x1, x2, x3]) => (if 0 ≤ x1 ∧ x1 < 123 then
      (if x3 < (M 718 x1) then
        (Option.bind (F_pathAt M x1 x3) (fun r15 =>
          (Option.bind (F_begins r15 x2) (fun r19 =>
            (if r19 = 0 then
              some (.inl (0, [x1, x2, (gw32 (x3 + 1))]))
            else
              some (.inr 1))))))
      else
        some (.inr 0))
    else none)
  | _ => none
theorem sk_isBarred_2 (k : Nat × List Int → Option (Int)) (M : gM) (x1 x2 x3 : Int) : gWk k (st_isBarred M (0, [x1, x2, x3])) = (if 0 ≤ x1 ∧ x1 < 123 then
    (if x3 < (M 718 x1) then
      (Option.bind (F_pathAt M x1 x3) (fun r15 =>
        (Option.bind (F_begins r15 x2) (fun r19 =>
          (if r19 = 0 then
            k (0, [x1, x2, (gw32 (x3 + 1))])
          else
            some 1)))))
    else
      some 0)
  else none) := by
  simp only [st_isBarred, gWk_ite, gWk_bind, gWk_inl, gWk_inr, gWk_none]
noncomputable def F_isBarred_2 (M : gM) (x1 x2 x3 : Int) : Option (Int) := gWh (st_isBarred M) (0, [x1, x2, x3])
theorem eq_isBarred_2 (M : gM) (x1 x2 x3 : Int) : F_isBarred_2 M x1 x2 x3 = (if 0 ≤ x1 ∧ x1 < 123 then
    (if x3 < (M 718 x1) then
      (Option.bind (F_pathAt M x1 x3) (fun r15 =>
        (Option.bind (F_begins r15 x2) (fun r19 =>
          (if r19 = 0 then
            F_isBarred_2 M x1 x2 (gw32 (x3 + 1))
          else
            some 1)))))
    else
      some 0)
  else none) := (gWh_eq _).trans (sk_isBarred_2 _ M x1 x2 x3)
noncomputable def F_isBarred (M : gM) (a1 a2 : Int) : Option (Int) := F_isBarred_2 M a1 a2 0
theorem eq_isBarred (M : gM) (a1 a2 : Int) : F_isBarred M a1 a2 = F_isBarred_2 M a1 a2 0 := rfl
theorem bop_isBarred {M : gM} : ∀ (s : Nat × List Int) (b : Int), gWh (st_isBarred M) s = some b → (∀ (x1 x2 x3 : Int), s = (0, [x1, x2, x3]) → b = 0 ∨ b = 1) := by
  refine gWh_ind (fun k hk s b h => ?_)
  · rintro x1 x2 x3 rfl
    rw [sk_isBarred_2] at h
    obtain ⟨g1, h⟩ := gI_gd h
    rcases gI_or h with h | h
    · obtain ⟨r15, e15, h⟩ := gI_bd h
      obtain ⟨r19, e19, h⟩ := gI_bd h
      rcases gI_or h with h | h
      · exact (hk _ _ h) _ _ _ rfl
      · rw [← Option.some.inj h]
        exact (Or.inr rfl)
    · rw [← Option.some.inj h]
      exact (Or.inl rfl)
theorem bo_isBarred_2 {M : gM} {x1 x2 x3 : Int} {b : Int} (h : F_isBarred_2 M x1 x2 x3 = some b) : b = 0 ∨ b = 1 :=
  (bop_isBarred _ _ h) _ _ _ rfl
theorem bo_isBarred {M : gM} {a1 a2 : Int} {b : Int} (h : F_isBarred M a1 a2 = some b) : b = 0 ∨ b = 1 := by
  rw [eq_isBarred] at h
  exact bo_isBarred_2 h
theorem okp_isBarred {sh : gS} {M : gM} : ∀ (s : Nat × List Int) (b : Int), gWh (st_isBarred M) s = some b → (∀ (x1 x2 x3 : Int), s = (0, [x1, x2, x3]) → gOK sh M → gA (gr 2 43) yX12_isBarred cX12_isBarred 4 (some (.boolean)) (gPq sh (some (0, b)) M) (0, 0) 2 [(4, 711), (0, x1), (0, x2), (0, x3)] [] sh M) := by
  refine gWh_ind (fun k hk s b h => ?_)
  · rintro x1 x2 x3 rfl hOK
    rw [sk_isBarred_2] at h
    refine g_iload_n (q0 := 3) (j := 3) rfl dX12_isBarred_2 rfl ?_
    refine g_aload_n (q0 := 4) (j := 0) rfl dX12_isBarred_3 rfl ?_
    refine g_getp (q0 := 7) (b := 718) rfl ff_X12_28 dX12_isBarred_4 rfl hOK (by decide) (sh_711 hOK) rfl (by decide) ?_
    refine g_iload_n (q0 := 8) (j := 1) rfl dX12_isBarred_7 rfl ?_
    obtain ⟨g1, h⟩ := gI_gd h
    refine g_iald (q0 := 9) rfl dX12_isBarred_8 (sh_718 hOK) g1.1 g1.2 ?_
    refine g_icmp_ge (q0 := 12) (tgt := 33) rfl dX12_isBarred_9 (by decide) (fun h9 => ?_) (fun h9 => ?_)
    · replace h := gI_neg (Int.not_lt.mpr h9) h
      refine g_iconst (q0 := 34) rfl dX12_isBarred_33 (k := ?_)
      rw [← Option.some.inj h]
      refine g_zreturn dX12_isBarred_34 rfl (gnz (Or.inl rfl)) ⟨Nat.zero_le _, Nat.zero_le _⟩ ?_
      exact ⟨rfl, rfl, rfl⟩
    · replace h := gI_pos h9 h
      refine g_aload_n (q0 := 13) (j := 0) rfl dX12_isBarred_12 rfl ?_
      refine g_iload_n (q0 := 14) (j := 1) rfl dX12_isBarred_13 rfl ?_
      refine g_iload_n (q0 := 15) (j := 3) rfl dX12_isBarred_14 rfl ?_
      obtain ⟨r15, e15, h⟩ := gI_bd h
      refine g_callVq1 (as := [_, _]) (rest := []) mt_X12_pathAt mi_X12_pathAt se_X12_pathAt ml_X12_162 dX12_isBarred_15 (q0 := 18) rfl rfl (sh_711 hOK) rfl rfl (ok_pathAt hOK e15) rfl ⟨by decide, by decide⟩ (Nat.le_of_ble_eq_true rfl) ⟨Nat.zero_le _, Nat.zero_le _⟩ ?_
      refine g_iload_n (q0 := 19) (j := 2) rfl dX12_isBarred_18 rfl ?_
      obtain ⟨r19, e19, h⟩ := gI_bd h
      refine g_callSq1 (as := [_, _]) (rest := []) mt_X12_begins ms_X12_begins ml_X12_154 dX12_isBarred_19 (q0 := 22) rfl rfl (ok_begins hOK e19) rfl ⟨by decide, by decide⟩ (Nat.le_of_ble_eq_true rfl) ⟨Nat.zero_le _, Nat.zero_le _⟩ ?_
      refine g_if_eq (q0 := 25) (tgt := 27) rfl dX12_isBarred_22 (by decide) (fun h22 => ?_) (fun h22 => ?_)
      · replace h := gI_pos h22 h
        refine g_iincw (q0 := 30) (lv2 := [_, _, _, _]) rfl dX12_isBarred_27 rfl (by decide) rfl rfl ?_
        refine g_goto (tgt := 2) dX12_isBarred_30 (by decide) ?_
        exact (hk _ _ h) _ _ _ rfl hOK
      · replace h := gI_neg h22 h
        refine g_iconst (q0 := 26) rfl dX12_isBarred_25 (k := ?_)
        rw [← Option.some.inj h]
        refine g_zreturn dX12_isBarred_26 rfl (gnz (Or.inr rfl)) ⟨Nat.zero_le _, Nat.zero_le _⟩ ?_
        exact ⟨rfl, rfl, rfl⟩
theorem ok_isBarred_2 {sh : gS} {M : gM} {x1 x2 x3 : Int} {b : Int} (hOK : gOK sh M) (h : F_isBarred_2 M x1 x2 x3 = some b) : gA (gr 2 43) yX12_isBarred cX12_isBarred 4 (some (.boolean)) (gPq sh (some (0, b)) M) (0, 0) 2 [(4, 711), (0, x1), (0, x2), (0, x3)] [] sh M :=
  (okp_isBarred _ _ h) _ _ _ rfl hOK
theorem ok_isBarred {sh : gS} {M : gM} {a1 a2 : Int} {b : Int} (hOK : gOK sh M) (h : F_isBarred M a1 a2 = some b) : gC (gr 2 43) yX12_isBarred cX12_isBarred 4 (some (.boolean)) [(4, 711), (0, a1), (0, a2)] sh M (gPq sh (some (0, b)) M) := by
  rw [eq_isBarred] at h
  refine gC_ofA (lv := [_, _, _, _]) (by decide +kernel) (Nat.le_of_ble_eq_true rfl) rfl (fun hMw hav => ?_)
  refine g_iconst (q0 := 1) rfl dX12_isBarred_0 (k := ?_)
  refine g_istore_n (q0 := 2) (j := 3) (lv2 := [_, _, _, _]) rfl dX12_isBarred_1 (by decide) rfl rfl ?_
  exact ok_isBarred_2 hOK h
-- ==== copyTree
theorem dX12_copyTree_0 : decode cX12_copyTree 0 = .ok (.aload_n 0, 1) := by decide +kernel
theorem dX12_copyTree_1 : decode cX12_copyTree 1 = .ok (.getfield 28, 3) := by decide +kernel
theorem dX12_copyTree_4 : decode cX12_copyTree 4 = .ok (.iload_n 2, 1) := by decide +kernel
theorem dX12_copyTree_5 : decode cX12_copyTree 5 = .ok (.aload_n 0, 1) := by decide +kernel
theorem dX12_copyTree_6 : decode cX12_copyTree 6 = .ok (.getfield 28, 3) := by decide +kernel
theorem dX12_copyTree_9 : decode cX12_copyTree 9 = .ok (.iload_n 1, 1) := by decide +kernel
theorem dX12_copyTree_10 : decode cX12_copyTree 10 = .ok (.iaload, 1) := by decide +kernel
theorem dX12_copyTree_11 : decode cX12_copyTree 11 = .ok (.iastore, 1) := by decide +kernel
theorem dX12_copyTree_12 : decode cX12_copyTree 12 = .ok (.iconst 0, 1) := by decide +kernel
theorem dX12_copyTree_13 : decode cX12_copyTree 13 = .ok (.istore_n 3, 1) := by decide +kernel
theorem dX12_copyTree_14 : decode cX12_copyTree 14 = .ok (.iload_n 3, 1) := by decide +kernel
theorem dX12_copyTree_15 : decode cX12_copyTree 15 = .ok (.aload_n 0, 1) := by decide +kernel
theorem dX12_copyTree_16 : decode cX12_copyTree 16 = .ok (.getfield 28, 3) := by decide +kernel
theorem dX12_copyTree_19 : decode cX12_copyTree 19 = .ok (.iload_n 1, 1) := by decide +kernel
theorem dX12_copyTree_20 : decode cX12_copyTree 20 = .ok (.iaload, 1) := by decide +kernel
theorem dX12_copyTree_21 : decode cX12_copyTree 21 = .ok (.if_icmp .ge 43, 3) := by decide +kernel
theorem dX12_copyTree_24 : decode cX12_copyTree 24 = .ok (.aload_n 0, 1) := by decide +kernel
theorem dX12_copyTree_25 : decode cX12_copyTree 25 = .ok (.getfield 31, 3) := by decide +kernel
theorem dX12_copyTree_28 : decode cX12_copyTree 28 = .ok (.iload_n 2, 1) := by decide +kernel
theorem dX12_copyTree_29 : decode cX12_copyTree 29 = .ok (.invokestatic 159, 3) := by decide +kernel
theorem dX12_copyTree_32 : decode cX12_copyTree 32 = .ok (.iload_n 3, 1) := by decide +kernel
theorem dX12_copyTree_33 : decode cX12_copyTree 33 = .ok (.iadd, 1) := by decide +kernel
theorem dX12_copyTree_34 : decode cX12_copyTree 34 = .ok (.aload_n 0, 1) := by decide +kernel
theorem dX12_copyTree_35 : decode cX12_copyTree 35 = .ok (.iload_n 1, 1) := by decide +kernel
theorem dX12_copyTree_36 : decode cX12_copyTree 36 = .ok (.iload_n 3, 1) := by decide +kernel
theorem dX12_copyTree_37 : decode cX12_copyTree 37 = .ok (.invokevirtual 162, 3) := by decide +kernel
theorem dX12_copyTree_40 : decode cX12_copyTree 40 = .ok (.iastore, 1) := by decide +kernel
theorem dX12_copyTree_41 : decode cX12_copyTree 41 = .ok (.aload_n 0, 1) := by decide +kernel
theorem dX12_copyTree_42 : decode cX12_copyTree 42 = .ok (.getfield 34, 3) := by decide +kernel
theorem dX12_copyTree_45 : decode cX12_copyTree 45 = .ok (.iload_n 2, 1) := by decide +kernel
theorem dX12_copyTree_46 : decode cX12_copyTree 46 = .ok (.invokestatic 159, 3) := by decide +kernel
theorem dX12_copyTree_49 : decode cX12_copyTree 49 = .ok (.iload_n 3, 1) := by decide +kernel
theorem dX12_copyTree_50 : decode cX12_copyTree 50 = .ok (.iadd, 1) := by decide +kernel
theorem dX12_copyTree_51 : decode cX12_copyTree 51 = .ok (.aload_n 0, 1) := by decide +kernel
theorem dX12_copyTree_52 : decode cX12_copyTree 52 = .ok (.iload_n 1, 1) := by decide +kernel
theorem dX12_copyTree_53 : decode cX12_copyTree 53 = .ok (.iload_n 3, 1) := by decide +kernel
theorem dX12_copyTree_54 : decode cX12_copyTree 54 = .ok (.invokevirtual 169, 3) := by decide +kernel
theorem dX12_copyTree_57 : decode cX12_copyTree 57 = .ok (.iastore, 1) := by decide +kernel
theorem dX12_copyTree_58 : decode cX12_copyTree 58 = .ok (.iinc 3 1, 3) := by decide +kernel
theorem dX12_copyTree_61 : decode cX12_copyTree 61 = .ok (.goto (-47), 3) := by decide +kernel
theorem dX12_copyTree_64 : decode cX12_copyTree 64 = .ok (.return_, 1) := by decide +kernel
noncomputable def st_copyTree : Nat × List Int × gM → Option ((Nat × List Int × gM) ⊕ (gM))
  | (0, [x1, x2, x3], M) => (if 0 ≤ x1 ∧ x1 < 123 then
      (if x3 < (M 718 x1) then
        (Option.bind (F_rowOf x2) (fun r29 =>
          (Option.bind (F_pathAt M x1 x3) (fun r37 =>
            (if 0 ≤ (gw32 (r29 + x3)) ∧ (gw32 (r29 + x3)) < 2016 then
              (Option.bind (F_rowOf x2) (fun r46 =>
                (Option.bind (F_contentAt (gU M 719 (gw32 (r29 + x3)) r37) x1 x3) (fun r54 =>
                  (if 0 ≤ (gw32 (r46 + x3)) ∧ (gw32 (r46 + x3)) < 2016 then
                    some (.inl (0, [x1, x2, (gw32 (x3 + 1))], (gU (gU M 719 (gw32 (r29 + x3)) r37) 720 (gw32 (r46 + x3)) r54)))
                  else none)))))
            else none)))))
      else
        some (.inr M))
    else none)
  | _ => none
theorem sk_copyTree_14 (k : Nat × List Int × gM → Option (gM)) (M : gM) (x1 x2 x3 : Int) : gWk k (st_copyTree (0, [x1, x2, x3], M)) = (if 0 ≤ x1 ∧ x1 < 123 then
    (if x3 < (M 718 x1) then
      (Option.bind (F_rowOf x2) (fun r29 =>
        (Option.bind (F_pathAt M x1 x3) (fun r37 =>
          (if 0 ≤ (gw32 (r29 + x3)) ∧ (gw32 (r29 + x3)) < 2016 then
            (Option.bind (F_rowOf x2) (fun r46 =>
              (Option.bind (F_contentAt (gU M 719 (gw32 (r29 + x3)) r37) x1 x3) (fun r54 =>
                (if 0 ≤ (gw32 (r46 + x3)) ∧ (gw32 (r46 + x3)) < 2016 then
                  k (0, [x1, x2, (gw32 (x3 + 1))], (gU (gU M 719 (gw32 (r29 + x3)) r37) 720 (gw32 (r46 + x3)) r54))
                else none)))))
          else none)))))
    else
      some M)
  else none) := by
  simp only [st_copyTree, gWk_ite, gWk_bind, gWk_inl, gWk_inr, gWk_none]
noncomputable def F_copyTree_14 (M : gM) (x1 x2 x3 : Int) : Option (gM) := gWh (st_copyTree) (0, [x1, x2, x3], M)
theorem eq_copyTree_14 (M : gM) (x1 x2 x3 : Int) : F_copyTree_14 M x1 x2 x3 = (if 0 ≤ x1 ∧ x1 < 123 then
    (if x3 < (M 718 x1) then
      (Option.bind (F_rowOf x2) (fun r29 =>
        (Option.bind (F_pathAt M x1 x3) (fun r37 =>
          (if 0 ≤ (gw32 (r29 + x3)) ∧ (gw32 (r29 + x3)) < 2016 then
            (Option.bind (F_rowOf x2) (fun r46 =>
              (Option.bind (F_contentAt (gU M 719 (gw32 (r29 + x3)) r37) x1 x3) (fun r54 =>
                (if 0 ≤ (gw32 (r46 + x3)) ∧ (gw32 (r46 + x3)) < 2016 then
                  F_copyTree_14 (gU (gU M 719 (gw32 (r29 + x3)) r37) 720 (gw32 (r46 + x3)) r54) x1 x2 (gw32 (x3 + 1))
                else none)))))
          else none)))))
    else
      some M)
  else none) := (gWh_eq _).trans (sk_copyTree_14 _ M x1 x2 x3)
noncomputable def F_copyTree (M : gM) (a1 a2 : Int) : Option (gM) := (if 0 ≤ a1 ∧ a1 < 123 then
    (if 0 ≤ a2 ∧ a2 < 123 then
      F_copyTree_14 (gU M 718 a2 (M 718 a1)) a1 a2 0
    else none)
  else none)
theorem eq_copyTree (M : gM) (a1 a2 : Int) : F_copyTree M a1 a2 = (if 0 ≤ a1 ∧ a1 < 123 then
    (if 0 ≤ a2 ∧ a2 < 123 then
      F_copyTree_14 (gU M 718 a2 (M 718 a1)) a1 a2 0
    else none)
  else none) := rfl
theorem frp_copyTree : ∀ (s : Nat × List Int × gM) (b : gM), gWh (st_copyTree) s = some b → (∀ (x1 x2 x3 : Int) (M : gM), s = (0, [x1, x2, x3], M) → gFr [718, 719, 720] [] M b) := by
  refine gWh_ind (fun k hk s b h => ?_)
  · rintro x1 x2 x3 M rfl
    rw [sk_copyTree_14] at h
    obtain ⟨g1, h⟩ := gI_gd h
    rcases gI_or h with h | h
    · obtain ⟨r29, e29, h⟩ := gI_bd h
      obtain ⟨r37, e37, h⟩ := gI_bd h
      obtain ⟨g2, h⟩ := gI_gd h
      obtain ⟨r46, e46, h⟩ := gI_bd h
      obtain ⟨r54, e54, h⟩ := gI_bd h
      obtain ⟨g4, h⟩ := gI_gd h
      exact gFr_t (gFr_a (gFr_a (gFr_r [718, 719, 720] [] _) (.tail _ (.head _)) (by decide)) (.tail _ (.tail _ (.head _))) (by decide)) ((hk _ _ h) _ _ _ _ rfl) (fun _ z => z) (fun _ z => z)
    · rw [← Option.some.inj h]
      exact (gFr_r [718, 719, 720] [] _)
theorem fr_copyTree_14 {M : gM} {x1 x2 x3 : Int} {b : gM} (h : F_copyTree_14 M x1 x2 x3 = some b) : gFr [718, 719, 720] [] M b :=
  (frp_copyTree _ _ h) _ _ _ _ rfl
theorem fr_copyTree {M : gM} {a1 a2 : Int} {b : gM} (h : F_copyTree M a1 a2 = some b) : gFr [718, 719, 720] [] M b := by
  rw [eq_copyTree] at h
  obtain ⟨g6, h⟩ := gI_gd h
  obtain ⟨g7, h⟩ := gI_gd h
  exact gFr_t (gFr_a (gFr_r [718, 719, 720] [] _) (.head _) (by decide)) (fr_copyTree_14 h) (fun _ z => z) (fun _ z => z)
theorem okp_copyTree {sh : gS} : ∀ (s : Nat × List Int × gM) (b : gM), gWh (st_copyTree) s = some b → (∀ (x1 x2 x3 : Int) (M : gM), s = (0, [x1, x2, x3], M) → gOK sh M → gA (gr 2 42) yX12_copyTree cX12_copyTree 4 none (gPq sh none b) (0, 0) 14 [(4, 711), (0, x1), (0, x2), (0, x3)] [] sh M) := by
  refine gWh_ind (fun k hk s b h => ?_)
  · rintro x1 x2 x3 M rfl hOK
    rw [sk_copyTree_14] at h
    refine g_iload_n (q0 := 15) (j := 3) rfl dX12_copyTree_14 rfl ?_
    refine g_aload_n (q0 := 16) (j := 0) rfl dX12_copyTree_15 rfl ?_
    refine g_getp (q0 := 19) (b := 718) rfl ff_X12_28 dX12_copyTree_16 rfl hOK (by decide) (sh_711 hOK) rfl (by decide) ?_
    refine g_iload_n (q0 := 20) (j := 1) rfl dX12_copyTree_19 rfl ?_
    obtain ⟨g1, h⟩ := gI_gd h
    refine g_iald (q0 := 21) rfl dX12_copyTree_20 (sh_718 hOK) g1.1 g1.2 ?_
    refine g_icmp_ge (q0 := 24) (tgt := 64) rfl dX12_copyTree_21 (by decide) (fun h21 => ?_) (fun h21 => ?_)
    · replace h := gI_neg (Int.not_lt.mpr h21) h
      rw [← Option.some.inj h]
      refine g_return dX12_copyTree_64 rfl ⟨Nat.zero_le _, Nat.zero_le _⟩ ?_
      exact ⟨rfl, rfl, rfl⟩
    · replace h := gI_pos h21 h
      refine g_aload_n (q0 := 25) (j := 0) rfl dX12_copyTree_24 rfl ?_
      refine g_getp (q0 := 28) (b := 719) rfl ff_X12_31 dX12_copyTree_25 rfl hOK (by decide) (sh_711 hOK) rfl (by decide) ?_
      refine g_iload_n (q0 := 29) (j := 2) rfl dX12_copyTree_28 rfl ?_
      obtain ⟨r29, e29, h⟩ := gI_bd h
      refine g_callSq1 (as := [_]) (rest := [_]) mt_X12_rowOf ms_X12_rowOf ml_X12_159 dX12_copyTree_29 (q0 := 32) rfl rfl (ok_rowOf hOK e29) rfl ⟨by decide, by decide⟩ (Nat.le_of_ble_eq_true rfl) ⟨Nat.zero_le _, Nat.zero_le _⟩ ?_
      refine g_iload_n (q0 := 33) (j := 3) rfl dX12_copyTree_32 rfl ?_
      refine g_iaddw (q0 := 34) rfl dX12_copyTree_33 ?_
      refine g_aload_n (q0 := 35) (j := 0) rfl dX12_copyTree_34 rfl ?_
      refine g_iload_n (q0 := 36) (j := 1) rfl dX12_copyTree_35 rfl ?_
      refine g_iload_n (q0 := 37) (j := 3) rfl dX12_copyTree_36 rfl ?_
      obtain ⟨r37, e37, h⟩ := gI_bd h
      refine g_callVq1 (as := [_, _]) (rest := [_, _]) mt_X12_pathAt mi_X12_pathAt se_X12_pathAt ml_X12_162 dX12_copyTree_37 (q0 := 40) rfl rfl (sh_711 hOK) rfl rfl (ok_pathAt hOK e37) rfl ⟨by decide, by decide⟩ (Nat.le_of_ble_eq_true rfl) ⟨Nat.zero_le _, Nat.zero_le _⟩ ?_
      obtain ⟨g2, h⟩ := gI_gd h
      refine g_iast (q0 := 41) rfl dX12_copyTree_40 (sh_719 hOK) g2.1 g2.2 ?_
      have hOK3 : gOK sh (gU M 719 (gw32 (r29 + x3)) r37) := gOK_i hOK (sh_719 hOK)
      refine g_aload_n (q0 := 42) (j := 0) rfl dX12_copyTree_41 rfl ?_
      refine g_getp (q0 := 45) (b := 720) rfl ff_X12_34 dX12_copyTree_42 rfl hOK3 (by decide) (sh_711 hOK3) rfl (by decide) ?_
      refine g_iload_n (q0 := 46) (j := 2) rfl dX12_copyTree_45 rfl ?_
      obtain ⟨r46, e46, h⟩ := gI_bd h
      refine g_callSq1 (as := [_]) (rest := [_]) mt_X12_rowOf ms_X12_rowOf ml_X12_159 dX12_copyTree_46 (q0 := 49) rfl rfl (ok_rowOf hOK3 e46) rfl ⟨by decide, by decide⟩ (Nat.le_of_ble_eq_true rfl) ⟨Nat.zero_le _, Nat.zero_le _⟩ ?_
      refine g_iload_n (q0 := 50) (j := 3) rfl dX12_copyTree_49 rfl ?_
      refine g_iaddw (q0 := 51) rfl dX12_copyTree_50 ?_
      refine g_aload_n (q0 := 52) (j := 0) rfl dX12_copyTree_51 rfl ?_
      refine g_iload_n (q0 := 53) (j := 1) rfl dX12_copyTree_52 rfl ?_
      refine g_iload_n (q0 := 54) (j := 3) rfl dX12_copyTree_53 rfl ?_
      obtain ⟨r54, e54, h⟩ := gI_bd h
      refine g_callVq1 (as := [_, _]) (rest := [_, _]) mt_X12_contentAt mi_X12_contentAt se_X12_contentAt ml_X12_169 dX12_copyTree_54 (q0 := 57) rfl rfl (sh_711 hOK3) rfl rfl (ok_contentAt hOK3 e54) rfl ⟨by decide, by decide⟩ (Nat.le_of_ble_eq_true rfl) ⟨Nat.zero_le _, Nat.zero_le _⟩ ?_
      obtain ⟨g4, h⟩ := gI_gd h
      refine g_iast (q0 := 58) rfl dX12_copyTree_57 (sh_720 hOK3) g4.1 g4.2 ?_
      have hOK5 : gOK sh (gU (gU M 719 (gw32 (r29 + x3)) r37) 720 (gw32 (r46 + x3)) r54) := gOK_i hOK3 (sh_720 hOK3)
      refine g_iincw (q0 := 61) (lv2 := [_, _, _, _]) rfl dX12_copyTree_58 rfl (by decide) rfl rfl ?_
      refine g_goto (tgt := 14) dX12_copyTree_61 (by decide) ?_
      exact (hk _ _ h) _ _ _ _ rfl hOK5
theorem ok_copyTree_14 {sh : gS} {M : gM} {x1 x2 x3 : Int} {b : gM} (hOK : gOK sh M) (h : F_copyTree_14 M x1 x2 x3 = some b) : gA (gr 2 42) yX12_copyTree cX12_copyTree 4 none (gPq sh none b) (0, 0) 14 [(4, 711), (0, x1), (0, x2), (0, x3)] [] sh M :=
  (okp_copyTree _ _ h) _ _ _ _ rfl hOK
theorem ok_copyTree {sh : gS} {M : gM} {a1 a2 : Int} {b : gM} (hOK : gOK sh M) (h : F_copyTree M a1 a2 = some b) : gC (gr 2 42) yX12_copyTree cX12_copyTree 4 none [(4, 711), (0, a1), (0, a2)] sh M (gPq sh none b) := by
  rw [eq_copyTree] at h
  refine gC_ofA (lv := [_, _, _, _]) (by decide +kernel) (Nat.le_of_ble_eq_true rfl) rfl (fun hMw hav => ?_)
  refine g_aload_n (q0 := 1) (j := 0) rfl dX12_copyTree_0 rfl ?_
  refine g_getp (q0 := 4) (b := 718) rfl ff_X12_28 dX12_copyTree_1 rfl hOK (by decide) (sh_711 hOK) rfl (by decide) ?_
  refine g_iload_n (q0 := 5) (j := 2) rfl dX12_copyTree_4 rfl ?_
  refine g_aload_n (q0 := 6) (j := 0) rfl dX12_copyTree_5 rfl ?_
  refine g_getp (q0 := 9) (b := 718) rfl ff_X12_28 dX12_copyTree_6 rfl hOK (by decide) (sh_711 hOK) rfl (by decide) ?_
  refine g_iload_n (q0 := 10) (j := 1) rfl dX12_copyTree_9 rfl ?_
  obtain ⟨g6, h⟩ := gI_gd h
  refine g_iald (q0 := 11) rfl dX12_copyTree_10 (sh_718 hOK) g6.1 g6.2 ?_
  obtain ⟨g7, h⟩ := gI_gd h
  refine g_iast (q0 := 12) rfl dX12_copyTree_11 (sh_718 hOK) g7.1 g7.2 ?_
  have hOK8 : gOK sh (gU M 718 a2 (M 718 a1)) := gOK_i hOK (sh_718 hOK)
  refine g_iconst (q0 := 13) rfl dX12_copyTree_12 (k := ?_)
  refine g_istore_n (q0 := 14) (j := 3) (lv2 := [_, _, _, _]) rfl dX12_copyTree_13 (by decide) rfl rfl ?_
  exact ok_copyTree_14 hOK8 h
-- ==== puts
theorem dX12_puts_0 : decode cX12_puts 0 = .ok (.iload_n 1, 1) := by decide +kernel
theorem dX12_puts_1 : decode cX12_puts 1 = .ok (.invokestatic 159, 3) := by decide +kernel
theorem dX12_puts_4 : decode cX12_puts 4 = .ok (.istore 4, 2) := by decide +kernel
theorem dX12_puts_6 : decode cX12_puts 6 = .ok (.aload_n 0, 1) := by decide +kernel
theorem dX12_puts_7 : decode cX12_puts 7 = .ok (.iload_n 1, 1) := by decide +kernel
theorem dX12_puts_8 : decode cX12_puts 8 = .ok (.iload_n 2, 1) := by decide +kernel
theorem dX12_puts_9 : decode cX12_puts 9 = .ok (.invokevirtual 166, 3) := by decide +kernel
theorem dX12_puts_12 : decode cX12_puts 12 = .ok (.istore 5, 2) := by decide +kernel
theorem dX12_puts_14 : decode cX12_puts 14 = .ok (.iload 5, 2) := by decide +kernel
theorem dX12_puts_16 : decode cX12_puts 16 = .ok (.iconst (-1), 1) := by decide +kernel
theorem dX12_puts_17 : decode cX12_puts 17 = .ok (.if_icmp .ne 99, 3) := by decide +kernel
theorem dX12_puts_20 : decode cX12_puts 20 = .ok (.aload_n 0, 1) := by decide +kernel
theorem dX12_puts_21 : decode cX12_puts 21 = .ok (.getfield 28, 3) := by decide +kernel
theorem dX12_puts_24 : decode cX12_puts 24 = .ok (.iload_n 1, 1) := by decide +kernel
theorem dX12_puts_25 : decode cX12_puts 25 = .ok (.iaload, 1) := by decide +kernel
theorem dX12_puts_26 : decode cX12_puts 26 = .ok (.istore 5, 2) := by decide +kernel
theorem dX12_puts_28 : decode cX12_puts 28 = .ok (.iload 5, 2) := by decide +kernel
theorem dX12_puts_30 : decode cX12_puts 30 = .ok (.ifCond .le 72, 3) := by decide +kernel
theorem dX12_puts_33 : decode cX12_puts 33 = .ok (.aload_n 0, 1) := by decide +kernel
theorem dX12_puts_34 : decode cX12_puts 34 = .ok (.getfield 31, 3) := by decide +kernel
theorem dX12_puts_37 : decode cX12_puts 37 = .ok (.iload 4, 2) := by decide +kernel
theorem dX12_puts_39 : decode cX12_puts 39 = .ok (.iload 5, 2) := by decide +kernel
theorem dX12_puts_41 : decode cX12_puts 41 = .ok (.iadd, 1) := by decide +kernel
theorem dX12_puts_42 : decode cX12_puts 42 = .ok (.iconst 1, 1) := by decide +kernel
theorem dX12_puts_43 : decode cX12_puts 43 = .ok (.isub, 1) := by decide +kernel
theorem dX12_puts_44 : decode cX12_puts 44 = .ok (.iaload, 1) := by decide +kernel
theorem dX12_puts_45 : decode cX12_puts 45 = .ok (.iload_n 2, 1) := by decide +kernel
theorem dX12_puts_46 : decode cX12_puts 46 = .ok (.if_icmp .le 56, 3) := by decide +kernel
theorem dX12_puts_49 : decode cX12_puts 49 = .ok (.aload_n 0, 1) := by decide +kernel
theorem dX12_puts_50 : decode cX12_puts 50 = .ok (.getfield 31, 3) := by decide +kernel
theorem dX12_puts_53 : decode cX12_puts 53 = .ok (.iload 4, 2) := by decide +kernel
theorem dX12_puts_55 : decode cX12_puts 55 = .ok (.iload 5, 2) := by decide +kernel
theorem dX12_puts_57 : decode cX12_puts 57 = .ok (.iadd, 1) := by decide +kernel
theorem dX12_puts_58 : decode cX12_puts 58 = .ok (.aload_n 0, 1) := by decide +kernel
theorem dX12_puts_59 : decode cX12_puts 59 = .ok (.getfield 31, 3) := by decide +kernel
theorem dX12_puts_62 : decode cX12_puts 62 = .ok (.iload 4, 2) := by decide +kernel
theorem dX12_puts_64 : decode cX12_puts 64 = .ok (.iload 5, 2) := by decide +kernel
theorem dX12_puts_66 : decode cX12_puts 66 = .ok (.iadd, 1) := by decide +kernel
theorem dX12_puts_67 : decode cX12_puts 67 = .ok (.iconst 1, 1) := by decide +kernel
theorem dX12_puts_68 : decode cX12_puts 68 = .ok (.isub, 1) := by decide +kernel
theorem dX12_puts_69 : decode cX12_puts 69 = .ok (.iaload, 1) := by decide +kernel
theorem dX12_puts_70 : decode cX12_puts 70 = .ok (.iastore, 1) := by decide +kernel
theorem dX12_puts_71 : decode cX12_puts 71 = .ok (.aload_n 0, 1) := by decide +kernel
theorem dX12_puts_72 : decode cX12_puts 72 = .ok (.getfield 34, 3) := by decide +kernel
theorem dX12_puts_75 : decode cX12_puts 75 = .ok (.iload 4, 2) := by decide +kernel
theorem dX12_puts_77 : decode cX12_puts 77 = .ok (.iload 5, 2) := by decide +kernel
theorem dX12_puts_79 : decode cX12_puts 79 = .ok (.iadd, 1) := by decide +kernel
theorem dX12_puts_80 : decode cX12_puts 80 = .ok (.aload_n 0, 1) := by decide +kernel
theorem dX12_puts_81 : decode cX12_puts 81 = .ok (.getfield 34, 3) := by decide +kernel
theorem dX12_puts_84 : decode cX12_puts 84 = .ok (.iload 4, 2) := by decide +kernel
theorem dX12_puts_86 : decode cX12_puts 86 = .ok (.iload 5, 2) := by decide +kernel
theorem dX12_puts_88 : decode cX12_puts 88 = .ok (.iadd, 1) := by decide +kernel
theorem dX12_puts_89 : decode cX12_puts 89 = .ok (.iconst 1, 1) := by decide +kernel
theorem dX12_puts_90 : decode cX12_puts 90 = .ok (.isub, 1) := by decide +kernel
theorem dX12_puts_91 : decode cX12_puts 91 = .ok (.iaload, 1) := by decide +kernel
theorem dX12_puts_92 : decode cX12_puts 92 = .ok (.iastore, 1) := by decide +kernel
theorem dX12_puts_93 : decode cX12_puts 93 = .ok (.iload 5, 2) := by decide +kernel
theorem dX12_puts_95 : decode cX12_puts 95 = .ok (.iconst 1, 1) := by decide +kernel
theorem dX12_puts_96 : decode cX12_puts 96 = .ok (.isub, 1) := by decide +kernel
theorem dX12_puts_97 : decode cX12_puts 97 = .ok (.istore 5, 2) := by decide +kernel
theorem dX12_puts_99 : decode cX12_puts 99 = .ok (.goto (-71), 3) := by decide +kernel
theorem dX12_puts_102 : decode cX12_puts 102 = .ok (.aload_n 0, 1) := by decide +kernel
theorem dX12_puts_103 : decode cX12_puts 103 = .ok (.getfield 28, 3) := by decide +kernel
theorem dX12_puts_106 : decode cX12_puts 106 = .ok (.iload_n 1, 1) := by decide +kernel
theorem dX12_puts_107 : decode cX12_puts 107 = .ok (.aload_n 0, 1) := by decide +kernel
theorem dX12_puts_108 : decode cX12_puts 108 = .ok (.getfield 28, 3) := by decide +kernel
theorem dX12_puts_111 : decode cX12_puts 111 = .ok (.iload_n 1, 1) := by decide +kernel
theorem dX12_puts_112 : decode cX12_puts 112 = .ok (.iaload, 1) := by decide +kernel
theorem dX12_puts_113 : decode cX12_puts 113 = .ok (.iconst 1, 1) := by decide +kernel
theorem dX12_puts_114 : decode cX12_puts 114 = .ok (.iadd, 1) := by decide +kernel
theorem dX12_puts_115 : decode cX12_puts 115 = .ok (.iastore, 1) := by decide +kernel
theorem dX12_puts_116 : decode cX12_puts 116 = .ok (.aload_n 0, 1) := by decide +kernel
theorem dX12_puts_117 : decode cX12_puts 117 = .ok (.getfield 31, 3) := by decide +kernel
theorem dX12_puts_120 : decode cX12_puts 120 = .ok (.iload 4, 2) := by decide +kernel
theorem dX12_puts_122 : decode cX12_puts 122 = .ok (.iload 5, 2) := by decide +kernel
theorem dX12_puts_124 : decode cX12_puts 124 = .ok (.iadd, 1) := by decide +kernel
theorem dX12_puts_125 : decode cX12_puts 125 = .ok (.iload_n 2, 1) := by decide +kernel
theorem dX12_puts_126 : decode cX12_puts 126 = .ok (.iastore, 1) := by decide +kernel
theorem dX12_puts_127 : decode cX12_puts 127 = .ok (.aload_n 0, 1) := by decide +kernel
theorem dX12_puts_128 : decode cX12_puts 128 = .ok (.getfield 34, 3) := by decide +kernel
theorem dX12_puts_131 : decode cX12_puts 131 = .ok (.iload 4, 2) := by decide +kernel
theorem dX12_puts_133 : decode cX12_puts 133 = .ok (.iload 5, 2) := by decide +kernel
theorem dX12_puts_135 : decode cX12_puts 135 = .ok (.iadd, 1) := by decide +kernel
theorem dX12_puts_136 : decode cX12_puts 136 = .ok (.iload_n 3, 1) := by decide +kernel
theorem dX12_puts_137 : decode cX12_puts 137 = .ok (.iastore, 1) := by decide +kernel
theorem dX12_puts_138 : decode cX12_puts 138 = .ok (.return_, 1) := by decide +kernel
noncomputable def st_puts : Nat × List Int × gM → Option ((Nat × List Int × gM) ⊕ (gM))
  | (0, [x1, x2, x3, x4, x5], M) => (if (0 : Int) < x5 then
      (if 0 ≤ (gw32 ((gw32 (x4 + x5)) - (1 : Int))) ∧ (gw32 ((gw32 (x4 + x5)) - (1 : Int))) < 2016 then
        (if x2 < (M 719 (gw32 ((gw32 (x4 + x5)) - (1 : Int)))) then
          (if 0 ≤ (gw32 (x4 + x5)) ∧ (gw32 (x4 + x5)) < 2016 then
            some (.inl (0, [x1, x2, x3, x4, (gw32 (x5 - (1 : Int)))], (gU (gU M 719 (gw32 (x4 + x5)) (M 719 (gw32 ((gw32 (x4 + x5)) - (1 : Int))))) 720 (gw32 (x4 + x5)) ((gU M 719 (gw32 (x4 + x5)) (M 719 (gw32 ((gw32 (x4 + x5)) - (1 : Int))))) 720 (gw32 ((gw32 (x4 + x5)) - (1 : Int)))))))
          else none)
        else
          some (.inl (1, [x1, x2, x3, x4, x5], M)))
      else none)
    else
      some (.inl (1, [x1, x2, x3, x4, x5], M)))
  | (1, [x1, x2, x3, x4, x5], M) => (if 0 ≤ x1 ∧ x1 < 123 then
      (if 0 ≤ (gw32 (x4 + x5)) ∧ (gw32 (x4 + x5)) < 2016 then
        some (.inr (gU (gU (gU M 718 x1 (gw32 ((M 718 x1) + (1 : Int)))) 719 (gw32 (x4 + x5)) x2) 720 (gw32 (x4 + x5)) x3))
      else none)
    else none)
  | _ => none
theorem sk_puts_28 (k : Nat × List Int × gM → Option (gM)) (M : gM) (x1 x2 x3 x4 x5 : Int) : gWk k (st_puts (0, [x1, x2, x3, x4, x5], M)) = (if (0 : Int) < x5 then
    (if 0 ≤ (gw32 ((gw32 (x4 + x5)) - (1 : Int))) ∧ (gw32 ((gw32 (x4 + x5)) - (1 : Int))) < 2016 then
      (if x2 < (M 719 (gw32 ((gw32 (x4 + x5)) - (1 : Int)))) then
        (if 0 ≤ (gw32 (x4 + x5)) ∧ (gw32 (x4 + x5)) < 2016 then
          k (0, [x1, x2, x3, x4, (gw32 (x5 - (1 : Int)))], (gU (gU M 719 (gw32 (x4 + x5)) (M 719 (gw32 ((gw32 (x4 + x5)) - (1 : Int))))) 720 (gw32 (x4 + x5)) ((gU M 719 (gw32 (x4 + x5)) (M 719 (gw32 ((gw32 (x4 + x5)) - (1 : Int))))) 720 (gw32 ((gw32 (x4 + x5)) - (1 : Int))))))
        else none)
      else
        k (1, [x1, x2, x3, x4, x5], M))
    else none)
  else
    k (1, [x1, x2, x3, x4, x5], M)) := by
  simp only [st_puts, gWk_ite, gWk_bind, gWk_inl, gWk_inr, gWk_none]
theorem sk_puts_102 (k : Nat × List Int × gM → Option (gM)) (M : gM) (x1 x2 x3 x4 x5 : Int) : gWk k (st_puts (1, [x1, x2, x3, x4, x5], M)) = (if 0 ≤ x1 ∧ x1 < 123 then
    (if 0 ≤ (gw32 (x4 + x5)) ∧ (gw32 (x4 + x5)) < 2016 then
      some (gU (gU (gU M 718 x1 (gw32 ((M 718 x1) + (1 : Int)))) 719 (gw32 (x4 + x5)) x2) 720 (gw32 (x4 + x5)) x3)
    else none)
  else none) := by
  simp only [st_puts, gWk_ite, gWk_bind, gWk_inl, gWk_inr, gWk_none]
noncomputable def F_puts_28 (M : gM) (x1 x2 x3 x4 x5 : Int) : Option (gM) := gWh (st_puts) (0, [x1, x2, x3, x4, x5], M)
noncomputable def F_puts_102 (M : gM) (x1 x2 x3 x4 x5 : Int) : Option (gM) := gWh (st_puts) (1, [x1, x2, x3, x4, x5], M)
theorem eq_puts_28 (M : gM) (x1 x2 x3 x4 x5 : Int) : F_puts_28 M x1 x2 x3 x4 x5 = (if (0 : Int) < x5 then
    (if 0 ≤ (gw32 ((gw32 (x4 + x5)) - (1 : Int))) ∧ (gw32 ((gw32 (x4 + x5)) - (1 : Int))) < 2016 then
      (if x2 < (M 719 (gw32 ((gw32 (x4 + x5)) - (1 : Int)))) then
        (if 0 ≤ (gw32 (x4 + x5)) ∧ (gw32 (x4 + x5)) < 2016 then
          F_puts_28 (gU (gU M 719 (gw32 (x4 + x5)) (M 719 (gw32 ((gw32 (x4 + x5)) - (1 : Int))))) 720 (gw32 (x4 + x5)) ((gU M 719 (gw32 (x4 + x5)) (M 719 (gw32 ((gw32 (x4 + x5)) - (1 : Int))))) 720 (gw32 ((gw32 (x4 + x5)) - (1 : Int))))) x1 x2 x3 x4 (gw32 (x5 - (1 : Int)))
        else none)
      else
        F_puts_102 M x1 x2 x3 x4 x5)
    else none)
  else
    F_puts_102 M x1 x2 x3 x4 x5) := (gWh_eq _).trans (sk_puts_28 _ M x1 x2 x3 x4 x5)
theorem eq_puts_102 (M : gM) (x1 x2 x3 x4 x5 : Int) : F_puts_102 M x1 x2 x3 x4 x5 = (if 0 ≤ x1 ∧ x1 < 123 then
    (if 0 ≤ (gw32 (x4 + x5)) ∧ (gw32 (x4 + x5)) < 2016 then
      some (gU (gU (gU M 718 x1 (gw32 ((M 718 x1) + (1 : Int)))) 719 (gw32 (x4 + x5)) x2) 720 (gw32 (x4 + x5)) x3)
    else none)
  else none) := (gWh_eq _).trans (sk_puts_102 _ M x1 x2 x3 x4 x5)
noncomputable def F_puts (M : gM) (a1 a2 a3 : Int) : Option (gM) := (Option.bind (F_rowOf a1) (fun r1 =>
    (Option.bind (F_fileAt M a1 a2) (fun r9 =>
      (if r9 = -1 then
        (if 0 ≤ a1 ∧ a1 < 123 then
          F_puts_28 M a1 a2 a3 r1 (M 718 a1)
        else none)
      else
        (if 0 ≤ (gw32 (r1 + r9)) ∧ (gw32 (r1 + r9)) < 2016 then
          some (gU (gU M 719 (gw32 (r1 + r9)) a2) 720 (gw32 (r1 + r9)) a3)
        else none))))))
theorem eq_puts (M : gM) (a1 a2 a3 : Int) : F_puts M a1 a2 a3 = (Option.bind (F_rowOf a1) (fun r1 =>
    (Option.bind (F_fileAt M a1 a2) (fun r9 =>
      (if r9 = -1 then
        (if 0 ≤ a1 ∧ a1 < 123 then
          F_puts_28 M a1 a2 a3 r1 (M 718 a1)
        else none)
      else
        (if 0 ≤ (gw32 (r1 + r9)) ∧ (gw32 (r1 + r9)) < 2016 then
          some (gU (gU M 719 (gw32 (r1 + r9)) a2) 720 (gw32 (r1 + r9)) a3)
        else none)))))) := rfl
theorem frp_puts : ∀ (s : Nat × List Int × gM) (b : gM), gWh (st_puts) s = some b → (∀ (x1 x2 x3 x4 x5 : Int) (M : gM), s = (0, [x1, x2, x3, x4, x5], M) → gFr [718, 719, 720] [] M b) ∧ (∀ (x1 x2 x3 x4 x5 : Int) (M : gM), s = (1, [x1, x2, x3, x4, x5], M) → gFr [718, 719, 720] [] M b) := by
  refine gWh_ind (fun k hk s b h => ⟨?_, ?_⟩)
  · rintro x1 x2 x3 x4 x5 M rfl
    rw [sk_puts_28] at h
    rcases gI_or h with h | h
    · obtain ⟨g1, h⟩ := gI_gd h
      rcases gI_or h with h | h
      · obtain ⟨g2, h⟩ := gI_gd h
        exact gFr_t (gFr_a (gFr_a (gFr_r [718, 719, 720] [] _) (.tail _ (.head _)) (by decide)) (.tail _ (.tail _ (.head _))) (by decide)) ((hk _ _ h).1 _ _ _ _ _ _ rfl) (fun _ z => z) (fun _ z => z)
      · exact gFr_t (gFr_r [718, 719, 720] [] _) ((hk _ _ h).2 _ _ _ _ _ _ rfl) (fun _ z => z) (fun _ z => z)
    · exact gFr_t (gFr_r [718, 719, 720] [] _) ((hk _ _ h).2 _ _ _ _ _ _ rfl) (fun _ z => z) (fun _ z => z)
  · rintro x1 x2 x3 x4 x5 M rfl
    rw [sk_puts_102] at h
    obtain ⟨g5, h⟩ := gI_gd h
    obtain ⟨g7, h⟩ := gI_gd h
    rw [← Option.some.inj h]
    exact (gFr_a (gFr_a (gFr_a (gFr_r [718, 719, 720] [] _) (.head _) (by decide)) (.tail _ (.head _)) (by decide)) (.tail _ (.tail _ (.head _))) (by decide))
theorem fr_puts_28 {M : gM} {x1 x2 x3 x4 x5 : Int} {b : gM} (h : F_puts_28 M x1 x2 x3 x4 x5 = some b) : gFr [718, 719, 720] [] M b :=
  (frp_puts _ _ h).1 _ _ _ _ _ _ rfl
theorem fr_puts_102 {M : gM} {x1 x2 x3 x4 x5 : Int} {b : gM} (h : F_puts_102 M x1 x2 x3 x4 x5 = some b) : gFr [718, 719, 720] [] M b :=
  (frp_puts _ _ h).2 _ _ _ _ _ _ rfl
theorem fr_puts {M : gM} {a1 a2 a3 : Int} {b : gM} (h : F_puts M a1 a2 a3 = some b) : gFr [718, 719, 720] [] M b := by
  rw [eq_puts] at h
  obtain ⟨r1, e1, h⟩ := gI_bd h
  obtain ⟨r9, e9, h⟩ := gI_bd h
  rcases gI_or h with h | h
  · obtain ⟨g13, h⟩ := gI_gd h
    exact gFr_t (gFr_r [718, 719, 720] [] _) (fr_puts_28 h) (fun _ z => z) (fun _ z => z)
  · obtain ⟨g10, h⟩ := gI_gd h
    rw [← Option.some.inj h]
    exact (gFr_a (gFr_a (gFr_r [718, 719, 720] [] _) (.tail _ (.head _)) (by decide)) (.tail _ (.tail _ (.head _))) (by decide))
theorem okp_puts {sh : gS} : ∀ (s : Nat × List Int × gM) (b : gM), gWh (st_puts) s = some b → (∀ (x1 x2 x3 x4 x5 : Int) (M : gM), s = (0, [x1, x2, x3, x4, x5], M) → gOK sh M → gA (gr 3 65) yX12_puts cX12_puts 6 none (gPq sh none b) (0, 0) 28 [(4, 711), (0, x1), (0, x2), (0, x3), (0, x4), (0, x5)] [] sh M) ∧ (∀ (x1 x2 x3 x4 x5 : Int) (M : gM), s = (1, [x1, x2, x3, x4, x5], M) → gOK sh M → gA (gr 3 65) yX12_puts cX12_puts 6 none (gPq sh none b) (0, 0) 102 [(4, 711), (0, x1), (0, x2), (0, x3), (0, x4), (0, x5)] [] sh M) := by
  refine gWh_ind (fun k hk s b h => ⟨?_, ?_⟩)
  · rintro x1 x2 x3 x4 x5 M rfl hOK
    rw [sk_puts_28] at h
    refine g_iload (q0 := 30) (j := 5) rfl dX12_puts_28 rfl ?_
    refine g_if_le (q0 := 33) (tgt := 102) rfl dX12_puts_30 (by decide) (fun h30 => ?_) (fun h30 => ?_)
    · replace h := gI_neg (Int.not_lt.mpr h30) h
      exact (hk _ _ h).2 _ _ _ _ _ _ rfl hOK
    · replace h := gI_pos h30 h
      refine g_aload_n (q0 := 34) (j := 0) rfl dX12_puts_33 rfl ?_
      refine g_getp (q0 := 37) (b := 719) rfl ff_X12_31 dX12_puts_34 rfl hOK (by decide) (sh_711 hOK) rfl (by decide) ?_
      refine g_iload (q0 := 39) (j := 4) rfl dX12_puts_37 rfl ?_
      refine g_iload (q0 := 41) (j := 5) rfl dX12_puts_39 rfl ?_
      refine g_iaddw (q0 := 42) rfl dX12_puts_41 ?_
      refine g_iconst (q0 := 43) rfl dX12_puts_42 (k := ?_)
      refine g_isubw (q0 := 44) rfl dX12_puts_43 ?_
      obtain ⟨g1, h⟩ := gI_gd h
      refine g_iald (q0 := 45) rfl dX12_puts_44 (sh_719 hOK) g1.1 g1.2 ?_
      refine g_iload_n (q0 := 46) (j := 2) rfl dX12_puts_45 rfl ?_
      refine g_icmp_le (q0 := 49) (tgt := 102) rfl dX12_puts_46 (by decide) (fun h46 => ?_) (fun h46 => ?_)
      · replace h := gI_neg (Int.not_lt.mpr h46) h
        exact (hk _ _ h).2 _ _ _ _ _ _ rfl hOK
      · replace h := gI_pos h46 h
        refine g_aload_n (q0 := 50) (j := 0) rfl dX12_puts_49 rfl ?_
        refine g_getp (q0 := 53) (b := 719) rfl ff_X12_31 dX12_puts_50 rfl hOK (by decide) (sh_711 hOK) rfl (by decide) ?_
        refine g_iload (q0 := 55) (j := 4) rfl dX12_puts_53 rfl ?_
        refine g_iload (q0 := 57) (j := 5) rfl dX12_puts_55 rfl ?_
        refine g_iaddw (q0 := 58) rfl dX12_puts_57 ?_
        refine g_aload_n (q0 := 59) (j := 0) rfl dX12_puts_58 rfl ?_
        refine g_getp (q0 := 62) (b := 719) rfl ff_X12_31 dX12_puts_59 rfl hOK (by decide) (sh_711 hOK) rfl (by decide) ?_
        refine g_iload (q0 := 64) (j := 4) rfl dX12_puts_62 rfl ?_
        refine g_iload (q0 := 66) (j := 5) rfl dX12_puts_64 rfl ?_
        refine g_iaddw (q0 := 67) rfl dX12_puts_66 ?_
        refine g_iconst (q0 := 68) rfl dX12_puts_67 (k := ?_)
        refine g_isubw (q0 := 69) rfl dX12_puts_68 ?_
        refine g_iald (q0 := 70) rfl dX12_puts_69 (sh_719 hOK) g1.1 g1.2 ?_
        obtain ⟨g2, h⟩ := gI_gd h
        refine g_iast (q0 := 71) rfl dX12_puts_70 (sh_719 hOK) g2.1 g2.2 ?_
        have hOK3 : gOK sh (gU M 719 (gw32 (x4 + x5)) (M 719 (gw32 ((gw32 (x4 + x5)) - (1 : Int))))) := gOK_i hOK (sh_719 hOK)
        refine g_aload_n (q0 := 72) (j := 0) rfl dX12_puts_71 rfl ?_
        refine g_getp (q0 := 75) (b := 720) rfl ff_X12_34 dX12_puts_72 rfl hOK3 (by decide) (sh_711 hOK3) rfl (by decide) ?_
        refine g_iload (q0 := 77) (j := 4) rfl dX12_puts_75 rfl ?_
        refine g_iload (q0 := 79) (j := 5) rfl dX12_puts_77 rfl ?_
        refine g_iaddw (q0 := 80) rfl dX12_puts_79 ?_
        refine g_aload_n (q0 := 81) (j := 0) rfl dX12_puts_80 rfl ?_
        refine g_getp (q0 := 84) (b := 720) rfl ff_X12_34 dX12_puts_81 rfl hOK3 (by decide) (sh_711 hOK3) rfl (by decide) ?_
        refine g_iload (q0 := 86) (j := 4) rfl dX12_puts_84 rfl ?_
        refine g_iload (q0 := 88) (j := 5) rfl dX12_puts_86 rfl ?_
        refine g_iaddw (q0 := 89) rfl dX12_puts_88 ?_
        refine g_iconst (q0 := 90) rfl dX12_puts_89 (k := ?_)
        refine g_isubw (q0 := 91) rfl dX12_puts_90 ?_
        refine g_iald (q0 := 92) rfl dX12_puts_91 (sh_720 hOK3) g1.1 g1.2 ?_
        refine g_iast (q0 := 93) rfl dX12_puts_92 (sh_720 hOK3) g2.1 g2.2 ?_
        have hOK4 : gOK sh (gU (gU M 719 (gw32 (x4 + x5)) (M 719 (gw32 ((gw32 (x4 + x5)) - (1 : Int))))) 720 (gw32 (x4 + x5)) ((gU M 719 (gw32 (x4 + x5)) (M 719 (gw32 ((gw32 (x4 + x5)) - (1 : Int))))) 720 (gw32 ((gw32 (x4 + x5)) - (1 : Int))))) := gOK_i hOK3 (sh_720 hOK3)
        refine g_iload (q0 := 95) (j := 5) rfl dX12_puts_93 rfl ?_
        refine g_iconst (q0 := 96) rfl dX12_puts_95 (k := ?_)
        refine g_isubw (q0 := 97) rfl dX12_puts_96 ?_
        refine g_istore (q0 := 99) (j := 5) (lv2 := [_, _, _, _, _, _]) rfl dX12_puts_97 (by decide) rfl rfl ?_
        refine g_goto (tgt := 28) dX12_puts_99 (by decide) ?_
        exact (hk _ _ h).1 _ _ _ _ _ _ rfl hOK4
  · rintro x1 x2 x3 x4 x5 M rfl hOK
    rw [sk_puts_102] at h
    refine g_aload_n (q0 := 103) (j := 0) rfl dX12_puts_102 rfl ?_
    refine g_getp (q0 := 106) (b := 718) rfl ff_X12_28 dX12_puts_103 rfl hOK (by decide) (sh_711 hOK) rfl (by decide) ?_
    refine g_iload_n (q0 := 107) (j := 1) rfl dX12_puts_106 rfl ?_
    refine g_aload_n (q0 := 108) (j := 0) rfl dX12_puts_107 rfl ?_
    refine g_getp (q0 := 111) (b := 718) rfl ff_X12_28 dX12_puts_108 rfl hOK (by decide) (sh_711 hOK) rfl (by decide) ?_
    refine g_iload_n (q0 := 112) (j := 1) rfl dX12_puts_111 rfl ?_
    obtain ⟨g5, h⟩ := gI_gd h
    refine g_iald (q0 := 113) rfl dX12_puts_112 (sh_718 hOK) g5.1 g5.2 ?_
    refine g_iconst (q0 := 114) rfl dX12_puts_113 (k := ?_)
    refine g_iaddw (q0 := 115) rfl dX12_puts_114 ?_
    refine g_iast (q0 := 116) rfl dX12_puts_115 (sh_718 hOK) g5.1 g5.2 ?_
    have hOK6 : gOK sh (gU M 718 x1 (gw32 ((M 718 x1) + (1 : Int)))) := gOK_i hOK (sh_718 hOK)
    refine g_aload_n (q0 := 117) (j := 0) rfl dX12_puts_116 rfl ?_
    refine g_getp (q0 := 120) (b := 719) rfl ff_X12_31 dX12_puts_117 rfl hOK6 (by decide) (sh_711 hOK6) rfl (by decide) ?_
    refine g_iload (q0 := 122) (j := 4) rfl dX12_puts_120 rfl ?_
    refine g_iload (q0 := 124) (j := 5) rfl dX12_puts_122 rfl ?_
    refine g_iaddw (q0 := 125) rfl dX12_puts_124 ?_
    refine g_iload_n (q0 := 126) (j := 2) rfl dX12_puts_125 rfl ?_
    obtain ⟨g7, h⟩ := gI_gd h
    refine g_iast (q0 := 127) rfl dX12_puts_126 (sh_719 hOK6) g7.1 g7.2 ?_
    have hOK8 : gOK sh (gU (gU M 718 x1 (gw32 ((M 718 x1) + (1 : Int)))) 719 (gw32 (x4 + x5)) x2) := gOK_i hOK6 (sh_719 hOK6)
    refine g_aload_n (q0 := 128) (j := 0) rfl dX12_puts_127 rfl ?_
    refine g_getp (q0 := 131) (b := 720) rfl ff_X12_34 dX12_puts_128 rfl hOK8 (by decide) (sh_711 hOK8) rfl (by decide) ?_
    refine g_iload (q0 := 133) (j := 4) rfl dX12_puts_131 rfl ?_
    refine g_iload (q0 := 135) (j := 5) rfl dX12_puts_133 rfl ?_
    refine g_iaddw (q0 := 136) rfl dX12_puts_135 ?_
    refine g_iload_n (q0 := 137) (j := 3) rfl dX12_puts_136 rfl ?_
    refine g_iast (q0 := 138) rfl dX12_puts_137 (sh_720 hOK8) g7.1 g7.2 ?_
    have hOK9 : gOK sh (gU (gU (gU M 718 x1 (gw32 ((M 718 x1) + (1 : Int)))) 719 (gw32 (x4 + x5)) x2) 720 (gw32 (x4 + x5)) x3) := gOK_i hOK8 (sh_720 hOK8)
    rw [← Option.some.inj h]
    refine g_return dX12_puts_138 rfl ⟨Nat.zero_le _, Nat.zero_le _⟩ ?_
    exact ⟨rfl, rfl, rfl⟩
theorem ok_puts_28 {sh : gS} {M : gM} {x1 x2 x3 x4 x5 : Int} {b : gM} (hOK : gOK sh M) (h : F_puts_28 M x1 x2 x3 x4 x5 = some b) : gA (gr 3 65) yX12_puts cX12_puts 6 none (gPq sh none b) (0, 0) 28 [(4, 711), (0, x1), (0, x2), (0, x3), (0, x4), (0, x5)] [] sh M :=
  (okp_puts _ _ h).1 _ _ _ _ _ _ rfl hOK
theorem ok_puts_102 {sh : gS} {M : gM} {x1 x2 x3 x4 x5 : Int} {b : gM} (hOK : gOK sh M) (h : F_puts_102 M x1 x2 x3 x4 x5 = some b) : gA (gr 3 65) yX12_puts cX12_puts 6 none (gPq sh none b) (0, 0) 102 [(4, 711), (0, x1), (0, x2), (0, x3), (0, x4), (0, x5)] [] sh M :=
  (okp_puts _ _ h).2 _ _ _ _ _ _ rfl hOK
theorem ok_puts {sh : gS} {M : gM} {a1 a2 a3 : Int} {b : gM} (hOK : gOK sh M) (h : F_puts M a1 a2 a3 = some b) : gC (gr 3 65) yX12_puts cX12_puts 6 none [(4, 711), (0, a1), (0, a2), (0, a3)] sh M (gPq sh none b) := by
  rw [eq_puts] at h
  refine gC_ofA (lv := [_, _, _, _, _, _]) (by decide +kernel) (Nat.le_of_ble_eq_true rfl) rfl (fun hMw hav => ?_)
  refine g_iload_n (q0 := 1) (j := 1) rfl dX12_puts_0 rfl ?_
  obtain ⟨r1, e1, h⟩ := gI_bd h
  refine g_callSq1 (as := [_]) (rest := []) mt_X12_rowOf ms_X12_rowOf ml_X12_159 dX12_puts_1 (q0 := 4) rfl rfl (ok_rowOf hOK e1) rfl ⟨by decide, by decide⟩ (Nat.le_of_ble_eq_true rfl) ⟨Nat.zero_le _, Nat.zero_le _⟩ ?_
  refine g_istore (q0 := 6) (j := 4) (lv2 := [_, _, _, _, _, _]) rfl dX12_puts_4 (by decide) rfl rfl ?_
  refine g_aload_n (q0 := 7) (j := 0) rfl dX12_puts_6 rfl ?_
  refine g_iload_n (q0 := 8) (j := 1) rfl dX12_puts_7 rfl ?_
  refine g_iload_n (q0 := 9) (j := 2) rfl dX12_puts_8 rfl ?_
  obtain ⟨r9, e9, h⟩ := gI_bd h
  refine g_callVq1 (as := [_, _]) (rest := []) mt_X12_fileAt mi_X12_fileAt se_X12_fileAt ml_X12_166 dX12_puts_9 (q0 := 12) rfl rfl (sh_711 hOK) rfl rfl (ok_fileAt hOK e9) rfl ⟨by decide, by decide⟩ (Nat.le_of_ble_eq_true rfl) ⟨Nat.zero_le _, Nat.zero_le _⟩ ?_
  refine g_istore (q0 := 14) (j := 5) (lv2 := [_, _, _, _, _, _]) rfl dX12_puts_12 (by decide) rfl rfl ?_
  refine g_iload (q0 := 16) (j := 5) rfl dX12_puts_14 rfl ?_
  refine g_iconst (q0 := 17) rfl dX12_puts_16 (k := ?_)
  refine g_icmp_ne (q0 := 20) (tgt := 116) rfl dX12_puts_17 (by decide) (fun h17 => ?_) (fun h17 => ?_)
  · replace h := gI_neg h17 h
    refine g_aload_n (q0 := 117) (j := 0) rfl dX12_puts_116 rfl ?_
    refine g_getp (q0 := 120) (b := 719) rfl ff_X12_31 dX12_puts_117 rfl hOK (by decide) (sh_711 hOK) rfl (by decide) ?_
    refine g_iload (q0 := 122) (j := 4) rfl dX12_puts_120 rfl ?_
    refine g_iload (q0 := 124) (j := 5) rfl dX12_puts_122 rfl ?_
    refine g_iaddw (q0 := 125) rfl dX12_puts_124 ?_
    refine g_iload_n (q0 := 126) (j := 2) rfl dX12_puts_125 rfl ?_
    obtain ⟨g10, h⟩ := gI_gd h
    refine g_iast (q0 := 127) rfl dX12_puts_126 (sh_719 hOK) g10.1 g10.2 ?_
    have hOK11 : gOK sh (gU M 719 (gw32 (r1 + r9)) a2) := gOK_i hOK (sh_719 hOK)
    refine g_aload_n (q0 := 128) (j := 0) rfl dX12_puts_127 rfl ?_
    refine g_getp (q0 := 131) (b := 720) rfl ff_X12_34 dX12_puts_128 rfl hOK11 (by decide) (sh_711 hOK11) rfl (by decide) ?_
    refine g_iload (q0 := 133) (j := 4) rfl dX12_puts_131 rfl ?_
    refine g_iload (q0 := 135) (j := 5) rfl dX12_puts_133 rfl ?_
    refine g_iaddw (q0 := 136) rfl dX12_puts_135 ?_
    refine g_iload_n (q0 := 137) (j := 3) rfl dX12_puts_136 rfl ?_
    refine g_iast (q0 := 138) rfl dX12_puts_137 (sh_720 hOK11) g10.1 g10.2 ?_
    have hOK12 : gOK sh (gU (gU M 719 (gw32 (r1 + r9)) a2) 720 (gw32 (r1 + r9)) a3) := gOK_i hOK11 (sh_720 hOK11)
    rw [← Option.some.inj h]
    refine g_return dX12_puts_138 rfl ⟨Nat.zero_le _, Nat.zero_le _⟩ ?_
    exact ⟨rfl, rfl, rfl⟩
  · replace h := gI_pos h17 h
    refine g_aload_n (q0 := 21) (j := 0) rfl dX12_puts_20 rfl ?_
    refine g_getp (q0 := 24) (b := 718) rfl ff_X12_28 dX12_puts_21 rfl hOK (by decide) (sh_711 hOK) rfl (by decide) ?_
    refine g_iload_n (q0 := 25) (j := 1) rfl dX12_puts_24 rfl ?_
    obtain ⟨g13, h⟩ := gI_gd h
    refine g_iald (q0 := 26) rfl dX12_puts_25 (sh_718 hOK) g13.1 g13.2 ?_
    refine g_istore (q0 := 28) (j := 5) (lv2 := [_, _, _, _, _, _]) rfl dX12_puts_26 (by decide) rfl rfl ?_
    exact ok_puts_28 hOK h
-- ==== takes
theorem dX12_takes_0 : decode cX12_takes 0 = .ok (.iload_n 1, 1) := by decide +kernel
theorem dX12_takes_1 : decode cX12_takes 1 = .ok (.invokestatic 159, 3) := by decide +kernel
theorem dX12_takes_4 : decode cX12_takes 4 = .ok (.istore_n 3, 1) := by decide +kernel
theorem dX12_takes_5 : decode cX12_takes 5 = .ok (.iconst 0, 1) := by decide +kernel
theorem dX12_takes_6 : decode cX12_takes 6 = .ok (.istore 4, 2) := by decide +kernel
theorem dX12_takes_8 : decode cX12_takes 8 = .ok (.iconst 0, 1) := by decide +kernel
theorem dX12_takes_9 : decode cX12_takes 9 = .ok (.istore 5, 2) := by decide +kernel
theorem dX12_takes_11 : decode cX12_takes 11 = .ok (.iload 5, 2) := by decide +kernel
theorem dX12_takes_13 : decode cX12_takes 13 = .ok (.aload_n 0, 1) := by decide +kernel
theorem dX12_takes_14 : decode cX12_takes 14 = .ok (.getfield 28, 3) := by decide +kernel
theorem dX12_takes_17 : decode cX12_takes 17 = .ok (.iload_n 1, 1) := by decide +kernel
theorem dX12_takes_18 : decode cX12_takes 18 = .ok (.iaload, 1) := by decide +kernel
theorem dX12_takes_19 : decode cX12_takes 19 = .ok (.if_icmp .ge 67, 3) := by decide +kernel
theorem dX12_takes_22 : decode cX12_takes 22 = .ok (.aload_n 0, 1) := by decide +kernel
theorem dX12_takes_23 : decode cX12_takes 23 = .ok (.getfield 31, 3) := by decide +kernel
theorem dX12_takes_26 : decode cX12_takes 26 = .ok (.iload_n 3, 1) := by decide +kernel
theorem dX12_takes_27 : decode cX12_takes 27 = .ok (.iload 5, 2) := by decide +kernel
theorem dX12_takes_29 : decode cX12_takes 29 = .ok (.iadd, 1) := by decide +kernel
theorem dX12_takes_30 : decode cX12_takes 30 = .ok (.iaload, 1) := by decide +kernel
theorem dX12_takes_31 : decode cX12_takes 31 = .ok (.iload_n 2, 1) := by decide +kernel
theorem dX12_takes_32 : decode cX12_takes 32 = .ok (.invokestatic 172, 3) := by decide +kernel
theorem dX12_takes_35 : decode cX12_takes 35 = .ok (.ifCond .ne 45, 3) := by decide +kernel
theorem dX12_takes_38 : decode cX12_takes 38 = .ok (.aload_n 0, 1) := by decide +kernel
theorem dX12_takes_39 : decode cX12_takes 39 = .ok (.getfield 31, 3) := by decide +kernel
theorem dX12_takes_42 : decode cX12_takes 42 = .ok (.iload_n 3, 1) := by decide +kernel
theorem dX12_takes_43 : decode cX12_takes 43 = .ok (.iload 4, 2) := by decide +kernel
theorem dX12_takes_45 : decode cX12_takes 45 = .ok (.iadd, 1) := by decide +kernel
theorem dX12_takes_46 : decode cX12_takes 46 = .ok (.aload_n 0, 1) := by decide +kernel
theorem dX12_takes_47 : decode cX12_takes 47 = .ok (.getfield 31, 3) := by decide +kernel
theorem dX12_takes_50 : decode cX12_takes 50 = .ok (.iload_n 3, 1) := by decide +kernel
theorem dX12_takes_51 : decode cX12_takes 51 = .ok (.iload 5, 2) := by decide +kernel
theorem dX12_takes_53 : decode cX12_takes 53 = .ok (.iadd, 1) := by decide +kernel
theorem dX12_takes_54 : decode cX12_takes 54 = .ok (.iaload, 1) := by decide +kernel
theorem dX12_takes_55 : decode cX12_takes 55 = .ok (.iastore, 1) := by decide +kernel
theorem dX12_takes_56 : decode cX12_takes 56 = .ok (.aload_n 0, 1) := by decide +kernel
theorem dX12_takes_57 : decode cX12_takes 57 = .ok (.getfield 34, 3) := by decide +kernel
theorem dX12_takes_60 : decode cX12_takes 60 = .ok (.iload_n 3, 1) := by decide +kernel
theorem dX12_takes_61 : decode cX12_takes 61 = .ok (.iload 4, 2) := by decide +kernel
theorem dX12_takes_63 : decode cX12_takes 63 = .ok (.iadd, 1) := by decide +kernel
theorem dX12_takes_64 : decode cX12_takes 64 = .ok (.aload_n 0, 1) := by decide +kernel
theorem dX12_takes_65 : decode cX12_takes 65 = .ok (.getfield 34, 3) := by decide +kernel
theorem dX12_takes_68 : decode cX12_takes 68 = .ok (.iload_n 3, 1) := by decide +kernel
theorem dX12_takes_69 : decode cX12_takes 69 = .ok (.iload 5, 2) := by decide +kernel
theorem dX12_takes_71 : decode cX12_takes 71 = .ok (.iadd, 1) := by decide +kernel
theorem dX12_takes_72 : decode cX12_takes 72 = .ok (.iaload, 1) := by decide +kernel
theorem dX12_takes_73 : decode cX12_takes 73 = .ok (.iastore, 1) := by decide +kernel
theorem dX12_takes_74 : decode cX12_takes 74 = .ok (.iload 4, 2) := by decide +kernel
theorem dX12_takes_76 : decode cX12_takes 76 = .ok (.iconst 1, 1) := by decide +kernel
theorem dX12_takes_77 : decode cX12_takes 77 = .ok (.iadd, 1) := by decide +kernel
theorem dX12_takes_78 : decode cX12_takes 78 = .ok (.istore 4, 2) := by decide +kernel
theorem dX12_takes_80 : decode cX12_takes 80 = .ok (.iinc 5 1, 3) := by decide +kernel
theorem dX12_takes_83 : decode cX12_takes 83 = .ok (.goto (-72), 3) := by decide +kernel
theorem dX12_takes_86 : decode cX12_takes 86 = .ok (.aload_n 0, 1) := by decide +kernel
theorem dX12_takes_87 : decode cX12_takes 87 = .ok (.getfield 28, 3) := by decide +kernel
theorem dX12_takes_90 : decode cX12_takes 90 = .ok (.iload_n 1, 1) := by decide +kernel
theorem dX12_takes_91 : decode cX12_takes 91 = .ok (.iload 4, 2) := by decide +kernel
theorem dX12_takes_93 : decode cX12_takes 93 = .ok (.iastore, 1) := by decide +kernel
theorem dX12_takes_94 : decode cX12_takes 94 = .ok (.return_, 1) := by decide +kernel
noncomputable def st_takes : Nat × List Int × gM → Option ((Nat × List Int × gM) ⊕ (gM))
  | (0, [x1, x2, x3, x4, x5], M) => (if 0 ≤ x1 ∧ x1 < 123 then
      (if x5 < (M 718 x1) then
        (if 0 ≤ (gw32 (x3 + x5)) ∧ (gw32 (x3 + x5)) < 2016 then
          (Option.bind (F_isAtOrBelow (M 719 (gw32 (x3 + x5))) x2) (fun r32 =>
            (if r32 = 0 then
              (if 0 ≤ (gw32 (x3 + x4)) ∧ (gw32 (x3 + x4)) < 2016 then
                some (.inl (0, [x1, x2, x3, (gw32 (x4 + (1 : Int))), (gw32 (x5 + 1))], (gU (gU M 719 (gw32 (x3 + x4)) (M 719 (gw32 (x3 + x5)))) 720 (gw32 (x3 + x4)) ((gU M 719 (gw32 (x3 + x4)) (M 719 (gw32 (x3 + x5)))) 720 (gw32 (x3 + x5))))))
              else none)
            else
              some (.inl (0, [x1, x2, x3, x4, (gw32 (x5 + 1))], M)))))
        else none)
      else
        some (.inr (gU M 718 x1 x4)))
    else none)
  | _ => none
theorem sk_takes_11 (k : Nat × List Int × gM → Option (gM)) (M : gM) (x1 x2 x3 x4 x5 : Int) : gWk k (st_takes (0, [x1, x2, x3, x4, x5], M)) = (if 0 ≤ x1 ∧ x1 < 123 then
    (if x5 < (M 718 x1) then
      (if 0 ≤ (gw32 (x3 + x5)) ∧ (gw32 (x3 + x5)) < 2016 then
        (Option.bind (F_isAtOrBelow (M 719 (gw32 (x3 + x5))) x2) (fun r32 =>
          (if r32 = 0 then
            (if 0 ≤ (gw32 (x3 + x4)) ∧ (gw32 (x3 + x4)) < 2016 then
              k (0, [x1, x2, x3, (gw32 (x4 + (1 : Int))), (gw32 (x5 + 1))], (gU (gU M 719 (gw32 (x3 + x4)) (M 719 (gw32 (x3 + x5)))) 720 (gw32 (x3 + x4)) ((gU M 719 (gw32 (x3 + x4)) (M 719 (gw32 (x3 + x5)))) 720 (gw32 (x3 + x5)))))
            else none)
          else
            k (0, [x1, x2, x3, x4, (gw32 (x5 + 1))], M))))
      else none)
    else
      some (gU M 718 x1 x4))
  else none) := by
  simp only [st_takes, gWk_ite, gWk_bind, gWk_inl, gWk_inr, gWk_none]
noncomputable def F_takes_11 (M : gM) (x1 x2 x3 x4 x5 : Int) : Option (gM) := gWh (st_takes) (0, [x1, x2, x3, x4, x5], M)
theorem eq_takes_11 (M : gM) (x1 x2 x3 x4 x5 : Int) : F_takes_11 M x1 x2 x3 x4 x5 = (if 0 ≤ x1 ∧ x1 < 123 then
    (if x5 < (M 718 x1) then
      (if 0 ≤ (gw32 (x3 + x5)) ∧ (gw32 (x3 + x5)) < 2016 then
        (Option.bind (F_isAtOrBelow (M 719 (gw32 (x3 + x5))) x2) (fun r32 =>
          (if r32 = 0 then
            (if 0 ≤ (gw32 (x3 + x4)) ∧ (gw32 (x3 + x4)) < 2016 then
              F_takes_11 (gU (gU M 719 (gw32 (x3 + x4)) (M 719 (gw32 (x3 + x5)))) 720 (gw32 (x3 + x4)) ((gU M 719 (gw32 (x3 + x4)) (M 719 (gw32 (x3 + x5)))) 720 (gw32 (x3 + x5)))) x1 x2 x3 (gw32 (x4 + (1 : Int))) (gw32 (x5 + 1))
            else none)
          else
            F_takes_11 M x1 x2 x3 x4 (gw32 (x5 + 1)))))
      else none)
    else
      some (gU M 718 x1 x4))
  else none) := (gWh_eq _).trans (sk_takes_11 _ M x1 x2 x3 x4 x5)
noncomputable def F_takes (M : gM) (a1 a2 : Int) : Option (gM) := (Option.bind (F_rowOf a1) (fun r1 =>
    F_takes_11 M a1 a2 r1 0 0))
theorem eq_takes (M : gM) (a1 a2 : Int) : F_takes M a1 a2 = (Option.bind (F_rowOf a1) (fun r1 =>
    F_takes_11 M a1 a2 r1 0 0)) := rfl
theorem frp_takes : ∀ (s : Nat × List Int × gM) (b : gM), gWh (st_takes) s = some b → (∀ (x1 x2 x3 x4 x5 : Int) (M : gM), s = (0, [x1, x2, x3, x4, x5], M) → gFr [718, 719, 720] [] M b) := by
  refine gWh_ind (fun k hk s b h => ?_)
  · rintro x1 x2 x3 x4 x5 M rfl
    rw [sk_takes_11] at h
    obtain ⟨g1, h⟩ := gI_gd h
    rcases gI_or h with h | h
    · obtain ⟨g3, h⟩ := gI_gd h
      obtain ⟨r32, e32, h⟩ := gI_bd h
      rcases gI_or h with h | h
      · obtain ⟨g4, h⟩ := gI_gd h
        exact gFr_t (gFr_a (gFr_a (gFr_r [718, 719, 720] [] _) (.tail _ (.head _)) (by decide)) (.tail _ (.tail _ (.head _))) (by decide)) ((hk _ _ h) _ _ _ _ _ _ rfl) (fun _ z => z) (fun _ z => z)
      · exact gFr_t (gFr_r [718, 719, 720] [] _) ((hk _ _ h) _ _ _ _ _ _ rfl) (fun _ z => z) (fun _ z => z)
    · rw [← Option.some.inj h]
      exact (gFr_a (gFr_r [718, 719, 720] [] _) (.head _) (by decide))
theorem fr_takes_11 {M : gM} {x1 x2 x3 x4 x5 : Int} {b : gM} (h : F_takes_11 M x1 x2 x3 x4 x5 = some b) : gFr [718, 719, 720] [] M b :=
  (frp_takes _ _ h) _ _ _ _ _ _ rfl
theorem fr_takes {M : gM} {a1 a2 : Int} {b : gM} (h : F_takes M a1 a2 = some b) : gFr [718, 719, 720] [] M b := by
  rw [eq_takes] at h
  obtain ⟨r1, e1, h⟩ := gI_bd h
  exact gFr_t (gFr_r [718, 719, 720] [] _) (fr_takes_11 h) (fun _ z => z) (fun _ z => z)
theorem okp_takes {sh : gS} : ∀ (s : Nat × List Int × gM) (b : gM), gWh (st_takes) s = some b → (∀ (x1 x2 x3 x4 x5 : Int) (M : gM), s = (0, [x1, x2, x3, x4, x5], M) → gOK sh M → gA (gr 3 64) yX12_takes cX12_takes 6 none (gPq sh none b) (0, 0) 11 [(4, 711), (0, x1), (0, x2), (0, x3), (0, x4), (0, x5)] [] sh M) := by
  refine gWh_ind (fun k hk s b h => ?_)
  · rintro x1 x2 x3 x4 x5 M rfl hOK
    rw [sk_takes_11] at h
    refine g_iload (q0 := 13) (j := 5) rfl dX12_takes_11 rfl ?_
    refine g_aload_n (q0 := 14) (j := 0) rfl dX12_takes_13 rfl ?_
    refine g_getp (q0 := 17) (b := 718) rfl ff_X12_28 dX12_takes_14 rfl hOK (by decide) (sh_711 hOK) rfl (by decide) ?_
    refine g_iload_n (q0 := 18) (j := 1) rfl dX12_takes_17 rfl ?_
    obtain ⟨g1, h⟩ := gI_gd h
    refine g_iald (q0 := 19) rfl dX12_takes_18 (sh_718 hOK) g1.1 g1.2 ?_
    refine g_icmp_ge (q0 := 22) (tgt := 86) rfl dX12_takes_19 (by decide) (fun h19 => ?_) (fun h19 => ?_)
    · replace h := gI_neg (Int.not_lt.mpr h19) h
      refine g_aload_n (q0 := 87) (j := 0) rfl dX12_takes_86 rfl ?_
      refine g_getp (q0 := 90) (b := 718) rfl ff_X12_28 dX12_takes_87 rfl hOK (by decide) (sh_711 hOK) rfl (by decide) ?_
      refine g_iload_n (q0 := 91) (j := 1) rfl dX12_takes_90 rfl ?_
      refine g_iload (q0 := 93) (j := 4) rfl dX12_takes_91 rfl ?_
      refine g_iast (q0 := 94) rfl dX12_takes_93 (sh_718 hOK) g1.1 g1.2 ?_
      have hOK2 : gOK sh (gU M 718 x1 x4) := gOK_i hOK (sh_718 hOK)
      rw [← Option.some.inj h]
      refine g_return dX12_takes_94 rfl ⟨Nat.zero_le _, Nat.zero_le _⟩ ?_
      exact ⟨rfl, rfl, rfl⟩
    · replace h := gI_pos h19 h
      refine g_aload_n (q0 := 23) (j := 0) rfl dX12_takes_22 rfl ?_
      refine g_getp (q0 := 26) (b := 719) rfl ff_X12_31 dX12_takes_23 rfl hOK (by decide) (sh_711 hOK) rfl (by decide) ?_
      refine g_iload_n (q0 := 27) (j := 3) rfl dX12_takes_26 rfl ?_
      refine g_iload (q0 := 29) (j := 5) rfl dX12_takes_27 rfl ?_
      refine g_iaddw (q0 := 30) rfl dX12_takes_29 ?_
      obtain ⟨g3, h⟩ := gI_gd h
      refine g_iald (q0 := 31) rfl dX12_takes_30 (sh_719 hOK) g3.1 g3.2 ?_
      refine g_iload_n (q0 := 32) (j := 2) rfl dX12_takes_31 rfl ?_
      obtain ⟨r32, e32, h⟩ := gI_bd h
      refine g_callSq1 (as := [_, _]) (rest := []) mt_X12_isAtOrBelow ms_X12_isAtOrBelow ml_X12_172 dX12_takes_32 (q0 := 35) rfl rfl (ok_isAtOrBelow hOK e32) rfl ⟨by decide, by decide⟩ (Nat.le_of_ble_eq_true rfl) ⟨Nat.zero_le _, Nat.zero_le _⟩ ?_
      refine g_if_ne (q0 := 38) (tgt := 80) rfl dX12_takes_35 (by decide) (fun h35 => ?_) (fun h35 => ?_)
      · replace h := gI_neg h35 h
        refine g_iincw (q0 := 83) (lv2 := [_, _, _, _, _, _]) rfl dX12_takes_80 rfl (by decide) rfl rfl ?_
        refine g_goto (tgt := 11) dX12_takes_83 (by decide) ?_
        exact (hk _ _ h) _ _ _ _ _ _ rfl hOK
      · replace h := gI_pos h35 h
        refine g_aload_n (q0 := 39) (j := 0) rfl dX12_takes_38 rfl ?_
        refine g_getp (q0 := 42) (b := 719) rfl ff_X12_31 dX12_takes_39 rfl hOK (by decide) (sh_711 hOK) rfl (by decide) ?_
        refine g_iload_n (q0 := 43) (j := 3) rfl dX12_takes_42 rfl ?_
        refine g_iload (q0 := 45) (j := 4) rfl dX12_takes_43 rfl ?_
        refine g_iaddw (q0 := 46) rfl dX12_takes_45 ?_
        refine g_aload_n (q0 := 47) (j := 0) rfl dX12_takes_46 rfl ?_
        refine g_getp (q0 := 50) (b := 719) rfl ff_X12_31 dX12_takes_47 rfl hOK (by decide) (sh_711 hOK) rfl (by decide) ?_
        refine g_iload_n (q0 := 51) (j := 3) rfl dX12_takes_50 rfl ?_
        refine g_iload (q0 := 53) (j := 5) rfl dX12_takes_51 rfl ?_
        refine g_iaddw (q0 := 54) rfl dX12_takes_53 ?_
        refine g_iald (q0 := 55) rfl dX12_takes_54 (sh_719 hOK) g3.1 g3.2 ?_
        obtain ⟨g4, h⟩ := gI_gd h
        refine g_iast (q0 := 56) rfl dX12_takes_55 (sh_719 hOK) g4.1 g4.2 ?_
        have hOK5 : gOK sh (gU M 719 (gw32 (x3 + x4)) (M 719 (gw32 (x3 + x5)))) := gOK_i hOK (sh_719 hOK)
        refine g_aload_n (q0 := 57) (j := 0) rfl dX12_takes_56 rfl ?_
        refine g_getp (q0 := 60) (b := 720) rfl ff_X12_34 dX12_takes_57 rfl hOK5 (by decide) (sh_711 hOK5) rfl (by decide) ?_
        refine g_iload_n (q0 := 61) (j := 3) rfl dX12_takes_60 rfl ?_
        refine g_iload (q0 := 63) (j := 4) rfl dX12_takes_61 rfl ?_
        refine g_iaddw (q0 := 64) rfl dX12_takes_63 ?_
        refine g_aload_n (q0 := 65) (j := 0) rfl dX12_takes_64 rfl ?_
        refine g_getp (q0 := 68) (b := 720) rfl ff_X12_34 dX12_takes_65 rfl hOK5 (by decide) (sh_711 hOK5) rfl (by decide) ?_
        refine g_iload_n (q0 := 69) (j := 3) rfl dX12_takes_68 rfl ?_
        refine g_iload (q0 := 71) (j := 5) rfl dX12_takes_69 rfl ?_
        refine g_iaddw (q0 := 72) rfl dX12_takes_71 ?_
        refine g_iald (q0 := 73) rfl dX12_takes_72 (sh_720 hOK5) g3.1 g3.2 ?_
        refine g_iast (q0 := 74) rfl dX12_takes_73 (sh_720 hOK5) g4.1 g4.2 ?_
        have hOK6 : gOK sh (gU (gU M 719 (gw32 (x3 + x4)) (M 719 (gw32 (x3 + x5)))) 720 (gw32 (x3 + x4)) ((gU M 719 (gw32 (x3 + x4)) (M 719 (gw32 (x3 + x5)))) 720 (gw32 (x3 + x5)))) := gOK_i hOK5 (sh_720 hOK5)
        refine g_iload (q0 := 76) (j := 4) rfl dX12_takes_74 rfl ?_
        refine g_iconst (q0 := 77) rfl dX12_takes_76 (k := ?_)
        refine g_iaddw (q0 := 78) rfl dX12_takes_77 ?_
        refine g_istore (q0 := 80) (j := 4) (lv2 := [_, _, _, _, _, _]) rfl dX12_takes_78 (by decide) rfl rfl ?_
        refine g_iincw (q0 := 83) (lv2 := [_, _, _, _, _, _]) rfl dX12_takes_80 rfl (by decide) rfl rfl ?_
        refine g_goto (tgt := 11) dX12_takes_83 (by decide) ?_
        exact (hk _ _ h) _ _ _ _ _ _ rfl hOK6
theorem ok_takes_11 {sh : gS} {M : gM} {x1 x2 x3 x4 x5 : Int} {b : gM} (hOK : gOK sh M) (h : F_takes_11 M x1 x2 x3 x4 x5 = some b) : gA (gr 3 64) yX12_takes cX12_takes 6 none (gPq sh none b) (0, 0) 11 [(4, 711), (0, x1), (0, x2), (0, x3), (0, x4), (0, x5)] [] sh M :=
  (okp_takes _ _ h) _ _ _ _ _ _ rfl hOK
theorem ok_takes {sh : gS} {M : gM} {a1 a2 : Int} {b : gM} (hOK : gOK sh M) (h : F_takes M a1 a2 = some b) : gC (gr 3 64) yX12_takes cX12_takes 6 none [(4, 711), (0, a1), (0, a2)] sh M (gPq sh none b) := by
  rw [eq_takes] at h
  refine gC_ofA (lv := [_, _, _, _, _, _]) (by decide +kernel) (Nat.le_of_ble_eq_true rfl) rfl (fun hMw hav => ?_)
  refine g_iload_n (q0 := 1) (j := 1) rfl dX12_takes_0 rfl ?_
  obtain ⟨r1, e1, h⟩ := gI_bd h
  refine g_callSq1 (as := [_]) (rest := []) mt_X12_rowOf ms_X12_rowOf ml_X12_159 dX12_takes_1 (q0 := 4) rfl rfl (ok_rowOf hOK e1) rfl ⟨by decide, by decide⟩ (Nat.le_of_ble_eq_true rfl) ⟨Nat.zero_le _, Nat.zero_le _⟩ ?_
  refine g_istore_n (q0 := 5) (j := 3) (lv2 := [_, _, _, _, _, _]) rfl dX12_takes_4 (by decide) rfl rfl ?_
  refine g_iconst (q0 := 6) rfl dX12_takes_5 (k := ?_)
  refine g_istore (q0 := 8) (j := 4) (lv2 := [_, _, _, _, _, _]) rfl dX12_takes_6 (by decide) rfl rfl ?_
  refine g_iconst (q0 := 9) rfl dX12_takes_8 (k := ?_)
  refine g_istore (q0 := 11) (j := 5) (lv2 := [_, _, _, _, _, _]) rfl dX12_takes_9 (by decide) rfl rfl ?_
  exact ok_takes_11 hOK h
-- ==== areLike
theorem dX12_areLike_0 : decode cX12_areLike 0 = .ok (.aload_n 0, 1) := by decide +kernel
theorem dX12_areLike_1 : decode cX12_areLike 1 = .ok (.getfield 28, 3) := by decide +kernel
theorem dX12_areLike_4 : decode cX12_areLike 4 = .ok (.iload_n 1, 1) := by decide +kernel
theorem dX12_areLike_5 : decode cX12_areLike 5 = .ok (.iaload, 1) := by decide +kernel
theorem dX12_areLike_6 : decode cX12_areLike 6 = .ok (.aload_n 0, 1) := by decide +kernel
theorem dX12_areLike_7 : decode cX12_areLike 7 = .ok (.getfield 28, 3) := by decide +kernel
theorem dX12_areLike_10 : decode cX12_areLike 10 = .ok (.iload_n 2, 1) := by decide +kernel
theorem dX12_areLike_11 : decode cX12_areLike 11 = .ok (.iaload, 1) := by decide +kernel
theorem dX12_areLike_12 : decode cX12_areLike 12 = .ok (.if_icmp .eq 5, 3) := by decide +kernel
theorem dX12_areLike_15 : decode cX12_areLike 15 = .ok (.iconst 0, 1) := by decide +kernel
theorem dX12_areLike_16 : decode cX12_areLike 16 = .ok (.ireturn, 1) := by decide +kernel
theorem dX12_areLike_17 : decode cX12_areLike 17 = .ok (.iconst 0, 1) := by decide +kernel
theorem dX12_areLike_18 : decode cX12_areLike 18 = .ok (.istore_n 3, 1) := by decide +kernel
theorem dX12_areLike_19 : decode cX12_areLike 19 = .ok (.iload_n 3, 1) := by decide +kernel
theorem dX12_areLike_20 : decode cX12_areLike 20 = .ok (.aload_n 0, 1) := by decide +kernel
theorem dX12_areLike_21 : decode cX12_areLike 21 = .ok (.getfield 28, 3) := by decide +kernel
theorem dX12_areLike_24 : decode cX12_areLike 24 = .ok (.iload_n 1, 1) := by decide +kernel
theorem dX12_areLike_25 : decode cX12_areLike 25 = .ok (.iaload, 1) := by decide +kernel
theorem dX12_areLike_26 : decode cX12_areLike 26 = .ok (.if_icmp .ge 41, 3) := by decide +kernel
theorem dX12_areLike_29 : decode cX12_areLike 29 = .ok (.aload_n 0, 1) := by decide +kernel
theorem dX12_areLike_30 : decode cX12_areLike 30 = .ok (.iload_n 1, 1) := by decide +kernel
theorem dX12_areLike_31 : decode cX12_areLike 31 = .ok (.iload_n 3, 1) := by decide +kernel
theorem dX12_areLike_32 : decode cX12_areLike 32 = .ok (.invokevirtual 162, 3) := by decide +kernel
theorem dX12_areLike_35 : decode cX12_areLike 35 = .ok (.aload_n 0, 1) := by decide +kernel
theorem dX12_areLike_36 : decode cX12_areLike 36 = .ok (.iload_n 2, 1) := by decide +kernel
theorem dX12_areLike_37 : decode cX12_areLike 37 = .ok (.iload_n 3, 1) := by decide +kernel
theorem dX12_areLike_38 : decode cX12_areLike 38 = .ok (.invokevirtual 162, 3) := by decide +kernel
theorem dX12_areLike_41 : decode cX12_areLike 41 = .ok (.if_icmp .ne 18, 3) := by decide +kernel
theorem dX12_areLike_44 : decode cX12_areLike 44 = .ok (.aload_n 0, 1) := by decide +kernel
theorem dX12_areLike_45 : decode cX12_areLike 45 = .ok (.iload_n 1, 1) := by decide +kernel
theorem dX12_areLike_46 : decode cX12_areLike 46 = .ok (.iload_n 3, 1) := by decide +kernel
theorem dX12_areLike_47 : decode cX12_areLike 47 = .ok (.invokevirtual 169, 3) := by decide +kernel
theorem dX12_areLike_50 : decode cX12_areLike 50 = .ok (.aload_n 0, 1) := by decide +kernel
theorem dX12_areLike_51 : decode cX12_areLike 51 = .ok (.iload_n 2, 1) := by decide +kernel
theorem dX12_areLike_52 : decode cX12_areLike 52 = .ok (.iload_n 3, 1) := by decide +kernel
theorem dX12_areLike_53 : decode cX12_areLike 53 = .ok (.invokevirtual 169, 3) := by decide +kernel
theorem dX12_areLike_56 : decode cX12_areLike 56 = .ok (.if_icmp .eq 5, 3) := by decide +kernel
theorem dX12_areLike_59 : decode cX12_areLike 59 = .ok (.iconst 0, 1) := by decide +kernel
theorem dX12_areLike_60 : decode cX12_areLike 60 = .ok (.ireturn, 1) := by decide +kernel
theorem dX12_areLike_61 : decode cX12_areLike 61 = .ok (.iinc 3 1, 3) := by decide +kernel
theorem dX12_areLike_64 : decode cX12_areLike 64 = .ok (.goto (-45), 3) := by decide +kernel
theorem dX12_areLike_67 : decode cX12_areLike 67 = .ok (.iconst 1, 1) := by decide +kernel
theorem dX12_areLike_68 : decode cX12_areLike 68 = .ok (.ireturn, 1) := by decide +kernel
noncomputable def st_areLike (M : gM) : Nat × List Int → Option ((Nat × List Int) ⊕ (Int))
  | (0, [x1, x2, x3]) => (if 0 ≤ x1 ∧ x1 < 123 then
      (if x3 < (M 718 x1) then
        (Option.bind (F_pathAt M x1 x3) (fun r32 =>
          (Option.bind (F_pathAt M x2 x3) (fun r38 =>
            (if r32 = r38 then
              (Option.bind (F_contentAt M x1 x3) (fun r47 =>
                (Option.bind (F_contentAt M x2 x3) (fun r53 =>
                  (if r47 = r53 then
                    some (.inl (0, [x1, x2, (gw32 (x3 + 1))]))
                  else
                    some (.inr 0))))))
            else
              some (.inr 0))))))
      else
        some (.inr 1))
    else none)
  | _ => none
theorem sk_areLike_19 (k : Nat × List Int → Option (Int)) (M : gM) (x1 x2 x3 : Int) : gWk k (st_areLike M (0, [x1, x2, x3])) = (if 0 ≤ x1 ∧ x1 < 123 then
    (if x3 < (M 718 x1) then
      (Option.bind (F_pathAt M x1 x3) (fun r32 =>
        (Option.bind (F_pathAt M x2 x3) (fun r38 =>
          (if r32 = r38 then
            (Option.bind (F_contentAt M x1 x3) (fun r47 =>
              (Option.bind (F_contentAt M x2 x3) (fun r53 =>
                (if r47 = r53 then
                  k (0, [x1, x2, (gw32 (x3 + 1))])
                else
                  some 0)))))
          else
            some 0)))))
    else
      some 1)
  else none) := by
  simp only [st_areLike, gWk_ite, gWk_bind, gWk_inl, gWk_inr, gWk_none]
noncomputable def F_areLike_19 (M : gM) (x1 x2 x3 : Int) : Option (Int) := gWh (st_areLike M) (0, [x1, x2, x3])
theorem eq_areLike_19 (M : gM) (x1 x2 x3 : Int) : F_areLike_19 M x1 x2 x3 = (if 0 ≤ x1 ∧ x1 < 123 then
    (if x3 < (M 718 x1) then
      (Option.bind (F_pathAt M x1 x3) (fun r32 =>
        (Option.bind (F_pathAt M x2 x3) (fun r38 =>
          (if r32 = r38 then
            (Option.bind (F_contentAt M x1 x3) (fun r47 =>
              (Option.bind (F_contentAt M x2 x3) (fun r53 =>
                (if r47 = r53 then
                  F_areLike_19 M x1 x2 (gw32 (x3 + 1))
                else
                  some 0)))))
          else
            some 0)))))
    else
      some 1)
  else none) := (gWh_eq _).trans (sk_areLike_19 _ M x1 x2 x3)
noncomputable def F_areLike (M : gM) (a1 a2 : Int) : Option (Int) := (if 0 ≤ a1 ∧ a1 < 123 then
    (if 0 ≤ a2 ∧ a2 < 123 then
      (if (M 718 a1) = (M 718 a2) then
        F_areLike_19 M a1 a2 0
      else
        some 0)
    else none)
  else none)
theorem eq_areLike (M : gM) (a1 a2 : Int) : F_areLike M a1 a2 = (if 0 ≤ a1 ∧ a1 < 123 then
    (if 0 ≤ a2 ∧ a2 < 123 then
      (if (M 718 a1) = (M 718 a2) then
        F_areLike_19 M a1 a2 0
      else
        some 0)
    else none)
  else none) := rfl
theorem bop_areLike {M : gM} : ∀ (s : Nat × List Int) (b : Int), gWh (st_areLike M) s = some b → (∀ (x1 x2 x3 : Int), s = (0, [x1, x2, x3]) → b = 0 ∨ b = 1) := by
  refine gWh_ind (fun k hk s b h => ?_)
  · rintro x1 x2 x3 rfl
    rw [sk_areLike_19] at h
    obtain ⟨g1, h⟩ := gI_gd h
    rcases gI_or h with h | h
    · obtain ⟨r32, e32, h⟩ := gI_bd h
      obtain ⟨r38, e38, h⟩ := gI_bd h
      rcases gI_or h with h | h
      · obtain ⟨r47, e47, h⟩ := gI_bd h
        obtain ⟨r53, e53, h⟩ := gI_bd h
        rcases gI_or h with h | h
        · exact (hk _ _ h) _ _ _ rfl
        · rw [← Option.some.inj h]
          exact (Or.inl rfl)
      · rw [← Option.some.inj h]
        exact (Or.inl rfl)
    · rw [← Option.some.inj h]
      exact (Or.inr rfl)
theorem bo_areLike_19 {M : gM} {x1 x2 x3 : Int} {b : Int} (h : F_areLike_19 M x1 x2 x3 = some b) : b = 0 ∨ b = 1 :=
  (bop_areLike _ _ h) _ _ _ rfl
theorem bo_areLike {M : gM} {a1 a2 : Int} {b : Int} (h : F_areLike M a1 a2 = some b) : b = 0 ∨ b = 1 := by
  rw [eq_areLike] at h
  obtain ⟨g2, h⟩ := gI_gd h
  obtain ⟨g3, h⟩ := gI_gd h
  rcases gI_or h with h | h
  · exact bo_areLike_19 h
  · rw [← Option.some.inj h]
    exact (Or.inl rfl)
theorem okp_areLike {sh : gS} {M : gM} : ∀ (s : Nat × List Int) (b : Int), gWh (st_areLike M) s = some b → (∀ (x1 x2 x3 : Int), s = (0, [x1, x2, x3]) → gOK sh M → gA (gr 2 42) yX12_areLike cX12_areLike 4 (some (.boolean)) (gPq sh (some (0, b)) M) (0, 0) 19 [(4, 711), (0, x1), (0, x2), (0, x3)] [] sh M) := by
  refine gWh_ind (fun k hk s b h => ?_)
  · rintro x1 x2 x3 rfl hOK
    rw [sk_areLike_19] at h
    refine g_iload_n (q0 := 20) (j := 3) rfl dX12_areLike_19 rfl ?_
    refine g_aload_n (q0 := 21) (j := 0) rfl dX12_areLike_20 rfl ?_
    refine g_getp (q0 := 24) (b := 718) rfl ff_X12_28 dX12_areLike_21 rfl hOK (by decide) (sh_711 hOK) rfl (by decide) ?_
    refine g_iload_n (q0 := 25) (j := 1) rfl dX12_areLike_24 rfl ?_
    obtain ⟨g1, h⟩ := gI_gd h
    refine g_iald (q0 := 26) rfl dX12_areLike_25 (sh_718 hOK) g1.1 g1.2 ?_
    refine g_icmp_ge (q0 := 29) (tgt := 67) rfl dX12_areLike_26 (by decide) (fun h26 => ?_) (fun h26 => ?_)
    · replace h := gI_neg (Int.not_lt.mpr h26) h
      refine g_iconst (q0 := 68) rfl dX12_areLike_67 (k := ?_)
      rw [← Option.some.inj h]
      refine g_zreturn dX12_areLike_68 rfl (gnz (Or.inr rfl)) ⟨Nat.zero_le _, Nat.zero_le _⟩ ?_
      exact ⟨rfl, rfl, rfl⟩
    · replace h := gI_pos h26 h
      refine g_aload_n (q0 := 30) (j := 0) rfl dX12_areLike_29 rfl ?_
      refine g_iload_n (q0 := 31) (j := 1) rfl dX12_areLike_30 rfl ?_
      refine g_iload_n (q0 := 32) (j := 3) rfl dX12_areLike_31 rfl ?_
      obtain ⟨r32, e32, h⟩ := gI_bd h
      refine g_callVq1 (as := [_, _]) (rest := []) mt_X12_pathAt mi_X12_pathAt se_X12_pathAt ml_X12_162 dX12_areLike_32 (q0 := 35) rfl rfl (sh_711 hOK) rfl rfl (ok_pathAt hOK e32) rfl ⟨by decide, by decide⟩ (Nat.le_of_ble_eq_true rfl) ⟨Nat.zero_le _, Nat.zero_le _⟩ ?_
      refine g_aload_n (q0 := 36) (j := 0) rfl dX12_areLike_35 rfl ?_
      refine g_iload_n (q0 := 37) (j := 2) rfl dX12_areLike_36 rfl ?_
      refine g_iload_n (q0 := 38) (j := 3) rfl dX12_areLike_37 rfl ?_
      obtain ⟨r38, e38, h⟩ := gI_bd h
      refine g_callVq1 (as := [_, _]) (rest := [_]) mt_X12_pathAt mi_X12_pathAt se_X12_pathAt ml_X12_162 dX12_areLike_38 (q0 := 41) rfl rfl (sh_711 hOK) rfl rfl (ok_pathAt hOK e38) rfl ⟨by decide, by decide⟩ (Nat.le_of_ble_eq_true rfl) ⟨Nat.zero_le _, Nat.zero_le _⟩ ?_
      refine g_icmp_ne (q0 := 44) (tgt := 59) rfl dX12_areLike_41 (by decide) (fun h41 => ?_) (fun h41 => ?_)
      · replace h := gI_neg h41 h
        refine g_iconst (q0 := 60) rfl dX12_areLike_59 (k := ?_)
        rw [← Option.some.inj h]
        refine g_zreturn dX12_areLike_60 rfl (gnz (Or.inl rfl)) ⟨Nat.zero_le _, Nat.zero_le _⟩ ?_
        exact ⟨rfl, rfl, rfl⟩
      · replace h := gI_pos h41 h
        refine g_aload_n (q0 := 45) (j := 0) rfl dX12_areLike_44 rfl ?_
        refine g_iload_n (q0 := 46) (j := 1) rfl dX12_areLike_45 rfl ?_
        refine g_iload_n (q0 := 47) (j := 3) rfl dX12_areLike_46 rfl ?_
        obtain ⟨r47, e47, h⟩ := gI_bd h
        refine g_callVq1 (as := [_, _]) (rest := []) mt_X12_contentAt mi_X12_contentAt se_X12_contentAt ml_X12_169 dX12_areLike_47 (q0 := 50) rfl rfl (sh_711 hOK) rfl rfl (ok_contentAt hOK e47) rfl ⟨by decide, by decide⟩ (Nat.le_of_ble_eq_true rfl) ⟨Nat.zero_le _, Nat.zero_le _⟩ ?_
        refine g_aload_n (q0 := 51) (j := 0) rfl dX12_areLike_50 rfl ?_
        refine g_iload_n (q0 := 52) (j := 2) rfl dX12_areLike_51 rfl ?_
        refine g_iload_n (q0 := 53) (j := 3) rfl dX12_areLike_52 rfl ?_
        obtain ⟨r53, e53, h⟩ := gI_bd h
        refine g_callVq1 (as := [_, _]) (rest := [_]) mt_X12_contentAt mi_X12_contentAt se_X12_contentAt ml_X12_169 dX12_areLike_53 (q0 := 56) rfl rfl (sh_711 hOK) rfl rfl (ok_contentAt hOK e53) rfl ⟨by decide, by decide⟩ (Nat.le_of_ble_eq_true rfl) ⟨Nat.zero_le _, Nat.zero_le _⟩ ?_
        refine g_icmp_eq (q0 := 59) (tgt := 61) rfl dX12_areLike_56 (by decide) (fun h56 => ?_) (fun h56 => ?_)
        · replace h := gI_pos h56 h
          refine g_iincw (q0 := 64) (lv2 := [_, _, _, _]) rfl dX12_areLike_61 rfl (by decide) rfl rfl ?_
          refine g_goto (tgt := 19) dX12_areLike_64 (by decide) ?_
          exact (hk _ _ h) _ _ _ rfl hOK
        · replace h := gI_neg h56 h
          refine g_iconst (q0 := 60) rfl dX12_areLike_59 (k := ?_)
          rw [← Option.some.inj h]
          refine g_zreturn dX12_areLike_60 rfl (gnz (Or.inl rfl)) ⟨Nat.zero_le _, Nat.zero_le _⟩ ?_
          exact ⟨rfl, rfl, rfl⟩
theorem ok_areLike_19 {sh : gS} {M : gM} {x1 x2 x3 : Int} {b : Int} (hOK : gOK sh M) (h : F_areLike_19 M x1 x2 x3 = some b) : gA (gr 2 42) yX12_areLike cX12_areLike 4 (some (.boolean)) (gPq sh (some (0, b)) M) (0, 0) 19 [(4, 711), (0, x1), (0, x2), (0, x3)] [] sh M :=
  (okp_areLike _ _ h) _ _ _ rfl hOK
theorem ok_areLike {sh : gS} {M : gM} {a1 a2 : Int} {b : Int} (hOK : gOK sh M) (h : F_areLike M a1 a2 = some b) : gC (gr 2 42) yX12_areLike cX12_areLike 4 (some (.boolean)) [(4, 711), (0, a1), (0, a2)] sh M (gPq sh (some (0, b)) M) := by
  rw [eq_areLike] at h
  refine gC_ofA (lv := [_, _, _, _]) (by decide +kernel) (Nat.le_of_ble_eq_true rfl) rfl (fun hMw hav => ?_)
  refine g_aload_n (q0 := 1) (j := 0) rfl dX12_areLike_0 rfl ?_
  refine g_getp (q0 := 4) (b := 718) rfl ff_X12_28 dX12_areLike_1 rfl hOK (by decide) (sh_711 hOK) rfl (by decide) ?_
  refine g_iload_n (q0 := 5) (j := 1) rfl dX12_areLike_4 rfl ?_
  obtain ⟨g2, h⟩ := gI_gd h
  refine g_iald (q0 := 6) rfl dX12_areLike_5 (sh_718 hOK) g2.1 g2.2 ?_
  refine g_aload_n (q0 := 7) (j := 0) rfl dX12_areLike_6 rfl ?_
  refine g_getp (q0 := 10) (b := 718) rfl ff_X12_28 dX12_areLike_7 rfl hOK (by decide) (sh_711 hOK) rfl (by decide) ?_
  refine g_iload_n (q0 := 11) (j := 2) rfl dX12_areLike_10 rfl ?_
  obtain ⟨g3, h⟩ := gI_gd h
  refine g_iald (q0 := 12) rfl dX12_areLike_11 (sh_718 hOK) g3.1 g3.2 ?_
  refine g_icmp_eq (q0 := 15) (tgt := 17) rfl dX12_areLike_12 (by decide) (fun h12 => ?_) (fun h12 => ?_)
  · replace h := gI_pos h12 h
    refine g_iconst (q0 := 18) rfl dX12_areLike_17 (k := ?_)
    refine g_istore_n (q0 := 19) (j := 3) (lv2 := [_, _, _, _]) rfl dX12_areLike_18 (by decide) rfl rfl ?_
    exact ok_areLike_19 hOK h
  · replace h := gI_neg h12 h
    refine g_iconst (q0 := 16) rfl dX12_areLike_15 (k := ?_)
    rw [← Option.some.inj h]
    refine g_zreturn dX12_areLike_16 rfl (gnz (Or.inl rfl)) ⟨Nat.zero_le _, Nat.zero_le _⟩ ?_
    exact ⟨rfl, rfl, rfl⟩
-- ==== isCommit
theorem dX12_isCommit_0 : decode cX12_isCommit 0 = .ok (.iload_n 1, 1) := by decide +kernel
theorem dX12_isCommit_1 : decode cX12_isCommit 1 = .ok (.iconst 0, 1) := by decide +kernel
theorem dX12_isCommit_2 : decode cX12_isCommit 2 = .ok (.aload_n 0, 1) := by decide +kernel
theorem dX12_isCommit_3 : decode cX12_isCommit 3 = .ok (.getfield 178, 3) := by decide +kernel
theorem dX12_isCommit_6 : decode cX12_isCommit 6 = .ok (.iconst 1, 1) := by decide +kernel
theorem dX12_isCommit_7 : decode cX12_isCommit 7 = .ok (.isub, 1) := by decide +kernel
theorem dX12_isCommit_8 : decode cX12_isCommit 8 = .ok (.invokestatic 182, 3) := by decide +kernel
theorem dX12_isCommit_11 : decode cX12_isCommit 11 = .ok (.ireturn, 1) := by decide +kernel
noncomputable def F_isCommit (M : gM) (a1 : Int) : Option (Int) := (Option.bind (F_in a1 0 (gw32 ((M 711 0) - (1 : Int)))) (fun r8 =>
    some r8))
theorem eq_isCommit (M : gM) (a1 : Int) : F_isCommit M a1 = (Option.bind (F_in a1 0 (gw32 ((M 711 0) - (1 : Int)))) (fun r8 =>
    some r8)) := rfl
theorem bo_isCommit {M : gM} {a1 : Int} {b : Int} (h : F_isCommit M a1 = some b) : b = 0 ∨ b = 1 := by
  rw [eq_isCommit] at h
  obtain ⟨r8, e8, h⟩ := gI_bd h
  rw [← Option.some.inj h]
  exact (bo_in (b := r8) e8)
theorem ok_isCommit {sh : gS} {M : gM} {a1 : Int} {b : Int} (hOK : gOK sh M) (h : F_isCommit M a1 = some b) : gC (gr 1 22) yX12_isCommit cX12_isCommit 2 (some (.boolean)) [(4, 711), (0, a1)] sh M (gPq sh (some (0, b)) M) := by
  rw [eq_isCommit] at h
  refine gC_ofA (lv := [_, _]) (by decide +kernel) (Nat.le_of_ble_eq_true rfl) rfl (fun hMw hav => ?_)
  refine g_iload_n (q0 := 1) (j := 1) rfl dX12_isCommit_0 rfl ?_
  refine g_iconst (q0 := 2) rfl dX12_isCommit_1 (k := ?_)
  refine g_aload_n (q0 := 3) (j := 0) rfl dX12_isCommit_2 rfl ?_
  refine g_getf (q0 := 6) (t := 0) (fi := 0) rfl rfl ff_X12_178 dX12_isCommit_3 rfl (sh_711 hOK) ?_
  refine g_iconst (q0 := 7) rfl dX12_isCommit_6 (k := ?_)
  refine g_isubw (q0 := 8) rfl dX12_isCommit_7 ?_
  obtain ⟨r8, e8, h⟩ := gI_bd h
  refine g_callSq1 (as := [_, _, _]) (rest := []) mt_X12_in ms_X12_in ml_X12_182 dX12_isCommit_8 (q0 := 11) rfl rfl (ok_in hOK e8) rfl ⟨by decide, by decide⟩ (Nat.le_of_ble_eq_true rfl) ⟨Nat.zero_le _, Nat.zero_le _⟩ ?_
  rw [← Option.some.inj h]
  refine g_zreturn dX12_isCommit_11 rfl (gnz (bo_in (b := r8) e8)) ⟨Nat.zero_le _, Nat.zero_le _⟩ ?_
  exact ⟨rfl, rfl, rfl⟩
-- ==== parentAt
theorem dX12_parentAt_0 : decode cX12_parentAt 0 = .ok (.aload_n 0, 1) := by decide +kernel
theorem dX12_parentAt_1 : decode cX12_parentAt 1 = .ok (.getfield 13, 3) := by decide +kernel
theorem dX12_parentAt_4 : decode cX12_parentAt 4 = .ok (.iconst 3, 1) := by decide +kernel
theorem dX12_parentAt_5 : decode cX12_parentAt 5 = .ok (.iload_n 1, 1) := by decide +kernel
theorem dX12_parentAt_6 : decode cX12_parentAt 6 = .ok (.imul, 1) := by decide +kernel
theorem dX12_parentAt_7 : decode cX12_parentAt 7 = .ok (.iload_n 2, 1) := by decide +kernel
theorem dX12_parentAt_8 : decode cX12_parentAt 8 = .ok (.iadd, 1) := by decide +kernel
theorem dX12_parentAt_9 : decode cX12_parentAt 9 = .ok (.iaload, 1) := by decide +kernel
theorem dX12_parentAt_10 : decode cX12_parentAt 10 = .ok (.ireturn, 1) := by decide +kernel
noncomputable def F_parentAt (M : gM) (a1 a2 : Int) : Option (Int) := (if 0 ≤ (gw32 ((gw32 ((3 : Int) * a1)) + a2)) ∧ (gw32 ((gw32 ((3 : Int) * a1)) + a2)) < 360 then
    some (M 713 (gw32 ((gw32 ((3 : Int) * a1)) + a2)))
  else none)
theorem eq_parentAt (M : gM) (a1 a2 : Int) : F_parentAt M a1 a2 = (if 0 ≤ (gw32 ((gw32 ((3 : Int) * a1)) + a2)) ∧ (gw32 ((gw32 ((3 : Int) * a1)) + a2)) < 360 then
    some (M 713 (gw32 ((gw32 ((3 : Int) * a1)) + a2)))
  else none) := rfl
theorem ok_parentAt {sh : gS} {M : gM} {a1 a2 : Int} {b : Int} (hOK : gOK sh M) (h : F_parentAt M a1 a2 = some b) : gC (gr 0 0) yX12_parentAt cX12_parentAt 3 (some (.int)) [(4, 711), (0, a1), (0, a2)] sh M (gPq sh (some (0, b)) M) := by
  rw [eq_parentAt] at h
  refine gC_ofA (lv := [_, _, _]) (by decide +kernel) (Nat.le_of_ble_eq_true rfl) rfl (fun hMw hav => ?_)
  refine g_aload_n (q0 := 1) (j := 0) rfl dX12_parentAt_0 rfl ?_
  refine g_getp (q0 := 4) (b := 713) rfl ff_X12_13 dX12_parentAt_1 rfl hOK (by decide) (sh_711 hOK) rfl (by decide) ?_
  refine g_iconst (q0 := 5) rfl dX12_parentAt_4 (k := ?_)
  refine g_iload_n (q0 := 6) (j := 1) rfl dX12_parentAt_5 rfl ?_
  refine g_imulw (q0 := 7) rfl dX12_parentAt_6 ?_
  refine g_iload_n (q0 := 8) (j := 2) rfl dX12_parentAt_7 rfl ?_
  refine g_iaddw (q0 := 9) rfl dX12_parentAt_8 ?_
  obtain ⟨g1, h⟩ := gI_gd h
  refine g_iald (q0 := 10) rfl dX12_parentAt_9 (sh_713 hOK) g1.1 g1.2 ?_
  rw [← Option.some.inj h]
  refine g_ireturn dX12_parentAt_10 rfl ⟨Nat.zero_le _, Nat.zero_le _⟩ ?_
  exact ⟨rfl, rfl, rfl⟩
-- ==== isSameAs
theorem dX12_isSameAs_0 : decode cX12_isSameAs 0 = .ok (.aload_n 0, 1) := by decide +kernel
theorem dX12_isSameAs_1 : decode cX12_isSameAs 1 = .ok (.getfield 7, 3) := by decide +kernel
theorem dX12_isSameAs_4 : decode cX12_isSameAs 4 = .ok (.iload_n 1, 1) := by decide +kernel
theorem dX12_isSameAs_5 : decode cX12_isSameAs 5 = .ok (.iaload, 1) := by decide +kernel
theorem dX12_isSameAs_6 : decode cX12_isSameAs 6 = .ok (.aload_n 0, 1) := by decide +kernel
theorem dX12_isSameAs_7 : decode cX12_isSameAs 7 = .ok (.getfield 186, 3) := by decide +kernel
theorem dX12_isSameAs_10 : decode cX12_isSameAs 10 = .ok (.if_icmp .ne 37, 3) := by decide +kernel
theorem dX12_isSameAs_13 : decode cX12_isSameAs 13 = .ok (.aload_n 0, 1) := by decide +kernel
theorem dX12_isSameAs_14 : decode cX12_isSameAs 14 = .ok (.getfield 22, 3) := by decide +kernel
theorem dX12_isSameAs_17 : decode cX12_isSameAs 17 = .ok (.iload_n 1, 1) := by decide +kernel
theorem dX12_isSameAs_18 : decode cX12_isSameAs 18 = .ok (.iaload, 1) := by decide +kernel
theorem dX12_isSameAs_19 : decode cX12_isSameAs 19 = .ok (.aload_n 0, 1) := by decide +kernel
theorem dX12_isSameAs_20 : decode cX12_isSameAs 20 = .ok (.getfield 189, 3) := by decide +kernel
theorem dX12_isSameAs_23 : decode cX12_isSameAs 23 = .ok (.if_icmp .ne 24, 3) := by decide +kernel
theorem dX12_isSameAs_26 : decode cX12_isSameAs 26 = .ok (.aload_n 0, 1) := by decide +kernel
theorem dX12_isSameAs_27 : decode cX12_isSameAs 27 = .ok (.getfield 16, 3) := by decide +kernel
theorem dX12_isSameAs_30 : decode cX12_isSameAs 30 = .ok (.iload_n 1, 1) := by decide +kernel
theorem dX12_isSameAs_31 : decode cX12_isSameAs 31 = .ok (.iaload, 1) := by decide +kernel
theorem dX12_isSameAs_32 : decode cX12_isSameAs 32 = .ok (.iload_n 3, 1) := by decide +kernel
theorem dX12_isSameAs_33 : decode cX12_isSameAs 33 = .ok (.if_icmp .ne 14, 3) := by decide +kernel
theorem dX12_isSameAs_36 : decode cX12_isSameAs 36 = .ok (.aload_n 0, 1) := by decide +kernel
theorem dX12_isSameAs_37 : decode cX12_isSameAs 37 = .ok (.getfield 19, 3) := by decide +kernel
theorem dX12_isSameAs_40 : decode cX12_isSameAs 40 = .ok (.iload_n 1, 1) := by decide +kernel
theorem dX12_isSameAs_41 : decode cX12_isSameAs 41 = .ok (.iaload, 1) := by decide +kernel
theorem dX12_isSameAs_42 : decode cX12_isSameAs 42 = .ok (.iload 4, 2) := by decide +kernel
theorem dX12_isSameAs_44 : decode cX12_isSameAs 44 = .ok (.if_icmp .eq 5, 3) := by decide +kernel
theorem dX12_isSameAs_47 : decode cX12_isSameAs 47 = .ok (.iconst 0, 1) := by decide +kernel
theorem dX12_isSameAs_48 : decode cX12_isSameAs 48 = .ok (.ireturn, 1) := by decide +kernel
theorem dX12_isSameAs_49 : decode cX12_isSameAs 49 = .ok (.iconst 0, 1) := by decide +kernel
theorem dX12_isSameAs_50 : decode cX12_isSameAs 50 = .ok (.istore 5, 2) := by decide +kernel
theorem dX12_isSameAs_52 : decode cX12_isSameAs 52 = .ok (.iload 5, 2) := by decide +kernel
theorem dX12_isSameAs_54 : decode cX12_isSameAs 54 = .ok (.aload_n 0, 1) := by decide +kernel
theorem dX12_isSameAs_55 : decode cX12_isSameAs 55 = .ok (.getfield 186, 3) := by decide +kernel
theorem dX12_isSameAs_58 : decode cX12_isSameAs 58 = .ok (.if_icmp .ge 28, 3) := by decide +kernel
theorem dX12_isSameAs_61 : decode cX12_isSameAs 61 = .ok (.aload_n 0, 1) := by decide +kernel
theorem dX12_isSameAs_62 : decode cX12_isSameAs 62 = .ok (.iload_n 1, 1) := by decide +kernel
theorem dX12_isSameAs_63 : decode cX12_isSameAs 63 = .ok (.iload 5, 2) := by decide +kernel
theorem dX12_isSameAs_65 : decode cX12_isSameAs 65 = .ok (.invokevirtual 192, 3) := by decide +kernel
theorem dX12_isSameAs_68 : decode cX12_isSameAs 68 = .ok (.aload_n 0, 1) := by decide +kernel
theorem dX12_isSameAs_69 : decode cX12_isSameAs 69 = .ok (.getfield 37, 3) := by decide +kernel
theorem dX12_isSameAs_72 : decode cX12_isSameAs 72 = .ok (.iload 5, 2) := by decide +kernel
theorem dX12_isSameAs_74 : decode cX12_isSameAs 74 = .ok (.iaload, 1) := by decide +kernel
theorem dX12_isSameAs_75 : decode cX12_isSameAs 75 = .ok (.if_icmp .eq 5, 3) := by decide +kernel
theorem dX12_isSameAs_78 : decode cX12_isSameAs 78 = .ok (.iconst 0, 1) := by decide +kernel
theorem dX12_isSameAs_79 : decode cX12_isSameAs 79 = .ok (.ireturn, 1) := by decide +kernel
theorem dX12_isSameAs_80 : decode cX12_isSameAs 80 = .ok (.iinc 5 1, 3) := by decide +kernel
theorem dX12_isSameAs_83 : decode cX12_isSameAs 83 = .ok (.goto (-31), 3) := by decide +kernel
theorem dX12_isSameAs_86 : decode cX12_isSameAs 86 = .ok (.iconst 0, 1) := by decide +kernel
theorem dX12_isSameAs_87 : decode cX12_isSameAs 87 = .ok (.istore 5, 2) := by decide +kernel
theorem dX12_isSameAs_89 : decode cX12_isSameAs 89 = .ok (.iload 5, 2) := by decide +kernel
theorem dX12_isSameAs_91 : decode cX12_isSameAs 91 = .ok (.aload_n 0, 1) := by decide +kernel
theorem dX12_isSameAs_92 : decode cX12_isSameAs 92 = .ok (.getfield 189, 3) := by decide +kernel
theorem dX12_isSameAs_95 : decode cX12_isSameAs 95 = .ok (.if_icmp .ge 33, 3) := by decide +kernel
theorem dX12_isSameAs_98 : decode cX12_isSameAs 98 = .ok (.aload_n 0, 1) := by decide +kernel
theorem dX12_isSameAs_99 : decode cX12_isSameAs 99 = .ok (.getfield 25, 3) := by decide +kernel
theorem dX12_isSameAs_102 : decode cX12_isSameAs 102 = .ok (.bipush 24, 2) := by decide +kernel
theorem dX12_isSameAs_104 : decode cX12_isSameAs 104 = .ok (.iload_n 1, 1) := by decide +kernel
theorem dX12_isSameAs_105 : decode cX12_isSameAs 105 = .ok (.imul, 1) := by decide +kernel
theorem dX12_isSameAs_106 : decode cX12_isSameAs 106 = .ok (.iload 5, 2) := by decide +kernel
theorem dX12_isSameAs_108 : decode cX12_isSameAs 108 = .ok (.iadd, 1) := by decide +kernel
theorem dX12_isSameAs_109 : decode cX12_isSameAs 109 = .ok (.iaload, 1) := by decide +kernel
theorem dX12_isSameAs_110 : decode cX12_isSameAs 110 = .ok (.aload_n 0, 1) := by decide +kernel
theorem dX12_isSameAs_111 : decode cX12_isSameAs 111 = .ok (.getfield 40, 3) := by decide +kernel
theorem dX12_isSameAs_114 : decode cX12_isSameAs 114 = .ok (.iload 5, 2) := by decide +kernel
theorem dX12_isSameAs_116 : decode cX12_isSameAs 116 = .ok (.iaload, 1) := by decide +kernel
theorem dX12_isSameAs_117 : decode cX12_isSameAs 117 = .ok (.if_icmp .eq 5, 3) := by decide +kernel
theorem dX12_isSameAs_120 : decode cX12_isSameAs 120 = .ok (.iconst 0, 1) := by decide +kernel
theorem dX12_isSameAs_121 : decode cX12_isSameAs 121 = .ok (.ireturn, 1) := by decide +kernel
theorem dX12_isSameAs_122 : decode cX12_isSameAs 122 = .ok (.iinc 5 1, 3) := by decide +kernel
theorem dX12_isSameAs_125 : decode cX12_isSameAs 125 = .ok (.goto (-36), 3) := by decide +kernel
theorem dX12_isSameAs_128 : decode cX12_isSameAs 128 = .ok (.aload_n 0, 1) := by decide +kernel
theorem dX12_isSameAs_129 : decode cX12_isSameAs 129 = .ok (.iload_n 1, 1) := by decide +kernel
theorem dX12_isSameAs_130 : decode cX12_isSameAs 130 = .ok (.iload_n 2, 1) := by decide +kernel
theorem dX12_isSameAs_131 : decode cX12_isSameAs 131 = .ok (.invokevirtual 195, 3) := by decide +kernel
theorem dX12_isSameAs_134 : decode cX12_isSameAs 134 = .ok (.ireturn, 1) := by decide +kernel
noncomputable def st_isSameAs (M : gM) : Nat × List Int → Option ((Nat × List Int) ⊕ (Int))
  | (0, [x1, x2, x3, x4, x5]) => (if x5 < (M 711 12) then
      (Option.bind (F_parentAt M x1 x5) (fun r65 =>
        (if 0 ≤ x5 ∧ x5 < 3 then
          (if r65 = (M 721 x5) then
            some (.inl (0, [x1, x2, x3, x4, (gw32 (x5 + 1))]))
          else
            some (.inr 0))
        else none)))
    else
      some (.inl (1, [x1, x2, x3, x4, 0])))
  | (1, [x1, x2, x3, x4, x5]) => (if x5 < (M 711 13) then
      (if 0 ≤ (gw32 ((gw32 ((24 : Int) * x1)) + x5)) ∧ (gw32 ((gw32 ((24 : Int) * x1)) + x5)) < 2880 then
        (if 0 ≤ x5 ∧ x5 < 400 then
          (if (M 717 (gw32 ((gw32 ((24 : Int) * x1)) + x5))) = (M 722 x5) then
            some (.inl (1, [x1, x2, x3, x4, (gw32 (x5 + 1))]))
          else
            some (.inr 0))
        else none)
      else none)
    else
      (Option.bind (F_areLike M x1 x2) (fun r131 =>
        some (.inr r131))))
  | _ => none
theorem sk_isSameAs_52 (k : Nat × List Int → Option (Int)) (M : gM) (x1 x2 x3 x4 x5 : Int) : gWk k (st_isSameAs M (0, [x1, x2, x3, x4, x5])) = (if x5 < (M 711 12) then
    (Option.bind (F_parentAt M x1 x5) (fun r65 =>
      (if 0 ≤ x5 ∧ x5 < 3 then
        (if r65 = (M 721 x5) then
          k (0, [x1, x2, x3, x4, (gw32 (x5 + 1))])
        else
          some 0)
      else none)))
  else
    k (1, [x1, x2, x3, x4, 0])) := by
  simp only [st_isSameAs, gWk_ite, gWk_bind, gWk_inl, gWk_inr, gWk_none]
theorem sk_isSameAs_89 (k : Nat × List Int → Option (Int)) (M : gM) (x1 x2 x3 x4 x5 : Int) : gWk k (st_isSameAs M (1, [x1, x2, x3, x4, x5])) = (if x5 < (M 711 13) then
    (if 0 ≤ (gw32 ((gw32 ((24 : Int) * x1)) + x5)) ∧ (gw32 ((gw32 ((24 : Int) * x1)) + x5)) < 2880 then
      (if 0 ≤ x5 ∧ x5 < 400 then
        (if (M 717 (gw32 ((gw32 ((24 : Int) * x1)) + x5))) = (M 722 x5) then
          k (1, [x1, x2, x3, x4, (gw32 (x5 + 1))])
        else
          some 0)
      else none)
    else none)
  else
    (Option.bind (F_areLike M x1 x2) (fun r131 =>
      some r131))) := by
  simp only [st_isSameAs, gWk_ite, gWk_bind, gWk_inl, gWk_inr, gWk_none]
noncomputable def F_isSameAs_52 (M : gM) (x1 x2 x3 x4 x5 : Int) : Option (Int) := gWh (st_isSameAs M) (0, [x1, x2, x3, x4, x5])
noncomputable def F_isSameAs_89 (M : gM) (x1 x2 x3 x4 x5 : Int) : Option (Int) := gWh (st_isSameAs M) (1, [x1, x2, x3, x4, x5])
theorem eq_isSameAs_52 (M : gM) (x1 x2 x3 x4 x5 : Int) : F_isSameAs_52 M x1 x2 x3 x4 x5 = (if x5 < (M 711 12) then
    (Option.bind (F_parentAt M x1 x5) (fun r65 =>
      (if 0 ≤ x5 ∧ x5 < 3 then
        (if r65 = (M 721 x5) then
          F_isSameAs_52 M x1 x2 x3 x4 (gw32 (x5 + 1))
        else
          some 0)
      else none)))
  else
    F_isSameAs_89 M x1 x2 x3 x4 0) := (gWh_eq _).trans (sk_isSameAs_52 _ M x1 x2 x3 x4 x5)
theorem eq_isSameAs_89 (M : gM) (x1 x2 x3 x4 x5 : Int) : F_isSameAs_89 M x1 x2 x3 x4 x5 = (if x5 < (M 711 13) then
    (if 0 ≤ (gw32 ((gw32 ((24 : Int) * x1)) + x5)) ∧ (gw32 ((gw32 ((24 : Int) * x1)) + x5)) < 2880 then
      (if 0 ≤ x5 ∧ x5 < 400 then
        (if (M 717 (gw32 ((gw32 ((24 : Int) * x1)) + x5))) = (M 722 x5) then
          F_isSameAs_89 M x1 x2 x3 x4 (gw32 (x5 + 1))
        else
          some 0)
      else none)
    else none)
  else
    (Option.bind (F_areLike M x1 x2) (fun r131 =>
      some r131))) := (gWh_eq _).trans (sk_isSameAs_89 _ M x1 x2 x3 x4 x5)
noncomputable def F_isSameAs (M : gM) (a1 a2 a3 a4 : Int) : Option (Int) := (if 0 ≤ a1 ∧ a1 < 120 then
    (if (M 712 a1) = (M 711 12) then
      (if (M 716 a1) = (M 711 13) then
        (if (M 714 a1) = a3 then
          (if (M 715 a1) = a4 then
            F_isSameAs_52 M a1 a2 a3 a4 0
          else
            some 0)
        else
          some 0)
      else
        some 0)
    else
      some 0)
  else none)
theorem eq_isSameAs (M : gM) (a1 a2 a3 a4 : Int) : F_isSameAs M a1 a2 a3 a4 = (if 0 ≤ a1 ∧ a1 < 120 then
    (if (M 712 a1) = (M 711 12) then
      (if (M 716 a1) = (M 711 13) then
        (if (M 714 a1) = a3 then
          (if (M 715 a1) = a4 then
            F_isSameAs_52 M a1 a2 a3 a4 0
          else
            some 0)
        else
          some 0)
      else
        some 0)
    else
      some 0)
  else none) := rfl
theorem bop_isSameAs {M : gM} : ∀ (s : Nat × List Int) (b : Int), gWh (st_isSameAs M) s = some b → (∀ (x1 x2 x3 x4 x5 : Int), s = (0, [x1, x2, x3, x4, x5]) → b = 0 ∨ b = 1) ∧ (∀ (x1 x2 x3 x4 x5 : Int), s = (1, [x1, x2, x3, x4, x5]) → b = 0 ∨ b = 1) := by
  refine gWh_ind (fun k hk s b h => ⟨?_, ?_⟩)
  · rintro x1 x2 x3 x4 x5 rfl
    rw [sk_isSameAs_52] at h
    rcases gI_or h with h | h
    · obtain ⟨r65, e65, h⟩ := gI_bd h
      obtain ⟨g1, h⟩ := gI_gd h
      rcases gI_or h with h | h
      · exact (hk _ _ h).1 _ _ _ _ _ rfl
      · rw [← Option.some.inj h]
        exact (Or.inl rfl)
    · exact (hk _ _ h).2 _ _ _ _ _ rfl
  · rintro x1 x2 x3 x4 x5 rfl
    rw [sk_isSameAs_89] at h
    rcases gI_or h with h | h
    · obtain ⟨g2, h⟩ := gI_gd h
      obtain ⟨g3, h⟩ := gI_gd h
      rcases gI_or h with h | h
      · exact (hk _ _ h).2 _ _ _ _ _ rfl
      · rw [← Option.some.inj h]
        exact (Or.inl rfl)
    · obtain ⟨r131, e131, h⟩ := gI_bd h
      rw [← Option.some.inj h]
      exact (bo_areLike (b := r131) e131)
theorem bo_isSameAs_52 {M : gM} {x1 x2 x3 x4 x5 : Int} {b : Int} (h : F_isSameAs_52 M x1 x2 x3 x4 x5 = some b) : b = 0 ∨ b = 1 :=
  (bop_isSameAs _ _ h).1 _ _ _ _ _ rfl
theorem bo_isSameAs_89 {M : gM} {x1 x2 x3 x4 x5 : Int} {b : Int} (h : F_isSameAs_89 M x1 x2 x3 x4 x5 = some b) : b = 0 ∨ b = 1 :=
  (bop_isSameAs _ _ h).2 _ _ _ _ _ rfl
theorem bo_isSameAs {M : gM} {a1 a2 a3 a4 : Int} {b : Int} (h : F_isSameAs M a1 a2 a3 a4 = some b) : b = 0 ∨ b = 1 := by
  rw [eq_isSameAs] at h
  obtain ⟨g4, h⟩ := gI_gd h
  rcases gI_or h with h | h
  · rcases gI_or h with h | h
    · rcases gI_or h with h | h
      · rcases gI_or h with h | h
        · exact bo_isSameAs_52 h
        · rw [← Option.some.inj h]
          exact (Or.inl rfl)
      · rw [← Option.some.inj h]
        exact (Or.inl rfl)
    · rw [← Option.some.inj h]
      exact (Or.inl rfl)
  · rw [← Option.some.inj h]
    exact (Or.inl rfl)
theorem okp_isSameAs {sh : gS} {M : gM} : ∀ (s : Nat × List Int) (b : Int), gWh (st_isSameAs M) s = some b → (∀ (x1 x2 x3 x4 x5 : Int), s = (0, [x1, x2, x3, x4, x5]) → gOK sh M → gA (gr 3 65) yX12_isSameAs cX12_isSameAs 6 (some (.boolean)) (gPq sh (some (0, b)) M) (0, 0) 52 [(4, 711), (0, x1), (0, x2), (0, x3), (0, x4), (0, x5)] [] sh M) ∧ (∀ (x1 x2 x3 x4 x5 : Int), s = (1, [x1, x2, x3, x4, x5]) → gOK sh M → gA (gr 3 65) yX12_isSameAs cX12_isSameAs 6 (some (.boolean)) (gPq sh (some (0, b)) M) (0, 0) 89 [(4, 711), (0, x1), (0, x2), (0, x3), (0, x4), (0, x5)] [] sh M) := by
  refine gWh_ind (fun k hk s b h => ⟨?_, ?_⟩)
  · rintro x1 x2 x3 x4 x5 rfl hOK
    rw [sk_isSameAs_52] at h
    refine g_iload (q0 := 54) (j := 5) rfl dX12_isSameAs_52 rfl ?_
    refine g_aload_n (q0 := 55) (j := 0) rfl dX12_isSameAs_54 rfl ?_
    refine g_getf (q0 := 58) (t := 0) (fi := 12) rfl rfl ff_X12_186 dX12_isSameAs_55 rfl (sh_711 hOK) ?_
    refine g_icmp_ge (q0 := 61) (tgt := 86) rfl dX12_isSameAs_58 (by decide) (fun h58 => ?_) (fun h58 => ?_)
    · replace h := gI_neg (Int.not_lt.mpr h58) h
      refine g_iconst (q0 := 87) rfl dX12_isSameAs_86 (k := ?_)
      refine g_istore (q0 := 89) (j := 5) (lv2 := [_, _, _, _, _, _]) rfl dX12_isSameAs_87 (by decide) rfl rfl ?_
      exact (hk _ _ h).2 _ _ _ _ _ rfl hOK
    · replace h := gI_pos h58 h
      refine g_aload_n (q0 := 62) (j := 0) rfl dX12_isSameAs_61 rfl ?_
      refine g_iload_n (q0 := 63) (j := 1) rfl dX12_isSameAs_62 rfl ?_
      refine g_iload (q0 := 65) (j := 5) rfl dX12_isSameAs_63 rfl ?_
      obtain ⟨r65, e65, h⟩ := gI_bd h
      refine g_callVq1 (as := [_, _]) (rest := []) mt_X12_parentAt mi_X12_parentAt se_X12_parentAt ml_X12_192 dX12_isSameAs_65 (q0 := 68) rfl rfl (sh_711 hOK) rfl rfl (ok_parentAt hOK e65) rfl ⟨by decide, by decide⟩ (Nat.le_of_ble_eq_true rfl) ⟨Nat.zero_le _, Nat.zero_le _⟩ ?_
      refine g_aload_n (q0 := 69) (j := 0) rfl dX12_isSameAs_68 rfl ?_
      refine g_getp (q0 := 72) (b := 721) rfl ff_X12_37 dX12_isSameAs_69 rfl hOK (by decide) (sh_711 hOK) rfl (by decide) ?_
      refine g_iload (q0 := 74) (j := 5) rfl dX12_isSameAs_72 rfl ?_
      obtain ⟨g1, h⟩ := gI_gd h
      refine g_iald (q0 := 75) rfl dX12_isSameAs_74 (sh_721 hOK) g1.1 g1.2 ?_
      refine g_icmp_eq (q0 := 78) (tgt := 80) rfl dX12_isSameAs_75 (by decide) (fun h75 => ?_) (fun h75 => ?_)
      · replace h := gI_pos h75 h
        refine g_iincw (q0 := 83) (lv2 := [_, _, _, _, _, _]) rfl dX12_isSameAs_80 rfl (by decide) rfl rfl ?_
        refine g_goto (tgt := 52) dX12_isSameAs_83 (by decide) ?_
        exact (hk _ _ h).1 _ _ _ _ _ rfl hOK
      · replace h := gI_neg h75 h
        refine g_iconst (q0 := 79) rfl dX12_isSameAs_78 (k := ?_)
        rw [← Option.some.inj h]
        refine g_zreturn dX12_isSameAs_79 rfl (gnz (Or.inl rfl)) ⟨Nat.zero_le _, Nat.zero_le _⟩ ?_
        exact ⟨rfl, rfl, rfl⟩
  · rintro x1 x2 x3 x4 x5 rfl hOK
    rw [sk_isSameAs_89] at h
    refine g_iload (q0 := 91) (j := 5) rfl dX12_isSameAs_89 rfl ?_
    refine g_aload_n (q0 := 92) (j := 0) rfl dX12_isSameAs_91 rfl ?_
    refine g_getf (q0 := 95) (t := 0) (fi := 13) rfl rfl ff_X12_189 dX12_isSameAs_92 rfl (sh_711 hOK) ?_
    refine g_icmp_ge (q0 := 98) (tgt := 128) rfl dX12_isSameAs_95 (by decide) (fun h95 => ?_) (fun h95 => ?_)
    · replace h := gI_neg (Int.not_lt.mpr h95) h
      refine g_aload_n (q0 := 129) (j := 0) rfl dX12_isSameAs_128 rfl ?_
      refine g_iload_n (q0 := 130) (j := 1) rfl dX12_isSameAs_129 rfl ?_
      refine g_iload_n (q0 := 131) (j := 2) rfl dX12_isSameAs_130 rfl ?_
      obtain ⟨r131, e131, h⟩ := gI_bd h
      refine g_callVq1 (as := [_, _]) (rest := []) mt_X12_areLike mi_X12_areLike se_X12_areLike ml_X12_195 dX12_isSameAs_131 (q0 := 134) rfl rfl (sh_711 hOK) rfl rfl (ok_areLike hOK e131) rfl ⟨by decide, by decide⟩ (Nat.le_of_ble_eq_true rfl) ⟨Nat.zero_le _, Nat.zero_le _⟩ ?_
      rw [← Option.some.inj h]
      refine g_zreturn dX12_isSameAs_134 rfl (gnz (bo_areLike (b := r131) e131)) ⟨Nat.zero_le _, Nat.zero_le _⟩ ?_
      exact ⟨rfl, rfl, rfl⟩
    · replace h := gI_pos h95 h
      refine g_aload_n (q0 := 99) (j := 0) rfl dX12_isSameAs_98 rfl ?_
      refine g_getp (q0 := 102) (b := 717) rfl ff_X12_25 dX12_isSameAs_99 rfl hOK (by decide) (sh_711 hOK) rfl (by decide) ?_
      refine g_bipush (q0 := 104) rfl dX12_isSameAs_102 (k := ?_)
      refine g_iload_n (q0 := 105) (j := 1) rfl dX12_isSameAs_104 rfl ?_
      refine g_imulw (q0 := 106) rfl dX12_isSameAs_105 ?_
      refine g_iload (q0 := 108) (j := 5) rfl dX12_isSameAs_106 rfl ?_
      refine g_iaddw (q0 := 109) rfl dX12_isSameAs_108 ?_
      obtain ⟨g2, h⟩ := gI_gd h
      refine g_iald (q0 := 110) rfl dX12_isSameAs_109 (sh_717 hOK) g2.1 g2.2 ?_
      refine g_aload_n (q0 := 111) (j := 0) rfl dX12_isSameAs_110 rfl ?_
      refine g_getp (q0 := 114) (b := 722) rfl ff_X12_40 dX12_isSameAs_111 rfl hOK (by decide) (sh_711 hOK) rfl (by decide) ?_
      refine g_iload (q0 := 116) (j := 5) rfl dX12_isSameAs_114 rfl ?_
      obtain ⟨g3, h⟩ := gI_gd h
      refine g_iald (q0 := 117) rfl dX12_isSameAs_116 (sh_722 hOK) g3.1 g3.2 ?_
      refine g_icmp_eq (q0 := 120) (tgt := 122) rfl dX12_isSameAs_117 (by decide) (fun h117 => ?_) (fun h117 => ?_)
      · replace h := gI_pos h117 h
        refine g_iincw (q0 := 125) (lv2 := [_, _, _, _, _, _]) rfl dX12_isSameAs_122 rfl (by decide) rfl rfl ?_
        refine g_goto (tgt := 89) dX12_isSameAs_125 (by decide) ?_
        exact (hk _ _ h).2 _ _ _ _ _ rfl hOK
      · replace h := gI_neg h117 h
        refine g_iconst (q0 := 121) rfl dX12_isSameAs_120 (k := ?_)
        rw [← Option.some.inj h]
        refine g_zreturn dX12_isSameAs_121 rfl (gnz (Or.inl rfl)) ⟨Nat.zero_le _, Nat.zero_le _⟩ ?_
        exact ⟨rfl, rfl, rfl⟩
theorem ok_isSameAs_52 {sh : gS} {M : gM} {x1 x2 x3 x4 x5 : Int} {b : Int} (hOK : gOK sh M) (h : F_isSameAs_52 M x1 x2 x3 x4 x5 = some b) : gA (gr 3 65) yX12_isSameAs cX12_isSameAs 6 (some (.boolean)) (gPq sh (some (0, b)) M) (0, 0) 52 [(4, 711), (0, x1), (0, x2), (0, x3), (0, x4), (0, x5)] [] sh M :=
  (okp_isSameAs _ _ h).1 _ _ _ _ _ rfl hOK
theorem ok_isSameAs_89 {sh : gS} {M : gM} {x1 x2 x3 x4 x5 : Int} {b : Int} (hOK : gOK sh M) (h : F_isSameAs_89 M x1 x2 x3 x4 x5 = some b) : gA (gr 3 65) yX12_isSameAs cX12_isSameAs 6 (some (.boolean)) (gPq sh (some (0, b)) M) (0, 0) 89 [(4, 711), (0, x1), (0, x2), (0, x3), (0, x4), (0, x5)] [] sh M :=
  (okp_isSameAs _ _ h).2 _ _ _ _ _ rfl hOK
theorem ok_isSameAs {sh : gS} {M : gM} {a1 a2 a3 a4 : Int} {b : Int} (hOK : gOK sh M) (h : F_isSameAs M a1 a2 a3 a4 = some b) : gC (gr 3 65) yX12_isSameAs cX12_isSameAs 6 (some (.boolean)) [(4, 711), (0, a1), (0, a2), (0, a3), (0, a4)] sh M (gPq sh (some (0, b)) M) := by
  rw [eq_isSameAs] at h
  refine gC_ofA (lv := [_, _, _, _, _, _]) (by decide +kernel) (Nat.le_of_ble_eq_true rfl) rfl (fun hMw hav => ?_)
  refine g_aload_n (q0 := 1) (j := 0) rfl dX12_isSameAs_0 rfl ?_
  refine g_getp (q0 := 4) (b := 712) rfl ff_X12_7 dX12_isSameAs_1 rfl hOK (by decide) (sh_711 hOK) rfl (by decide) ?_
  refine g_iload_n (q0 := 5) (j := 1) rfl dX12_isSameAs_4 rfl ?_
  obtain ⟨g4, h⟩ := gI_gd h
  refine g_iald (q0 := 6) rfl dX12_isSameAs_5 (sh_712 hOK) g4.1 g4.2 ?_
  refine g_aload_n (q0 := 7) (j := 0) rfl dX12_isSameAs_6 rfl ?_
  refine g_getf (q0 := 10) (t := 0) (fi := 12) rfl rfl ff_X12_186 dX12_isSameAs_7 rfl (sh_711 hOK) ?_
  refine g_icmp_ne (q0 := 13) (tgt := 47) rfl dX12_isSameAs_10 (by decide) (fun h10 => ?_) (fun h10 => ?_)
  · replace h := gI_neg h10 h
    refine g_iconst (q0 := 48) rfl dX12_isSameAs_47 (k := ?_)
    rw [← Option.some.inj h]
    refine g_zreturn dX12_isSameAs_48 rfl (gnz (Or.inl rfl)) ⟨Nat.zero_le _, Nat.zero_le _⟩ ?_
    exact ⟨rfl, rfl, rfl⟩
  · replace h := gI_pos h10 h
    refine g_aload_n (q0 := 14) (j := 0) rfl dX12_isSameAs_13 rfl ?_
    refine g_getp (q0 := 17) (b := 716) rfl ff_X12_22 dX12_isSameAs_14 rfl hOK (by decide) (sh_711 hOK) rfl (by decide) ?_
    refine g_iload_n (q0 := 18) (j := 1) rfl dX12_isSameAs_17 rfl ?_
    refine g_iald (q0 := 19) rfl dX12_isSameAs_18 (sh_716 hOK) g4.1 g4.2 ?_
    refine g_aload_n (q0 := 20) (j := 0) rfl dX12_isSameAs_19 rfl ?_
    refine g_getf (q0 := 23) (t := 0) (fi := 13) rfl rfl ff_X12_189 dX12_isSameAs_20 rfl (sh_711 hOK) ?_
    refine g_icmp_ne (q0 := 26) (tgt := 47) rfl dX12_isSameAs_23 (by decide) (fun h23 => ?_) (fun h23 => ?_)
    · replace h := gI_neg h23 h
      refine g_iconst (q0 := 48) rfl dX12_isSameAs_47 (k := ?_)
      rw [← Option.some.inj h]
      refine g_zreturn dX12_isSameAs_48 rfl (gnz (Or.inl rfl)) ⟨Nat.zero_le _, Nat.zero_le _⟩ ?_
      exact ⟨rfl, rfl, rfl⟩
    · replace h := gI_pos h23 h
      refine g_aload_n (q0 := 27) (j := 0) rfl dX12_isSameAs_26 rfl ?_
      refine g_getp (q0 := 30) (b := 714) rfl ff_X12_16 dX12_isSameAs_27 rfl hOK (by decide) (sh_711 hOK) rfl (by decide) ?_
      refine g_iload_n (q0 := 31) (j := 1) rfl dX12_isSameAs_30 rfl ?_
      refine g_iald (q0 := 32) rfl dX12_isSameAs_31 (sh_714 hOK) g4.1 g4.2 ?_
      refine g_iload_n (q0 := 33) (j := 3) rfl dX12_isSameAs_32 rfl ?_
      refine g_icmp_ne (q0 := 36) (tgt := 47) rfl dX12_isSameAs_33 (by decide) (fun h33 => ?_) (fun h33 => ?_)
      · replace h := gI_neg h33 h
        refine g_iconst (q0 := 48) rfl dX12_isSameAs_47 (k := ?_)
        rw [← Option.some.inj h]
        refine g_zreturn dX12_isSameAs_48 rfl (gnz (Or.inl rfl)) ⟨Nat.zero_le _, Nat.zero_le _⟩ ?_
        exact ⟨rfl, rfl, rfl⟩
      · replace h := gI_pos h33 h
        refine g_aload_n (q0 := 37) (j := 0) rfl dX12_isSameAs_36 rfl ?_
        refine g_getp (q0 := 40) (b := 715) rfl ff_X12_19 dX12_isSameAs_37 rfl hOK (by decide) (sh_711 hOK) rfl (by decide) ?_
        refine g_iload_n (q0 := 41) (j := 1) rfl dX12_isSameAs_40 rfl ?_
        refine g_iald (q0 := 42) rfl dX12_isSameAs_41 (sh_715 hOK) g4.1 g4.2 ?_
        refine g_iload (q0 := 44) (j := 4) rfl dX12_isSameAs_42 rfl ?_
        refine g_icmp_eq (q0 := 47) (tgt := 49) rfl dX12_isSameAs_44 (by decide) (fun h44 => ?_) (fun h44 => ?_)
        · replace h := gI_pos h44 h
          refine g_iconst (q0 := 50) rfl dX12_isSameAs_49 (k := ?_)
          refine g_istore (q0 := 52) (j := 5) (lv2 := [_, _, _, _, _, _]) rfl dX12_isSameAs_50 (by decide) rfl rfl ?_
          exact ok_isSameAs_52 hOK h
        · replace h := gI_neg h44 h
          refine g_iconst (q0 := 48) rfl dX12_isSameAs_47 (k := ?_)
          rw [← Option.some.inj h]
          refine g_zreturn dX12_isSameAs_48 rfl (gnz (Or.inl rfl)) ⟨Nat.zero_le _, Nat.zero_le _⟩ ?_
          exact ⟨rfl, rfl, rfl⟩
-- ==== comes
theorem dX12_comes_0 : decode cX12_comes 0 = .ok (.iconst 0, 1) := by decide +kernel
theorem dX12_comes_1 : decode cX12_comes 1 = .ok (.istore 4, 2) := by decide +kernel
theorem dX12_comes_3 : decode cX12_comes 3 = .ok (.iload 4, 2) := by decide +kernel
theorem dX12_comes_5 : decode cX12_comes 5 = .ok (.aload_n 0, 1) := by decide +kernel
theorem dX12_comes_6 : decode cX12_comes 6 = .ok (.getfield 178, 3) := by decide +kernel
theorem dX12_comes_9 : decode cX12_comes 9 = .ok (.if_icmp .ge 24, 3) := by decide +kernel
theorem dX12_comes_12 : decode cX12_comes 12 = .ok (.aload_n 0, 1) := by decide +kernel
theorem dX12_comes_13 : decode cX12_comes 13 = .ok (.iload 4, 2) := by decide +kernel
theorem dX12_comes_15 : decode cX12_comes 15 = .ok (.iload_n 1, 1) := by decide +kernel
theorem dX12_comes_16 : decode cX12_comes 16 = .ok (.iload_n 2, 1) := by decide +kernel
theorem dX12_comes_17 : decode cX12_comes 17 = .ok (.iload_n 3, 1) := by decide +kernel
theorem dX12_comes_18 : decode cX12_comes 18 = .ok (.invokevirtual 198, 3) := by decide +kernel
theorem dX12_comes_21 : decode cX12_comes 21 = .ok (.ifCond .eq 6, 3) := by decide +kernel
theorem dX12_comes_24 : decode cX12_comes 24 = .ok (.iload 4, 2) := by decide +kernel
theorem dX12_comes_26 : decode cX12_comes 26 = .ok (.ireturn, 1) := by decide +kernel
theorem dX12_comes_27 : decode cX12_comes 27 = .ok (.iinc 4 1, 3) := by decide +kernel
theorem dX12_comes_30 : decode cX12_comes 30 = .ok (.goto (-27), 3) := by decide +kernel
theorem dX12_comes_33 : decode cX12_comes 33 = .ok (.aload_n 0, 1) := by decide +kernel
theorem dX12_comes_34 : decode cX12_comes 34 = .ok (.getfield 178, 3) := by decide +kernel
theorem dX12_comes_37 : decode cX12_comes 37 = .ok (.bipush 120, 2) := by decide +kernel
theorem dX12_comes_39 : decode cX12_comes 39 = .ok (.if_icmp .ne 6, 3) := by decide +kernel
theorem dX12_comes_42 : decode cX12_comes 42 = .ok (.bipush (-3), 2) := by decide +kernel
theorem dX12_comes_44 : decode cX12_comes 44 = .ok (.ireturn, 1) := by decide +kernel
theorem dX12_comes_45 : decode cX12_comes 45 = .ok (.aload_n 0, 1) := by decide +kernel
theorem dX12_comes_46 : decode cX12_comes 46 = .ok (.getfield 178, 3) := by decide +kernel
theorem dX12_comes_49 : decode cX12_comes 49 = .ok (.istore 4, 2) := by decide +kernel
theorem dX12_comes_51 : decode cX12_comes 51 = .ok (.aload_n 0, 1) := by decide +kernel
theorem dX12_comes_52 : decode cX12_comes 52 = .ok (.getfield 7, 3) := by decide +kernel
theorem dX12_comes_55 : decode cX12_comes 55 = .ok (.iload 4, 2) := by decide +kernel
theorem dX12_comes_57 : decode cX12_comes 57 = .ok (.aload_n 0, 1) := by decide +kernel
theorem dX12_comes_58 : decode cX12_comes 58 = .ok (.getfield 186, 3) := by decide +kernel
theorem dX12_comes_61 : decode cX12_comes 61 = .ok (.iastore, 1) := by decide +kernel
theorem dX12_comes_62 : decode cX12_comes 62 = .ok (.iconst 0, 1) := by decide +kernel
theorem dX12_comes_63 : decode cX12_comes 63 = .ok (.istore 5, 2) := by decide +kernel
theorem dX12_comes_65 : decode cX12_comes 65 = .ok (.iload 5, 2) := by decide +kernel
theorem dX12_comes_67 : decode cX12_comes 67 = .ok (.aload_n 0, 1) := by decide +kernel
theorem dX12_comes_68 : decode cX12_comes 68 = .ok (.getfield 186, 3) := by decide +kernel
theorem dX12_comes_71 : decode cX12_comes 71 = .ok (.if_icmp .ge 28, 3) := by decide +kernel
theorem dX12_comes_74 : decode cX12_comes 74 = .ok (.aload_n 0, 1) := by decide +kernel
theorem dX12_comes_75 : decode cX12_comes 75 = .ok (.getfield 13, 3) := by decide +kernel
theorem dX12_comes_78 : decode cX12_comes 78 = .ok (.iconst 3, 1) := by decide +kernel
theorem dX12_comes_79 : decode cX12_comes 79 = .ok (.iload 4, 2) := by decide +kernel
theorem dX12_comes_81 : decode cX12_comes 81 = .ok (.imul, 1) := by decide +kernel
theorem dX12_comes_82 : decode cX12_comes 82 = .ok (.iload 5, 2) := by decide +kernel
theorem dX12_comes_84 : decode cX12_comes 84 = .ok (.iadd, 1) := by decide +kernel
theorem dX12_comes_85 : decode cX12_comes 85 = .ok (.aload_n 0, 1) := by decide +kernel
theorem dX12_comes_86 : decode cX12_comes 86 = .ok (.getfield 37, 3) := by decide +kernel
theorem dX12_comes_89 : decode cX12_comes 89 = .ok (.iload 5, 2) := by decide +kernel
theorem dX12_comes_91 : decode cX12_comes 91 = .ok (.iaload, 1) := by decide +kernel
theorem dX12_comes_92 : decode cX12_comes 92 = .ok (.iastore, 1) := by decide +kernel
theorem dX12_comes_93 : decode cX12_comes 93 = .ok (.iinc 5 1, 3) := by decide +kernel
theorem dX12_comes_96 : decode cX12_comes 96 = .ok (.goto (-31), 3) := by decide +kernel
theorem dX12_comes_99 : decode cX12_comes 99 = .ok (.aload_n 0, 1) := by decide +kernel
theorem dX12_comes_100 : decode cX12_comes 100 = .ok (.getfield 22, 3) := by decide +kernel
theorem dX12_comes_103 : decode cX12_comes 103 = .ok (.iload 4, 2) := by decide +kernel
theorem dX12_comes_105 : decode cX12_comes 105 = .ok (.aload_n 0, 1) := by decide +kernel
theorem dX12_comes_106 : decode cX12_comes 106 = .ok (.getfield 189, 3) := by decide +kernel
theorem dX12_comes_109 : decode cX12_comes 109 = .ok (.iastore, 1) := by decide +kernel
theorem dX12_comes_110 : decode cX12_comes 110 = .ok (.iconst 0, 1) := by decide +kernel
theorem dX12_comes_111 : decode cX12_comes 111 = .ok (.istore 5, 2) := by decide +kernel
theorem dX12_comes_113 : decode cX12_comes 113 = .ok (.iload 5, 2) := by decide +kernel
theorem dX12_comes_115 : decode cX12_comes 115 = .ok (.aload_n 0, 1) := by decide +kernel
theorem dX12_comes_116 : decode cX12_comes 116 = .ok (.getfield 189, 3) := by decide +kernel
theorem dX12_comes_119 : decode cX12_comes 119 = .ok (.if_icmp .ge 29, 3) := by decide +kernel
theorem dX12_comes_122 : decode cX12_comes 122 = .ok (.aload_n 0, 1) := by decide +kernel
theorem dX12_comes_123 : decode cX12_comes 123 = .ok (.getfield 25, 3) := by decide +kernel
theorem dX12_comes_126 : decode cX12_comes 126 = .ok (.bipush 24, 2) := by decide +kernel
theorem dX12_comes_128 : decode cX12_comes 128 = .ok (.iload 4, 2) := by decide +kernel
theorem dX12_comes_130 : decode cX12_comes 130 = .ok (.imul, 1) := by decide +kernel
theorem dX12_comes_131 : decode cX12_comes 131 = .ok (.iload 5, 2) := by decide +kernel
theorem dX12_comes_133 : decode cX12_comes 133 = .ok (.iadd, 1) := by decide +kernel
theorem dX12_comes_134 : decode cX12_comes 134 = .ok (.aload_n 0, 1) := by decide +kernel
theorem dX12_comes_135 : decode cX12_comes 135 = .ok (.getfield 40, 3) := by decide +kernel
theorem dX12_comes_138 : decode cX12_comes 138 = .ok (.iload 5, 2) := by decide +kernel
theorem dX12_comes_140 : decode cX12_comes 140 = .ok (.iaload, 1) := by decide +kernel
theorem dX12_comes_141 : decode cX12_comes 141 = .ok (.iastore, 1) := by decide +kernel
theorem dX12_comes_142 : decode cX12_comes 142 = .ok (.iinc 5 1, 3) := by decide +kernel
theorem dX12_comes_145 : decode cX12_comes 145 = .ok (.goto (-32), 3) := by decide +kernel
theorem dX12_comes_148 : decode cX12_comes 148 = .ok (.aload_n 0, 1) := by decide +kernel
theorem dX12_comes_149 : decode cX12_comes 149 = .ok (.getfield 16, 3) := by decide +kernel
theorem dX12_comes_152 : decode cX12_comes 152 = .ok (.iload 4, 2) := by decide +kernel
theorem dX12_comes_154 : decode cX12_comes 154 = .ok (.iload_n 2, 1) := by decide +kernel
theorem dX12_comes_155 : decode cX12_comes 155 = .ok (.iastore, 1) := by decide +kernel
theorem dX12_comes_156 : decode cX12_comes 156 = .ok (.aload_n 0, 1) := by decide +kernel
theorem dX12_comes_157 : decode cX12_comes 157 = .ok (.getfield 19, 3) := by decide +kernel
theorem dX12_comes_160 : decode cX12_comes 160 = .ok (.iload 4, 2) := by decide +kernel
theorem dX12_comes_162 : decode cX12_comes 162 = .ok (.iload_n 3, 1) := by decide +kernel
theorem dX12_comes_163 : decode cX12_comes 163 = .ok (.iastore, 1) := by decide +kernel
theorem dX12_comes_164 : decode cX12_comes 164 = .ok (.aload_n 0, 1) := by decide +kernel
theorem dX12_comes_165 : decode cX12_comes 165 = .ok (.iload_n 1, 1) := by decide +kernel
theorem dX12_comes_166 : decode cX12_comes 166 = .ok (.iload 4, 2) := by decide +kernel
theorem dX12_comes_168 : decode cX12_comes 168 = .ok (.invokevirtual 202, 3) := by decide +kernel
theorem dX12_comes_171 : decode cX12_comes 171 = .ok (.aload_n 0, 1) := by decide +kernel
theorem dX12_comes_172 : decode cX12_comes 172 = .ok (.aload_n 0, 1) := by decide +kernel
theorem dX12_comes_173 : decode cX12_comes 173 = .ok (.getfield 178, 3) := by decide +kernel
theorem dX12_comes_176 : decode cX12_comes 176 = .ok (.iconst 1, 1) := by decide +kernel
theorem dX12_comes_177 : decode cX12_comes 177 = .ok (.iadd, 1) := by decide +kernel
theorem dX12_comes_178 : decode cX12_comes 178 = .ok (.putfield 178, 3) := by decide +kernel
theorem dX12_comes_181 : decode cX12_comes 181 = .ok (.iload 4, 2) := by decide +kernel
theorem dX12_comes_183 : decode cX12_comes 183 = .ok (.ireturn, 1) := by decide +kernel
noncomputable def st_comes : Nat × List Int × gM → Option ((Nat × List Int × gM) ⊕ (Int × gM))
  | (0, [x1, x2, x3, x4], M) => (if x4 < (M 711 0) then
      (Option.bind (F_isSameAs M x4 x1 x2 x3) (fun r18 =>
        (if r18 = 0 then
          some (.inl (0, [x1, x2, x3, (gw32 (x4 + 1))], M))
        else
          some (.inr (x4, M)))))
    else
      (if (M 711 0) = 120 then
        some (.inr (-3, M))
      else
        (if 0 ≤ (M 711 0) ∧ (M 711 0) < 120 then
          some (.inl (1, [x1, x2, x3, (M 711 0), 0], (gU M 712 (M 711 0) (M 711 12))))
        else none)))
  | (1, [x1, x2, x3, x4, x5], M) => (if x5 < (M 711 12) then
      (if 0 ≤ x5 ∧ x5 < 3 then
        (if 0 ≤ (gw32 ((gw32 ((3 : Int) * x4)) + x5)) ∧ (gw32 ((gw32 ((3 : Int) * x4)) + x5)) < 360 then
          some (.inl (1, [x1, x2, x3, x4, (gw32 (x5 + 1))], (gU M 713 (gw32 ((gw32 ((3 : Int) * x4)) + x5)) (M 721 x5))))
        else none)
      else none)
    else
      (if 0 ≤ x4 ∧ x4 < 120 then
        some (.inl (2, [x1, x2, x3, x4, 0], (gU M 716 x4 (M 711 13))))
      else none))
  | (2, [x1, x2, x3, x4, x5], M) => (if x5 < (M 711 13) then
      (if 0 ≤ x5 ∧ x5 < 400 then
        (if 0 ≤ (gw32 ((gw32 ((24 : Int) * x4)) + x5)) ∧ (gw32 ((gw32 ((24 : Int) * x4)) + x5)) < 2880 then
          some (.inl (2, [x1, x2, x3, x4, (gw32 (x5 + 1))], (gU M 717 (gw32 ((gw32 ((24 : Int) * x4)) + x5)) (M 722 x5))))
        else none)
      else none)
    else
      (if 0 ≤ x4 ∧ x4 < 120 then
        (Option.bind (F_copyTree (gU (gU M 714 x4 x2) 715 x4 x3) x1 x4) (fun m168 =>
          some (.inr (x4, (gU m168 711 0 (gw32 ((m168 711 0) + (1 : Int))))))))
      else none))
  | _ => none
theorem sk_comes_3 (k : Nat × List Int × gM → Option (Int × gM)) (M : gM) (x1 x2 x3 x4 : Int) : gWk k (st_comes (0, [x1, x2, x3, x4], M)) = (if x4 < (M 711 0) then
    (Option.bind (F_isSameAs M x4 x1 x2 x3) (fun r18 =>
      (if r18 = 0 then
        k (0, [x1, x2, x3, (gw32 (x4 + 1))], M)
      else
        some (x4, M))))
  else
    (if (M 711 0) = 120 then
      some (-3, M)
    else
      (if 0 ≤ (M 711 0) ∧ (M 711 0) < 120 then
        k (1, [x1, x2, x3, (M 711 0), 0], (gU M 712 (M 711 0) (M 711 12)))
      else none))) := by
  simp only [st_comes, gWk_ite, gWk_bind, gWk_inl, gWk_inr, gWk_none]
theorem sk_comes_65 (k : Nat × List Int × gM → Option (Int × gM)) (M : gM) (x1 x2 x3 x4 x5 : Int) : gWk k (st_comes (1, [x1, x2, x3, x4, x5], M)) = (if x5 < (M 711 12) then
    (if 0 ≤ x5 ∧ x5 < 3 then
      (if 0 ≤ (gw32 ((gw32 ((3 : Int) * x4)) + x5)) ∧ (gw32 ((gw32 ((3 : Int) * x4)) + x5)) < 360 then
        k (1, [x1, x2, x3, x4, (gw32 (x5 + 1))], (gU M 713 (gw32 ((gw32 ((3 : Int) * x4)) + x5)) (M 721 x5)))
      else none)
    else none)
  else
    (if 0 ≤ x4 ∧ x4 < 120 then
      k (2, [x1, x2, x3, x4, 0], (gU M 716 x4 (M 711 13)))
    else none)) := by
  simp only [st_comes, gWk_ite, gWk_bind, gWk_inl, gWk_inr, gWk_none]
theorem sk_comes_113 (k : Nat × List Int × gM → Option (Int × gM)) (M : gM) (x1 x2 x3 x4 x5 : Int) : gWk k (st_comes (2, [x1, x2, x3, x4, x5], M)) = (if x5 < (M 711 13) then
    (if 0 ≤ x5 ∧ x5 < 400 then
      (if 0 ≤ (gw32 ((gw32 ((24 : Int) * x4)) + x5)) ∧ (gw32 ((gw32 ((24 : Int) * x4)) + x5)) < 2880 then
        k (2, [x1, x2, x3, x4, (gw32 (x5 + 1))], (gU M 717 (gw32 ((gw32 ((24 : Int) * x4)) + x5)) (M 722 x5)))
      else none)
    else none)
  else
    (if 0 ≤ x4 ∧ x4 < 120 then
      (Option.bind (F_copyTree (gU (gU M 714 x4 x2) 715 x4 x3) x1 x4) (fun m168 =>
        some (x4, (gU m168 711 0 (gw32 ((m168 711 0) + (1 : Int)))))))
    else none)) := by
  simp only [st_comes, gWk_ite, gWk_bind, gWk_inl, gWk_inr, gWk_none]
noncomputable def F_comes_3 (M : gM) (x1 x2 x3 x4 : Int) : Option (Int × gM) := gWh (st_comes) (0, [x1, x2, x3, x4], M)
noncomputable def F_comes_65 (M : gM) (x1 x2 x3 x4 x5 : Int) : Option (Int × gM) := gWh (st_comes) (1, [x1, x2, x3, x4, x5], M)
noncomputable def F_comes_113 (M : gM) (x1 x2 x3 x4 x5 : Int) : Option (Int × gM) := gWh (st_comes) (2, [x1, x2, x3, x4, x5], M)
theorem eq_comes_3 (M : gM) (x1 x2 x3 x4 : Int) : F_comes_3 M x1 x2 x3 x4 = (if x4 < (M 711 0) then
    (Option.bind (F_isSameAs M x4 x1 x2 x3) (fun r18 =>
      (if r18 = 0 then
        F_comes_3 M x1 x2 x3 (gw32 (x4 + 1))
      else
        some (x4, M))))
  else
    (if (M 711 0) = 120 then
      some (-3, M)
    else
      (if 0 ≤ (M 711 0) ∧ (M 711 0) < 120 then
        F_comes_65 (gU M 712 (M 711 0) (M 711 12)) x1 x2 x3 (M 711 0) 0
      else none))) := (gWh_eq _).trans (sk_comes_3 _ M x1 x2 x3 x4)
theorem eq_comes_65 (M : gM) (x1 x2 x3 x4 x5 : Int) : F_comes_65 M x1 x2 x3 x4 x5 = (if x5 < (M 711 12) then
    (if 0 ≤ x5 ∧ x5 < 3 then
      (if 0 ≤ (gw32 ((gw32 ((3 : Int) * x4)) + x5)) ∧ (gw32 ((gw32 ((3 : Int) * x4)) + x5)) < 360 then
        F_comes_65 (gU M 713 (gw32 ((gw32 ((3 : Int) * x4)) + x5)) (M 721 x5)) x1 x2 x3 x4 (gw32 (x5 + 1))
      else none)
    else none)
  else
    (if 0 ≤ x4 ∧ x4 < 120 then
      F_comes_113 (gU M 716 x4 (M 711 13)) x1 x2 x3 x4 0
    else none)) := (gWh_eq _).trans (sk_comes_65 _ M x1 x2 x3 x4 x5)
theorem eq_comes_113 (M : gM) (x1 x2 x3 x4 x5 : Int) : F_comes_113 M x1 x2 x3 x4 x5 = (if x5 < (M 711 13) then
    (if 0 ≤ x5 ∧ x5 < 400 then
      (if 0 ≤ (gw32 ((gw32 ((24 : Int) * x4)) + x5)) ∧ (gw32 ((gw32 ((24 : Int) * x4)) + x5)) < 2880 then
        F_comes_113 (gU M 717 (gw32 ((gw32 ((24 : Int) * x4)) + x5)) (M 722 x5)) x1 x2 x3 x4 (gw32 (x5 + 1))
      else none)
    else none)
  else
    (if 0 ≤ x4 ∧ x4 < 120 then
      (Option.bind (F_copyTree (gU (gU M 714 x4 x2) 715 x4 x3) x1 x4) (fun m168 =>
        some (x4, (gU m168 711 0 (gw32 ((m168 711 0) + (1 : Int)))))))
    else none)) := (gWh_eq _).trans (sk_comes_113 _ M x1 x2 x3 x4 x5)
noncomputable def F_comes (M : gM) (a1 a2 a3 : Int) : Option (Int × gM) := F_comes_3 M a1 a2 a3 0
theorem eq_comes (M : gM) (a1 a2 a3 : Int) : F_comes M a1 a2 a3 = F_comes_3 M a1 a2 a3 0 := rfl
theorem frp_comes : ∀ (s : Nat × List Int × gM) (b : Int × gM), gWh (st_comes) s = some b → (∀ (x1 x2 x3 x4 : Int) (M : gM), s = (0, [x1, x2, x3, x4], M) → gFr [712, 713, 714, 715, 716, 717, 718, 719, 720] [0] M b.2) ∧ (∀ (x1 x2 x3 x4 x5 : Int) (M : gM), s = (1, [x1, x2, x3, x4, x5], M) → gFr [712, 713, 714, 715, 716, 717, 718, 719, 720] [0] M b.2) ∧ (∀ (x1 x2 x3 x4 x5 : Int) (M : gM), s = (2, [x1, x2, x3, x4, x5], M) → gFr [712, 713, 714, 715, 716, 717, 718, 719, 720] [0] M b.2) := by
  refine gWh_ind (fun k hk s b h => ⟨?_, ?_, ?_⟩)
  · rintro x1 x2 x3 x4 M rfl
    rw [sk_comes_3] at h
    rcases gI_or h with h | h
    · obtain ⟨r18, e18, h⟩ := gI_bd h
      rcases gI_or h with h | h
      · exact gFr_t (gFr_r [712, 713, 714, 715, 716, 717, 718, 719, 720] [0] _) ((hk _ _ h).1 _ _ _ _ _ rfl) (fun _ z => z) (fun _ z => z)
      · rw [← Option.some.inj h]
        exact (gFr_r [712, 713, 714, 715, 716, 717, 718, 719, 720] [0] _)
    · rcases gI_or h with h | h
      · rw [← Option.some.inj h]
        exact (gFr_r [712, 713, 714, 715, 716, 717, 718, 719, 720] [0] _)
      · obtain ⟨g1, h⟩ := gI_gd h
        exact gFr_t (gFr_a (gFr_r [712, 713, 714, 715, 716, 717, 718, 719, 720] [0] _) (.head _) (by decide)) ((hk _ _ h).2.1 _ _ _ _ _ _ rfl) (fun _ z => z) (fun _ z => z)
  · rintro x1 x2 x3 x4 x5 M rfl
    rw [sk_comes_65] at h
    rcases gI_or h with h | h
    · obtain ⟨g5, h⟩ := gI_gd h
      obtain ⟨g6, h⟩ := gI_gd h
      exact gFr_t (gFr_a (gFr_r [712, 713, 714, 715, 716, 717, 718, 719, 720] [0] _) (.tail _ (.head _)) (by decide)) ((hk _ _ h).2.1 _ _ _ _ _ _ rfl) (fun _ z => z) (fun _ z => z)
    · obtain ⟨g3, h⟩ := gI_gd h
      exact gFr_t (gFr_a (gFr_r [712, 713, 714, 715, 716, 717, 718, 719, 720] [0] _) (.tail _ (.tail _ (.tail _ (.tail _ (.head _))))) (by decide)) ((hk _ _ h).2.2 _ _ _ _ _ _ rfl) (fun _ z => z) (fun _ z => z)
  · rintro x1 x2 x3 x4 x5 M rfl
    rw [sk_comes_113] at h
    rcases gI_or h with h | h
    · obtain ⟨g13, h⟩ := gI_gd h
      obtain ⟨g14, h⟩ := gI_gd h
      exact gFr_t (gFr_a (gFr_r [712, 713, 714, 715, 716, 717, 718, 719, 720] [0] _) (.tail _ (.tail _ (.tail _ (.tail _ (.tail _ (.head _)))))) (by decide)) ((hk _ _ h).2.2 _ _ _ _ _ _ rfl) (fun _ z => z) (fun _ z => z)
    · obtain ⟨g8, h⟩ := gI_gd h
      obtain ⟨m168, e168, h⟩ := gI_bd h
      rw [← Option.some.inj h]
      exact (gFr_f (gFr_t (gFr_a (gFr_a (gFr_r [712, 713, 714, 715, 716, 717, 718, 719, 720] [0] _) (.tail _ (.tail _ (.head _))) (by decide)) (.tail _ (.tail _ (.tail _ (.head _)))) (by decide)) (fr_copyTree (b := m168) e168) (by first | decide | simp) (by decide)) (.head _))
theorem fr_comes_3 {M : gM} {x1 x2 x3 x4 : Int} {b : Int × gM} (h : F_comes_3 M x1 x2 x3 x4 = some b) : gFr [712, 713, 714, 715, 716, 717, 718, 719, 720] [0] M b.2 :=
  (frp_comes _ _ h).1 _ _ _ _ _ rfl
theorem fr_comes_65 {M : gM} {x1 x2 x3 x4 x5 : Int} {b : Int × gM} (h : F_comes_65 M x1 x2 x3 x4 x5 = some b) : gFr [712, 713, 714, 715, 716, 717, 718, 719, 720] [0] M b.2 :=
  (frp_comes _ _ h).2.1 _ _ _ _ _ _ rfl
theorem fr_comes_113 {M : gM} {x1 x2 x3 x4 x5 : Int} {b : Int × gM} (h : F_comes_113 M x1 x2 x3 x4 x5 = some b) : gFr [712, 713, 714, 715, 716, 717, 718, 719, 720] [0] M b.2 :=
  (frp_comes _ _ h).2.2 _ _ _ _ _ _ rfl
theorem fr_comes {M : gM} {a1 a2 a3 : Int} {b : Int × gM} (h : F_comes M a1 a2 a3 = some b) : gFr [712, 713, 714, 715, 716, 717, 718, 719, 720] [0] M b.2 := by
  rw [eq_comes] at h
  exact gFr_t (gFr_r [712, 713, 714, 715, 716, 717, 718, 719, 720] [0] _) (fr_comes_3 h) (fun _ z => z) (fun _ z => z)
theorem okp_comes {sh : gS} : ∀ (s : Nat × List Int × gM) (b : Int × gM), gWh (st_comes) s = some b → (∀ (x1 x2 x3 x4 : Int) (M : gM), s = (0, [x1, x2, x3, x4], M) → gOK sh M → gA (gr 4 90) yX12_comes cX12_comes 6 (some (.int)) (gPq sh (some (0, b.1)) b.2) (0, 0) 3 [(4, 711), (0, x1), (0, x2), (0, x3), (0, x4), (9, 0)] [] sh M) ∧ (∀ (x1 x2 x3 x4 x5 : Int) (M : gM), s = (1, [x1, x2, x3, x4, x5], M) → gOK sh M → gA (gr 4 90) yX12_comes cX12_comes 6 (some (.int)) (gPq sh (some (0, b.1)) b.2) (0, 0) 65 [(4, 711), (0, x1), (0, x2), (0, x3), (0, x4), (0, x5)] [] sh M) ∧ (∀ (x1 x2 x3 x4 x5 : Int) (M : gM), s = (2, [x1, x2, x3, x4, x5], M) → gOK sh M → gA (gr 4 90) yX12_comes cX12_comes 6 (some (.int)) (gPq sh (some (0, b.1)) b.2) (0, 0) 113 [(4, 711), (0, x1), (0, x2), (0, x3), (0, x4), (0, x5)] [] sh M) := by
  refine gWh_ind (fun k hk s b h => ⟨?_, ?_, ?_⟩)
  · rintro x1 x2 x3 x4 M rfl hOK
    rw [sk_comes_3] at h
    refine g_iload (q0 := 5) (j := 4) rfl dX12_comes_3 rfl ?_
    refine g_aload_n (q0 := 6) (j := 0) rfl dX12_comes_5 rfl ?_
    refine g_getf (q0 := 9) (t := 0) (fi := 0) rfl rfl ff_X12_178 dX12_comes_6 rfl (sh_711 hOK) ?_
    refine g_icmp_ge (q0 := 12) (tgt := 33) rfl dX12_comes_9 (by decide) (fun h9 => ?_) (fun h9 => ?_)
    · replace h := gI_neg (Int.not_lt.mpr h9) h
      refine g_aload_n (q0 := 34) (j := 0) rfl dX12_comes_33 rfl ?_
      refine g_getf (q0 := 37) (t := 0) (fi := 0) rfl rfl ff_X12_178 dX12_comes_34 rfl (sh_711 hOK) ?_
      refine g_bipush (q0 := 39) rfl dX12_comes_37 (k := ?_)
      refine g_icmp_ne (q0 := 42) (tgt := 45) rfl dX12_comes_39 (by decide) (fun h39 => ?_) (fun h39 => ?_)
      · replace h := gI_neg h39 h
        refine g_aload_n (q0 := 46) (j := 0) rfl dX12_comes_45 rfl ?_
        refine g_getf (q0 := 49) (t := 0) (fi := 0) rfl rfl ff_X12_178 dX12_comes_46 rfl (sh_711 hOK) ?_
        refine g_istore (q0 := 51) (j := 4) (lv2 := [_, _, _, _, _, _]) rfl dX12_comes_49 (by decide) rfl rfl ?_
        refine g_aload_n (q0 := 52) (j := 0) rfl dX12_comes_51 rfl ?_
        refine g_getp (q0 := 55) (b := 712) rfl ff_X12_7 dX12_comes_52 rfl hOK (by decide) (sh_711 hOK) rfl (by decide) ?_
        refine g_iload (q0 := 57) (j := 4) rfl dX12_comes_55 rfl ?_
        refine g_aload_n (q0 := 58) (j := 0) rfl dX12_comes_57 rfl ?_
        refine g_getf (q0 := 61) (t := 0) (fi := 12) rfl rfl ff_X12_186 dX12_comes_58 rfl (sh_711 hOK) ?_
        obtain ⟨g1, h⟩ := gI_gd h
        refine g_iast (q0 := 62) rfl dX12_comes_61 (sh_712 hOK) g1.1 g1.2 ?_
        have hOK2 : gOK sh (gU M 712 (M 711 0) (M 711 12)) := gOK_i hOK (sh_712 hOK)
        refine g_iconst (q0 := 63) rfl dX12_comes_62 (k := ?_)
        refine g_istore (q0 := 65) (j := 5) (lv2 := [_, _, _, _, _, _]) rfl dX12_comes_63 (by decide) rfl rfl ?_
        exact (hk _ _ h).2.1 _ _ _ _ _ _ rfl hOK2
      · replace h := gI_pos h39 h
        refine g_bipush (q0 := 44) rfl dX12_comes_42 (k := ?_)
        rw [← Option.some.inj h]
        refine g_ireturn dX12_comes_44 rfl ⟨Nat.zero_le _, Nat.zero_le _⟩ ?_
        exact ⟨rfl, rfl, rfl⟩
    · replace h := gI_pos h9 h
      refine g_aload_n (q0 := 13) (j := 0) rfl dX12_comes_12 rfl ?_
      refine g_iload (q0 := 15) (j := 4) rfl dX12_comes_13 rfl ?_
      refine g_iload_n (q0 := 16) (j := 1) rfl dX12_comes_15 rfl ?_
      refine g_iload_n (q0 := 17) (j := 2) rfl dX12_comes_16 rfl ?_
      refine g_iload_n (q0 := 18) (j := 3) rfl dX12_comes_17 rfl ?_
      obtain ⟨r18, e18, h⟩ := gI_bd h
      refine g_callVq1 (as := [_, _, _, _]) (rest := []) mt_X12_isSameAs mi_X12_isSameAs se_X12_isSameAs ml_X12_198 dX12_comes_18 (q0 := 21) rfl rfl (sh_711 hOK) rfl rfl (ok_isSameAs hOK e18) rfl ⟨by decide, by decide⟩ (Nat.le_of_ble_eq_true rfl) ⟨Nat.zero_le _, Nat.zero_le _⟩ ?_
      refine g_if_eq (q0 := 24) (tgt := 27) rfl dX12_comes_21 (by decide) (fun h21 => ?_) (fun h21 => ?_)
      · replace h := gI_pos h21 h
        refine g_iincw (q0 := 30) (lv2 := [_, _, _, _, _, _]) rfl dX12_comes_27 rfl (by decide) rfl rfl ?_
        refine g_goto (tgt := 3) dX12_comes_30 (by decide) ?_
        exact (hk _ _ h).1 _ _ _ _ _ rfl hOK
      · replace h := gI_neg h21 h
        refine g_iload (q0 := 26) (j := 4) rfl dX12_comes_24 rfl ?_
        rw [← Option.some.inj h]
        refine g_ireturn dX12_comes_26 rfl ⟨Nat.zero_le _, Nat.zero_le _⟩ ?_
        exact ⟨rfl, rfl, rfl⟩
  · rintro x1 x2 x3 x4 x5 M rfl hOK
    rw [sk_comes_65] at h
    refine g_iload (q0 := 67) (j := 5) rfl dX12_comes_65 rfl ?_
    refine g_aload_n (q0 := 68) (j := 0) rfl dX12_comes_67 rfl ?_
    refine g_getf (q0 := 71) (t := 0) (fi := 12) rfl rfl ff_X12_186 dX12_comes_68 rfl (sh_711 hOK) ?_
    refine g_icmp_ge (q0 := 74) (tgt := 99) rfl dX12_comes_71 (by decide) (fun h71 => ?_) (fun h71 => ?_)
    · replace h := gI_neg (Int.not_lt.mpr h71) h
      refine g_aload_n (q0 := 100) (j := 0) rfl dX12_comes_99 rfl ?_
      refine g_getp (q0 := 103) (b := 716) rfl ff_X12_22 dX12_comes_100 rfl hOK (by decide) (sh_711 hOK) rfl (by decide) ?_
      refine g_iload (q0 := 105) (j := 4) rfl dX12_comes_103 rfl ?_
      refine g_aload_n (q0 := 106) (j := 0) rfl dX12_comes_105 rfl ?_
      refine g_getf (q0 := 109) (t := 0) (fi := 13) rfl rfl ff_X12_189 dX12_comes_106 rfl (sh_711 hOK) ?_
      obtain ⟨g3, h⟩ := gI_gd h
      refine g_iast (q0 := 110) rfl dX12_comes_109 (sh_716 hOK) g3.1 g3.2 ?_
      have hOK4 : gOK sh (gU M 716 x4 (M 711 13)) := gOK_i hOK (sh_716 hOK)
      refine g_iconst (q0 := 111) rfl dX12_comes_110 (k := ?_)
      refine g_istore (q0 := 113) (j := 5) (lv2 := [_, _, _, _, _, _]) rfl dX12_comes_111 (by decide) rfl rfl ?_
      exact (hk _ _ h).2.2 _ _ _ _ _ _ rfl hOK4
    · replace h := gI_pos h71 h
      refine g_aload_n (q0 := 75) (j := 0) rfl dX12_comes_74 rfl ?_
      refine g_getp (q0 := 78) (b := 713) rfl ff_X12_13 dX12_comes_75 rfl hOK (by decide) (sh_711 hOK) rfl (by decide) ?_
      refine g_iconst (q0 := 79) rfl dX12_comes_78 (k := ?_)
      refine g_iload (q0 := 81) (j := 4) rfl dX12_comes_79 rfl ?_
      refine g_imulw (q0 := 82) rfl dX12_comes_81 ?_
      refine g_iload (q0 := 84) (j := 5) rfl dX12_comes_82 rfl ?_
      refine g_iaddw (q0 := 85) rfl dX12_comes_84 ?_
      refine g_aload_n (q0 := 86) (j := 0) rfl dX12_comes_85 rfl ?_
      refine g_getp (q0 := 89) (b := 721) rfl ff_X12_37 dX12_comes_86 rfl hOK (by decide) (sh_711 hOK) rfl (by decide) ?_
      refine g_iload (q0 := 91) (j := 5) rfl dX12_comes_89 rfl ?_
      obtain ⟨g5, h⟩ := gI_gd h
      refine g_iald (q0 := 92) rfl dX12_comes_91 (sh_721 hOK) g5.1 g5.2 ?_
      obtain ⟨g6, h⟩ := gI_gd h
      refine g_iast (q0 := 93) rfl dX12_comes_92 (sh_713 hOK) g6.1 g6.2 ?_
      have hOK7 : gOK sh (gU M 713 (gw32 ((gw32 ((3 : Int) * x4)) + x5)) (M 721 x5)) := gOK_i hOK (sh_713 hOK)
      refine g_iincw (q0 := 96) (lv2 := [_, _, _, _, _, _]) rfl dX12_comes_93 rfl (by decide) rfl rfl ?_
      refine g_goto (tgt := 65) dX12_comes_96 (by decide) ?_
      exact (hk _ _ h).2.1 _ _ _ _ _ _ rfl hOK7
  · rintro x1 x2 x3 x4 x5 M rfl hOK
    rw [sk_comes_113] at h
    refine g_iload (q0 := 115) (j := 5) rfl dX12_comes_113 rfl ?_
    refine g_aload_n (q0 := 116) (j := 0) rfl dX12_comes_115 rfl ?_
    refine g_getf (q0 := 119) (t := 0) (fi := 13) rfl rfl ff_X12_189 dX12_comes_116 rfl (sh_711 hOK) ?_
    refine g_icmp_ge (q0 := 122) (tgt := 148) rfl dX12_comes_119 (by decide) (fun h119 => ?_) (fun h119 => ?_)
    · replace h := gI_neg (Int.not_lt.mpr h119) h
      refine g_aload_n (q0 := 149) (j := 0) rfl dX12_comes_148 rfl ?_
      refine g_getp (q0 := 152) (b := 714) rfl ff_X12_16 dX12_comes_149 rfl hOK (by decide) (sh_711 hOK) rfl (by decide) ?_
      refine g_iload (q0 := 154) (j := 4) rfl dX12_comes_152 rfl ?_
      refine g_iload_n (q0 := 155) (j := 2) rfl dX12_comes_154 rfl ?_
      obtain ⟨g8, h⟩ := gI_gd h
      refine g_iast (q0 := 156) rfl dX12_comes_155 (sh_714 hOK) g8.1 g8.2 ?_
      have hOK9 : gOK sh (gU M 714 x4 x2) := gOK_i hOK (sh_714 hOK)
      refine g_aload_n (q0 := 157) (j := 0) rfl dX12_comes_156 rfl ?_
      refine g_getp (q0 := 160) (b := 715) rfl ff_X12_19 dX12_comes_157 rfl hOK9 (by decide) (sh_711 hOK9) rfl (by decide) ?_
      refine g_iload (q0 := 162) (j := 4) rfl dX12_comes_160 rfl ?_
      refine g_iload_n (q0 := 163) (j := 3) rfl dX12_comes_162 rfl ?_
      refine g_iast (q0 := 164) rfl dX12_comes_163 (sh_715 hOK9) g8.1 g8.2 ?_
      have hOK10 : gOK sh (gU (gU M 714 x4 x2) 715 x4 x3) := gOK_i hOK9 (sh_715 hOK9)
      refine g_aload_n (q0 := 165) (j := 0) rfl dX12_comes_164 rfl ?_
      refine g_iload_n (q0 := 166) (j := 1) rfl dX12_comes_165 rfl ?_
      refine g_iload (q0 := 168) (j := 4) rfl dX12_comes_166 rfl ?_
      obtain ⟨m168, e168, h⟩ := gI_bd h
      refine g_callVq0 (as := [_, _]) (rest := []) mt_X12_copyTree mi_X12_copyTree se_X12_copyTree ml_X12_202 dX12_comes_168 (q0 := 171) rfl rfl (sh_711 hOK10) rfl rfl (ok_copyTree hOK10 e168) rfl ⟨by decide, by decide⟩ (Nat.le_of_ble_eq_true rfl) ⟨Nat.zero_le _, Nat.zero_le _⟩ ?_
      have hOK11 : gOK sh m168 := gOK_fr hOK10 (fr_copyTree (b := m168) e168) (by first | decide | (intro a ha; simp only [List.mem_cons, List.not_mem_nil, or_false] at ha; omega)) (by decide)
      refine g_aload_n (q0 := 172) (j := 0) rfl dX12_comes_171 rfl ?_
      refine g_aload_n (q0 := 173) (j := 0) rfl dX12_comes_172 rfl ?_
      refine g_getf (q0 := 176) (t := 0) (fi := 0) rfl rfl ff_X12_178 dX12_comes_173 rfl (sh_711 hOK11) ?_
      refine g_iconst (q0 := 177) rfl dX12_comes_176 (k := ?_)
      refine g_iaddw (q0 := 178) rfl dX12_comes_177 ?_
      refine g_put (q0 := 181) (t := 0) (fi := 0) rfl rfl ff_X12_178 dX12_comes_178 rfl (sh_711 hOK11) rfl (fun _ => ⟨rfl, rfl⟩) ?_
      have hOK12 : gOK sh (gU m168 711 0 (gw32 ((m168 711 0) + (1 : Int)))) := gOK_o hOK11 (sh_711 hOK11) (f := 0) rfl rfl
      refine g_iload (q0 := 183) (j := 4) rfl dX12_comes_181 rfl ?_
      rw [← Option.some.inj h]
      refine g_ireturn dX12_comes_183 rfl ⟨Nat.zero_le _, Nat.zero_le _⟩ ?_
      exact ⟨rfl, rfl, rfl⟩
    · replace h := gI_pos h119 h
      refine g_aload_n (q0 := 123) (j := 0) rfl dX12_comes_122 rfl ?_
      refine g_getp (q0 := 126) (b := 717) rfl ff_X12_25 dX12_comes_123 rfl hOK (by decide) (sh_711 hOK) rfl (by decide) ?_
      refine g_bipush (q0 := 128) rfl dX12_comes_126 (k := ?_)
      refine g_iload (q0 := 130) (j := 4) rfl dX12_comes_128 rfl ?_
      refine g_imulw (q0 := 131) rfl dX12_comes_130 ?_
      refine g_iload (q0 := 133) (j := 5) rfl dX12_comes_131 rfl ?_
      refine g_iaddw (q0 := 134) rfl dX12_comes_133 ?_
      refine g_aload_n (q0 := 135) (j := 0) rfl dX12_comes_134 rfl ?_
      refine g_getp (q0 := 138) (b := 722) rfl ff_X12_40 dX12_comes_135 rfl hOK (by decide) (sh_711 hOK) rfl (by decide) ?_
      refine g_iload (q0 := 140) (j := 5) rfl dX12_comes_138 rfl ?_
      obtain ⟨g13, h⟩ := gI_gd h
      refine g_iald (q0 := 141) rfl dX12_comes_140 (sh_722 hOK) g13.1 g13.2 ?_
      obtain ⟨g14, h⟩ := gI_gd h
      refine g_iast (q0 := 142) rfl dX12_comes_141 (sh_717 hOK) g14.1 g14.2 ?_
      have hOK15 : gOK sh (gU M 717 (gw32 ((gw32 ((24 : Int) * x4)) + x5)) (M 722 x5)) := gOK_i hOK (sh_717 hOK)
      refine g_iincw (q0 := 145) (lv2 := [_, _, _, _, _, _]) rfl dX12_comes_142 rfl (by decide) rfl rfl ?_
      refine g_goto (tgt := 113) dX12_comes_145 (by decide) ?_
      exact (hk _ _ h).2.2 _ _ _ _ _ _ rfl hOK15
theorem ok_comes_3 {sh : gS} {M : gM} {x1 x2 x3 x4 : Int} {b : Int × gM} (hOK : gOK sh M) (h : F_comes_3 M x1 x2 x3 x4 = some b) : gA (gr 4 90) yX12_comes cX12_comes 6 (some (.int)) (gPq sh (some (0, b.1)) b.2) (0, 0) 3 [(4, 711), (0, x1), (0, x2), (0, x3), (0, x4), (9, 0)] [] sh M :=
  (okp_comes _ _ h).1 _ _ _ _ _ rfl hOK
theorem ok_comes_65 {sh : gS} {M : gM} {x1 x2 x3 x4 x5 : Int} {b : Int × gM} (hOK : gOK sh M) (h : F_comes_65 M x1 x2 x3 x4 x5 = some b) : gA (gr 4 90) yX12_comes cX12_comes 6 (some (.int)) (gPq sh (some (0, b.1)) b.2) (0, 0) 65 [(4, 711), (0, x1), (0, x2), (0, x3), (0, x4), (0, x5)] [] sh M :=
  (okp_comes _ _ h).2.1 _ _ _ _ _ _ rfl hOK
theorem ok_comes_113 {sh : gS} {M : gM} {x1 x2 x3 x4 x5 : Int} {b : Int × gM} (hOK : gOK sh M) (h : F_comes_113 M x1 x2 x3 x4 x5 = some b) : gA (gr 4 90) yX12_comes cX12_comes 6 (some (.int)) (gPq sh (some (0, b.1)) b.2) (0, 0) 113 [(4, 711), (0, x1), (0, x2), (0, x3), (0, x4), (0, x5)] [] sh M :=
  (okp_comes _ _ h).2.2 _ _ _ _ _ _ rfl hOK
theorem ok_comes {sh : gS} {M : gM} {a1 a2 a3 : Int} {b : Int × gM} (hOK : gOK sh M) (h : F_comes M a1 a2 a3 = some b) : gC (gr 4 90) yX12_comes cX12_comes 6 (some (.int)) [(4, 711), (0, a1), (0, a2), (0, a3)] sh M (gPq sh (some (0, b.1)) b.2) := by
  rw [eq_comes] at h
  refine gC_ofA (lv := [_, _, _, _, _, _]) (by decide +kernel) (Nat.le_of_ble_eq_true rfl) rfl (fun hMw hav => ?_)
  refine g_iconst (q0 := 1) rfl dX12_comes_0 (k := ?_)
  refine g_istore (q0 := 3) (j := 4) (lv2 := [_, _, _, _, _, _]) rfl dX12_comes_1 (by decide) rfl rfl ?_
  exact ok_comes_3 hOK h
-- ==== clears
theorem dX12_clears_0 : decode cX12_clears 0 = .ok (.iconst 0, 1) := by decide +kernel
theorem dX12_clears_1 : decode cX12_clears 1 = .ok (.istore_n 1, 1) := by decide +kernel
theorem dX12_clears_2 : decode cX12_clears 2 = .ok (.iload_n 1, 1) := by decide +kernel
theorem dX12_clears_3 : decode cX12_clears 3 = .ok (.bipush 120, 2) := by decide +kernel
theorem dX12_clears_5 : decode cX12_clears 5 = .ok (.if_icmp .ge 13, 3) := by decide +kernel
theorem dX12_clears_8 : decode cX12_clears 8 = .ok (.aload_n 0, 1) := by decide +kernel
theorem dX12_clears_9 : decode cX12_clears 9 = .ok (.iload_n 1, 1) := by decide +kernel
theorem dX12_clears_10 : decode cX12_clears 10 = .ok (.iconst 0, 1) := by decide +kernel
theorem dX12_clears_11 : decode cX12_clears 11 = .ok (.bastore, 1) := by decide +kernel
theorem dX12_clears_12 : decode cX12_clears 12 = .ok (.iinc 1 1, 3) := by decide +kernel
theorem dX12_clears_15 : decode cX12_clears 15 = .ok (.goto (-13), 3) := by decide +kernel
theorem dX12_clears_18 : decode cX12_clears 18 = .ok (.return_, 1) := by decide +kernel
noncomputable def st_clears : Nat × List Int × gM → Option ((Nat × List Int × gM) ⊕ (gM))
  | (0, [a0, x1], M) => (if gRw a0 then
      (if x1 < 120 then
        (if 0 ≤ x1 ∧ x1 < 120 then
          some (.inl (0, [a0, (gw32 (x1 + 1))], (gU M a0 x1 0)))
        else none)
      else
        some (.inr M))
    else none)
  | _ => none
theorem sk_clears_2 (k : Nat × List Int × gM → Option (gM)) (M : gM) (a0 x1 : Int) : gWk k (st_clears (0, [a0, x1], M)) = (if gRw a0 then
    (if x1 < 120 then
      (if 0 ≤ x1 ∧ x1 < 120 then
        k (0, [a0, (gw32 (x1 + 1))], (gU M a0 x1 0))
      else none)
    else
      some M)
  else none) := by
  simp only [st_clears, gWk_ite, gWk_bind, gWk_inl, gWk_inr, gWk_none]
noncomputable def F_clears_2 (M : gM) (a0 x1 : Int) : Option (gM) := gWh (st_clears) (0, [a0, x1], M)
theorem eq_clears_2 (M : gM) (a0 x1 : Int) : F_clears_2 M a0 x1 = (if gRw a0 then
    (if x1 < 120 then
      (if 0 ≤ x1 ∧ x1 < 120 then
        F_clears_2 (gU M a0 x1 0) a0 (gw32 (x1 + 1))
      else none)
    else
      some M)
  else none) := (gWh_eq _).trans (sk_clears_2 _ M a0 x1)
noncomputable def F_clears (M : gM) (a0 : Int) : Option (gM) := (if gRw a0 then
    F_clears_2 M a0 0
  else none)
theorem eq_clears (M : gM) (a0 : Int) : F_clears M a0 = (if gRw a0 then
    F_clears_2 M a0 0
  else none) := rfl
theorem frp_clears : ∀ (s : Nat × List Int × gM) (b : gM), gWh (st_clears) s = some b → (∀ (a0 x1 : Int) (M : gM), s = (0, [a0, x1], M) → gFr [a0] [] M b) := by
  refine gWh_ind (fun k hk s b h => ?_)
  · rintro a0 x1 M rfl
    rw [sk_clears_2] at h
    obtain ⟨gr_a0, h⟩ := gI_gd h
    rcases gI_or h with h | h
    · obtain ⟨g1, h⟩ := gI_gd h
      exact gFr_t (gFr_a (gFr_r [a0] [] _ (by simp; omega)) (.head _) (by omega)) ((hk _ _ h) _ _ _ rfl) (fun _ z => z) (fun _ z => z)
    · rw [← Option.some.inj h]
      exact (gFr_r [a0] [] _ (by simp; omega))
theorem fr_clears_2 {M : gM} {a0 x1 : Int} {b : gM} (h : F_clears_2 M a0 x1 = some b) : gFr [a0] [] M b :=
  (frp_clears _ _ h) _ _ _ rfl
theorem fr_clears {M : gM} {a0 : Int} {b : gM} (h : F_clears M a0 = some b) : gFr [a0] [] M b := by
  rw [eq_clears] at h
  obtain ⟨gr_a0, h⟩ := gI_gd h
  exact gFr_t (gFr_r [a0] [] _ (by simp; omega)) (fr_clears_2 h) (fun _ z => z) (fun _ z => z)
theorem okp_clears {sh : gS} : ∀ (s : Nat × List Int × gM) (b : gM), gWh (st_clears) s = some b → (∀ (a0 x1 : Int) (M : gM), s = (0, [a0, x1], M) → gOK sh M → gA (gr 0 0) yX12_clears cX12_clears 2 none (gPq sh none b) (0, 0) 2 [(4, a0), (0, x1)] [] sh M) := by
  refine gWh_ind (fun k hk s b h => ?_)
  · rintro a0 x1 M rfl hOK
    rw [sk_clears_2] at h
    obtain ⟨gr_a0, h⟩ := gI_gd h
    refine g_iload_n (q0 := 3) (j := 1) rfl dX12_clears_2 rfl ?_
    refine g_bipush (q0 := 5) rfl dX12_clears_3 (k := ?_)
    refine g_icmp_ge (q0 := 8) (tgt := 18) rfl dX12_clears_5 (by decide) (fun h5 => ?_) (fun h5 => ?_)
    · replace h := gI_neg (Int.not_lt.mpr h5) h
      rw [← Option.some.inj h]
      refine g_return dX12_clears_18 rfl ⟨Nat.zero_le _, Nat.zero_le _⟩ ?_
      exact ⟨rfl, rfl, rfl⟩
    · replace h := gI_pos h5 h
      refine g_aload_n (q0 := 9) (j := 0) rfl dX12_clears_8 rfl ?_
      refine g_iload_n (q0 := 10) (j := 1) rfl dX12_clears_9 rfl ?_
      refine g_iconst (q0 := 11) rfl dX12_clears_10 (k := ?_)
      obtain ⟨g1, h⟩ := gI_gd h
      refine g_zast (q0 := 12) rfl dX12_clears_11 (gRw_sh hOK gr_a0) g1.1 g1.2 (Or.inl rfl) ?_
      have hOK2 : gOK sh (gU M a0 x1 0) := gOK_z hOK (gRw_sh hOK gr_a0)
      refine g_iincw (q0 := 15) (lv2 := [_, _]) rfl dX12_clears_12 rfl (by decide) rfl rfl ?_
      refine g_goto (tgt := 2) dX12_clears_15 (by decide) ?_
      exact (hk _ _ h) _ _ _ rfl hOK2
theorem ok_clears_2 {sh : gS} {M : gM} {a0 x1 : Int} {b : gM} (hOK : gOK sh M) (h : F_clears_2 M a0 x1 = some b) : gA (gr 0 0) yX12_clears cX12_clears 2 none (gPq sh none b) (0, 0) 2 [(4, a0), (0, x1)] [] sh M :=
  (okp_clears _ _ h) _ _ _ rfl hOK
theorem ok_clears {sh : gS} {M : gM} {a0 : Int} {b : gM} (hOK : gOK sh M) (h : F_clears M a0 = some b) : gC (gr 0 0) yX12_clears cX12_clears 2 none [(4, a0)] sh M (gPq sh none b) := by
  rw [eq_clears] at h
  refine gC_ofA (lv := [_, _]) (by decide +kernel) (Nat.le_of_ble_eq_true rfl) rfl (fun hMw hav => ?_)
  obtain ⟨gr_a0, h⟩ := gI_gd h
  refine g_iconst (q0 := 1) rfl dX12_clears_0 (k := ?_)
  refine g_istore_n (q0 := 2) (j := 1) (lv2 := [_, _]) rfl dX12_clears_1 (by decide) rfl rfl ?_
  exact ok_clears_2 hOK h
-- ==== walksBack
theorem dX12_walksBack_0 : decode cX12_walksBack 0 = .ok (.aload_n 0, 1) := by decide +kernel
theorem dX12_walksBack_1 : decode cX12_walksBack 1 = .ok (.getfield 178, 3) := by decide +kernel
theorem dX12_walksBack_4 : decode cX12_walksBack 4 = .ok (.iconst 1, 1) := by decide +kernel
theorem dX12_walksBack_5 : decode cX12_walksBack 5 = .ok (.isub, 1) := by decide +kernel
theorem dX12_walksBack_6 : decode cX12_walksBack 6 = .ok (.istore_n 2, 1) := by decide +kernel
theorem dX12_walksBack_7 : decode cX12_walksBack 7 = .ok (.iload_n 2, 1) := by decide +kernel
theorem dX12_walksBack_8 : decode cX12_walksBack 8 = .ok (.ifCond .lt 42, 3) := by decide +kernel
theorem dX12_walksBack_11 : decode cX12_walksBack 11 = .ok (.iconst 0, 1) := by decide +kernel
theorem dX12_walksBack_12 : decode cX12_walksBack 12 = .ok (.istore_n 3, 1) := by decide +kernel
theorem dX12_walksBack_13 : decode cX12_walksBack 13 = .ok (.iload_n 3, 1) := by decide +kernel
theorem dX12_walksBack_14 : decode cX12_walksBack 14 = .ok (.aload_n 0, 1) := by decide +kernel
theorem dX12_walksBack_15 : decode cX12_walksBack 15 = .ok (.getfield 7, 3) := by decide +kernel
theorem dX12_walksBack_18 : decode cX12_walksBack 18 = .ok (.iload_n 2, 1) := by decide +kernel
theorem dX12_walksBack_19 : decode cX12_walksBack 19 = .ok (.iaload, 1) := by decide +kernel
theorem dX12_walksBack_20 : decode cX12_walksBack 20 = .ok (.if_icmp .ge 24, 3) := by decide +kernel
theorem dX12_walksBack_23 : decode cX12_walksBack 23 = .ok (.aload_n 1, 1) := by decide +kernel
theorem dX12_walksBack_24 : decode cX12_walksBack 24 = .ok (.iload_n 2, 1) := by decide +kernel
theorem dX12_walksBack_25 : decode cX12_walksBack 25 = .ok (.baload, 1) := by decide +kernel
theorem dX12_walksBack_26 : decode cX12_walksBack 26 = .ok (.ifCond .eq 18, 3) := by decide +kernel
theorem dX12_walksBack_29 : decode cX12_walksBack 29 = .ok (.aload_n 1, 1) := by decide +kernel
theorem dX12_walksBack_30 : decode cX12_walksBack 30 = .ok (.aload_n 0, 1) := by decide +kernel
theorem dX12_walksBack_31 : decode cX12_walksBack 31 = .ok (.iload_n 2, 1) := by decide +kernel
theorem dX12_walksBack_32 : decode cX12_walksBack 32 = .ok (.iload_n 3, 1) := by decide +kernel
theorem dX12_walksBack_33 : decode cX12_walksBack 33 = .ok (.invokevirtual 192, 3) := by decide +kernel
theorem dX12_walksBack_36 : decode cX12_walksBack 36 = .ok (.iconst 1, 1) := by decide +kernel
theorem dX12_walksBack_37 : decode cX12_walksBack 37 = .ok (.bastore, 1) := by decide +kernel
theorem dX12_walksBack_38 : decode cX12_walksBack 38 = .ok (.iinc 3 1, 3) := by decide +kernel
theorem dX12_walksBack_41 : decode cX12_walksBack 41 = .ok (.goto (-28), 3) := by decide +kernel
theorem dX12_walksBack_44 : decode cX12_walksBack 44 = .ok (.iinc 2 (-1), 3) := by decide +kernel
theorem dX12_walksBack_47 : decode cX12_walksBack 47 = .ok (.goto (-40), 3) := by decide +kernel
theorem dX12_walksBack_50 : decode cX12_walksBack 50 = .ok (.return_, 1) := by decide +kernel
noncomputable def st_walksBack : Nat × List Int × gM → Option ((Nat × List Int × gM) ⊕ (gM))
  | (0, [a1, x2], M) => (if gRw a1 then
      (if x2 < 0 then
        some (.inr M)
      else
        some (.inl (1, [a1, x2, 0], M)))
    else none)
  | (1, [a1, x2, x3], M) => (if gRw a1 then
      (if 0 ≤ x2 ∧ x2 < 120 then
        (if x3 < (M 712 x2) then
          (if (M a1 x2) = 0 then
            some (.inl (0, [a1, (gw32 (x2 + (-1)))], M))
          else
            (Option.bind (F_parentAt M x2 x3) (fun r33 =>
              (if 0 ≤ r33 ∧ r33 < 120 then
                some (.inl (1, [a1, x2, (gw32 (x3 + 1))], (gU M a1 r33 1)))
              else none))))
        else
          some (.inl (0, [a1, (gw32 (x2 + (-1)))], M)))
      else none)
    else none)
  | _ => none
theorem sk_walksBack_7 (k : Nat × List Int × gM → Option (gM)) (M : gM) (a1 x2 : Int) : gWk k (st_walksBack (0, [a1, x2], M)) = (if gRw a1 then
    (if x2 < 0 then
      some M
    else
      k (1, [a1, x2, 0], M))
  else none) := by
  simp only [st_walksBack, gWk_ite, gWk_bind, gWk_inl, gWk_inr, gWk_none]
theorem sk_walksBack_13 (k : Nat × List Int × gM → Option (gM)) (M : gM) (a1 x2 x3 : Int) : gWk k (st_walksBack (1, [a1, x2, x3], M)) = (if gRw a1 then
    (if 0 ≤ x2 ∧ x2 < 120 then
      (if x3 < (M 712 x2) then
        (if (M a1 x2) = 0 then
          k (0, [a1, (gw32 (x2 + (-1)))], M)
        else
          (Option.bind (F_parentAt M x2 x3) (fun r33 =>
            (if 0 ≤ r33 ∧ r33 < 120 then
              k (1, [a1, x2, (gw32 (x3 + 1))], (gU M a1 r33 1))
            else none))))
      else
        k (0, [a1, (gw32 (x2 + (-1)))], M))
    else none)
  else none) := by
  simp only [st_walksBack, gWk_ite, gWk_bind, gWk_inl, gWk_inr, gWk_none]
noncomputable def F_walksBack_7 (M : gM) (a1 x2 : Int) : Option (gM) := gWh (st_walksBack) (0, [a1, x2], M)
noncomputable def F_walksBack_13 (M : gM) (a1 x2 x3 : Int) : Option (gM) := gWh (st_walksBack) (1, [a1, x2, x3], M)
theorem eq_walksBack_7 (M : gM) (a1 x2 : Int) : F_walksBack_7 M a1 x2 = (if gRw a1 then
    (if x2 < 0 then
      some M
    else
      F_walksBack_13 M a1 x2 0)
  else none) := (gWh_eq _).trans (sk_walksBack_7 _ M a1 x2)
theorem eq_walksBack_13 (M : gM) (a1 x2 x3 : Int) : F_walksBack_13 M a1 x2 x3 = (if gRw a1 then
    (if 0 ≤ x2 ∧ x2 < 120 then
      (if x3 < (M 712 x2) then
        (if (M a1 x2) = 0 then
          F_walksBack_7 M a1 (gw32 (x2 + (-1)))
        else
          (Option.bind (F_parentAt M x2 x3) (fun r33 =>
            (if 0 ≤ r33 ∧ r33 < 120 then
              F_walksBack_13 (gU M a1 r33 1) a1 x2 (gw32 (x3 + 1))
            else none))))
      else
        F_walksBack_7 M a1 (gw32 (x2 + (-1))))
    else none)
  else none) := (gWh_eq _).trans (sk_walksBack_13 _ M a1 x2 x3)
noncomputable def F_walksBack (M : gM) (a1 : Int) : Option (gM) := (if gRw a1 then
    F_walksBack_7 M a1 (gw32 ((M 711 0) - (1 : Int)))
  else none)
theorem eq_walksBack (M : gM) (a1 : Int) : F_walksBack M a1 = (if gRw a1 then
    F_walksBack_7 M a1 (gw32 ((M 711 0) - (1 : Int)))
  else none) := rfl
theorem frp_walksBack : ∀ (s : Nat × List Int × gM) (b : gM), gWh (st_walksBack) s = some b → (∀ (a1 x2 : Int) (M : gM), s = (0, [a1, x2], M) → gFr [a1] [] M b) ∧ (∀ (a1 x2 x3 : Int) (M : gM), s = (1, [a1, x2, x3], M) → gFr [a1] [] M b) := by
  refine gWh_ind (fun k hk s b h => ⟨?_, ?_⟩)
  · rintro a1 x2 M rfl
    rw [sk_walksBack_7] at h
    obtain ⟨gr_a1, h⟩ := gI_gd h
    rcases gI_or h with h | h
    · rw [← Option.some.inj h]
      exact (gFr_r [a1] [] _ (by simp; omega))
    · exact gFr_t (gFr_r [a1] [] _ (by simp; omega)) ((hk _ _ h).2 _ _ _ _ rfl) (fun _ z => z) (fun _ z => z)
  · rintro a1 x2 x3 M rfl
    rw [sk_walksBack_13] at h
    obtain ⟨gr_a1, h⟩ := gI_gd h
    obtain ⟨g1, h⟩ := gI_gd h
    rcases gI_or h with h | h
    · rcases gI_or h with h | h
      · exact gFr_t (gFr_r [a1] [] _ (by simp; omega)) ((hk _ _ h).1 _ _ _ rfl) (fun _ z => z) (fun _ z => z)
      · obtain ⟨r33, e33, h⟩ := gI_bd h
        obtain ⟨g2, h⟩ := gI_gd h
        exact gFr_t (gFr_a (gFr_r [a1] [] _ (by simp; omega)) (.head _) (by omega)) ((hk _ _ h).2 _ _ _ _ rfl) (fun _ z => z) (fun _ z => z)
    · exact gFr_t (gFr_r [a1] [] _ (by simp; omega)) ((hk _ _ h).1 _ _ _ rfl) (fun _ z => z) (fun _ z => z)
theorem fr_walksBack_7 {M : gM} {a1 x2 : Int} {b : gM} (h : F_walksBack_7 M a1 x2 = some b) : gFr [a1] [] M b :=
  (frp_walksBack _ _ h).1 _ _ _ rfl
theorem fr_walksBack_13 {M : gM} {a1 x2 x3 : Int} {b : gM} (h : F_walksBack_13 M a1 x2 x3 = some b) : gFr [a1] [] M b :=
  (frp_walksBack _ _ h).2 _ _ _ _ rfl
theorem fr_walksBack {M : gM} {a1 : Int} {b : gM} (h : F_walksBack M a1 = some b) : gFr [a1] [] M b := by
  rw [eq_walksBack] at h
  obtain ⟨gr_a1, h⟩ := gI_gd h
  exact gFr_t (gFr_r [a1] [] _ (by simp; omega)) (fr_walksBack_7 h) (fun _ z => z) (fun _ z => z)
theorem okp_walksBack {sh : gS} : ∀ (s : Nat × List Int × gM) (b : gM), gWh (st_walksBack) s = some b → (∀ (a1 x2 : Int) (M : gM), s = (0, [a1, x2], M) → gOK sh M → gA (gr 1 22) yX12_walksBack cX12_walksBack 4 none (gPq sh none b) (0, 0) 7 [(4, 711), (4, a1), (0, x2), (9, 0)] [] sh M) ∧ (∀ (a1 x2 x3 : Int) (M : gM), s = (1, [a1, x2, x3], M) → gOK sh M → gA (gr 1 22) yX12_walksBack cX12_walksBack 4 none (gPq sh none b) (0, 0) 13 [(4, 711), (4, a1), (0, x2), (0, x3)] [] sh M) := by
  refine gWh_ind (fun k hk s b h => ⟨?_, ?_⟩)
  · rintro a1 x2 M rfl hOK
    rw [sk_walksBack_7] at h
    obtain ⟨gr_a1, h⟩ := gI_gd h
    refine g_iload_n (q0 := 8) (j := 2) rfl dX12_walksBack_7 rfl ?_
    refine g_if_lt (q0 := 11) (tgt := 50) rfl dX12_walksBack_8 (by decide) (fun h8 => ?_) (fun h8 => ?_)
    · replace h := gI_pos h8 h
      rw [← Option.some.inj h]
      refine g_return dX12_walksBack_50 rfl ⟨Nat.zero_le _, Nat.zero_le _⟩ ?_
      exact ⟨rfl, rfl, rfl⟩
    · replace h := gI_neg (Int.not_lt.mpr h8) h
      refine g_iconst (q0 := 12) rfl dX12_walksBack_11 (k := ?_)
      refine g_istore_n (q0 := 13) (j := 3) (lv2 := [_, _, _, _]) rfl dX12_walksBack_12 (by decide) rfl rfl ?_
      exact (hk _ _ h).2 _ _ _ _ rfl hOK
  · rintro a1 x2 x3 M rfl hOK
    rw [sk_walksBack_13] at h
    obtain ⟨gr_a1, h⟩ := gI_gd h
    refine g_iload_n (q0 := 14) (j := 3) rfl dX12_walksBack_13 rfl ?_
    refine g_aload_n (q0 := 15) (j := 0) rfl dX12_walksBack_14 rfl ?_
    refine g_getp (q0 := 18) (b := 712) rfl ff_X12_7 dX12_walksBack_15 rfl hOK (by decide) (sh_711 hOK) rfl (by decide) ?_
    refine g_iload_n (q0 := 19) (j := 2) rfl dX12_walksBack_18 rfl ?_
    obtain ⟨g1, h⟩ := gI_gd h
    refine g_iald (q0 := 20) rfl dX12_walksBack_19 (sh_712 hOK) g1.1 g1.2 ?_
    refine g_icmp_ge (q0 := 23) (tgt := 44) rfl dX12_walksBack_20 (by decide) (fun h20 => ?_) (fun h20 => ?_)
    · replace h := gI_neg (Int.not_lt.mpr h20) h
      refine g_iincw (q0 := 47) (lv2 := [_, _, _, _]) rfl dX12_walksBack_44 rfl (by decide) rfl rfl ?_
      refine g_goto (tgt := 7) dX12_walksBack_47 (by decide) ?_
      refine gA_jk (lv1 := [_, _, _, (9, 0)]) ⟨.inl rfl, .inl rfl, .inl rfl, .inr rfl, trivial⟩ ?_
      exact (hk _ _ h).1 _ _ _ rfl hOK
    · replace h := gI_pos h20 h
      refine g_aload_n (q0 := 24) (j := 1) rfl dX12_walksBack_23 rfl ?_
      refine g_iload_n (q0 := 25) (j := 2) rfl dX12_walksBack_24 rfl ?_
      refine g_zald (q0 := 26) rfl dX12_walksBack_25 (gRw_sh hOK gr_a1) g1.1 g1.2 ?_
      refine g_if_eq (q0 := 29) (tgt := 44) rfl dX12_walksBack_26 (by decide) (fun h26 => ?_) (fun h26 => ?_)
      · replace h := gI_pos h26 h
        refine g_iincw (q0 := 47) (lv2 := [_, _, _, _]) rfl dX12_walksBack_44 rfl (by decide) rfl rfl ?_
        refine g_goto (tgt := 7) dX12_walksBack_47 (by decide) ?_
        refine gA_jk (lv1 := [_, _, _, (9, 0)]) ⟨.inl rfl, .inl rfl, .inl rfl, .inr rfl, trivial⟩ ?_
        exact (hk _ _ h).1 _ _ _ rfl hOK
      · replace h := gI_neg h26 h
        refine g_aload_n (q0 := 30) (j := 1) rfl dX12_walksBack_29 rfl ?_
        refine g_aload_n (q0 := 31) (j := 0) rfl dX12_walksBack_30 rfl ?_
        refine g_iload_n (q0 := 32) (j := 2) rfl dX12_walksBack_31 rfl ?_
        refine g_iload_n (q0 := 33) (j := 3) rfl dX12_walksBack_32 rfl ?_
        obtain ⟨r33, e33, h⟩ := gI_bd h
        refine g_callVq1 (as := [_, _]) (rest := [_]) mt_X12_parentAt mi_X12_parentAt se_X12_parentAt ml_X12_192 dX12_walksBack_33 (q0 := 36) rfl rfl (sh_711 hOK) rfl rfl (ok_parentAt hOK e33) rfl ⟨by decide, by decide⟩ (Nat.le_of_ble_eq_true rfl) ⟨Nat.zero_le _, Nat.zero_le _⟩ ?_
        refine g_iconst (q0 := 37) rfl dX12_walksBack_36 (k := ?_)
        obtain ⟨g2, h⟩ := gI_gd h
        refine g_zast (q0 := 38) rfl dX12_walksBack_37 (gRw_sh hOK gr_a1) g2.1 g2.2 (Or.inr rfl) ?_
        have hOK3 : gOK sh (gU M a1 r33 1) := gOK_z hOK (gRw_sh hOK gr_a1)
        refine g_iincw (q0 := 41) (lv2 := [_, _, _, _]) rfl dX12_walksBack_38 rfl (by decide) rfl rfl ?_
        refine g_goto (tgt := 13) dX12_walksBack_41 (by decide) ?_
        exact (hk _ _ h).2 _ _ _ _ rfl hOK3
theorem ok_walksBack_7 {sh : gS} {M : gM} {a1 x2 : Int} {b : gM} (hOK : gOK sh M) (h : F_walksBack_7 M a1 x2 = some b) : gA (gr 1 22) yX12_walksBack cX12_walksBack 4 none (gPq sh none b) (0, 0) 7 [(4, 711), (4, a1), (0, x2), (9, 0)] [] sh M :=
  (okp_walksBack _ _ h).1 _ _ _ rfl hOK
theorem ok_walksBack_13 {sh : gS} {M : gM} {a1 x2 x3 : Int} {b : gM} (hOK : gOK sh M) (h : F_walksBack_13 M a1 x2 x3 = some b) : gA (gr 1 22) yX12_walksBack cX12_walksBack 4 none (gPq sh none b) (0, 0) 13 [(4, 711), (4, a1), (0, x2), (0, x3)] [] sh M :=
  (okp_walksBack _ _ h).2 _ _ _ _ rfl hOK
theorem ok_walksBack {sh : gS} {M : gM} {a1 : Int} {b : gM} (hOK : gOK sh M) (h : F_walksBack M a1 = some b) : gC (gr 1 22) yX12_walksBack cX12_walksBack 4 none [(4, 711), (4, a1)] sh M (gPq sh none b) := by
  rw [eq_walksBack] at h
  refine gC_ofA (lv := [_, _, _, _]) (by decide +kernel) (Nat.le_of_ble_eq_true rfl) rfl (fun hMw hav => ?_)
  obtain ⟨gr_a1, h⟩ := gI_gd h
  refine g_aload_n (q0 := 1) (j := 0) rfl dX12_walksBack_0 rfl ?_
  refine g_getf (q0 := 4) (t := 0) (fi := 0) rfl rfl ff_X12_178 dX12_walksBack_1 rfl (sh_711 hOK) ?_
  refine g_iconst (q0 := 5) rfl dX12_walksBack_4 (k := ?_)
  refine g_isubw (q0 := 6) rfl dX12_walksBack_5 ?_
  refine g_istore_n (q0 := 7) (j := 2) (lv2 := [_, _, _, _]) rfl dX12_walksBack_6 (by decide) rfl rfl ?_
  exact ok_walksBack_7 hOK h
-- ==== marksWithAncestors
theorem dX12_marksWithAncestors_0 : decode cX12_marksWithAncestors 0 = .ok (.aload_n 1, 1) := by decide +kernel
theorem dX12_marksWithAncestors_1 : decode cX12_marksWithAncestors 1 = .ok (.invokestatic 206, 3) := by decide +kernel
theorem dX12_marksWithAncestors_4 : decode cX12_marksWithAncestors 4 = .ok (.aload_n 1, 1) := by decide +kernel
theorem dX12_marksWithAncestors_5 : decode cX12_marksWithAncestors 5 = .ok (.iload_n 2, 1) := by decide +kernel
theorem dX12_marksWithAncestors_6 : decode cX12_marksWithAncestors 6 = .ok (.iconst 1, 1) := by decide +kernel
theorem dX12_marksWithAncestors_7 : decode cX12_marksWithAncestors 7 = .ok (.bastore, 1) := by decide +kernel
theorem dX12_marksWithAncestors_8 : decode cX12_marksWithAncestors 8 = .ok (.aload_n 0, 1) := by decide +kernel
theorem dX12_marksWithAncestors_9 : decode cX12_marksWithAncestors 9 = .ok (.aload_n 1, 1) := by decide +kernel
theorem dX12_marksWithAncestors_10 : decode cX12_marksWithAncestors 10 = .ok (.invokevirtual 210, 3) := by decide +kernel
theorem dX12_marksWithAncestors_13 : decode cX12_marksWithAncestors 13 = .ok (.return_, 1) := by decide +kernel
noncomputable def F_marksWithAncestors (M : gM) (a1 a2 : Int) : Option (gM) := (if gRw a1 then
    (Option.bind (F_clears M a1) (fun m1 =>
      (if 0 ≤ a2 ∧ a2 < 120 then
        (Option.bind (F_walksBack (gU m1 a1 a2 1) a1) (fun m10 =>
          some m10))
      else none)))
  else none)
theorem eq_marksWithAncestors (M : gM) (a1 a2 : Int) : F_marksWithAncestors M a1 a2 = (if gRw a1 then
    (Option.bind (F_clears M a1) (fun m1 =>
      (if 0 ≤ a2 ∧ a2 < 120 then
        (Option.bind (F_walksBack (gU m1 a1 a2 1) a1) (fun m10 =>
          some m10))
      else none)))
  else none) := rfl
theorem fr_marksWithAncestors {M : gM} {a1 a2 : Int} {b : gM} (h : F_marksWithAncestors M a1 a2 = some b) : gFr [a1] [] M b := by
  rw [eq_marksWithAncestors] at h
  obtain ⟨gr_a1, h⟩ := gI_gd h
  obtain ⟨m1, e1, h⟩ := gI_bd h
  obtain ⟨g2, h⟩ := gI_gd h
  obtain ⟨m10, e10, h⟩ := gI_bd h
  rw [← Option.some.inj h]
  exact (gFr_t (gFr_a (gFr_t (gFr_r [a1] [] _ (by simp; omega)) (fr_clears (b := m1) e1) (by first | decide | simp) (by decide)) (.head _) (by omega)) (fr_walksBack (b := m10) e10) (by first | decide | simp) (by decide))
theorem ok_marksWithAncestors {sh : gS} {M : gM} {a1 a2 : Int} {b : gM} (hOK : gOK sh M) (h : F_marksWithAncestors M a1 a2 = some b) : gC (gr 2 45) yX12_marksWithAncestors cX12_marksWithAncestors 3 none [(4, 711), (4, a1), (0, a2)] sh M (gPq sh none b) := by
  rw [eq_marksWithAncestors] at h
  refine gC_ofA (lv := [_, _, _]) (by decide +kernel) (Nat.le_of_ble_eq_true rfl) rfl (fun hMw hav => ?_)
  obtain ⟨gr_a1, h⟩ := gI_gd h
  refine g_aload_n (q0 := 1) (j := 1) rfl dX12_marksWithAncestors_0 rfl ?_
  obtain ⟨m1, e1, h⟩ := gI_bd h
  refine g_callSq0 (as := [_]) (rest := []) mt_X12_clears ms_X12_clears ml_X12_206 dX12_marksWithAncestors_1 (q0 := 4) rfl rfl (ok_clears hOK e1) rfl ⟨by decide, by decide⟩ (Nat.le_of_ble_eq_true rfl) ⟨Nat.zero_le _, Nat.zero_le _⟩ ?_
  have hOK1 : gOK sh m1 := gOK_fr hOK (fr_clears (b := m1) e1) (by first | decide | (intro a ha; simp only [List.mem_cons, List.not_mem_nil, or_false] at ha; omega)) (by decide)
  refine g_aload_n (q0 := 5) (j := 1) rfl dX12_marksWithAncestors_4 rfl ?_
  refine g_iload_n (q0 := 6) (j := 2) rfl dX12_marksWithAncestors_5 rfl ?_
  refine g_iconst (q0 := 7) rfl dX12_marksWithAncestors_6 (k := ?_)
  obtain ⟨g2, h⟩ := gI_gd h
  refine g_zast (q0 := 8) rfl dX12_marksWithAncestors_7 (gRw_sh hOK1 gr_a1) g2.1 g2.2 (Or.inr rfl) ?_
  have hOK3 : gOK sh (gU m1 a1 a2 1) := gOK_z hOK1 (gRw_sh hOK1 gr_a1)
  refine g_aload_n (q0 := 9) (j := 0) rfl dX12_marksWithAncestors_8 rfl ?_
  refine g_aload_n (q0 := 10) (j := 1) rfl dX12_marksWithAncestors_9 rfl ?_
  obtain ⟨m10, e10, h⟩ := gI_bd h
  refine g_callVq0 (as := [_]) (rest := []) mt_X12_walksBack mi_X12_walksBack se_X12_walksBack ml_X12_210 dX12_marksWithAncestors_10 (q0 := 13) rfl rfl (sh_711 hOK3) rfl rfl (ok_walksBack hOK3 e10) rfl ⟨by decide, by decide⟩ (Nat.le_of_ble_eq_true rfl) ⟨Nat.zero_le _, Nat.zero_le _⟩ ?_
  have hOK4 : gOK sh m10 := gOK_fr hOK3 (fr_walksBack (b := m10) e10) (by first | decide | (intro a ha; simp only [List.mem_cons, List.not_mem_nil, or_false] at ha; omega)) (by decide)
  rw [← Option.some.inj h]
  refine g_return dX12_marksWithAncestors_13 rfl ⟨Nat.zero_le _, Nat.zero_le _⟩ ?_
  exact ⟨rfl, rfl, rfl⟩
-- ==== isAncestor
theorem dX12_isAncestor_0 : decode cX12_isAncestor 0 = .ok (.iload_n 1, 1) := by decide +kernel
theorem dX12_isAncestor_1 : decode cX12_isAncestor 1 = .ok (.iload_n 2, 1) := by decide +kernel
theorem dX12_isAncestor_2 : decode cX12_isAncestor 2 = .ok (.if_icmp .lt 5, 3) := by decide +kernel
theorem dX12_isAncestor_5 : decode cX12_isAncestor 5 = .ok (.iconst 0, 1) := by decide +kernel
theorem dX12_isAncestor_6 : decode cX12_isAncestor 6 = .ok (.ireturn, 1) := by decide +kernel
theorem dX12_isAncestor_7 : decode cX12_isAncestor 7 = .ok (.aload_n 0, 1) := by decide +kernel
theorem dX12_isAncestor_8 : decode cX12_isAncestor 8 = .ok (.aload_n 0, 1) := by decide +kernel
theorem dX12_isAncestor_9 : decode cX12_isAncestor 9 = .ok (.getfield 43, 3) := by decide +kernel
theorem dX12_isAncestor_12 : decode cX12_isAncestor 12 = .ok (.iload_n 2, 1) := by decide +kernel
theorem dX12_isAncestor_13 : decode cX12_isAncestor 13 = .ok (.invokevirtual 213, 3) := by decide +kernel
theorem dX12_isAncestor_16 : decode cX12_isAncestor 16 = .ok (.aload_n 0, 1) := by decide +kernel
theorem dX12_isAncestor_17 : decode cX12_isAncestor 17 = .ok (.getfield 43, 3) := by decide +kernel
theorem dX12_isAncestor_20 : decode cX12_isAncestor 20 = .ok (.iload_n 1, 1) := by decide +kernel
theorem dX12_isAncestor_21 : decode cX12_isAncestor 21 = .ok (.baload, 1) := by decide +kernel
theorem dX12_isAncestor_22 : decode cX12_isAncestor 22 = .ok (.ireturn, 1) := by decide +kernel
noncomputable def F_isAncestor (M : gM) (a1 a2 : Int) : Option (Int × gM) := (if a1 < a2 then
    (Option.bind (F_marksWithAncestors M 723 a2) (fun m13 =>
      (if 0 ≤ a1 ∧ a1 < 120 then
        (if (m13 723 a1) = 0 ∨ (m13 723 a1) = 1 then
          some ((m13 723 a1), m13)
        else none)
      else none)))
  else
    some (0, M))
theorem eq_isAncestor (M : gM) (a1 a2 : Int) : F_isAncestor M a1 a2 = (if a1 < a2 then
    (Option.bind (F_marksWithAncestors M 723 a2) (fun m13 =>
      (if 0 ≤ a1 ∧ a1 < 120 then
        (if (m13 723 a1) = 0 ∨ (m13 723 a1) = 1 then
          some ((m13 723 a1), m13)
        else none)
      else none)))
  else
    some (0, M)) := rfl
theorem fr_isAncestor {M : gM} {a1 a2 : Int} {b : Int × gM} (h : F_isAncestor M a1 a2 = some b) : gFr [723] [] M b.2 := by
  rw [eq_isAncestor] at h
  rcases gI_or h with h | h
  · obtain ⟨m13, e13, h⟩ := gI_bd h
    obtain ⟨g2, h⟩ := gI_gd h
    obtain ⟨g3, h⟩ := gI_gd h
    rw [← Option.some.inj h]
    exact (gFr_t (gFr_r [723] [] _) (fr_marksWithAncestors (b := m13) e13) (by first | decide | simp) (by decide))
  · rw [← Option.some.inj h]
    exact (gFr_r [723] [] _)
theorem bo_isAncestor {M : gM} {a1 a2 : Int} {b : Int × gM} (h : F_isAncestor M a1 a2 = some b) : b.1 = 0 ∨ b.1 = 1 := by
  rw [eq_isAncestor] at h
  rcases gI_or h with h | h
  · obtain ⟨m13, e13, h⟩ := gI_bd h
    obtain ⟨g2, h⟩ := gI_gd h
    obtain ⟨g3, h⟩ := gI_gd h
    rw [← Option.some.inj h]
    exact g3
  · rw [← Option.some.inj h]
    exact (Or.inl rfl)
theorem ok_isAncestor {sh : gS} {M : gM} {a1 a2 : Int} {b : Int × gM} (hOK : gOK sh M) (h : F_isAncestor M a1 a2 = some b) : gC (gr 3 67) yX12_isAncestor cX12_isAncestor 3 (some (.boolean)) [(4, 711), (0, a1), (0, a2)] sh M (gPq sh (some (0, b.1)) b.2) := by
  rw [eq_isAncestor] at h
  refine gC_ofA (lv := [_, _, _]) (by decide +kernel) (Nat.le_of_ble_eq_true rfl) rfl (fun hMw hav => ?_)
  refine g_iload_n (q0 := 1) (j := 1) rfl dX12_isAncestor_0 rfl ?_
  refine g_iload_n (q0 := 2) (j := 2) rfl dX12_isAncestor_1 rfl ?_
  refine g_icmp_lt (q0 := 5) (tgt := 7) rfl dX12_isAncestor_2 (by decide) (fun h2 => ?_) (fun h2 => ?_)
  · replace h := gI_pos h2 h
    refine g_aload_n (q0 := 8) (j := 0) rfl dX12_isAncestor_7 rfl ?_
    refine g_aload_n (q0 := 9) (j := 0) rfl dX12_isAncestor_8 rfl ?_
    refine g_getp (q0 := 12) (b := 723) rfl ff_X12_43 dX12_isAncestor_9 rfl hOK (by decide) (sh_711 hOK) rfl (by decide) ?_
    refine g_iload_n (q0 := 13) (j := 2) rfl dX12_isAncestor_12 rfl ?_
    obtain ⟨m13, e13, h⟩ := gI_bd h
    refine g_callVq0 (as := [_, _]) (rest := []) mt_X12_marksWithAncestors mi_X12_marksWithAncestors se_X12_marksWithAncestors ml_X12_213 dX12_isAncestor_13 (q0 := 16) rfl rfl (sh_711 hOK) rfl rfl (ok_marksWithAncestors hOK e13) rfl ⟨by decide, by decide⟩ (Nat.le_of_ble_eq_true rfl) ⟨Nat.zero_le _, Nat.zero_le _⟩ ?_
    have hOK1 : gOK sh m13 := gOK_fr hOK (fr_marksWithAncestors (b := m13) e13) (by first | decide | (intro a ha; simp only [List.mem_cons, List.not_mem_nil, or_false] at ha; omega)) (by decide)
    refine g_aload_n (q0 := 17) (j := 0) rfl dX12_isAncestor_16 rfl ?_
    refine g_getp (q0 := 20) (b := 723) rfl ff_X12_43 dX12_isAncestor_17 rfl hOK1 (by decide) (sh_711 hOK1) rfl (by decide) ?_
    refine g_iload_n (q0 := 21) (j := 1) rfl dX12_isAncestor_20 rfl ?_
    obtain ⟨g2, h⟩ := gI_gd h
    refine g_zald (q0 := 22) rfl dX12_isAncestor_21 (sh_723 hOK1) g2.1 g2.2 ?_
    obtain ⟨g3, h⟩ := gI_gd h
    rw [← Option.some.inj h]
    refine g_zreturn dX12_isAncestor_22 rfl (gnz g3) ⟨Nat.zero_le _, Nat.zero_le _⟩ ?_
    exact ⟨rfl, rfl, rfl⟩
  · replace h := gI_neg (Int.not_lt.mpr h2) h
    refine g_iconst (q0 := 6) rfl dX12_isAncestor_5 (k := ?_)
    rw [← Option.some.inj h]
    refine g_zreturn dX12_isAncestor_6 rfl (gnz (Or.inl rfl)) ⟨Nat.zero_le _, Nat.zero_le _⟩ ?_
    exact ⟨rfl, rfl, rfl⟩
-- ==== sizeOf
theorem dX12_sizeOf_0 : decode cX12_sizeOf 0 = .ok (.iconst 0, 1) := by decide +kernel
theorem dX12_sizeOf_1 : decode cX12_sizeOf 1 = .ok (.istore_n 1, 1) := by decide +kernel
theorem dX12_sizeOf_2 : decode cX12_sizeOf 2 = .ok (.iconst 0, 1) := by decide +kernel
theorem dX12_sizeOf_3 : decode cX12_sizeOf 3 = .ok (.istore_n 2, 1) := by decide +kernel
theorem dX12_sizeOf_4 : decode cX12_sizeOf 4 = .ok (.iload_n 2, 1) := by decide +kernel
theorem dX12_sizeOf_5 : decode cX12_sizeOf 5 = .ok (.bipush 120, 2) := by decide +kernel
theorem dX12_sizeOf_7 : decode cX12_sizeOf 7 = .ok (.if_icmp .ge 19, 3) := by decide +kernel
theorem dX12_sizeOf_10 : decode cX12_sizeOf 10 = .ok (.aload_n 0, 1) := by decide +kernel
theorem dX12_sizeOf_11 : decode cX12_sizeOf 11 = .ok (.iload_n 2, 1) := by decide +kernel
theorem dX12_sizeOf_12 : decode cX12_sizeOf 12 = .ok (.baload, 1) := by decide +kernel
theorem dX12_sizeOf_13 : decode cX12_sizeOf 13 = .ok (.ifCond .eq 7, 3) := by decide +kernel
theorem dX12_sizeOf_16 : decode cX12_sizeOf 16 = .ok (.iload_n 1, 1) := by decide +kernel
theorem dX12_sizeOf_17 : decode cX12_sizeOf 17 = .ok (.iconst 1, 1) := by decide +kernel
theorem dX12_sizeOf_18 : decode cX12_sizeOf 18 = .ok (.iadd, 1) := by decide +kernel
theorem dX12_sizeOf_19 : decode cX12_sizeOf 19 = .ok (.istore_n 1, 1) := by decide +kernel
theorem dX12_sizeOf_20 : decode cX12_sizeOf 20 = .ok (.iinc 2 1, 3) := by decide +kernel
theorem dX12_sizeOf_23 : decode cX12_sizeOf 23 = .ok (.goto (-19), 3) := by decide +kernel
theorem dX12_sizeOf_26 : decode cX12_sizeOf 26 = .ok (.iload_n 1, 1) := by decide +kernel
theorem dX12_sizeOf_27 : decode cX12_sizeOf 27 = .ok (.ireturn, 1) := by decide +kernel
noncomputable def st_sizeOf (M : gM) : Nat × List Int → Option ((Nat × List Int) ⊕ (Int))
  | (0, [a0, x1, x2]) => (if gRw a0 then
      (if x2 < 120 then
        (if 0 ≤ x2 ∧ x2 < 120 then
          (if (M a0 x2) = 0 then
            some (.inl (0, [a0, x1, (gw32 (x2 + 1))]))
          else
            some (.inl (0, [a0, (gw32 (x1 + (1 : Int))), (gw32 (x2 + 1))])))
        else none)
      else
        some (.inr x1))
    else none)
  | _ => none
theorem sk_sizeOf_4 (k : Nat × List Int → Option (Int)) (M : gM) (a0 x1 x2 : Int) : gWk k (st_sizeOf M (0, [a0, x1, x2])) = (if gRw a0 then
    (if x2 < 120 then
      (if 0 ≤ x2 ∧ x2 < 120 then
        (if (M a0 x2) = 0 then
          k (0, [a0, x1, (gw32 (x2 + 1))])
        else
          k (0, [a0, (gw32 (x1 + (1 : Int))), (gw32 (x2 + 1))]))
      else none)
    else
      some x1)
  else none) := by
  simp only [st_sizeOf, gWk_ite, gWk_bind, gWk_inl, gWk_inr, gWk_none]
noncomputable def F_sizeOf_4 (M : gM) (a0 x1 x2 : Int) : Option (Int) := gWh (st_sizeOf M) (0, [a0, x1, x2])
theorem eq_sizeOf_4 (M : gM) (a0 x1 x2 : Int) : F_sizeOf_4 M a0 x1 x2 = (if gRw a0 then
    (if x2 < 120 then
      (if 0 ≤ x2 ∧ x2 < 120 then
        (if (M a0 x2) = 0 then
          F_sizeOf_4 M a0 x1 (gw32 (x2 + 1))
        else
          F_sizeOf_4 M a0 (gw32 (x1 + (1 : Int))) (gw32 (x2 + 1)))
      else none)
    else
      some x1)
  else none) := (gWh_eq _).trans (sk_sizeOf_4 _ M a0 x1 x2)
noncomputable def F_sizeOf (M : gM) (a0 : Int) : Option (Int) := (if gRw a0 then
    F_sizeOf_4 M a0 0 0
  else none)
theorem eq_sizeOf (M : gM) (a0 : Int) : F_sizeOf M a0 = (if gRw a0 then
    F_sizeOf_4 M a0 0 0
  else none) := rfl
theorem okp_sizeOf {sh : gS} {M : gM} : ∀ (s : Nat × List Int) (b : Int), gWh (st_sizeOf M) s = some b → (∀ (a0 x1 x2 : Int), s = (0, [a0, x1, x2]) → gOK sh M → gA (gr 0 0) yX12_sizeOf cX12_sizeOf 3 (some (.int)) (gPq sh (some (0, b)) M) (0, 0) 4 [(4, a0), (0, x1), (0, x2)] [] sh M) := by
  refine gWh_ind (fun k hk s b h => ?_)
  · rintro a0 x1 x2 rfl hOK
    rw [sk_sizeOf_4] at h
    obtain ⟨gr_a0, h⟩ := gI_gd h
    refine g_iload_n (q0 := 5) (j := 2) rfl dX12_sizeOf_4 rfl ?_
    refine g_bipush (q0 := 7) rfl dX12_sizeOf_5 (k := ?_)
    refine g_icmp_ge (q0 := 10) (tgt := 26) rfl dX12_sizeOf_7 (by decide) (fun h7 => ?_) (fun h7 => ?_)
    · replace h := gI_neg (Int.not_lt.mpr h7) h
      refine g_iload_n (q0 := 27) (j := 1) rfl dX12_sizeOf_26 rfl ?_
      rw [← Option.some.inj h]
      refine g_ireturn dX12_sizeOf_27 rfl ⟨Nat.zero_le _, Nat.zero_le _⟩ ?_
      exact ⟨rfl, rfl, rfl⟩
    · replace h := gI_pos h7 h
      refine g_aload_n (q0 := 11) (j := 0) rfl dX12_sizeOf_10 rfl ?_
      refine g_iload_n (q0 := 12) (j := 2) rfl dX12_sizeOf_11 rfl ?_
      obtain ⟨g1, h⟩ := gI_gd h
      refine g_zald (q0 := 13) rfl dX12_sizeOf_12 (gRw_sh hOK gr_a0) g1.1 g1.2 ?_
      refine g_if_eq (q0 := 16) (tgt := 20) rfl dX12_sizeOf_13 (by decide) (fun h13 => ?_) (fun h13 => ?_)
      · replace h := gI_pos h13 h
        refine g_iincw (q0 := 23) (lv2 := [_, _, _]) rfl dX12_sizeOf_20 rfl (by decide) rfl rfl ?_
        refine g_goto (tgt := 4) dX12_sizeOf_23 (by decide) ?_
        exact (hk _ _ h) _ _ _ rfl hOK
      · replace h := gI_neg h13 h
        refine g_iload_n (q0 := 17) (j := 1) rfl dX12_sizeOf_16 rfl ?_
        refine g_iconst (q0 := 18) rfl dX12_sizeOf_17 (k := ?_)
        refine g_iaddw (q0 := 19) rfl dX12_sizeOf_18 ?_
        refine g_istore_n (q0 := 20) (j := 1) (lv2 := [_, _, _]) rfl dX12_sizeOf_19 (by decide) rfl rfl ?_
        refine g_iincw (q0 := 23) (lv2 := [_, _, _]) rfl dX12_sizeOf_20 rfl (by decide) rfl rfl ?_
        refine g_goto (tgt := 4) dX12_sizeOf_23 (by decide) ?_
        exact (hk _ _ h) _ _ _ rfl hOK
theorem ok_sizeOf_4 {sh : gS} {M : gM} {a0 x1 x2 : Int} {b : Int} (hOK : gOK sh M) (h : F_sizeOf_4 M a0 x1 x2 = some b) : gA (gr 0 0) yX12_sizeOf cX12_sizeOf 3 (some (.int)) (gPq sh (some (0, b)) M) (0, 0) 4 [(4, a0), (0, x1), (0, x2)] [] sh M :=
  (okp_sizeOf _ _ h) _ _ _ rfl hOK
theorem ok_sizeOf {sh : gS} {M : gM} {a0 : Int} {b : Int} (hOK : gOK sh M) (h : F_sizeOf M a0 = some b) : gC (gr 0 0) yX12_sizeOf cX12_sizeOf 3 (some (.int)) [(4, a0)] sh M (gPq sh (some (0, b)) M) := by
  rw [eq_sizeOf] at h
  refine gC_ofA (lv := [_, _, _]) (by decide +kernel) (Nat.le_of_ble_eq_true rfl) rfl (fun hMw hav => ?_)
  obtain ⟨gr_a0, h⟩ := gI_gd h
  refine g_iconst (q0 := 1) rfl dX12_sizeOf_0 (k := ?_)
  refine g_istore_n (q0 := 2) (j := 1) (lv2 := [_, _, _]) rfl dX12_sizeOf_1 (by decide) rfl rfl ?_
  refine g_iconst (q0 := 3) rfl dX12_sizeOf_2 (k := ?_)
  refine g_istore_n (q0 := 4) (j := 2) (lv2 := [_, _, _]) rfl dX12_sizeOf_3 (by decide) rfl rfl ?_
  exact ok_sizeOf_4 hOK h
-- ==== laysHeights
theorem dX12_laysHeights_0 : decode cX12_laysHeights 0 = .ok (.iconst 0, 1) := by decide +kernel
theorem dX12_laysHeights_1 : decode cX12_laysHeights 1 = .ok (.istore_n 1, 1) := by decide +kernel
theorem dX12_laysHeights_2 : decode cX12_laysHeights 2 = .ok (.iload_n 1, 1) := by decide +kernel
theorem dX12_laysHeights_3 : decode cX12_laysHeights 3 = .ok (.aload_n 0, 1) := by decide +kernel
theorem dX12_laysHeights_4 : decode cX12_laysHeights 4 = .ok (.getfield 178, 3) := by decide +kernel
theorem dX12_laysHeights_7 : decode cX12_laysHeights 7 = .ok (.if_icmp .ge 62, 3) := by decide +kernel
theorem dX12_laysHeights_10 : decode cX12_laysHeights 10 = .ok (.aload_n 0, 1) := by decide +kernel
theorem dX12_laysHeights_11 : decode cX12_laysHeights 11 = .ok (.getfield 50, 3) := by decide +kernel
theorem dX12_laysHeights_14 : decode cX12_laysHeights 14 = .ok (.iload_n 1, 1) := by decide +kernel
theorem dX12_laysHeights_15 : decode cX12_laysHeights 15 = .ok (.iconst 0, 1) := by decide +kernel
theorem dX12_laysHeights_16 : decode cX12_laysHeights 16 = .ok (.iastore, 1) := by decide +kernel
theorem dX12_laysHeights_17 : decode cX12_laysHeights 17 = .ok (.iconst 0, 1) := by decide +kernel
theorem dX12_laysHeights_18 : decode cX12_laysHeights 18 = .ok (.istore_n 2, 1) := by decide +kernel
theorem dX12_laysHeights_19 : decode cX12_laysHeights 19 = .ok (.iload_n 2, 1) := by decide +kernel
theorem dX12_laysHeights_20 : decode cX12_laysHeights 20 = .ok (.aload_n 0, 1) := by decide +kernel
theorem dX12_laysHeights_21 : decode cX12_laysHeights 21 = .ok (.getfield 7, 3) := by decide +kernel
theorem dX12_laysHeights_24 : decode cX12_laysHeights 24 = .ok (.iload_n 1, 1) := by decide +kernel
theorem dX12_laysHeights_25 : decode cX12_laysHeights 25 = .ok (.iaload, 1) := by decide +kernel
theorem dX12_laysHeights_26 : decode cX12_laysHeights 26 = .ok (.if_icmp .ge 37, 3) := by decide +kernel
theorem dX12_laysHeights_29 : decode cX12_laysHeights 29 = .ok (.aload_n 0, 1) := by decide +kernel
theorem dX12_laysHeights_30 : decode cX12_laysHeights 30 = .ok (.getfield 50, 3) := by decide +kernel
theorem dX12_laysHeights_33 : decode cX12_laysHeights 33 = .ok (.iload_n 1, 1) := by decide +kernel
theorem dX12_laysHeights_34 : decode cX12_laysHeights 34 = .ok (.aload_n 0, 1) := by decide +kernel
theorem dX12_laysHeights_35 : decode cX12_laysHeights 35 = .ok (.getfield 50, 3) := by decide +kernel
theorem dX12_laysHeights_38 : decode cX12_laysHeights 38 = .ok (.iload_n 1, 1) := by decide +kernel
theorem dX12_laysHeights_39 : decode cX12_laysHeights 39 = .ok (.iaload, 1) := by decide +kernel
theorem dX12_laysHeights_40 : decode cX12_laysHeights 40 = .ok (.iconst 1, 1) := by decide +kernel
theorem dX12_laysHeights_41 : decode cX12_laysHeights 41 = .ok (.aload_n 0, 1) := by decide +kernel
theorem dX12_laysHeights_42 : decode cX12_laysHeights 42 = .ok (.getfield 50, 3) := by decide +kernel
theorem dX12_laysHeights_45 : decode cX12_laysHeights 45 = .ok (.aload_n 0, 1) := by decide +kernel
theorem dX12_laysHeights_46 : decode cX12_laysHeights 46 = .ok (.iload_n 1, 1) := by decide +kernel
theorem dX12_laysHeights_47 : decode cX12_laysHeights 47 = .ok (.iload_n 2, 1) := by decide +kernel
theorem dX12_laysHeights_48 : decode cX12_laysHeights 48 = .ok (.invokevirtual 192, 3) := by decide +kernel
theorem dX12_laysHeights_51 : decode cX12_laysHeights 51 = .ok (.iaload, 1) := by decide +kernel
theorem dX12_laysHeights_52 : decode cX12_laysHeights 52 = .ok (.iadd, 1) := by decide +kernel
theorem dX12_laysHeights_53 : decode cX12_laysHeights 53 = .ok (.invokestatic 217, 3) := by decide +kernel
theorem dX12_laysHeights_56 : decode cX12_laysHeights 56 = .ok (.iastore, 1) := by decide +kernel
theorem dX12_laysHeights_57 : decode cX12_laysHeights 57 = .ok (.iinc 2 1, 3) := by decide +kernel
theorem dX12_laysHeights_60 : decode cX12_laysHeights 60 = .ok (.goto (-41), 3) := by decide +kernel
theorem dX12_laysHeights_63 : decode cX12_laysHeights 63 = .ok (.iinc 1 1, 3) := by decide +kernel
theorem dX12_laysHeights_66 : decode cX12_laysHeights 66 = .ok (.goto (-64), 3) := by decide +kernel
theorem dX12_laysHeights_69 : decode cX12_laysHeights 69 = .ok (.return_, 1) := by decide +kernel
noncomputable def st_laysHeights : Nat × List Int × gM → Option ((Nat × List Int × gM) ⊕ (gM))
  | (0, [x1], M) => (if x1 < (M 711 0) then
      (if 0 ≤ x1 ∧ x1 < 120 then
        some (.inl (1, [x1, 0], (gU M 725 x1 0)))
      else none)
    else
      some (.inr M))
  | (1, [x1, x2], M) => (if 0 ≤ x1 ∧ x1 < 120 then
      (if x2 < (M 712 x1) then
        (Option.bind (F_parentAt M x1 x2) (fun r48 =>
          (if 0 ≤ r48 ∧ r48 < 120 then
            (Option.bind (F_max (M 725 x1) (gw32 ((1 : Int) + (M 725 r48)))) (fun r53 =>
              some (.inl (1, [x1, (gw32 (x2 + 1))], (gU M 725 x1 r53)))))
          else none)))
      else
        some (.inl (0, [(gw32 (x1 + 1))], M)))
    else none)
  | _ => none
theorem sk_laysHeights_2 (k : Nat × List Int × gM → Option (gM)) (M : gM) (x1 : Int) : gWk k (st_laysHeights (0, [x1], M)) = (if x1 < (M 711 0) then
    (if 0 ≤ x1 ∧ x1 < 120 then
      k (1, [x1, 0], (gU M 725 x1 0))
    else none)
  else
    some M) := by
  simp only [st_laysHeights, gWk_ite, gWk_bind, gWk_inl, gWk_inr, gWk_none]
theorem sk_laysHeights_19 (k : Nat × List Int × gM → Option (gM)) (M : gM) (x1 x2 : Int) : gWk k (st_laysHeights (1, [x1, x2], M)) = (if 0 ≤ x1 ∧ x1 < 120 then
    (if x2 < (M 712 x1) then
      (Option.bind (F_parentAt M x1 x2) (fun r48 =>
        (if 0 ≤ r48 ∧ r48 < 120 then
          (Option.bind (F_max (M 725 x1) (gw32 ((1 : Int) + (M 725 r48)))) (fun r53 =>
            k (1, [x1, (gw32 (x2 + 1))], (gU M 725 x1 r53))))
        else none)))
    else
      k (0, [(gw32 (x1 + 1))], M))
  else none) := by
  simp only [st_laysHeights, gWk_ite, gWk_bind, gWk_inl, gWk_inr, gWk_none]
noncomputable def F_laysHeights_2 (M : gM) (x1 : Int) : Option (gM) := gWh (st_laysHeights) (0, [x1], M)
noncomputable def F_laysHeights_19 (M : gM) (x1 x2 : Int) : Option (gM) := gWh (st_laysHeights) (1, [x1, x2], M)
theorem eq_laysHeights_2 (M : gM) (x1 : Int) : F_laysHeights_2 M x1 = (if x1 < (M 711 0) then
    (if 0 ≤ x1 ∧ x1 < 120 then
      F_laysHeights_19 (gU M 725 x1 0) x1 0
    else none)
  else
    some M) := (gWh_eq _).trans (sk_laysHeights_2 _ M x1)
theorem eq_laysHeights_19 (M : gM) (x1 x2 : Int) : F_laysHeights_19 M x1 x2 = (if 0 ≤ x1 ∧ x1 < 120 then
    (if x2 < (M 712 x1) then
      (Option.bind (F_parentAt M x1 x2) (fun r48 =>
        (if 0 ≤ r48 ∧ r48 < 120 then
          (Option.bind (F_max (M 725 x1) (gw32 ((1 : Int) + (M 725 r48)))) (fun r53 =>
            F_laysHeights_19 (gU M 725 x1 r53) x1 (gw32 (x2 + 1))))
        else none)))
    else
      F_laysHeights_2 M (gw32 (x1 + 1)))
  else none) := (gWh_eq _).trans (sk_laysHeights_19 _ M x1 x2)
noncomputable def F_laysHeights (M : gM) : Option (gM) := F_laysHeights_2 M 0
theorem eq_laysHeights (M : gM) : F_laysHeights M = F_laysHeights_2 M 0 := rfl
theorem frp_laysHeights : ∀ (s : Nat × List Int × gM) (b : gM), gWh (st_laysHeights) s = some b → (∀ (x1 : Int) (M : gM), s = (0, [x1], M) → gFr [725] [] M b) ∧ (∀ (x1 x2 : Int) (M : gM), s = (1, [x1, x2], M) → gFr [725] [] M b) := by
  refine gWh_ind (fun k hk s b h => ⟨?_, ?_⟩)
  · rintro x1 M rfl
    rw [sk_laysHeights_2] at h
    rcases gI_or h with h | h
    · obtain ⟨g1, h⟩ := gI_gd h
      exact gFr_t (gFr_a (gFr_r [725] [] _) (.head _) (by decide)) ((hk _ _ h).2 _ _ _ rfl) (fun _ z => z) (fun _ z => z)
    · rw [← Option.some.inj h]
      exact (gFr_r [725] [] _)
  · rintro x1 x2 M rfl
    rw [sk_laysHeights_19] at h
    obtain ⟨g3, h⟩ := gI_gd h
    rcases gI_or h with h | h
    · obtain ⟨r48, e48, h⟩ := gI_bd h
      obtain ⟨g4, h⟩ := gI_gd h
      obtain ⟨r53, e53, h⟩ := gI_bd h
      exact gFr_t (gFr_a (gFr_r [725] [] _) (.head _) (by decide)) ((hk _ _ h).2 _ _ _ rfl) (fun _ z => z) (fun _ z => z)
    · exact gFr_t (gFr_r [725] [] _) ((hk _ _ h).1 _ _ rfl) (fun _ z => z) (fun _ z => z)
theorem fr_laysHeights_2 {M : gM} {x1 : Int} {b : gM} (h : F_laysHeights_2 M x1 = some b) : gFr [725] [] M b :=
  (frp_laysHeights _ _ h).1 _ _ rfl
theorem fr_laysHeights_19 {M : gM} {x1 x2 : Int} {b : gM} (h : F_laysHeights_19 M x1 x2 = some b) : gFr [725] [] M b :=
  (frp_laysHeights _ _ h).2 _ _ _ rfl
theorem fr_laysHeights {M : gM} {b : gM} (h : F_laysHeights M = some b) : gFr [725] [] M b := by
  rw [eq_laysHeights] at h
  exact gFr_t (gFr_r [725] [] _) (fr_laysHeights_2 h) (fun _ z => z) (fun _ z => z)
theorem okp_laysHeights {sh : gS} : ∀ (s : Nat × List Int × gM) (b : gM), gWh (st_laysHeights) s = some b → (∀ (x1 : Int) (M : gM), s = (0, [x1], M) → gOK sh M → gA (gr 1 22) yX12_laysHeights cX12_laysHeights 3 none (gPq sh none b) (0, 0) 2 [(4, 711), (0, x1), (9, 0)] [] sh M) ∧ (∀ (x1 x2 : Int) (M : gM), s = (1, [x1, x2], M) → gOK sh M → gA (gr 1 22) yX12_laysHeights cX12_laysHeights 3 none (gPq sh none b) (0, 0) 19 [(4, 711), (0, x1), (0, x2)] [] sh M) := by
  refine gWh_ind (fun k hk s b h => ⟨?_, ?_⟩)
  · rintro x1 M rfl hOK
    rw [sk_laysHeights_2] at h
    refine g_iload_n (q0 := 3) (j := 1) rfl dX12_laysHeights_2 rfl ?_
    refine g_aload_n (q0 := 4) (j := 0) rfl dX12_laysHeights_3 rfl ?_
    refine g_getf (q0 := 7) (t := 0) (fi := 0) rfl rfl ff_X12_178 dX12_laysHeights_4 rfl (sh_711 hOK) ?_
    refine g_icmp_ge (q0 := 10) (tgt := 69) rfl dX12_laysHeights_7 (by decide) (fun h7 => ?_) (fun h7 => ?_)
    · replace h := gI_neg (Int.not_lt.mpr h7) h
      rw [← Option.some.inj h]
      refine g_return dX12_laysHeights_69 rfl ⟨Nat.zero_le _, Nat.zero_le _⟩ ?_
      exact ⟨rfl, rfl, rfl⟩
    · replace h := gI_pos h7 h
      refine g_aload_n (q0 := 11) (j := 0) rfl dX12_laysHeights_10 rfl ?_
      refine g_getp (q0 := 14) (b := 725) rfl ff_X12_50 dX12_laysHeights_11 rfl hOK (by decide) (sh_711 hOK) rfl (by decide) ?_
      refine g_iload_n (q0 := 15) (j := 1) rfl dX12_laysHeights_14 rfl ?_
      refine g_iconst (q0 := 16) rfl dX12_laysHeights_15 (k := ?_)
      obtain ⟨g1, h⟩ := gI_gd h
      refine g_iast (q0 := 17) rfl dX12_laysHeights_16 (sh_725 hOK) g1.1 g1.2 ?_
      have hOK2 : gOK sh (gU M 725 x1 0) := gOK_i hOK (sh_725 hOK)
      refine g_iconst (q0 := 18) rfl dX12_laysHeights_17 (k := ?_)
      refine g_istore_n (q0 := 19) (j := 2) (lv2 := [_, _, _]) rfl dX12_laysHeights_18 (by decide) rfl rfl ?_
      exact (hk _ _ h).2 _ _ _ rfl hOK2
  · rintro x1 x2 M rfl hOK
    rw [sk_laysHeights_19] at h
    refine g_iload_n (q0 := 20) (j := 2) rfl dX12_laysHeights_19 rfl ?_
    refine g_aload_n (q0 := 21) (j := 0) rfl dX12_laysHeights_20 rfl ?_
    refine g_getp (q0 := 24) (b := 712) rfl ff_X12_7 dX12_laysHeights_21 rfl hOK (by decide) (sh_711 hOK) rfl (by decide) ?_
    refine g_iload_n (q0 := 25) (j := 1) rfl dX12_laysHeights_24 rfl ?_
    obtain ⟨g3, h⟩ := gI_gd h
    refine g_iald (q0 := 26) rfl dX12_laysHeights_25 (sh_712 hOK) g3.1 g3.2 ?_
    refine g_icmp_ge (q0 := 29) (tgt := 63) rfl dX12_laysHeights_26 (by decide) (fun h26 => ?_) (fun h26 => ?_)
    · replace h := gI_neg (Int.not_lt.mpr h26) h
      refine g_iincw (q0 := 66) (lv2 := [_, _, _]) rfl dX12_laysHeights_63 rfl (by decide) rfl rfl ?_
      refine g_goto (tgt := 2) dX12_laysHeights_66 (by decide) ?_
      refine gA_jk (lv1 := [_, _, (9, 0)]) ⟨.inl rfl, .inl rfl, .inr rfl, trivial⟩ ?_
      exact (hk _ _ h).1 _ _ rfl hOK
    · replace h := gI_pos h26 h
      refine g_aload_n (q0 := 30) (j := 0) rfl dX12_laysHeights_29 rfl ?_
      refine g_getp (q0 := 33) (b := 725) rfl ff_X12_50 dX12_laysHeights_30 rfl hOK (by decide) (sh_711 hOK) rfl (by decide) ?_
      refine g_iload_n (q0 := 34) (j := 1) rfl dX12_laysHeights_33 rfl ?_
      refine g_aload_n (q0 := 35) (j := 0) rfl dX12_laysHeights_34 rfl ?_
      refine g_getp (q0 := 38) (b := 725) rfl ff_X12_50 dX12_laysHeights_35 rfl hOK (by decide) (sh_711 hOK) rfl (by decide) ?_
      refine g_iload_n (q0 := 39) (j := 1) rfl dX12_laysHeights_38 rfl ?_
      refine g_iald (q0 := 40) rfl dX12_laysHeights_39 (sh_725 hOK) g3.1 g3.2 ?_
      refine g_iconst (q0 := 41) rfl dX12_laysHeights_40 (k := ?_)
      refine g_aload_n (q0 := 42) (j := 0) rfl dX12_laysHeights_41 rfl ?_
      refine g_getp (q0 := 45) (b := 725) rfl ff_X12_50 dX12_laysHeights_42 rfl hOK (by decide) (sh_711 hOK) rfl (by decide) ?_
      refine g_aload_n (q0 := 46) (j := 0) rfl dX12_laysHeights_45 rfl ?_
      refine g_iload_n (q0 := 47) (j := 1) rfl dX12_laysHeights_46 rfl ?_
      refine g_iload_n (q0 := 48) (j := 2) rfl dX12_laysHeights_47 rfl ?_
      obtain ⟨r48, e48, h⟩ := gI_bd h
      refine g_callVq1 (as := [_, _]) (rest := [_, _, _, _, _]) mt_X12_parentAt mi_X12_parentAt se_X12_parentAt ml_X12_192 dX12_laysHeights_48 (q0 := 51) rfl rfl (sh_711 hOK) rfl rfl (ok_parentAt hOK e48) rfl ⟨by decide, by decide⟩ (Nat.le_of_ble_eq_true rfl) ⟨Nat.zero_le _, Nat.zero_le _⟩ ?_
      obtain ⟨g4, h⟩ := gI_gd h
      refine g_iald (q0 := 52) rfl dX12_laysHeights_51 (sh_725 hOK) g4.1 g4.2 ?_
      refine g_iaddw (q0 := 53) rfl dX12_laysHeights_52 ?_
      obtain ⟨r53, e53, h⟩ := gI_bd h
      refine g_callSq1 (as := [_, _]) (rest := [_, _]) mt_X12_max ms_X12_max ml_X12_217 dX12_laysHeights_53 (q0 := 56) rfl rfl (ok_max hOK e53) rfl ⟨by decide, by decide⟩ (Nat.le_of_ble_eq_true rfl) ⟨Nat.zero_le _, Nat.zero_le _⟩ ?_
      refine g_iast (q0 := 57) rfl dX12_laysHeights_56 (sh_725 hOK) g3.1 g3.2 ?_
      have hOK5 : gOK sh (gU M 725 x1 r53) := gOK_i hOK (sh_725 hOK)
      refine g_iincw (q0 := 60) (lv2 := [_, _, _]) rfl dX12_laysHeights_57 rfl (by decide) rfl rfl ?_
      refine g_goto (tgt := 19) dX12_laysHeights_60 (by decide) ?_
      exact (hk _ _ h).2 _ _ _ rfl hOK5
theorem ok_laysHeights_2 {sh : gS} {M : gM} {x1 : Int} {b : gM} (hOK : gOK sh M) (h : F_laysHeights_2 M x1 = some b) : gA (gr 1 22) yX12_laysHeights cX12_laysHeights 3 none (gPq sh none b) (0, 0) 2 [(4, 711), (0, x1), (9, 0)] [] sh M :=
  (okp_laysHeights _ _ h).1 _ _ rfl hOK
theorem ok_laysHeights_19 {sh : gS} {M : gM} {x1 x2 : Int} {b : gM} (hOK : gOK sh M) (h : F_laysHeights_19 M x1 x2 = some b) : gA (gr 1 22) yX12_laysHeights cX12_laysHeights 3 none (gPq sh none b) (0, 0) 19 [(4, 711), (0, x1), (0, x2)] [] sh M :=
  (okp_laysHeights _ _ h).2 _ _ _ rfl hOK
theorem ok_laysHeights {sh : gS} {M : gM} {b : gM} (hOK : gOK sh M) (h : F_laysHeights M = some b) : gC (gr 1 22) yX12_laysHeights cX12_laysHeights 3 none [(4, 711)] sh M (gPq sh none b) := by
  rw [eq_laysHeights] at h
  refine gC_ofA (lv := [_, _, _]) (by decide +kernel) (Nat.le_of_ble_eq_true rfl) rfl (fun hMw hav => ?_)
  refine g_iconst (q0 := 1) rfl dX12_laysHeights_0 (k := ?_)
  refine g_istore_n (q0 := 2) (j := 1) (lv2 := [_, _, _]) rfl dX12_laysHeights_1 (by decide) rfl rfl ?_
  exact ok_laysHeights_2 hOK h
-- ==== children
theorem dX12_children_0 : decode cX12_children 0 = .ok (.iconst 0, 1) := by decide +kernel
theorem dX12_children_1 : decode cX12_children 1 = .ok (.istore_n 2, 1) := by decide +kernel
theorem dX12_children_2 : decode cX12_children 2 = .ok (.iload_n 1, 1) := by decide +kernel
theorem dX12_children_3 : decode cX12_children 3 = .ok (.iconst 1, 1) := by decide +kernel
theorem dX12_children_4 : decode cX12_children 4 = .ok (.iadd, 1) := by decide +kernel
theorem dX12_children_5 : decode cX12_children 5 = .ok (.istore_n 3, 1) := by decide +kernel
theorem dX12_children_6 : decode cX12_children 6 = .ok (.iload_n 3, 1) := by decide +kernel
theorem dX12_children_7 : decode cX12_children 7 = .ok (.aload_n 0, 1) := by decide +kernel
theorem dX12_children_8 : decode cX12_children 8 = .ok (.getfield 178, 3) := by decide +kernel
theorem dX12_children_11 : decode cX12_children 11 = .ok (.if_icmp .ge 44, 3) := by decide +kernel
theorem dX12_children_14 : decode cX12_children 14 = .ok (.iconst 0, 1) := by decide +kernel
theorem dX12_children_15 : decode cX12_children 15 = .ok (.istore 4, 2) := by decide +kernel
theorem dX12_children_17 : decode cX12_children 17 = .ok (.iload 4, 2) := by decide +kernel
theorem dX12_children_19 : decode cX12_children 19 = .ok (.aload_n 0, 1) := by decide +kernel
theorem dX12_children_20 : decode cX12_children 20 = .ok (.getfield 7, 3) := by decide +kernel
theorem dX12_children_23 : decode cX12_children 23 = .ok (.iload_n 3, 1) := by decide +kernel
theorem dX12_children_24 : decode cX12_children 24 = .ok (.iaload, 1) := by decide +kernel
theorem dX12_children_25 : decode cX12_children 25 = .ok (.if_icmp .ge 24, 3) := by decide +kernel
theorem dX12_children_28 : decode cX12_children 28 = .ok (.aload_n 0, 1) := by decide +kernel
theorem dX12_children_29 : decode cX12_children 29 = .ok (.iload_n 3, 1) := by decide +kernel
theorem dX12_children_30 : decode cX12_children 30 = .ok (.iload 4, 2) := by decide +kernel
theorem dX12_children_32 : decode cX12_children 32 = .ok (.invokevirtual 192, 3) := by decide +kernel
theorem dX12_children_35 : decode cX12_children 35 = .ok (.iload_n 1, 1) := by decide +kernel
theorem dX12_children_36 : decode cX12_children 36 = .ok (.if_icmp .ne 7, 3) := by decide +kernel
theorem dX12_children_39 : decode cX12_children 39 = .ok (.iload_n 2, 1) := by decide +kernel
theorem dX12_children_40 : decode cX12_children 40 = .ok (.iconst 1, 1) := by decide +kernel
theorem dX12_children_41 : decode cX12_children 41 = .ok (.iadd, 1) := by decide +kernel
theorem dX12_children_42 : decode cX12_children 42 = .ok (.istore_n 2, 1) := by decide +kernel
theorem dX12_children_43 : decode cX12_children 43 = .ok (.iinc 4 1, 3) := by decide +kernel
theorem dX12_children_46 : decode cX12_children 46 = .ok (.goto (-29), 3) := by decide +kernel
theorem dX12_children_49 : decode cX12_children 49 = .ok (.iinc 3 1, 3) := by decide +kernel
theorem dX12_children_52 : decode cX12_children 52 = .ok (.goto (-46), 3) := by decide +kernel
theorem dX12_children_55 : decode cX12_children 55 = .ok (.iload_n 2, 1) := by decide +kernel
theorem dX12_children_56 : decode cX12_children 56 = .ok (.ireturn, 1) := by decide +kernel
noncomputable def st_children (M : gM) : Nat × List Int → Option ((Nat × List Int) ⊕ (Int))
  | (0, [x1, x2, x3]) => (if x3 < (M 711 0) then
      some (.inl (1, [x1, x2, x3, 0]))
    else
      some (.inr x2))
  | (1, [x1, x2, x3, x4]) => (if 0 ≤ x3 ∧ x3 < 120 then
      (if x4 < (M 712 x3) then
        (Option.bind (F_parentAt M x3 x4) (fun r32 =>
          (if r32 = x1 then
            some (.inl (1, [x1, (gw32 (x2 + (1 : Int))), x3, (gw32 (x4 + 1))]))
          else
            some (.inl (1, [x1, x2, x3, (gw32 (x4 + 1))])))))
      else
        some (.inl (0, [x1, x2, (gw32 (x3 + 1))])))
    else none)
  | _ => none
theorem sk_children_6 (k : Nat × List Int → Option (Int)) (M : gM) (x1 x2 x3 : Int) : gWk k (st_children M (0, [x1, x2, x3])) = (if x3 < (M 711 0) then
    k (1, [x1, x2, x3, 0])
  else
    some x2) := by
  simp only [st_children, gWk_ite, gWk_bind, gWk_inl, gWk_inr, gWk_none]
theorem sk_children_17 (k : Nat × List Int → Option (Int)) (M : gM) (x1 x2 x3 x4 : Int) : gWk k (st_children M (1, [x1, x2, x3, x4])) = (if 0 ≤ x3 ∧ x3 < 120 then
    (if x4 < (M 712 x3) then
      (Option.bind (F_parentAt M x3 x4) (fun r32 =>
        (if r32 = x1 then
          k (1, [x1, (gw32 (x2 + (1 : Int))), x3, (gw32 (x4 + 1))])
        else
          k (1, [x1, x2, x3, (gw32 (x4 + 1))]))))
    else
      k (0, [x1, x2, (gw32 (x3 + 1))]))
  else none) := by
  simp only [st_children, gWk_ite, gWk_bind, gWk_inl, gWk_inr, gWk_none]
noncomputable def F_children_6 (M : gM) (x1 x2 x3 : Int) : Option (Int) := gWh (st_children M) (0, [x1, x2, x3])
noncomputable def F_children_17 (M : gM) (x1 x2 x3 x4 : Int) : Option (Int) := gWh (st_children M) (1, [x1, x2, x3, x4])
theorem eq_children_6 (M : gM) (x1 x2 x3 : Int) : F_children_6 M x1 x2 x3 = (if x3 < (M 711 0) then
    F_children_17 M x1 x2 x3 0
  else
    some x2) := (gWh_eq _).trans (sk_children_6 _ M x1 x2 x3)
theorem eq_children_17 (M : gM) (x1 x2 x3 x4 : Int) : F_children_17 M x1 x2 x3 x4 = (if 0 ≤ x3 ∧ x3 < 120 then
    (if x4 < (M 712 x3) then
      (Option.bind (F_parentAt M x3 x4) (fun r32 =>
        (if r32 = x1 then
          F_children_17 M x1 (gw32 (x2 + (1 : Int))) x3 (gw32 (x4 + 1))
        else
          F_children_17 M x1 x2 x3 (gw32 (x4 + 1)))))
    else
      F_children_6 M x1 x2 (gw32 (x3 + 1)))
  else none) := (gWh_eq _).trans (sk_children_17 _ M x1 x2 x3 x4)
noncomputable def F_children (M : gM) (a1 : Int) : Option (Int) := F_children_6 M a1 0 (gw32 (a1 + (1 : Int)))
theorem eq_children (M : gM) (a1 : Int) : F_children M a1 = F_children_6 M a1 0 (gw32 (a1 + (1 : Int))) := rfl
theorem okp_children {sh : gS} {M : gM} : ∀ (s : Nat × List Int) (b : Int), gWh (st_children M) s = some b → (∀ (x1 x2 x3 : Int), s = (0, [x1, x2, x3]) → gOK sh M → gA (gr 1 22) yX12_children cX12_children 5 (some (.int)) (gPq sh (some (0, b)) M) (0, 0) 6 [(4, 711), (0, x1), (0, x2), (0, x3), (9, 0)] [] sh M) ∧ (∀ (x1 x2 x3 x4 : Int), s = (1, [x1, x2, x3, x4]) → gOK sh M → gA (gr 1 22) yX12_children cX12_children 5 (some (.int)) (gPq sh (some (0, b)) M) (0, 0) 17 [(4, 711), (0, x1), (0, x2), (0, x3), (0, x4)] [] sh M) := by
  refine gWh_ind (fun k hk s b h => ⟨?_, ?_⟩)
  · rintro x1 x2 x3 rfl hOK
    rw [sk_children_6] at h
    refine g_iload_n (q0 := 7) (j := 3) rfl dX12_children_6 rfl ?_
    refine g_aload_n (q0 := 8) (j := 0) rfl dX12_children_7 rfl ?_
    refine g_getf (q0 := 11) (t := 0) (fi := 0) rfl rfl ff_X12_178 dX12_children_8 rfl (sh_711 hOK) ?_
    refine g_icmp_ge (q0 := 14) (tgt := 55) rfl dX12_children_11 (by decide) (fun h11 => ?_) (fun h11 => ?_)
    · replace h := gI_neg (Int.not_lt.mpr h11) h
      refine g_iload_n (q0 := 56) (j := 2) rfl dX12_children_55 rfl ?_
      rw [← Option.some.inj h]
      refine g_ireturn dX12_children_56 rfl ⟨Nat.zero_le _, Nat.zero_le _⟩ ?_
      exact ⟨rfl, rfl, rfl⟩
    · replace h := gI_pos h11 h
      refine g_iconst (q0 := 15) rfl dX12_children_14 (k := ?_)
      refine g_istore (q0 := 17) (j := 4) (lv2 := [_, _, _, _, _]) rfl dX12_children_15 (by decide) rfl rfl ?_
      exact (hk _ _ h).2 _ _ _ _ rfl hOK
  · rintro x1 x2 x3 x4 rfl hOK
    rw [sk_children_17] at h
    refine g_iload (q0 := 19) (j := 4) rfl dX12_children_17 rfl ?_
    refine g_aload_n (q0 := 20) (j := 0) rfl dX12_children_19 rfl ?_
    refine g_getp (q0 := 23) (b := 712) rfl ff_X12_7 dX12_children_20 rfl hOK (by decide) (sh_711 hOK) rfl (by decide) ?_
    refine g_iload_n (q0 := 24) (j := 3) rfl dX12_children_23 rfl ?_
    obtain ⟨g1, h⟩ := gI_gd h
    refine g_iald (q0 := 25) rfl dX12_children_24 (sh_712 hOK) g1.1 g1.2 ?_
    refine g_icmp_ge (q0 := 28) (tgt := 49) rfl dX12_children_25 (by decide) (fun h25 => ?_) (fun h25 => ?_)
    · replace h := gI_neg (Int.not_lt.mpr h25) h
      refine g_iincw (q0 := 52) (lv2 := [_, _, _, _, _]) rfl dX12_children_49 rfl (by decide) rfl rfl ?_
      refine g_goto (tgt := 6) dX12_children_52 (by decide) ?_
      refine gA_jk (lv1 := [_, _, _, _, (9, 0)]) ⟨.inl rfl, .inl rfl, .inl rfl, .inl rfl, .inr rfl, trivial⟩ ?_
      exact (hk _ _ h).1 _ _ _ rfl hOK
    · replace h := gI_pos h25 h
      refine g_aload_n (q0 := 29) (j := 0) rfl dX12_children_28 rfl ?_
      refine g_iload_n (q0 := 30) (j := 3) rfl dX12_children_29 rfl ?_
      refine g_iload (q0 := 32) (j := 4) rfl dX12_children_30 rfl ?_
      obtain ⟨r32, e32, h⟩ := gI_bd h
      refine g_callVq1 (as := [_, _]) (rest := []) mt_X12_parentAt mi_X12_parentAt se_X12_parentAt ml_X12_192 dX12_children_32 (q0 := 35) rfl rfl (sh_711 hOK) rfl rfl (ok_parentAt hOK e32) rfl ⟨by decide, by decide⟩ (Nat.le_of_ble_eq_true rfl) ⟨Nat.zero_le _, Nat.zero_le _⟩ ?_
      refine g_iload_n (q0 := 36) (j := 1) rfl dX12_children_35 rfl ?_
      refine g_icmp_ne (q0 := 39) (tgt := 43) rfl dX12_children_36 (by decide) (fun h36 => ?_) (fun h36 => ?_)
      · replace h := gI_neg h36 h
        refine g_iincw (q0 := 46) (lv2 := [_, _, _, _, _]) rfl dX12_children_43 rfl (by decide) rfl rfl ?_
        refine g_goto (tgt := 17) dX12_children_46 (by decide) ?_
        exact (hk _ _ h).2 _ _ _ _ rfl hOK
      · replace h := gI_pos h36 h
        refine g_iload_n (q0 := 40) (j := 2) rfl dX12_children_39 rfl ?_
        refine g_iconst (q0 := 41) rfl dX12_children_40 (k := ?_)
        refine g_iaddw (q0 := 42) rfl dX12_children_41 ?_
        refine g_istore_n (q0 := 43) (j := 2) (lv2 := [_, _, _, _, _]) rfl dX12_children_42 (by decide) rfl rfl ?_
        refine g_iincw (q0 := 46) (lv2 := [_, _, _, _, _]) rfl dX12_children_43 rfl (by decide) rfl rfl ?_
        refine g_goto (tgt := 17) dX12_children_46 (by decide) ?_
        exact (hk _ _ h).2 _ _ _ _ rfl hOK
theorem ok_children_6 {sh : gS} {M : gM} {x1 x2 x3 : Int} {b : Int} (hOK : gOK sh M) (h : F_children_6 M x1 x2 x3 = some b) : gA (gr 1 22) yX12_children cX12_children 5 (some (.int)) (gPq sh (some (0, b)) M) (0, 0) 6 [(4, 711), (0, x1), (0, x2), (0, x3), (9, 0)] [] sh M :=
  (okp_children _ _ h).1 _ _ _ rfl hOK
theorem ok_children_17 {sh : gS} {M : gM} {x1 x2 x3 x4 : Int} {b : Int} (hOK : gOK sh M) (h : F_children_17 M x1 x2 x3 x4 = some b) : gA (gr 1 22) yX12_children cX12_children 5 (some (.int)) (gPq sh (some (0, b)) M) (0, 0) 17 [(4, 711), (0, x1), (0, x2), (0, x3), (0, x4)] [] sh M :=
  (okp_children _ _ h).2 _ _ _ _ rfl hOK
theorem ok_children {sh : gS} {M : gM} {a1 : Int} {b : Int} (hOK : gOK sh M) (h : F_children M a1 = some b) : gC (gr 1 22) yX12_children cX12_children 5 (some (.int)) [(4, 711), (0, a1)] sh M (gPq sh (some (0, b)) M) := by
  rw [eq_children] at h
  refine gC_ofA (lv := [_, _, _, _, _]) (by decide +kernel) (Nat.le_of_ble_eq_true rfl) rfl (fun hMw hav => ?_)
  refine g_iconst (q0 := 1) rfl dX12_children_0 (k := ?_)
  refine g_istore_n (q0 := 2) (j := 2) (lv2 := [_, _, _, _, _]) rfl dX12_children_1 (by decide) rfl rfl ?_
  refine g_iload_n (q0 := 3) (j := 1) rfl dX12_children_2 rfl ?_
  refine g_iconst (q0 := 4) rfl dX12_children_3 (k := ?_)
  refine g_iaddw (q0 := 5) rfl dX12_children_4 ?_
  refine g_istore_n (q0 := 6) (j := 3) (lv2 := [_, _, _, _, _]) rfl dX12_children_5 (by decide) rfl rfl ?_
  exact ok_children_6 hOK h
-- ==== gone
theorem dX12_gone_0 : decode cX12_gone 0 = .ok (.iconst 0, 1) := by decide +kernel
theorem dX12_gone_1 : decode cX12_gone 1 = .ok (.istore_n 3, 1) := by decide +kernel
theorem dX12_gone_2 : decode cX12_gone 2 = .ok (.iconst 0, 1) := by decide +kernel
theorem dX12_gone_3 : decode cX12_gone 3 = .ok (.istore 4, 2) := by decide +kernel
theorem dX12_gone_5 : decode cX12_gone 5 = .ok (.iload 4, 2) := by decide +kernel
theorem dX12_gone_7 : decode cX12_gone 7 = .ok (.aload_n 0, 1) := by decide +kernel
theorem dX12_gone_8 : decode cX12_gone 8 = .ok (.getfield 28, 3) := by decide +kernel
theorem dX12_gone_11 : decode cX12_gone 11 = .ok (.iload_n 1, 1) := by decide +kernel
theorem dX12_gone_12 : decode cX12_gone 12 = .ok (.iaload, 1) := by decide +kernel
theorem dX12_gone_13 : decode cX12_gone 13 = .ok (.if_icmp .ge 29, 3) := by decide +kernel
theorem dX12_gone_16 : decode cX12_gone 16 = .ok (.aload_n 0, 1) := by decide +kernel
theorem dX12_gone_17 : decode cX12_gone 17 = .ok (.iload_n 2, 1) := by decide +kernel
theorem dX12_gone_18 : decode cX12_gone 18 = .ok (.aload_n 0, 1) := by decide +kernel
theorem dX12_gone_19 : decode cX12_gone 19 = .ok (.iload_n 1, 1) := by decide +kernel
theorem dX12_gone_20 : decode cX12_gone 20 = .ok (.iload 4, 2) := by decide +kernel
theorem dX12_gone_22 : decode cX12_gone 22 = .ok (.invokevirtual 162, 3) := by decide +kernel
theorem dX12_gone_25 : decode cX12_gone 25 = .ok (.invokevirtual 166, 3) := by decide +kernel
theorem dX12_gone_28 : decode cX12_gone 28 = .ok (.iconst (-1), 1) := by decide +kernel
theorem dX12_gone_29 : decode cX12_gone 29 = .ok (.if_icmp .ne 7, 3) := by decide +kernel
theorem dX12_gone_32 : decode cX12_gone 32 = .ok (.iload_n 3, 1) := by decide +kernel
theorem dX12_gone_33 : decode cX12_gone 33 = .ok (.iconst 1, 1) := by decide +kernel
theorem dX12_gone_34 : decode cX12_gone 34 = .ok (.iadd, 1) := by decide +kernel
theorem dX12_gone_35 : decode cX12_gone 35 = .ok (.istore_n 3, 1) := by decide +kernel
theorem dX12_gone_36 : decode cX12_gone 36 = .ok (.iinc 4 1, 3) := by decide +kernel
theorem dX12_gone_39 : decode cX12_gone 39 = .ok (.goto (-34), 3) := by decide +kernel
theorem dX12_gone_42 : decode cX12_gone 42 = .ok (.iload_n 3, 1) := by decide +kernel
theorem dX12_gone_43 : decode cX12_gone 43 = .ok (.ireturn, 1) := by decide +kernel
noncomputable def st_gone (M : gM) : Nat × List Int → Option ((Nat × List Int) ⊕ (Int))
  | (0, [x1, x2, x3, x4]) => (if 0 ≤ x1 ∧ x1 < 123 then
      (if x4 < (M 718 x1) then
        (Option.bind (F_pathAt M x1 x4) (fun r22 =>
          (Option.bind (F_fileAt M x2 r22) (fun r25 =>
            (if r25 = -1 then
              some (.inl (0, [x1, x2, (gw32 (x3 + (1 : Int))), (gw32 (x4 + 1))]))
            else
              some (.inl (0, [x1, x2, x3, (gw32 (x4 + 1))])))))))
      else
        some (.inr x3))
    else none)
  | _ => none
theorem sk_gone_5 (k : Nat × List Int → Option (Int)) (M : gM) (x1 x2 x3 x4 : Int) : gWk k (st_gone M (0, [x1, x2, x3, x4])) = (if 0 ≤ x1 ∧ x1 < 123 then
    (if x4 < (M 718 x1) then
      (Option.bind (F_pathAt M x1 x4) (fun r22 =>
        (Option.bind (F_fileAt M x2 r22) (fun r25 =>
          (if r25 = -1 then
            k (0, [x1, x2, (gw32 (x3 + (1 : Int))), (gw32 (x4 + 1))])
          else
            k (0, [x1, x2, x3, (gw32 (x4 + 1))]))))))
    else
      some x3)
  else none) := by
  simp only [st_gone, gWk_ite, gWk_bind, gWk_inl, gWk_inr, gWk_none]
noncomputable def F_gone_5 (M : gM) (x1 x2 x3 x4 : Int) : Option (Int) := gWh (st_gone M) (0, [x1, x2, x3, x4])
theorem eq_gone_5 (M : gM) (x1 x2 x3 x4 : Int) : F_gone_5 M x1 x2 x3 x4 = (if 0 ≤ x1 ∧ x1 < 123 then
    (if x4 < (M 718 x1) then
      (Option.bind (F_pathAt M x1 x4) (fun r22 =>
        (Option.bind (F_fileAt M x2 r22) (fun r25 =>
          (if r25 = -1 then
            F_gone_5 M x1 x2 (gw32 (x3 + (1 : Int))) (gw32 (x4 + 1))
          else
            F_gone_5 M x1 x2 x3 (gw32 (x4 + 1)))))))
    else
      some x3)
  else none) := (gWh_eq _).trans (sk_gone_5 _ M x1 x2 x3 x4)
noncomputable def F_gone (M : gM) (a1 a2 : Int) : Option (Int) := F_gone_5 M a1 a2 0 0
theorem eq_gone (M : gM) (a1 a2 : Int) : F_gone M a1 a2 = F_gone_5 M a1 a2 0 0 := rfl
theorem okp_gone {sh : gS} {M : gM} : ∀ (s : Nat × List Int) (b : Int), gWh (st_gone M) s = some b → (∀ (x1 x2 x3 x4 : Int), s = (0, [x1, x2, x3, x4]) → gOK sh M → gA (gr 3 65) yX12_gone cX12_gone 5 (some (.int)) (gPq sh (some (0, b)) M) (0, 0) 5 [(4, 711), (0, x1), (0, x2), (0, x3), (0, x4)] [] sh M) := by
  refine gWh_ind (fun k hk s b h => ?_)
  · rintro x1 x2 x3 x4 rfl hOK
    rw [sk_gone_5] at h
    refine g_iload (q0 := 7) (j := 4) rfl dX12_gone_5 rfl ?_
    refine g_aload_n (q0 := 8) (j := 0) rfl dX12_gone_7 rfl ?_
    refine g_getp (q0 := 11) (b := 718) rfl ff_X12_28 dX12_gone_8 rfl hOK (by decide) (sh_711 hOK) rfl (by decide) ?_
    refine g_iload_n (q0 := 12) (j := 1) rfl dX12_gone_11 rfl ?_
    obtain ⟨g1, h⟩ := gI_gd h
    refine g_iald (q0 := 13) rfl dX12_gone_12 (sh_718 hOK) g1.1 g1.2 ?_
    refine g_icmp_ge (q0 := 16) (tgt := 42) rfl dX12_gone_13 (by decide) (fun h13 => ?_) (fun h13 => ?_)
    · replace h := gI_neg (Int.not_lt.mpr h13) h
      refine g_iload_n (q0 := 43) (j := 3) rfl dX12_gone_42 rfl ?_
      rw [← Option.some.inj h]
      refine g_ireturn dX12_gone_43 rfl ⟨Nat.zero_le _, Nat.zero_le _⟩ ?_
      exact ⟨rfl, rfl, rfl⟩
    · replace h := gI_pos h13 h
      refine g_aload_n (q0 := 17) (j := 0) rfl dX12_gone_16 rfl ?_
      refine g_iload_n (q0 := 18) (j := 2) rfl dX12_gone_17 rfl ?_
      refine g_aload_n (q0 := 19) (j := 0) rfl dX12_gone_18 rfl ?_
      refine g_iload_n (q0 := 20) (j := 1) rfl dX12_gone_19 rfl ?_
      refine g_iload (q0 := 22) (j := 4) rfl dX12_gone_20 rfl ?_
      obtain ⟨r22, e22, h⟩ := gI_bd h
      refine g_callVq1 (as := [_, _]) (rest := [_, _]) mt_X12_pathAt mi_X12_pathAt se_X12_pathAt ml_X12_162 dX12_gone_22 (q0 := 25) rfl rfl (sh_711 hOK) rfl rfl (ok_pathAt hOK e22) rfl ⟨by decide, by decide⟩ (Nat.le_of_ble_eq_true rfl) ⟨Nat.zero_le _, Nat.zero_le _⟩ ?_
      obtain ⟨r25, e25, h⟩ := gI_bd h
      refine g_callVq1 (as := [_, _]) (rest := []) mt_X12_fileAt mi_X12_fileAt se_X12_fileAt ml_X12_166 dX12_gone_25 (q0 := 28) rfl rfl (sh_711 hOK) rfl rfl (ok_fileAt hOK e25) rfl ⟨by decide, by decide⟩ (Nat.le_of_ble_eq_true rfl) ⟨Nat.zero_le _, Nat.zero_le _⟩ ?_
      refine g_iconst (q0 := 29) rfl dX12_gone_28 (k := ?_)
      refine g_icmp_ne (q0 := 32) (tgt := 36) rfl dX12_gone_29 (by decide) (fun h29 => ?_) (fun h29 => ?_)
      · replace h := gI_neg h29 h
        refine g_iincw (q0 := 39) (lv2 := [_, _, _, _, _]) rfl dX12_gone_36 rfl (by decide) rfl rfl ?_
        refine g_goto (tgt := 5) dX12_gone_39 (by decide) ?_
        exact (hk _ _ h) _ _ _ _ rfl hOK
      · replace h := gI_pos h29 h
        refine g_iload_n (q0 := 33) (j := 3) rfl dX12_gone_32 rfl ?_
        refine g_iconst (q0 := 34) rfl dX12_gone_33 (k := ?_)
        refine g_iaddw (q0 := 35) rfl dX12_gone_34 ?_
        refine g_istore_n (q0 := 36) (j := 3) (lv2 := [_, _, _, _, _]) rfl dX12_gone_35 (by decide) rfl rfl ?_
        refine g_iincw (q0 := 39) (lv2 := [_, _, _, _, _]) rfl dX12_gone_36 rfl (by decide) rfl rfl ?_
        refine g_goto (tgt := 5) dX12_gone_39 (by decide) ?_
        exact (hk _ _ h) _ _ _ _ rfl hOK
theorem ok_gone_5 {sh : gS} {M : gM} {x1 x2 x3 x4 : Int} {b : Int} (hOK : gOK sh M) (h : F_gone_5 M x1 x2 x3 x4 = some b) : gA (gr 3 65) yX12_gone cX12_gone 5 (some (.int)) (gPq sh (some (0, b)) M) (0, 0) 5 [(4, 711), (0, x1), (0, x2), (0, x3), (0, x4)] [] sh M :=
  (okp_gone _ _ h) _ _ _ _ rfl hOK
theorem ok_gone {sh : gS} {M : gM} {a1 a2 : Int} {b : Int} (hOK : gOK sh M) (h : F_gone M a1 a2 = some b) : gC (gr 3 65) yX12_gone cX12_gone 5 (some (.int)) [(4, 711), (0, a1), (0, a2)] sh M (gPq sh (some (0, b)) M) := by
  rw [eq_gone] at h
  refine gC_ofA (lv := [_, _, _, _, _]) (by decide +kernel) (Nat.le_of_ble_eq_true rfl) rfl (fun hMw hav => ?_)
  refine g_iconst (q0 := 1) rfl dX12_gone_0 (k := ?_)
  refine g_istore_n (q0 := 2) (j := 3) (lv2 := [_, _, _, _, _]) rfl dX12_gone_1 (by decide) rfl rfl ?_
  refine g_iconst (q0 := 3) rfl dX12_gone_2 (k := ?_)
  refine g_istore (q0 := 5) (j := 4) (lv2 := [_, _, _, _, _]) rfl dX12_gone_3 (by decide) rfl rfl ?_
  exact ok_gone_5 hOK h
-- ==== newOnes
theorem dX12_newOnes_0 : decode cX12_newOnes 0 = .ok (.aload_n 0, 1) := by decide +kernel
theorem dX12_newOnes_1 : decode cX12_newOnes 1 = .ok (.iload_n 2, 1) := by decide +kernel
theorem dX12_newOnes_2 : decode cX12_newOnes 2 = .ok (.iload_n 1, 1) := by decide +kernel
theorem dX12_newOnes_3 : decode cX12_newOnes 3 = .ok (.invokevirtual 220, 3) := by decide +kernel
theorem dX12_newOnes_6 : decode cX12_newOnes 6 = .ok (.ireturn, 1) := by decide +kernel
noncomputable def F_newOnes (M : gM) (a1 a2 : Int) : Option (Int) := (Option.bind (F_gone M a2 a1) (fun r3 =>
    some r3))
theorem eq_newOnes (M : gM) (a1 a2 : Int) : F_newOnes M a1 a2 = (Option.bind (F_gone M a2 a1) (fun r3 =>
    some r3)) := rfl
theorem ok_newOnes {sh : gS} {M : gM} {a1 a2 : Int} {b : Int} (hOK : gOK sh M) (h : F_newOnes M a1 a2 = some b) : gC (gr 4 89) yX12_newOnes cX12_newOnes 3 (some (.int)) [(4, 711), (0, a1), (0, a2)] sh M (gPq sh (some (0, b)) M) := by
  rw [eq_newOnes] at h
  refine gC_ofA (lv := [_, _, _]) (by decide +kernel) (Nat.le_of_ble_eq_true rfl) rfl (fun hMw hav => ?_)
  refine g_aload_n (q0 := 1) (j := 0) rfl dX12_newOnes_0 rfl ?_
  refine g_iload_n (q0 := 2) (j := 2) rfl dX12_newOnes_1 rfl ?_
  refine g_iload_n (q0 := 3) (j := 1) rfl dX12_newOnes_2 rfl ?_
  obtain ⟨r3, e3, h⟩ := gI_bd h
  refine g_callVq1 (as := [_, _]) (rest := []) mt_X12_gone mi_X12_gone se_X12_gone ml_X12_220 dX12_newOnes_3 (q0 := 6) rfl rfl (sh_711 hOK) rfl rfl (ok_gone hOK e3) rfl ⟨by decide, by decide⟩ (Nat.le_of_ble_eq_true rfl) ⟨Nat.zero_le _, Nat.zero_le _⟩ ?_
  rw [← Option.some.inj h]
  refine g_ireturn dX12_newOnes_6 rfl ⟨Nat.zero_le _, Nat.zero_le _⟩ ?_
  exact ⟨rfl, rfl, rfl⟩
-- ==== changed
theorem dX12_changed_0 : decode cX12_changed 0 = .ok (.iconst 0, 1) := by decide +kernel
theorem dX12_changed_1 : decode cX12_changed 1 = .ok (.istore_n 3, 1) := by decide +kernel
theorem dX12_changed_2 : decode cX12_changed 2 = .ok (.iconst 0, 1) := by decide +kernel
theorem dX12_changed_3 : decode cX12_changed 3 = .ok (.istore 4, 2) := by decide +kernel
theorem dX12_changed_5 : decode cX12_changed 5 = .ok (.iload 4, 2) := by decide +kernel
theorem dX12_changed_7 : decode cX12_changed 7 = .ok (.aload_n 0, 1) := by decide +kernel
theorem dX12_changed_8 : decode cX12_changed 8 = .ok (.getfield 28, 3) := by decide +kernel
theorem dX12_changed_11 : decode cX12_changed 11 = .ok (.iload_n 1, 1) := by decide +kernel
theorem dX12_changed_12 : decode cX12_changed 12 = .ok (.iaload, 1) := by decide +kernel
theorem dX12_changed_13 : decode cX12_changed 13 = .ok (.if_icmp .ge 44, 3) := by decide +kernel
theorem dX12_changed_16 : decode cX12_changed 16 = .ok (.aload_n 0, 1) := by decide +kernel
theorem dX12_changed_17 : decode cX12_changed 17 = .ok (.iload_n 2, 1) := by decide +kernel
theorem dX12_changed_18 : decode cX12_changed 18 = .ok (.aload_n 0, 1) := by decide +kernel
theorem dX12_changed_19 : decode cX12_changed 19 = .ok (.iload_n 1, 1) := by decide +kernel
theorem dX12_changed_20 : decode cX12_changed 20 = .ok (.iload 4, 2) := by decide +kernel
theorem dX12_changed_22 : decode cX12_changed 22 = .ok (.invokevirtual 162, 3) := by decide +kernel
theorem dX12_changed_25 : decode cX12_changed 25 = .ok (.invokevirtual 632, 3) := by decide +kernel
theorem dX12_changed_28 : decode cX12_changed 28 = .ok (.istore 5, 2) := by decide +kernel
theorem dX12_changed_30 : decode cX12_changed 30 = .ok (.iload 5, 2) := by decide +kernel
theorem dX12_changed_32 : decode cX12_changed 32 = .ok (.ifCond .eq 19, 3) := by decide +kernel
theorem dX12_changed_35 : decode cX12_changed 35 = .ok (.iload 5, 2) := by decide +kernel
theorem dX12_changed_37 : decode cX12_changed 37 = .ok (.aload_n 0, 1) := by decide +kernel
theorem dX12_changed_38 : decode cX12_changed 38 = .ok (.iload_n 1, 1) := by decide +kernel
theorem dX12_changed_39 : decode cX12_changed 39 = .ok (.iload 4, 2) := by decide +kernel
theorem dX12_changed_41 : decode cX12_changed 41 = .ok (.invokevirtual 169, 3) := by decide +kernel
theorem dX12_changed_44 : decode cX12_changed 44 = .ok (.if_icmp .eq 7, 3) := by decide +kernel
theorem dX12_changed_47 : decode cX12_changed 47 = .ok (.iload_n 3, 1) := by decide +kernel
theorem dX12_changed_48 : decode cX12_changed 48 = .ok (.iconst 1, 1) := by decide +kernel
theorem dX12_changed_49 : decode cX12_changed 49 = .ok (.iadd, 1) := by decide +kernel
theorem dX12_changed_50 : decode cX12_changed 50 = .ok (.istore_n 3, 1) := by decide +kernel
theorem dX12_changed_51 : decode cX12_changed 51 = .ok (.iinc 4 1, 3) := by decide +kernel
theorem dX12_changed_54 : decode cX12_changed 54 = .ok (.goto (-49), 3) := by decide +kernel
theorem dX12_changed_57 : decode cX12_changed 57 = .ok (.iload_n 3, 1) := by decide +kernel
theorem dX12_changed_58 : decode cX12_changed 58 = .ok (.ireturn, 1) := by decide +kernel
noncomputable def st_changed (M : gM) : Nat × List Int → Option ((Nat × List Int) ⊕ (Int))
  | (0, [x1, x2, x3, x4]) => (if 0 ≤ x1 ∧ x1 < 123 then
      (if x4 < (M 718 x1) then
        (Option.bind (F_pathAt M x1 x4) (fun r22 =>
          (Option.bind (F_contentBy M x2 r22) (fun r25 =>
            (if r25 = 0 then
              some (.inl (0, [x1, x2, x3, (gw32 (x4 + 1))]))
            else
              (Option.bind (F_contentAt M x1 x4) (fun r41 =>
                (if r25 = r41 then
                  some (.inl (0, [x1, x2, x3, (gw32 (x4 + 1))]))
                else
                  some (.inl (0, [x1, x2, (gw32 (x3 + (1 : Int))), (gw32 (x4 + 1))]))))))))))
      else
        some (.inr x3))
    else none)
  | _ => none
theorem sk_changed_5 (k : Nat × List Int → Option (Int)) (M : gM) (x1 x2 x3 x4 : Int) : gWk k (st_changed M (0, [x1, x2, x3, x4])) = (if 0 ≤ x1 ∧ x1 < 123 then
    (if x4 < (M 718 x1) then
      (Option.bind (F_pathAt M x1 x4) (fun r22 =>
        (Option.bind (F_contentBy M x2 r22) (fun r25 =>
          (if r25 = 0 then
            k (0, [x1, x2, x3, (gw32 (x4 + 1))])
          else
            (Option.bind (F_contentAt M x1 x4) (fun r41 =>
              (if r25 = r41 then
                k (0, [x1, x2, x3, (gw32 (x4 + 1))])
              else
                k (0, [x1, x2, (gw32 (x3 + (1 : Int))), (gw32 (x4 + 1))])))))))))
    else
      some x3)
  else none) := by
  simp only [st_changed, gWk_ite, gWk_bind, gWk_inl, gWk_inr, gWk_none]
noncomputable def F_changed_5 (M : gM) (x1 x2 x3 x4 : Int) : Option (Int) := gWh (st_changed M) (0, [x1, x2, x3, x4])
theorem eq_changed_5 (M : gM) (x1 x2 x3 x4 : Int) : F_changed_5 M x1 x2 x3 x4 = (if 0 ≤ x1 ∧ x1 < 123 then
    (if x4 < (M 718 x1) then
      (Option.bind (F_pathAt M x1 x4) (fun r22 =>
        (Option.bind (F_contentBy M x2 r22) (fun r25 =>
          (if r25 = 0 then
            F_changed_5 M x1 x2 x3 (gw32 (x4 + 1))
          else
            (Option.bind (F_contentAt M x1 x4) (fun r41 =>
              (if r25 = r41 then
                F_changed_5 M x1 x2 x3 (gw32 (x4 + 1))
              else
                F_changed_5 M x1 x2 (gw32 (x3 + (1 : Int))) (gw32 (x4 + 1))))))))))
    else
      some x3)
  else none) := (gWh_eq _).trans (sk_changed_5 _ M x1 x2 x3 x4)
noncomputable def F_changed (M : gM) (a1 a2 : Int) : Option (Int) := F_changed_5 M a1 a2 0 0
theorem eq_changed (M : gM) (a1 a2 : Int) : F_changed M a1 a2 = F_changed_5 M a1 a2 0 0 := rfl
theorem okp_changed {sh : gS} {M : gM} : ∀ (s : Nat × List Int) (b : Int), gWh (st_changed M) s = some b → (∀ (x1 x2 x3 x4 : Int), s = (0, [x1, x2, x3, x4]) → gOK sh M → gA (gr 4 88) yX12_changed cX12_changed 6 (some (.int)) (gPq sh (some (0, b)) M) (0, 0) 5 [(4, 711), (0, x1), (0, x2), (0, x3), (0, x4), (9, 0)] [] sh M) := by
  refine gWh_ind (fun k hk s b h => ?_)
  · rintro x1 x2 x3 x4 rfl hOK
    rw [sk_changed_5] at h
    refine g_iload (q0 := 7) (j := 4) rfl dX12_changed_5 rfl ?_
    refine g_aload_n (q0 := 8) (j := 0) rfl dX12_changed_7 rfl ?_
    refine g_getp (q0 := 11) (b := 718) rfl ff_X12_28 dX12_changed_8 rfl hOK (by decide) (sh_711 hOK) rfl (by decide) ?_
    refine g_iload_n (q0 := 12) (j := 1) rfl dX12_changed_11 rfl ?_
    obtain ⟨g1, h⟩ := gI_gd h
    refine g_iald (q0 := 13) rfl dX12_changed_12 (sh_718 hOK) g1.1 g1.2 ?_
    refine g_icmp_ge (q0 := 16) (tgt := 57) rfl dX12_changed_13 (by decide) (fun h13 => ?_) (fun h13 => ?_)
    · replace h := gI_neg (Int.not_lt.mpr h13) h
      refine g_iload_n (q0 := 58) (j := 3) rfl dX12_changed_57 rfl ?_
      rw [← Option.some.inj h]
      refine g_ireturn dX12_changed_58 rfl ⟨Nat.zero_le _, Nat.zero_le _⟩ ?_
      exact ⟨rfl, rfl, rfl⟩
    · replace h := gI_pos h13 h
      refine g_aload_n (q0 := 17) (j := 0) rfl dX12_changed_16 rfl ?_
      refine g_iload_n (q0 := 18) (j := 2) rfl dX12_changed_17 rfl ?_
      refine g_aload_n (q0 := 19) (j := 0) rfl dX12_changed_18 rfl ?_
      refine g_iload_n (q0 := 20) (j := 1) rfl dX12_changed_19 rfl ?_
      refine g_iload (q0 := 22) (j := 4) rfl dX12_changed_20 rfl ?_
      obtain ⟨r22, e22, h⟩ := gI_bd h
      refine g_callVq1 (as := [_, _]) (rest := [_, _]) mt_X12_pathAt mi_X12_pathAt se_X12_pathAt ml_X12_162 dX12_changed_22 (q0 := 25) rfl rfl (sh_711 hOK) rfl rfl (ok_pathAt hOK e22) rfl ⟨by decide, by decide⟩ (Nat.le_of_ble_eq_true rfl) ⟨Nat.zero_le _, Nat.zero_le _⟩ ?_
      obtain ⟨r25, e25, h⟩ := gI_bd h
      refine g_callVq1 (as := [_, _]) (rest := []) mt_X12_contentBy mi_X12_contentBy se_X12_contentBy ml_X12_632 dX12_changed_25 (q0 := 28) rfl rfl (sh_711 hOK) rfl rfl (ok_contentBy hOK e25) rfl ⟨by decide, by decide⟩ (Nat.le_of_ble_eq_true rfl) ⟨Nat.zero_le _, Nat.zero_le _⟩ ?_
      refine g_istore (q0 := 30) (j := 5) (lv2 := [_, _, _, _, _, _]) rfl dX12_changed_28 (by decide) rfl rfl ?_
      refine g_iload (q0 := 32) (j := 5) rfl dX12_changed_30 rfl ?_
      refine g_if_eq (q0 := 35) (tgt := 51) rfl dX12_changed_32 (by decide) (fun h32 => ?_) (fun h32 => ?_)
      · replace h := gI_pos h32 h
        refine g_iincw (q0 := 54) (lv2 := [_, _, _, _, _, _]) rfl dX12_changed_51 rfl (by decide) rfl rfl ?_
        refine g_goto (tgt := 5) dX12_changed_54 (by decide) ?_
        refine gA_jk (lv1 := [_, _, _, _, _, (9, 0)]) ⟨.inl rfl, .inl rfl, .inl rfl, .inl rfl, .inl rfl, .inr rfl, trivial⟩ ?_
        exact (hk _ _ h) _ _ _ _ rfl hOK
      · replace h := gI_neg h32 h
        refine g_iload (q0 := 37) (j := 5) rfl dX12_changed_35 rfl ?_
        refine g_aload_n (q0 := 38) (j := 0) rfl dX12_changed_37 rfl ?_
        refine g_iload_n (q0 := 39) (j := 1) rfl dX12_changed_38 rfl ?_
        refine g_iload (q0 := 41) (j := 4) rfl dX12_changed_39 rfl ?_
        obtain ⟨r41, e41, h⟩ := gI_bd h
        refine g_callVq1 (as := [_, _]) (rest := [_]) mt_X12_contentAt mi_X12_contentAt se_X12_contentAt ml_X12_169 dX12_changed_41 (q0 := 44) rfl rfl (sh_711 hOK) rfl rfl (ok_contentAt hOK e41) rfl ⟨by decide, by decide⟩ (Nat.le_of_ble_eq_true rfl) ⟨Nat.zero_le _, Nat.zero_le _⟩ ?_
        refine g_icmp_eq (q0 := 47) (tgt := 51) rfl dX12_changed_44 (by decide) (fun h44 => ?_) (fun h44 => ?_)
        · replace h := gI_pos h44 h
          refine g_iincw (q0 := 54) (lv2 := [_, _, _, _, _, _]) rfl dX12_changed_51 rfl (by decide) rfl rfl ?_
          refine g_goto (tgt := 5) dX12_changed_54 (by decide) ?_
          refine gA_jk (lv1 := [_, _, _, _, _, (9, 0)]) ⟨.inl rfl, .inl rfl, .inl rfl, .inl rfl, .inl rfl, .inr rfl, trivial⟩ ?_
          exact (hk _ _ h) _ _ _ _ rfl hOK
        · replace h := gI_neg h44 h
          refine g_iload_n (q0 := 48) (j := 3) rfl dX12_changed_47 rfl ?_
          refine g_iconst (q0 := 49) rfl dX12_changed_48 (k := ?_)
          refine g_iaddw (q0 := 50) rfl dX12_changed_49 ?_
          refine g_istore_n (q0 := 51) (j := 3) (lv2 := [_, _, _, _, _, _]) rfl dX12_changed_50 (by decide) rfl rfl ?_
          refine g_iincw (q0 := 54) (lv2 := [_, _, _, _, _, _]) rfl dX12_changed_51 rfl (by decide) rfl rfl ?_
          refine g_goto (tgt := 5) dX12_changed_54 (by decide) ?_
          refine gA_jk (lv1 := [_, _, _, _, _, (9, 0)]) ⟨.inl rfl, .inl rfl, .inl rfl, .inl rfl, .inl rfl, .inr rfl, trivial⟩ ?_
          exact (hk _ _ h) _ _ _ _ rfl hOK
theorem ok_changed_5 {sh : gS} {M : gM} {x1 x2 x3 x4 : Int} {b : Int} (hOK : gOK sh M) (h : F_changed_5 M x1 x2 x3 x4 = some b) : gA (gr 4 88) yX12_changed cX12_changed 6 (some (.int)) (gPq sh (some (0, b)) M) (0, 0) 5 [(4, 711), (0, x1), (0, x2), (0, x3), (0, x4), (9, 0)] [] sh M :=
  (okp_changed _ _ h) _ _ _ _ rfl hOK
theorem ok_changed {sh : gS} {M : gM} {a1 a2 : Int} {b : Int} (hOK : gOK sh M) (h : F_changed M a1 a2 = some b) : gC (gr 4 88) yX12_changed cX12_changed 6 (some (.int)) [(4, 711), (0, a1), (0, a2)] sh M (gPq sh (some (0, b)) M) := by
  rw [eq_changed] at h
  refine gC_ofA (lv := [_, _, _, _, _, _]) (by decide +kernel) (Nat.le_of_ble_eq_true rfl) rfl (fun hMw hav => ?_)
  refine g_iconst (q0 := 1) rfl dX12_changed_0 (k := ?_)
  refine g_istore_n (q0 := 2) (j := 3) (lv2 := [_, _, _, _, _, _]) rfl dX12_changed_1 (by decide) rfl rfl ?_
  refine g_iconst (q0 := 3) rfl dX12_changed_2 (k := ?_)
  refine g_istore (q0 := 5) (j := 4) (lv2 := [_, _, _, _, _, _]) rfl dX12_changed_3 (by decide) rfl rfl ?_
  exact ok_changed_5 hOK h
-- ==== unlikeParent
theorem dX12_unlikeParent_0 : decode cX12_unlikeParent 0 = .ok (.aload_n 0, 1) := by decide +kernel
theorem dX12_unlikeParent_1 : decode cX12_unlikeParent 1 = .ok (.getfield 7, 3) := by decide +kernel
theorem dX12_unlikeParent_4 : decode cX12_unlikeParent 4 = .ok (.iload_n 1, 1) := by decide +kernel
theorem dX12_unlikeParent_5 : decode cX12_unlikeParent 5 = .ok (.iaload, 1) := by decide +kernel
theorem dX12_unlikeParent_6 : decode cX12_unlikeParent 6 = .ok (.ifCond .ne 10, 3) := by decide +kernel
theorem dX12_unlikeParent_9 : decode cX12_unlikeParent 9 = .ok (.aload_n 0, 1) := by decide +kernel
theorem dX12_unlikeParent_10 : decode cX12_unlikeParent 10 = .ok (.getfield 28, 3) := by decide +kernel
theorem dX12_unlikeParent_13 : decode cX12_unlikeParent 13 = .ok (.iload_n 1, 1) := by decide +kernel
theorem dX12_unlikeParent_14 : decode cX12_unlikeParent 14 = .ok (.iaload, 1) := by decide +kernel
theorem dX12_unlikeParent_15 : decode cX12_unlikeParent 15 = .ok (.ireturn, 1) := by decide +kernel
theorem dX12_unlikeParent_16 : decode cX12_unlikeParent 16 = .ok (.aload_n 0, 1) := by decide +kernel
theorem dX12_unlikeParent_17 : decode cX12_unlikeParent 17 = .ok (.iload_n 1, 1) := by decide +kernel
theorem dX12_unlikeParent_18 : decode cX12_unlikeParent 18 = .ok (.iconst 0, 1) := by decide +kernel
theorem dX12_unlikeParent_19 : decode cX12_unlikeParent 19 = .ok (.invokevirtual 192, 3) := by decide +kernel
theorem dX12_unlikeParent_22 : decode cX12_unlikeParent 22 = .ok (.istore_n 2, 1) := by decide +kernel
theorem dX12_unlikeParent_23 : decode cX12_unlikeParent 23 = .ok (.aload_n 0, 1) := by decide +kernel
theorem dX12_unlikeParent_24 : decode cX12_unlikeParent 24 = .ok (.iload_n 2, 1) := by decide +kernel
theorem dX12_unlikeParent_25 : decode cX12_unlikeParent 25 = .ok (.iload_n 1, 1) := by decide +kernel
theorem dX12_unlikeParent_26 : decode cX12_unlikeParent 26 = .ok (.invokevirtual 220, 3) := by decide +kernel
theorem dX12_unlikeParent_29 : decode cX12_unlikeParent 29 = .ok (.aload_n 0, 1) := by decide +kernel
theorem dX12_unlikeParent_30 : decode cX12_unlikeParent 30 = .ok (.iload_n 2, 1) := by decide +kernel
theorem dX12_unlikeParent_31 : decode cX12_unlikeParent 31 = .ok (.iload_n 1, 1) := by decide +kernel
theorem dX12_unlikeParent_32 : decode cX12_unlikeParent 32 = .ok (.invokevirtual 223, 3) := by decide +kernel
theorem dX12_unlikeParent_35 : decode cX12_unlikeParent 35 = .ok (.iadd, 1) := by decide +kernel
theorem dX12_unlikeParent_36 : decode cX12_unlikeParent 36 = .ok (.aload_n 0, 1) := by decide +kernel
theorem dX12_unlikeParent_37 : decode cX12_unlikeParent 37 = .ok (.iload_n 2, 1) := by decide +kernel
theorem dX12_unlikeParent_38 : decode cX12_unlikeParent 38 = .ok (.iload_n 1, 1) := by decide +kernel
theorem dX12_unlikeParent_39 : decode cX12_unlikeParent 39 = .ok (.invokevirtual 226, 3) := by decide +kernel
theorem dX12_unlikeParent_42 : decode cX12_unlikeParent 42 = .ok (.iadd, 1) := by decide +kernel
theorem dX12_unlikeParent_43 : decode cX12_unlikeParent 43 = .ok (.ireturn, 1) := by decide +kernel
noncomputable def F_unlikeParent (M : gM) (a1 : Int) : Option (Int) := (if 0 ≤ a1 ∧ a1 < 120 then
    (if (M 712 a1) = 0 then
      (if 0 ≤ a1 ∧ a1 < 123 then
        some (M 718 a1)
      else none)
    else
      (Option.bind (F_parentAt M a1 0) (fun r19 =>
        (Option.bind (F_gone M r19 a1) (fun r26 =>
          (Option.bind (F_newOnes M r19 a1) (fun r32 =>
            (Option.bind (F_changed M r19 a1) (fun r39 =>
              some (gw32 ((gw32 (r26 + r32)) + r39)))))))))))
  else none)
theorem eq_unlikeParent (M : gM) (a1 : Int) : F_unlikeParent M a1 = (if 0 ≤ a1 ∧ a1 < 120 then
    (if (M 712 a1) = 0 then
      (if 0 ≤ a1 ∧ a1 < 123 then
        some (M 718 a1)
      else none)
    else
      (Option.bind (F_parentAt M a1 0) (fun r19 =>
        (Option.bind (F_gone M r19 a1) (fun r26 =>
          (Option.bind (F_newOnes M r19 a1) (fun r32 =>
            (Option.bind (F_changed M r19 a1) (fun r39 =>
              some (gw32 ((gw32 (r26 + r32)) + r39)))))))))))
  else none) := rfl
theorem ok_unlikeParent {sh : gS} {M : gM} {a1 : Int} {b : Int} (hOK : gOK sh M) (h : F_unlikeParent M a1 = some b) : gC (gr 5 113) yX12_unlikeParent cX12_unlikeParent 3 (some (.int)) [(4, 711), (0, a1)] sh M (gPq sh (some (0, b)) M) := by
  rw [eq_unlikeParent] at h
  refine gC_ofA (lv := [_, _, _]) (by decide +kernel) (Nat.le_of_ble_eq_true rfl) rfl (fun hMw hav => ?_)
  refine g_aload_n (q0 := 1) (j := 0) rfl dX12_unlikeParent_0 rfl ?_
  refine g_getp (q0 := 4) (b := 712) rfl ff_X12_7 dX12_unlikeParent_1 rfl hOK (by decide) (sh_711 hOK) rfl (by decide) ?_
  refine g_iload_n (q0 := 5) (j := 1) rfl dX12_unlikeParent_4 rfl ?_
  obtain ⟨g1, h⟩ := gI_gd h
  refine g_iald (q0 := 6) rfl dX12_unlikeParent_5 (sh_712 hOK) g1.1 g1.2 ?_
  refine g_if_ne (q0 := 9) (tgt := 16) rfl dX12_unlikeParent_6 (by decide) (fun h6 => ?_) (fun h6 => ?_)
  · replace h := gI_neg h6 h
    refine g_aload_n (q0 := 17) (j := 0) rfl dX12_unlikeParent_16 rfl ?_
    refine g_iload_n (q0 := 18) (j := 1) rfl dX12_unlikeParent_17 rfl ?_
    refine g_iconst (q0 := 19) rfl dX12_unlikeParent_18 (k := ?_)
    obtain ⟨r19, e19, h⟩ := gI_bd h
    refine g_callVq1 (as := [_, _]) (rest := []) mt_X12_parentAt mi_X12_parentAt se_X12_parentAt ml_X12_192 dX12_unlikeParent_19 (q0 := 22) rfl rfl (sh_711 hOK) rfl rfl (ok_parentAt hOK e19) rfl ⟨by decide, by decide⟩ (Nat.le_of_ble_eq_true rfl) ⟨Nat.zero_le _, Nat.zero_le _⟩ ?_
    refine g_istore_n (q0 := 23) (j := 2) (lv2 := [_, _, _]) rfl dX12_unlikeParent_22 (by decide) rfl rfl ?_
    refine g_aload_n (q0 := 24) (j := 0) rfl dX12_unlikeParent_23 rfl ?_
    refine g_iload_n (q0 := 25) (j := 2) rfl dX12_unlikeParent_24 rfl ?_
    refine g_iload_n (q0 := 26) (j := 1) rfl dX12_unlikeParent_25 rfl ?_
    obtain ⟨r26, e26, h⟩ := gI_bd h
    refine g_callVq1 (as := [_, _]) (rest := []) mt_X12_gone mi_X12_gone se_X12_gone ml_X12_220 dX12_unlikeParent_26 (q0 := 29) rfl rfl (sh_711 hOK) rfl rfl (ok_gone hOK e26) rfl ⟨by decide, by decide⟩ (Nat.le_of_ble_eq_true rfl) ⟨Nat.zero_le _, Nat.zero_le _⟩ ?_
    refine g_aload_n (q0 := 30) (j := 0) rfl dX12_unlikeParent_29 rfl ?_
    refine g_iload_n (q0 := 31) (j := 2) rfl dX12_unlikeParent_30 rfl ?_
    refine g_iload_n (q0 := 32) (j := 1) rfl dX12_unlikeParent_31 rfl ?_
    obtain ⟨r32, e32, h⟩ := gI_bd h
    refine g_callVq1 (as := [_, _]) (rest := [_]) mt_X12_newOnes mi_X12_newOnes se_X12_newOnes ml_X12_223 dX12_unlikeParent_32 (q0 := 35) rfl rfl (sh_711 hOK) rfl rfl (ok_newOnes hOK e32) rfl ⟨by decide, by decide⟩ (Nat.le_of_ble_eq_true rfl) ⟨Nat.zero_le _, Nat.zero_le _⟩ ?_
    refine g_iaddw (q0 := 36) rfl dX12_unlikeParent_35 ?_
    refine g_aload_n (q0 := 37) (j := 0) rfl dX12_unlikeParent_36 rfl ?_
    refine g_iload_n (q0 := 38) (j := 2) rfl dX12_unlikeParent_37 rfl ?_
    refine g_iload_n (q0 := 39) (j := 1) rfl dX12_unlikeParent_38 rfl ?_
    obtain ⟨r39, e39, h⟩ := gI_bd h
    refine g_callVq1 (as := [_, _]) (rest := [_]) mt_X12_changed mi_X12_changed se_X12_changed ml_X12_226 dX12_unlikeParent_39 (q0 := 42) rfl rfl (sh_711 hOK) rfl rfl (ok_changed hOK e39) rfl ⟨by decide, by decide⟩ (Nat.le_of_ble_eq_true rfl) ⟨Nat.zero_le _, Nat.zero_le _⟩ ?_
    refine g_iaddw (q0 := 43) rfl dX12_unlikeParent_42 ?_
    rw [← Option.some.inj h]
    refine g_ireturn dX12_unlikeParent_43 rfl ⟨Nat.zero_le _, Nat.zero_le _⟩ ?_
    exact ⟨rfl, rfl, rfl⟩
  · replace h := gI_pos h6 h
    refine g_aload_n (q0 := 10) (j := 0) rfl dX12_unlikeParent_9 rfl ?_
    refine g_getp (q0 := 13) (b := 718) rfl ff_X12_28 dX12_unlikeParent_10 rfl hOK (by decide) (sh_711 hOK) rfl (by decide) ?_
    refine g_iload_n (q0 := 14) (j := 1) rfl dX12_unlikeParent_13 rfl ?_
    obtain ⟨g2, h⟩ := gI_gd h
    refine g_iald (q0 := 15) rfl dX12_unlikeParent_14 (sh_718 hOK) g2.1 g2.2 ?_
    rw [← Option.some.inj h]
    refine g_ireturn dX12_unlikeParent_15 rfl ⟨Nat.zero_le _, Nat.zero_le _⟩ ?_
    exact ⟨rfl, rfl, rfl⟩
-- ==== commitIs
theorem dX12_commitIs_0 : decode cX12_commitIs 0 = .ok (.aload_n 0, 1) := by decide +kernel
theorem dX12_commitIs_1 : decode cX12_commitIs 1 = .ok (.iload_n 1, 1) := by decide +kernel
theorem dX12_commitIs_2 : decode cX12_commitIs 2 = .ok (.invokevirtual 229, 3) := by decide +kernel
theorem dX12_commitIs_5 : decode cX12_commitIs 5 = .ok (.ifCond .ne 5, 3) := by decide +kernel
theorem dX12_commitIs_8 : decode cX12_commitIs 8 = .ok (.iconst (-1), 1) := by decide +kernel
theorem dX12_commitIs_9 : decode cX12_commitIs 9 = .ok (.ireturn, 1) := by decide +kernel
theorem dX12_commitIs_10 : decode cX12_commitIs 10 = .ok (.iload_n 2, 1) := by decide +kernel
theorem dX12_commitIs_11 : decode cX12_commitIs 11 = .ok (.bipush 10, 2) := by decide +kernel
theorem dX12_commitIs_13 : decode cX12_commitIs 13 = .ok (.bipush 12, 2) := by decide +kernel
theorem dX12_commitIs_15 : decode cX12_commitIs 15 = .ok (.invokestatic 182, 3) := by decide +kernel
theorem dX12_commitIs_18 : decode cX12_commitIs 18 = .ok (.ifCond .eq 31, 3) := by decide +kernel
theorem dX12_commitIs_21 : decode cX12_commitIs 21 = .ok (.iload_n 2, 1) := by decide +kernel
theorem dX12_commitIs_22 : decode cX12_commitIs 22 = .ok (.bipush 10, 2) := by decide +kernel
theorem dX12_commitIs_24 : decode cX12_commitIs 24 = .ok (.isub, 1) := by decide +kernel
theorem dX12_commitIs_25 : decode cX12_commitIs 25 = .ok (.aload_n 0, 1) := by decide +kernel
theorem dX12_commitIs_26 : decode cX12_commitIs 26 = .ok (.getfield 7, 3) := by decide +kernel
theorem dX12_commitIs_29 : decode cX12_commitIs 29 = .ok (.iload_n 1, 1) := by decide +kernel
theorem dX12_commitIs_30 : decode cX12_commitIs 30 = .ok (.iaload, 1) := by decide +kernel
theorem dX12_commitIs_31 : decode cX12_commitIs 31 = .ok (.if_icmp .ge 15, 3) := by decide +kernel
theorem dX12_commitIs_34 : decode cX12_commitIs 34 = .ok (.aload_n 0, 1) := by decide +kernel
theorem dX12_commitIs_35 : decode cX12_commitIs 35 = .ok (.iload_n 1, 1) := by decide +kernel
theorem dX12_commitIs_36 : decode cX12_commitIs 36 = .ok (.iload_n 2, 1) := by decide +kernel
theorem dX12_commitIs_37 : decode cX12_commitIs 37 = .ok (.bipush 10, 2) := by decide +kernel
theorem dX12_commitIs_39 : decode cX12_commitIs 39 = .ok (.isub, 1) := by decide +kernel
theorem dX12_commitIs_40 : decode cX12_commitIs 40 = .ok (.invokevirtual 192, 3) := by decide +kernel
theorem dX12_commitIs_43 : decode cX12_commitIs 43 = .ok (.goto 5, 3) := by decide +kernel
theorem dX12_commitIs_46 : decode cX12_commitIs 46 = .ok (.bipush (-2), 2) := by decide +kernel
theorem dX12_commitIs_48 : decode cX12_commitIs 48 = .ok (.ireturn, 1) := by decide +kernel
theorem dX12_commitIs_49 : decode cX12_commitIs 49 = .ok (.iload_n 2, 1) := by decide +kernel
theorem dX12_commitIs_50 : decode cX12_commitIs 50 = .ok (.tableswitch 127 0 8 #[50, 57, 64, 71, 78, 85, 96, 115, 121], 50) := by decide +kernel
theorem dX12_commitIs_100 : decode cX12_commitIs 100 = .ok (.aload_n 0, 1) := by decide +kernel
theorem dX12_commitIs_101 : decode cX12_commitIs 101 = .ok (.getfield 7, 3) := by decide +kernel
theorem dX12_commitIs_104 : decode cX12_commitIs 104 = .ok (.iload_n 1, 1) := by decide +kernel
theorem dX12_commitIs_105 : decode cX12_commitIs 105 = .ok (.iaload, 1) := by decide +kernel
theorem dX12_commitIs_106 : decode cX12_commitIs 106 = .ok (.ireturn, 1) := by decide +kernel
theorem dX12_commitIs_107 : decode cX12_commitIs 107 = .ok (.aload_n 0, 1) := by decide +kernel
theorem dX12_commitIs_108 : decode cX12_commitIs 108 = .ok (.getfield 16, 3) := by decide +kernel
theorem dX12_commitIs_111 : decode cX12_commitIs 111 = .ok (.iload_n 1, 1) := by decide +kernel
theorem dX12_commitIs_112 : decode cX12_commitIs 112 = .ok (.iaload, 1) := by decide +kernel
theorem dX12_commitIs_113 : decode cX12_commitIs 113 = .ok (.ireturn, 1) := by decide +kernel
theorem dX12_commitIs_114 : decode cX12_commitIs 114 = .ok (.aload_n 0, 1) := by decide +kernel
theorem dX12_commitIs_115 : decode cX12_commitIs 115 = .ok (.getfield 19, 3) := by decide +kernel
theorem dX12_commitIs_118 : decode cX12_commitIs 118 = .ok (.iload_n 1, 1) := by decide +kernel
theorem dX12_commitIs_119 : decode cX12_commitIs 119 = .ok (.iaload, 1) := by decide +kernel
theorem dX12_commitIs_120 : decode cX12_commitIs 120 = .ok (.ireturn, 1) := by decide +kernel
theorem dX12_commitIs_121 : decode cX12_commitIs 121 = .ok (.aload_n 0, 1) := by decide +kernel
theorem dX12_commitIs_122 : decode cX12_commitIs 122 = .ok (.getfield 28, 3) := by decide +kernel
theorem dX12_commitIs_125 : decode cX12_commitIs 125 = .ok (.iload_n 1, 1) := by decide +kernel
theorem dX12_commitIs_126 : decode cX12_commitIs 126 = .ok (.iaload, 1) := by decide +kernel
theorem dX12_commitIs_127 : decode cX12_commitIs 127 = .ok (.ireturn, 1) := by decide +kernel
theorem dX12_commitIs_128 : decode cX12_commitIs 128 = .ok (.aload_n 0, 1) := by decide +kernel
theorem dX12_commitIs_129 : decode cX12_commitIs 129 = .ok (.getfield 22, 3) := by decide +kernel
theorem dX12_commitIs_132 : decode cX12_commitIs 132 = .ok (.iload_n 1, 1) := by decide +kernel
theorem dX12_commitIs_133 : decode cX12_commitIs 133 = .ok (.iaload, 1) := by decide +kernel
theorem dX12_commitIs_134 : decode cX12_commitIs 134 = .ok (.ireturn, 1) := by decide +kernel
theorem dX12_commitIs_135 : decode cX12_commitIs 135 = .ok (.aload_n 0, 1) := by decide +kernel
theorem dX12_commitIs_136 : decode cX12_commitIs 136 = .ok (.invokevirtual 233, 3) := by decide +kernel
theorem dX12_commitIs_139 : decode cX12_commitIs 139 = .ok (.aload_n 0, 1) := by decide +kernel
theorem dX12_commitIs_140 : decode cX12_commitIs 140 = .ok (.getfield 50, 3) := by decide +kernel
theorem dX12_commitIs_143 : decode cX12_commitIs 143 = .ok (.iload_n 1, 1) := by decide +kernel
theorem dX12_commitIs_144 : decode cX12_commitIs 144 = .ok (.iaload, 1) := by decide +kernel
theorem dX12_commitIs_145 : decode cX12_commitIs 145 = .ok (.ireturn, 1) := by decide +kernel
theorem dX12_commitIs_146 : decode cX12_commitIs 146 = .ok (.aload_n 0, 1) := by decide +kernel
theorem dX12_commitIs_147 : decode cX12_commitIs 147 = .ok (.aload_n 0, 1) := by decide +kernel
theorem dX12_commitIs_148 : decode cX12_commitIs 148 = .ok (.getfield 43, 3) := by decide +kernel
theorem dX12_commitIs_151 : decode cX12_commitIs 151 = .ok (.iload_n 1, 1) := by decide +kernel
theorem dX12_commitIs_152 : decode cX12_commitIs 152 = .ok (.invokevirtual 213, 3) := by decide +kernel
theorem dX12_commitIs_155 : decode cX12_commitIs 155 = .ok (.aload_n 0, 1) := by decide +kernel
theorem dX12_commitIs_156 : decode cX12_commitIs 156 = .ok (.getfield 43, 3) := by decide +kernel
theorem dX12_commitIs_159 : decode cX12_commitIs 159 = .ok (.invokestatic 236, 3) := by decide +kernel
theorem dX12_commitIs_162 : decode cX12_commitIs 162 = .ok (.iconst 1, 1) := by decide +kernel
theorem dX12_commitIs_163 : decode cX12_commitIs 163 = .ok (.isub, 1) := by decide +kernel
theorem dX12_commitIs_164 : decode cX12_commitIs 164 = .ok (.ireturn, 1) := by decide +kernel
theorem dX12_commitIs_165 : decode cX12_commitIs 165 = .ok (.aload_n 0, 1) := by decide +kernel
theorem dX12_commitIs_166 : decode cX12_commitIs 166 = .ok (.iload_n 1, 1) := by decide +kernel
theorem dX12_commitIs_167 : decode cX12_commitIs 167 = .ok (.invokevirtual 240, 3) := by decide +kernel
theorem dX12_commitIs_170 : decode cX12_commitIs 170 = .ok (.ireturn, 1) := by decide +kernel
theorem dX12_commitIs_171 : decode cX12_commitIs 171 = .ok (.aload_n 0, 1) := by decide +kernel
theorem dX12_commitIs_172 : decode cX12_commitIs 172 = .ok (.iload_n 1, 1) := by decide +kernel
theorem dX12_commitIs_173 : decode cX12_commitIs 173 = .ok (.invokevirtual 243, 3) := by decide +kernel
theorem dX12_commitIs_176 : decode cX12_commitIs 176 = .ok (.ireturn, 1) := by decide +kernel
theorem dX12_commitIs_177 : decode cX12_commitIs 177 = .ok (.iconst (-1), 1) := by decide +kernel
theorem dX12_commitIs_178 : decode cX12_commitIs 178 = .ok (.ireturn, 1) := by decide +kernel
noncomputable def F_commitIs (M : gM) (a1 a2 : Int) : Option (Int × gM) := (Option.bind (F_isCommit M a1) (fun r2 =>
    (if r2 = 0 then
      some (-1, M)
    else
      (Option.bind (F_in a2 10 12) (fun r15 =>
        (if r15 = 0 then
          (if a2 = 0 then
            (if 0 ≤ a1 ∧ a1 < 120 then
              some ((M 712 a1), M)
            else none)
          else
            (if a2 = 1 then
              (if 0 ≤ a1 ∧ a1 < 120 then
                some ((M 714 a1), M)
              else none)
            else
              (if a2 = 2 then
                (if 0 ≤ a1 ∧ a1 < 120 then
                  some ((M 715 a1), M)
                else none)
              else
                (if a2 = 3 then
                  (if 0 ≤ a1 ∧ a1 < 123 then
                    some ((M 718 a1), M)
                  else none)
                else
                  (if a2 = 4 then
                    (if 0 ≤ a1 ∧ a1 < 120 then
                      some ((M 716 a1), M)
                    else none)
                  else
                    (if a2 = 5 then
                      (Option.bind (F_laysHeights M) (fun m136 =>
                        (if 0 ≤ a1 ∧ a1 < 120 then
                          some ((m136 725 a1), m136)
                        else none)))
                    else
                      (if a2 = 6 then
                        (Option.bind (F_marksWithAncestors M 723 a1) (fun m152 =>
                          (Option.bind (F_sizeOf m152 723) (fun r159 =>
                            some ((gw32 (r159 - (1 : Int))), m152)))))
                      else
                        (if a2 = 7 then
                          (Option.bind (F_children M a1) (fun r167 =>
                            some (r167, M)))
                        else
                          (if a2 = 8 then
                            (Option.bind (F_unlikeParent M a1) (fun r173 =>
                              some (r173, M)))
                          else
                            some (-1, M))))))))))
        else
          (if 0 ≤ a1 ∧ a1 < 120 then
            (if (gw32 (a2 - (10 : Int))) < (M 712 a1) then
              (Option.bind (F_parentAt M a1 (gw32 (a2 - (10 : Int)))) (fun r40 =>
                some (r40, M)))
            else
              some (-2, M))
          else none)))))))
theorem eq_commitIs (M : gM) (a1 a2 : Int) : F_commitIs M a1 a2 = (Option.bind (F_isCommit M a1) (fun r2 =>
    (if r2 = 0 then
      some (-1, M)
    else
      (Option.bind (F_in a2 10 12) (fun r15 =>
        (if r15 = 0 then
          (if a2 = 0 then
            (if 0 ≤ a1 ∧ a1 < 120 then
              some ((M 712 a1), M)
            else none)
          else
            (if a2 = 1 then
              (if 0 ≤ a1 ∧ a1 < 120 then
                some ((M 714 a1), M)
              else none)
            else
              (if a2 = 2 then
                (if 0 ≤ a1 ∧ a1 < 120 then
                  some ((M 715 a1), M)
                else none)
              else
                (if a2 = 3 then
                  (if 0 ≤ a1 ∧ a1 < 123 then
                    some ((M 718 a1), M)
                  else none)
                else
                  (if a2 = 4 then
                    (if 0 ≤ a1 ∧ a1 < 120 then
                      some ((M 716 a1), M)
                    else none)
                  else
                    (if a2 = 5 then
                      (Option.bind (F_laysHeights M) (fun m136 =>
                        (if 0 ≤ a1 ∧ a1 < 120 then
                          some ((m136 725 a1), m136)
                        else none)))
                    else
                      (if a2 = 6 then
                        (Option.bind (F_marksWithAncestors M 723 a1) (fun m152 =>
                          (Option.bind (F_sizeOf m152 723) (fun r159 =>
                            some ((gw32 (r159 - (1 : Int))), m152)))))
                      else
                        (if a2 = 7 then
                          (Option.bind (F_children M a1) (fun r167 =>
                            some (r167, M)))
                        else
                          (if a2 = 8 then
                            (Option.bind (F_unlikeParent M a1) (fun r173 =>
                              some (r173, M)))
                          else
                            some (-1, M))))))))))
        else
          (if 0 ≤ a1 ∧ a1 < 120 then
            (if (gw32 (a2 - (10 : Int))) < (M 712 a1) then
              (Option.bind (F_parentAt M a1 (gw32 (a2 - (10 : Int)))) (fun r40 =>
                some (r40, M)))
            else
              some (-2, M))
          else none))))))) := rfl
theorem fr_commitIs {M : gM} {a1 a2 : Int} {b : Int × gM} (h : F_commitIs M a1 a2 = some b) : gFr [723, 725] [] M b.2 := by
  rw [eq_commitIs] at h
  obtain ⟨r2, e2, h⟩ := gI_bd h
  rcases gI_or h with h | h
  · rw [← Option.some.inj h]
    exact (gFr_r [723, 725] [] _)
  · obtain ⟨r15, e15, h⟩ := gI_bd h
    rcases gI_or h with h | h
    · rcases gI_or h with h | h
      · obtain ⟨g8, h⟩ := gI_gd h
        rw [← Option.some.inj h]
        exact (gFr_r [723, 725] [] _)
      · rcases gI_or h with h | h
        · obtain ⟨g7, h⟩ := gI_gd h
          rw [← Option.some.inj h]
          exact (gFr_r [723, 725] [] _)
        · rcases gI_or h with h | h
          · obtain ⟨g6, h⟩ := gI_gd h
            rw [← Option.some.inj h]
            exact (gFr_r [723, 725] [] _)
          · rcases gI_or h with h | h
            · obtain ⟨g5, h⟩ := gI_gd h
              rw [← Option.some.inj h]
              exact (gFr_r [723, 725] [] _)
            · rcases gI_or h with h | h
              · obtain ⟨g4, h⟩ := gI_gd h
                rw [← Option.some.inj h]
                exact (gFr_r [723, 725] [] _)
              · rcases gI_or h with h | h
                · obtain ⟨m136, e136, h⟩ := gI_bd h
                  obtain ⟨g3, h⟩ := gI_gd h
                  rw [← Option.some.inj h]
                  exact (gFr_t (gFr_r [723, 725] [] _) (fr_laysHeights (b := m136) e136) (by first | decide | simp) (by decide))
                · rcases gI_or h with h | h
                  · obtain ⟨m152, e152, h⟩ := gI_bd h
                    obtain ⟨r159, e159, h⟩ := gI_bd h
                    rw [← Option.some.inj h]
                    exact (gFr_t (gFr_r [723, 725] [] _) (fr_marksWithAncestors (b := m152) e152) (by first | decide | simp) (by decide))
                  · rcases gI_or h with h | h
                    · obtain ⟨r167, e167, h⟩ := gI_bd h
                      rw [← Option.some.inj h]
                      exact (gFr_r [723, 725] [] _)
                    · rcases gI_or h with h | h
                      · obtain ⟨r173, e173, h⟩ := gI_bd h
                        rw [← Option.some.inj h]
                        exact (gFr_r [723, 725] [] _)
                      · rw [← Option.some.inj h]
                        exact (gFr_r [723, 725] [] _)
    · obtain ⟨g9, h⟩ := gI_gd h
      rcases gI_or h with h | h
      · obtain ⟨r40, e40, h⟩ := gI_bd h
        rw [← Option.some.inj h]
        exact (gFr_r [723, 725] [] _)
      · rw [← Option.some.inj h]
        exact (gFr_r [723, 725] [] _)
theorem ok_commitIs {sh : gS} {M : gM} {a1 a2 : Int} {b : Int × gM} (hOK : gOK sh M) (h : F_commitIs M a1 a2 = some b) : gC (gr 6 135) yX12_commitIs cX12_commitIs 3 (some (.int)) [(4, 711), (0, a1), (0, a2)] sh M (gPq sh (some (0, b.1)) b.2) := by
  rw [eq_commitIs] at h
  refine gC_ofA (lv := [_, _, _]) (by decide +kernel) (Nat.le_of_ble_eq_true rfl) rfl (fun hMw hav => ?_)
  refine g_aload_n (q0 := 1) (j := 0) rfl dX12_commitIs_0 rfl ?_
  refine g_iload_n (q0 := 2) (j := 1) rfl dX12_commitIs_1 rfl ?_
  obtain ⟨r2, e2, h⟩ := gI_bd h
  refine g_callVq1 (as := [_]) (rest := []) mt_X12_isCommit mi_X12_isCommit se_X12_isCommit ml_X12_229 dX12_commitIs_2 (q0 := 5) rfl rfl (sh_711 hOK) rfl rfl (ok_isCommit hOK e2) rfl ⟨by decide, by decide⟩ (Nat.le_of_ble_eq_true rfl) ⟨Nat.zero_le _, Nat.zero_le _⟩ ?_
  refine g_if_ne (q0 := 8) (tgt := 10) rfl dX12_commitIs_5 (by decide) (fun h5 => ?_) (fun h5 => ?_)
  · replace h := gI_neg h5 h
    refine g_iload_n (q0 := 11) (j := 2) rfl dX12_commitIs_10 rfl ?_
    refine g_bipush (q0 := 13) rfl dX12_commitIs_11 (k := ?_)
    refine g_bipush (q0 := 15) rfl dX12_commitIs_13 (k := ?_)
    obtain ⟨r15, e15, h⟩ := gI_bd h
    refine g_callSq1 (as := [_, _, _]) (rest := []) mt_X12_in ms_X12_in ml_X12_182 dX12_commitIs_15 (q0 := 18) rfl rfl (ok_in hOK e15) rfl ⟨by decide, by decide⟩ (Nat.le_of_ble_eq_true rfl) ⟨Nat.zero_le _, Nat.zero_le _⟩ ?_
    refine g_if_eq (q0 := 21) (tgt := 49) rfl dX12_commitIs_18 (by decide) (fun h18 => ?_) (fun h18 => ?_)
    · replace h := gI_pos h18 h
      refine g_iload_n (q0 := 50) (j := 2) rfl dX12_commitIs_49 rfl ?_
      by_cases hs0 : a2 = 0
      · replace h := gI_pos hs0 h
        refine g_tabIn (off := 50) (tgt := 100) dX12_commitIs_50 (by omega) (by omega) (by rw [hs0]; rfl) (by decide) ?_
        refine g_aload_n (q0 := 101) (j := 0) rfl dX12_commitIs_100 rfl ?_
        refine g_getp (q0 := 104) (b := 712) rfl ff_X12_7 dX12_commitIs_101 rfl hOK (by decide) (sh_711 hOK) rfl (by decide) ?_
        refine g_iload_n (q0 := 105) (j := 1) rfl dX12_commitIs_104 rfl ?_
        obtain ⟨g8, h⟩ := gI_gd h
        refine g_iald (q0 := 106) rfl dX12_commitIs_105 (sh_712 hOK) g8.1 g8.2 ?_
        rw [← Option.some.inj h]
        refine g_ireturn dX12_commitIs_106 rfl ⟨Nat.zero_le _, Nat.zero_le _⟩ ?_
        exact ⟨rfl, rfl, rfl⟩
      · replace h := gI_neg hs0 h
        by_cases hs1 : a2 = 1
        · replace h := gI_pos hs1 h
          refine g_tabIn (off := 57) (tgt := 107) dX12_commitIs_50 (by omega) (by omega) (by rw [hs1]; rfl) (by decide) ?_
          refine g_aload_n (q0 := 108) (j := 0) rfl dX12_commitIs_107 rfl ?_
          refine g_getp (q0 := 111) (b := 714) rfl ff_X12_16 dX12_commitIs_108 rfl hOK (by decide) (sh_711 hOK) rfl (by decide) ?_
          refine g_iload_n (q0 := 112) (j := 1) rfl dX12_commitIs_111 rfl ?_
          obtain ⟨g7, h⟩ := gI_gd h
          refine g_iald (q0 := 113) rfl dX12_commitIs_112 (sh_714 hOK) g7.1 g7.2 ?_
          rw [← Option.some.inj h]
          refine g_ireturn dX12_commitIs_113 rfl ⟨Nat.zero_le _, Nat.zero_le _⟩ ?_
          exact ⟨rfl, rfl, rfl⟩
        · replace h := gI_neg hs1 h
          by_cases hs2 : a2 = 2
          · replace h := gI_pos hs2 h
            refine g_tabIn (off := 64) (tgt := 114) dX12_commitIs_50 (by omega) (by omega) (by rw [hs2]; rfl) (by decide) ?_
            refine g_aload_n (q0 := 115) (j := 0) rfl dX12_commitIs_114 rfl ?_
            refine g_getp (q0 := 118) (b := 715) rfl ff_X12_19 dX12_commitIs_115 rfl hOK (by decide) (sh_711 hOK) rfl (by decide) ?_
            refine g_iload_n (q0 := 119) (j := 1) rfl dX12_commitIs_118 rfl ?_
            obtain ⟨g6, h⟩ := gI_gd h
            refine g_iald (q0 := 120) rfl dX12_commitIs_119 (sh_715 hOK) g6.1 g6.2 ?_
            rw [← Option.some.inj h]
            refine g_ireturn dX12_commitIs_120 rfl ⟨Nat.zero_le _, Nat.zero_le _⟩ ?_
            exact ⟨rfl, rfl, rfl⟩
          · replace h := gI_neg hs2 h
            by_cases hs3 : a2 = 3
            · replace h := gI_pos hs3 h
              refine g_tabIn (off := 71) (tgt := 121) dX12_commitIs_50 (by omega) (by omega) (by rw [hs3]; rfl) (by decide) ?_
              refine g_aload_n (q0 := 122) (j := 0) rfl dX12_commitIs_121 rfl ?_
              refine g_getp (q0 := 125) (b := 718) rfl ff_X12_28 dX12_commitIs_122 rfl hOK (by decide) (sh_711 hOK) rfl (by decide) ?_
              refine g_iload_n (q0 := 126) (j := 1) rfl dX12_commitIs_125 rfl ?_
              obtain ⟨g5, h⟩ := gI_gd h
              refine g_iald (q0 := 127) rfl dX12_commitIs_126 (sh_718 hOK) g5.1 g5.2 ?_
              rw [← Option.some.inj h]
              refine g_ireturn dX12_commitIs_127 rfl ⟨Nat.zero_le _, Nat.zero_le _⟩ ?_
              exact ⟨rfl, rfl, rfl⟩
            · replace h := gI_neg hs3 h
              by_cases hs4 : a2 = 4
              · replace h := gI_pos hs4 h
                refine g_tabIn (off := 78) (tgt := 128) dX12_commitIs_50 (by omega) (by omega) (by rw [hs4]; rfl) (by decide) ?_
                refine g_aload_n (q0 := 129) (j := 0) rfl dX12_commitIs_128 rfl ?_
                refine g_getp (q0 := 132) (b := 716) rfl ff_X12_22 dX12_commitIs_129 rfl hOK (by decide) (sh_711 hOK) rfl (by decide) ?_
                refine g_iload_n (q0 := 133) (j := 1) rfl dX12_commitIs_132 rfl ?_
                obtain ⟨g4, h⟩ := gI_gd h
                refine g_iald (q0 := 134) rfl dX12_commitIs_133 (sh_716 hOK) g4.1 g4.2 ?_
                rw [← Option.some.inj h]
                refine g_ireturn dX12_commitIs_134 rfl ⟨Nat.zero_le _, Nat.zero_le _⟩ ?_
                exact ⟨rfl, rfl, rfl⟩
              · replace h := gI_neg hs4 h
                by_cases hs5 : a2 = 5
                · replace h := gI_pos hs5 h
                  refine g_tabIn (off := 85) (tgt := 135) dX12_commitIs_50 (by omega) (by omega) (by rw [hs5]; rfl) (by decide) ?_
                  refine g_aload_n (q0 := 136) (j := 0) rfl dX12_commitIs_135 rfl ?_
                  obtain ⟨m136, e136, h⟩ := gI_bd h
                  refine g_callVq0 (as := []) (rest := []) mt_X12_laysHeights mi_X12_laysHeights se_X12_laysHeights ml_X12_233 dX12_commitIs_136 (q0 := 139) rfl rfl (sh_711 hOK) rfl rfl (ok_laysHeights hOK e136) rfl ⟨by decide, by decide⟩ (Nat.le_of_ble_eq_true rfl) ⟨Nat.zero_le _, Nat.zero_le _⟩ ?_
                  have hOK2 : gOK sh m136 := gOK_fr hOK (fr_laysHeights (b := m136) e136) (by first | decide | (intro a ha; simp only [List.mem_cons, List.not_mem_nil, or_false] at ha; omega)) (by decide)
                  refine g_aload_n (q0 := 140) (j := 0) rfl dX12_commitIs_139 rfl ?_
                  refine g_getp (q0 := 143) (b := 725) rfl ff_X12_50 dX12_commitIs_140 rfl hOK2 (by decide) (sh_711 hOK2) rfl (by decide) ?_
                  refine g_iload_n (q0 := 144) (j := 1) rfl dX12_commitIs_143 rfl ?_
                  obtain ⟨g3, h⟩ := gI_gd h
                  refine g_iald (q0 := 145) rfl dX12_commitIs_144 (sh_725 hOK2) g3.1 g3.2 ?_
                  rw [← Option.some.inj h]
                  refine g_ireturn dX12_commitIs_145 rfl ⟨Nat.zero_le _, Nat.zero_le _⟩ ?_
                  exact ⟨rfl, rfl, rfl⟩
                · replace h := gI_neg hs5 h
                  by_cases hs6 : a2 = 6
                  · replace h := gI_pos hs6 h
                    refine g_tabIn (off := 96) (tgt := 146) dX12_commitIs_50 (by omega) (by omega) (by rw [hs6]; rfl) (by decide) ?_
                    refine g_aload_n (q0 := 147) (j := 0) rfl dX12_commitIs_146 rfl ?_
                    refine g_aload_n (q0 := 148) (j := 0) rfl dX12_commitIs_147 rfl ?_
                    refine g_getp (q0 := 151) (b := 723) rfl ff_X12_43 dX12_commitIs_148 rfl hOK (by decide) (sh_711 hOK) rfl (by decide) ?_
                    refine g_iload_n (q0 := 152) (j := 1) rfl dX12_commitIs_151 rfl ?_
                    obtain ⟨m152, e152, h⟩ := gI_bd h
                    refine g_callVq0 (as := [_, _]) (rest := []) mt_X12_marksWithAncestors mi_X12_marksWithAncestors se_X12_marksWithAncestors ml_X12_213 dX12_commitIs_152 (q0 := 155) rfl rfl (sh_711 hOK) rfl rfl (ok_marksWithAncestors hOK e152) rfl ⟨by decide, by decide⟩ (Nat.le_of_ble_eq_true rfl) ⟨Nat.zero_le _, Nat.zero_le _⟩ ?_
                    have hOK1 : gOK sh m152 := gOK_fr hOK (fr_marksWithAncestors (b := m152) e152) (by first | decide | (intro a ha; simp only [List.mem_cons, List.not_mem_nil, or_false] at ha; omega)) (by decide)
                    refine g_aload_n (q0 := 156) (j := 0) rfl dX12_commitIs_155 rfl ?_
                    refine g_getp (q0 := 159) (b := 723) rfl ff_X12_43 dX12_commitIs_156 rfl hOK1 (by decide) (sh_711 hOK1) rfl (by decide) ?_
                    obtain ⟨r159, e159, h⟩ := gI_bd h
                    refine g_callSq1 (as := [_]) (rest := []) mt_X12_sizeOf ms_X12_sizeOf ml_X12_236 dX12_commitIs_159 (q0 := 162) rfl rfl (ok_sizeOf hOK1 e159) rfl ⟨by decide, by decide⟩ (Nat.le_of_ble_eq_true rfl) ⟨Nat.zero_le _, Nat.zero_le _⟩ ?_
                    refine g_iconst (q0 := 163) rfl dX12_commitIs_162 (k := ?_)
                    refine g_isubw (q0 := 164) rfl dX12_commitIs_163 ?_
                    rw [← Option.some.inj h]
                    refine g_ireturn dX12_commitIs_164 rfl ⟨Nat.zero_le _, Nat.zero_le _⟩ ?_
                    exact ⟨rfl, rfl, rfl⟩
                  · replace h := gI_neg hs6 h
                    by_cases hs7 : a2 = 7
                    · replace h := gI_pos hs7 h
                      refine g_tabIn (off := 115) (tgt := 165) dX12_commitIs_50 (by omega) (by omega) (by rw [hs7]; rfl) (by decide) ?_
                      refine g_aload_n (q0 := 166) (j := 0) rfl dX12_commitIs_165 rfl ?_
                      refine g_iload_n (q0 := 167) (j := 1) rfl dX12_commitIs_166 rfl ?_
                      obtain ⟨r167, e167, h⟩ := gI_bd h
                      refine g_callVq1 (as := [_]) (rest := []) mt_X12_children mi_X12_children se_X12_children ml_X12_240 dX12_commitIs_167 (q0 := 170) rfl rfl (sh_711 hOK) rfl rfl (ok_children hOK e167) rfl ⟨by decide, by decide⟩ (Nat.le_of_ble_eq_true rfl) ⟨Nat.zero_le _, Nat.zero_le _⟩ ?_
                      rw [← Option.some.inj h]
                      refine g_ireturn dX12_commitIs_170 rfl ⟨Nat.zero_le _, Nat.zero_le _⟩ ?_
                      exact ⟨rfl, rfl, rfl⟩
                    · replace h := gI_neg hs7 h
                      by_cases hs8 : a2 = 8
                      · replace h := gI_pos hs8 h
                        refine g_tabIn (off := 121) (tgt := 171) dX12_commitIs_50 (by omega) (by omega) (by rw [hs8]; rfl) (by decide) ?_
                        refine g_aload_n (q0 := 172) (j := 0) rfl dX12_commitIs_171 rfl ?_
                        refine g_iload_n (q0 := 173) (j := 1) rfl dX12_commitIs_172 rfl ?_
                        obtain ⟨r173, e173, h⟩ := gI_bd h
                        refine g_callVq1 (as := [_]) (rest := []) mt_X12_unlikeParent mi_X12_unlikeParent se_X12_unlikeParent ml_X12_243 dX12_commitIs_173 (q0 := 176) rfl rfl (sh_711 hOK) rfl rfl (ok_unlikeParent hOK e173) rfl ⟨by decide, by decide⟩ (Nat.le_of_ble_eq_true rfl) ⟨Nat.zero_le _, Nat.zero_le _⟩ ?_
                        rw [← Option.some.inj h]
                        refine g_ireturn dX12_commitIs_176 rfl ⟨Nat.zero_le _, Nat.zero_le _⟩ ?_
                        exact ⟨rfl, rfl, rfl⟩
                      · replace h := gI_neg hs8 h
                        refine g_tabOut (tgt := 177) dX12_commitIs_50 (by omega) (by decide) ?_
                        refine g_iconst (q0 := 178) rfl dX12_commitIs_177 (k := ?_)
                        rw [← Option.some.inj h]
                        refine g_ireturn dX12_commitIs_178 rfl ⟨Nat.zero_le _, Nat.zero_le _⟩ ?_
                        exact ⟨rfl, rfl, rfl⟩
    · replace h := gI_neg h18 h
      refine g_iload_n (q0 := 22) (j := 2) rfl dX12_commitIs_21 rfl ?_
      refine g_bipush (q0 := 24) rfl dX12_commitIs_22 (k := ?_)
      refine g_isubw (q0 := 25) rfl dX12_commitIs_24 ?_
      refine g_aload_n (q0 := 26) (j := 0) rfl dX12_commitIs_25 rfl ?_
      refine g_getp (q0 := 29) (b := 712) rfl ff_X12_7 dX12_commitIs_26 rfl hOK (by decide) (sh_711 hOK) rfl (by decide) ?_
      refine g_iload_n (q0 := 30) (j := 1) rfl dX12_commitIs_29 rfl ?_
      obtain ⟨g9, h⟩ := gI_gd h
      refine g_iald (q0 := 31) rfl dX12_commitIs_30 (sh_712 hOK) g9.1 g9.2 ?_
      refine g_icmp_ge (q0 := 34) (tgt := 46) rfl dX12_commitIs_31 (by decide) (fun h31 => ?_) (fun h31 => ?_)
      · replace h := gI_neg (Int.not_lt.mpr h31) h
        refine g_bipush (q0 := 48) rfl dX12_commitIs_46 (k := ?_)
        rw [← Option.some.inj h]
        refine g_ireturn dX12_commitIs_48 rfl ⟨Nat.zero_le _, Nat.zero_le _⟩ ?_
        exact ⟨rfl, rfl, rfl⟩
      · replace h := gI_pos h31 h
        refine g_aload_n (q0 := 35) (j := 0) rfl dX12_commitIs_34 rfl ?_
        refine g_iload_n (q0 := 36) (j := 1) rfl dX12_commitIs_35 rfl ?_
        refine g_iload_n (q0 := 37) (j := 2) rfl dX12_commitIs_36 rfl ?_
        refine g_bipush (q0 := 39) rfl dX12_commitIs_37 (k := ?_)
        refine g_isubw (q0 := 40) rfl dX12_commitIs_39 ?_
        obtain ⟨r40, e40, h⟩ := gI_bd h
        refine g_callVq1 (as := [_, _]) (rest := []) mt_X12_parentAt mi_X12_parentAt se_X12_parentAt ml_X12_192 dX12_commitIs_40 (q0 := 43) rfl rfl (sh_711 hOK) rfl rfl (ok_parentAt hOK e40) rfl ⟨by decide, by decide⟩ (Nat.le_of_ble_eq_true rfl) ⟨Nat.zero_le _, Nat.zero_le _⟩ ?_
        refine g_goto (tgt := 48) dX12_commitIs_43 (by decide) ?_
        rw [← Option.some.inj h]
        refine g_ireturn dX12_commitIs_48 rfl ⟨Nat.zero_le _, Nat.zero_le _⟩ ?_
        exact ⟨rfl, rfl, rfl⟩
  · replace h := gI_pos h5 h
    refine g_iconst (q0 := 9) rfl dX12_commitIs_8 (k := ?_)
    rw [← Option.some.inj h]
    refine g_ireturn dX12_commitIs_9 rfl ⟨Nat.zero_le _, Nat.zero_le _⟩ ?_
    exact ⟨rfl, rfl, rfl⟩
-- ==== ancestor
theorem dX12_ancestor_0 : decode cX12_ancestor 0 = .ok (.aload_n 0, 1) := by decide +kernel
theorem dX12_ancestor_1 : decode cX12_ancestor 1 = .ok (.iload_n 1, 1) := by decide +kernel
theorem dX12_ancestor_2 : decode cX12_ancestor 2 = .ok (.invokevirtual 229, 3) := by decide +kernel
theorem dX12_ancestor_5 : decode cX12_ancestor 5 = .ok (.ifCond .eq 28, 3) := by decide +kernel
theorem dX12_ancestor_8 : decode cX12_ancestor 8 = .ok (.aload_n 0, 1) := by decide +kernel
theorem dX12_ancestor_9 : decode cX12_ancestor 9 = .ok (.iload_n 2, 1) := by decide +kernel
theorem dX12_ancestor_10 : decode cX12_ancestor 10 = .ok (.invokevirtual 229, 3) := by decide +kernel
theorem dX12_ancestor_13 : decode cX12_ancestor 13 = .ok (.ifCond .eq 20, 3) := by decide +kernel
theorem dX12_ancestor_16 : decode cX12_ancestor 16 = .ok (.aload_n 0, 1) := by decide +kernel
theorem dX12_ancestor_17 : decode cX12_ancestor 17 = .ok (.iload_n 1, 1) := by decide +kernel
theorem dX12_ancestor_18 : decode cX12_ancestor 18 = .ok (.iload_n 2, 1) := by decide +kernel
theorem dX12_ancestor_19 : decode cX12_ancestor 19 = .ok (.invokevirtual 246, 3) := by decide +kernel
theorem dX12_ancestor_22 : decode cX12_ancestor 22 = .ok (.ifCond .eq 7, 3) := by decide +kernel
theorem dX12_ancestor_25 : decode cX12_ancestor 25 = .ok (.iconst 1, 1) := by decide +kernel
theorem dX12_ancestor_26 : decode cX12_ancestor 26 = .ok (.goto 8, 3) := by decide +kernel
theorem dX12_ancestor_29 : decode cX12_ancestor 29 = .ok (.iconst 0, 1) := by decide +kernel
theorem dX12_ancestor_30 : decode cX12_ancestor 30 = .ok (.goto 4, 3) := by decide +kernel
theorem dX12_ancestor_33 : decode cX12_ancestor 33 = .ok (.iconst (-1), 1) := by decide +kernel
theorem dX12_ancestor_34 : decode cX12_ancestor 34 = .ok (.ireturn, 1) := by decide +kernel
noncomputable def F_ancestor (M : gM) (a1 a2 : Int) : Option (Int × gM) := (Option.bind (F_isCommit M a1) (fun r2 =>
    (if r2 = 0 then
      some (-1, M)
    else
      (Option.bind (F_isCommit M a2) (fun r10 =>
        (if r10 = 0 then
          some (-1, M)
        else
          (Option.bind (F_isAncestor M a1 a2) (fun p19 =>
            (if p19.1 = 0 then
              some (0, p19.2)
            else
              some (1, p19.2))))))))))
theorem eq_ancestor (M : gM) (a1 a2 : Int) : F_ancestor M a1 a2 = (Option.bind (F_isCommit M a1) (fun r2 =>
    (if r2 = 0 then
      some (-1, M)
    else
      (Option.bind (F_isCommit M a2) (fun r10 =>
        (if r10 = 0 then
          some (-1, M)
        else
          (Option.bind (F_isAncestor M a1 a2) (fun p19 =>
            (if p19.1 = 0 then
              some (0, p19.2)
            else
              some (1, p19.2)))))))))) := rfl
theorem fr_ancestor {M : gM} {a1 a2 : Int} {b : Int × gM} (h : F_ancestor M a1 a2 = some b) : gFr [723] [] M b.2 := by
  rw [eq_ancestor] at h
  obtain ⟨r2, e2, h⟩ := gI_bd h
  rcases gI_or h with h | h
  · rw [← Option.some.inj h]
    exact (gFr_r [723] [] _)
  · obtain ⟨r10, e10, h⟩ := gI_bd h
    rcases gI_or h with h | h
    · rw [← Option.some.inj h]
      exact (gFr_r [723] [] _)
    · obtain ⟨p19, e19, h⟩ := gI_bd h
      rcases gI_or h with h | h
      · rw [← Option.some.inj h]
        exact (gFr_t (gFr_r [723] [] _) (fr_isAncestor (b := p19) e19) (by first | decide | simp) (by decide))
      · rw [← Option.some.inj h]
        exact (gFr_t (gFr_r [723] [] _) (fr_isAncestor (b := p19) e19) (by first | decide | simp) (by decide))
theorem ok_ancestor {sh : gS} {M : gM} {a1 a2 : Int} {b : Int × gM} (hOK : gOK sh M) (h : F_ancestor M a1 a2 = some b) : gC (gr 4 89) yX12_ancestor cX12_ancestor 3 (some (.int)) [(4, 711), (0, a1), (0, a2)] sh M (gPq sh (some (0, b.1)) b.2) := by
  rw [eq_ancestor] at h
  refine gC_ofA (lv := [_, _, _]) (by decide +kernel) (Nat.le_of_ble_eq_true rfl) rfl (fun hMw hav => ?_)
  refine g_aload_n (q0 := 1) (j := 0) rfl dX12_ancestor_0 rfl ?_
  refine g_iload_n (q0 := 2) (j := 1) rfl dX12_ancestor_1 rfl ?_
  obtain ⟨r2, e2, h⟩ := gI_bd h
  refine g_callVq1 (as := [_]) (rest := []) mt_X12_isCommit mi_X12_isCommit se_X12_isCommit ml_X12_229 dX12_ancestor_2 (q0 := 5) rfl rfl (sh_711 hOK) rfl rfl (ok_isCommit hOK e2) rfl ⟨by decide, by decide⟩ (Nat.le_of_ble_eq_true rfl) ⟨Nat.zero_le _, Nat.zero_le _⟩ ?_
  refine g_if_eq (q0 := 8) (tgt := 33) rfl dX12_ancestor_5 (by decide) (fun h5 => ?_) (fun h5 => ?_)
  · replace h := gI_pos h5 h
    refine g_iconst (q0 := 34) rfl dX12_ancestor_33 (k := ?_)
    rw [← Option.some.inj h]
    refine g_ireturn dX12_ancestor_34 rfl ⟨Nat.zero_le _, Nat.zero_le _⟩ ?_
    exact ⟨rfl, rfl, rfl⟩
  · replace h := gI_neg h5 h
    refine g_aload_n (q0 := 9) (j := 0) rfl dX12_ancestor_8 rfl ?_
    refine g_iload_n (q0 := 10) (j := 2) rfl dX12_ancestor_9 rfl ?_
    obtain ⟨r10, e10, h⟩ := gI_bd h
    refine g_callVq1 (as := [_]) (rest := []) mt_X12_isCommit mi_X12_isCommit se_X12_isCommit ml_X12_229 dX12_ancestor_10 (q0 := 13) rfl rfl (sh_711 hOK) rfl rfl (ok_isCommit hOK e10) rfl ⟨by decide, by decide⟩ (Nat.le_of_ble_eq_true rfl) ⟨Nat.zero_le _, Nat.zero_le _⟩ ?_
    refine g_if_eq (q0 := 16) (tgt := 33) rfl dX12_ancestor_13 (by decide) (fun h13 => ?_) (fun h13 => ?_)
    · replace h := gI_pos h13 h
      refine g_iconst (q0 := 34) rfl dX12_ancestor_33 (k := ?_)
      rw [← Option.some.inj h]
      refine g_ireturn dX12_ancestor_34 rfl ⟨Nat.zero_le _, Nat.zero_le _⟩ ?_
      exact ⟨rfl, rfl, rfl⟩
    · replace h := gI_neg h13 h
      refine g_aload_n (q0 := 17) (j := 0) rfl dX12_ancestor_16 rfl ?_
      refine g_iload_n (q0 := 18) (j := 1) rfl dX12_ancestor_17 rfl ?_
      refine g_iload_n (q0 := 19) (j := 2) rfl dX12_ancestor_18 rfl ?_
      obtain ⟨p19, e19, h⟩ := gI_bd h
      refine g_callVq1 (as := [_, _]) (rest := []) mt_X12_isAncestor mi_X12_isAncestor se_X12_isAncestor ml_X12_246 dX12_ancestor_19 (q0 := 22) rfl rfl (sh_711 hOK) rfl rfl (ok_isAncestor hOK e19) rfl ⟨by decide, by decide⟩ (Nat.le_of_ble_eq_true rfl) ⟨Nat.zero_le _, Nat.zero_le _⟩ ?_
      have hOK1 : gOK sh p19.2 := gOK_fr hOK (fr_isAncestor (b := p19) e19) (by first | decide | (intro a ha; simp only [List.mem_cons, List.not_mem_nil, or_false] at ha; omega)) (by decide)
      refine g_if_eq (q0 := 25) (tgt := 29) rfl dX12_ancestor_22 (by decide) (fun h22 => ?_) (fun h22 => ?_)
      · replace h := gI_pos h22 h
        refine g_iconst (q0 := 30) rfl dX12_ancestor_29 (k := ?_)
        refine g_goto (tgt := 34) dX12_ancestor_30 (by decide) ?_
        rw [← Option.some.inj h]
        refine g_ireturn dX12_ancestor_34 rfl ⟨Nat.zero_le _, Nat.zero_le _⟩ ?_
        exact ⟨rfl, rfl, rfl⟩
      · replace h := gI_neg h22 h
        refine g_iconst (q0 := 26) rfl dX12_ancestor_25 (k := ?_)
        refine g_goto (tgt := 34) dX12_ancestor_26 (by decide) ?_
        rw [← Option.some.inj h]
        refine g_ireturn dX12_ancestor_34 rfl ⟨Nat.zero_le _, Nat.zero_le _⟩ ?_
        exact ⟨rfl, rfl, rfl⟩
-- ==== types
theorem dX12_types_0 : decode cX12_types 0 = .ok (.iconst 3, 1) := by decide +kernel
theorem dX12_types_1 : decode cX12_types 1 = .ok (.istore_n 2, 1) := by decide +kernel
theorem dX12_types_2 : decode cX12_types 2 = .ok (.iload_n 2, 1) := by decide +kernel
theorem dX12_types_3 : decode cX12_types 3 = .ok (.ifCond .lt 35, 3) := by decide +kernel
theorem dX12_types_6 : decode cX12_types 6 = .ok (.aload_n 0, 1) := by decide +kernel
theorem dX12_types_7 : decode cX12_types 7 = .ok (.getfield 53, 3) := by decide +kernel
theorem dX12_types_10 : decode cX12_types 10 = .ok (.aload_n 0, 1) := by decide +kernel
theorem dX12_types_11 : decode cX12_types 11 = .ok (.getfield 249, 3) := by decide +kernel
theorem dX12_types_14 : decode cX12_types 14 = .ok (.iload_n 1, 1) := by decide +kernel
theorem dX12_types_15 : decode cX12_types 15 = .ok (.bipush 8, 2) := by decide +kernel
theorem dX12_types_17 : decode cX12_types 17 = .ok (.iload_n 2, 1) := by decide +kernel
theorem dX12_types_18 : decode cX12_types 18 = .ok (.imul, 1) := by decide +kernel
theorem dX12_types_19 : decode cX12_types 19 = .ok (.ishr, 1) := by decide +kernel
theorem dX12_types_20 : decode cX12_types 20 = .ok (.i2b, 1) := by decide +kernel
theorem dX12_types_21 : decode cX12_types 21 = .ok (.bastore, 1) := by decide +kernel
theorem dX12_types_22 : decode cX12_types 22 = .ok (.aload_n 0, 1) := by decide +kernel
theorem dX12_types_23 : decode cX12_types 23 = .ok (.aload_n 0, 1) := by decide +kernel
theorem dX12_types_24 : decode cX12_types 24 = .ok (.getfield 249, 3) := by decide +kernel
theorem dX12_types_27 : decode cX12_types 27 = .ok (.iconst 1, 1) := by decide +kernel
theorem dX12_types_28 : decode cX12_types 28 = .ok (.iadd, 1) := by decide +kernel
theorem dX12_types_29 : decode cX12_types 29 = .ok (.putfield 249, 3) := by decide +kernel
theorem dX12_types_32 : decode cX12_types 32 = .ok (.iinc 2 (-1), 3) := by decide +kernel
theorem dX12_types_35 : decode cX12_types 35 = .ok (.goto (-33), 3) := by decide +kernel
theorem dX12_types_38 : decode cX12_types 38 = .ok (.return_, 1) := by decide +kernel
noncomputable def st_types : Nat × List Int × gM → Option ((Nat × List Int × gM) ⊕ (gM))
  | (0, [x1, x2], M) => (if x2 < 0 then
      some (.inr M)
    else
      (if 0 ≤ (M 711 18) ∧ (M 711 18) < 260 then
        some (.inl (0, [x1, (gw32 (x2 + (-1)))], (gU (gU M 726 (M 711 18) (gi2b (gi2b (gshr x1 (gw32 ((8 : Int) * x2)))))) 711 18 (gw32 (((gU M 726 (M 711 18) (gi2b (gi2b (gshr x1 (gw32 ((8 : Int) * x2)))))) 711 18) + (1 : Int))))))
      else none))
  | _ => none
theorem sk_types_2 (k : Nat × List Int × gM → Option (gM)) (M : gM) (x1 x2 : Int) : gWk k (st_types (0, [x1, x2], M)) = (if x2 < 0 then
    some M
  else
    (if 0 ≤ (M 711 18) ∧ (M 711 18) < 260 then
      k (0, [x1, (gw32 (x2 + (-1)))], (gU (gU M 726 (M 711 18) (gi2b (gi2b (gshr x1 (gw32 ((8 : Int) * x2)))))) 711 18 (gw32 (((gU M 726 (M 711 18) (gi2b (gi2b (gshr x1 (gw32 ((8 : Int) * x2)))))) 711 18) + (1 : Int)))))
    else none)) := by
  simp only [st_types, gWk_ite, gWk_bind, gWk_inl, gWk_inr, gWk_none]
noncomputable def F_types_2 (M : gM) (x1 x2 : Int) : Option (gM) := gWh (st_types) (0, [x1, x2], M)
theorem eq_types_2 (M : gM) (x1 x2 : Int) : F_types_2 M x1 x2 = (if x2 < 0 then
    some M
  else
    (if 0 ≤ (M 711 18) ∧ (M 711 18) < 260 then
      F_types_2 (gU (gU M 726 (M 711 18) (gi2b (gi2b (gshr x1 (gw32 ((8 : Int) * x2)))))) 711 18 (gw32 (((gU M 726 (M 711 18) (gi2b (gi2b (gshr x1 (gw32 ((8 : Int) * x2)))))) 711 18) + (1 : Int)))) x1 (gw32 (x2 + (-1)))
    else none)) := (gWh_eq _).trans (sk_types_2 _ M x1 x2)
noncomputable def F_types (M : gM) (a1 : Int) : Option (gM) := F_types_2 M a1 3
theorem eq_types (M : gM) (a1 : Int) : F_types M a1 = F_types_2 M a1 3 := rfl
theorem frp_types : ∀ (s : Nat × List Int × gM) (b : gM), gWh (st_types) s = some b → (∀ (x1 x2 : Int) (M : gM), s = (0, [x1, x2], M) → gFr [726] [18] M b) := by
  refine gWh_ind (fun k hk s b h => ?_)
  · rintro x1 x2 M rfl
    rw [sk_types_2] at h
    rcases gI_or h with h | h
    · rw [← Option.some.inj h]
      exact (gFr_r [726] [18] _)
    · obtain ⟨g1, h⟩ := gI_gd h
      exact gFr_t (gFr_f (gFr_a (gFr_r [726] [18] _) (.head _) (by decide)) (.head _)) ((hk _ _ h) _ _ _ rfl) (fun _ z => z) (fun _ z => z)
theorem fr_types_2 {M : gM} {x1 x2 : Int} {b : gM} (h : F_types_2 M x1 x2 = some b) : gFr [726] [18] M b :=
  (frp_types _ _ h) _ _ _ rfl
theorem fr_types {M : gM} {a1 : Int} {b : gM} (h : F_types M a1 = some b) : gFr [726] [18] M b := by
  rw [eq_types] at h
  exact gFr_t (gFr_r [726] [18] _) (fr_types_2 h) (fun _ z => z) (fun _ z => z)
theorem okp_types {sh : gS} : ∀ (s : Nat × List Int × gM) (b : gM), gWh (st_types) s = some b → (∀ (x1 x2 : Int) (M : gM), s = (0, [x1, x2], M) → gOK sh M → gA (gr 0 0) yX12_types cX12_types 3 none (gPq sh none b) (0, 0) 2 [(4, 711), (0, x1), (0, x2)] [] sh M) := by
  refine gWh_ind (fun k hk s b h => ?_)
  · rintro x1 x2 M rfl hOK
    rw [sk_types_2] at h
    refine g_iload_n (q0 := 3) (j := 2) rfl dX12_types_2 rfl ?_
    refine g_if_lt (q0 := 6) (tgt := 38) rfl dX12_types_3 (by decide) (fun h3 => ?_) (fun h3 => ?_)
    · replace h := gI_pos h3 h
      rw [← Option.some.inj h]
      refine g_return dX12_types_38 rfl ⟨Nat.zero_le _, Nat.zero_le _⟩ ?_
      exact ⟨rfl, rfl, rfl⟩
    · replace h := gI_neg (Int.not_lt.mpr h3) h
      refine g_aload_n (q0 := 7) (j := 0) rfl dX12_types_6 rfl ?_
      refine g_getp (q0 := 10) (b := 726) rfl ff_X12_53 dX12_types_7 rfl hOK (by decide) (sh_711 hOK) rfl (by decide) ?_
      refine g_aload_n (q0 := 11) (j := 0) rfl dX12_types_10 rfl ?_
      refine g_getf (q0 := 14) (t := 0) (fi := 18) rfl rfl ff_X12_249 dX12_types_11 rfl (sh_711 hOK) ?_
      refine g_iload_n (q0 := 15) (j := 1) rfl dX12_types_14 rfl ?_
      refine g_bipush (q0 := 17) rfl dX12_types_15 (k := ?_)
      refine g_iload_n (q0 := 18) (j := 2) rfl dX12_types_17 rfl ?_
      refine g_imulw (q0 := 19) rfl dX12_types_18 ?_
      refine g_ishr (q0 := 20) rfl dX12_types_19 ?_
      refine g_i2b (q0 := 21) rfl dX12_types_20 ?_
      obtain ⟨g1, h⟩ := gI_gd h
      refine g_bast (q0 := 22) rfl dX12_types_21 (sh_726 hOK) g1.1 g1.2 ?_
      have hOK2 : gOK sh (gU M 726 (M 711 18) (gi2b (gi2b (gshr x1 (gw32 ((8 : Int) * x2)))))) := gOK_b hOK (sh_726 hOK)
      refine g_aload_n (q0 := 23) (j := 0) rfl dX12_types_22 rfl ?_
      refine g_aload_n (q0 := 24) (j := 0) rfl dX12_types_23 rfl ?_
      refine g_getf (q0 := 27) (t := 0) (fi := 18) rfl rfl ff_X12_249 dX12_types_24 rfl (sh_711 hOK2) ?_
      refine g_iconst (q0 := 28) rfl dX12_types_27 (k := ?_)
      refine g_iaddw (q0 := 29) rfl dX12_types_28 ?_
      refine g_put (q0 := 32) (t := 0) (fi := 18) rfl rfl ff_X12_249 dX12_types_29 rfl (sh_711 hOK2) rfl (fun _ => ⟨rfl, rfl⟩) ?_
      have hOK3 : gOK sh (gU (gU M 726 (M 711 18) (gi2b (gi2b (gshr x1 (gw32 ((8 : Int) * x2)))))) 711 18 (gw32 (((gU M 726 (M 711 18) (gi2b (gi2b (gshr x1 (gw32 ((8 : Int) * x2)))))) 711 18) + (1 : Int)))) := gOK_o hOK2 (sh_711 hOK2) (f := 18) rfl rfl
      refine g_iincw (q0 := 35) (lv2 := [_, _, _]) rfl dX12_types_32 rfl (by decide) rfl rfl ?_
      refine g_goto (tgt := 2) dX12_types_35 (by decide) ?_
      exact (hk _ _ h) _ _ _ rfl hOK3
theorem ok_types_2 {sh : gS} {M : gM} {x1 x2 : Int} {b : gM} (hOK : gOK sh M) (h : F_types_2 M x1 x2 = some b) : gA (gr 0 0) yX12_types cX12_types 3 none (gPq sh none b) (0, 0) 2 [(4, 711), (0, x1), (0, x2)] [] sh M :=
  (okp_types _ _ h) _ _ _ rfl hOK
theorem ok_types {sh : gS} {M : gM} {a1 : Int} {b : gM} (hOK : gOK sh M) (h : F_types M a1 = some b) : gC (gr 0 0) yX12_types cX12_types 3 none [(4, 711), (0, a1)] sh M (gPq sh none b) := by
  rw [eq_types] at h
  refine gC_ofA (lv := [_, _, _]) (by decide +kernel) (Nat.le_of_ble_eq_true rfl) rfl (fun hMw hav => ?_)
  refine g_iconst (q0 := 1) rfl dX12_types_0 (k := ?_)
  refine g_istore_n (q0 := 2) (j := 2) (lv2 := [_, _, _]) rfl dX12_types_1 (by decide) rfl rfl ?_
  exact ok_types_2 hOK h
-- ==== feed
theorem dX12_feed_0 : decode cX12_feed 0 = .ok (.aload_n 0, 1) := by decide +kernel
theorem dX12_feed_1 : decode cX12_feed 1 = .ok (.getfield 249, 3) := by decide +kernel
theorem dX12_feed_4 : decode cX12_feed 4 = .ok (.bipush 20, 2) := by decide +kernel
theorem dX12_feed_6 : decode cX12_feed 6 = .ok (.iadd, 1) := by decide +kernel
theorem dX12_feed_7 : decode cX12_feed 7 = .ok (.sipush 260, 3) := by decide +kernel
theorem dX12_feed_10 : decode cX12_feed 10 = .ok (.if_icmp .le 5, 3) := by decide +kernel
theorem dX12_feed_13 : decode cX12_feed 13 = .ok (.iconst (-1), 1) := by decide +kernel
theorem dX12_feed_14 : decode cX12_feed 14 = .ok (.ireturn, 1) := by decide +kernel
theorem dX12_feed_15 : decode cX12_feed 15 = .ok (.aload_n 0, 1) := by decide +kernel
theorem dX12_feed_16 : decode cX12_feed 16 = .ok (.iload_n 1, 1) := by decide +kernel
theorem dX12_feed_17 : decode cX12_feed 17 = .ok (.invokevirtual 252, 3) := by decide +kernel
theorem dX12_feed_20 : decode cX12_feed 20 = .ok (.aload_n 0, 1) := by decide +kernel
theorem dX12_feed_21 : decode cX12_feed 21 = .ok (.iload_n 2, 1) := by decide +kernel
theorem dX12_feed_22 : decode cX12_feed 22 = .ok (.invokevirtual 252, 3) := by decide +kernel
theorem dX12_feed_25 : decode cX12_feed 25 = .ok (.aload_n 0, 1) := by decide +kernel
theorem dX12_feed_26 : decode cX12_feed 26 = .ok (.iload_n 3, 1) := by decide +kernel
theorem dX12_feed_27 : decode cX12_feed 27 = .ok (.invokevirtual 252, 3) := by decide +kernel
theorem dX12_feed_30 : decode cX12_feed 30 = .ok (.aload_n 0, 1) := by decide +kernel
theorem dX12_feed_31 : decode cX12_feed 31 = .ok (.iload 4, 2) := by decide +kernel
theorem dX12_feed_33 : decode cX12_feed 33 = .ok (.invokevirtual 252, 3) := by decide +kernel
theorem dX12_feed_36 : decode cX12_feed 36 = .ok (.aload_n 0, 1) := by decide +kernel
theorem dX12_feed_37 : decode cX12_feed 37 = .ok (.iload 5, 2) := by decide +kernel
theorem dX12_feed_39 : decode cX12_feed 39 = .ok (.invokevirtual 252, 3) := by decide +kernel
theorem dX12_feed_42 : decode cX12_feed 42 = .ok (.aload_n 0, 1) := by decide +kernel
theorem dX12_feed_43 : decode cX12_feed 43 = .ok (.getfield 249, 3) := by decide +kernel
theorem dX12_feed_46 : decode cX12_feed 46 = .ok (.ireturn, 1) := by decide +kernel
noncomputable def F_feed (M : gM) (a1 a2 a3 a4 a5 : Int) : Option (Int × gM) := (if (260 : Int) < (gw32 ((M 711 18) + (20 : Int))) then
    some (-1, M)
  else
    (Option.bind (F_types M a1) (fun m17 =>
      (Option.bind (F_types m17 a2) (fun m22 =>
        (Option.bind (F_types m22 a3) (fun m27 =>
          (Option.bind (F_types m27 a4) (fun m33 =>
            (Option.bind (F_types m33 a5) (fun m39 =>
              some ((m39 711 18), m39))))))))))))
theorem eq_feed (M : gM) (a1 a2 a3 a4 a5 : Int) : F_feed M a1 a2 a3 a4 a5 = (if (260 : Int) < (gw32 ((M 711 18) + (20 : Int))) then
    some (-1, M)
  else
    (Option.bind (F_types M a1) (fun m17 =>
      (Option.bind (F_types m17 a2) (fun m22 =>
        (Option.bind (F_types m22 a3) (fun m27 =>
          (Option.bind (F_types m27 a4) (fun m33 =>
            (Option.bind (F_types m33 a5) (fun m39 =>
              some ((m39 711 18), m39)))))))))))) := rfl
theorem fr_feed {M : gM} {a1 a2 a3 a4 a5 : Int} {b : Int × gM} (h : F_feed M a1 a2 a3 a4 a5 = some b) : gFr [726] [18] M b.2 := by
  rw [eq_feed] at h
  rcases gI_or h with h | h
  · rw [← Option.some.inj h]
    exact (gFr_r [726] [18] _)
  · obtain ⟨m17, e17, h⟩ := gI_bd h
    obtain ⟨m22, e22, h⟩ := gI_bd h
    obtain ⟨m27, e27, h⟩ := gI_bd h
    obtain ⟨m33, e33, h⟩ := gI_bd h
    obtain ⟨m39, e39, h⟩ := gI_bd h
    rw [← Option.some.inj h]
    exact (gFr_t (gFr_t (gFr_t (gFr_t (gFr_t (gFr_r [726] [18] _) (fr_types (b := m17) e17) (by first | decide | simp) (by decide)) (fr_types (b := m22) e22) (by first | decide | simp) (by decide)) (fr_types (b := m27) e27) (by first | decide | simp) (by decide)) (fr_types (b := m33) e33) (by first | decide | simp) (by decide)) (fr_types (b := m39) e39) (by first | decide | simp) (by decide))
theorem ok_feed {sh : gS} {M : gM} {a1 a2 a3 a4 a5 : Int} {b : Int × gM} (hOK : gOK sh M) (h : F_feed M a1 a2 a3 a4 a5 = some b) : gC (gr 1 22) yX12_feed cX12_feed 6 (some (.int)) [(4, 711), (0, a1), (0, a2), (0, a3), (0, a4), (0, a5)] sh M (gPq sh (some (0, b.1)) b.2) := by
  rw [eq_feed] at h
  refine gC_ofA (lv := [_, _, _, _, _, _]) (by decide +kernel) (Nat.le_of_ble_eq_true rfl) rfl (fun hMw hav => ?_)
  refine g_aload_n (q0 := 1) (j := 0) rfl dX12_feed_0 rfl ?_
  refine g_getf (q0 := 4) (t := 0) (fi := 18) rfl rfl ff_X12_249 dX12_feed_1 rfl (sh_711 hOK) ?_
  refine g_bipush (q0 := 6) rfl dX12_feed_4 (k := ?_)
  refine g_iaddw (q0 := 7) rfl dX12_feed_6 ?_
  refine g_sipush (q0 := 10) rfl dX12_feed_7 (k := ?_)
  refine g_icmp_le (q0 := 13) (tgt := 15) rfl dX12_feed_10 (by decide) (fun h10 => ?_) (fun h10 => ?_)
  · replace h := gI_neg (Int.not_lt.mpr h10) h
    refine g_aload_n (q0 := 16) (j := 0) rfl dX12_feed_15 rfl ?_
    refine g_iload_n (q0 := 17) (j := 1) rfl dX12_feed_16 rfl ?_
    obtain ⟨m17, e17, h⟩ := gI_bd h
    refine g_callVq0 (as := [_]) (rest := []) mt_X12_types mi_X12_types se_X12_types ml_X12_252 dX12_feed_17 (q0 := 20) rfl rfl (sh_711 hOK) rfl rfl (ok_types hOK e17) rfl ⟨by decide, by decide⟩ (Nat.le_of_ble_eq_true rfl) ⟨Nat.zero_le _, Nat.zero_le _⟩ ?_
    have hOK1 : gOK sh m17 := gOK_fr hOK (fr_types (b := m17) e17) (by first | decide | (intro a ha; simp only [List.mem_cons, List.not_mem_nil, or_false] at ha; omega)) (by decide)
    refine g_aload_n (q0 := 21) (j := 0) rfl dX12_feed_20 rfl ?_
    refine g_iload_n (q0 := 22) (j := 2) rfl dX12_feed_21 rfl ?_
    obtain ⟨m22, e22, h⟩ := gI_bd h
    refine g_callVq0 (as := [_]) (rest := []) mt_X12_types mi_X12_types se_X12_types ml_X12_252 dX12_feed_22 (q0 := 25) rfl rfl (sh_711 hOK1) rfl rfl (ok_types hOK1 e22) rfl ⟨by decide, by decide⟩ (Nat.le_of_ble_eq_true rfl) ⟨Nat.zero_le _, Nat.zero_le _⟩ ?_
    have hOK2 : gOK sh m22 := gOK_fr hOK1 (fr_types (b := m22) e22) (by first | decide | (intro a ha; simp only [List.mem_cons, List.not_mem_nil, or_false] at ha; omega)) (by decide)
    refine g_aload_n (q0 := 26) (j := 0) rfl dX12_feed_25 rfl ?_
    refine g_iload_n (q0 := 27) (j := 3) rfl dX12_feed_26 rfl ?_
    obtain ⟨m27, e27, h⟩ := gI_bd h
    refine g_callVq0 (as := [_]) (rest := []) mt_X12_types mi_X12_types se_X12_types ml_X12_252 dX12_feed_27 (q0 := 30) rfl rfl (sh_711 hOK2) rfl rfl (ok_types hOK2 e27) rfl ⟨by decide, by decide⟩ (Nat.le_of_ble_eq_true rfl) ⟨Nat.zero_le _, Nat.zero_le _⟩ ?_
    have hOK3 : gOK sh m27 := gOK_fr hOK2 (fr_types (b := m27) e27) (by first | decide | (intro a ha; simp only [List.mem_cons, List.not_mem_nil, or_false] at ha; omega)) (by decide)
    refine g_aload_n (q0 := 31) (j := 0) rfl dX12_feed_30 rfl ?_
    refine g_iload (q0 := 33) (j := 4) rfl dX12_feed_31 rfl ?_
    obtain ⟨m33, e33, h⟩ := gI_bd h
    refine g_callVq0 (as := [_]) (rest := []) mt_X12_types mi_X12_types se_X12_types ml_X12_252 dX12_feed_33 (q0 := 36) rfl rfl (sh_711 hOK3) rfl rfl (ok_types hOK3 e33) rfl ⟨by decide, by decide⟩ (Nat.le_of_ble_eq_true rfl) ⟨Nat.zero_le _, Nat.zero_le _⟩ ?_
    have hOK4 : gOK sh m33 := gOK_fr hOK3 (fr_types (b := m33) e33) (by first | decide | (intro a ha; simp only [List.mem_cons, List.not_mem_nil, or_false] at ha; omega)) (by decide)
    refine g_aload_n (q0 := 37) (j := 0) rfl dX12_feed_36 rfl ?_
    refine g_iload (q0 := 39) (j := 5) rfl dX12_feed_37 rfl ?_
    obtain ⟨m39, e39, h⟩ := gI_bd h
    refine g_callVq0 (as := [_]) (rest := []) mt_X12_types mi_X12_types se_X12_types ml_X12_252 dX12_feed_39 (q0 := 42) rfl rfl (sh_711 hOK4) rfl rfl (ok_types hOK4 e39) rfl ⟨by decide, by decide⟩ (Nat.le_of_ble_eq_true rfl) ⟨Nat.zero_le _, Nat.zero_le _⟩ ?_
    have hOK5 : gOK sh m39 := gOK_fr hOK4 (fr_types (b := m39) e39) (by first | decide | (intro a ha; simp only [List.mem_cons, List.not_mem_nil, or_false] at ha; omega)) (by decide)
    refine g_aload_n (q0 := 43) (j := 0) rfl dX12_feed_42 rfl ?_
    refine g_getf (q0 := 46) (t := 0) (fi := 18) rfl rfl ff_X12_249 dX12_feed_43 rfl (sh_711 hOK5) ?_
    rw [← Option.some.inj h]
    refine g_ireturn dX12_feed_46 rfl ⟨Nat.zero_le _, Nat.zero_le _⟩ ?_
    exact ⟨rfl, rfl, rfl⟩
  · replace h := gI_pos h10 h
    refine g_iconst (q0 := 14) rfl dX12_feed_13 (k := ?_)
    rw [← Option.some.inj h]
    refine g_ireturn dX12_feed_14 rfl ⟨Nat.zero_le _, Nat.zero_le _⟩ ?_
    exact ⟨rfl, rfl, rfl⟩
-- ==== here
theorem dX12_here_0 : decode cX12_here 0 = .ok (.aload_n 0, 1) := by decide +kernel
theorem dX12_here_1 : decode cX12_here 1 = .ok (.getfield 256, 3) := by decide +kernel
theorem dX12_here_4 : decode cX12_here 4 = .ok (.aload_n 0, 1) := by decide +kernel
theorem dX12_here_5 : decode cX12_here 5 = .ok (.getfield 259, 3) := by decide +kernel
theorem dX12_here_8 : decode cX12_here 8 = .ok (.if_icmp .ge 19, 3) := by decide +kernel
theorem dX12_here_11 : decode cX12_here 11 = .ok (.aload_n 0, 1) := by decide +kernel
theorem dX12_here_12 : decode cX12_here 12 = .ok (.getfield 53, 3) := by decide +kernel
theorem dX12_here_15 : decode cX12_here 15 = .ok (.aload_n 0, 1) := by decide +kernel
theorem dX12_here_16 : decode cX12_here 16 = .ok (.getfield 256, 3) := by decide +kernel
theorem dX12_here_19 : decode cX12_here 19 = .ok (.baload, 1) := by decide +kernel
theorem dX12_here_20 : decode cX12_here 20 = .ok (.sipush 255, 3) := by decide +kernel
theorem dX12_here_23 : decode cX12_here 23 = .ok (.iand, 1) := by decide +kernel
theorem dX12_here_24 : decode cX12_here 24 = .ok (.goto 4, 3) := by decide +kernel
theorem dX12_here_27 : decode cX12_here 27 = .ok (.iconst (-1), 1) := by decide +kernel
theorem dX12_here_28 : decode cX12_here 28 = .ok (.ireturn, 1) := by decide +kernel
noncomputable def F_here (M : gM) : Option (Int) := (if (M 711 19) < (M 711 20) then
    (if 0 ≤ (M 711 19) ∧ (M 711 19) < 260 then
      some (gand (M 726 (M 711 19)) 255)
    else none)
  else
    some (-1))
theorem eq_here (M : gM) : F_here M = (if (M 711 19) < (M 711 20) then
    (if 0 ≤ (M 711 19) ∧ (M 711 19) < 260 then
      some (gand (M 726 (M 711 19)) 255)
    else none)
  else
    some (-1)) := rfl
theorem ok_here {sh : gS} {M : gM} {b : Int} (hOK : gOK sh M) (h : F_here M = some b) : gC (gr 0 0) yX12_here cX12_here 1 (some (.int)) [(4, 711)] sh M (gPq sh (some (0, b)) M) := by
  rw [eq_here] at h
  refine gC_ofA (lv := [_]) (by decide +kernel) (Nat.le_of_ble_eq_true rfl) rfl (fun hMw hav => ?_)
  refine g_aload_n (q0 := 1) (j := 0) rfl dX12_here_0 rfl ?_
  refine g_getf (q0 := 4) (t := 0) (fi := 19) rfl rfl ff_X12_256 dX12_here_1 rfl (sh_711 hOK) ?_
  refine g_aload_n (q0 := 5) (j := 0) rfl dX12_here_4 rfl ?_
  refine g_getf (q0 := 8) (t := 0) (fi := 20) rfl rfl ff_X12_259 dX12_here_5 rfl (sh_711 hOK) ?_
  refine g_icmp_ge (q0 := 11) (tgt := 27) rfl dX12_here_8 (by decide) (fun h8 => ?_) (fun h8 => ?_)
  · replace h := gI_neg (Int.not_lt.mpr h8) h
    refine g_iconst (q0 := 28) rfl dX12_here_27 (k := ?_)
    rw [← Option.some.inj h]
    refine g_ireturn dX12_here_28 rfl ⟨Nat.zero_le _, Nat.zero_le _⟩ ?_
    exact ⟨rfl, rfl, rfl⟩
  · replace h := gI_pos h8 h
    refine g_aload_n (q0 := 12) (j := 0) rfl dX12_here_11 rfl ?_
    refine g_getp (q0 := 15) (b := 726) rfl ff_X12_53 dX12_here_12 rfl hOK (by decide) (sh_711 hOK) rfl (by decide) ?_
    refine g_aload_n (q0 := 16) (j := 0) rfl dX12_here_15 rfl ?_
    refine g_getf (q0 := 19) (t := 0) (fi := 19) rfl rfl ff_X12_256 dX12_here_16 rfl (sh_711 hOK) ?_
    obtain ⟨g1, h⟩ := gI_gd h
    refine g_bald (q0 := 20) rfl dX12_here_19 (sh_726 hOK) g1.1 g1.2 ?_
    refine g_sipush (q0 := 23) rfl dX12_here_20 (k := ?_)
    refine g_iand (q0 := 24) rfl dX12_here_23 ?_
    refine g_goto (tgt := 28) dX12_here_24 (by decide) ?_
    rw [← Option.some.inj h]
    refine g_ireturn dX12_here_28 rfl ⟨Nat.zero_le _, Nat.zero_le _⟩ ?_
    exact ⟨rfl, rfl, rfl⟩
-- ==== wrongAt
theorem dX12_wrongAt_0 : decode cX12_wrongAt 0 = .ok (.aload_n 0, 1) := by decide +kernel
theorem dX12_wrongAt_1 : decode cX12_wrongAt 1 = .ok (.sipush (-1000), 3) := by decide +kernel
theorem dX12_wrongAt_4 : decode cX12_wrongAt 4 = .ok (.iload_n 1, 1) := by decide +kernel
theorem dX12_wrongAt_5 : decode cX12_wrongAt 5 = .ok (.imul, 1) := by decide +kernel
theorem dX12_wrongAt_6 : decode cX12_wrongAt 6 = .ok (.iload_n 2, 1) := by decide +kernel
theorem dX12_wrongAt_7 : decode cX12_wrongAt 7 = .ok (.isub, 1) := by decide +kernel
theorem dX12_wrongAt_8 : decode cX12_wrongAt 8 = .ok (.putfield 262, 3) := by decide +kernel
theorem dX12_wrongAt_11 : decode cX12_wrongAt 11 = .ok (.iconst 0, 1) := by decide +kernel
theorem dX12_wrongAt_12 : decode cX12_wrongAt 12 = .ok (.ireturn, 1) := by decide +kernel
noncomputable def F_wrongAt (M : gM) (a1 a2 : Int) : Option (Int × gM) := some (0, (gU M 711 21 (gw32 ((gw32 ((-1000 : Int) * a1)) - a2))))
theorem eq_wrongAt (M : gM) (a1 a2 : Int) : F_wrongAt M a1 a2 = some (0, (gU M 711 21 (gw32 ((gw32 ((-1000 : Int) * a1)) - a2)))) := rfl
theorem fr_wrongAt {M : gM} {a1 a2 : Int} {b : Int × gM} (h : F_wrongAt M a1 a2 = some b) : gFr [] [21] M b.2 := by
  rw [eq_wrongAt] at h
  rw [← Option.some.inj h]
  exact (gFr_f (gFr_r [] [21] _) (.head _))
theorem bo_wrongAt {M : gM} {a1 a2 : Int} {b : Int × gM} (h : F_wrongAt M a1 a2 = some b) : b.1 = 0 ∨ b.1 = 1 := by
  rw [eq_wrongAt] at h
  rw [← Option.some.inj h]
  exact (Or.inl rfl)
theorem ok_wrongAt {sh : gS} {M : gM} {a1 a2 : Int} {b : Int × gM} (hOK : gOK sh M) (h : F_wrongAt M a1 a2 = some b) : gC (gr 0 0) yX12_wrongAt cX12_wrongAt 3 (some (.boolean)) [(4, 711), (0, a1), (0, a2)] sh M (gPq sh (some (0, b.1)) b.2) := by
  rw [eq_wrongAt] at h
  refine gC_ofA (lv := [_, _, _]) (by decide +kernel) (Nat.le_of_ble_eq_true rfl) rfl (fun hMw hav => ?_)
  refine g_aload_n (q0 := 1) (j := 0) rfl dX12_wrongAt_0 rfl ?_
  refine g_sipush (q0 := 4) rfl dX12_wrongAt_1 (k := ?_)
  refine g_iload_n (q0 := 5) (j := 1) rfl dX12_wrongAt_4 rfl ?_
  refine g_imulw (q0 := 6) rfl dX12_wrongAt_5 ?_
  refine g_iload_n (q0 := 7) (j := 2) rfl dX12_wrongAt_6 rfl ?_
  refine g_isubw (q0 := 8) rfl dX12_wrongAt_7 ?_
  refine g_put (q0 := 11) (t := 0) (fi := 21) rfl rfl ff_X12_262 dX12_wrongAt_8 rfl (sh_711 hOK) rfl (fun _ => ⟨rfl, rfl⟩) ?_
  have hOK1 : gOK sh (gU M 711 21 (gw32 ((gw32 ((-1000 : Int) * a1)) - a2))) := gOK_o hOK (sh_711 hOK) (f := 21) rfl rfl
  refine g_iconst (q0 := 12) rfl dX12_wrongAt_11 (k := ?_)
  rw [← Option.some.inj h]
  refine g_zreturn dX12_wrongAt_12 rfl (gnz (Or.inl rfl)) ⟨Nat.zero_le _, Nat.zero_le _⟩ ?_
  exact ⟨rfl, rfl, rfl⟩
-- ==== isDigit
theorem dX12_isDigit_0 : decode cX12_isDigit 0 = .ok (.iload_n 0, 1) := by decide +kernel
theorem dX12_isDigit_1 : decode cX12_isDigit 1 = .ok (.bipush 48, 2) := by decide +kernel
theorem dX12_isDigit_3 : decode cX12_isDigit 3 = .ok (.bipush 57, 2) := by decide +kernel
theorem dX12_isDigit_5 : decode cX12_isDigit 5 = .ok (.invokestatic 182, 3) := by decide +kernel
theorem dX12_isDigit_8 : decode cX12_isDigit 8 = .ok (.ireturn, 1) := by decide +kernel
noncomputable def F_isDigit (a0 : Int) : Option (Int) := (Option.bind (F_in a0 48 57) (fun r5 =>
    some r5))
theorem eq_isDigit (a0 : Int) : F_isDigit a0 = (Option.bind (F_in a0 48 57) (fun r5 =>
    some r5)) := rfl
theorem bo_isDigit {a0 : Int} {b : Int} (h : F_isDigit a0 = some b) : b = 0 ∨ b = 1 := by
  rw [eq_isDigit] at h
  obtain ⟨r5, e5, h⟩ := gI_bd h
  rw [← Option.some.inj h]
  exact (bo_in (b := r5) e5)
theorem ok_isDigit {sh : gS} {M : gM} {a0 : Int} {b : Int} (hOK : gOK sh M) (h : F_isDigit a0 = some b) : gC (gr 1 22) yX12_isDigit cX12_isDigit 1 (some (.boolean)) [(0, a0)] sh M (gPq sh (some (0, b)) M) := by
  rw [eq_isDigit] at h
  refine gC_ofA (lv := [_]) (by decide +kernel) (Nat.le_of_ble_eq_true rfl) rfl (fun hMw hav => ?_)
  refine g_iload_n (q0 := 1) (j := 0) rfl dX12_isDigit_0 rfl ?_
  refine g_bipush (q0 := 3) rfl dX12_isDigit_1 (k := ?_)
  refine g_bipush (q0 := 5) rfl dX12_isDigit_3 (k := ?_)
  obtain ⟨r5, e5, h⟩ := gI_bd h
  refine g_callSq1 (as := [_, _, _]) (rest := []) mt_X12_in ms_X12_in ml_X12_182 dX12_isDigit_5 (q0 := 8) rfl rfl (ok_in hOK e5) rfl ⟨by decide, by decide⟩ (Nat.le_of_ble_eq_true rfl) ⟨Nat.zero_le _, Nat.zero_le _⟩ ?_
  rw [← Option.some.inj h]
  refine g_zreturn dX12_isDigit_8 rfl (gnz (bo_in (b := r5) e5)) ⟨Nat.zero_le _, Nat.zero_le _⟩ ?_
  exact ⟨rfl, rfl, rfl⟩
-- ==== isSmall
theorem dX12_isSmall_0 : decode cX12_isSmall 0 = .ok (.iload_n 0, 1) := by decide +kernel
theorem dX12_isSmall_1 : decode cX12_isSmall 1 = .ok (.bipush 97, 2) := by decide +kernel
theorem dX12_isSmall_3 : decode cX12_isSmall 3 = .ok (.bipush 122, 2) := by decide +kernel
theorem dX12_isSmall_5 : decode cX12_isSmall 5 = .ok (.invokestatic 182, 3) := by decide +kernel
theorem dX12_isSmall_8 : decode cX12_isSmall 8 = .ok (.ireturn, 1) := by decide +kernel
noncomputable def F_isSmall (a0 : Int) : Option (Int) := (Option.bind (F_in a0 97 122) (fun r5 =>
    some r5))
theorem eq_isSmall (a0 : Int) : F_isSmall a0 = (Option.bind (F_in a0 97 122) (fun r5 =>
    some r5)) := rfl
theorem bo_isSmall {a0 : Int} {b : Int} (h : F_isSmall a0 = some b) : b = 0 ∨ b = 1 := by
  rw [eq_isSmall] at h
  obtain ⟨r5, e5, h⟩ := gI_bd h
  rw [← Option.some.inj h]
  exact (bo_in (b := r5) e5)
theorem ok_isSmall {sh : gS} {M : gM} {a0 : Int} {b : Int} (hOK : gOK sh M) (h : F_isSmall a0 = some b) : gC (gr 1 22) yX12_isSmall cX12_isSmall 1 (some (.boolean)) [(0, a0)] sh M (gPq sh (some (0, b)) M) := by
  rw [eq_isSmall] at h
  refine gC_ofA (lv := [_]) (by decide +kernel) (Nat.le_of_ble_eq_true rfl) rfl (fun hMw hav => ?_)
  refine g_iload_n (q0 := 1) (j := 0) rfl dX12_isSmall_0 rfl ?_
  refine g_bipush (q0 := 3) rfl dX12_isSmall_1 (k := ?_)
  refine g_bipush (q0 := 5) rfl dX12_isSmall_3 (k := ?_)
  obtain ⟨r5, e5, h⟩ := gI_bd h
  refine g_callSq1 (as := [_, _, _]) (rest := []) mt_X12_in ms_X12_in ml_X12_182 dX12_isSmall_5 (q0 := 8) rfl rfl (ok_in hOK e5) rfl ⟨by decide, by decide⟩ (Nat.le_of_ble_eq_true rfl) ⟨Nat.zero_le _, Nat.zero_le _⟩ ?_
  rw [← Option.some.inj h]
  refine g_zreturn dX12_isSmall_8 rfl (gnz (bo_in (b := r5) e5)) ⟨Nat.zero_le _, Nat.zero_le _⟩ ?_
  exact ⟨rfl, rfl, rfl⟩
-- ==== takesSign
theorem dX12_takesSign_0 : decode cX12_takesSign 0 = .ok (.aload_n 0, 1) := by decide +kernel
theorem dX12_takesSign_1 : decode cX12_takesSign 1 = .ok (.invokevirtual 265, 3) := by decide +kernel
theorem dX12_takesSign_4 : decode cX12_takesSign 4 = .ok (.iload_n 1, 1) := by decide +kernel
theorem dX12_takesSign_5 : decode cX12_takesSign 5 = .ok (.if_icmp .eq 13, 3) := by decide +kernel
theorem dX12_takesSign_8 : decode cX12_takesSign 8 = .ok (.aload_n 0, 1) := by decide +kernel
theorem dX12_takesSign_9 : decode cX12_takesSign 9 = .ok (.iconst 1, 1) := by decide +kernel
theorem dX12_takesSign_10 : decode cX12_takesSign 10 = .ok (.aload_n 0, 1) := by decide +kernel
theorem dX12_takesSign_11 : decode cX12_takesSign 11 = .ok (.getfield 256, 3) := by decide +kernel
theorem dX12_takesSign_14 : decode cX12_takesSign 14 = .ok (.invokevirtual 269, 3) := by decide +kernel
theorem dX12_takesSign_17 : decode cX12_takesSign 17 = .ok (.ireturn, 1) := by decide +kernel
theorem dX12_takesSign_18 : decode cX12_takesSign 18 = .ok (.aload_n 0, 1) := by decide +kernel
theorem dX12_takesSign_19 : decode cX12_takesSign 19 = .ok (.aload_n 0, 1) := by decide +kernel
theorem dX12_takesSign_20 : decode cX12_takesSign 20 = .ok (.getfield 256, 3) := by decide +kernel
theorem dX12_takesSign_23 : decode cX12_takesSign 23 = .ok (.iconst 1, 1) := by decide +kernel
theorem dX12_takesSign_24 : decode cX12_takesSign 24 = .ok (.iadd, 1) := by decide +kernel
theorem dX12_takesSign_25 : decode cX12_takesSign 25 = .ok (.putfield 256, 3) := by decide +kernel
theorem dX12_takesSign_28 : decode cX12_takesSign 28 = .ok (.iconst 1, 1) := by decide +kernel
theorem dX12_takesSign_29 : decode cX12_takesSign 29 = .ok (.ireturn, 1) := by decide +kernel
noncomputable def F_takesSign (M : gM) (a1 : Int) : Option (Int × gM) := (Option.bind (F_here M) (fun r1 =>
    (if r1 = a1 then
      some (1, (gU M 711 19 (gw32 ((M 711 19) + (1 : Int)))))
    else
      (Option.bind (F_wrongAt M 1 (M 711 19)) (fun p14 =>
        some (p14.1, p14.2))))))
theorem eq_takesSign (M : gM) (a1 : Int) : F_takesSign M a1 = (Option.bind (F_here M) (fun r1 =>
    (if r1 = a1 then
      some (1, (gU M 711 19 (gw32 ((M 711 19) + (1 : Int)))))
    else
      (Option.bind (F_wrongAt M 1 (M 711 19)) (fun p14 =>
        some (p14.1, p14.2)))))) := rfl
theorem fr_takesSign {M : gM} {a1 : Int} {b : Int × gM} (h : F_takesSign M a1 = some b) : gFr [] [19, 21] M b.2 := by
  rw [eq_takesSign] at h
  obtain ⟨r1, e1, h⟩ := gI_bd h
  rcases gI_or h with h | h
  · rw [← Option.some.inj h]
    exact (gFr_f (gFr_r [] [19, 21] _) (.head _))
  · obtain ⟨p14, e14, h⟩ := gI_bd h
    rw [← Option.some.inj h]
    exact (gFr_t (gFr_r [] [19, 21] _) (fr_wrongAt (b := p14) e14) (by first | decide | simp) (by decide))
theorem bo_takesSign {M : gM} {a1 : Int} {b : Int × gM} (h : F_takesSign M a1 = some b) : b.1 = 0 ∨ b.1 = 1 := by
  rw [eq_takesSign] at h
  obtain ⟨r1, e1, h⟩ := gI_bd h
  rcases gI_or h with h | h
  · rw [← Option.some.inj h]
    exact (Or.inr rfl)
  · obtain ⟨p14, e14, h⟩ := gI_bd h
    rw [← Option.some.inj h]
    exact (bo_wrongAt (b := p14) e14)
theorem ok_takesSign {sh : gS} {M : gM} {a1 : Int} {b : Int × gM} (hOK : gOK sh M) (h : F_takesSign M a1 = some b) : gC (gr 1 22) yX12_takesSign cX12_takesSign 2 (some (.boolean)) [(4, 711), (0, a1)] sh M (gPq sh (some (0, b.1)) b.2) := by
  rw [eq_takesSign] at h
  refine gC_ofA (lv := [_, _]) (by decide +kernel) (Nat.le_of_ble_eq_true rfl) rfl (fun hMw hav => ?_)
  refine g_aload_n (q0 := 1) (j := 0) rfl dX12_takesSign_0 rfl ?_
  obtain ⟨r1, e1, h⟩ := gI_bd h
  refine g_callVq1 (as := []) (rest := []) mt_X12_here mi_X12_here se_X12_here ml_X12_265 dX12_takesSign_1 (q0 := 4) rfl rfl (sh_711 hOK) rfl rfl (ok_here hOK e1) rfl ⟨by decide, by decide⟩ (Nat.le_of_ble_eq_true rfl) ⟨Nat.zero_le _, Nat.zero_le _⟩ ?_
  refine g_iload_n (q0 := 5) (j := 1) rfl dX12_takesSign_4 rfl ?_
  refine g_icmp_eq (q0 := 8) (tgt := 18) rfl dX12_takesSign_5 (by decide) (fun h5 => ?_) (fun h5 => ?_)
  · replace h := gI_pos h5 h
    refine g_aload_n (q0 := 19) (j := 0) rfl dX12_takesSign_18 rfl ?_
    refine g_aload_n (q0 := 20) (j := 0) rfl dX12_takesSign_19 rfl ?_
    refine g_getf (q0 := 23) (t := 0) (fi := 19) rfl rfl ff_X12_256 dX12_takesSign_20 rfl (sh_711 hOK) ?_
    refine g_iconst (q0 := 24) rfl dX12_takesSign_23 (k := ?_)
    refine g_iaddw (q0 := 25) rfl dX12_takesSign_24 ?_
    refine g_put (q0 := 28) (t := 0) (fi := 19) rfl rfl ff_X12_256 dX12_takesSign_25 rfl (sh_711 hOK) rfl (fun _ => ⟨rfl, rfl⟩) ?_
    have hOK1 : gOK sh (gU M 711 19 (gw32 ((M 711 19) + (1 : Int)))) := gOK_o hOK (sh_711 hOK) (f := 19) rfl rfl
    refine g_iconst (q0 := 29) rfl dX12_takesSign_28 (k := ?_)
    rw [← Option.some.inj h]
    refine g_zreturn dX12_takesSign_29 rfl (gnz (Or.inr rfl)) ⟨Nat.zero_le _, Nat.zero_le _⟩ ?_
    exact ⟨rfl, rfl, rfl⟩
  · replace h := gI_neg h5 h
    refine g_aload_n (q0 := 9) (j := 0) rfl dX12_takesSign_8 rfl ?_
    refine g_iconst (q0 := 10) rfl dX12_takesSign_9 (k := ?_)
    refine g_aload_n (q0 := 11) (j := 0) rfl dX12_takesSign_10 rfl ?_
    refine g_getf (q0 := 14) (t := 0) (fi := 19) rfl rfl ff_X12_256 dX12_takesSign_11 rfl (sh_711 hOK) ?_
    obtain ⟨p14, e14, h⟩ := gI_bd h
    refine g_callVq1 (as := [_, _]) (rest := []) mt_X12_wrongAt mi_X12_wrongAt se_X12_wrongAt ml_X12_269 dX12_takesSign_14 (q0 := 17) rfl rfl (sh_711 hOK) rfl rfl (ok_wrongAt hOK e14) rfl ⟨by decide, by decide⟩ (Nat.le_of_ble_eq_true rfl) ⟨Nat.zero_le _, Nat.zero_le _⟩ ?_
    have hOK2 : gOK sh p14.2 := gOK_fr hOK (fr_wrongAt (b := p14) e14) (by first | decide | (intro a ha; simp only [List.mem_cons, List.not_mem_nil, or_false] at ha; omega)) (by decide)
    rw [← Option.some.inj h]
    refine g_zreturn dX12_takesSign_17 rfl (gnz (bo_wrongAt (b := p14) e14)) ⟨Nat.zero_le _, Nat.zero_le _⟩ ?_
    exact ⟨rfl, rfl, rfl⟩
-- ==== beginsText
theorem dX12_beginsText_0 : decode cX12_beginsText 0 = .ok (.aload_n 0, 1) := by decide +kernel
theorem dX12_beginsText_1 : decode cX12_beginsText 1 = .ok (.iconst 0, 1) := by decide +kernel
theorem dX12_beginsText_2 : decode cX12_beginsText 2 = .ok (.putfield 256, 3) := by decide +kernel
theorem dX12_beginsText_5 : decode cX12_beginsText 5 = .ok (.aload_n 0, 1) := by decide +kernel
theorem dX12_beginsText_6 : decode cX12_beginsText 6 = .ok (.iload_n 1, 1) := by decide +kernel
theorem dX12_beginsText_7 : decode cX12_beginsText 7 = .ok (.putfield 259, 3) := by decide +kernel
theorem dX12_beginsText_10 : decode cX12_beginsText 10 = .ok (.return_, 1) := by decide +kernel
noncomputable def F_beginsText (M : gM) (a1 : Int) : Option (gM) := some (gU (gU M 711 19 0) 711 20 a1)
theorem eq_beginsText (M : gM) (a1 : Int) : F_beginsText M a1 = some (gU (gU M 711 19 0) 711 20 a1) := rfl
theorem fr_beginsText {M : gM} {a1 : Int} {b : gM} (h : F_beginsText M a1 = some b) : gFr [] [19, 20] M b := by
  rw [eq_beginsText] at h
  rw [← Option.some.inj h]
  exact (gFr_f (gFr_f (gFr_r [] [19, 20] _) (.head _)) (.tail _ (.head _)))
theorem ok_beginsText {sh : gS} {M : gM} {a1 : Int} {b : gM} (hOK : gOK sh M) (h : F_beginsText M a1 = some b) : gC (gr 0 0) yX12_beginsText cX12_beginsText 2 none [(4, 711), (0, a1)] sh M (gPq sh none b) := by
  rw [eq_beginsText] at h
  refine gC_ofA (lv := [_, _]) (by decide +kernel) (Nat.le_of_ble_eq_true rfl) rfl (fun hMw hav => ?_)
  refine g_aload_n (q0 := 1) (j := 0) rfl dX12_beginsText_0 rfl ?_
  refine g_iconst (q0 := 2) rfl dX12_beginsText_1 (k := ?_)
  refine g_put (q0 := 5) (t := 0) (fi := 19) rfl rfl ff_X12_256 dX12_beginsText_2 rfl (sh_711 hOK) rfl (fun _ => ⟨rfl, rfl⟩) ?_
  have hOK1 : gOK sh (gU M 711 19 0) := gOK_o hOK (sh_711 hOK) (f := 19) rfl rfl
  refine g_aload_n (q0 := 6) (j := 0) rfl dX12_beginsText_5 rfl ?_
  refine g_iload_n (q0 := 7) (j := 1) rfl dX12_beginsText_6 rfl ?_
  refine g_put (q0 := 10) (t := 0) (fi := 20) rfl rfl ff_X12_259 dX12_beginsText_7 rfl (sh_711 hOK1) rfl (fun _ => ⟨rfl, rfl⟩) ?_
  have hOK2 : gOK sh (gU (gU M 711 19 0) 711 20 a1) := gOK_o hOK1 (sh_711 hOK1) (f := 20) rfl rfl
  rw [← Option.some.inj h]
  refine g_return dX12_beginsText_10 rfl ⟨Nat.zero_le _, Nat.zero_le _⟩ ?_
  exact ⟨rfl, rfl, rfl⟩
-- ==== readsNumber
theorem dX12_readsNumber_0 : decode cX12_readsNumber 0 = .ok (.aload_n 0, 1) := by decide +kernel
theorem dX12_readsNumber_1 : decode cX12_readsNumber 1 = .ok (.getfield 256, 3) := by decide +kernel
theorem dX12_readsNumber_4 : decode cX12_readsNumber 4 = .ok (.istore_n 1, 1) := by decide +kernel
theorem dX12_readsNumber_5 : decode cX12_readsNumber 5 = .ok (.aload_n 0, 1) := by decide +kernel
theorem dX12_readsNumber_6 : decode cX12_readsNumber 6 = .ok (.invokevirtual 265, 3) := by decide +kernel
theorem dX12_readsNumber_9 : decode cX12_readsNumber 9 = .ok (.invokestatic 272, 3) := by decide +kernel
theorem dX12_readsNumber_12 : decode cX12_readsNumber 12 = .ok (.ifCond .ne 13, 3) := by decide +kernel
theorem dX12_readsNumber_15 : decode cX12_readsNumber 15 = .ok (.aload_n 0, 1) := by decide +kernel
theorem dX12_readsNumber_16 : decode cX12_readsNumber 16 = .ok (.iconst 1, 1) := by decide +kernel
theorem dX12_readsNumber_17 : decode cX12_readsNumber 17 = .ok (.aload_n 0, 1) := by decide +kernel
theorem dX12_readsNumber_18 : decode cX12_readsNumber 18 = .ok (.getfield 256, 3) := by decide +kernel
theorem dX12_readsNumber_21 : decode cX12_readsNumber 21 = .ok (.invokevirtual 269, 3) := by decide +kernel
theorem dX12_readsNumber_24 : decode cX12_readsNumber 24 = .ok (.ireturn, 1) := by decide +kernel
theorem dX12_readsNumber_25 : decode cX12_readsNumber 25 = .ok (.aload_n 0, 1) := by decide +kernel
theorem dX12_readsNumber_26 : decode cX12_readsNumber 26 = .ok (.iconst 0, 1) := by decide +kernel
theorem dX12_readsNumber_27 : decode cX12_readsNumber 27 = .ok (.putfield 275, 3) := by decide +kernel
theorem dX12_readsNumber_30 : decode cX12_readsNumber 30 = .ok (.aload_n 0, 1) := by decide +kernel
theorem dX12_readsNumber_31 : decode cX12_readsNumber 31 = .ok (.invokevirtual 265, 3) := by decide +kernel
theorem dX12_readsNumber_34 : decode cX12_readsNumber 34 = .ok (.invokestatic 272, 3) := by decide +kernel
theorem dX12_readsNumber_37 : decode cX12_readsNumber 37 = .ok (.ifCond .eq 55, 3) := by decide +kernel
theorem dX12_readsNumber_40 : decode cX12_readsNumber 40 = .ok (.aload_n 0, 1) := by decide +kernel
theorem dX12_readsNumber_41 : decode cX12_readsNumber 41 = .ok (.getfield 256, 3) := by decide +kernel
theorem dX12_readsNumber_44 : decode cX12_readsNumber 44 = .ok (.iload_n 1, 1) := by decide +kernel
theorem dX12_readsNumber_45 : decode cX12_readsNumber 45 = .ok (.iconst 3, 1) := by decide +kernel
theorem dX12_readsNumber_46 : decode cX12_readsNumber 46 = .ok (.iadd, 1) := by decide +kernel
theorem dX12_readsNumber_47 : decode cX12_readsNumber 47 = .ok (.if_icmp .ne 13, 3) := by decide +kernel
theorem dX12_readsNumber_50 : decode cX12_readsNumber 50 = .ok (.aload_n 0, 1) := by decide +kernel
theorem dX12_readsNumber_51 : decode cX12_readsNumber 51 = .ok (.iconst 2, 1) := by decide +kernel
theorem dX12_readsNumber_52 : decode cX12_readsNumber 52 = .ok (.aload_n 0, 1) := by decide +kernel
theorem dX12_readsNumber_53 : decode cX12_readsNumber 53 = .ok (.getfield 256, 3) := by decide +kernel
theorem dX12_readsNumber_56 : decode cX12_readsNumber 56 = .ok (.invokevirtual 269, 3) := by decide +kernel
theorem dX12_readsNumber_59 : decode cX12_readsNumber 59 = .ok (.ireturn, 1) := by decide +kernel
theorem dX12_readsNumber_60 : decode cX12_readsNumber 60 = .ok (.aload_n 0, 1) := by decide +kernel
theorem dX12_readsNumber_61 : decode cX12_readsNumber 61 = .ok (.bipush 10, 2) := by decide +kernel
theorem dX12_readsNumber_63 : decode cX12_readsNumber 63 = .ok (.aload_n 0, 1) := by decide +kernel
theorem dX12_readsNumber_64 : decode cX12_readsNumber 64 = .ok (.getfield 275, 3) := by decide +kernel
theorem dX12_readsNumber_67 : decode cX12_readsNumber 67 = .ok (.imul, 1) := by decide +kernel
theorem dX12_readsNumber_68 : decode cX12_readsNumber 68 = .ok (.aload_n 0, 1) := by decide +kernel
theorem dX12_readsNumber_69 : decode cX12_readsNumber 69 = .ok (.invokevirtual 265, 3) := by decide +kernel
theorem dX12_readsNumber_72 : decode cX12_readsNumber 72 = .ok (.iadd, 1) := by decide +kernel
theorem dX12_readsNumber_73 : decode cX12_readsNumber 73 = .ok (.bipush 48, 2) := by decide +kernel
theorem dX12_readsNumber_75 : decode cX12_readsNumber 75 = .ok (.isub, 1) := by decide +kernel
theorem dX12_readsNumber_76 : decode cX12_readsNumber 76 = .ok (.putfield 275, 3) := by decide +kernel
theorem dX12_readsNumber_79 : decode cX12_readsNumber 79 = .ok (.aload_n 0, 1) := by decide +kernel
theorem dX12_readsNumber_80 : decode cX12_readsNumber 80 = .ok (.aload_n 0, 1) := by decide +kernel
theorem dX12_readsNumber_81 : decode cX12_readsNumber 81 = .ok (.getfield 256, 3) := by decide +kernel
theorem dX12_readsNumber_84 : decode cX12_readsNumber 84 = .ok (.iconst 1, 1) := by decide +kernel
theorem dX12_readsNumber_85 : decode cX12_readsNumber 85 = .ok (.iadd, 1) := by decide +kernel
theorem dX12_readsNumber_86 : decode cX12_readsNumber 86 = .ok (.putfield 256, 3) := by decide +kernel
theorem dX12_readsNumber_89 : decode cX12_readsNumber 89 = .ok (.goto (-59), 3) := by decide +kernel
theorem dX12_readsNumber_92 : decode cX12_readsNumber 92 = .ok (.iconst 1, 1) := by decide +kernel
theorem dX12_readsNumber_93 : decode cX12_readsNumber 93 = .ok (.ireturn, 1) := by decide +kernel
noncomputable def st_readsNumber : Nat × List Int × gM → Option ((Nat × List Int × gM) ⊕ (Int × gM))
  | (0, [x1], M) => (Option.bind (F_here M) (fun r31 =>
      (Option.bind (F_isDigit r31) (fun r34 =>
        (if r34 = 0 then
          some (.inr (1, M))
        else
          (if (M 711 19) = (gw32 (x1 + (3 : Int))) then
            (Option.bind (F_wrongAt M 2 (M 711 19)) (fun p56 =>
              some (.inr (p56.1, p56.2))))
          else
            (Option.bind (F_here M) (fun r69 =>
              some (.inl (0, [x1], (gU (gU M 711 22 (gw32 ((gw32 ((gw32 ((10 : Int) * (M 711 22))) + r69)) - (48 : Int)))) 711 19 (gw32 (((gU M 711 22 (gw32 ((gw32 ((gw32 ((10 : Int) * (M 711 22))) + r69)) - (48 : Int)))) 711 19) + (1 : Int))))))))))))))
  | _ => none
theorem sk_readsNumber_30 (k : Nat × List Int × gM → Option (Int × gM)) (M : gM) (x1 : Int) : gWk k (st_readsNumber (0, [x1], M)) = (Option.bind (F_here M) (fun r31 =>
    (Option.bind (F_isDigit r31) (fun r34 =>
      (if r34 = 0 then
        some (1, M)
      else
        (if (M 711 19) = (gw32 (x1 + (3 : Int))) then
          (Option.bind (F_wrongAt M 2 (M 711 19)) (fun p56 =>
            some (p56.1, p56.2)))
        else
          (Option.bind (F_here M) (fun r69 =>
            k (0, [x1], (gU (gU M 711 22 (gw32 ((gw32 ((gw32 ((10 : Int) * (M 711 22))) + r69)) - (48 : Int)))) 711 19 (gw32 (((gU M 711 22 (gw32 ((gw32 ((gw32 ((10 : Int) * (M 711 22))) + r69)) - (48 : Int)))) 711 19) + (1 : Int))))))))))))) := by
  simp only [st_readsNumber, gWk_ite, gWk_bind, gWk_inl, gWk_inr, gWk_none]
noncomputable def F_readsNumber_30 (M : gM) (x1 : Int) : Option (Int × gM) := gWh (st_readsNumber) (0, [x1], M)
theorem eq_readsNumber_30 (M : gM) (x1 : Int) : F_readsNumber_30 M x1 = (Option.bind (F_here M) (fun r31 =>
    (Option.bind (F_isDigit r31) (fun r34 =>
      (if r34 = 0 then
        some (1, M)
      else
        (if (M 711 19) = (gw32 (x1 + (3 : Int))) then
          (Option.bind (F_wrongAt M 2 (M 711 19)) (fun p56 =>
            some (p56.1, p56.2)))
        else
          (Option.bind (F_here M) (fun r69 =>
            F_readsNumber_30 (gU (gU M 711 22 (gw32 ((gw32 ((gw32 ((10 : Int) * (M 711 22))) + r69)) - (48 : Int)))) 711 19 (gw32 (((gU M 711 22 (gw32 ((gw32 ((gw32 ((10 : Int) * (M 711 22))) + r69)) - (48 : Int)))) 711 19) + (1 : Int)))) x1)))))))) := (gWh_eq _).trans (sk_readsNumber_30 _ M x1)
noncomputable def F_readsNumber (M : gM) : Option (Int × gM) := (Option.bind (F_here M) (fun r6 =>
    (Option.bind (F_isDigit r6) (fun r9 =>
      (if r9 = 0 then
        (Option.bind (F_wrongAt M 1 (M 711 19)) (fun p21 =>
          some (p21.1, p21.2)))
      else
        F_readsNumber_30 (gU M 711 22 0) (M 711 19))))))
theorem eq_readsNumber (M : gM) : F_readsNumber M = (Option.bind (F_here M) (fun r6 =>
    (Option.bind (F_isDigit r6) (fun r9 =>
      (if r9 = 0 then
        (Option.bind (F_wrongAt M 1 (M 711 19)) (fun p21 =>
          some (p21.1, p21.2)))
      else
        F_readsNumber_30 (gU M 711 22 0) (M 711 19)))))) := rfl
theorem frp_readsNumber : ∀ (s : Nat × List Int × gM) (b : Int × gM), gWh (st_readsNumber) s = some b → (∀ (x1 : Int) (M : gM), s = (0, [x1], M) → gFr [] [19, 21, 22] M b.2) := by
  refine gWh_ind (fun k hk s b h => ?_)
  · rintro x1 M rfl
    rw [sk_readsNumber_30] at h
    obtain ⟨r31, e31, h⟩ := gI_bd h
    obtain ⟨r34, e34, h⟩ := gI_bd h
    rcases gI_or h with h | h
    · rw [← Option.some.inj h]
      exact (gFr_r [] [19, 21, 22] _)
    · rcases gI_or h with h | h
      · obtain ⟨p56, e56, h⟩ := gI_bd h
        rw [← Option.some.inj h]
        exact (gFr_t (gFr_r [] [19, 21, 22] _) (fr_wrongAt (b := p56) e56) (by first | decide | simp) (by decide))
      · obtain ⟨r69, e69, h⟩ := gI_bd h
        exact gFr_t (gFr_f (gFr_f (gFr_r [] [19, 21, 22] _) (.tail _ (.tail _ (.head _)))) (.head _)) ((hk _ _ h) _ _ rfl) (fun _ z => z) (fun _ z => z)
theorem fr_readsNumber_30 {M : gM} {x1 : Int} {b : Int × gM} (h : F_readsNumber_30 M x1 = some b) : gFr [] [19, 21, 22] M b.2 :=
  (frp_readsNumber _ _ h) _ _ rfl
theorem fr_readsNumber {M : gM} {b : Int × gM} (h : F_readsNumber M = some b) : gFr [] [19, 21, 22] M b.2 := by
  rw [eq_readsNumber] at h
  obtain ⟨r6, e6, h⟩ := gI_bd h
  obtain ⟨r9, e9, h⟩ := gI_bd h
  rcases gI_or h with h | h
  · obtain ⟨p21, e21, h⟩ := gI_bd h
    rw [← Option.some.inj h]
    exact (gFr_t (gFr_r [] [19, 21, 22] _) (fr_wrongAt (b := p21) e21) (by first | decide | simp) (by decide))
  · exact gFr_t (gFr_f (gFr_r [] [19, 21, 22] _) (.tail _ (.tail _ (.head _)))) (fr_readsNumber_30 h) (fun _ z => z) (fun _ z => z)
theorem bop_readsNumber : ∀ (s : Nat × List Int × gM) (b : Int × gM), gWh (st_readsNumber) s = some b → (∀ (x1 : Int) (M : gM), s = (0, [x1], M) → b.1 = 0 ∨ b.1 = 1) := by
  refine gWh_ind (fun k hk s b h => ?_)
  · rintro x1 M rfl
    rw [sk_readsNumber_30] at h
    obtain ⟨r31, e31, h⟩ := gI_bd h
    obtain ⟨r34, e34, h⟩ := gI_bd h
    rcases gI_or h with h | h
    · rw [← Option.some.inj h]
      exact (Or.inr rfl)
    · rcases gI_or h with h | h
      · obtain ⟨p56, e56, h⟩ := gI_bd h
        rw [← Option.some.inj h]
        exact (bo_wrongAt (b := p56) e56)
      · obtain ⟨r69, e69, h⟩ := gI_bd h
        exact (hk _ _ h) _ _ rfl
theorem bo_readsNumber_30 {M : gM} {x1 : Int} {b : Int × gM} (h : F_readsNumber_30 M x1 = some b) : b.1 = 0 ∨ b.1 = 1 :=
  (bop_readsNumber _ _ h) _ _ rfl
theorem bo_readsNumber {M : gM} {b : Int × gM} (h : F_readsNumber M = some b) : b.1 = 0 ∨ b.1 = 1 := by
  rw [eq_readsNumber] at h
  obtain ⟨r6, e6, h⟩ := gI_bd h
  obtain ⟨r9, e9, h⟩ := gI_bd h
  rcases gI_or h with h | h
  · obtain ⟨p21, e21, h⟩ := gI_bd h
    rw [← Option.some.inj h]
    exact (bo_wrongAt (b := p21) e21)
  · exact bo_readsNumber_30 h
theorem okp_readsNumber {sh : gS} : ∀ (s : Nat × List Int × gM) (b : Int × gM), gWh (st_readsNumber) s = some b → (∀ (x1 : Int) (M : gM), s = (0, [x1], M) → gOK sh M → gA (gr 2 42) yX12_readsNumber cX12_readsNumber 2 (some (.boolean)) (gPq sh (some (0, b.1)) b.2) (0, 0) 30 [(4, 711), (0, x1)] [] sh M) := by
  refine gWh_ind (fun k hk s b h => ?_)
  · rintro x1 M rfl hOK
    rw [sk_readsNumber_30] at h
    refine g_aload_n (q0 := 31) (j := 0) rfl dX12_readsNumber_30 rfl ?_
    obtain ⟨r31, e31, h⟩ := gI_bd h
    refine g_callVq1 (as := []) (rest := []) mt_X12_here mi_X12_here se_X12_here ml_X12_265 dX12_readsNumber_31 (q0 := 34) rfl rfl (sh_711 hOK) rfl rfl (ok_here hOK e31) rfl ⟨by decide, by decide⟩ (Nat.le_of_ble_eq_true rfl) ⟨Nat.zero_le _, Nat.zero_le _⟩ ?_
    obtain ⟨r34, e34, h⟩ := gI_bd h
    refine g_callSq1 (as := [_]) (rest := []) mt_X12_isDigit ms_X12_isDigit ml_X12_272 dX12_readsNumber_34 (q0 := 37) rfl rfl (ok_isDigit hOK e34) rfl ⟨by decide, by decide⟩ (Nat.le_of_ble_eq_true rfl) ⟨Nat.zero_le _, Nat.zero_le _⟩ ?_
    refine g_if_eq (q0 := 40) (tgt := 92) rfl dX12_readsNumber_37 (by decide) (fun h37 => ?_) (fun h37 => ?_)
    · replace h := gI_pos h37 h
      refine g_iconst (q0 := 93) rfl dX12_readsNumber_92 (k := ?_)
      rw [← Option.some.inj h]
      refine g_zreturn dX12_readsNumber_93 rfl (gnz (Or.inr rfl)) ⟨Nat.zero_le _, Nat.zero_le _⟩ ?_
      exact ⟨rfl, rfl, rfl⟩
    · replace h := gI_neg h37 h
      refine g_aload_n (q0 := 41) (j := 0) rfl dX12_readsNumber_40 rfl ?_
      refine g_getf (q0 := 44) (t := 0) (fi := 19) rfl rfl ff_X12_256 dX12_readsNumber_41 rfl (sh_711 hOK) ?_
      refine g_iload_n (q0 := 45) (j := 1) rfl dX12_readsNumber_44 rfl ?_
      refine g_iconst (q0 := 46) rfl dX12_readsNumber_45 (k := ?_)
      refine g_iaddw (q0 := 47) rfl dX12_readsNumber_46 ?_
      refine g_icmp_ne (q0 := 50) (tgt := 60) rfl dX12_readsNumber_47 (by decide) (fun h47 => ?_) (fun h47 => ?_)
      · replace h := gI_neg h47 h
        refine g_aload_n (q0 := 61) (j := 0) rfl dX12_readsNumber_60 rfl ?_
        refine g_bipush (q0 := 63) rfl dX12_readsNumber_61 (k := ?_)
        refine g_aload_n (q0 := 64) (j := 0) rfl dX12_readsNumber_63 rfl ?_
        refine g_getf (q0 := 67) (t := 0) (fi := 22) rfl rfl ff_X12_275 dX12_readsNumber_64 rfl (sh_711 hOK) ?_
        refine g_imulw (q0 := 68) rfl dX12_readsNumber_67 ?_
        refine g_aload_n (q0 := 69) (j := 0) rfl dX12_readsNumber_68 rfl ?_
        obtain ⟨r69, e69, h⟩ := gI_bd h
        refine g_callVq1 (as := []) (rest := [_, _]) mt_X12_here mi_X12_here se_X12_here ml_X12_265 dX12_readsNumber_69 (q0 := 72) rfl rfl (sh_711 hOK) rfl rfl (ok_here hOK e69) rfl ⟨by decide, by decide⟩ (Nat.le_of_ble_eq_true rfl) ⟨Nat.zero_le _, Nat.zero_le _⟩ ?_
        refine g_iaddw (q0 := 73) rfl dX12_readsNumber_72 ?_
        refine g_bipush (q0 := 75) rfl dX12_readsNumber_73 (k := ?_)
        refine g_isubw (q0 := 76) rfl dX12_readsNumber_75 ?_
        refine g_put (q0 := 79) (t := 0) (fi := 22) rfl rfl ff_X12_275 dX12_readsNumber_76 rfl (sh_711 hOK) rfl (fun _ => ⟨rfl, rfl⟩) ?_
        have hOK1 : gOK sh (gU M 711 22 (gw32 ((gw32 ((gw32 ((10 : Int) * (M 711 22))) + r69)) - (48 : Int)))) := gOK_o hOK (sh_711 hOK) (f := 22) rfl rfl
        refine g_aload_n (q0 := 80) (j := 0) rfl dX12_readsNumber_79 rfl ?_
        refine g_aload_n (q0 := 81) (j := 0) rfl dX12_readsNumber_80 rfl ?_
        refine g_getf (q0 := 84) (t := 0) (fi := 19) rfl rfl ff_X12_256 dX12_readsNumber_81 rfl (sh_711 hOK1) ?_
        refine g_iconst (q0 := 85) rfl dX12_readsNumber_84 (k := ?_)
        refine g_iaddw (q0 := 86) rfl dX12_readsNumber_85 ?_
        refine g_put (q0 := 89) (t := 0) (fi := 19) rfl rfl ff_X12_256 dX12_readsNumber_86 rfl (sh_711 hOK1) rfl (fun _ => ⟨rfl, rfl⟩) ?_
        have hOK2 : gOK sh (gU (gU M 711 22 (gw32 ((gw32 ((gw32 ((10 : Int) * (M 711 22))) + r69)) - (48 : Int)))) 711 19 (gw32 (((gU M 711 22 (gw32 ((gw32 ((gw32 ((10 : Int) * (M 711 22))) + r69)) - (48 : Int)))) 711 19) + (1 : Int)))) := gOK_o hOK1 (sh_711 hOK1) (f := 19) rfl rfl
        refine g_goto (tgt := 30) dX12_readsNumber_89 (by decide) ?_
        exact (hk _ _ h) _ _ rfl hOK2
      · replace h := gI_pos h47 h
        refine g_aload_n (q0 := 51) (j := 0) rfl dX12_readsNumber_50 rfl ?_
        refine g_iconst (q0 := 52) rfl dX12_readsNumber_51 (k := ?_)
        refine g_aload_n (q0 := 53) (j := 0) rfl dX12_readsNumber_52 rfl ?_
        refine g_getf (q0 := 56) (t := 0) (fi := 19) rfl rfl ff_X12_256 dX12_readsNumber_53 rfl (sh_711 hOK) ?_
        obtain ⟨p56, e56, h⟩ := gI_bd h
        refine g_callVq1 (as := [_, _]) (rest := []) mt_X12_wrongAt mi_X12_wrongAt se_X12_wrongAt ml_X12_269 dX12_readsNumber_56 (q0 := 59) rfl rfl (sh_711 hOK) rfl rfl (ok_wrongAt hOK e56) rfl ⟨by decide, by decide⟩ (Nat.le_of_ble_eq_true rfl) ⟨Nat.zero_le _, Nat.zero_le _⟩ ?_
        have hOK3 : gOK sh p56.2 := gOK_fr hOK (fr_wrongAt (b := p56) e56) (by first | decide | (intro a ha; simp only [List.mem_cons, List.not_mem_nil, or_false] at ha; omega)) (by decide)
        rw [← Option.some.inj h]
        refine g_zreturn dX12_readsNumber_59 rfl (gnz (bo_wrongAt (b := p56) e56)) ⟨Nat.zero_le _, Nat.zero_le _⟩ ?_
        exact ⟨rfl, rfl, rfl⟩
theorem ok_readsNumber_30 {sh : gS} {M : gM} {x1 : Int} {b : Int × gM} (hOK : gOK sh M) (h : F_readsNumber_30 M x1 = some b) : gA (gr 2 42) yX12_readsNumber cX12_readsNumber 2 (some (.boolean)) (gPq sh (some (0, b.1)) b.2) (0, 0) 30 [(4, 711), (0, x1)] [] sh M :=
  (okp_readsNumber _ _ h) _ _ rfl hOK
theorem ok_readsNumber {sh : gS} {M : gM} {b : Int × gM} (hOK : gOK sh M) (h : F_readsNumber M = some b) : gC (gr 2 42) yX12_readsNumber cX12_readsNumber 2 (some (.boolean)) [(4, 711)] sh M (gPq sh (some (0, b.1)) b.2) := by
  rw [eq_readsNumber] at h
  refine gC_ofA (lv := [_, _]) (by decide +kernel) (Nat.le_of_ble_eq_true rfl) rfl (fun hMw hav => ?_)
  refine g_aload_n (q0 := 1) (j := 0) rfl dX12_readsNumber_0 rfl ?_
  refine g_getf (q0 := 4) (t := 0) (fi := 19) rfl rfl ff_X12_256 dX12_readsNumber_1 rfl (sh_711 hOK) ?_
  refine g_istore_n (q0 := 5) (j := 1) (lv2 := [_, _]) rfl dX12_readsNumber_4 (by decide) rfl rfl ?_
  refine g_aload_n (q0 := 6) (j := 0) rfl dX12_readsNumber_5 rfl ?_
  obtain ⟨r6, e6, h⟩ := gI_bd h
  refine g_callVq1 (as := []) (rest := []) mt_X12_here mi_X12_here se_X12_here ml_X12_265 dX12_readsNumber_6 (q0 := 9) rfl rfl (sh_711 hOK) rfl rfl (ok_here hOK e6) rfl ⟨by decide, by decide⟩ (Nat.le_of_ble_eq_true rfl) ⟨Nat.zero_le _, Nat.zero_le _⟩ ?_
  obtain ⟨r9, e9, h⟩ := gI_bd h
  refine g_callSq1 (as := [_]) (rest := []) mt_X12_isDigit ms_X12_isDigit ml_X12_272 dX12_readsNumber_9 (q0 := 12) rfl rfl (ok_isDigit hOK e9) rfl ⟨by decide, by decide⟩ (Nat.le_of_ble_eq_true rfl) ⟨Nat.zero_le _, Nat.zero_le _⟩ ?_
  refine g_if_ne (q0 := 15) (tgt := 25) rfl dX12_readsNumber_12 (by decide) (fun h12 => ?_) (fun h12 => ?_)
  · replace h := gI_neg h12 h
    refine g_aload_n (q0 := 26) (j := 0) rfl dX12_readsNumber_25 rfl ?_
    refine g_iconst (q0 := 27) rfl dX12_readsNumber_26 (k := ?_)
    refine g_put (q0 := 30) (t := 0) (fi := 22) rfl rfl ff_X12_275 dX12_readsNumber_27 rfl (sh_711 hOK) rfl (fun _ => ⟨rfl, rfl⟩) ?_
    have hOK4 : gOK sh (gU M 711 22 0) := gOK_o hOK (sh_711 hOK) (f := 22) rfl rfl
    exact ok_readsNumber_30 hOK4 h
  · replace h := gI_pos h12 h
    refine g_aload_n (q0 := 16) (j := 0) rfl dX12_readsNumber_15 rfl ?_
    refine g_iconst (q0 := 17) rfl dX12_readsNumber_16 (k := ?_)
    refine g_aload_n (q0 := 18) (j := 0) rfl dX12_readsNumber_17 rfl ?_
    refine g_getf (q0 := 21) (t := 0) (fi := 19) rfl rfl ff_X12_256 dX12_readsNumber_18 rfl (sh_711 hOK) ?_
    obtain ⟨p21, e21, h⟩ := gI_bd h
    refine g_callVq1 (as := [_, _]) (rest := []) mt_X12_wrongAt mi_X12_wrongAt se_X12_wrongAt ml_X12_269 dX12_readsNumber_21 (q0 := 24) rfl rfl (sh_711 hOK) rfl rfl (ok_wrongAt hOK e21) rfl ⟨by decide, by decide⟩ (Nat.le_of_ble_eq_true rfl) ⟨Nat.zero_le _, Nat.zero_le _⟩ ?_
    have hOK5 : gOK sh p21.2 := gOK_fr hOK (fr_wrongAt (b := p21) e21) (by first | decide | (intro a ha; simp only [List.mem_cons, List.not_mem_nil, or_false] at ha; omega)) (by decide)
    rw [← Option.some.inj h]
    refine g_zreturn dX12_readsNumber_24 rfl (gnz (bo_wrongAt (b := p21) e21)) ⟨Nat.zero_le _, Nat.zero_le _⟩ ?_
    exact ⟨rfl, rfl, rfl⟩
-- ==== readsContent
theorem dX12_readsContent_0 : decode cX12_readsContent 0 = .ok (.aload_n 0, 1) := by decide +kernel
theorem dX12_readsContent_1 : decode cX12_readsContent 1 = .ok (.getfield 256, 3) := by decide +kernel
theorem dX12_readsContent_4 : decode cX12_readsContent 4 = .ok (.istore_n 1, 1) := by decide +kernel
theorem dX12_readsContent_5 : decode cX12_readsContent 5 = .ok (.aload_n 0, 1) := by decide +kernel
theorem dX12_readsContent_6 : decode cX12_readsContent 6 = .ok (.invokevirtual 265, 3) := by decide +kernel
theorem dX12_readsContent_9 : decode cX12_readsContent 9 = .ok (.invokestatic 272, 3) := by decide +kernel
theorem dX12_readsContent_12 : decode cX12_readsContent 12 = .ok (.ifCond .ne 13, 3) := by decide +kernel
theorem dX12_readsContent_15 : decode cX12_readsContent 15 = .ok (.aload_n 0, 1) := by decide +kernel
theorem dX12_readsContent_16 : decode cX12_readsContent 16 = .ok (.iconst 1, 1) := by decide +kernel
theorem dX12_readsContent_17 : decode cX12_readsContent 17 = .ok (.aload_n 0, 1) := by decide +kernel
theorem dX12_readsContent_18 : decode cX12_readsContent 18 = .ok (.getfield 256, 3) := by decide +kernel
theorem dX12_readsContent_21 : decode cX12_readsContent 21 = .ok (.invokevirtual 269, 3) := by decide +kernel
theorem dX12_readsContent_24 : decode cX12_readsContent 24 = .ok (.ireturn, 1) := by decide +kernel
theorem dX12_readsContent_25 : decode cX12_readsContent 25 = .ok (.aload_n 0, 1) := by decide +kernel
theorem dX12_readsContent_26 : decode cX12_readsContent 26 = .ok (.iconst 1, 1) := by decide +kernel
theorem dX12_readsContent_27 : decode cX12_readsContent 27 = .ok (.putfield 275, 3) := by decide +kernel
theorem dX12_readsContent_30 : decode cX12_readsContent 30 = .ok (.aload_n 0, 1) := by decide +kernel
theorem dX12_readsContent_31 : decode cX12_readsContent 31 = .ok (.invokevirtual 265, 3) := by decide +kernel
theorem dX12_readsContent_34 : decode cX12_readsContent 34 = .ok (.invokestatic 272, 3) := by decide +kernel
theorem dX12_readsContent_37 : decode cX12_readsContent 37 = .ok (.ifCond .eq 56, 3) := by decide +kernel
theorem dX12_readsContent_40 : decode cX12_readsContent 40 = .ok (.aload_n 0, 1) := by decide +kernel
theorem dX12_readsContent_41 : decode cX12_readsContent 41 = .ok (.getfield 256, 3) := by decide +kernel
theorem dX12_readsContent_44 : decode cX12_readsContent 44 = .ok (.iload_n 1, 1) := by decide +kernel
theorem dX12_readsContent_45 : decode cX12_readsContent 45 = .ok (.bipush 6, 2) := by decide +kernel
theorem dX12_readsContent_47 : decode cX12_readsContent 47 = .ok (.iadd, 1) := by decide +kernel
theorem dX12_readsContent_48 : decode cX12_readsContent 48 = .ok (.if_icmp .ne 13, 3) := by decide +kernel
theorem dX12_readsContent_51 : decode cX12_readsContent 51 = .ok (.aload_n 0, 1) := by decide +kernel
theorem dX12_readsContent_52 : decode cX12_readsContent 52 = .ok (.iconst 2, 1) := by decide +kernel
theorem dX12_readsContent_53 : decode cX12_readsContent 53 = .ok (.aload_n 0, 1) := by decide +kernel
theorem dX12_readsContent_54 : decode cX12_readsContent 54 = .ok (.getfield 256, 3) := by decide +kernel
theorem dX12_readsContent_57 : decode cX12_readsContent 57 = .ok (.invokevirtual 269, 3) := by decide +kernel
theorem dX12_readsContent_60 : decode cX12_readsContent 60 = .ok (.ireturn, 1) := by decide +kernel
theorem dX12_readsContent_61 : decode cX12_readsContent 61 = .ok (.aload_n 0, 1) := by decide +kernel
theorem dX12_readsContent_62 : decode cX12_readsContent 62 = .ok (.bipush 10, 2) := by decide +kernel
theorem dX12_readsContent_64 : decode cX12_readsContent 64 = .ok (.aload_n 0, 1) := by decide +kernel
theorem dX12_readsContent_65 : decode cX12_readsContent 65 = .ok (.getfield 275, 3) := by decide +kernel
theorem dX12_readsContent_68 : decode cX12_readsContent 68 = .ok (.imul, 1) := by decide +kernel
theorem dX12_readsContent_69 : decode cX12_readsContent 69 = .ok (.aload_n 0, 1) := by decide +kernel
theorem dX12_readsContent_70 : decode cX12_readsContent 70 = .ok (.invokevirtual 265, 3) := by decide +kernel
theorem dX12_readsContent_73 : decode cX12_readsContent 73 = .ok (.iadd, 1) := by decide +kernel
theorem dX12_readsContent_74 : decode cX12_readsContent 74 = .ok (.bipush 48, 2) := by decide +kernel
theorem dX12_readsContent_76 : decode cX12_readsContent 76 = .ok (.isub, 1) := by decide +kernel
theorem dX12_readsContent_77 : decode cX12_readsContent 77 = .ok (.putfield 275, 3) := by decide +kernel
theorem dX12_readsContent_80 : decode cX12_readsContent 80 = .ok (.aload_n 0, 1) := by decide +kernel
theorem dX12_readsContent_81 : decode cX12_readsContent 81 = .ok (.aload_n 0, 1) := by decide +kernel
theorem dX12_readsContent_82 : decode cX12_readsContent 82 = .ok (.getfield 256, 3) := by decide +kernel
theorem dX12_readsContent_85 : decode cX12_readsContent 85 = .ok (.iconst 1, 1) := by decide +kernel
theorem dX12_readsContent_86 : decode cX12_readsContent 86 = .ok (.iadd, 1) := by decide +kernel
theorem dX12_readsContent_87 : decode cX12_readsContent 87 = .ok (.putfield 256, 3) := by decide +kernel
theorem dX12_readsContent_90 : decode cX12_readsContent 90 = .ok (.goto (-60), 3) := by decide +kernel
theorem dX12_readsContent_93 : decode cX12_readsContent 93 = .ok (.iconst 1, 1) := by decide +kernel
theorem dX12_readsContent_94 : decode cX12_readsContent 94 = .ok (.ireturn, 1) := by decide +kernel
noncomputable def st_readsContent : Nat × List Int × gM → Option ((Nat × List Int × gM) ⊕ (Int × gM))
  | (0, [x1], M) => (Option.bind (F_here M) (fun r31 =>
      (Option.bind (F_isDigit r31) (fun r34 =>
        (if r34 = 0 then
          some (.inr (1, M))
        else
          (if (M 711 19) = (gw32 (x1 + (6 : Int))) then
            (Option.bind (F_wrongAt M 2 (M 711 19)) (fun p57 =>
              some (.inr (p57.1, p57.2))))
          else
            (Option.bind (F_here M) (fun r70 =>
              some (.inl (0, [x1], (gU (gU M 711 22 (gw32 ((gw32 ((gw32 ((10 : Int) * (M 711 22))) + r70)) - (48 : Int)))) 711 19 (gw32 (((gU M 711 22 (gw32 ((gw32 ((gw32 ((10 : Int) * (M 711 22))) + r70)) - (48 : Int)))) 711 19) + (1 : Int))))))))))))))
  | _ => none
theorem sk_readsContent_30 (k : Nat × List Int × gM → Option (Int × gM)) (M : gM) (x1 : Int) : gWk k (st_readsContent (0, [x1], M)) = (Option.bind (F_here M) (fun r31 =>
    (Option.bind (F_isDigit r31) (fun r34 =>
      (if r34 = 0 then
        some (1, M)
      else
        (if (M 711 19) = (gw32 (x1 + (6 : Int))) then
          (Option.bind (F_wrongAt M 2 (M 711 19)) (fun p57 =>
            some (p57.1, p57.2)))
        else
          (Option.bind (F_here M) (fun r70 =>
            k (0, [x1], (gU (gU M 711 22 (gw32 ((gw32 ((gw32 ((10 : Int) * (M 711 22))) + r70)) - (48 : Int)))) 711 19 (gw32 (((gU M 711 22 (gw32 ((gw32 ((gw32 ((10 : Int) * (M 711 22))) + r70)) - (48 : Int)))) 711 19) + (1 : Int))))))))))))) := by
  simp only [st_readsContent, gWk_ite, gWk_bind, gWk_inl, gWk_inr, gWk_none]
noncomputable def F_readsContent_30 (M : gM) (x1 : Int) : Option (Int × gM) := gWh (st_readsContent) (0, [x1], M)
theorem eq_readsContent_30 (M : gM) (x1 : Int) : F_readsContent_30 M x1 = (Option.bind (F_here M) (fun r31 =>
    (Option.bind (F_isDigit r31) (fun r34 =>
      (if r34 = 0 then
        some (1, M)
      else
        (if (M 711 19) = (gw32 (x1 + (6 : Int))) then
          (Option.bind (F_wrongAt M 2 (M 711 19)) (fun p57 =>
            some (p57.1, p57.2)))
        else
          (Option.bind (F_here M) (fun r70 =>
            F_readsContent_30 (gU (gU M 711 22 (gw32 ((gw32 ((gw32 ((10 : Int) * (M 711 22))) + r70)) - (48 : Int)))) 711 19 (gw32 (((gU M 711 22 (gw32 ((gw32 ((gw32 ((10 : Int) * (M 711 22))) + r70)) - (48 : Int)))) 711 19) + (1 : Int)))) x1)))))))) := (gWh_eq _).trans (sk_readsContent_30 _ M x1)
noncomputable def F_readsContent (M : gM) : Option (Int × gM) := (Option.bind (F_here M) (fun r6 =>
    (Option.bind (F_isDigit r6) (fun r9 =>
      (if r9 = 0 then
        (Option.bind (F_wrongAt M 1 (M 711 19)) (fun p21 =>
          some (p21.1, p21.2)))
      else
        F_readsContent_30 (gU M 711 22 1) (M 711 19))))))
theorem eq_readsContent (M : gM) : F_readsContent M = (Option.bind (F_here M) (fun r6 =>
    (Option.bind (F_isDigit r6) (fun r9 =>
      (if r9 = 0 then
        (Option.bind (F_wrongAt M 1 (M 711 19)) (fun p21 =>
          some (p21.1, p21.2)))
      else
        F_readsContent_30 (gU M 711 22 1) (M 711 19)))))) := rfl
theorem frp_readsContent : ∀ (s : Nat × List Int × gM) (b : Int × gM), gWh (st_readsContent) s = some b → (∀ (x1 : Int) (M : gM), s = (0, [x1], M) → gFr [] [19, 21, 22] M b.2) := by
  refine gWh_ind (fun k hk s b h => ?_)
  · rintro x1 M rfl
    rw [sk_readsContent_30] at h
    obtain ⟨r31, e31, h⟩ := gI_bd h
    obtain ⟨r34, e34, h⟩ := gI_bd h
    rcases gI_or h with h | h
    · rw [← Option.some.inj h]
      exact (gFr_r [] [19, 21, 22] _)
    · rcases gI_or h with h | h
      · obtain ⟨p57, e57, h⟩ := gI_bd h
        rw [← Option.some.inj h]
        exact (gFr_t (gFr_r [] [19, 21, 22] _) (fr_wrongAt (b := p57) e57) (by first | decide | simp) (by decide))
      · obtain ⟨r70, e70, h⟩ := gI_bd h
        exact gFr_t (gFr_f (gFr_f (gFr_r [] [19, 21, 22] _) (.tail _ (.tail _ (.head _)))) (.head _)) ((hk _ _ h) _ _ rfl) (fun _ z => z) (fun _ z => z)
theorem fr_readsContent_30 {M : gM} {x1 : Int} {b : Int × gM} (h : F_readsContent_30 M x1 = some b) : gFr [] [19, 21, 22] M b.2 :=
  (frp_readsContent _ _ h) _ _ rfl
theorem fr_readsContent {M : gM} {b : Int × gM} (h : F_readsContent M = some b) : gFr [] [19, 21, 22] M b.2 := by
  rw [eq_readsContent] at h
  obtain ⟨r6, e6, h⟩ := gI_bd h
  obtain ⟨r9, e9, h⟩ := gI_bd h
  rcases gI_or h with h | h
  · obtain ⟨p21, e21, h⟩ := gI_bd h
    rw [← Option.some.inj h]
    exact (gFr_t (gFr_r [] [19, 21, 22] _) (fr_wrongAt (b := p21) e21) (by first | decide | simp) (by decide))
  · exact gFr_t (gFr_f (gFr_r [] [19, 21, 22] _) (.tail _ (.tail _ (.head _)))) (fr_readsContent_30 h) (fun _ z => z) (fun _ z => z)
theorem bop_readsContent : ∀ (s : Nat × List Int × gM) (b : Int × gM), gWh (st_readsContent) s = some b → (∀ (x1 : Int) (M : gM), s = (0, [x1], M) → b.1 = 0 ∨ b.1 = 1) := by
  refine gWh_ind (fun k hk s b h => ?_)
  · rintro x1 M rfl
    rw [sk_readsContent_30] at h
    obtain ⟨r31, e31, h⟩ := gI_bd h
    obtain ⟨r34, e34, h⟩ := gI_bd h
    rcases gI_or h with h | h
    · rw [← Option.some.inj h]
      exact (Or.inr rfl)
    · rcases gI_or h with h | h
      · obtain ⟨p57, e57, h⟩ := gI_bd h
        rw [← Option.some.inj h]
        exact (bo_wrongAt (b := p57) e57)
      · obtain ⟨r70, e70, h⟩ := gI_bd h
        exact (hk _ _ h) _ _ rfl
theorem bo_readsContent_30 {M : gM} {x1 : Int} {b : Int × gM} (h : F_readsContent_30 M x1 = some b) : b.1 = 0 ∨ b.1 = 1 :=
  (bop_readsContent _ _ h) _ _ rfl
theorem bo_readsContent {M : gM} {b : Int × gM} (h : F_readsContent M = some b) : b.1 = 0 ∨ b.1 = 1 := by
  rw [eq_readsContent] at h
  obtain ⟨r6, e6, h⟩ := gI_bd h
  obtain ⟨r9, e9, h⟩ := gI_bd h
  rcases gI_or h with h | h
  · obtain ⟨p21, e21, h⟩ := gI_bd h
    rw [← Option.some.inj h]
    exact (bo_wrongAt (b := p21) e21)
  · exact bo_readsContent_30 h
theorem okp_readsContent {sh : gS} : ∀ (s : Nat × List Int × gM) (b : Int × gM), gWh (st_readsContent) s = some b → (∀ (x1 : Int) (M : gM), s = (0, [x1], M) → gOK sh M → gA (gr 2 42) yX12_readsContent cX12_readsContent 2 (some (.boolean)) (gPq sh (some (0, b.1)) b.2) (0, 0) 30 [(4, 711), (0, x1)] [] sh M) := by
  refine gWh_ind (fun k hk s b h => ?_)
  · rintro x1 M rfl hOK
    rw [sk_readsContent_30] at h
    refine g_aload_n (q0 := 31) (j := 0) rfl dX12_readsContent_30 rfl ?_
    obtain ⟨r31, e31, h⟩ := gI_bd h
    refine g_callVq1 (as := []) (rest := []) mt_X12_here mi_X12_here se_X12_here ml_X12_265 dX12_readsContent_31 (q0 := 34) rfl rfl (sh_711 hOK) rfl rfl (ok_here hOK e31) rfl ⟨by decide, by decide⟩ (Nat.le_of_ble_eq_true rfl) ⟨Nat.zero_le _, Nat.zero_le _⟩ ?_
    obtain ⟨r34, e34, h⟩ := gI_bd h
    refine g_callSq1 (as := [_]) (rest := []) mt_X12_isDigit ms_X12_isDigit ml_X12_272 dX12_readsContent_34 (q0 := 37) rfl rfl (ok_isDigit hOK e34) rfl ⟨by decide, by decide⟩ (Nat.le_of_ble_eq_true rfl) ⟨Nat.zero_le _, Nat.zero_le _⟩ ?_
    refine g_if_eq (q0 := 40) (tgt := 93) rfl dX12_readsContent_37 (by decide) (fun h37 => ?_) (fun h37 => ?_)
    · replace h := gI_pos h37 h
      refine g_iconst (q0 := 94) rfl dX12_readsContent_93 (k := ?_)
      rw [← Option.some.inj h]
      refine g_zreturn dX12_readsContent_94 rfl (gnz (Or.inr rfl)) ⟨Nat.zero_le _, Nat.zero_le _⟩ ?_
      exact ⟨rfl, rfl, rfl⟩
    · replace h := gI_neg h37 h
      refine g_aload_n (q0 := 41) (j := 0) rfl dX12_readsContent_40 rfl ?_
      refine g_getf (q0 := 44) (t := 0) (fi := 19) rfl rfl ff_X12_256 dX12_readsContent_41 rfl (sh_711 hOK) ?_
      refine g_iload_n (q0 := 45) (j := 1) rfl dX12_readsContent_44 rfl ?_
      refine g_bipush (q0 := 47) rfl dX12_readsContent_45 (k := ?_)
      refine g_iaddw (q0 := 48) rfl dX12_readsContent_47 ?_
      refine g_icmp_ne (q0 := 51) (tgt := 61) rfl dX12_readsContent_48 (by decide) (fun h48 => ?_) (fun h48 => ?_)
      · replace h := gI_neg h48 h
        refine g_aload_n (q0 := 62) (j := 0) rfl dX12_readsContent_61 rfl ?_
        refine g_bipush (q0 := 64) rfl dX12_readsContent_62 (k := ?_)
        refine g_aload_n (q0 := 65) (j := 0) rfl dX12_readsContent_64 rfl ?_
        refine g_getf (q0 := 68) (t := 0) (fi := 22) rfl rfl ff_X12_275 dX12_readsContent_65 rfl (sh_711 hOK) ?_
        refine g_imulw (q0 := 69) rfl dX12_readsContent_68 ?_
        refine g_aload_n (q0 := 70) (j := 0) rfl dX12_readsContent_69 rfl ?_
        obtain ⟨r70, e70, h⟩ := gI_bd h
        refine g_callVq1 (as := []) (rest := [_, _]) mt_X12_here mi_X12_here se_X12_here ml_X12_265 dX12_readsContent_70 (q0 := 73) rfl rfl (sh_711 hOK) rfl rfl (ok_here hOK e70) rfl ⟨by decide, by decide⟩ (Nat.le_of_ble_eq_true rfl) ⟨Nat.zero_le _, Nat.zero_le _⟩ ?_
        refine g_iaddw (q0 := 74) rfl dX12_readsContent_73 ?_
        refine g_bipush (q0 := 76) rfl dX12_readsContent_74 (k := ?_)
        refine g_isubw (q0 := 77) rfl dX12_readsContent_76 ?_
        refine g_put (q0 := 80) (t := 0) (fi := 22) rfl rfl ff_X12_275 dX12_readsContent_77 rfl (sh_711 hOK) rfl (fun _ => ⟨rfl, rfl⟩) ?_
        have hOK1 : gOK sh (gU M 711 22 (gw32 ((gw32 ((gw32 ((10 : Int) * (M 711 22))) + r70)) - (48 : Int)))) := gOK_o hOK (sh_711 hOK) (f := 22) rfl rfl
        refine g_aload_n (q0 := 81) (j := 0) rfl dX12_readsContent_80 rfl ?_
        refine g_aload_n (q0 := 82) (j := 0) rfl dX12_readsContent_81 rfl ?_
        refine g_getf (q0 := 85) (t := 0) (fi := 19) rfl rfl ff_X12_256 dX12_readsContent_82 rfl (sh_711 hOK1) ?_
        refine g_iconst (q0 := 86) rfl dX12_readsContent_85 (k := ?_)
        refine g_iaddw (q0 := 87) rfl dX12_readsContent_86 ?_
        refine g_put (q0 := 90) (t := 0) (fi := 19) rfl rfl ff_X12_256 dX12_readsContent_87 rfl (sh_711 hOK1) rfl (fun _ => ⟨rfl, rfl⟩) ?_
        have hOK2 : gOK sh (gU (gU M 711 22 (gw32 ((gw32 ((gw32 ((10 : Int) * (M 711 22))) + r70)) - (48 : Int)))) 711 19 (gw32 (((gU M 711 22 (gw32 ((gw32 ((gw32 ((10 : Int) * (M 711 22))) + r70)) - (48 : Int)))) 711 19) + (1 : Int)))) := gOK_o hOK1 (sh_711 hOK1) (f := 19) rfl rfl
        refine g_goto (tgt := 30) dX12_readsContent_90 (by decide) ?_
        exact (hk _ _ h) _ _ rfl hOK2
      · replace h := gI_pos h48 h
        refine g_aload_n (q0 := 52) (j := 0) rfl dX12_readsContent_51 rfl ?_
        refine g_iconst (q0 := 53) rfl dX12_readsContent_52 (k := ?_)
        refine g_aload_n (q0 := 54) (j := 0) rfl dX12_readsContent_53 rfl ?_
        refine g_getf (q0 := 57) (t := 0) (fi := 19) rfl rfl ff_X12_256 dX12_readsContent_54 rfl (sh_711 hOK) ?_
        obtain ⟨p57, e57, h⟩ := gI_bd h
        refine g_callVq1 (as := [_, _]) (rest := []) mt_X12_wrongAt mi_X12_wrongAt se_X12_wrongAt ml_X12_269 dX12_readsContent_57 (q0 := 60) rfl rfl (sh_711 hOK) rfl rfl (ok_wrongAt hOK e57) rfl ⟨by decide, by decide⟩ (Nat.le_of_ble_eq_true rfl) ⟨Nat.zero_le _, Nat.zero_le _⟩ ?_
        have hOK3 : gOK sh p57.2 := gOK_fr hOK (fr_wrongAt (b := p57) e57) (by first | decide | (intro a ha; simp only [List.mem_cons, List.not_mem_nil, or_false] at ha; omega)) (by decide)
        rw [← Option.some.inj h]
        refine g_zreturn dX12_readsContent_60 rfl (gnz (bo_wrongAt (b := p57) e57)) ⟨Nat.zero_le _, Nat.zero_le _⟩ ?_
        exact ⟨rfl, rfl, rfl⟩
theorem ok_readsContent_30 {sh : gS} {M : gM} {x1 : Int} {b : Int × gM} (hOK : gOK sh M) (h : F_readsContent_30 M x1 = some b) : gA (gr 2 42) yX12_readsContent cX12_readsContent 2 (some (.boolean)) (gPq sh (some (0, b.1)) b.2) (0, 0) 30 [(4, 711), (0, x1)] [] sh M :=
  (okp_readsContent _ _ h) _ _ rfl hOK
theorem ok_readsContent {sh : gS} {M : gM} {b : Int × gM} (hOK : gOK sh M) (h : F_readsContent M = some b) : gC (gr 2 42) yX12_readsContent cX12_readsContent 2 (some (.boolean)) [(4, 711)] sh M (gPq sh (some (0, b.1)) b.2) := by
  rw [eq_readsContent] at h
  refine gC_ofA (lv := [_, _]) (by decide +kernel) (Nat.le_of_ble_eq_true rfl) rfl (fun hMw hav => ?_)
  refine g_aload_n (q0 := 1) (j := 0) rfl dX12_readsContent_0 rfl ?_
  refine g_getf (q0 := 4) (t := 0) (fi := 19) rfl rfl ff_X12_256 dX12_readsContent_1 rfl (sh_711 hOK) ?_
  refine g_istore_n (q0 := 5) (j := 1) (lv2 := [_, _]) rfl dX12_readsContent_4 (by decide) rfl rfl ?_
  refine g_aload_n (q0 := 6) (j := 0) rfl dX12_readsContent_5 rfl ?_
  obtain ⟨r6, e6, h⟩ := gI_bd h
  refine g_callVq1 (as := []) (rest := []) mt_X12_here mi_X12_here se_X12_here ml_X12_265 dX12_readsContent_6 (q0 := 9) rfl rfl (sh_711 hOK) rfl rfl (ok_here hOK e6) rfl ⟨by decide, by decide⟩ (Nat.le_of_ble_eq_true rfl) ⟨Nat.zero_le _, Nat.zero_le _⟩ ?_
  obtain ⟨r9, e9, h⟩ := gI_bd h
  refine g_callSq1 (as := [_]) (rest := []) mt_X12_isDigit ms_X12_isDigit ml_X12_272 dX12_readsContent_9 (q0 := 12) rfl rfl (ok_isDigit hOK e9) rfl ⟨by decide, by decide⟩ (Nat.le_of_ble_eq_true rfl) ⟨Nat.zero_le _, Nat.zero_le _⟩ ?_
  refine g_if_ne (q0 := 15) (tgt := 25) rfl dX12_readsContent_12 (by decide) (fun h12 => ?_) (fun h12 => ?_)
  · replace h := gI_neg h12 h
    refine g_aload_n (q0 := 26) (j := 0) rfl dX12_readsContent_25 rfl ?_
    refine g_iconst (q0 := 27) rfl dX12_readsContent_26 (k := ?_)
    refine g_put (q0 := 30) (t := 0) (fi := 22) rfl rfl ff_X12_275 dX12_readsContent_27 rfl (sh_711 hOK) rfl (fun _ => ⟨rfl, rfl⟩) ?_
    have hOK4 : gOK sh (gU M 711 22 1) := gOK_o hOK (sh_711 hOK) (f := 22) rfl rfl
    exact ok_readsContent_30 hOK4 h
  · replace h := gI_pos h12 h
    refine g_aload_n (q0 := 16) (j := 0) rfl dX12_readsContent_15 rfl ?_
    refine g_iconst (q0 := 17) rfl dX12_readsContent_16 (k := ?_)
    refine g_aload_n (q0 := 18) (j := 0) rfl dX12_readsContent_17 rfl ?_
    refine g_getf (q0 := 21) (t := 0) (fi := 19) rfl rfl ff_X12_256 dX12_readsContent_18 rfl (sh_711 hOK) ?_
    obtain ⟨p21, e21, h⟩ := gI_bd h
    refine g_callVq1 (as := [_, _]) (rest := []) mt_X12_wrongAt mi_X12_wrongAt se_X12_wrongAt ml_X12_269 dX12_readsContent_21 (q0 := 24) rfl rfl (sh_711 hOK) rfl rfl (ok_wrongAt hOK e21) rfl ⟨by decide, by decide⟩ (Nat.le_of_ble_eq_true rfl) ⟨Nat.zero_le _, Nat.zero_le _⟩ ?_
    have hOK5 : gOK sh p21.2 := gOK_fr hOK (fr_wrongAt (b := p21) e21) (by first | decide | (intro a ha; simp only [List.mem_cons, List.not_mem_nil, or_false] at ha; omega)) (by decide)
    rw [← Option.some.inj h]
    refine g_zreturn dX12_readsContent_24 rfl (gnz (bo_wrongAt (b := p21) e21)) ⟨Nat.zero_le _, Nat.zero_le _⟩ ?_
    exact ⟨rfl, rfl, rfl⟩
-- ==== readsPath
theorem dX12_readsPath_0 : decode cX12_readsPath 0 = .ok (.iconst 0, 1) := by decide +kernel
theorem dX12_readsPath_1 : decode cX12_readsPath 1 = .ok (.istore_n 2, 1) := by decide +kernel
theorem dX12_readsPath_2 : decode cX12_readsPath 2 = .ok (.aload_n 0, 1) := by decide +kernel
theorem dX12_readsPath_3 : decode cX12_readsPath 3 = .ok (.iconst 0, 1) := by decide +kernel
theorem dX12_readsPath_4 : decode cX12_readsPath 4 = .ok (.putfield 278, 3) := by decide +kernel
theorem dX12_readsPath_7 : decode cX12_readsPath 7 = .ok (.aload_n 0, 1) := by decide +kernel
theorem dX12_readsPath_8 : decode cX12_readsPath 8 = .ok (.invokevirtual 265, 3) := by decide +kernel
theorem dX12_readsPath_11 : decode cX12_readsPath 11 = .ok (.invokestatic 281, 3) := by decide +kernel
theorem dX12_readsPath_14 : decode cX12_readsPath 14 = .ok (.ifCond .ne 13, 3) := by decide +kernel
theorem dX12_readsPath_17 : decode cX12_readsPath 17 = .ok (.aload_n 0, 1) := by decide +kernel
theorem dX12_readsPath_18 : decode cX12_readsPath 18 = .ok (.iconst 1, 1) := by decide +kernel
theorem dX12_readsPath_19 : decode cX12_readsPath 19 = .ok (.aload_n 0, 1) := by decide +kernel
theorem dX12_readsPath_20 : decode cX12_readsPath 20 = .ok (.getfield 256, 3) := by decide +kernel
theorem dX12_readsPath_23 : decode cX12_readsPath 23 = .ok (.invokevirtual 269, 3) := by decide +kernel
theorem dX12_readsPath_26 : decode cX12_readsPath 26 = .ok (.ireturn, 1) := by decide +kernel
theorem dX12_readsPath_27 : decode cX12_readsPath 27 = .ok (.iload_n 2, 1) := by decide +kernel
theorem dX12_readsPath_28 : decode cX12_readsPath 28 = .ok (.iload_n 1, 1) := by decide +kernel
theorem dX12_readsPath_29 : decode cX12_readsPath 29 = .ok (.if_icmp .ne 13, 3) := by decide +kernel
theorem dX12_readsPath_32 : decode cX12_readsPath 32 = .ok (.aload_n 0, 1) := by decide +kernel
theorem dX12_readsPath_33 : decode cX12_readsPath 33 = .ok (.iconst 5, 1) := by decide +kernel
theorem dX12_readsPath_34 : decode cX12_readsPath 34 = .ok (.aload_n 0, 1) := by decide +kernel
theorem dX12_readsPath_35 : decode cX12_readsPath 35 = .ok (.getfield 256, 3) := by decide +kernel
theorem dX12_readsPath_38 : decode cX12_readsPath 38 = .ok (.invokevirtual 269, 3) := by decide +kernel
theorem dX12_readsPath_41 : decode cX12_readsPath 41 = .ok (.ireturn, 1) := by decide +kernel
theorem dX12_readsPath_42 : decode cX12_readsPath 42 = .ok (.aload_n 0, 1) := by decide +kernel
theorem dX12_readsPath_43 : decode cX12_readsPath 43 = .ok (.aload_n 0, 1) := by decide +kernel
theorem dX12_readsPath_44 : decode cX12_readsPath 44 = .ok (.getfield 278, 3) := by decide +kernel
theorem dX12_readsPath_47 : decode cX12_readsPath 47 = .ok (.aload_n 0, 1) := by decide +kernel
theorem dX12_readsPath_48 : decode cX12_readsPath 48 = .ok (.invokevirtual 265, 3) := by decide +kernel
theorem dX12_readsPath_51 : decode cX12_readsPath 51 = .ok (.bipush 97, 2) := by decide +kernel
theorem dX12_readsPath_53 : decode cX12_readsPath 53 = .ok (.isub, 1) := by decide +kernel
theorem dX12_readsPath_54 : decode cX12_readsPath 54 = .ok (.iconst 1, 1) := by decide +kernel
theorem dX12_readsPath_55 : decode cX12_readsPath 55 = .ok (.iadd, 1) := by decide +kernel
theorem dX12_readsPath_56 : decode cX12_readsPath 56 = .ok (.bipush 25, 2) := by decide +kernel
theorem dX12_readsPath_58 : decode cX12_readsPath 58 = .ok (.iconst 5, 1) := by decide +kernel
theorem dX12_readsPath_59 : decode cX12_readsPath 59 = .ok (.iload_n 2, 1) := by decide +kernel
theorem dX12_readsPath_60 : decode cX12_readsPath 60 = .ok (.imul, 1) := by decide +kernel
theorem dX12_readsPath_61 : decode cX12_readsPath 61 = .ok (.isub, 1) := by decide +kernel
theorem dX12_readsPath_62 : decode cX12_readsPath 62 = .ok (.ishl, 1) := by decide +kernel
theorem dX12_readsPath_63 : decode cX12_readsPath 63 = .ok (.ior, 1) := by decide +kernel
theorem dX12_readsPath_64 : decode cX12_readsPath 64 = .ok (.putfield 278, 3) := by decide +kernel
theorem dX12_readsPath_67 : decode cX12_readsPath 67 = .ok (.iload_n 2, 1) := by decide +kernel
theorem dX12_readsPath_68 : decode cX12_readsPath 68 = .ok (.iconst 1, 1) := by decide +kernel
theorem dX12_readsPath_69 : decode cX12_readsPath 69 = .ok (.iadd, 1) := by decide +kernel
theorem dX12_readsPath_70 : decode cX12_readsPath 70 = .ok (.istore_n 2, 1) := by decide +kernel
theorem dX12_readsPath_71 : decode cX12_readsPath 71 = .ok (.aload_n 0, 1) := by decide +kernel
theorem dX12_readsPath_72 : decode cX12_readsPath 72 = .ok (.aload_n 0, 1) := by decide +kernel
theorem dX12_readsPath_73 : decode cX12_readsPath 73 = .ok (.getfield 256, 3) := by decide +kernel
theorem dX12_readsPath_76 : decode cX12_readsPath 76 = .ok (.iconst 1, 1) := by decide +kernel
theorem dX12_readsPath_77 : decode cX12_readsPath 77 = .ok (.iadd, 1) := by decide +kernel
theorem dX12_readsPath_78 : decode cX12_readsPath 78 = .ok (.putfield 256, 3) := by decide +kernel
theorem dX12_readsPath_81 : decode cX12_readsPath 81 = .ok (.aload_n 0, 1) := by decide +kernel
theorem dX12_readsPath_82 : decode cX12_readsPath 82 = .ok (.invokevirtual 265, 3) := by decide +kernel
theorem dX12_readsPath_85 : decode cX12_readsPath 85 = .ok (.bipush 47, 2) := by decide +kernel
theorem dX12_readsPath_87 : decode cX12_readsPath 87 = .ok (.if_icmp .eq 5, 3) := by decide +kernel
theorem dX12_readsPath_90 : decode cX12_readsPath 90 = .ok (.iconst 1, 1) := by decide +kernel
theorem dX12_readsPath_91 : decode cX12_readsPath 91 = .ok (.ireturn, 1) := by decide +kernel
theorem dX12_readsPath_92 : decode cX12_readsPath 92 = .ok (.aload_n 0, 1) := by decide +kernel
theorem dX12_readsPath_93 : decode cX12_readsPath 93 = .ok (.aload_n 0, 1) := by decide +kernel
theorem dX12_readsPath_94 : decode cX12_readsPath 94 = .ok (.getfield 256, 3) := by decide +kernel
theorem dX12_readsPath_97 : decode cX12_readsPath 97 = .ok (.iconst 1, 1) := by decide +kernel
theorem dX12_readsPath_98 : decode cX12_readsPath 98 = .ok (.iadd, 1) := by decide +kernel
theorem dX12_readsPath_99 : decode cX12_readsPath 99 = .ok (.putfield 256, 3) := by decide +kernel
theorem dX12_readsPath_102 : decode cX12_readsPath 102 = .ok (.goto (-95), 3) := by decide +kernel
noncomputable def st_readsPath : Nat × List Int × gM → Option ((Nat × List Int × gM) ⊕ (Int × gM))
  | (0, [x1, x2], M) => (Option.bind (F_here M) (fun r8 =>
      (Option.bind (F_isSmall r8) (fun r11 =>
        (if r11 = 0 then
          (Option.bind (F_wrongAt M 1 (M 711 19)) (fun p23 =>
            some (.inr (p23.1, p23.2))))
        else
          (if x2 = x1 then
            (Option.bind (F_wrongAt M 5 (M 711 19)) (fun p38 =>
              some (.inr (p38.1, p38.2))))
          else
            (Option.bind (F_here M) (fun r48 =>
              (Option.bind (F_here (gU (gU M 711 23 (gor (M 711 23) (gshl (gw32 ((gw32 (r48 - (97 : Int))) + (1 : Int))) (gw32 ((25 : Int) - (gw32 ((5 : Int) * x2))))))) 711 19 (gw32 (((gU M 711 23 (gor (M 711 23) (gshl (gw32 ((gw32 (r48 - (97 : Int))) + (1 : Int))) (gw32 ((25 : Int) - (gw32 ((5 : Int) * x2))))))) 711 19) + (1 : Int))))) (fun r82 =>
                (if r82 = 47 then
                  some (.inl (0, [x1, (gw32 (x2 + (1 : Int)))], (gU (gU (gU M 711 23 (gor (M 711 23) (gshl (gw32 ((gw32 (r48 - (97 : Int))) + (1 : Int))) (gw32 ((25 : Int) - (gw32 ((5 : Int) * x2))))))) 711 19 (gw32 (((gU M 711 23 (gor (M 711 23) (gshl (gw32 ((gw32 (r48 - (97 : Int))) + (1 : Int))) (gw32 ((25 : Int) - (gw32 ((5 : Int) * x2))))))) 711 19) + (1 : Int)))) 711 19 (gw32 (((gU (gU M 711 23 (gor (M 711 23) (gshl (gw32 ((gw32 (r48 - (97 : Int))) + (1 : Int))) (gw32 ((25 : Int) - (gw32 ((5 : Int) * x2))))))) 711 19 (gw32 (((gU M 711 23 (gor (M 711 23) (gshl (gw32 ((gw32 (r48 - (97 : Int))) + (1 : Int))) (gw32 ((25 : Int) - (gw32 ((5 : Int) * x2))))))) 711 19) + (1 : Int)))) 711 19) + (1 : Int))))))
                else
                  some (.inr (1, (gU (gU M 711 23 (gor (M 711 23) (gshl (gw32 ((gw32 (r48 - (97 : Int))) + (1 : Int))) (gw32 ((25 : Int) - (gw32 ((5 : Int) * x2))))))) 711 19 (gw32 (((gU M 711 23 (gor (M 711 23) (gshl (gw32 ((gw32 (r48 - (97 : Int))) + (1 : Int))) (gw32 ((25 : Int) - (gw32 ((5 : Int) * x2))))))) 711 19) + (1 : Int)))))))))))))))))
  | _ => none
theorem sk_readsPath_7 (k : Nat × List Int × gM → Option (Int × gM)) (M : gM) (x1 x2 : Int) : gWk k (st_readsPath (0, [x1, x2], M)) = (Option.bind (F_here M) (fun r8 =>
    (Option.bind (F_isSmall r8) (fun r11 =>
      (if r11 = 0 then
        (Option.bind (F_wrongAt M 1 (M 711 19)) (fun p23 =>
          some (p23.1, p23.2)))
      else
        (if x2 = x1 then
          (Option.bind (F_wrongAt M 5 (M 711 19)) (fun p38 =>
            some (p38.1, p38.2)))
        else
          (Option.bind (F_here M) (fun r48 =>
            (Option.bind (F_here (gU (gU M 711 23 (gor (M 711 23) (gshl (gw32 ((gw32 (r48 - (97 : Int))) + (1 : Int))) (gw32 ((25 : Int) - (gw32 ((5 : Int) * x2))))))) 711 19 (gw32 (((gU M 711 23 (gor (M 711 23) (gshl (gw32 ((gw32 (r48 - (97 : Int))) + (1 : Int))) (gw32 ((25 : Int) - (gw32 ((5 : Int) * x2))))))) 711 19) + (1 : Int))))) (fun r82 =>
              (if r82 = 47 then
                k (0, [x1, (gw32 (x2 + (1 : Int)))], (gU (gU (gU M 711 23 (gor (M 711 23) (gshl (gw32 ((gw32 (r48 - (97 : Int))) + (1 : Int))) (gw32 ((25 : Int) - (gw32 ((5 : Int) * x2))))))) 711 19 (gw32 (((gU M 711 23 (gor (M 711 23) (gshl (gw32 ((gw32 (r48 - (97 : Int))) + (1 : Int))) (gw32 ((25 : Int) - (gw32 ((5 : Int) * x2))))))) 711 19) + (1 : Int)))) 711 19 (gw32 (((gU (gU M 711 23 (gor (M 711 23) (gshl (gw32 ((gw32 (r48 - (97 : Int))) + (1 : Int))) (gw32 ((25 : Int) - (gw32 ((5 : Int) * x2))))))) 711 19 (gw32 (((gU M 711 23 (gor (M 711 23) (gshl (gw32 ((gw32 (r48 - (97 : Int))) + (1 : Int))) (gw32 ((25 : Int) - (gw32 ((5 : Int) * x2))))))) 711 19) + (1 : Int)))) 711 19) + (1 : Int)))))
              else
                some (1, (gU (gU M 711 23 (gor (M 711 23) (gshl (gw32 ((gw32 (r48 - (97 : Int))) + (1 : Int))) (gw32 ((25 : Int) - (gw32 ((5 : Int) * x2))))))) 711 19 (gw32 (((gU M 711 23 (gor (M 711 23) (gshl (gw32 ((gw32 (r48 - (97 : Int))) + (1 : Int))) (gw32 ((25 : Int) - (gw32 ((5 : Int) * x2))))))) 711 19) + (1 : Int)))))))))))))))) := by
  simp only [st_readsPath, gWk_ite, gWk_bind, gWk_inl, gWk_inr, gWk_none]
noncomputable def F_readsPath_7 (M : gM) (x1 x2 : Int) : Option (Int × gM) := gWh (st_readsPath) (0, [x1, x2], M)
theorem eq_readsPath_7 (M : gM) (x1 x2 : Int) : F_readsPath_7 M x1 x2 = (Option.bind (F_here M) (fun r8 =>
    (Option.bind (F_isSmall r8) (fun r11 =>
      (if r11 = 0 then
        (Option.bind (F_wrongAt M 1 (M 711 19)) (fun p23 =>
          some (p23.1, p23.2)))
      else
        (if x2 = x1 then
          (Option.bind (F_wrongAt M 5 (M 711 19)) (fun p38 =>
            some (p38.1, p38.2)))
        else
          (Option.bind (F_here M) (fun r48 =>
            (Option.bind (F_here (gU (gU M 711 23 (gor (M 711 23) (gshl (gw32 ((gw32 (r48 - (97 : Int))) + (1 : Int))) (gw32 ((25 : Int) - (gw32 ((5 : Int) * x2))))))) 711 19 (gw32 (((gU M 711 23 (gor (M 711 23) (gshl (gw32 ((gw32 (r48 - (97 : Int))) + (1 : Int))) (gw32 ((25 : Int) - (gw32 ((5 : Int) * x2))))))) 711 19) + (1 : Int))))) (fun r82 =>
              (if r82 = 47 then
                F_readsPath_7 (gU (gU (gU M 711 23 (gor (M 711 23) (gshl (gw32 ((gw32 (r48 - (97 : Int))) + (1 : Int))) (gw32 ((25 : Int) - (gw32 ((5 : Int) * x2))))))) 711 19 (gw32 (((gU M 711 23 (gor (M 711 23) (gshl (gw32 ((gw32 (r48 - (97 : Int))) + (1 : Int))) (gw32 ((25 : Int) - (gw32 ((5 : Int) * x2))))))) 711 19) + (1 : Int)))) 711 19 (gw32 (((gU (gU M 711 23 (gor (M 711 23) (gshl (gw32 ((gw32 (r48 - (97 : Int))) + (1 : Int))) (gw32 ((25 : Int) - (gw32 ((5 : Int) * x2))))))) 711 19 (gw32 (((gU M 711 23 (gor (M 711 23) (gshl (gw32 ((gw32 (r48 - (97 : Int))) + (1 : Int))) (gw32 ((25 : Int) - (gw32 ((5 : Int) * x2))))))) 711 19) + (1 : Int)))) 711 19) + (1 : Int)))) x1 (gw32 (x2 + (1 : Int)))
              else
                some (1, (gU (gU M 711 23 (gor (M 711 23) (gshl (gw32 ((gw32 (r48 - (97 : Int))) + (1 : Int))) (gw32 ((25 : Int) - (gw32 ((5 : Int) * x2))))))) 711 19 (gw32 (((gU M 711 23 (gor (M 711 23) (gshl (gw32 ((gw32 (r48 - (97 : Int))) + (1 : Int))) (gw32 ((25 : Int) - (gw32 ((5 : Int) * x2))))))) 711 19) + (1 : Int)))))))))))))))) := (gWh_eq _).trans (sk_readsPath_7 _ M x1 x2)
noncomputable def F_readsPath (M : gM) (a1 : Int) : Option (Int × gM) := F_readsPath_7 (gU M 711 23 0) a1 0
theorem eq_readsPath (M : gM) (a1 : Int) : F_readsPath M a1 = F_readsPath_7 (gU M 711 23 0) a1 0 := rfl
theorem frp_readsPath : ∀ (s : Nat × List Int × gM) (b : Int × gM), gWh (st_readsPath) s = some b → (∀ (x1 x2 : Int) (M : gM), s = (0, [x1, x2], M) → gFr [] [19, 21, 23] M b.2) := by
  refine gWh_ind (fun k hk s b h => ?_)
  · rintro x1 x2 M rfl
    rw [sk_readsPath_7] at h
    obtain ⟨r8, e8, h⟩ := gI_bd h
    obtain ⟨r11, e11, h⟩ := gI_bd h
    rcases gI_or h with h | h
    · obtain ⟨p23, e23, h⟩ := gI_bd h
      rw [← Option.some.inj h]
      exact (gFr_t (gFr_r [] [19, 21, 23] _) (fr_wrongAt (b := p23) e23) (by first | decide | simp) (by decide))
    · rcases gI_or h with h | h
      · obtain ⟨p38, e38, h⟩ := gI_bd h
        rw [← Option.some.inj h]
        exact (gFr_t (gFr_r [] [19, 21, 23] _) (fr_wrongAt (b := p38) e38) (by first | decide | simp) (by decide))
      · obtain ⟨r48, e48, h⟩ := gI_bd h
        obtain ⟨r82, e82, h⟩ := gI_bd h
        rcases gI_or h with h | h
        · exact gFr_t (gFr_f (gFr_f (gFr_f (gFr_r [] [19, 21, 23] _) (.tail _ (.tail _ (.head _)))) (.head _)) (.head _)) ((hk _ _ h) _ _ _ rfl) (fun _ z => z) (fun _ z => z)
        · rw [← Option.some.inj h]
          exact (gFr_f (gFr_f (gFr_r [] [19, 21, 23] _) (.tail _ (.tail _ (.head _)))) (.head _))
theorem fr_readsPath_7 {M : gM} {x1 x2 : Int} {b : Int × gM} (h : F_readsPath_7 M x1 x2 = some b) : gFr [] [19, 21, 23] M b.2 :=
  (frp_readsPath _ _ h) _ _ _ rfl
theorem fr_readsPath {M : gM} {a1 : Int} {b : Int × gM} (h : F_readsPath M a1 = some b) : gFr [] [19, 21, 23] M b.2 := by
  rw [eq_readsPath] at h
  exact gFr_t (gFr_f (gFr_r [] [19, 21, 23] _) (.tail _ (.tail _ (.head _)))) (fr_readsPath_7 h) (fun _ z => z) (fun _ z => z)
theorem bop_readsPath : ∀ (s : Nat × List Int × gM) (b : Int × gM), gWh (st_readsPath) s = some b → (∀ (x1 x2 : Int) (M : gM), s = (0, [x1, x2], M) → b.1 = 0 ∨ b.1 = 1) := by
  refine gWh_ind (fun k hk s b h => ?_)
  · rintro x1 x2 M rfl
    rw [sk_readsPath_7] at h
    obtain ⟨r8, e8, h⟩ := gI_bd h
    obtain ⟨r11, e11, h⟩ := gI_bd h
    rcases gI_or h with h | h
    · obtain ⟨p23, e23, h⟩ := gI_bd h
      rw [← Option.some.inj h]
      exact (bo_wrongAt (b := p23) e23)
    · rcases gI_or h with h | h
      · obtain ⟨p38, e38, h⟩ := gI_bd h
        rw [← Option.some.inj h]
        exact (bo_wrongAt (b := p38) e38)
      · obtain ⟨r48, e48, h⟩ := gI_bd h
        obtain ⟨r82, e82, h⟩ := gI_bd h
        rcases gI_or h with h | h
        · exact (hk _ _ h) _ _ _ rfl
        · rw [← Option.some.inj h]
          exact (Or.inr rfl)
theorem bo_readsPath_7 {M : gM} {x1 x2 : Int} {b : Int × gM} (h : F_readsPath_7 M x1 x2 = some b) : b.1 = 0 ∨ b.1 = 1 :=
  (bop_readsPath _ _ h) _ _ _ rfl
theorem bo_readsPath {M : gM} {a1 : Int} {b : Int × gM} (h : F_readsPath M a1 = some b) : b.1 = 0 ∨ b.1 = 1 := by
  rw [eq_readsPath] at h
  exact bo_readsPath_7 h
theorem okp_readsPath {sh : gS} : ∀ (s : Nat × List Int × gM) (b : Int × gM), gWh (st_readsPath) s = some b → (∀ (x1 x2 : Int) (M : gM), s = (0, [x1, x2], M) → gOK sh M → gA (gr 2 42) yX12_readsPath cX12_readsPath 3 (some (.boolean)) (gPq sh (some (0, b.1)) b.2) (0, 0) 7 [(4, 711), (0, x1), (0, x2)] [] sh M) := by
  refine gWh_ind (fun k hk s b h => ?_)
  · rintro x1 x2 M rfl hOK
    rw [sk_readsPath_7] at h
    refine g_aload_n (q0 := 8) (j := 0) rfl dX12_readsPath_7 rfl ?_
    obtain ⟨r8, e8, h⟩ := gI_bd h
    refine g_callVq1 (as := []) (rest := []) mt_X12_here mi_X12_here se_X12_here ml_X12_265 dX12_readsPath_8 (q0 := 11) rfl rfl (sh_711 hOK) rfl rfl (ok_here hOK e8) rfl ⟨by decide, by decide⟩ (Nat.le_of_ble_eq_true rfl) ⟨Nat.zero_le _, Nat.zero_le _⟩ ?_
    obtain ⟨r11, e11, h⟩ := gI_bd h
    refine g_callSq1 (as := [_]) (rest := []) mt_X12_isSmall ms_X12_isSmall ml_X12_281 dX12_readsPath_11 (q0 := 14) rfl rfl (ok_isSmall hOK e11) rfl ⟨by decide, by decide⟩ (Nat.le_of_ble_eq_true rfl) ⟨Nat.zero_le _, Nat.zero_le _⟩ ?_
    refine g_if_ne (q0 := 17) (tgt := 27) rfl dX12_readsPath_14 (by decide) (fun h14 => ?_) (fun h14 => ?_)
    · replace h := gI_neg h14 h
      refine g_iload_n (q0 := 28) (j := 2) rfl dX12_readsPath_27 rfl ?_
      refine g_iload_n (q0 := 29) (j := 1) rfl dX12_readsPath_28 rfl ?_
      refine g_icmp_ne (q0 := 32) (tgt := 42) rfl dX12_readsPath_29 (by decide) (fun h29 => ?_) (fun h29 => ?_)
      · replace h := gI_neg h29 h
        refine g_aload_n (q0 := 43) (j := 0) rfl dX12_readsPath_42 rfl ?_
        refine g_aload_n (q0 := 44) (j := 0) rfl dX12_readsPath_43 rfl ?_
        refine g_getf (q0 := 47) (t := 0) (fi := 23) rfl rfl ff_X12_278 dX12_readsPath_44 rfl (sh_711 hOK) ?_
        refine g_aload_n (q0 := 48) (j := 0) rfl dX12_readsPath_47 rfl ?_
        obtain ⟨r48, e48, h⟩ := gI_bd h
        refine g_callVq1 (as := []) (rest := [_, _]) mt_X12_here mi_X12_here se_X12_here ml_X12_265 dX12_readsPath_48 (q0 := 51) rfl rfl (sh_711 hOK) rfl rfl (ok_here hOK e48) rfl ⟨by decide, by decide⟩ (Nat.le_of_ble_eq_true rfl) ⟨Nat.zero_le _, Nat.zero_le _⟩ ?_
        refine g_bipush (q0 := 53) rfl dX12_readsPath_51 (k := ?_)
        refine g_isubw (q0 := 54) rfl dX12_readsPath_53 ?_
        refine g_iconst (q0 := 55) rfl dX12_readsPath_54 (k := ?_)
        refine g_iaddw (q0 := 56) rfl dX12_readsPath_55 ?_
        refine g_bipush (q0 := 58) rfl dX12_readsPath_56 (k := ?_)
        refine g_iconst (q0 := 59) rfl dX12_readsPath_58 (k := ?_)
        refine g_iload_n (q0 := 60) (j := 2) rfl dX12_readsPath_59 rfl ?_
        refine g_imulw (q0 := 61) rfl dX12_readsPath_60 ?_
        refine g_isubw (q0 := 62) rfl dX12_readsPath_61 ?_
        refine g_ishl (q0 := 63) rfl dX12_readsPath_62 ?_
        refine g_ior (q0 := 64) rfl dX12_readsPath_63 ?_
        refine g_put (q0 := 67) (t := 0) (fi := 23) rfl rfl ff_X12_278 dX12_readsPath_64 rfl (sh_711 hOK) rfl (fun _ => ⟨rfl, rfl⟩) ?_
        have hOK1 : gOK sh (gU M 711 23 (gor (M 711 23) (gshl (gw32 ((gw32 (r48 - (97 : Int))) + (1 : Int))) (gw32 ((25 : Int) - (gw32 ((5 : Int) * x2))))))) := gOK_o hOK (sh_711 hOK) (f := 23) rfl rfl
        refine g_iload_n (q0 := 68) (j := 2) rfl dX12_readsPath_67 rfl ?_
        refine g_iconst (q0 := 69) rfl dX12_readsPath_68 (k := ?_)
        refine g_iaddw (q0 := 70) rfl dX12_readsPath_69 ?_
        refine g_istore_n (q0 := 71) (j := 2) (lv2 := [_, _, _]) rfl dX12_readsPath_70 (by decide) rfl rfl ?_
        refine g_aload_n (q0 := 72) (j := 0) rfl dX12_readsPath_71 rfl ?_
        refine g_aload_n (q0 := 73) (j := 0) rfl dX12_readsPath_72 rfl ?_
        refine g_getf (q0 := 76) (t := 0) (fi := 19) rfl rfl ff_X12_256 dX12_readsPath_73 rfl (sh_711 hOK1) ?_
        refine g_iconst (q0 := 77) rfl dX12_readsPath_76 (k := ?_)
        refine g_iaddw (q0 := 78) rfl dX12_readsPath_77 ?_
        refine g_put (q0 := 81) (t := 0) (fi := 19) rfl rfl ff_X12_256 dX12_readsPath_78 rfl (sh_711 hOK1) rfl (fun _ => ⟨rfl, rfl⟩) ?_
        have hOK2 : gOK sh (gU (gU M 711 23 (gor (M 711 23) (gshl (gw32 ((gw32 (r48 - (97 : Int))) + (1 : Int))) (gw32 ((25 : Int) - (gw32 ((5 : Int) * x2))))))) 711 19 (gw32 (((gU M 711 23 (gor (M 711 23) (gshl (gw32 ((gw32 (r48 - (97 : Int))) + (1 : Int))) (gw32 ((25 : Int) - (gw32 ((5 : Int) * x2))))))) 711 19) + (1 : Int)))) := gOK_o hOK1 (sh_711 hOK1) (f := 19) rfl rfl
        refine g_aload_n (q0 := 82) (j := 0) rfl dX12_readsPath_81 rfl ?_
        obtain ⟨r82, e82, h⟩ := gI_bd h
        refine g_callVq1 (as := []) (rest := []) mt_X12_here mi_X12_here se_X12_here ml_X12_265 dX12_readsPath_82 (q0 := 85) rfl rfl (sh_711 hOK2) rfl rfl (ok_here hOK2 e82) rfl ⟨by decide, by decide⟩ (Nat.le_of_ble_eq_true rfl) ⟨Nat.zero_le _, Nat.zero_le _⟩ ?_
        refine g_bipush (q0 := 87) rfl dX12_readsPath_85 (k := ?_)
        refine g_icmp_eq (q0 := 90) (tgt := 92) rfl dX12_readsPath_87 (by decide) (fun h87 => ?_) (fun h87 => ?_)
        · replace h := gI_pos h87 h
          refine g_aload_n (q0 := 93) (j := 0) rfl dX12_readsPath_92 rfl ?_
          refine g_aload_n (q0 := 94) (j := 0) rfl dX12_readsPath_93 rfl ?_
          refine g_getf (q0 := 97) (t := 0) (fi := 19) rfl rfl ff_X12_256 dX12_readsPath_94 rfl (sh_711 hOK2) ?_
          refine g_iconst (q0 := 98) rfl dX12_readsPath_97 (k := ?_)
          refine g_iaddw (q0 := 99) rfl dX12_readsPath_98 ?_
          refine g_put (q0 := 102) (t := 0) (fi := 19) rfl rfl ff_X12_256 dX12_readsPath_99 rfl (sh_711 hOK2) rfl (fun _ => ⟨rfl, rfl⟩) ?_
          have hOK3 : gOK sh (gU (gU (gU M 711 23 (gor (M 711 23) (gshl (gw32 ((gw32 (r48 - (97 : Int))) + (1 : Int))) (gw32 ((25 : Int) - (gw32 ((5 : Int) * x2))))))) 711 19 (gw32 (((gU M 711 23 (gor (M 711 23) (gshl (gw32 ((gw32 (r48 - (97 : Int))) + (1 : Int))) (gw32 ((25 : Int) - (gw32 ((5 : Int) * x2))))))) 711 19) + (1 : Int)))) 711 19 (gw32 (((gU (gU M 711 23 (gor (M 711 23) (gshl (gw32 ((gw32 (r48 - (97 : Int))) + (1 : Int))) (gw32 ((25 : Int) - (gw32 ((5 : Int) * x2))))))) 711 19 (gw32 (((gU M 711 23 (gor (M 711 23) (gshl (gw32 ((gw32 (r48 - (97 : Int))) + (1 : Int))) (gw32 ((25 : Int) - (gw32 ((5 : Int) * x2))))))) 711 19) + (1 : Int)))) 711 19) + (1 : Int)))) := gOK_o hOK2 (sh_711 hOK2) (f := 19) rfl rfl
          refine g_goto (tgt := 7) dX12_readsPath_102 (by decide) ?_
          exact (hk _ _ h) _ _ _ rfl hOK3
        · replace h := gI_neg h87 h
          refine g_iconst (q0 := 91) rfl dX12_readsPath_90 (k := ?_)
          rw [← Option.some.inj h]
          refine g_zreturn dX12_readsPath_91 rfl (gnz (Or.inr rfl)) ⟨Nat.zero_le _, Nat.zero_le _⟩ ?_
          exact ⟨rfl, rfl, rfl⟩
      · replace h := gI_pos h29 h
        refine g_aload_n (q0 := 33) (j := 0) rfl dX12_readsPath_32 rfl ?_
        refine g_iconst (q0 := 34) rfl dX12_readsPath_33 (k := ?_)
        refine g_aload_n (q0 := 35) (j := 0) rfl dX12_readsPath_34 rfl ?_
        refine g_getf (q0 := 38) (t := 0) (fi := 19) rfl rfl ff_X12_256 dX12_readsPath_35 rfl (sh_711 hOK) ?_
        obtain ⟨p38, e38, h⟩ := gI_bd h
        refine g_callVq1 (as := [_, _]) (rest := []) mt_X12_wrongAt mi_X12_wrongAt se_X12_wrongAt ml_X12_269 dX12_readsPath_38 (q0 := 41) rfl rfl (sh_711 hOK) rfl rfl (ok_wrongAt hOK e38) rfl ⟨by decide, by decide⟩ (Nat.le_of_ble_eq_true rfl) ⟨Nat.zero_le _, Nat.zero_le _⟩ ?_
        have hOK4 : gOK sh p38.2 := gOK_fr hOK (fr_wrongAt (b := p38) e38) (by first | decide | (intro a ha; simp only [List.mem_cons, List.not_mem_nil, or_false] at ha; omega)) (by decide)
        rw [← Option.some.inj h]
        refine g_zreturn dX12_readsPath_41 rfl (gnz (bo_wrongAt (b := p38) e38)) ⟨Nat.zero_le _, Nat.zero_le _⟩ ?_
        exact ⟨rfl, rfl, rfl⟩
    · replace h := gI_pos h14 h
      refine g_aload_n (q0 := 18) (j := 0) rfl dX12_readsPath_17 rfl ?_
      refine g_iconst (q0 := 19) rfl dX12_readsPath_18 (k := ?_)
      refine g_aload_n (q0 := 20) (j := 0) rfl dX12_readsPath_19 rfl ?_
      refine g_getf (q0 := 23) (t := 0) (fi := 19) rfl rfl ff_X12_256 dX12_readsPath_20 rfl (sh_711 hOK) ?_
      obtain ⟨p23, e23, h⟩ := gI_bd h
      refine g_callVq1 (as := [_, _]) (rest := []) mt_X12_wrongAt mi_X12_wrongAt se_X12_wrongAt ml_X12_269 dX12_readsPath_23 (q0 := 26) rfl rfl (sh_711 hOK) rfl rfl (ok_wrongAt hOK e23) rfl ⟨by decide, by decide⟩ (Nat.le_of_ble_eq_true rfl) ⟨Nat.zero_le _, Nat.zero_le _⟩ ?_
      have hOK5 : gOK sh p23.2 := gOK_fr hOK (fr_wrongAt (b := p23) e23) (by first | decide | (intro a ha; simp only [List.mem_cons, List.not_mem_nil, or_false] at ha; omega)) (by decide)
      rw [← Option.some.inj h]
      refine g_zreturn dX12_readsPath_26 rfl (gnz (bo_wrongAt (b := p23) e23)) ⟨Nat.zero_le _, Nat.zero_le _⟩ ?_
      exact ⟨rfl, rfl, rfl⟩
theorem ok_readsPath_7 {sh : gS} {M : gM} {x1 x2 : Int} {b : Int × gM} (hOK : gOK sh M) (h : F_readsPath_7 M x1 x2 = some b) : gA (gr 2 42) yX12_readsPath cX12_readsPath 3 (some (.boolean)) (gPq sh (some (0, b.1)) b.2) (0, 0) 7 [(4, 711), (0, x1), (0, x2)] [] sh M :=
  (okp_readsPath _ _ h) _ _ _ rfl hOK
theorem ok_readsPath {sh : gS} {M : gM} {a1 : Int} {b : Int × gM} (hOK : gOK sh M) (h : F_readsPath M a1 = some b) : gC (gr 2 42) yX12_readsPath cX12_readsPath 3 (some (.boolean)) [(4, 711), (0, a1)] sh M (gPq sh (some (0, b.1)) b.2) := by
  rw [eq_readsPath] at h
  refine gC_ofA (lv := [_, _, _]) (by decide +kernel) (Nat.le_of_ble_eq_true rfl) rfl (fun hMw hav => ?_)
  refine g_iconst (q0 := 1) rfl dX12_readsPath_0 (k := ?_)
  refine g_istore_n (q0 := 2) (j := 2) (lv2 := [_, _, _]) rfl dX12_readsPath_1 (by decide) rfl rfl ?_
  refine g_aload_n (q0 := 3) (j := 0) rfl dX12_readsPath_2 rfl ?_
  refine g_iconst (q0 := 4) rfl dX12_readsPath_3 (k := ?_)
  refine g_put (q0 := 7) (t := 0) (fi := 23) rfl rfl ff_X12_278 dX12_readsPath_4 rfl (sh_711 hOK) rfl (fun _ => ⟨rfl, rfl⟩) ?_
  have hOK6 : gOK sh (gU M 711 23 0) := gOK_o hOK (sh_711 hOK) (f := 23) rfl rfl
  exact ok_readsPath_7 hOK6 h
-- ==== isTold
theorem dX12_isTold_0 : decode cX12_isTold 0 = .ok (.iconst 0, 1) := by decide +kernel
theorem dX12_isTold_1 : decode cX12_isTold 1 = .ok (.istore_n 2, 1) := by decide +kernel
theorem dX12_isTold_2 : decode cX12_isTold 2 = .ok (.iload_n 2, 1) := by decide +kernel
theorem dX12_isTold_3 : decode cX12_isTold 3 = .ok (.aload_n 0, 1) := by decide +kernel
theorem dX12_isTold_4 : decode cX12_isTold 4 = .ok (.getfield 186, 3) := by decide +kernel
theorem dX12_isTold_7 : decode cX12_isTold 7 = .ok (.if_icmp .ge 21, 3) := by decide +kernel
theorem dX12_isTold_10 : decode cX12_isTold 10 = .ok (.aload_n 0, 1) := by decide +kernel
theorem dX12_isTold_11 : decode cX12_isTold 11 = .ok (.getfield 37, 3) := by decide +kernel
theorem dX12_isTold_14 : decode cX12_isTold 14 = .ok (.iload_n 2, 1) := by decide +kernel
theorem dX12_isTold_15 : decode cX12_isTold 15 = .ok (.iaload, 1) := by decide +kernel
theorem dX12_isTold_16 : decode cX12_isTold 16 = .ok (.iload_n 1, 1) := by decide +kernel
theorem dX12_isTold_17 : decode cX12_isTold 17 = .ok (.if_icmp .ne 5, 3) := by decide +kernel
theorem dX12_isTold_20 : decode cX12_isTold 20 = .ok (.iconst 1, 1) := by decide +kernel
theorem dX12_isTold_21 : decode cX12_isTold 21 = .ok (.ireturn, 1) := by decide +kernel
theorem dX12_isTold_22 : decode cX12_isTold 22 = .ok (.iinc 2 1, 3) := by decide +kernel
theorem dX12_isTold_25 : decode cX12_isTold 25 = .ok (.goto (-23), 3) := by decide +kernel
theorem dX12_isTold_28 : decode cX12_isTold 28 = .ok (.iconst 0, 1) := by decide +kernel
theorem dX12_isTold_29 : decode cX12_isTold 29 = .ok (.ireturn, 1) := by decide +kernel
noncomputable def st_isTold (M : gM) : Nat × List Int → Option ((Nat × List Int) ⊕ (Int))
  | (0, [x1, x2]) => (if x2 < (M 711 12) then
      (if 0 ≤ x2 ∧ x2 < 3 then
        (if (M 721 x2) = x1 then
          some (.inr 1)
        else
          some (.inl (0, [x1, (gw32 (x2 + 1))])))
      else none)
    else
      some (.inr 0))
  | _ => none
theorem sk_isTold_2 (k : Nat × List Int → Option (Int)) (M : gM) (x1 x2 : Int) : gWk k (st_isTold M (0, [x1, x2])) = (if x2 < (M 711 12) then
    (if 0 ≤ x2 ∧ x2 < 3 then
      (if (M 721 x2) = x1 then
        some 1
      else
        k (0, [x1, (gw32 (x2 + 1))]))
    else none)
  else
    some 0) := by
  simp only [st_isTold, gWk_ite, gWk_bind, gWk_inl, gWk_inr, gWk_none]
noncomputable def F_isTold_2 (M : gM) (x1 x2 : Int) : Option (Int) := gWh (st_isTold M) (0, [x1, x2])
theorem eq_isTold_2 (M : gM) (x1 x2 : Int) : F_isTold_2 M x1 x2 = (if x2 < (M 711 12) then
    (if 0 ≤ x2 ∧ x2 < 3 then
      (if (M 721 x2) = x1 then
        some 1
      else
        F_isTold_2 M x1 (gw32 (x2 + 1)))
    else none)
  else
    some 0) := (gWh_eq _).trans (sk_isTold_2 _ M x1 x2)
noncomputable def F_isTold (M : gM) (a1 : Int) : Option (Int) := F_isTold_2 M a1 0
theorem eq_isTold (M : gM) (a1 : Int) : F_isTold M a1 = F_isTold_2 M a1 0 := rfl
theorem bop_isTold {M : gM} : ∀ (s : Nat × List Int) (b : Int), gWh (st_isTold M) s = some b → (∀ (x1 x2 : Int), s = (0, [x1, x2]) → b = 0 ∨ b = 1) := by
  refine gWh_ind (fun k hk s b h => ?_)
  · rintro x1 x2 rfl
    rw [sk_isTold_2] at h
    rcases gI_or h with h | h
    · obtain ⟨g1, h⟩ := gI_gd h
      rcases gI_or h with h | h
      · rw [← Option.some.inj h]
        exact (Or.inr rfl)
      · exact (hk _ _ h) _ _ rfl
    · rw [← Option.some.inj h]
      exact (Or.inl rfl)
theorem bo_isTold_2 {M : gM} {x1 x2 : Int} {b : Int} (h : F_isTold_2 M x1 x2 = some b) : b = 0 ∨ b = 1 :=
  (bop_isTold _ _ h) _ _ rfl
theorem bo_isTold {M : gM} {a1 : Int} {b : Int} (h : F_isTold M a1 = some b) : b = 0 ∨ b = 1 := by
  rw [eq_isTold] at h
  exact bo_isTold_2 h
theorem okp_isTold {sh : gS} {M : gM} : ∀ (s : Nat × List Int) (b : Int), gWh (st_isTold M) s = some b → (∀ (x1 x2 : Int), s = (0, [x1, x2]) → gOK sh M → gA (gr 0 0) yX12_isTold cX12_isTold 3 (some (.boolean)) (gPq sh (some (0, b)) M) (0, 0) 2 [(4, 711), (0, x1), (0, x2)] [] sh M) := by
  refine gWh_ind (fun k hk s b h => ?_)
  · rintro x1 x2 rfl hOK
    rw [sk_isTold_2] at h
    refine g_iload_n (q0 := 3) (j := 2) rfl dX12_isTold_2 rfl ?_
    refine g_aload_n (q0 := 4) (j := 0) rfl dX12_isTold_3 rfl ?_
    refine g_getf (q0 := 7) (t := 0) (fi := 12) rfl rfl ff_X12_186 dX12_isTold_4 rfl (sh_711 hOK) ?_
    refine g_icmp_ge (q0 := 10) (tgt := 28) rfl dX12_isTold_7 (by decide) (fun h7 => ?_) (fun h7 => ?_)
    · replace h := gI_neg (Int.not_lt.mpr h7) h
      refine g_iconst (q0 := 29) rfl dX12_isTold_28 (k := ?_)
      rw [← Option.some.inj h]
      refine g_zreturn dX12_isTold_29 rfl (gnz (Or.inl rfl)) ⟨Nat.zero_le _, Nat.zero_le _⟩ ?_
      exact ⟨rfl, rfl, rfl⟩
    · replace h := gI_pos h7 h
      refine g_aload_n (q0 := 11) (j := 0) rfl dX12_isTold_10 rfl ?_
      refine g_getp (q0 := 14) (b := 721) rfl ff_X12_37 dX12_isTold_11 rfl hOK (by decide) (sh_711 hOK) rfl (by decide) ?_
      refine g_iload_n (q0 := 15) (j := 2) rfl dX12_isTold_14 rfl ?_
      obtain ⟨g1, h⟩ := gI_gd h
      refine g_iald (q0 := 16) rfl dX12_isTold_15 (sh_721 hOK) g1.1 g1.2 ?_
      refine g_iload_n (q0 := 17) (j := 1) rfl dX12_isTold_16 rfl ?_
      refine g_icmp_ne (q0 := 20) (tgt := 22) rfl dX12_isTold_17 (by decide) (fun h17 => ?_) (fun h17 => ?_)
      · replace h := gI_neg h17 h
        refine g_iincw (q0 := 25) (lv2 := [_, _, _]) rfl dX12_isTold_22 rfl (by decide) rfl rfl ?_
        refine g_goto (tgt := 2) dX12_isTold_25 (by decide) ?_
        exact (hk _ _ h) _ _ rfl hOK
      · replace h := gI_pos h17 h
        refine g_iconst (q0 := 21) rfl dX12_isTold_20 (k := ?_)
        rw [← Option.some.inj h]
        refine g_zreturn dX12_isTold_21 rfl (gnz (Or.inr rfl)) ⟨Nat.zero_le _, Nat.zero_le _⟩ ?_
        exact ⟨rfl, rfl, rfl⟩
theorem ok_isTold_2 {sh : gS} {M : gM} {x1 x2 : Int} {b : Int} (hOK : gOK sh M) (h : F_isTold_2 M x1 x2 = some b) : gA (gr 0 0) yX12_isTold cX12_isTold 3 (some (.boolean)) (gPq sh (some (0, b)) M) (0, 0) 2 [(4, 711), (0, x1), (0, x2)] [] sh M :=
  (okp_isTold _ _ h) _ _ rfl hOK
theorem ok_isTold {sh : gS} {M : gM} {a1 : Int} {b : Int} (hOK : gOK sh M) (h : F_isTold M a1 = some b) : gC (gr 0 0) yX12_isTold cX12_isTold 3 (some (.boolean)) [(4, 711), (0, a1)] sh M (gPq sh (some (0, b)) M) := by
  rw [eq_isTold] at h
  refine gC_ofA (lv := [_, _, _]) (by decide +kernel) (Nat.le_of_ble_eq_true rfl) rfl (fun hMw hav => ?_)
  refine g_iconst (q0 := 1) rfl dX12_isTold_0 (k := ?_)
  refine g_istore_n (q0 := 2) (j := 2) (lv2 := [_, _, _]) rfl dX12_isTold_1 (by decide) rfl rfl ?_
  exact ok_isTold_2 hOK h
-- ==== readsParent
theorem dX12_readsParent_0 : decode cX12_readsParent 0 = .ok (.aload_n 0, 1) := by decide +kernel
theorem dX12_readsParent_1 : decode cX12_readsParent 1 = .ok (.getfield 256, 3) := by decide +kernel
theorem dX12_readsParent_4 : decode cX12_readsParent 4 = .ok (.istore_n 1, 1) := by decide +kernel
theorem dX12_readsParent_5 : decode cX12_readsParent 5 = .ok (.aload_n 0, 1) := by decide +kernel
theorem dX12_readsParent_6 : decode cX12_readsParent 6 = .ok (.invokevirtual 265, 3) := by decide +kernel
theorem dX12_readsParent_9 : decode cX12_readsParent 9 = .ok (.invokestatic 272, 3) := by decide +kernel
theorem dX12_readsParent_12 : decode cX12_readsParent 12 = .ok (.ifCond .eq 21, 3) := by decide +kernel
theorem dX12_readsParent_15 : decode cX12_readsParent 15 = .ok (.aload_n 0, 1) := by decide +kernel
theorem dX12_readsParent_16 : decode cX12_readsParent 16 = .ok (.getfield 186, 3) := by decide +kernel
theorem dX12_readsParent_19 : decode cX12_readsParent 19 = .ok (.iconst 3, 1) := by decide +kernel
theorem dX12_readsParent_20 : decode cX12_readsParent 20 = .ok (.if_icmp .ne 13, 3) := by decide +kernel
theorem dX12_readsParent_23 : decode cX12_readsParent 23 = .ok (.aload_n 0, 1) := by decide +kernel
theorem dX12_readsParent_24 : decode cX12_readsParent 24 = .ok (.iconst 4, 1) := by decide +kernel
theorem dX12_readsParent_25 : decode cX12_readsParent 25 = .ok (.aload_n 0, 1) := by decide +kernel
theorem dX12_readsParent_26 : decode cX12_readsParent 26 = .ok (.getfield 256, 3) := by decide +kernel
theorem dX12_readsParent_29 : decode cX12_readsParent 29 = .ok (.invokevirtual 269, 3) := by decide +kernel
theorem dX12_readsParent_32 : decode cX12_readsParent 32 = .ok (.ireturn, 1) := by decide +kernel
theorem dX12_readsParent_33 : decode cX12_readsParent 33 = .ok (.aload_n 0, 1) := by decide +kernel
theorem dX12_readsParent_34 : decode cX12_readsParent 34 = .ok (.invokevirtual 284, 3) := by decide +kernel
theorem dX12_readsParent_37 : decode cX12_readsParent 37 = .ok (.ifCond .ne 5, 3) := by decide +kernel
theorem dX12_readsParent_40 : decode cX12_readsParent 40 = .ok (.iconst 0, 1) := by decide +kernel
theorem dX12_readsParent_41 : decode cX12_readsParent 41 = .ok (.ireturn, 1) := by decide +kernel
theorem dX12_readsParent_42 : decode cX12_readsParent 42 = .ok (.aload_n 0, 1) := by decide +kernel
theorem dX12_readsParent_43 : decode cX12_readsParent 43 = .ok (.aload_n 0, 1) := by decide +kernel
theorem dX12_readsParent_44 : decode cX12_readsParent 44 = .ok (.getfield 275, 3) := by decide +kernel
theorem dX12_readsParent_47 : decode cX12_readsParent 47 = .ok (.invokevirtual 229, 3) := by decide +kernel
theorem dX12_readsParent_50 : decode cX12_readsParent 50 = .ok (.ifCond .ne 11, 3) := by decide +kernel
theorem dX12_readsParent_53 : decode cX12_readsParent 53 = .ok (.aload_n 0, 1) := by decide +kernel
theorem dX12_readsParent_54 : decode cX12_readsParent 54 = .ok (.bipush 9, 2) := by decide +kernel
theorem dX12_readsParent_56 : decode cX12_readsParent 56 = .ok (.iload_n 1, 1) := by decide +kernel
theorem dX12_readsParent_57 : decode cX12_readsParent 57 = .ok (.invokevirtual 269, 3) := by decide +kernel
theorem dX12_readsParent_60 : decode cX12_readsParent 60 = .ok (.ireturn, 1) := by decide +kernel
theorem dX12_readsParent_61 : decode cX12_readsParent 61 = .ok (.aload_n 0, 1) := by decide +kernel
theorem dX12_readsParent_62 : decode cX12_readsParent 62 = .ok (.aload_n 0, 1) := by decide +kernel
theorem dX12_readsParent_63 : decode cX12_readsParent 63 = .ok (.getfield 275, 3) := by decide +kernel
theorem dX12_readsParent_66 : decode cX12_readsParent 66 = .ok (.invokevirtual 288, 3) := by decide +kernel
theorem dX12_readsParent_69 : decode cX12_readsParent 69 = .ok (.ifCond .eq 11, 3) := by decide +kernel
theorem dX12_readsParent_72 : decode cX12_readsParent 72 = .ok (.aload_n 0, 1) := by decide +kernel
theorem dX12_readsParent_73 : decode cX12_readsParent 73 = .ok (.bipush 6, 2) := by decide +kernel
theorem dX12_readsParent_75 : decode cX12_readsParent 75 = .ok (.iload_n 1, 1) := by decide +kernel
theorem dX12_readsParent_76 : decode cX12_readsParent 76 = .ok (.invokevirtual 269, 3) := by decide +kernel
theorem dX12_readsParent_79 : decode cX12_readsParent 79 = .ok (.ireturn, 1) := by decide +kernel
theorem dX12_readsParent_80 : decode cX12_readsParent 80 = .ok (.aload_n 0, 1) := by decide +kernel
theorem dX12_readsParent_81 : decode cX12_readsParent 81 = .ok (.getfield 37, 3) := by decide +kernel
theorem dX12_readsParent_84 : decode cX12_readsParent 84 = .ok (.aload_n 0, 1) := by decide +kernel
theorem dX12_readsParent_85 : decode cX12_readsParent 85 = .ok (.getfield 186, 3) := by decide +kernel
theorem dX12_readsParent_88 : decode cX12_readsParent 88 = .ok (.aload_n 0, 1) := by decide +kernel
theorem dX12_readsParent_89 : decode cX12_readsParent 89 = .ok (.getfield 275, 3) := by decide +kernel
theorem dX12_readsParent_92 : decode cX12_readsParent 92 = .ok (.iastore, 1) := by decide +kernel
theorem dX12_readsParent_93 : decode cX12_readsParent 93 = .ok (.aload_n 0, 1) := by decide +kernel
theorem dX12_readsParent_94 : decode cX12_readsParent 94 = .ok (.aload_n 0, 1) := by decide +kernel
theorem dX12_readsParent_95 : decode cX12_readsParent 95 = .ok (.getfield 186, 3) := by decide +kernel
theorem dX12_readsParent_98 : decode cX12_readsParent 98 = .ok (.iconst 1, 1) := by decide +kernel
theorem dX12_readsParent_99 : decode cX12_readsParent 99 = .ok (.iadd, 1) := by decide +kernel
theorem dX12_readsParent_100 : decode cX12_readsParent 100 = .ok (.putfield 186, 3) := by decide +kernel
theorem dX12_readsParent_103 : decode cX12_readsParent 103 = .ok (.iconst 1, 1) := by decide +kernel
theorem dX12_readsParent_104 : decode cX12_readsParent 104 = .ok (.ireturn, 1) := by decide +kernel
noncomputable def st_readsParent : Nat × List Int × gM → Option ((Nat × List Int × gM) ⊕ (Int × gM))
  | (0, [x1], M) => (Option.bind (F_readsNumber M) (fun p34 =>
      (if p34.1 = 0 then
        some (.inr (0, p34.2))
      else
        (Option.bind (F_isCommit p34.2 (p34.2 711 22)) (fun r47 =>
          (if r47 = 0 then
            (Option.bind (F_wrongAt p34.2 9 x1) (fun p57 =>
              some (.inr (p57.1, p57.2))))
          else
            (Option.bind (F_isTold p34.2 (p34.2 711 22)) (fun r66 =>
              (if r66 = 0 then
                (if 0 ≤ (p34.2 711 12) ∧ (p34.2 711 12) < 3 then
                  some (.inr (1, (gU (gU p34.2 721 (p34.2 711 12) (p34.2 711 22)) 711 12 (gw32 (((gU p34.2 721 (p34.2 711 12) (p34.2 711 22)) 711 12) + (1 : Int))))))
                else none)
              else
                (Option.bind (F_wrongAt p34.2 6 x1) (fun p76 =>
                  some (.inr (p76.1, p76.2)))))))))))))
  | _ => none
theorem sk_readsParent_33 (k : Nat × List Int × gM → Option (Int × gM)) (M : gM) (x1 : Int) : gWk k (st_readsParent (0, [x1], M)) = (Option.bind (F_readsNumber M) (fun p34 =>
    (if p34.1 = 0 then
      some (0, p34.2)
    else
      (Option.bind (F_isCommit p34.2 (p34.2 711 22)) (fun r47 =>
        (if r47 = 0 then
          (Option.bind (F_wrongAt p34.2 9 x1) (fun p57 =>
            some (p57.1, p57.2)))
        else
          (Option.bind (F_isTold p34.2 (p34.2 711 22)) (fun r66 =>
            (if r66 = 0 then
              (if 0 ≤ (p34.2 711 12) ∧ (p34.2 711 12) < 3 then
                some (1, (gU (gU p34.2 721 (p34.2 711 12) (p34.2 711 22)) 711 12 (gw32 (((gU p34.2 721 (p34.2 711 12) (p34.2 711 22)) 711 12) + (1 : Int)))))
              else none)
            else
              (Option.bind (F_wrongAt p34.2 6 x1) (fun p76 =>
                some (p76.1, p76.2)))))))))))) := by
  simp only [st_readsParent, gWk_ite, gWk_bind, gWk_inl, gWk_inr, gWk_none]
noncomputable def F_readsParent_33 (M : gM) (x1 : Int) : Option (Int × gM) := gWh (st_readsParent) (0, [x1], M)
theorem eq_readsParent_33 (M : gM) (x1 : Int) : F_readsParent_33 M x1 = (Option.bind (F_readsNumber M) (fun p34 =>
    (if p34.1 = 0 then
      some (0, p34.2)
    else
      (Option.bind (F_isCommit p34.2 (p34.2 711 22)) (fun r47 =>
        (if r47 = 0 then
          (Option.bind (F_wrongAt p34.2 9 x1) (fun p57 =>
            some (p57.1, p57.2)))
        else
          (Option.bind (F_isTold p34.2 (p34.2 711 22)) (fun r66 =>
            (if r66 = 0 then
              (if 0 ≤ (p34.2 711 12) ∧ (p34.2 711 12) < 3 then
                some (1, (gU (gU p34.2 721 (p34.2 711 12) (p34.2 711 22)) 711 12 (gw32 (((gU p34.2 721 (p34.2 711 12) (p34.2 711 22)) 711 12) + (1 : Int)))))
              else none)
            else
              (Option.bind (F_wrongAt p34.2 6 x1) (fun p76 =>
                some (p76.1, p76.2)))))))))))) := (gWh_eq _).trans (sk_readsParent_33 _ M x1)
noncomputable def F_readsParent (M : gM) : Option (Int × gM) := (Option.bind (F_here M) (fun r6 =>
    (Option.bind (F_isDigit r6) (fun r9 =>
      (if r9 = 0 then
        F_readsParent_33 M (M 711 19)
      else
        (if (M 711 12) = 3 then
          (Option.bind (F_wrongAt M 4 (M 711 19)) (fun p29 =>
            some (p29.1, p29.2)))
        else
          F_readsParent_33 M (M 711 19)))))))
theorem eq_readsParent (M : gM) : F_readsParent M = (Option.bind (F_here M) (fun r6 =>
    (Option.bind (F_isDigit r6) (fun r9 =>
      (if r9 = 0 then
        F_readsParent_33 M (M 711 19)
      else
        (if (M 711 12) = 3 then
          (Option.bind (F_wrongAt M 4 (M 711 19)) (fun p29 =>
            some (p29.1, p29.2)))
        else
          F_readsParent_33 M (M 711 19))))))) := rfl
theorem frp_readsParent : ∀ (s : Nat × List Int × gM) (b : Int × gM), gWh (st_readsParent) s = some b → (∀ (x1 : Int) (M : gM), s = (0, [x1], M) → gFr [721] [12, 19, 21, 22] M b.2) := by
  refine gWh_ind (fun k hk s b h => ?_)
  · rintro x1 M rfl
    rw [sk_readsParent_33] at h
    obtain ⟨p34, e34, h⟩ := gI_bd h
    rcases gI_or h with h | h
    · rw [← Option.some.inj h]
      exact (gFr_t (gFr_r [721] [12, 19, 21, 22] _) (fr_readsNumber (b := p34) e34) (by first | decide | simp) (by decide))
    · obtain ⟨r47, e47, h⟩ := gI_bd h
      rcases gI_or h with h | h
      · obtain ⟨p57, e57, h⟩ := gI_bd h
        rw [← Option.some.inj h]
        exact (gFr_t (gFr_t (gFr_r [721] [12, 19, 21, 22] _) (fr_readsNumber (b := p34) e34) (by first | decide | simp) (by decide)) (fr_wrongAt (b := p57) e57) (by first | decide | simp) (by decide))
      · obtain ⟨r66, e66, h⟩ := gI_bd h
        rcases gI_or h with h | h
        · obtain ⟨g2, h⟩ := gI_gd h
          rw [← Option.some.inj h]
          exact (gFr_f (gFr_a (gFr_t (gFr_r [721] [12, 19, 21, 22] _) (fr_readsNumber (b := p34) e34) (by first | decide | simp) (by decide)) (.head _) (by decide)) (.head _))
        · obtain ⟨p76, e76, h⟩ := gI_bd h
          rw [← Option.some.inj h]
          exact (gFr_t (gFr_t (gFr_r [721] [12, 19, 21, 22] _) (fr_readsNumber (b := p34) e34) (by first | decide | simp) (by decide)) (fr_wrongAt (b := p76) e76) (by first | decide | simp) (by decide))
theorem fr_readsParent_33 {M : gM} {x1 : Int} {b : Int × gM} (h : F_readsParent_33 M x1 = some b) : gFr [721] [12, 19, 21, 22] M b.2 :=
  (frp_readsParent _ _ h) _ _ rfl
theorem fr_readsParent {M : gM} {b : Int × gM} (h : F_readsParent M = some b) : gFr [721] [12, 19, 21, 22] M b.2 := by
  rw [eq_readsParent] at h
  obtain ⟨r6, e6, h⟩ := gI_bd h
  obtain ⟨r9, e9, h⟩ := gI_bd h
  rcases gI_or h with h | h
  · exact gFr_t (gFr_r [721] [12, 19, 21, 22] _) (fr_readsParent_33 h) (fun _ z => z) (fun _ z => z)
  · rcases gI_or h with h | h
    · obtain ⟨p29, e29, h⟩ := gI_bd h
      rw [← Option.some.inj h]
      exact (gFr_t (gFr_r [721] [12, 19, 21, 22] _) (fr_wrongAt (b := p29) e29) (by first | decide | simp) (by decide))
    · exact gFr_t (gFr_r [721] [12, 19, 21, 22] _) (fr_readsParent_33 h) (fun _ z => z) (fun _ z => z)
theorem bop_readsParent : ∀ (s : Nat × List Int × gM) (b : Int × gM), gWh (st_readsParent) s = some b → (∀ (x1 : Int) (M : gM), s = (0, [x1], M) → b.1 = 0 ∨ b.1 = 1) := by
  refine gWh_ind (fun k hk s b h => ?_)
  · rintro x1 M rfl
    rw [sk_readsParent_33] at h
    obtain ⟨p34, e34, h⟩ := gI_bd h
    rcases gI_or h with h | h
    · rw [← Option.some.inj h]
      exact (Or.inl rfl)
    · obtain ⟨r47, e47, h⟩ := gI_bd h
      rcases gI_or h with h | h
      · obtain ⟨p57, e57, h⟩ := gI_bd h
        rw [← Option.some.inj h]
        exact (bo_wrongAt (b := p57) e57)
      · obtain ⟨r66, e66, h⟩ := gI_bd h
        rcases gI_or h with h | h
        · obtain ⟨g2, h⟩ := gI_gd h
          rw [← Option.some.inj h]
          exact (Or.inr rfl)
        · obtain ⟨p76, e76, h⟩ := gI_bd h
          rw [← Option.some.inj h]
          exact (bo_wrongAt (b := p76) e76)
theorem bo_readsParent_33 {M : gM} {x1 : Int} {b : Int × gM} (h : F_readsParent_33 M x1 = some b) : b.1 = 0 ∨ b.1 = 1 :=
  (bop_readsParent _ _ h) _ _ rfl
theorem bo_readsParent {M : gM} {b : Int × gM} (h : F_readsParent M = some b) : b.1 = 0 ∨ b.1 = 1 := by
  rw [eq_readsParent] at h
  obtain ⟨r6, e6, h⟩ := gI_bd h
  obtain ⟨r9, e9, h⟩ := gI_bd h
  rcases gI_or h with h | h
  · exact bo_readsParent_33 h
  · rcases gI_or h with h | h
    · obtain ⟨p29, e29, h⟩ := gI_bd h
      rw [← Option.some.inj h]
      exact (bo_wrongAt (b := p29) e29)
    · exact bo_readsParent_33 h
theorem okp_readsParent {sh : gS} : ∀ (s : Nat × List Int × gM) (b : Int × gM), gWh (st_readsParent) s = some b → (∀ (x1 : Int) (M : gM), s = (0, [x1], M) → gOK sh M → gA (gr 3 63) yX12_readsParent cX12_readsParent 2 (some (.boolean)) (gPq sh (some (0, b.1)) b.2) (0, 0) 33 [(4, 711), (0, x1)] [] sh M) := by
  refine gWh_ind (fun k hk s b h => ?_)
  · rintro x1 M rfl hOK
    rw [sk_readsParent_33] at h
    refine g_aload_n (q0 := 34) (j := 0) rfl dX12_readsParent_33 rfl ?_
    obtain ⟨p34, e34, h⟩ := gI_bd h
    refine g_callVq1 (as := []) (rest := []) mt_X12_readsNumber mi_X12_readsNumber se_X12_readsNumber ml_X12_284 dX12_readsParent_34 (q0 := 37) rfl rfl (sh_711 hOK) rfl rfl (ok_readsNumber hOK e34) rfl ⟨by decide, by decide⟩ (Nat.le_of_ble_eq_true rfl) ⟨Nat.zero_le _, Nat.zero_le _⟩ ?_
    have hOK1 : gOK sh p34.2 := gOK_fr hOK (fr_readsNumber (b := p34) e34) (by first | decide | (intro a ha; simp only [List.mem_cons, List.not_mem_nil, or_false] at ha; omega)) (by decide)
    refine g_if_ne (q0 := 40) (tgt := 42) rfl dX12_readsParent_37 (by decide) (fun h37 => ?_) (fun h37 => ?_)
    · replace h := gI_neg h37 h
      refine g_aload_n (q0 := 43) (j := 0) rfl dX12_readsParent_42 rfl ?_
      refine g_aload_n (q0 := 44) (j := 0) rfl dX12_readsParent_43 rfl ?_
      refine g_getf (q0 := 47) (t := 0) (fi := 22) rfl rfl ff_X12_275 dX12_readsParent_44 rfl (sh_711 hOK1) ?_
      obtain ⟨r47, e47, h⟩ := gI_bd h
      refine g_callVq1 (as := [_]) (rest := []) mt_X12_isCommit mi_X12_isCommit se_X12_isCommit ml_X12_229 dX12_readsParent_47 (q0 := 50) rfl rfl (sh_711 hOK1) rfl rfl (ok_isCommit hOK1 e47) rfl ⟨by decide, by decide⟩ (Nat.le_of_ble_eq_true rfl) ⟨Nat.zero_le _, Nat.zero_le _⟩ ?_
      refine g_if_ne (q0 := 53) (tgt := 61) rfl dX12_readsParent_50 (by decide) (fun h50 => ?_) (fun h50 => ?_)
      · replace h := gI_neg h50 h
        refine g_aload_n (q0 := 62) (j := 0) rfl dX12_readsParent_61 rfl ?_
        refine g_aload_n (q0 := 63) (j := 0) rfl dX12_readsParent_62 rfl ?_
        refine g_getf (q0 := 66) (t := 0) (fi := 22) rfl rfl ff_X12_275 dX12_readsParent_63 rfl (sh_711 hOK1) ?_
        obtain ⟨r66, e66, h⟩ := gI_bd h
        refine g_callVq1 (as := [_]) (rest := []) mt_X12_isTold mi_X12_isTold se_X12_isTold ml_X12_288 dX12_readsParent_66 (q0 := 69) rfl rfl (sh_711 hOK1) rfl rfl (ok_isTold hOK1 e66) rfl ⟨by decide, by decide⟩ (Nat.le_of_ble_eq_true rfl) ⟨Nat.zero_le _, Nat.zero_le _⟩ ?_
        refine g_if_eq (q0 := 72) (tgt := 80) rfl dX12_readsParent_69 (by decide) (fun h69 => ?_) (fun h69 => ?_)
        · replace h := gI_pos h69 h
          refine g_aload_n (q0 := 81) (j := 0) rfl dX12_readsParent_80 rfl ?_
          refine g_getp (q0 := 84) (b := 721) rfl ff_X12_37 dX12_readsParent_81 rfl hOK1 (by decide) (sh_711 hOK1) rfl (by decide) ?_
          refine g_aload_n (q0 := 85) (j := 0) rfl dX12_readsParent_84 rfl ?_
          refine g_getf (q0 := 88) (t := 0) (fi := 12) rfl rfl ff_X12_186 dX12_readsParent_85 rfl (sh_711 hOK1) ?_
          refine g_aload_n (q0 := 89) (j := 0) rfl dX12_readsParent_88 rfl ?_
          refine g_getf (q0 := 92) (t := 0) (fi := 22) rfl rfl ff_X12_275 dX12_readsParent_89 rfl (sh_711 hOK1) ?_
          obtain ⟨g2, h⟩ := gI_gd h
          refine g_iast (q0 := 93) rfl dX12_readsParent_92 (sh_721 hOK1) g2.1 g2.2 ?_
          have hOK3 : gOK sh (gU p34.2 721 (p34.2 711 12) (p34.2 711 22)) := gOK_i hOK1 (sh_721 hOK1)
          refine g_aload_n (q0 := 94) (j := 0) rfl dX12_readsParent_93 rfl ?_
          refine g_aload_n (q0 := 95) (j := 0) rfl dX12_readsParent_94 rfl ?_
          refine g_getf (q0 := 98) (t := 0) (fi := 12) rfl rfl ff_X12_186 dX12_readsParent_95 rfl (sh_711 hOK3) ?_
          refine g_iconst (q0 := 99) rfl dX12_readsParent_98 (k := ?_)
          refine g_iaddw (q0 := 100) rfl dX12_readsParent_99 ?_
          refine g_put (q0 := 103) (t := 0) (fi := 12) rfl rfl ff_X12_186 dX12_readsParent_100 rfl (sh_711 hOK3) rfl (fun _ => ⟨rfl, rfl⟩) ?_
          have hOK4 : gOK sh (gU (gU p34.2 721 (p34.2 711 12) (p34.2 711 22)) 711 12 (gw32 (((gU p34.2 721 (p34.2 711 12) (p34.2 711 22)) 711 12) + (1 : Int)))) := gOK_o hOK3 (sh_711 hOK3) (f := 12) rfl rfl
          refine g_iconst (q0 := 104) rfl dX12_readsParent_103 (k := ?_)
          rw [← Option.some.inj h]
          refine g_zreturn dX12_readsParent_104 rfl (gnz (Or.inr rfl)) ⟨Nat.zero_le _, Nat.zero_le _⟩ ?_
          exact ⟨rfl, rfl, rfl⟩
        · replace h := gI_neg h69 h
          refine g_aload_n (q0 := 73) (j := 0) rfl dX12_readsParent_72 rfl ?_
          refine g_bipush (q0 := 75) rfl dX12_readsParent_73 (k := ?_)
          refine g_iload_n (q0 := 76) (j := 1) rfl dX12_readsParent_75 rfl ?_
          obtain ⟨p76, e76, h⟩ := gI_bd h
          refine g_callVq1 (as := [_, _]) (rest := []) mt_X12_wrongAt mi_X12_wrongAt se_X12_wrongAt ml_X12_269 dX12_readsParent_76 (q0 := 79) rfl rfl (sh_711 hOK1) rfl rfl (ok_wrongAt hOK1 e76) rfl ⟨by decide, by decide⟩ (Nat.le_of_ble_eq_true rfl) ⟨Nat.zero_le _, Nat.zero_le _⟩ ?_
          have hOK5 : gOK sh p76.2 := gOK_fr hOK1 (fr_wrongAt (b := p76) e76) (by first | decide | (intro a ha; simp only [List.mem_cons, List.not_mem_nil, or_false] at ha; omega)) (by decide)
          rw [← Option.some.inj h]
          refine g_zreturn dX12_readsParent_79 rfl (gnz (bo_wrongAt (b := p76) e76)) ⟨Nat.zero_le _, Nat.zero_le _⟩ ?_
          exact ⟨rfl, rfl, rfl⟩
      · replace h := gI_pos h50 h
        refine g_aload_n (q0 := 54) (j := 0) rfl dX12_readsParent_53 rfl ?_
        refine g_bipush (q0 := 56) rfl dX12_readsParent_54 (k := ?_)
        refine g_iload_n (q0 := 57) (j := 1) rfl dX12_readsParent_56 rfl ?_
        obtain ⟨p57, e57, h⟩ := gI_bd h
        refine g_callVq1 (as := [_, _]) (rest := []) mt_X12_wrongAt mi_X12_wrongAt se_X12_wrongAt ml_X12_269 dX12_readsParent_57 (q0 := 60) rfl rfl (sh_711 hOK1) rfl rfl (ok_wrongAt hOK1 e57) rfl ⟨by decide, by decide⟩ (Nat.le_of_ble_eq_true rfl) ⟨Nat.zero_le _, Nat.zero_le _⟩ ?_
        have hOK6 : gOK sh p57.2 := gOK_fr hOK1 (fr_wrongAt (b := p57) e57) (by first | decide | (intro a ha; simp only [List.mem_cons, List.not_mem_nil, or_false] at ha; omega)) (by decide)
        rw [← Option.some.inj h]
        refine g_zreturn dX12_readsParent_60 rfl (gnz (bo_wrongAt (b := p57) e57)) ⟨Nat.zero_le _, Nat.zero_le _⟩ ?_
        exact ⟨rfl, rfl, rfl⟩
    · replace h := gI_pos h37 h
      refine g_iconst (q0 := 41) rfl dX12_readsParent_40 (k := ?_)
      rw [← Option.some.inj h]
      refine g_zreturn dX12_readsParent_41 rfl (gnz (Or.inl rfl)) ⟨Nat.zero_le _, Nat.zero_le _⟩ ?_
      exact ⟨rfl, rfl, rfl⟩
theorem ok_readsParent_33 {sh : gS} {M : gM} {x1 : Int} {b : Int × gM} (hOK : gOK sh M) (h : F_readsParent_33 M x1 = some b) : gA (gr 3 63) yX12_readsParent cX12_readsParent 2 (some (.boolean)) (gPq sh (some (0, b.1)) b.2) (0, 0) 33 [(4, 711), (0, x1)] [] sh M :=
  (okp_readsParent _ _ h) _ _ rfl hOK
theorem ok_readsParent {sh : gS} {M : gM} {b : Int × gM} (hOK : gOK sh M) (h : F_readsParent M = some b) : gC (gr 3 63) yX12_readsParent cX12_readsParent 2 (some (.boolean)) [(4, 711)] sh M (gPq sh (some (0, b.1)) b.2) := by
  rw [eq_readsParent] at h
  refine gC_ofA (lv := [_, _]) (by decide +kernel) (Nat.le_of_ble_eq_true rfl) rfl (fun hMw hav => ?_)
  refine g_aload_n (q0 := 1) (j := 0) rfl dX12_readsParent_0 rfl ?_
  refine g_getf (q0 := 4) (t := 0) (fi := 19) rfl rfl ff_X12_256 dX12_readsParent_1 rfl (sh_711 hOK) ?_
  refine g_istore_n (q0 := 5) (j := 1) (lv2 := [_, _]) rfl dX12_readsParent_4 (by decide) rfl rfl ?_
  refine g_aload_n (q0 := 6) (j := 0) rfl dX12_readsParent_5 rfl ?_
  obtain ⟨r6, e6, h⟩ := gI_bd h
  refine g_callVq1 (as := []) (rest := []) mt_X12_here mi_X12_here se_X12_here ml_X12_265 dX12_readsParent_6 (q0 := 9) rfl rfl (sh_711 hOK) rfl rfl (ok_here hOK e6) rfl ⟨by decide, by decide⟩ (Nat.le_of_ble_eq_true rfl) ⟨Nat.zero_le _, Nat.zero_le _⟩ ?_
  obtain ⟨r9, e9, h⟩ := gI_bd h
  refine g_callSq1 (as := [_]) (rest := []) mt_X12_isDigit ms_X12_isDigit ml_X12_272 dX12_readsParent_9 (q0 := 12) rfl rfl (ok_isDigit hOK e9) rfl ⟨by decide, by decide⟩ (Nat.le_of_ble_eq_true rfl) ⟨Nat.zero_le _, Nat.zero_le _⟩ ?_
  refine g_if_eq (q0 := 15) (tgt := 33) rfl dX12_readsParent_12 (by decide) (fun h12 => ?_) (fun h12 => ?_)
  · replace h := gI_pos h12 h
    exact ok_readsParent_33 hOK h
  · replace h := gI_neg h12 h
    refine g_aload_n (q0 := 16) (j := 0) rfl dX12_readsParent_15 rfl ?_
    refine g_getf (q0 := 19) (t := 0) (fi := 12) rfl rfl ff_X12_186 dX12_readsParent_16 rfl (sh_711 hOK) ?_
    refine g_iconst (q0 := 20) rfl dX12_readsParent_19 (k := ?_)
    refine g_icmp_ne (q0 := 23) (tgt := 33) rfl dX12_readsParent_20 (by decide) (fun h20 => ?_) (fun h20 => ?_)
    · replace h := gI_neg h20 h
      exact ok_readsParent_33 hOK h
    · replace h := gI_pos h20 h
      refine g_aload_n (q0 := 24) (j := 0) rfl dX12_readsParent_23 rfl ?_
      refine g_iconst (q0 := 25) rfl dX12_readsParent_24 (k := ?_)
      refine g_aload_n (q0 := 26) (j := 0) rfl dX12_readsParent_25 rfl ?_
      refine g_getf (q0 := 29) (t := 0) (fi := 19) rfl rfl ff_X12_256 dX12_readsParent_26 rfl (sh_711 hOK) ?_
      obtain ⟨p29, e29, h⟩ := gI_bd h
      refine g_callVq1 (as := [_, _]) (rest := []) mt_X12_wrongAt mi_X12_wrongAt se_X12_wrongAt ml_X12_269 dX12_readsParent_29 (q0 := 32) rfl rfl (sh_711 hOK) rfl rfl (ok_wrongAt hOK e29) rfl ⟨by decide, by decide⟩ (Nat.le_of_ble_eq_true rfl) ⟨Nat.zero_le _, Nat.zero_le _⟩ ?_
      have hOK7 : gOK sh p29.2 := gOK_fr hOK (fr_wrongAt (b := p29) e29) (by first | decide | (intro a ha; simp only [List.mem_cons, List.not_mem_nil, or_false] at ha; omega)) (by decide)
      rw [← Option.some.inj h]
      refine g_zreturn dX12_readsParent_32 rfl (gnz (bo_wrongAt (b := p29) e29)) ⟨Nat.zero_le _, Nat.zero_le _⟩ ?_
      exact ⟨rfl, rfl, rfl⟩
-- ==== readsParents
theorem dX12_readsParents_0 : decode cX12_readsParents 0 = .ok (.aload_n 0, 1) := by decide +kernel
theorem dX12_readsParents_1 : decode cX12_readsParents 1 = .ok (.invokevirtual 265, 3) := by decide +kernel
theorem dX12_readsParents_4 : decode cX12_readsParents 4 = .ok (.bipush 58, 2) := by decide +kernel
theorem dX12_readsParents_6 : decode cX12_readsParents 6 = .ok (.if_icmp .ne 5, 3) := by decide +kernel
theorem dX12_readsParents_9 : decode cX12_readsParents 9 = .ok (.iconst 1, 1) := by decide +kernel
theorem dX12_readsParents_10 : decode cX12_readsParents 10 = .ok (.ireturn, 1) := by decide +kernel
theorem dX12_readsParents_11 : decode cX12_readsParents 11 = .ok (.aload_n 0, 1) := by decide +kernel
theorem dX12_readsParents_12 : decode cX12_readsParents 12 = .ok (.invokevirtual 291, 3) := by decide +kernel
theorem dX12_readsParents_15 : decode cX12_readsParents 15 = .ok (.ifCond .ne 5, 3) := by decide +kernel
theorem dX12_readsParents_18 : decode cX12_readsParents 18 = .ok (.iconst 0, 1) := by decide +kernel
theorem dX12_readsParents_19 : decode cX12_readsParents 19 = .ok (.ireturn, 1) := by decide +kernel
theorem dX12_readsParents_20 : decode cX12_readsParents 20 = .ok (.aload_n 0, 1) := by decide +kernel
theorem dX12_readsParents_21 : decode cX12_readsParents 21 = .ok (.invokevirtual 265, 3) := by decide +kernel
theorem dX12_readsParents_24 : decode cX12_readsParents 24 = .ok (.bipush 44, 2) := by decide +kernel
theorem dX12_readsParents_26 : decode cX12_readsParents 26 = .ok (.if_icmp .ne 22, 3) := by decide +kernel
theorem dX12_readsParents_29 : decode cX12_readsParents 29 = .ok (.aload_n 0, 1) := by decide +kernel
theorem dX12_readsParents_30 : decode cX12_readsParents 30 = .ok (.aload_n 0, 1) := by decide +kernel
theorem dX12_readsParents_31 : decode cX12_readsParents 31 = .ok (.getfield 256, 3) := by decide +kernel
theorem dX12_readsParents_34 : decode cX12_readsParents 34 = .ok (.iconst 1, 1) := by decide +kernel
theorem dX12_readsParents_35 : decode cX12_readsParents 35 = .ok (.iadd, 1) := by decide +kernel
theorem dX12_readsParents_36 : decode cX12_readsParents 36 = .ok (.putfield 256, 3) := by decide +kernel
theorem dX12_readsParents_39 : decode cX12_readsParents 39 = .ok (.aload_n 0, 1) := by decide +kernel
theorem dX12_readsParents_40 : decode cX12_readsParents 40 = .ok (.invokevirtual 291, 3) := by decide +kernel
theorem dX12_readsParents_43 : decode cX12_readsParents 43 = .ok (.ifCond .ne (-23), 3) := by decide +kernel
theorem dX12_readsParents_46 : decode cX12_readsParents 46 = .ok (.iconst 0, 1) := by decide +kernel
theorem dX12_readsParents_47 : decode cX12_readsParents 47 = .ok (.ireturn, 1) := by decide +kernel
theorem dX12_readsParents_48 : decode cX12_readsParents 48 = .ok (.iconst 1, 1) := by decide +kernel
theorem dX12_readsParents_49 : decode cX12_readsParents 49 = .ok (.ireturn, 1) := by decide +kernel
noncomputable def st_readsParents : Nat × List Int × gM → Option ((Nat × List Int × gM) ⊕ (Int × gM))
  | (0, [], M) => (Option.bind (F_here M) (fun r21 =>
      (if r21 = 44 then
        (Option.bind (F_readsParent (gU M 711 19 (gw32 ((M 711 19) + (1 : Int))))) (fun p40 =>
          (if p40.1 = 0 then
            some (.inr (0, p40.2))
          else
            some (.inl (0, [], p40.2)))))
      else
        some (.inr (1, M)))))
  | _ => none
theorem sk_readsParents_20 (k : Nat × List Int × gM → Option (Int × gM)) (M : gM) : gWk k (st_readsParents (0, [], M)) = (Option.bind (F_here M) (fun r21 =>
    (if r21 = 44 then
      (Option.bind (F_readsParent (gU M 711 19 (gw32 ((M 711 19) + (1 : Int))))) (fun p40 =>
        (if p40.1 = 0 then
          some (0, p40.2)
        else
          k (0, [], p40.2))))
    else
      some (1, M)))) := by
  simp only [st_readsParents, gWk_ite, gWk_bind, gWk_inl, gWk_inr, gWk_none]
noncomputable def F_readsParents_20 (M : gM) : Option (Int × gM) := gWh (st_readsParents) (0, [], M)
theorem eq_readsParents_20 (M : gM) : F_readsParents_20 M = (Option.bind (F_here M) (fun r21 =>
    (if r21 = 44 then
      (Option.bind (F_readsParent (gU M 711 19 (gw32 ((M 711 19) + (1 : Int))))) (fun p40 =>
        (if p40.1 = 0 then
          some (0, p40.2)
        else
          F_readsParents_20 p40.2)))
    else
      some (1, M)))) := (gWh_eq _).trans (sk_readsParents_20 _ M)
noncomputable def F_readsParents (M : gM) : Option (Int × gM) := (Option.bind (F_here M) (fun r1 =>
    (if r1 = 58 then
      some (1, M)
    else
      (Option.bind (F_readsParent M) (fun p12 =>
        (if p12.1 = 0 then
          some (0, p12.2)
        else
          F_readsParents_20 p12.2))))))
theorem eq_readsParents (M : gM) : F_readsParents M = (Option.bind (F_here M) (fun r1 =>
    (if r1 = 58 then
      some (1, M)
    else
      (Option.bind (F_readsParent M) (fun p12 =>
        (if p12.1 = 0 then
          some (0, p12.2)
        else
          F_readsParents_20 p12.2)))))) := rfl
theorem frp_readsParents : ∀ (s : Nat × List Int × gM) (b : Int × gM), gWh (st_readsParents) s = some b → (∀ (M : gM), s = (0, [], M) → gFr [721] [12, 19, 21, 22] M b.2) := by
  refine gWh_ind (fun k hk s b h => ?_)
  · rintro  M rfl
    rw [sk_readsParents_20] at h
    obtain ⟨r21, e21, h⟩ := gI_bd h
    rcases gI_or h with h | h
    · obtain ⟨p40, e40, h⟩ := gI_bd h
      rcases gI_or h with h | h
      · rw [← Option.some.inj h]
        exact (gFr_t (gFr_f (gFr_r [721] [12, 19, 21, 22] _) (.tail _ (.head _))) (fr_readsParent (b := p40) e40) (by first | decide | simp) (by decide))
      · exact gFr_t (gFr_t (gFr_f (gFr_r [721] [12, 19, 21, 22] _) (.tail _ (.head _))) (fr_readsParent (b := p40) e40) (by first | decide | simp) (by decide)) ((hk _ _ h) _ rfl) (fun _ z => z) (fun _ z => z)
    · rw [← Option.some.inj h]
      exact (gFr_r [721] [12, 19, 21, 22] _)
theorem fr_readsParents_20 {M : gM} {b : Int × gM} (h : F_readsParents_20 M = some b) : gFr [721] [12, 19, 21, 22] M b.2 :=
  (frp_readsParents _ _ h) _ rfl
theorem fr_readsParents {M : gM} {b : Int × gM} (h : F_readsParents M = some b) : gFr [721] [12, 19, 21, 22] M b.2 := by
  rw [eq_readsParents] at h
  obtain ⟨r1, e1, h⟩ := gI_bd h
  rcases gI_or h with h | h
  · rw [← Option.some.inj h]
    exact (gFr_r [721] [12, 19, 21, 22] _)
  · obtain ⟨p12, e12, h⟩ := gI_bd h
    rcases gI_or h with h | h
    · rw [← Option.some.inj h]
      exact (gFr_t (gFr_r [721] [12, 19, 21, 22] _) (fr_readsParent (b := p12) e12) (by first | decide | simp) (by decide))
    · exact gFr_t (gFr_t (gFr_r [721] [12, 19, 21, 22] _) (fr_readsParent (b := p12) e12) (by first | decide | simp) (by decide)) (fr_readsParents_20 h) (fun _ z => z) (fun _ z => z)
theorem bop_readsParents : ∀ (s : Nat × List Int × gM) (b : Int × gM), gWh (st_readsParents) s = some b → (∀ (M : gM), s = (0, [], M) → b.1 = 0 ∨ b.1 = 1) := by
  refine gWh_ind (fun k hk s b h => ?_)
  · rintro  M rfl
    rw [sk_readsParents_20] at h
    obtain ⟨r21, e21, h⟩ := gI_bd h
    rcases gI_or h with h | h
    · obtain ⟨p40, e40, h⟩ := gI_bd h
      rcases gI_or h with h | h
      · rw [← Option.some.inj h]
        exact (Or.inl rfl)
      · exact (hk _ _ h) _ rfl
    · rw [← Option.some.inj h]
      exact (Or.inr rfl)
theorem bo_readsParents_20 {M : gM} {b : Int × gM} (h : F_readsParents_20 M = some b) : b.1 = 0 ∨ b.1 = 1 :=
  (bop_readsParents _ _ h) _ rfl
theorem bo_readsParents {M : gM} {b : Int × gM} (h : F_readsParents M = some b) : b.1 = 0 ∨ b.1 = 1 := by
  rw [eq_readsParents] at h
  obtain ⟨r1, e1, h⟩ := gI_bd h
  rcases gI_or h with h | h
  · rw [← Option.some.inj h]
    exact (Or.inr rfl)
  · obtain ⟨p12, e12, h⟩ := gI_bd h
    rcases gI_or h with h | h
    · rw [← Option.some.inj h]
      exact (Or.inl rfl)
    · exact bo_readsParents_20 h
theorem okp_readsParents {sh : gS} : ∀ (s : Nat × List Int × gM) (b : Int × gM), gWh (st_readsParents) s = some b → (∀ (M : gM), s = (0, [], M) → gOK sh M → gA (gr 4 84) yX12_readsParents cX12_readsParents 1 (some (.boolean)) (gPq sh (some (0, b.1)) b.2) (0, 0) 20 [(4, 711)] [] sh M) := by
  refine gWh_ind (fun k hk s b h => ?_)
  · rintro  M rfl hOK
    rw [sk_readsParents_20] at h
    refine g_aload_n (q0 := 21) (j := 0) rfl dX12_readsParents_20 rfl ?_
    obtain ⟨r21, e21, h⟩ := gI_bd h
    refine g_callVq1 (as := []) (rest := []) mt_X12_here mi_X12_here se_X12_here ml_X12_265 dX12_readsParents_21 (q0 := 24) rfl rfl (sh_711 hOK) rfl rfl (ok_here hOK e21) rfl ⟨by decide, by decide⟩ (Nat.le_of_ble_eq_true rfl) ⟨Nat.zero_le _, Nat.zero_le _⟩ ?_
    refine g_bipush (q0 := 26) rfl dX12_readsParents_24 (k := ?_)
    refine g_icmp_ne (q0 := 29) (tgt := 48) rfl dX12_readsParents_26 (by decide) (fun h26 => ?_) (fun h26 => ?_)
    · replace h := gI_neg h26 h
      refine g_iconst (q0 := 49) rfl dX12_readsParents_48 (k := ?_)
      rw [← Option.some.inj h]
      refine g_zreturn dX12_readsParents_49 rfl (gnz (Or.inr rfl)) ⟨Nat.zero_le _, Nat.zero_le _⟩ ?_
      exact ⟨rfl, rfl, rfl⟩
    · replace h := gI_pos h26 h
      refine g_aload_n (q0 := 30) (j := 0) rfl dX12_readsParents_29 rfl ?_
      refine g_aload_n (q0 := 31) (j := 0) rfl dX12_readsParents_30 rfl ?_
      refine g_getf (q0 := 34) (t := 0) (fi := 19) rfl rfl ff_X12_256 dX12_readsParents_31 rfl (sh_711 hOK) ?_
      refine g_iconst (q0 := 35) rfl dX12_readsParents_34 (k := ?_)
      refine g_iaddw (q0 := 36) rfl dX12_readsParents_35 ?_
      refine g_put (q0 := 39) (t := 0) (fi := 19) rfl rfl ff_X12_256 dX12_readsParents_36 rfl (sh_711 hOK) rfl (fun _ => ⟨rfl, rfl⟩) ?_
      have hOK1 : gOK sh (gU M 711 19 (gw32 ((M 711 19) + (1 : Int)))) := gOK_o hOK (sh_711 hOK) (f := 19) rfl rfl
      refine g_aload_n (q0 := 40) (j := 0) rfl dX12_readsParents_39 rfl ?_
      obtain ⟨p40, e40, h⟩ := gI_bd h
      refine g_callVq1 (as := []) (rest := []) mt_X12_readsParent mi_X12_readsParent se_X12_readsParent ml_X12_291 dX12_readsParents_40 (q0 := 43) rfl rfl (sh_711 hOK1) rfl rfl (ok_readsParent hOK1 e40) rfl ⟨by decide, by decide⟩ (Nat.le_of_ble_eq_true rfl) ⟨Nat.zero_le _, Nat.zero_le _⟩ ?_
      have hOK2 : gOK sh p40.2 := gOK_fr hOK1 (fr_readsParent (b := p40) e40) (by first | decide | (intro a ha; simp only [List.mem_cons, List.not_mem_nil, or_false] at ha; omega)) (by decide)
      refine g_if_ne (q0 := 46) (tgt := 20) rfl dX12_readsParents_43 (by decide) (fun h43 => ?_) (fun h43 => ?_)
      · replace h := gI_neg h43 h
        exact (hk _ _ h) _ rfl hOK2
      · replace h := gI_pos h43 h
        refine g_iconst (q0 := 47) rfl dX12_readsParents_46 (k := ?_)
        rw [← Option.some.inj h]
        refine g_zreturn dX12_readsParents_47 rfl (gnz (Or.inl rfl)) ⟨Nat.zero_le _, Nat.zero_le _⟩ ?_
        exact ⟨rfl, rfl, rfl⟩
theorem ok_readsParents_20 {sh : gS} {M : gM} {b : Int × gM} (hOK : gOK sh M) (h : F_readsParents_20 M = some b) : gA (gr 4 84) yX12_readsParents cX12_readsParents 1 (some (.boolean)) (gPq sh (some (0, b.1)) b.2) (0, 0) 20 [(4, 711)] [] sh M :=
  (okp_readsParents _ _ h) _ rfl hOK
theorem ok_readsParents {sh : gS} {M : gM} {b : Int × gM} (hOK : gOK sh M) (h : F_readsParents M = some b) : gC (gr 4 84) yX12_readsParents cX12_readsParents 1 (some (.boolean)) [(4, 711)] sh M (gPq sh (some (0, b.1)) b.2) := by
  rw [eq_readsParents] at h
  refine gC_ofA (lv := [_]) (by decide +kernel) (Nat.le_of_ble_eq_true rfl) rfl (fun hMw hav => ?_)
  refine g_aload_n (q0 := 1) (j := 0) rfl dX12_readsParents_0 rfl ?_
  obtain ⟨r1, e1, h⟩ := gI_bd h
  refine g_callVq1 (as := []) (rest := []) mt_X12_here mi_X12_here se_X12_here ml_X12_265 dX12_readsParents_1 (q0 := 4) rfl rfl (sh_711 hOK) rfl rfl (ok_here hOK e1) rfl ⟨by decide, by decide⟩ (Nat.le_of_ble_eq_true rfl) ⟨Nat.zero_le _, Nat.zero_le _⟩ ?_
  refine g_bipush (q0 := 6) rfl dX12_readsParents_4 (k := ?_)
  refine g_icmp_ne (q0 := 9) (tgt := 11) rfl dX12_readsParents_6 (by decide) (fun h6 => ?_) (fun h6 => ?_)
  · replace h := gI_neg h6 h
    refine g_aload_n (q0 := 12) (j := 0) rfl dX12_readsParents_11 rfl ?_
    obtain ⟨p12, e12, h⟩ := gI_bd h
    refine g_callVq1 (as := []) (rest := []) mt_X12_readsParent mi_X12_readsParent se_X12_readsParent ml_X12_291 dX12_readsParents_12 (q0 := 15) rfl rfl (sh_711 hOK) rfl rfl (ok_readsParent hOK e12) rfl ⟨by decide, by decide⟩ (Nat.le_of_ble_eq_true rfl) ⟨Nat.zero_le _, Nat.zero_le _⟩ ?_
    have hOK3 : gOK sh p12.2 := gOK_fr hOK (fr_readsParent (b := p12) e12) (by first | decide | (intro a ha; simp only [List.mem_cons, List.not_mem_nil, or_false] at ha; omega)) (by decide)
    refine g_if_ne (q0 := 18) (tgt := 20) rfl dX12_readsParents_15 (by decide) (fun h15 => ?_) (fun h15 => ?_)
    · replace h := gI_neg h15 h
      exact ok_readsParents_20 hOK3 h
    · replace h := gI_pos h15 h
      refine g_iconst (q0 := 19) rfl dX12_readsParents_18 (k := ?_)
      rw [← Option.some.inj h]
      refine g_zreturn dX12_readsParents_19 rfl (gnz (Or.inl rfl)) ⟨Nat.zero_le _, Nat.zero_le _⟩ ?_
      exact ⟨rfl, rfl, rfl⟩
  · replace h := gI_pos h6 h
    refine g_iconst (q0 := 10) rfl dX12_readsParents_9 (k := ?_)
    rw [← Option.some.inj h]
    refine g_zreturn dX12_readsParents_10 rfl (gnz (Or.inr rfl)) ⟨Nat.zero_le _, Nat.zero_le _⟩ ?_
    exact ⟨rfl, rfl, rfl⟩
-- ==== setsFile
theorem dX12_setsFile_0 : decode cX12_setsFile 0 = .ok (.aload_n 0, 1) := by decide +kernel
theorem dX12_setsFile_1 : decode cX12_setsFile 1 = .ok (.iconst 4, 1) := by decide +kernel
theorem dX12_setsFile_2 : decode cX12_setsFile 2 = .ok (.invokevirtual 294, 3) := by decide +kernel
theorem dX12_setsFile_5 : decode cX12_setsFile 5 = .ok (.ifCond .ne 5, 3) := by decide +kernel
theorem dX12_setsFile_8 : decode cX12_setsFile 8 = .ok (.iconst 0, 1) := by decide +kernel
theorem dX12_setsFile_9 : decode cX12_setsFile 9 = .ok (.ireturn, 1) := by decide +kernel
theorem dX12_setsFile_10 : decode cX12_setsFile 10 = .ok (.aload_n 0, 1) := by decide +kernel
theorem dX12_setsFile_11 : decode cX12_setsFile 11 = .ok (.getfield 278, 3) := by decide +kernel
theorem dX12_setsFile_14 : decode cX12_setsFile 14 = .ok (.istore_n 2, 1) := by decide +kernel
theorem dX12_setsFile_15 : decode cX12_setsFile 15 = .ok (.aload_n 0, 1) := by decide +kernel
theorem dX12_setsFile_16 : decode cX12_setsFile 16 = .ok (.bipush 61, 2) := by decide +kernel
theorem dX12_setsFile_18 : decode cX12_setsFile 18 = .ok (.invokevirtual 297, 3) := by decide +kernel
theorem dX12_setsFile_21 : decode cX12_setsFile 21 = .ok (.ifCond .eq 10, 3) := by decide +kernel
theorem dX12_setsFile_24 : decode cX12_setsFile 24 = .ok (.aload_n 0, 1) := by decide +kernel
theorem dX12_setsFile_25 : decode cX12_setsFile 25 = .ok (.invokevirtual 300, 3) := by decide +kernel
theorem dX12_setsFile_28 : decode cX12_setsFile 28 = .ok (.ifCond .ne 5, 3) := by decide +kernel
theorem dX12_setsFile_31 : decode cX12_setsFile 31 = .ok (.iconst 0, 1) := by decide +kernel
theorem dX12_setsFile_32 : decode cX12_setsFile 32 = .ok (.ireturn, 1) := by decide +kernel
theorem dX12_setsFile_33 : decode cX12_setsFile 33 = .ok (.aload_n 0, 1) := by decide +kernel
theorem dX12_setsFile_34 : decode cX12_setsFile 34 = .ok (.bipush 120, 2) := by decide +kernel
theorem dX12_setsFile_36 : decode cX12_setsFile 36 = .ok (.iload_n 2, 1) := by decide +kernel
theorem dX12_setsFile_37 : decode cX12_setsFile 37 = .ok (.invokevirtual 303, 3) := by decide +kernel
theorem dX12_setsFile_40 : decode cX12_setsFile 40 = .ok (.istore_n 3, 1) := by decide +kernel
theorem dX12_setsFile_41 : decode cX12_setsFile 41 = .ok (.iload_n 3, 1) := by decide +kernel
theorem dX12_setsFile_42 : decode cX12_setsFile 42 = .ok (.iconst 2, 1) := by decide +kernel
theorem dX12_setsFile_43 : decode cX12_setsFile 43 = .ok (.if_icmp .eq 13, 3) := by decide +kernel
theorem dX12_setsFile_46 : decode cX12_setsFile 46 = .ok (.aload_n 0, 1) := by decide +kernel
theorem dX12_setsFile_47 : decode cX12_setsFile 47 = .ok (.bipush 120, 2) := by decide +kernel
theorem dX12_setsFile_49 : decode cX12_setsFile 49 = .ok (.iload_n 2, 1) := by decide +kernel
theorem dX12_setsFile_50 : decode cX12_setsFile 50 = .ok (.invokevirtual 306, 3) := by decide +kernel
theorem dX12_setsFile_53 : decode cX12_setsFile 53 = .ok (.ifCond .eq 11, 3) := by decide +kernel
theorem dX12_setsFile_56 : decode cX12_setsFile 56 = .ok (.aload_n 0, 1) := by decide +kernel
theorem dX12_setsFile_57 : decode cX12_setsFile 57 = .ok (.bipush 7, 2) := by decide +kernel
theorem dX12_setsFile_59 : decode cX12_setsFile 59 = .ok (.iload_n 1, 1) := by decide +kernel
theorem dX12_setsFile_60 : decode cX12_setsFile 60 = .ok (.invokevirtual 269, 3) := by decide +kernel
theorem dX12_setsFile_63 : decode cX12_setsFile 63 = .ok (.ireturn, 1) := by decide +kernel
theorem dX12_setsFile_64 : decode cX12_setsFile 64 = .ok (.iload_n 3, 1) := by decide +kernel
theorem dX12_setsFile_65 : decode cX12_setsFile 65 = .ok (.ifCond .ne 22, 3) := by decide +kernel
theorem dX12_setsFile_68 : decode cX12_setsFile 68 = .ok (.aload_n 0, 1) := by decide +kernel
theorem dX12_setsFile_69 : decode cX12_setsFile 69 = .ok (.getfield 28, 3) := by decide +kernel
theorem dX12_setsFile_72 : decode cX12_setsFile 72 = .ok (.bipush 120, 2) := by decide +kernel
theorem dX12_setsFile_74 : decode cX12_setsFile 74 = .ok (.iaload, 1) := by decide +kernel
theorem dX12_setsFile_75 : decode cX12_setsFile 75 = .ok (.bipush 16, 2) := by decide +kernel
theorem dX12_setsFile_77 : decode cX12_setsFile 77 = .ok (.if_icmp .ne 10, 3) := by decide +kernel
theorem dX12_setsFile_80 : decode cX12_setsFile 80 = .ok (.aload_n 0, 1) := by decide +kernel
theorem dX12_setsFile_81 : decode cX12_setsFile 81 = .ok (.iconst 4, 1) := by decide +kernel
theorem dX12_setsFile_82 : decode cX12_setsFile 82 = .ok (.iload_n 1, 1) := by decide +kernel
theorem dX12_setsFile_83 : decode cX12_setsFile 83 = .ok (.invokevirtual 269, 3) := by decide +kernel
theorem dX12_setsFile_86 : decode cX12_setsFile 86 = .ok (.ireturn, 1) := by decide +kernel
theorem dX12_setsFile_87 : decode cX12_setsFile 87 = .ok (.aload_n 0, 1) := by decide +kernel
theorem dX12_setsFile_88 : decode cX12_setsFile 88 = .ok (.bipush 120, 2) := by decide +kernel
theorem dX12_setsFile_90 : decode cX12_setsFile 90 = .ok (.iload_n 2, 1) := by decide +kernel
theorem dX12_setsFile_91 : decode cX12_setsFile 91 = .ok (.aload_n 0, 1) := by decide +kernel
theorem dX12_setsFile_92 : decode cX12_setsFile 92 = .ok (.getfield 275, 3) := by decide +kernel
theorem dX12_setsFile_95 : decode cX12_setsFile 95 = .ok (.invokevirtual 309, 3) := by decide +kernel
theorem dX12_setsFile_98 : decode cX12_setsFile 98 = .ok (.iconst 1, 1) := by decide +kernel
theorem dX12_setsFile_99 : decode cX12_setsFile 99 = .ok (.ireturn, 1) := by decide +kernel
noncomputable def F_setsFile (M : gM) (a1 : Int) : Option (Int × gM) := (Option.bind (F_readsPath M 4) (fun p2 =>
    (if p2.1 = 0 then
      some (0, p2.2)
    else
      (Option.bind (F_takesSign p2.2 61) (fun p18 =>
        (if p18.1 = 0 then
          some (0, p18.2)
        else
          (Option.bind (F_readsContent p18.2) (fun p25 =>
            (if p25.1 = 0 then
              some (0, p25.2)
            else
              (Option.bind (F_kindAt p25.2 120 (p2.2 711 23)) (fun r37 =>
                (if r37 = 2 then
                  (Option.bind (F_wrongAt p25.2 7 a1) (fun p60 =>
                    some (p60.1, p60.2)))
                else
                  (Option.bind (F_isBarred p25.2 120 (p2.2 711 23)) (fun r50 =>
                    (if r50 = 0 then
                      (if r37 = 0 then
                        (if (p25.2 718 120) = 16 then
                          (Option.bind (F_wrongAt p25.2 4 a1) (fun p83 =>
                            some (p83.1, p83.2)))
                        else
                          (Option.bind (F_puts p25.2 120 (p2.2 711 23) (p25.2 711 22)) (fun m95 =>
                            some (1, m95))))
                      else
                        (Option.bind (F_puts p25.2 120 (p2.2 711 23) (p25.2 711 22)) (fun m95 =>
                          some (1, m95))))
                    else
                      (Option.bind (F_wrongAt p25.2 7 a1) (fun p60 =>
                        some (p60.1, p60.2))))))))))))))))))
theorem eq_setsFile (M : gM) (a1 : Int) : F_setsFile M a1 = (Option.bind (F_readsPath M 4) (fun p2 =>
    (if p2.1 = 0 then
      some (0, p2.2)
    else
      (Option.bind (F_takesSign p2.2 61) (fun p18 =>
        (if p18.1 = 0 then
          some (0, p18.2)
        else
          (Option.bind (F_readsContent p18.2) (fun p25 =>
            (if p25.1 = 0 then
              some (0, p25.2)
            else
              (Option.bind (F_kindAt p25.2 120 (p2.2 711 23)) (fun r37 =>
                (if r37 = 2 then
                  (Option.bind (F_wrongAt p25.2 7 a1) (fun p60 =>
                    some (p60.1, p60.2)))
                else
                  (Option.bind (F_isBarred p25.2 120 (p2.2 711 23)) (fun r50 =>
                    (if r50 = 0 then
                      (if r37 = 0 then
                        (if (p25.2 718 120) = 16 then
                          (Option.bind (F_wrongAt p25.2 4 a1) (fun p83 =>
                            some (p83.1, p83.2)))
                        else
                          (Option.bind (F_puts p25.2 120 (p2.2 711 23) (p25.2 711 22)) (fun m95 =>
                            some (1, m95))))
                      else
                        (Option.bind (F_puts p25.2 120 (p2.2 711 23) (p25.2 711 22)) (fun m95 =>
                          some (1, m95))))
                    else
                      (Option.bind (F_wrongAt p25.2 7 a1) (fun p60 =>
                        some (p60.1, p60.2)))))))))))))))))) := rfl
theorem fr_setsFile {M : gM} {a1 : Int} {b : Int × gM} (h : F_setsFile M a1 = some b) : gFr [718, 719, 720] [19, 21, 22, 23] M b.2 := by
  rw [eq_setsFile] at h
  obtain ⟨p2, e2, h⟩ := gI_bd h
  rcases gI_or h with h | h
  · rw [← Option.some.inj h]
    exact (gFr_t (gFr_r [718, 719, 720] [19, 21, 22, 23] _) (fr_readsPath (b := p2) e2) (by first | decide | simp) (by decide))
  · obtain ⟨p18, e18, h⟩ := gI_bd h
    rcases gI_or h with h | h
    · rw [← Option.some.inj h]
      exact (gFr_t (gFr_t (gFr_r [718, 719, 720] [19, 21, 22, 23] _) (fr_readsPath (b := p2) e2) (by first | decide | simp) (by decide)) (fr_takesSign (b := p18) e18) (by first | decide | simp) (by decide))
    · obtain ⟨p25, e25, h⟩ := gI_bd h
      rcases gI_or h with h | h
      · rw [← Option.some.inj h]
        exact (gFr_t (gFr_t (gFr_t (gFr_r [718, 719, 720] [19, 21, 22, 23] _) (fr_readsPath (b := p2) e2) (by first | decide | simp) (by decide)) (fr_takesSign (b := p18) e18) (by first | decide | simp) (by decide)) (fr_readsContent (b := p25) e25) (by first | decide | simp) (by decide))
      · obtain ⟨r37, e37, h⟩ := gI_bd h
        rcases gI_or h with h | h
        · obtain ⟨p60, e60, h⟩ := gI_bd h
          rw [← Option.some.inj h]
          exact (gFr_t (gFr_t (gFr_t (gFr_t (gFr_r [718, 719, 720] [19, 21, 22, 23] _) (fr_readsPath (b := p2) e2) (by first | decide | simp) (by decide)) (fr_takesSign (b := p18) e18) (by first | decide | simp) (by decide)) (fr_readsContent (b := p25) e25) (by first | decide | simp) (by decide)) (fr_wrongAt (b := p60) e60) (by first | decide | simp) (by decide))
        · obtain ⟨r50, e50, h⟩ := gI_bd h
          rcases gI_or h with h | h
          · rcases gI_or h with h | h
            · rcases gI_or h with h | h
              · obtain ⟨p83, e83, h⟩ := gI_bd h
                rw [← Option.some.inj h]
                exact (gFr_t (gFr_t (gFr_t (gFr_t (gFr_r [718, 719, 720] [19, 21, 22, 23] _) (fr_readsPath (b := p2) e2) (by first | decide | simp) (by decide)) (fr_takesSign (b := p18) e18) (by first | decide | simp) (by decide)) (fr_readsContent (b := p25) e25) (by first | decide | simp) (by decide)) (fr_wrongAt (b := p83) e83) (by first | decide | simp) (by decide))
              · obtain ⟨m95, e95, h⟩ := gI_bd h
                rw [← Option.some.inj h]
                exact (gFr_t (gFr_t (gFr_t (gFr_t (gFr_r [718, 719, 720] [19, 21, 22, 23] _) (fr_readsPath (b := p2) e2) (by first | decide | simp) (by decide)) (fr_takesSign (b := p18) e18) (by first | decide | simp) (by decide)) (fr_readsContent (b := p25) e25) (by first | decide | simp) (by decide)) (fr_puts (b := m95) e95) (by first | decide | simp) (by decide))
            · obtain ⟨m95, e95, h⟩ := gI_bd h
              rw [← Option.some.inj h]
              exact (gFr_t (gFr_t (gFr_t (gFr_t (gFr_r [718, 719, 720] [19, 21, 22, 23] _) (fr_readsPath (b := p2) e2) (by first | decide | simp) (by decide)) (fr_takesSign (b := p18) e18) (by first | decide | simp) (by decide)) (fr_readsContent (b := p25) e25) (by first | decide | simp) (by decide)) (fr_puts (b := m95) e95) (by first | decide | simp) (by decide))
          · obtain ⟨p60, e60, h⟩ := gI_bd h
            rw [← Option.some.inj h]
            exact (gFr_t (gFr_t (gFr_t (gFr_t (gFr_r [718, 719, 720] [19, 21, 22, 23] _) (fr_readsPath (b := p2) e2) (by first | decide | simp) (by decide)) (fr_takesSign (b := p18) e18) (by first | decide | simp) (by decide)) (fr_readsContent (b := p25) e25) (by first | decide | simp) (by decide)) (fr_wrongAt (b := p60) e60) (by first | decide | simp) (by decide))
theorem bo_setsFile {M : gM} {a1 : Int} {b : Int × gM} (h : F_setsFile M a1 = some b) : b.1 = 0 ∨ b.1 = 1 := by
  rw [eq_setsFile] at h
  obtain ⟨p2, e2, h⟩ := gI_bd h
  rcases gI_or h with h | h
  · rw [← Option.some.inj h]
    exact (Or.inl rfl)
  · obtain ⟨p18, e18, h⟩ := gI_bd h
    rcases gI_or h with h | h
    · rw [← Option.some.inj h]
      exact (Or.inl rfl)
    · obtain ⟨p25, e25, h⟩ := gI_bd h
      rcases gI_or h with h | h
      · rw [← Option.some.inj h]
        exact (Or.inl rfl)
      · obtain ⟨r37, e37, h⟩ := gI_bd h
        rcases gI_or h with h | h
        · obtain ⟨p60, e60, h⟩ := gI_bd h
          rw [← Option.some.inj h]
          exact (bo_wrongAt (b := p60) e60)
        · obtain ⟨r50, e50, h⟩ := gI_bd h
          rcases gI_or h with h | h
          · rcases gI_or h with h | h
            · rcases gI_or h with h | h
              · obtain ⟨p83, e83, h⟩ := gI_bd h
                rw [← Option.some.inj h]
                exact (bo_wrongAt (b := p83) e83)
              · obtain ⟨m95, e95, h⟩ := gI_bd h
                rw [← Option.some.inj h]
                exact (Or.inr rfl)
            · obtain ⟨m95, e95, h⟩ := gI_bd h
              rw [← Option.some.inj h]
              exact (Or.inr rfl)
          · obtain ⟨p60, e60, h⟩ := gI_bd h
            rw [← Option.some.inj h]
            exact (bo_wrongAt (b := p60) e60)
theorem ok_setsFile {sh : gS} {M : gM} {a1 : Int} {b : Int × gM} (hOK : gOK sh M) (h : F_setsFile M a1 = some b) : gC (gr 5 110) yX12_setsFile cX12_setsFile 4 (some (.boolean)) [(4, 711), (0, a1)] sh M (gPq sh (some (0, b.1)) b.2) := by
  rw [eq_setsFile] at h
  refine gC_ofA (lv := [_, _, _, _]) (by decide +kernel) (Nat.le_of_ble_eq_true rfl) rfl (fun hMw hav => ?_)
  refine g_aload_n (q0 := 1) (j := 0) rfl dX12_setsFile_0 rfl ?_
  refine g_iconst (q0 := 2) rfl dX12_setsFile_1 (k := ?_)
  obtain ⟨p2, e2, h⟩ := gI_bd h
  refine g_callVq1 (as := [_]) (rest := []) mt_X12_readsPath mi_X12_readsPath se_X12_readsPath ml_X12_294 dX12_setsFile_2 (q0 := 5) rfl rfl (sh_711 hOK) rfl rfl (ok_readsPath hOK e2) rfl ⟨by decide, by decide⟩ (Nat.le_of_ble_eq_true rfl) ⟨Nat.zero_le _, Nat.zero_le _⟩ ?_
  have hOK1 : gOK sh p2.2 := gOK_fr hOK (fr_readsPath (b := p2) e2) (by first | decide | (intro a ha; simp only [List.mem_cons, List.not_mem_nil, or_false] at ha; omega)) (by decide)
  refine g_if_ne (q0 := 8) (tgt := 10) rfl dX12_setsFile_5 (by decide) (fun h5 => ?_) (fun h5 => ?_)
  · replace h := gI_neg h5 h
    refine g_aload_n (q0 := 11) (j := 0) rfl dX12_setsFile_10 rfl ?_
    refine g_getf (q0 := 14) (t := 0) (fi := 23) rfl rfl ff_X12_278 dX12_setsFile_11 rfl (sh_711 hOK1) ?_
    refine g_istore_n (q0 := 15) (j := 2) (lv2 := [_, _, _, _]) rfl dX12_setsFile_14 (by decide) rfl rfl ?_
    refine g_aload_n (q0 := 16) (j := 0) rfl dX12_setsFile_15 rfl ?_
    refine g_bipush (q0 := 18) rfl dX12_setsFile_16 (k := ?_)
    obtain ⟨p18, e18, h⟩ := gI_bd h
    refine g_callVq1 (as := [_]) (rest := []) mt_X12_takesSign mi_X12_takesSign se_X12_takesSign ml_X12_297 dX12_setsFile_18 (q0 := 21) rfl rfl (sh_711 hOK1) rfl rfl (ok_takesSign hOK1 e18) rfl ⟨by decide, by decide⟩ (Nat.le_of_ble_eq_true rfl) ⟨Nat.zero_le _, Nat.zero_le _⟩ ?_
    have hOK2 : gOK sh p18.2 := gOK_fr hOK1 (fr_takesSign (b := p18) e18) (by first | decide | (intro a ha; simp only [List.mem_cons, List.not_mem_nil, or_false] at ha; omega)) (by decide)
    refine g_if_eq (q0 := 24) (tgt := 31) rfl dX12_setsFile_21 (by decide) (fun h21 => ?_) (fun h21 => ?_)
    · replace h := gI_pos h21 h
      refine g_iconst (q0 := 32) rfl dX12_setsFile_31 (k := ?_)
      rw [← Option.some.inj h]
      refine g_zreturn dX12_setsFile_32 rfl (gnz (Or.inl rfl)) ⟨Nat.zero_le _, Nat.zero_le _⟩ ?_
      exact ⟨rfl, rfl, rfl⟩
    · replace h := gI_neg h21 h
      refine g_aload_n (q0 := 25) (j := 0) rfl dX12_setsFile_24 rfl ?_
      obtain ⟨p25, e25, h⟩ := gI_bd h
      refine g_callVq1 (as := []) (rest := []) mt_X12_readsContent mi_X12_readsContent se_X12_readsContent ml_X12_300 dX12_setsFile_25 (q0 := 28) rfl rfl (sh_711 hOK2) rfl rfl (ok_readsContent hOK2 e25) rfl ⟨by decide, by decide⟩ (Nat.le_of_ble_eq_true rfl) ⟨Nat.zero_le _, Nat.zero_le _⟩ ?_
      have hOK3 : gOK sh p25.2 := gOK_fr hOK2 (fr_readsContent (b := p25) e25) (by first | decide | (intro a ha; simp only [List.mem_cons, List.not_mem_nil, or_false] at ha; omega)) (by decide)
      refine g_if_ne (q0 := 31) (tgt := 33) rfl dX12_setsFile_28 (by decide) (fun h28 => ?_) (fun h28 => ?_)
      · replace h := gI_neg h28 h
        refine g_aload_n (q0 := 34) (j := 0) rfl dX12_setsFile_33 rfl ?_
        refine g_bipush (q0 := 36) rfl dX12_setsFile_34 (k := ?_)
        refine g_iload_n (q0 := 37) (j := 2) rfl dX12_setsFile_36 rfl ?_
        obtain ⟨r37, e37, h⟩ := gI_bd h
        refine g_callVq1 (as := [_, _]) (rest := []) mt_X12_kindAt mi_X12_kindAt se_X12_kindAt ml_X12_303 dX12_setsFile_37 (q0 := 40) rfl rfl (sh_711 hOK3) rfl rfl (ok_kindAt hOK3 e37) rfl ⟨by decide, by decide⟩ (Nat.le_of_ble_eq_true rfl) ⟨Nat.zero_le _, Nat.zero_le _⟩ ?_
        refine g_istore_n (q0 := 41) (j := 3) (lv2 := [_, _, _, _]) rfl dX12_setsFile_40 (by decide) rfl rfl ?_
        refine g_iload_n (q0 := 42) (j := 3) rfl dX12_setsFile_41 rfl ?_
        refine g_iconst (q0 := 43) rfl dX12_setsFile_42 (k := ?_)
        refine g_icmp_eq (q0 := 46) (tgt := 56) rfl dX12_setsFile_43 (by decide) (fun h43 => ?_) (fun h43 => ?_)
        · replace h := gI_pos h43 h
          refine g_aload_n (q0 := 57) (j := 0) rfl dX12_setsFile_56 rfl ?_
          refine g_bipush (q0 := 59) rfl dX12_setsFile_57 (k := ?_)
          refine g_iload_n (q0 := 60) (j := 1) rfl dX12_setsFile_59 rfl ?_
          obtain ⟨p60, e60, h⟩ := gI_bd h
          refine g_callVq1 (as := [_, _]) (rest := []) mt_X12_wrongAt mi_X12_wrongAt se_X12_wrongAt ml_X12_269 dX12_setsFile_60 (q0 := 63) rfl rfl (sh_711 hOK3) rfl rfl (ok_wrongAt hOK3 e60) rfl ⟨by decide, by decide⟩ (Nat.le_of_ble_eq_true rfl) ⟨Nat.zero_le _, Nat.zero_le _⟩ ?_
          have hOK4 : gOK sh p60.2 := gOK_fr hOK3 (fr_wrongAt (b := p60) e60) (by first | decide | (intro a ha; simp only [List.mem_cons, List.not_mem_nil, or_false] at ha; omega)) (by decide)
          rw [← Option.some.inj h]
          refine g_zreturn dX12_setsFile_63 rfl (gnz (bo_wrongAt (b := p60) e60)) ⟨Nat.zero_le _, Nat.zero_le _⟩ ?_
          exact ⟨rfl, rfl, rfl⟩
        · replace h := gI_neg h43 h
          refine g_aload_n (q0 := 47) (j := 0) rfl dX12_setsFile_46 rfl ?_
          refine g_bipush (q0 := 49) rfl dX12_setsFile_47 (k := ?_)
          refine g_iload_n (q0 := 50) (j := 2) rfl dX12_setsFile_49 rfl ?_
          obtain ⟨r50, e50, h⟩ := gI_bd h
          refine g_callVq1 (as := [_, _]) (rest := []) mt_X12_isBarred mi_X12_isBarred se_X12_isBarred ml_X12_306 dX12_setsFile_50 (q0 := 53) rfl rfl (sh_711 hOK3) rfl rfl (ok_isBarred hOK3 e50) rfl ⟨by decide, by decide⟩ (Nat.le_of_ble_eq_true rfl) ⟨Nat.zero_le _, Nat.zero_le _⟩ ?_
          refine g_if_eq (q0 := 56) (tgt := 64) rfl dX12_setsFile_53 (by decide) (fun h53 => ?_) (fun h53 => ?_)
          · replace h := gI_pos h53 h
            refine g_iload_n (q0 := 65) (j := 3) rfl dX12_setsFile_64 rfl ?_
            refine g_if_ne (q0 := 68) (tgt := 87) rfl dX12_setsFile_65 (by decide) (fun h65 => ?_) (fun h65 => ?_)
            · replace h := gI_neg h65 h
              refine g_aload_n (q0 := 88) (j := 0) rfl dX12_setsFile_87 rfl ?_
              refine g_bipush (q0 := 90) rfl dX12_setsFile_88 (k := ?_)
              refine g_iload_n (q0 := 91) (j := 2) rfl dX12_setsFile_90 rfl ?_
              refine g_aload_n (q0 := 92) (j := 0) rfl dX12_setsFile_91 rfl ?_
              refine g_getf (q0 := 95) (t := 0) (fi := 22) rfl rfl ff_X12_275 dX12_setsFile_92 rfl (sh_711 hOK3) ?_
              obtain ⟨m95, e95, h⟩ := gI_bd h
              refine g_callVq0 (as := [_, _, _]) (rest := []) mt_X12_puts mi_X12_puts se_X12_puts ml_X12_309 dX12_setsFile_95 (q0 := 98) rfl rfl (sh_711 hOK3) rfl rfl (ok_puts hOK3 e95) rfl ⟨by decide, by decide⟩ (Nat.le_of_ble_eq_true rfl) ⟨Nat.zero_le _, Nat.zero_le _⟩ ?_
              have hOK5 : gOK sh m95 := gOK_fr hOK3 (fr_puts (b := m95) e95) (by first | decide | (intro a ha; simp only [List.mem_cons, List.not_mem_nil, or_false] at ha; omega)) (by decide)
              refine g_iconst (q0 := 99) rfl dX12_setsFile_98 (k := ?_)
              rw [← Option.some.inj h]
              refine g_zreturn dX12_setsFile_99 rfl (gnz (Or.inr rfl)) ⟨Nat.zero_le _, Nat.zero_le _⟩ ?_
              exact ⟨rfl, rfl, rfl⟩
            · replace h := gI_pos h65 h
              refine g_aload_n (q0 := 69) (j := 0) rfl dX12_setsFile_68 rfl ?_
              refine g_getp (q0 := 72) (b := 718) rfl ff_X12_28 dX12_setsFile_69 rfl hOK3 (by decide) (sh_711 hOK3) rfl (by decide) ?_
              refine g_bipush (q0 := 74) rfl dX12_setsFile_72 (k := ?_)
              refine g_iald (q0 := 75) rfl dX12_setsFile_74 (sh_718 hOK3) (by decide) (by decide) ?_
              refine g_bipush (q0 := 77) rfl dX12_setsFile_75 (k := ?_)
              refine g_icmp_ne (q0 := 80) (tgt := 87) rfl dX12_setsFile_77 (by decide) (fun h77 => ?_) (fun h77 => ?_)
              · replace h := gI_neg h77 h
                refine g_aload_n (q0 := 88) (j := 0) rfl dX12_setsFile_87 rfl ?_
                refine g_bipush (q0 := 90) rfl dX12_setsFile_88 (k := ?_)
                refine g_iload_n (q0 := 91) (j := 2) rfl dX12_setsFile_90 rfl ?_
                refine g_aload_n (q0 := 92) (j := 0) rfl dX12_setsFile_91 rfl ?_
                refine g_getf (q0 := 95) (t := 0) (fi := 22) rfl rfl ff_X12_275 dX12_setsFile_92 rfl (sh_711 hOK3) ?_
                obtain ⟨m95, e95, h⟩ := gI_bd h
                refine g_callVq0 (as := [_, _, _]) (rest := []) mt_X12_puts mi_X12_puts se_X12_puts ml_X12_309 dX12_setsFile_95 (q0 := 98) rfl rfl (sh_711 hOK3) rfl rfl (ok_puts hOK3 e95) rfl ⟨by decide, by decide⟩ (Nat.le_of_ble_eq_true rfl) ⟨Nat.zero_le _, Nat.zero_le _⟩ ?_
                have hOK6 : gOK sh m95 := gOK_fr hOK3 (fr_puts (b := m95) e95) (by first | decide | (intro a ha; simp only [List.mem_cons, List.not_mem_nil, or_false] at ha; omega)) (by decide)
                refine g_iconst (q0 := 99) rfl dX12_setsFile_98 (k := ?_)
                rw [← Option.some.inj h]
                refine g_zreturn dX12_setsFile_99 rfl (gnz (Or.inr rfl)) ⟨Nat.zero_le _, Nat.zero_le _⟩ ?_
                exact ⟨rfl, rfl, rfl⟩
              · replace h := gI_pos h77 h
                refine g_aload_n (q0 := 81) (j := 0) rfl dX12_setsFile_80 rfl ?_
                refine g_iconst (q0 := 82) rfl dX12_setsFile_81 (k := ?_)
                refine g_iload_n (q0 := 83) (j := 1) rfl dX12_setsFile_82 rfl ?_
                obtain ⟨p83, e83, h⟩ := gI_bd h
                refine g_callVq1 (as := [_, _]) (rest := []) mt_X12_wrongAt mi_X12_wrongAt se_X12_wrongAt ml_X12_269 dX12_setsFile_83 (q0 := 86) rfl rfl (sh_711 hOK3) rfl rfl (ok_wrongAt hOK3 e83) rfl ⟨by decide, by decide⟩ (Nat.le_of_ble_eq_true rfl) ⟨Nat.zero_le _, Nat.zero_le _⟩ ?_
                have hOK7 : gOK sh p83.2 := gOK_fr hOK3 (fr_wrongAt (b := p83) e83) (by first | decide | (intro a ha; simp only [List.mem_cons, List.not_mem_nil, or_false] at ha; omega)) (by decide)
                rw [← Option.some.inj h]
                refine g_zreturn dX12_setsFile_86 rfl (gnz (bo_wrongAt (b := p83) e83)) ⟨Nat.zero_le _, Nat.zero_le _⟩ ?_
                exact ⟨rfl, rfl, rfl⟩
          · replace h := gI_neg h53 h
            refine g_aload_n (q0 := 57) (j := 0) rfl dX12_setsFile_56 rfl ?_
            refine g_bipush (q0 := 59) rfl dX12_setsFile_57 (k := ?_)
            refine g_iload_n (q0 := 60) (j := 1) rfl dX12_setsFile_59 rfl ?_
            obtain ⟨p60, e60, h⟩ := gI_bd h
            refine g_callVq1 (as := [_, _]) (rest := []) mt_X12_wrongAt mi_X12_wrongAt se_X12_wrongAt ml_X12_269 dX12_setsFile_60 (q0 := 63) rfl rfl (sh_711 hOK3) rfl rfl (ok_wrongAt hOK3 e60) rfl ⟨by decide, by decide⟩ (Nat.le_of_ble_eq_true rfl) ⟨Nat.zero_le _, Nat.zero_le _⟩ ?_
            have hOK8 : gOK sh p60.2 := gOK_fr hOK3 (fr_wrongAt (b := p60) e60) (by first | decide | (intro a ha; simp only [List.mem_cons, List.not_mem_nil, or_false] at ha; omega)) (by decide)
            rw [← Option.some.inj h]
            refine g_zreturn dX12_setsFile_63 rfl (gnz (bo_wrongAt (b := p60) e60)) ⟨Nat.zero_le _, Nat.zero_le _⟩ ?_
            exact ⟨rfl, rfl, rfl⟩
      · replace h := gI_pos h28 h
        refine g_iconst (q0 := 32) rfl dX12_setsFile_31 (k := ?_)
        rw [← Option.some.inj h]
        refine g_zreturn dX12_setsFile_32 rfl (gnz (Or.inl rfl)) ⟨Nat.zero_le _, Nat.zero_le _⟩ ?_
        exact ⟨rfl, rfl, rfl⟩
  · replace h := gI_pos h5 h
    refine g_iconst (q0 := 9) rfl dX12_setsFile_8 (k := ?_)
    rw [← Option.some.inj h]
    refine g_zreturn dX12_setsFile_9 rfl (gnz (Or.inl rfl)) ⟨Nat.zero_le _, Nat.zero_le _⟩ ?_
    exact ⟨rfl, rfl, rfl⟩
-- ==== takesAway
theorem dX12_takesAway_0 : decode cX12_takesAway 0 = .ok (.aload_n 0, 1) := by decide +kernel
theorem dX12_takesAway_1 : decode cX12_takesAway 1 = .ok (.iconst 4, 1) := by decide +kernel
theorem dX12_takesAway_2 : decode cX12_takesAway 2 = .ok (.invokevirtual 294, 3) := by decide +kernel
theorem dX12_takesAway_5 : decode cX12_takesAway 5 = .ok (.ifCond .ne 5, 3) := by decide +kernel
theorem dX12_takesAway_8 : decode cX12_takesAway 8 = .ok (.iconst 0, 1) := by decide +kernel
theorem dX12_takesAway_9 : decode cX12_takesAway 9 = .ok (.ireturn, 1) := by decide +kernel
theorem dX12_takesAway_10 : decode cX12_takesAway 10 = .ok (.aload_n 0, 1) := by decide +kernel
theorem dX12_takesAway_11 : decode cX12_takesAway 11 = .ok (.bipush 120, 2) := by decide +kernel
theorem dX12_takesAway_13 : decode cX12_takesAway 13 = .ok (.aload_n 0, 1) := by decide +kernel
theorem dX12_takesAway_14 : decode cX12_takesAway 14 = .ok (.getfield 278, 3) := by decide +kernel
theorem dX12_takesAway_17 : decode cX12_takesAway 17 = .ok (.invokevirtual 303, 3) := by decide +kernel
theorem dX12_takesAway_20 : decode cX12_takesAway 20 = .ok (.ifCond .ne 11, 3) := by decide +kernel
theorem dX12_takesAway_23 : decode cX12_takesAway 23 = .ok (.aload_n 0, 1) := by decide +kernel
theorem dX12_takesAway_24 : decode cX12_takesAway 24 = .ok (.bipush 8, 2) := by decide +kernel
theorem dX12_takesAway_26 : decode cX12_takesAway 26 = .ok (.iload_n 1, 1) := by decide +kernel
theorem dX12_takesAway_27 : decode cX12_takesAway 27 = .ok (.invokevirtual 269, 3) := by decide +kernel
theorem dX12_takesAway_30 : decode cX12_takesAway 30 = .ok (.ireturn, 1) := by decide +kernel
theorem dX12_takesAway_31 : decode cX12_takesAway 31 = .ok (.aload_n 0, 1) := by decide +kernel
theorem dX12_takesAway_32 : decode cX12_takesAway 32 = .ok (.bipush 120, 2) := by decide +kernel
theorem dX12_takesAway_34 : decode cX12_takesAway 34 = .ok (.aload_n 0, 1) := by decide +kernel
theorem dX12_takesAway_35 : decode cX12_takesAway 35 = .ok (.getfield 278, 3) := by decide +kernel
theorem dX12_takesAway_38 : decode cX12_takesAway 38 = .ok (.invokevirtual 313, 3) := by decide +kernel
theorem dX12_takesAway_41 : decode cX12_takesAway 41 = .ok (.iconst 1, 1) := by decide +kernel
theorem dX12_takesAway_42 : decode cX12_takesAway 42 = .ok (.ireturn, 1) := by decide +kernel
noncomputable def F_takesAway (M : gM) (a1 : Int) : Option (Int × gM) := (Option.bind (F_readsPath M 4) (fun p2 =>
    (if p2.1 = 0 then
      some (0, p2.2)
    else
      (Option.bind (F_kindAt p2.2 120 (p2.2 711 23)) (fun r17 =>
        (if r17 = 0 then
          (Option.bind (F_wrongAt p2.2 8 a1) (fun p27 =>
            some (p27.1, p27.2)))
        else
          (Option.bind (F_takes p2.2 120 (p2.2 711 23)) (fun m38 =>
            some (1, m38)))))))))
theorem eq_takesAway (M : gM) (a1 : Int) : F_takesAway M a1 = (Option.bind (F_readsPath M 4) (fun p2 =>
    (if p2.1 = 0 then
      some (0, p2.2)
    else
      (Option.bind (F_kindAt p2.2 120 (p2.2 711 23)) (fun r17 =>
        (if r17 = 0 then
          (Option.bind (F_wrongAt p2.2 8 a1) (fun p27 =>
            some (p27.1, p27.2)))
        else
          (Option.bind (F_takes p2.2 120 (p2.2 711 23)) (fun m38 =>
            some (1, m38))))))))) := rfl
theorem fr_takesAway {M : gM} {a1 : Int} {b : Int × gM} (h : F_takesAway M a1 = some b) : gFr [718, 719, 720] [19, 21, 23] M b.2 := by
  rw [eq_takesAway] at h
  obtain ⟨p2, e2, h⟩ := gI_bd h
  rcases gI_or h with h | h
  · rw [← Option.some.inj h]
    exact (gFr_t (gFr_r [718, 719, 720] [19, 21, 23] _) (fr_readsPath (b := p2) e2) (by first | decide | simp) (by decide))
  · obtain ⟨r17, e17, h⟩ := gI_bd h
    rcases gI_or h with h | h
    · obtain ⟨p27, e27, h⟩ := gI_bd h
      rw [← Option.some.inj h]
      exact (gFr_t (gFr_t (gFr_r [718, 719, 720] [19, 21, 23] _) (fr_readsPath (b := p2) e2) (by first | decide | simp) (by decide)) (fr_wrongAt (b := p27) e27) (by first | decide | simp) (by decide))
    · obtain ⟨m38, e38, h⟩ := gI_bd h
      rw [← Option.some.inj h]
      exact (gFr_t (gFr_t (gFr_r [718, 719, 720] [19, 21, 23] _) (fr_readsPath (b := p2) e2) (by first | decide | simp) (by decide)) (fr_takes (b := m38) e38) (by first | decide | simp) (by decide))
theorem bo_takesAway {M : gM} {a1 : Int} {b : Int × gM} (h : F_takesAway M a1 = some b) : b.1 = 0 ∨ b.1 = 1 := by
  rw [eq_takesAway] at h
  obtain ⟨p2, e2, h⟩ := gI_bd h
  rcases gI_or h with h | h
  · rw [← Option.some.inj h]
    exact (Or.inl rfl)
  · obtain ⟨r17, e17, h⟩ := gI_bd h
    rcases gI_or h with h | h
    · obtain ⟨p27, e27, h⟩ := gI_bd h
      rw [← Option.some.inj h]
      exact (bo_wrongAt (b := p27) e27)
    · obtain ⟨m38, e38, h⟩ := gI_bd h
      rw [← Option.some.inj h]
      exact (Or.inr rfl)
theorem ok_takesAway {sh : gS} {M : gM} {a1 : Int} {b : Int × gM} (hOK : gOK sh M) (h : F_takesAway M a1 = some b) : gC (gr 5 110) yX12_takesAway cX12_takesAway 2 (some (.boolean)) [(4, 711), (0, a1)] sh M (gPq sh (some (0, b.1)) b.2) := by
  rw [eq_takesAway] at h
  refine gC_ofA (lv := [_, _]) (by decide +kernel) (Nat.le_of_ble_eq_true rfl) rfl (fun hMw hav => ?_)
  refine g_aload_n (q0 := 1) (j := 0) rfl dX12_takesAway_0 rfl ?_
  refine g_iconst (q0 := 2) rfl dX12_takesAway_1 (k := ?_)
  obtain ⟨p2, e2, h⟩ := gI_bd h
  refine g_callVq1 (as := [_]) (rest := []) mt_X12_readsPath mi_X12_readsPath se_X12_readsPath ml_X12_294 dX12_takesAway_2 (q0 := 5) rfl rfl (sh_711 hOK) rfl rfl (ok_readsPath hOK e2) rfl ⟨by decide, by decide⟩ (Nat.le_of_ble_eq_true rfl) ⟨Nat.zero_le _, Nat.zero_le _⟩ ?_
  have hOK1 : gOK sh p2.2 := gOK_fr hOK (fr_readsPath (b := p2) e2) (by first | decide | (intro a ha; simp only [List.mem_cons, List.not_mem_nil, or_false] at ha; omega)) (by decide)
  refine g_if_ne (q0 := 8) (tgt := 10) rfl dX12_takesAway_5 (by decide) (fun h5 => ?_) (fun h5 => ?_)
  · replace h := gI_neg h5 h
    refine g_aload_n (q0 := 11) (j := 0) rfl dX12_takesAway_10 rfl ?_
    refine g_bipush (q0 := 13) rfl dX12_takesAway_11 (k := ?_)
    refine g_aload_n (q0 := 14) (j := 0) rfl dX12_takesAway_13 rfl ?_
    refine g_getf (q0 := 17) (t := 0) (fi := 23) rfl rfl ff_X12_278 dX12_takesAway_14 rfl (sh_711 hOK1) ?_
    obtain ⟨r17, e17, h⟩ := gI_bd h
    refine g_callVq1 (as := [_, _]) (rest := []) mt_X12_kindAt mi_X12_kindAt se_X12_kindAt ml_X12_303 dX12_takesAway_17 (q0 := 20) rfl rfl (sh_711 hOK1) rfl rfl (ok_kindAt hOK1 e17) rfl ⟨by decide, by decide⟩ (Nat.le_of_ble_eq_true rfl) ⟨Nat.zero_le _, Nat.zero_le _⟩ ?_
    refine g_if_ne (q0 := 23) (tgt := 31) rfl dX12_takesAway_20 (by decide) (fun h20 => ?_) (fun h20 => ?_)
    · replace h := gI_neg h20 h
      refine g_aload_n (q0 := 32) (j := 0) rfl dX12_takesAway_31 rfl ?_
      refine g_bipush (q0 := 34) rfl dX12_takesAway_32 (k := ?_)
      refine g_aload_n (q0 := 35) (j := 0) rfl dX12_takesAway_34 rfl ?_
      refine g_getf (q0 := 38) (t := 0) (fi := 23) rfl rfl ff_X12_278 dX12_takesAway_35 rfl (sh_711 hOK1) ?_
      obtain ⟨m38, e38, h⟩ := gI_bd h
      refine g_callVq0 (as := [_, _]) (rest := []) mt_X12_takes mi_X12_takes se_X12_takes ml_X12_313 dX12_takesAway_38 (q0 := 41) rfl rfl (sh_711 hOK1) rfl rfl (ok_takes hOK1 e38) rfl ⟨by decide, by decide⟩ (Nat.le_of_ble_eq_true rfl) ⟨Nat.zero_le _, Nat.zero_le _⟩ ?_
      have hOK2 : gOK sh m38 := gOK_fr hOK1 (fr_takes (b := m38) e38) (by first | decide | (intro a ha; simp only [List.mem_cons, List.not_mem_nil, or_false] at ha; omega)) (by decide)
      refine g_iconst (q0 := 42) rfl dX12_takesAway_41 (k := ?_)
      rw [← Option.some.inj h]
      refine g_zreturn dX12_takesAway_42 rfl (gnz (Or.inr rfl)) ⟨Nat.zero_le _, Nat.zero_le _⟩ ?_
      exact ⟨rfl, rfl, rfl⟩
    · replace h := gI_pos h20 h
      refine g_aload_n (q0 := 24) (j := 0) rfl dX12_takesAway_23 rfl ?_
      refine g_bipush (q0 := 26) rfl dX12_takesAway_24 (k := ?_)
      refine g_iload_n (q0 := 27) (j := 1) rfl dX12_takesAway_26 rfl ?_
      obtain ⟨p27, e27, h⟩ := gI_bd h
      refine g_callVq1 (as := [_, _]) (rest := []) mt_X12_wrongAt mi_X12_wrongAt se_X12_wrongAt ml_X12_269 dX12_takesAway_27 (q0 := 30) rfl rfl (sh_711 hOK1) rfl rfl (ok_wrongAt hOK1 e27) rfl ⟨by decide, by decide⟩ (Nat.le_of_ble_eq_true rfl) ⟨Nat.zero_le _, Nat.zero_le _⟩ ?_
      have hOK3 : gOK sh p27.2 := gOK_fr hOK1 (fr_wrongAt (b := p27) e27) (by first | decide | (intro a ha; simp only [List.mem_cons, List.not_mem_nil, or_false] at ha; omega)) (by decide)
      rw [← Option.some.inj h]
      refine g_zreturn dX12_takesAway_30 rfl (gnz (bo_wrongAt (b := p27) e27)) ⟨Nat.zero_le _, Nat.zero_le _⟩ ?_
      exact ⟨rfl, rfl, rfl⟩
  · replace h := gI_pos h5 h
    refine g_iconst (q0 := 9) rfl dX12_takesAway_8 (k := ?_)
    rw [← Option.some.inj h]
    refine g_zreturn dX12_takesAway_9 rfl (gnz (Or.inl rfl)) ⟨Nat.zero_le _, Nat.zero_le _⟩ ?_
    exact ⟨rfl, rfl, rfl⟩
