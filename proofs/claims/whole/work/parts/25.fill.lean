-- ==== Arrays.fill of ints; a plan's map
theorem dJ7_fill_53178_0 : decode cJ7_fill_53178 0 = .ok (.iconst 0, 1) := by decide +kernel
theorem dJ7_fill_53178_1 : decode cJ7_fill_53178 1 = .ok (.istore_n 2, 1) := by decide +kernel
theorem dJ7_fill_53178_2 : decode cJ7_fill_53178 2 = .ok (.aload_n 0, 1) := by decide +kernel
theorem dJ7_fill_53178_3 : decode cJ7_fill_53178 3 = .ok (.arraylength, 1) := by decide +kernel
theorem dJ7_fill_53178_4 : decode cJ7_fill_53178 4 = .ok (.istore_n 3, 1) := by decide +kernel
theorem dJ7_fill_53178_5 : decode cJ7_fill_53178 5 = .ok (.iload_n 2, 1) := by decide +kernel
theorem dJ7_fill_53178_6 : decode cJ7_fill_53178 6 = .ok (.iload_n 3, 1) := by decide +kernel
theorem dJ7_fill_53178_7 : decode cJ7_fill_53178 7 = .ok (.if_icmp .ge 13, 3) := by decide +kernel
theorem dJ7_fill_53178_10 : decode cJ7_fill_53178 10 = .ok (.aload_n 0, 1) := by decide +kernel
theorem dJ7_fill_53178_11 : decode cJ7_fill_53178 11 = .ok (.iload_n 2, 1) := by decide +kernel
theorem dJ7_fill_53178_12 : decode cJ7_fill_53178 12 = .ok (.iload_n 1, 1) := by decide +kernel
theorem dJ7_fill_53178_13 : decode cJ7_fill_53178 13 = .ok (.iastore, 1) := by decide +kernel
theorem dJ7_fill_53178_14 : decode cJ7_fill_53178 14 = .ok (.iinc 2 1, 3) := by decide +kernel
theorem dJ7_fill_53178_17 : decode cJ7_fill_53178 17 = .ok (.goto (-12), 3) := by decide +kernel
theorem dJ7_fill_53178_20 : decode cJ7_fill_53178 20 = .ok (.return_, 1) := by decide +kernel
theorem dX5_takeMap_0 : decode cX5_takeMap 0 = .ok (.aload_n 1, 1) := by decide +kernel
theorem dX5_takeMap_1 : decode cX5_takeMap 1 = .ok (.iconst 0, 1) := by decide +kernel
theorem dX5_takeMap_2 : decode cX5_takeMap 2 = .ok (.aload_n 0, 1) := by decide +kernel
theorem dX5_takeMap_3 : decode cX5_takeMap 3 = .ok (.getfield 38, 3) := by decide +kernel
theorem dX5_takeMap_6 : decode cX5_takeMap 6 = .ok (.iconst 0, 1) := by decide +kernel
theorem dX5_takeMap_7 : decode cX5_takeMap 7 = .ok (.bipush 120, 2) := by decide +kernel
theorem dX5_takeMap_9 : decode cX5_takeMap 9 = .ok (.invokestatic 94, 3) := by decide +kernel
theorem dX5_takeMap_12 : decode cX5_takeMap 12 = .ok (.aload_n 2, 1) := by decide +kernel
theorem dX5_takeMap_13 : decode cX5_takeMap 13 = .ok (.iconst 0, 1) := by decide +kernel
theorem dX5_takeMap_14 : decode cX5_takeMap 14 = .ok (.aload_n 0, 1) := by decide +kernel
theorem dX5_takeMap_15 : decode cX5_takeMap 15 = .ok (.getfield 42, 3) := by decide +kernel
theorem dX5_takeMap_18 : decode cX5_takeMap 18 = .ok (.iconst 0, 1) := by decide +kernel
theorem dX5_takeMap_19 : decode cX5_takeMap 19 = .ok (.bipush 120, 2) := by decide +kernel
theorem dX5_takeMap_21 : decode cX5_takeMap 21 = .ok (.invokestatic 94, 3) := by decide +kernel
theorem dX5_takeMap_24 : decode cX5_takeMap 24 = .ok (.return_, 1) := by decide +kernel
def gFill (sh : gS) (M : gM) (t : Int) (n : Nat) (v : Int) (M1 : gM) : Prop := (∀ q : Int, 0 ≤ q → q < (n : Int) → M1 t q = v) ∧ gOK sh M1 ∧ ∀ b : Int, b ≠ t → M1 b = M b
theorem sp_J7_fill {sh : gS} {M : gM} {t v : Int} {n : Nat} (hOK : gOK sh M) (hs : gsh sh t = some (1, n)) (hn : n ≤ 5000) (ht : 0 ≤ t) :
    gC (gr 0 0) yJ7_fill_53178 cJ7_fill_53178 4 none [(4, t), (0, v)] sh M (gPm sh (fun r M1 => r = none ∧ gFill sh M t n v M1)) := by
  refine gC_ofA (lv := [_, _, _, _]) (by decide +kernel) (Nat.le_of_ble_eq_true rfl) rfl (fun hMw hav => ?_)
  have lp : ∀ (k i : Nat) (M1 : gM), i + k = n → (∀ q : Int, 0 ≤ q → q < (i : Int) → M1 t q = v) → gOK sh M1 → (∀ b : Int, b ≠ t → M1 b = M b) →
      gA (gr 0 0) yJ7_fill_53178 cJ7_fill_53178 4 none (gPm sh (fun r M1 => r = none ∧ gFill sh M t n v M1)) (0, 0) 5 [(4, t), (0, v), (0, (i : Int)), (0, (n : Int))] [] sh M1 := by
    intro k
    induction k with
    | zero =>
      intro i M1 hi h1 hO h2
      refine g_iload_n (q0 := 6) (j := 2) rfl dJ7_fill_53178_5 rfl ?_
      refine g_iload_n (q0 := 7) (j := 3) rfl dJ7_fill_53178_6 rfl ?_
      refine g_icmp_ge (q0 := 10) (tgt := 20) rfl dJ7_fill_53178_7 (by decide) (fun h7 => ?_) (fun h7 => ?_)
      · refine g_return dJ7_fill_53178_20 rfl ⟨Nat.zero_le _, Nat.zero_le _⟩ ?_
        exact ⟨rfl, rfl, fun q q0 q1 => h1 q q0 (by omega), hO, h2⟩
      · omega
    | succ k ih =>
      intro i M1 hi h1 hO h2
      refine g_iload_n (q0 := 6) (j := 2) rfl dJ7_fill_53178_5 rfl ?_
      refine g_iload_n (q0 := 7) (j := 3) rfl dJ7_fill_53178_6 rfl ?_
      refine g_icmp_ge (q0 := 10) (tgt := 20) rfl dJ7_fill_53178_7 (by decide) (fun h7 => ?_) (fun h7 => ?_)
      · omega
      · refine g_aload_n (q0 := 11) (j := 0) rfl dJ7_fill_53178_10 rfl ?_
        refine g_iload_n (q0 := 12) (j := 2) rfl dJ7_fill_53178_11 rfl ?_
        refine g_iload_n (q0 := 13) (j := 1) rfl dJ7_fill_53178_12 rfl ?_
        refine g_iast (q0 := 14) rfl dJ7_fill_53178_13 (by assumption) (by omega) (by omega) ?_
        refine g_iinc (q0 := 17) (lv2 := [_, _, _, _]) rfl dJ7_fill_53178_14 rfl (by decide) rfl rfl (by omega) (by omega) ?_
        refine g_goto (tgt := 5) dJ7_fill_53178_17 (by decide) ?_
        refine ih (i + 1) _ (by omega) (fun q q0 q1 => ?_) (gOK_i hO hs) (fun b hb => by rw [gU_cell _ _ _ hb]; exact h2 b hb)
        by_cases hq : q = (i : Int)
        · rw [hq, gU_same]
        · rw [gU_idx hq]
          exact h1 q q0 (by omega)
  refine g_iconst (q0 := 1) rfl dJ7_fill_53178_0 (k := ?_)
  refine g_istore_n (q0 := 2) (j := 2) (lv2 := [_, _, _, _]) rfl dJ7_fill_53178_1 (by decide) rfl rfl ?_
  refine g_aload_n (q0 := 3) (j := 0) rfl dJ7_fill_53178_2 rfl ?_
  refine g_alen (q0 := 4) rfl dJ7_fill_53178_3 (by assumption) (by omega) ⟨_, rfl⟩ ?_
  refine g_istore_n (q0 := 5) (j := 3) (lv2 := [_, _, _, _]) rfl dJ7_fill_53178_4 (by decide) rfl rfl ?_
  exact lp n 0 M (by omega) (fun q q0 q1 => by omega) hOK (fun _ _ => rfl)
theorem sp_X5_takeMap {sh : gS} {M : gM} {a u v : Int} (hOK : gOK sh M) (hP : plSh sh a) (hu : gsh sh u = some (1, 120)) (hv : gsh sh v = some (1, 120)) (hd : v ≠ a + 22) :
    gC (gr 1 68) yX5_takeMap cX5_takeMap 3 none [(4, a), (4, u), (4, v)] sh M (gPm sh (fun r M1 => r = none ∧ (∀ k : Int, 0 ≤ k → k < 120 → M1 (a + 22) k = M u k ∧ M1 (a + 23) k = M v k) ∧ gOK sh M1 ∧ ∀ b : Int, b ≠ a + 22 → b ≠ a + 23 → M1 b = M b)) := by
  obtain ⟨s0, q1, q2, q3, q4, q5, q6, q7, s8, s9, s10, s11⟩ := hP
  refine gC_ofA (lv := [_, _, _]) (by decide +kernel) (Nat.le_of_ble_eq_true rfl) rfl (fun hMw hav => ?_)
  refine g_aload_n (q0 := 1) (j := 1) rfl dX5_takeMap_0 rfl ?_
  refine g_iconst (q0 := 2) rfl dX5_takeMap_1 (k := ?_)
  refine g_aload_n (q0 := 3) (j := 0) rfl dX5_takeMap_2 rfl ?_
  refine g_getp (q0 := 6) (b := a + 22) rfl ff_X5_38 dX5_takeMap_3 rfl hOK (by omega) (by assumption) rfl rfl ?_
  refine g_iconst (q0 := 7) rfl dX5_takeMap_6 (k := ?_)
  refine g_bipush (q0 := 9) rfl dX5_takeMap_7 (k := ?_)
  refine g_copy (q0 := 12) rfl (Or.inl rfl) ml_X5_94 nat_acopy sta_acopy inic_System dX5_takeMap_9 (by assumption) (by assumption) (by omega) (by omega) (by omega) (by omega) (by omega) (fun h => by cases h) (by decide) (Nat.le_of_ble_eq_true rfl) ?_
  refine g_aload_n (q0 := 13) (j := 2) rfl dX5_takeMap_12 rfl ?_
  refine g_iconst (q0 := 14) rfl dX5_takeMap_13 (k := ?_)
  refine g_aload_n (q0 := 15) (j := 0) rfl dX5_takeMap_14 rfl ?_
  refine g_getp (q0 := 18) (b := a + 23) rfl ff_X5_42 dX5_takeMap_15 rfl (gOK_cpy hOK (by assumption) (Or.inl rfl)) (by omega) (by assumption) rfl rfl ?_
  refine g_iconst (q0 := 19) rfl dX5_takeMap_18 (k := ?_)
  refine g_bipush (q0 := 21) rfl dX5_takeMap_19 (k := ?_)
  refine g_copy (q0 := 24) rfl (Or.inl rfl) ml_X5_94 nat_acopy sta_acopy inic_System dX5_takeMap_21 (by assumption) (by assumption) (by omega) (by omega) (by omega) (by omega) (by omega) (fun h => by cases h) (by decide) (Nat.le_of_ble_eq_true rfl) ?_
  refine g_return dX5_takeMap_24 rfl ⟨Nat.zero_le _, Nat.zero_le _⟩ ?_
  refine ⟨rfl, rfl, fun k k0 k1 => ⟨?_, ?_⟩, gOK_cpy (gOK_cpy hOK s8 (Or.inl rfl)) s9 (Or.inl rfl), fun b b0 b1 => ?_⟩
  · have n1 : ¬ a + 22 = a + 23 := by omega
    simp only [gCpy, n1, false_and, if_false, true_and]
    rw [if_pos (by omega), show 0 + (k - 0) = k by omega]
  · simp only [gCpy, true_and]
    rw [if_pos (by omega), if_neg (by omega), show 0 + (k - 0) = k by omega]
  · funext y
    simp only [gCpy, b0, b1, false_and, if_false]
