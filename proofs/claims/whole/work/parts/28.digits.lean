-- ==== digits of a number
theorem dX0_digitsIn_0 : decode cX0_digitsIn 0 = .ok (.iconst 0, 1) := by decide +kernel
theorem dX0_digitsIn_1 : decode cX0_digitsIn 1 = .ok (.istore_n 1, 1) := by decide +kernel
theorem dX0_digitsIn_2 : decode cX0_digitsIn 2 = .ok (.iload_n 0, 1) := by decide +kernel
theorem dX0_digitsIn_3 : decode cX0_digitsIn 3 = .ok (.istore_n 2, 1) := by decide +kernel
theorem dX0_digitsIn_4 : decode cX0_digitsIn 4 = .ok (.iload_n 2, 1) := by decide +kernel
theorem dX0_digitsIn_5 : decode cX0_digitsIn 5 = .ok (.bipush 10, 2) := by decide +kernel
theorem dX0_digitsIn_7 : decode cX0_digitsIn 7 = .ok (.if_icmp .lt 20, 3) := by decide +kernel
theorem dX0_digitsIn_10 : decode cX0_digitsIn 10 = .ok (.iload_n 1, 1) := by decide +kernel
theorem dX0_digitsIn_11 : decode cX0_digitsIn 11 = .ok (.bipush 6, 2) := by decide +kernel
theorem dX0_digitsIn_13 : decode cX0_digitsIn 13 = .ok (.if_icmp .ge 14, 3) := by decide +kernel
theorem dX0_digitsIn_16 : decode cX0_digitsIn 16 = .ok (.iinc 1 1, 3) := by decide +kernel
theorem dX0_digitsIn_19 : decode cX0_digitsIn 19 = .ok (.iload_n 2, 1) := by decide +kernel
theorem dX0_digitsIn_20 : decode cX0_digitsIn 20 = .ok (.bipush 10, 2) := by decide +kernel
theorem dX0_digitsIn_22 : decode cX0_digitsIn 22 = .ok (.idiv, 1) := by decide +kernel
theorem dX0_digitsIn_23 : decode cX0_digitsIn 23 = .ok (.istore_n 2, 1) := by decide +kernel
theorem dX0_digitsIn_24 : decode cX0_digitsIn 24 = .ok (.goto (-20), 3) := by decide +kernel
theorem dX0_digitsIn_27 : decode cX0_digitsIn 27 = .ok (.iload_n 1, 1) := by decide +kernel
theorem dX0_digitsIn_28 : decode cX0_digitsIn 28 = .ok (.ireturn, 1) := by decide +kernel
theorem dX0_digitFromBehind_0 : decode cX0_digitFromBehind 0 = .ok (.iload_n 0, 1) := by decide +kernel
theorem dX0_digitFromBehind_1 : decode cX0_digitFromBehind 1 = .ok (.istore_n 2, 1) := by decide +kernel
theorem dX0_digitFromBehind_2 : decode cX0_digitFromBehind 2 = .ok (.iconst 0, 1) := by decide +kernel
theorem dX0_digitFromBehind_3 : decode cX0_digitFromBehind 3 = .ok (.istore_n 3, 1) := by decide +kernel
theorem dX0_digitFromBehind_4 : decode cX0_digitFromBehind 4 = .ok (.iload_n 3, 1) := by decide +kernel
theorem dX0_digitFromBehind_5 : decode cX0_digitFromBehind 5 = .ok (.iload_n 1, 1) := by decide +kernel
theorem dX0_digitFromBehind_6 : decode cX0_digitFromBehind 6 = .ok (.if_icmp .ge 14, 3) := by decide +kernel
theorem dX0_digitFromBehind_9 : decode cX0_digitFromBehind 9 = .ok (.iload_n 2, 1) := by decide +kernel
theorem dX0_digitFromBehind_10 : decode cX0_digitFromBehind 10 = .ok (.bipush 10, 2) := by decide +kernel
theorem dX0_digitFromBehind_12 : decode cX0_digitFromBehind 12 = .ok (.idiv, 1) := by decide +kernel
theorem dX0_digitFromBehind_13 : decode cX0_digitFromBehind 13 = .ok (.istore_n 2, 1) := by decide +kernel
theorem dX0_digitFromBehind_14 : decode cX0_digitFromBehind 14 = .ok (.iinc 3 1, 3) := by decide +kernel
theorem dX0_digitFromBehind_17 : decode cX0_digitFromBehind 17 = .ok (.goto (-13), 3) := by decide +kernel
theorem dX0_digitFromBehind_20 : decode cX0_digitFromBehind 20 = .ok (.iload_n 2, 1) := by decide +kernel
theorem dX0_digitFromBehind_21 : decode cX0_digitFromBehind 21 = .ok (.bipush 10, 2) := by decide +kernel
theorem dX0_digitFromBehind_23 : decode cX0_digitFromBehind 23 = .ok (.irem, 1) := by decide +kernel
theorem dX0_digitFromBehind_24 : decode cX0_digitFromBehind 24 = .ok (.ireturn, 1) := by decide +kernel
theorem gdiv_10 {x : Int} (h : 0 ≤ x) (h2 : x < 2147483648) : gdiv x 10 = x / 10 := by
  have hw : gw (0, x) := ⟨by show -2147483648 ≤ x; omega, h2⟩
  have hx : (Int32.ofInt x).toInt = x := gi_int hw
  unfold gdiv
  rw [Int32.toInt_div, hx, show (Int32.ofInt 10).toInt = 10 from rfl, Int.tdiv_eq_ediv_of_nonneg h, Int.bmod_def]
  simp only [Nat.reducePow]
  omega
theorem grem_10 {x : Int} (h : 0 ≤ x) (h2 : x < 2147483648) : grem x 10 = x % 10 := by
  have hw : gw (0, x) := ⟨by show -2147483648 ≤ x; omega, h2⟩
  have hx : (Int32.ofInt x).toInt = x := gi_int hw
  have e := gdiv_10 h h2
  unfold gdiv at e
  unfold grem
  rw [Int32.toInt_sub, Int32.toInt_mul, e, hx, show (Int32.ofInt 10).toInt = 10 from rfl]
  rw [Int.bmod_def, Int.bmod_def]
  simp only [Nat.reducePow]
  omega
/-- how many digits behind the first one, so many at most -/
def dgN : Nat → Int → Int
  | 0, _ => 0
  | k + 1, x => if x < 10 then 0 else 1 + dgN k (x / 10)
def dgB : Nat → Int → Int
  | 0, x => x % 10
  | k + 1, x => dgB k (x / 10)
theorem dgN_rng : ∀ (k : Nat) (x : Int), 0 ≤ dgN k x ∧ dgN k x ≤ k
  | 0, _ => ⟨Int.le_refl 0, Int.le_refl 0⟩
  | k + 1, x => by
    have := dgN_rng k (x / 10)
    unfold dgN
    split <;> omega
theorem sp_X0_digitsIn {sh : gS} {M : gM} {x : Int} (hx : 0 ≤ x ∧ x < 2147483648) :
    gC (gr 0 0) yX0_digitsIn cX0_digitsIn 3 (some (.int)) [(0, x)] sh M (gPp sh M (0, dgN 6 x)) := by
  refine gC_ofA (lv := [_, _, _]) (by decide +kernel) (Nat.le_of_ble_eq_true rfl) rfl (fun hMw hav => ?_)
  have lp : ∀ (k : Nat) (i v : Int), i + (k : Int) = 6 → 0 ≤ i → 0 ≤ v → v < 2147483648 → i + dgN k v = dgN 6 x →
      gA (gr 0 0) yX0_digitsIn cX0_digitsIn 3 (some (.int)) (gPp sh M (0, dgN 6 x)) (0, 0) 4 [(0, x), (0, i), (0, v)] [] sh M := by
    intro k
    induction k with
    | zero =>
      intro i v hi h0 v0 v1 hv
      refine g_iload_n (q0 := 5) (j := 2) rfl dX0_digitsIn_4 rfl ?_
      refine g_bipush (q0 := 7) rfl dX0_digitsIn_5 (k := ?_)
      refine g_icmp_lt (q0 := 10) (tgt := 27) rfl dX0_digitsIn_7 (by decide) (fun h7 => ?_) (fun h7 => ?_)
      · refine g_iload_n (q0 := 28) (j := 1) rfl dX0_digitsIn_27 rfl ?_
        refine g_ireturn dX0_digitsIn_28 rfl ⟨Nat.zero_le _, Nat.zero_le _⟩ ?_
        exact ⟨by rw [← hv, dgN, Int.add_zero], rfl, rfl⟩
      · refine g_iload_n (q0 := 11) (j := 1) rfl dX0_digitsIn_10 rfl ?_
        refine g_bipush (q0 := 13) rfl dX0_digitsIn_11 (k := ?_)
        refine g_icmp_ge (q0 := 16) (tgt := 27) rfl dX0_digitsIn_13 (by decide) (fun h13 => ?_) (fun h13 => ?_)
        · refine g_iload_n (q0 := 28) (j := 1) rfl dX0_digitsIn_27 rfl ?_
          refine g_ireturn dX0_digitsIn_28 rfl ⟨Nat.zero_le _, Nat.zero_le _⟩ ?_
          exact ⟨by rw [← hv, dgN, Int.add_zero], rfl, rfl⟩
        · omega
    | succ k ih =>
      intro i v hi h0 v0 v1 hv
      rw [dgN] at hv
      refine g_iload_n (q0 := 5) (j := 2) rfl dX0_digitsIn_4 rfl ?_
      refine g_bipush (q0 := 7) rfl dX0_digitsIn_5 (k := ?_)
      refine g_icmp_lt (q0 := 10) (tgt := 27) rfl dX0_digitsIn_7 (by decide) (fun h7 => ?_) (fun h7 => ?_)
      · rw [if_pos h7] at hv
        refine g_iload_n (q0 := 28) (j := 1) rfl dX0_digitsIn_27 rfl ?_
        refine g_ireturn dX0_digitsIn_28 rfl ⟨Nat.zero_le _, Nat.zero_le _⟩ ?_
        exact ⟨by rw [← hv, Int.add_zero], rfl, rfl⟩
      · rw [if_neg (by omega)] at hv
        refine g_iload_n (q0 := 11) (j := 1) rfl dX0_digitsIn_10 rfl ?_
        refine g_bipush (q0 := 13) rfl dX0_digitsIn_11 (k := ?_)
        refine g_icmp_ge (q0 := 16) (tgt := 27) rfl dX0_digitsIn_13 (by decide) (fun h13 => ?_) (fun h13 => ?_)
        · omega
        · refine g_iinc (q0 := 19) (lv2 := [_, _, _]) rfl dX0_digitsIn_16 rfl (by decide) rfl rfl (by omega) (by omega) ?_
          refine g_iload_n (q0 := 20) (j := 2) rfl dX0_digitsIn_19 rfl ?_
          refine g_bipush (q0 := 22) rfl dX0_digitsIn_20 (k := ?_)
          refine g_idiv (q0 := 23) rfl dX0_digitsIn_22 (by omega) ?_
          refine g_istore_n (q0 := 24) (j := 2) (lv2 := [_, _, _]) rfl dX0_digitsIn_23 (by decide) rfl rfl ?_
          refine g_goto (tgt := 4) dX0_digitsIn_24 (by decide) ?_
          rw [gdiv_10 v0 v1]
          exact ih (i + 1) (v / 10) (by omega) (by omega) (by omega) (by omega) (by omega)
  refine g_iconst (q0 := 1) rfl dX0_digitsIn_0 (k := ?_)
  refine g_istore_n (q0 := 2) (j := 1) (lv2 := [_, _, _]) rfl dX0_digitsIn_1 (by decide) rfl rfl ?_
  refine g_iload_n (q0 := 3) (j := 0) rfl dX0_digitsIn_2 rfl ?_
  refine g_istore_n (q0 := 4) (j := 2) (lv2 := [_, _, _]) rfl dX0_digitsIn_3 (by decide) rfl rfl ?_
  exact lp 6 0 x (by omega) (by omega) hx.1 hx.2 (by omega)
theorem sp_X0_digitFromBehind {sh : gS} {M : gM} {x : Int} {p : Nat} (hx : 0 ≤ x ∧ x < 2147483648) (hp : p < 100) :
    gC (gr 0 0) yX0_digitFromBehind cX0_digitFromBehind 4 (some (.int)) [(0, x), (0, (p : Int))] sh M (gPp sh M (0, dgB p x)) := by
  refine gC_ofA (lv := [_, _, _, _]) (by decide +kernel) (Nat.le_of_ble_eq_true rfl) rfl (fun hMw hav => ?_)
  have lp : ∀ (k i : Nat) (v : Int), i + k = p → 0 ≤ v → v < 2147483648 → dgB k v = dgB p x →
      gA (gr 0 0) yX0_digitFromBehind cX0_digitFromBehind 4 (some (.int)) (gPp sh M (0, dgB p x)) (0, 0) 4 [(0, x), (0, (p : Int)), (0, v), (0, (i : Int))] [] sh M := by
    intro k
    induction k with
    | zero =>
      intro i v hi v0 v1 hv
      refine g_iload_n (q0 := 5) (j := 3) rfl dX0_digitFromBehind_4 rfl ?_
      refine g_iload_n (q0 := 6) (j := 1) rfl dX0_digitFromBehind_5 rfl ?_
      refine g_icmp_ge (q0 := 9) (tgt := 20) rfl dX0_digitFromBehind_6 (by decide) (fun h6 => ?_) (fun h6 => ?_)
      · refine g_iload_n (q0 := 21) (j := 2) rfl dX0_digitFromBehind_20 rfl ?_
        refine g_bipush (q0 := 23) rfl dX0_digitFromBehind_21 (k := ?_)
        refine g_irem (q0 := 24) rfl dX0_digitFromBehind_23 (by omega) ?_
        refine g_ireturn dX0_digitFromBehind_24 rfl ⟨Nat.zero_le _, Nat.zero_le _⟩ ?_
        rw [grem_10 v0 v1]
        exact ⟨by rw [← hv, dgB], rfl, rfl⟩
      · omega
    | succ k ih =>
      intro i v hi v0 v1 hv
      rw [dgB] at hv
      refine g_iload_n (q0 := 5) (j := 3) rfl dX0_digitFromBehind_4 rfl ?_
      refine g_iload_n (q0 := 6) (j := 1) rfl dX0_digitFromBehind_5 rfl ?_
      refine g_icmp_ge (q0 := 9) (tgt := 20) rfl dX0_digitFromBehind_6 (by decide) (fun h6 => ?_) (fun h6 => ?_)
      · omega
      · refine g_iload_n (q0 := 10) (j := 2) rfl dX0_digitFromBehind_9 rfl ?_
        refine g_bipush (q0 := 12) rfl dX0_digitFromBehind_10 (k := ?_)
        refine g_idiv (q0 := 13) rfl dX0_digitFromBehind_12 (by omega) ?_
        refine g_istore_n (q0 := 14) (j := 2) (lv2 := [_, _, _, _]) rfl dX0_digitFromBehind_13 (by decide) rfl rfl ?_
        refine g_iinc (q0 := 17) (lv2 := [_, _, _, _]) rfl dX0_digitFromBehind_14 rfl (by decide) rfl rfl (by omega) (by omega) ?_
        refine g_goto (tgt := 4) dX0_digitFromBehind_17 (by decide) ?_
        rw [gdiv_10 v0 v1]
        exact ih (i + 1) (v / 10) (by omega) (by omega) (by omega) hv
  refine g_iload_n (q0 := 1) (j := 0) rfl dX0_digitFromBehind_0 rfl ?_
  refine g_istore_n (q0 := 2) (j := 2) (lv2 := [_, _, _, _]) rfl dX0_digitFromBehind_1 (by decide) rfl rfl ?_
  refine g_iconst (q0 := 3) rfl dX0_digitFromBehind_2 (k := ?_)
  refine g_istore_n (q0 := 4) (j := 3) (lv2 := [_, _, _, _]) rfl dX0_digitFromBehind_3 (by decide) rfl rfl ?_
  exact lp p 0 x (by omega) hx.1 hx.2 rfl
