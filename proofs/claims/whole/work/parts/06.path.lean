-- ==== PATHS as numbers
theorem dX10_namesIn_0 : decode cX10_namesIn 0 = .ok (.iconst 0, 1) := by decide +kernel
theorem dX10_namesIn_1 : decode cX10_namesIn 1 = .ok (.istore_n 1, 1) := by decide +kernel
theorem dX10_namesIn_2 : decode cX10_namesIn 2 = .ok (.iconst 0, 1) := by decide +kernel
theorem dX10_namesIn_3 : decode cX10_namesIn 3 = .ok (.istore_n 2, 1) := by decide +kernel
theorem dX10_namesIn_4 : decode cX10_namesIn 4 = .ok (.iload_n 2, 1) := by decide +kernel
theorem dX10_namesIn_5 : decode cX10_namesIn 5 = .ok (.bipush 6, 2) := by decide +kernel
theorem dX10_namesIn_7 : decode cX10_namesIn 7 = .ok (.if_icmp .ge 26, 3) := by decide +kernel
theorem dX10_namesIn_10 : decode cX10_namesIn 10 = .ok (.iload_n 0, 1) := by decide +kernel
theorem dX10_namesIn_11 : decode cX10_namesIn 11 = .ok (.bipush 25, 2) := by decide +kernel
theorem dX10_namesIn_13 : decode cX10_namesIn 13 = .ok (.iconst 5, 1) := by decide +kernel
theorem dX10_namesIn_14 : decode cX10_namesIn 14 = .ok (.iload_n 2, 1) := by decide +kernel
theorem dX10_namesIn_15 : decode cX10_namesIn 15 = .ok (.imul, 1) := by decide +kernel
theorem dX10_namesIn_16 : decode cX10_namesIn 16 = .ok (.isub, 1) := by decide +kernel
theorem dX10_namesIn_17 : decode cX10_namesIn 17 = .ok (.iushr, 1) := by decide +kernel
theorem dX10_namesIn_18 : decode cX10_namesIn 18 = .ok (.bipush 31, 2) := by decide +kernel
theorem dX10_namesIn_20 : decode cX10_namesIn 20 = .ok (.iand, 1) := by decide +kernel
theorem dX10_namesIn_21 : decode cX10_namesIn 21 = .ok (.ifCond .eq 6, 3) := by decide +kernel
theorem dX10_namesIn_24 : decode cX10_namesIn 24 = .ok (.iinc 1 1, 3) := by decide +kernel
theorem dX10_namesIn_27 : decode cX10_namesIn 27 = .ok (.iinc 2 1, 3) := by decide +kernel
theorem dX10_namesIn_30 : decode cX10_namesIn 30 = .ok (.goto (-26), 3) := by decide +kernel
theorem dX10_namesIn_33 : decode cX10_namesIn 33 = .ok (.iload_n 1, 1) := by decide +kernel
theorem dX10_namesIn_34 : decode cX10_namesIn 34 = .ok (.ireturn, 1) := by decide +kernel
theorem dX10_covers_0 : decode cX10_covers 0 = .ok (.bipush 25, 2) := by decide +kernel
theorem dX10_covers_2 : decode cX10_covers 2 = .ok (.istore_n 2, 1) := by decide +kernel
theorem dX10_covers_3 : decode cX10_covers 3 = .ok (.iload_n 2, 1) := by decide +kernel
theorem dX10_covers_4 : decode cX10_covers 4 = .ok (.ifCond .lt 34, 3) := by decide +kernel
theorem dX10_covers_7 : decode cX10_covers 7 = .ok (.iload_n 0, 1) := by decide +kernel
theorem dX10_covers_8 : decode cX10_covers 8 = .ok (.iload_n 2, 1) := by decide +kernel
theorem dX10_covers_9 : decode cX10_covers 9 = .ok (.iushr, 1) := by decide +kernel
theorem dX10_covers_10 : decode cX10_covers 10 = .ok (.bipush 31, 2) := by decide +kernel
theorem dX10_covers_12 : decode cX10_covers 12 = .ok (.iand, 1) := by decide +kernel
theorem dX10_covers_13 : decode cX10_covers 13 = .ok (.istore_n 3, 1) := by decide +kernel
theorem dX10_covers_14 : decode cX10_covers 14 = .ok (.iload_n 3, 1) := by decide +kernel
theorem dX10_covers_15 : decode cX10_covers 15 = .ok (.ifCond .ne 5, 3) := by decide +kernel
theorem dX10_covers_18 : decode cX10_covers 18 = .ok (.iconst 1, 1) := by decide +kernel
theorem dX10_covers_19 : decode cX10_covers 19 = .ok (.ireturn, 1) := by decide +kernel
theorem dX10_covers_20 : decode cX10_covers 20 = .ok (.iload_n 3, 1) := by decide +kernel
theorem dX10_covers_21 : decode cX10_covers 21 = .ok (.iload_n 1, 1) := by decide +kernel
theorem dX10_covers_22 : decode cX10_covers 22 = .ok (.iload_n 2, 1) := by decide +kernel
theorem dX10_covers_23 : decode cX10_covers 23 = .ok (.iushr, 1) := by decide +kernel
theorem dX10_covers_24 : decode cX10_covers 24 = .ok (.bipush 31, 2) := by decide +kernel
theorem dX10_covers_26 : decode cX10_covers 26 = .ok (.iand, 1) := by decide +kernel
theorem dX10_covers_27 : decode cX10_covers 27 = .ok (.if_icmp .eq 5, 3) := by decide +kernel
theorem dX10_covers_30 : decode cX10_covers 30 = .ok (.iconst 0, 1) := by decide +kernel
theorem dX10_covers_31 : decode cX10_covers 31 = .ok (.ireturn, 1) := by decide +kernel
theorem dX10_covers_32 : decode cX10_covers 32 = .ok (.iinc 2 (-5), 3) := by decide +kernel
theorem dX10_covers_35 : decode cX10_covers 35 = .ok (.goto (-32), 3) := by decide +kernel
theorem dX10_covers_38 : decode cX10_covers 38 = .ok (.iconst 1, 1) := by decide +kernel
theorem dX10_covers_39 : decode cX10_covers 39 = .ok (.ireturn, 1) := by decide +kernel
theorem dX10_moved_0 : decode cX10_moved 0 = .ok (.iload_n 1, 1) := by decide +kernel
theorem dX10_moved_1 : decode cX10_moved 1 = .ok (.invokestatic 18, 3) := by decide +kernel
theorem dX10_moved_4 : decode cX10_moved 4 = .ok (.istore_n 3, 1) := by decide +kernel
theorem dX10_moved_5 : decode cX10_moved 5 = .ok (.iload_n 2, 1) := by decide +kernel
theorem dX10_moved_6 : decode cX10_moved 6 = .ok (.invokestatic 18, 3) := by decide +kernel
theorem dX10_moved_9 : decode cX10_moved 9 = .ok (.istore 4, 2) := by decide +kernel
theorem dX10_moved_11 : decode cX10_moved 11 = .ok (.iload 4, 2) := by decide +kernel
theorem dX10_moved_13 : decode cX10_moved 13 = .ok (.iload_n 0, 1) := by decide +kernel
theorem dX10_moved_14 : decode cX10_moved 14 = .ok (.invokestatic 18, 3) := by decide +kernel
theorem dX10_moved_17 : decode cX10_moved 17 = .ok (.iadd, 1) := by decide +kernel
theorem dX10_moved_18 : decode cX10_moved 18 = .ok (.iload_n 3, 1) := by decide +kernel
theorem dX10_moved_19 : decode cX10_moved 19 = .ok (.isub, 1) := by decide +kernel
theorem dX10_moved_20 : decode cX10_moved 20 = .ok (.istore 5, 2) := by decide +kernel
theorem dX10_moved_22 : decode cX10_moved 22 = .ok (.iload 5, 2) := by decide +kernel
theorem dX10_moved_24 : decode cX10_moved 24 = .ok (.iconst 1, 1) := by decide +kernel
theorem dX10_moved_25 : decode cX10_moved 25 = .ok (.if_icmp .lt 10, 3) := by decide +kernel
theorem dX10_moved_28 : decode cX10_moved 28 = .ok (.iload 5, 2) := by decide +kernel
theorem dX10_moved_30 : decode cX10_moved 30 = .ok (.bipush 6, 2) := by decide +kernel
theorem dX10_moved_32 : decode cX10_moved 32 = .ok (.if_icmp .le 5, 3) := by decide +kernel
theorem dX10_moved_35 : decode cX10_moved 35 = .ok (.iconst (-1), 1) := by decide +kernel
theorem dX10_moved_36 : decode cX10_moved 36 = .ok (.ireturn, 1) := by decide +kernel
theorem dX10_moved_37 : decode cX10_moved 37 = .ok (.iload_n 0, 1) := by decide +kernel
theorem dX10_moved_38 : decode cX10_moved 38 = .ok (.iconst 5, 1) := by decide +kernel
theorem dX10_moved_39 : decode cX10_moved 39 = .ok (.iload_n 3, 1) := by decide +kernel
theorem dX10_moved_40 : decode cX10_moved 40 = .ok (.imul, 1) := by decide +kernel
theorem dX10_moved_41 : decode cX10_moved 41 = .ok (.ishl, 1) := by decide +kernel
theorem dX10_moved_42 : decode cX10_moved 42 = .ok (.ldc 22, 2) := by decide +kernel
theorem dX10_moved_44 : decode cX10_moved 44 = .ok (.iand, 1) := by decide +kernel
theorem dX10_moved_45 : decode cX10_moved 45 = .ok (.istore 6, 2) := by decide +kernel
theorem dX10_moved_47 : decode cX10_moved 47 = .ok (.iload_n 2, 1) := by decide +kernel
theorem dX10_moved_48 : decode cX10_moved 48 = .ok (.iload 6, 2) := by decide +kernel
theorem dX10_moved_50 : decode cX10_moved 50 = .ok (.iconst 5, 1) := by decide +kernel
theorem dX10_moved_51 : decode cX10_moved 51 = .ok (.iload 4, 2) := by decide +kernel
theorem dX10_moved_53 : decode cX10_moved 53 = .ok (.imul, 1) := by decide +kernel
theorem dX10_moved_54 : decode cX10_moved 54 = .ok (.iushr, 1) := by decide +kernel
theorem dX10_moved_55 : decode cX10_moved 55 = .ok (.ior, 1) := by decide +kernel
theorem dX10_moved_56 : decode cX10_moved 56 = .ok (.ireturn, 1) := by decide +kernel
/-- the n-th NAME of a PATH, 0: none -/
def pg (p : Int) (n : Nat) : Int := p / (2 ^ (25 - 5 * n) : Nat) % 32
theorem pg_rng (p : Int) (n : Nat) : 0 ≤ pg p n ∧ pg p n < 32 := by unfold pg; omega
theorem us_all : ∀ i : Nat, i < 6 → (((Int32.ofInt (25 - 5 * (i : Int))).toUInt32 &&& Int32.toUInt32 31).toBitVec % 32).toNat = 25 - 5 * i := by decide +kernel
theorem pg_of {p : Int} (h : 0 ≤ p) (h2 : p < 1073741824) {n : Nat} (hn : n < 6) : gand (gushr p (25 - 5 * (n : Int))) 31 = pg p n := by
  rw [gushr_div h (by omega) _ (25 - 5 * n) (us_all n hn)]
  have h3 : 0 ≤ p / (2 ^ (25 - 5 * n) : Nat) := Int.ediv_nonneg h (Int.natCast_nonneg _)
  have h4 : p / (2 ^ (25 - 5 * n) : Nat) ≤ p := Int.ediv_le_self _ h
  rw [gand_mask h3 (by omega) 5 31 (by decide +kernel) (by decide)]
  rfl
/-- how many of the last k NAMES there are -/
def pNzF (p : Int) : Nat → Int
  | 0 => 0
  | k + 1 => (if pg p (5 - k) = 0 then 0 else 1) + pNzF p k
theorem pNzF_rng (p : Int) : ∀ k, 0 ≤ pNzF p k ∧ pNzF p k ≤ k
  | 0 => ⟨Int.le_refl 0, Int.le_refl 0⟩
  | k + 1 => by have := pNzF_rng p k; unfold pNzF; split <;> omega
/-- a is b, or its first NAMES are those of b: of the last k NAMES -/
def pCovF (a b : Int) : Nat → Bool
  | 0 => true
  | k + 1 => if pg a (5 - k) = 0 then true else if pg a (5 - k) = pg b (5 - k) then pCovF a b k else false
def pCov (a b : Int) : Bool := pCovF a b 6
def pNm (p : Int) : Int := pNzF p 6
def bI (b : Bool) : Int := if b then 1 else 0
theorem sp_X10_namesIn {sh : gS} {M : gM} {p : Int} (hp : 0 ≤ p ∧ p < 1073741824) : gC (gr 0 0) yX10_namesIn cX10_namesIn 3 (some (.int)) [(0, p)] sh M (gPp sh M (0, pNm p)) := by
  refine gC_ofA (lv := [_, _, _]) (by decide +kernel) (Nat.le_of_ble_eq_true rfl) rfl (fun hMw hav => ?_)
  have lp : ∀ (k n : Nat) (i acc : Int), i = (n : Int) → n + k = 6 → 0 ≤ acc → acc ≤ n → acc + pNzF p k = pNm p →
      gA (gr 0 0) yX10_namesIn cX10_namesIn 3 (some (.int)) (gPp sh M (0, pNm p)) (0, 0) 4 [(0, p), (0, acc), (0, i)] [] sh M := by
    intro k
    induction k with
    | zero =>
      intro n i acc hi hn h0 h1 hv
      refine g_iload_n (q0 := 5) (j := 2) rfl dX10_namesIn_4 rfl ?_
      refine g_bipush (q0 := 7) rfl dX10_namesIn_5 (k := ?_)
      refine g_icmp_ge (q0 := 10) (tgt := 33) rfl dX10_namesIn_7 (by decide) (fun h7 => ?_) (fun h7 => ?_)
      · refine g_iload_n (q0 := 34) (j := 1) rfl dX10_namesIn_33 rfl ?_
        refine g_ireturn dX10_namesIn_34 rfl ⟨Nat.zero_le _, Nat.zero_le _⟩ ?_
        exact ⟨by rw [← hv]; simp [pNzF], rfl, rfl⟩
      · omega
    | succ k ih =>
      intro n i acc hi hn h0 h1 hv
      have e5 : 5 - k = n := by omega
      rw [pNzF, e5] at hv
      refine g_iload_n (q0 := 5) (j := 2) rfl dX10_namesIn_4 rfl ?_
      refine g_bipush (q0 := 7) rfl dX10_namesIn_5 (k := ?_)
      refine g_icmp_ge (q0 := 10) (tgt := 33) rfl dX10_namesIn_7 (by decide) (fun h7 => ?_) (fun h7 => ?_)
      · omega
      · refine g_iload_n (q0 := 11) (j := 0) rfl dX10_namesIn_10 rfl ?_
        refine g_bipush (q0 := 13) rfl dX10_namesIn_11 (k := ?_)
        refine g_iconst (q0 := 14) rfl dX10_namesIn_13 (k := ?_)
        refine g_iload_n (q0 := 15) (j := 2) rfl dX10_namesIn_14 rfl ?_
        refine g_imul (q0 := 16) rfl dX10_namesIn_15 (by omega) (by omega) ?_
        refine g_isub (q0 := 17) rfl dX10_namesIn_16 (by omega) (by omega) ?_
        refine g_iushr (q0 := 18) rfl dX10_namesIn_17 ?_
        refine g_bipush (q0 := 20) rfl dX10_namesIn_18 (k := ?_)
        refine g_iand (q0 := 21) rfl dX10_namesIn_20 ?_
        refine g_if_eq (q0 := 24) (tgt := 27) rfl dX10_namesIn_21 (by decide) (fun h21 => ?_) (fun h21 => ?_)
        · rw [hi, pg_of hp.1 hp.2 (by omega)] at h21
          rw [if_pos h21] at hv
          refine g_iinc (q0 := 30) (lv2 := [_, _, _]) rfl dX10_namesIn_27 rfl (by decide) rfl rfl (by omega) (by omega) ?_
          refine g_goto (tgt := 4) dX10_namesIn_30 (by decide) ?_
          exact ih (n + 1) (i + 1) acc (by omega) (by omega) h0 (by omega) (by omega)
        · rw [hi, pg_of hp.1 hp.2 (by omega)] at h21
          rw [if_neg h21] at hv
          refine g_iinc (q0 := 27) (lv2 := [_, _, _]) rfl dX10_namesIn_24 rfl (by decide) rfl rfl (by omega) (by omega) ?_
          refine g_iinc (q0 := 30) (lv2 := [_, _, _]) rfl dX10_namesIn_27 rfl (by decide) rfl rfl (by omega) (by omega) ?_
          refine g_goto (tgt := 4) dX10_namesIn_30 (by decide) ?_
          exact ih (n + 1) (i + 1) (acc + 1) (by omega) (by omega) (by omega) (by omega) (by omega)
  refine g_iconst (q0 := 1) rfl dX10_namesIn_0 (k := ?_)
  refine g_istore_n (q0 := 2) (j := 1) (lv2 := [_, _, _]) rfl dX10_namesIn_1 (by decide) rfl rfl ?_
  refine g_iconst (q0 := 3) rfl dX10_namesIn_2 (k := ?_)
  refine g_istore_n (q0 := 4) (j := 2) (lv2 := [_, _, _]) rfl dX10_namesIn_3 (by decide) rfl rfl ?_
  exact lp 6 0 0 0 rfl rfl (by omega) (by omega) (by rw [pNm]; omega)
theorem sp_X10_covers {sh : gS} {M : gM} {a b : Int} (ha : 0 ≤ a ∧ a < 1073741824) (hb : 0 ≤ b ∧ b < 1073741824) : gC (gr 0 0) yX10_covers cX10_covers 4 (some (.boolean)) [(0, a), (0, b)] sh M (gPp sh M (0, bI (pCov a b))) := by
  refine gC_ofA (lv := [_, _, _, _]) (by decide +kernel) (Nat.le_of_ble_eq_true rfl) rfl (fun hMw hav => ?_)
  have lp : ∀ (k n : Nat) (i : Int) (w : gV), i = 25 - 5 * (n : Int) → n + k = 6 → pCovF a b k = pCov a b → gw w →
      gA (gr 0 0) yX10_covers cX10_covers 4 (some (.boolean)) (gPp sh M (0, bI (pCov a b))) (0, 0) 3 [(0, a), (0, b), (0, i), w] [] sh M := by
    intro k
    induction k with
    | zero =>
      intro n i w hi hn hv hw
      refine g_iload_n (q0 := 4) (j := 2) rfl dX10_covers_3 rfl ?_
      refine g_if_lt (q0 := 7) (tgt := 38) rfl dX10_covers_4 (by decide) (fun h4 => ?_) (fun h4 => ?_)
      · refine g_iconst (q0 := 39) rfl dX10_covers_38 (k := ?_)
        refine g_zreturn dX10_covers_39 rfl (by first | rfl | exact gnz (by omega)) ⟨Nat.zero_le _, Nat.zero_le _⟩ ?_
        exact ⟨by rw [← hv]; rfl, rfl, rfl⟩
      · omega
    | succ k ih =>
      intro n i w hi hn hv hw
      have e5 : 5 - k = n := by omega
      rw [pCovF, e5] at hv
      subst hi
      refine g_iload_n (q0 := 4) (j := 2) rfl dX10_covers_3 rfl ?_
      refine g_if_lt (q0 := 7) (tgt := 38) rfl dX10_covers_4 (by decide) (fun h4 => ?_) (fun h4 => ?_)
      · omega
      · refine g_iload_n (q0 := 8) (j := 0) rfl dX10_covers_7 rfl ?_
        refine g_iload_n (q0 := 9) (j := 2) rfl dX10_covers_8 rfl ?_
        refine g_iushr (q0 := 10) rfl dX10_covers_9 ?_
        refine g_bipush (q0 := 12) rfl dX10_covers_10 (k := ?_)
        refine g_iand (q0 := 13) rfl dX10_covers_12 ?_
        refine g_istore_n (q0 := 14) (j := 3) (lv2 := [_, _, _, _]) rfl dX10_covers_13 (by decide) rfl rfl ?_
        refine g_iload_n (q0 := 15) (j := 3) rfl dX10_covers_14 rfl ?_
        refine g_if_ne (q0 := 18) (tgt := 20) rfl dX10_covers_15 (by decide) (fun h15 => ?_) (fun h15 => ?_)
        · rw [pg_of ha.1 ha.2 (by omega)] at h15
          rw [if_neg h15] at hv
          refine g_iload_n (q0 := 21) (j := 3) rfl dX10_covers_20 rfl ?_
          refine g_iload_n (q0 := 22) (j := 1) rfl dX10_covers_21 rfl ?_
          refine g_iload_n (q0 := 23) (j := 2) rfl dX10_covers_22 rfl ?_
          refine g_iushr (q0 := 24) rfl dX10_covers_23 ?_
          refine g_bipush (q0 := 26) rfl dX10_covers_24 (k := ?_)
          refine g_iand (q0 := 27) rfl dX10_covers_26 ?_
          refine g_icmp_eq (q0 := 30) (tgt := 32) rfl dX10_covers_27 (by decide) (fun h27 => ?_) (fun h27 => ?_)
          · rw [pg_of ha.1 ha.2 (by omega), pg_of hb.1 hb.2 (by omega)] at h27
            rw [if_pos h27] at hv
            refine g_iinc (q0 := 35) (lv2 := [_, _, _, _]) rfl dX10_covers_32 rfl (by decide) rfl rfl (by omega) (by omega) ?_
            refine g_goto (tgt := 3) dX10_covers_35 (by decide) ?_
            exact ih (n + 1) _ _ (by omega) (by omega) hv (gw_to _)
          · rw [pg_of ha.1 ha.2 (by omega), pg_of hb.1 hb.2 (by omega)] at h27
            rw [if_neg h27] at hv
            refine g_iconst (q0 := 31) rfl dX10_covers_30 (k := ?_)
            refine g_zreturn dX10_covers_31 rfl (by first | rfl | exact gnz (by omega)) ⟨Nat.zero_le _, Nat.zero_le _⟩ ?_
            exact ⟨by rw [← hv]; rfl, rfl, rfl⟩
        · rw [pg_of ha.1 ha.2 (by omega)] at h15
          rw [if_pos h15] at hv
          refine g_iconst (q0 := 19) rfl dX10_covers_18 (k := ?_)
          refine g_zreturn dX10_covers_19 rfl (by first | rfl | exact gnz (by omega)) ⟨Nat.zero_le _, Nat.zero_le _⟩ ?_
          exact ⟨by rw [← hv]; rfl, rfl, rfl⟩
  refine g_bipush (q0 := 2) rfl dX10_covers_0 (k := ?_)
  refine g_istore_n (q0 := 3) (j := 2) (lv2 := [_, _, _, _]) rfl dX10_covers_2 (by decide) rfl rfl ?_
  exact lp 6 0 25 _ rfl rfl rfl trivial
/-- a PATH with the NAMES of one place for those of another -/
def pMov (p f t : Int) : Int := if pNm t + pNm p - pNm f < 1 ∨ 6 < pNm t + pNm p - pNm f then -1 else gor t (gushr (gand (gshl p (5 * pNm f)) 1073741823) (5 * pNm t))
theorem pNm_rng (p : Int) : 0 ≤ pNm p ∧ pNm p ≤ 6 := pNzF_rng p 6
theorem sp_X10_moved {sh : gS} {M : gM} {p f t : Int} (hp : 0 ≤ p ∧ p < 1073741824) (hf : 0 ≤ f ∧ f < 1073741824) (ht : 0 ≤ t ∧ t < 1073741824) : gC (gr 1 22) yX10_moved cX10_moved 7 (some (.int)) [(0, p), (0, f), (0, t)] sh M (gPp sh M (0, pMov p f t)) := by
  have h1 := pNm_rng p
  have h2 := pNm_rng f
  have h3 := pNm_rng t
  refine gC_ofA (lv := [_, _, _, _, _, _, _]) (by decide +kernel) (Nat.le_of_ble_eq_true rfl) rfl (fun hMw hav => ?_)
  refine g_iload_n (q0 := 1) (j := 1) rfl dX10_moved_0 rfl ?_
  refine g_callSp (as := [_]) (rest := []) mt_X10_namesIn ms_X10_namesIn ml_X10_18 dX10_moved_1 (q0 := 4) rfl rfl (sp_X10_namesIn hf) rfl ⟨by decide, by decide⟩ (Nat.le_of_ble_eq_true rfl) ⟨Nat.zero_le _, Nat.zero_le _⟩ (fun hwc => ?_)
  refine g_istore_n (q0 := 5) (j := 3) (lv2 := [_, _, _, _, _, _, _]) rfl dX10_moved_4 (by decide) rfl rfl ?_
  refine g_iload_n (q0 := 6) (j := 2) rfl dX10_moved_5 rfl ?_
  refine g_callSp (as := [_]) (rest := []) mt_X10_namesIn ms_X10_namesIn ml_X10_18 dX10_moved_6 (q0 := 9) rfl rfl (sp_X10_namesIn ht) rfl ⟨by decide, by decide⟩ (Nat.le_of_ble_eq_true rfl) ⟨Nat.zero_le _, Nat.zero_le _⟩ (fun hwc => ?_)
  refine g_istore (q0 := 11) (j := 4) (lv2 := [_, _, _, _, _, _, _]) rfl dX10_moved_9 (by decide) rfl rfl ?_
  refine g_iload (q0 := 13) (j := 4) rfl dX10_moved_11 rfl ?_
  refine g_iload_n (q0 := 14) (j := 0) rfl dX10_moved_13 rfl ?_
  refine g_callSp (as := [_]) (rest := [_]) mt_X10_namesIn ms_X10_namesIn ml_X10_18 dX10_moved_14 (q0 := 17) rfl rfl (sp_X10_namesIn hp) rfl ⟨by decide, by decide⟩ (Nat.le_of_ble_eq_true rfl) ⟨Nat.zero_le _, Nat.zero_le _⟩ (fun hwc => ?_)
  refine g_iadd (q0 := 18) rfl dX10_moved_17 (by omega) (by omega) ?_
  refine g_iload_n (q0 := 19) (j := 3) rfl dX10_moved_18 rfl ?_
  refine g_isub (q0 := 20) rfl dX10_moved_19 (by omega) (by omega) ?_
  refine g_istore (q0 := 22) (j := 5) (lv2 := [_, _, _, _, _, _, _]) rfl dX10_moved_20 (by decide) rfl rfl ?_
  refine g_iload (q0 := 24) (j := 5) rfl dX10_moved_22 rfl ?_
  refine g_iconst (q0 := 25) rfl dX10_moved_24 (k := ?_)
  refine g_icmp_lt (q0 := 28) (tgt := 35) rfl dX10_moved_25 (by decide) (fun h25 => ?_) (fun h25 => ?_)
  · refine g_iconst (q0 := 36) rfl dX10_moved_35 (k := ?_)
    refine g_ireturn dX10_moved_36 rfl ⟨Nat.zero_le _, Nat.zero_le _⟩ ?_
    exact ⟨by rw [pMov, if_pos (Or.inl h25)], rfl, rfl⟩
  · refine g_iload (q0 := 30) (j := 5) rfl dX10_moved_28 rfl ?_
    refine g_bipush (q0 := 32) rfl dX10_moved_30 (k := ?_)
    refine g_icmp_le (q0 := 35) (tgt := 37) rfl dX10_moved_32 (by decide) (fun h32 => ?_) (fun h32 => ?_)
    · refine g_iload_n (q0 := 38) (j := 0) rfl dX10_moved_37 rfl ?_
      refine g_iconst (q0 := 39) rfl dX10_moved_38 (k := ?_)
      refine g_iload_n (q0 := 40) (j := 3) rfl dX10_moved_39 rfl ?_
      refine g_imul (q0 := 41) rfl dX10_moved_40 (by omega) (by omega) ?_
      refine g_ishl (q0 := 42) rfl dX10_moved_41 ?_
      refine g_ldc (q0 := 44) (n := 1073741823) rfl co_X10_22 dX10_moved_42 (k := ?_)
      refine g_iand (q0 := 45) rfl dX10_moved_44 ?_
      refine g_istore (q0 := 47) (j := 6) (lv2 := [_, _, _, _, _, _, _]) rfl dX10_moved_45 (by decide) rfl rfl ?_
      refine g_iload_n (q0 := 48) (j := 2) rfl dX10_moved_47 rfl ?_
      refine g_iload (q0 := 50) (j := 6) rfl dX10_moved_48 rfl ?_
      refine g_iconst (q0 := 51) rfl dX10_moved_50 (k := ?_)
      refine g_iload (q0 := 53) (j := 4) rfl dX10_moved_51 rfl ?_
      refine g_imul (q0 := 54) rfl dX10_moved_53 (by omega) (by omega) ?_
      refine g_iushr (q0 := 55) rfl dX10_moved_54 ?_
      refine g_ior (q0 := 56) rfl dX10_moved_55 ?_
      refine g_ireturn dX10_moved_56 rfl ⟨Nat.zero_le _, Nat.zero_le _⟩ ?_
      exact ⟨by rw [pMov, if_neg (by omega)], rfl, rfl⟩
    · refine g_iconst (q0 := 36) rfl dX10_moved_35 (k := ?_)
      refine g_ireturn dX10_moved_36 rfl ⟨Nat.zero_le _, Nat.zero_le _⟩ ?_
      exact ⟨by rw [pMov, if_pos (Or.inr h32)], rfl, rfl⟩
