-- ==== the tape of the class: writing, words, paths
theorem dX9_add_0 : decode cX9_add 0 = .ok (.bipush 24, 2) := by decide +kernel
theorem dX9_add_2 : decode cX9_add 2 = .ok (.istore_n 2, 1) := by decide +kernel
theorem dX9_add_3 : decode cX9_add 3 = .ok (.iload_n 2, 1) := by decide +kernel
theorem dX9_add_4 : decode cX9_add 4 = .ok (.ifCond .lt 42, 3) := by decide +kernel
theorem dX9_add_7 : decode cX9_add 7 = .ok (.aload_n 0, 1) := by decide +kernel
theorem dX9_add_8 : decode cX9_add 8 = .ok (.getfield 15, 3) := by decide +kernel
theorem dX9_add_11 : decode cX9_add 11 = .ok (.sipush 260, 3) := by decide +kernel
theorem dX9_add_14 : decode cX9_add 14 = .ok (.if_icmp .ge 32, 3) := by decide +kernel
theorem dX9_add_17 : decode cX9_add 17 = .ok (.aload_n 0, 1) := by decide +kernel
theorem dX9_add_18 : decode cX9_add 18 = .ok (.getfield 9, 3) := by decide +kernel
theorem dX9_add_21 : decode cX9_add 21 = .ok (.aload_n 0, 1) := by decide +kernel
theorem dX9_add_22 : decode cX9_add 22 = .ok (.getfield 15, 3) := by decide +kernel
theorem dX9_add_25 : decode cX9_add 25 = .ok (.iload_n 1, 1) := by decide +kernel
theorem dX9_add_26 : decode cX9_add 26 = .ok (.iload_n 2, 1) := by decide +kernel
theorem dX9_add_27 : decode cX9_add 27 = .ok (.iushr, 1) := by decide +kernel
theorem dX9_add_28 : decode cX9_add 28 = .ok (.i2b, 1) := by decide +kernel
theorem dX9_add_29 : decode cX9_add 29 = .ok (.bastore, 1) := by decide +kernel
theorem dX9_add_30 : decode cX9_add 30 = .ok (.aload_n 0, 1) := by decide +kernel
theorem dX9_add_31 : decode cX9_add 31 = .ok (.dup, 1) := by decide +kernel
theorem dX9_add_32 : decode cX9_add 32 = .ok (.getfield 15, 3) := by decide +kernel
theorem dX9_add_35 : decode cX9_add 35 = .ok (.iconst 1, 1) := by decide +kernel
theorem dX9_add_36 : decode cX9_add 36 = .ok (.iadd, 1) := by decide +kernel
theorem dX9_add_37 : decode cX9_add 37 = .ok (.putfield 15, 3) := by decide +kernel
theorem dX9_add_40 : decode cX9_add 40 = .ok (.iinc 2 (-8), 3) := by decide +kernel
theorem dX9_add_43 : decode cX9_add 43 = .ok (.goto (-40), 3) := by decide +kernel
theorem dX9_add_46 : decode cX9_add 46 = .ok (.return_, 1) := by decide +kernel
theorem gU_idx {M : gM} {a i v j : Int} (h : j ≠ i) : gU M a i v a j = M a j := by simp [gU, h]
theorem gU_cel {M : gM} {a i v b j : Int} (h : b ≠ a) : gU M a i v b j = M b j := by simp [gU, h]
/-- the tape's bytes from 0 on -/
def tBy (M : gM) (s : List Int) : Prop := s.length ≤ 260 ∧ ∀ (j : Nat) (c : Int), s[j]? = some c → 0 ≤ c ∧ c < 256 ∧ M 2 (j : Int) = sb c
theorem sp_X9_at {sh : gS} {M : gM} {s : List Int} {i c : Int} {j : Nat} (hOK : gOK sh M) (hB : tBy M s) (hj : s[j]? = some c) (hi : i = (j : Int)) :
    gC (gr 0 0) yX9_at cX9_at 2 (some (.int)) [(4, 1), (0, i)] sh M (gPp sh M (0, c)) := by
  have hl := (List.getElem?_eq_some_iff.mp hj).1
  have h1 := hB.1
  obtain ⟨q1, q2, q3⟩ := hB.2 j c hj
  subst hi
  refine gC_ofA (lv := [_, _]) (by decide +kernel) (Nat.le_of_ble_eq_true rfl) rfl (fun hMw hav => ?_)
  refine g_iload_n (q0 := 1) (j := 1) rfl dX9_at_0 rfl ?_
  refine g_if_lt (q0 := 4) (tgt := 24) rfl dX9_at_1 (by decide) (fun h1 => ?_) (fun h1 => ?_)
  · omega
  · refine g_iload_n (q0 := 5) (j := 1) rfl dX9_at_4 rfl ?_
    refine g_sipush (q0 := 8) rfl dX9_at_5 (k := ?_)
    refine g_icmp_ge (q0 := 11) (tgt := 24) rfl dX9_at_8 (by decide) (fun h8 => ?_) (fun h8 => ?_)
    · omega
    · refine g_aload_n (q0 := 12) (j := 0) rfl dX9_at_11 rfl ?_
      refine g_getp (q0 := 15) (b := 2) rfl ff_X9_9 dX9_at_12 rfl hOK (by decide) (sh_1 hOK) rfl (by decide) ?_
      refine g_iload_n (q0 := 16) (j := 1) rfl dX9_at_15 rfl ?_
      refine g_bald (q0 := 17) rfl dX9_at_16 (sh_2 hOK) (by omega) (by omega) ?_
      refine g_sipush (q0 := 20) rfl dX9_at_17 (k := ?_)
      refine g_iand (q0 := 21) rfl dX9_at_20 ?_
      refine g_goto (tgt := 25) dX9_at_21 (by decide) ?_
      refine g_ireturn dX9_at_25 rfl ⟨Nat.zero_le _, Nat.zero_le _⟩ ?_
      exact ⟨by rw [q3, sb_and q1 q2], rfl, rfl⟩
def tBeg (M : gM) (n : Int) : gM := gU (gU (gU M 1 2 0) 1 3 n) 1 4 0
theorem tBeg_in {M : gM} {s : List Int} {n : Nat} (hB : tBy M s) (hn : n ≤ s.length) : tpIn (tBeg M (n : Int)) 0 (s.take n) := by
  have hl : (s.take n).length = n := by rw [List.length_take]; omega
  refine ⟨by simp [tBeg, gU], Int.le_refl 0, by simp [tBeg, gU]; omega, by have := hB.1; omega, fun j c hj => ?_⟩
  have hj2 := (List.getElem?_eq_some_iff.mp hj).1
  rw [List.getElem?_take_of_lt (by omega)] at hj
  obtain ⟨q1, q2, q3⟩ := hB.2 j c hj
  refine ⟨q1, q2, ?_⟩
  rw [Int.zero_add]
  simpa [tBeg, gU] using q3
theorem sp_X9_begin {sh : gS} {M : gM} {s : List Int} {n : Nat} (hOK : gOK sh M) (hB : tBy M s) (hL : M 1 1 = (s.length : Int)) (hn : n ≤ s.length) :
    gC (gr 1 21) yX9_begin cX9_begin 2 none [(4, 1), (0, (n : Int))] sh M (gPm sh (fun r M1 => r = none ∧ M1 = tBeg M (n : Int))) := by
  have h1 := hB.1
  refine gC_ofA (lv := [_, _]) (by decide +kernel) (Nat.le_of_ble_eq_true rfl) rfl (fun hMw hav => ?_)
  refine g_aload_n (q0 := 1) (j := 0) rfl dX9_begin_0 rfl ?_
  refine g_iconst (q0 := 2) rfl dX9_begin_1 (k := ?_)
  refine g_put (q0 := 5) (t := 0) (fi := 2) rfl rfl ff_X9_19 dX9_begin_2 rfl (sh_1 hOK) rfl (fun _ => ⟨rfl, rfl⟩) ?_
  refine g_aload_n (q0 := 6) (j := 0) rfl dX9_begin_5 rfl ?_
  refine g_iload_n (q0 := 7) (j := 1) rfl dX9_begin_6 rfl ?_
  refine g_aload_n (q0 := 8) (j := 0) rfl dX9_begin_7 rfl ?_
  refine g_getf (q0 := 11) (t := 0) (fi := 1) rfl rfl ff_X9_15 dX9_begin_8 rfl (sh_1 hOK) ?_
  try simp (disch := omega) only [gU_same, gU_idx, gU_cel]
  refine g_mmin (q0 := 14) rfl ml_X9_22 ms_J9_min_7cf53 inic_Math mt_J9_min_7cf53.1 dX9_begin_11 (by decide) (Nat.le_of_ble_eq_true rfl) ⟨Nat.zero_le _, Nat.zero_le _⟩ ?_
  refine g_put (q0 := 17) (t := 0) (fi := 3) rfl rfl ff_X9_28 dX9_begin_14 rfl (sh_1 hOK) rfl (fun _ => ⟨rfl, rfl⟩) ?_
  refine g_aload_n (q0 := 18) (j := 0) rfl dX9_begin_17 rfl ?_
  refine g_iconst (q0 := 19) rfl dX9_begin_18 (k := ?_)
  refine g_put (q0 := 22) (t := 0) (fi := 4) rfl rfl ff_X9_31 dX9_begin_19 rfl (sh_1 hOK) rfl (fun _ => ⟨rfl, rfl⟩) ?_
  refine g_return dX9_begin_22 rfl ⟨Nat.zero_le _, Nat.zero_le _⟩ ?_
  rw [hL, if_neg (by omega)]
  exact ⟨rfl, rfl, rfl⟩
/-- byte number k of a word, the highest first -/
def byt (x : Int) (k : Nat) : Int := gand (gushr x (24 - 8 * (k : Int))) 255
theorem byt_sb_all : ∀ (a : BitVec 8), sb ((a.toNat : Nat) : Int) = a.toInt := by decide +kernel
theorem us8_all : ∀ i : Nat, i < 4 → (((Int32.ofInt (24 - 8 * (i : Int))).toUInt32 &&& Int32.toUInt32 31).toBitVec % 32).toNat = 24 - 8 * i := by decide +kernel
theorem g255 (x : Int) : gand x 255 = (((Int32.ofInt x).toBitVec.setWidth 8).toNat : Int) ∧ gi2b x = ((Int32.ofInt x).toBitVec.setWidth 8).toInt := by
  constructor
  · unfold gand
    have e : (Int32.ofInt x &&& Int32.ofInt 255).toBitVec = (((Int32.ofInt x).toBitVec.setWidth 8).setWidth 32) := by
      rw [Int32.toBitVec_and]
      apply BitVec.eq_of_toNat_eq
      rw [BitVec.toNat_and, BitVec.toNat_setWidth, BitVec.toNat_setWidth, show (Int32.ofInt 255).toBitVec.toNat = 2 ^ 8 - 1 from by decide +kernel, Nat.and_two_pow_sub_one_eq_mod]
      omega
    show (Int32.ofInt x &&& Int32.ofInt 255).toBitVec.toInt = _
    rw [e, BitVec.toInt_eq_toNat_of_lt (by rw [BitVec.toNat_setWidth]; have := ((Int32.ofInt x).toBitVec.setWidth 8).isLt; omega), BitVec.toNat_setWidth]
    have := ((Int32.ofInt x).toBitVec.setWidth 8).isLt
    rw [Nat.mod_eq_of_lt (by omega)]
  · unfold gi2b
    rw [Int8.toInt_toInt32]
    show ((Int32.ofInt x).toBitVec.signExtend 8).toInt = _
    rw [BitVec.signExtend_eq_setWidth_of_le _ (by decide)]
theorem i2b_sb (x : Int) : gi2b x = sb (gand x 255) ∧ 0 ≤ gand x 255 ∧ gand x 255 < 256 := by
  obtain ⟨e1, e2⟩ := g255 x
  rw [e1, e2]
  have := ((Int32.ofInt x).toBitVec.setWidth 8).isLt
  exact ⟨(byt_sb_all _).symm, by omega, by omega⟩
theorem i2b_id_all : ∀ (a : BitVec 8), gi2b a.toInt = a.toInt := by decide +kernel
theorem i2b_id {x : Int} (h0 : -128 ≤ x) (h1 : x ≤ 127) : gi2b x = x := by
  have := i2b_id_all (BitVec.ofInt 8 x)
  rw [BitVec.toInt_ofInt, Int.bmod_def] at this
  simp only [Nat.reducePow] at this
  have e : (if x % (256 : Nat) < ((256 : Nat) + 1) / 2 then x % (256 : Nat) else x % (256 : Nat) - (256 : Nat)) = x := by
    split <;> omega
  rwa [e] at this
theorem i2b_2 (x : Int) : gi2b (gi2b x) = gi2b x := by
  rw [(g255 x).2]
  exact i2b_id_all _
theorem i2b_sb2 {c : Int} (h0 : 0 ≤ c) (h1 : c < 256) : gi2b (sb c) = sb c := i2b_id (by unfold sb; split <;> omega) (by unfold sb; split <;> omega)
theorem byt_rng (x : Int) (k : Nat) : 0 ≤ byt x k ∧ byt x k < 256 := (i2b_sb _).2
def fourF (x : Int) : Nat → List Int
  | 0 => []
  | k + 1 => byt x (3 - k) :: fourF x k
def four (x : Int) : List Int := fourF x 4
theorem fourF_len (x : Int) : ∀ k, (fourF x k).length = k
  | 0 => rfl
  | k + 1 => by rw [fourF, List.length_cons, fourF_len x k]
theorem sp_X9_add {sh : gS} {M : gM} {x : Int} {s : List Int} (hOK : gOK sh M) (hB : tBy M s) (hL : M 1 1 = (s.length : Int)) (hn : s.length + 4 ≤ 260) :
    gC (gr 0 0) yX9_add cX9_add 3 none [(4, 1), (0, x)] sh M (gPm sh (fun r M1 => r = none ∧ tBy M1 (s ++ four x) ∧ M1 1 1 = ((s ++ four x).length : Int) ∧ gOK sh M1 ∧ (∀ b : Int, b ≠ 1 → b ≠ 2 → M1 b = M b) ∧ ∀ j : Int, j ≠ 1 → M1 1 j = M 1 j)) := by
  refine gC_ofA (lv := [_, _, _]) (by decide +kernel) (Nat.le_of_ble_eq_true rfl) rfl (fun hMw hav => ?_)
  have lp : ∀ (k n : Nat) (i : Int) (s1 : List Int) (M1 : gM), i = 24 - 8 * (n : Int) → n + k = 4 → s1.length + k ≤ 260 → s1 ++ fourF x k = s ++ four x → tBy M1 s1 → M1 1 1 = (s1.length : Int) → gOK sh M1 → (∀ b : Int, b ≠ 1 → b ≠ 2 → M1 b = M b) → (∀ j : Int, j ≠ 1 → M1 1 j = M 1 j) →
      gA (gr 0 0) yX9_add cX9_add 3 none (gPm sh (fun r M1 => r = none ∧ tBy M1 (s ++ four x) ∧ M1 1 1 = ((s ++ four x).length : Int) ∧ gOK sh M1 ∧ (∀ b : Int, b ≠ 1 → b ≠ 2 → M1 b = M b) ∧ ∀ j : Int, j ≠ 1 → M1 1 j = M 1 j)) (0, 0) 3 [(4, 1), (0, x), (0, i)] [] sh M1 := by
    intro k
    induction k with
    | zero =>
      intro n i s1 M1 hi hn hl hs hB1 hL1 hO e1 e2
      rw [fourF, List.append_nil] at hs
      subst hs
      refine g_iload_n (q0 := 4) (j := 2) rfl dX9_add_3 rfl ?_
      refine g_if_lt (q0 := 7) (tgt := 46) rfl dX9_add_4 (by decide) (fun h4 => ?_) (fun h4 => ?_)
      · refine g_return dX9_add_46 rfl ⟨Nat.zero_le _, Nat.zero_le _⟩ ?_
        exact ⟨rfl, rfl, hB1, hL1, hO, e1, e2⟩
      · omega
    | succ k ih =>
      intro n i s1 M1 hi hn hl hs hB1 hL1 hO e1 e2
      have e5 : 3 - k = n := by omega
      rw [fourF, e5] at hs
      refine g_iload_n (q0 := 4) (j := 2) rfl dX9_add_3 rfl ?_
      refine g_if_lt (q0 := 7) (tgt := 46) rfl dX9_add_4 (by decide) (fun h4 => ?_) (fun h4 => ?_)
      · omega
      · refine g_aload_n (q0 := 8) (j := 0) rfl dX9_add_7 rfl ?_
        refine g_getf (q0 := 11) (t := 0) (fi := 1) rfl rfl ff_X9_15 dX9_add_8 rfl (sh_1 hO) ?_
        refine g_sipush (q0 := 14) rfl dX9_add_11 (k := ?_)
        refine g_icmp_ge (q0 := 17) (tgt := 46) rfl dX9_add_14 (by decide) (fun h14 => ?_) (fun h14 => ?_)
        · omega
        · refine g_aload_n (q0 := 18) (j := 0) rfl dX9_add_17 rfl ?_
          refine g_getp (q0 := 21) (b := 2) rfl ff_X9_9 dX9_add_18 rfl hO (by decide) (sh_1 hO) rfl (by decide) ?_
          refine g_aload_n (q0 := 22) (j := 0) rfl dX9_add_21 rfl ?_
          refine g_getf (q0 := 25) (t := 0) (fi := 1) rfl rfl ff_X9_15 dX9_add_22 rfl (sh_1 hO) ?_
          refine g_iload_n (q0 := 26) (j := 1) rfl dX9_add_25 rfl ?_
          refine g_iload_n (q0 := 27) (j := 2) rfl dX9_add_26 rfl ?_
          refine g_iushr (q0 := 28) rfl dX9_add_27 ?_
          refine g_i2b (q0 := 29) rfl dX9_add_28 ?_
          refine g_bast (q0 := 30) rfl dX9_add_29 (sh_2 hO) (by omega) (by omega) ?_
          refine g_aload_n (q0 := 31) (j := 0) rfl dX9_add_30 rfl ?_
          refine g_dup (q0 := 32) rfl dX9_add_31 (k := ?_)
          refine g_getf (q0 := 35) (t := 0) (fi := 1) rfl rfl ff_X9_15 dX9_add_32 rfl (sh_1 hO) ?_
          try simp (disch := omega) only [gU_same, gU_idx, gU_cel]
          refine g_iconst (q0 := 36) rfl dX9_add_35 (k := ?_)
          refine g_iadd (q0 := 37) rfl dX9_add_36 (by omega) (by omega) ?_
          refine g_put (q0 := 40) (t := 0) (fi := 1) rfl rfl ff_X9_15 dX9_add_37 rfl (sh_1 hO) rfl (fun _ => ⟨rfl, rfl⟩) ?_
          refine g_iinc (q0 := 43) (lv2 := [_, _, _]) rfl dX9_add_40 rfl (by decide) rfl rfl (by omega) (by omega) ?_
          refine g_goto (tgt := 3) dX9_add_43 (by decide) ?_
          obtain ⟨f1, f2, f3⟩ := i2b_sb (gushr x (24 - 8 * (n : Int)))
          have hb := gU_cell M1 (gi2b (gushr x i)) (M1 1 1) (show (1 : Int) ≠ 2 by decide)
          refine ih (n + 1) _ (s1 ++ [byt x n]) _ (by omega) (by omega) (by simp only [List.length_append, List.length_cons, List.length_nil]; omega) (by rw [List.append_assoc]; exact hs) ?_ ?_ ?_ ?_ ?_
          · refine ⟨by simp only [List.length_append, List.length_cons, List.length_nil]; omega, fun j c hj => ?_⟩
            rw [gU_cell _ _ _ (by decide)]
            rcases Nat.lt_trichotomy j s1.length with z | z | z
            · rw [List.getElem?_append_left z] at hj
              obtain ⟨q1, q2, q3⟩ := hB1.2 j c hj
              refine ⟨q1, q2, ?_⟩
              rw [← q3, hL1]
              simp only [gU]
              rw [if_neg (by omega)]
            · rw [List.getElem?_append_right (by omega), show j - s1.length = 0 by omega] at hj
              cases hj
              refine ⟨f2, f3, ?_⟩
              rw [hL1, z, gU_same, hi, i2b_2, f1]
              rfl
            · have := (List.getElem?_eq_some_iff.mp hj).1
              simp only [List.length_append, List.length_cons, List.length_nil] at this
              omega
          · rw [gU_same, hL1]
            simp only [List.length_append, List.length_cons, List.length_nil]
            omega
          · exact gOK_o (f := 1) (gOK_b hO (sh_2 hO)) (sh_1 hO) rfl rfl
          · intro b b1 b2
            rw [gU_cell _ _ _ b1, gU_cell _ _ _ b2]
            exact e1 b b1 b2
          · intro j hj
            rw [← e2 j hj]
            simp only [gU]
            rw [if_neg (by omega), if_neg (by omega)]
  refine g_bipush (q0 := 2) rfl dX9_add_0 (k := ?_)
  refine g_istore_n (q0 := 3) (j := 2) (lv2 := [_, _, _]) rfl dX9_add_2 (by decide) rfl rfl ?_
  exact lp 4 0 24 s M rfl rfl (by omega) rfl hB hL hOK (fun b _ _ => rfl) (fun j _ => rfl)
