-- ==== a COMMIT in the making: places moved
theorem gand_30 (x : Int) : 0 ≤ gand x 1073741823 ∧ gand x 1073741823 < 1073741824 := by
  have e : (Int32.ofInt x &&& Int32.ofInt 1073741823).toBitVec.toNat = (Int32.ofInt x).toBitVec.toNat % 2 ^ 30 := by
    rw [Int32.toBitVec_and, BitVec.toNat_and, show (Int32.ofInt 1073741823).toBitVec.toNat = 2 ^ 30 - 1 from by decide +kernel, Nat.and_two_pow_sub_one_eq_mod]
  unfold gand
  show 0 ≤ (Int32.ofInt x &&& Int32.ofInt 1073741823).toBitVec.toInt ∧ (Int32.ofInt x &&& Int32.ofInt 1073741823).toBitVec.toInt < _
  rw [BitVec.toInt_eq_toNat_of_lt (by rw [e]; omega), e]
  omega
theorem us5_all : ∀ i : Nat, i ≤ 6 → (((Int32.ofInt (5 * (i : Int))).toUInt32 &&& Int32.toUInt32 31).toBitVec % 32).toNat = 5 * i := by decide +kernel
theorem pMov_rng {p f t : Int} (ht : 0 ≤ t ∧ t < 1073741824) : pMov p f t = -1 ∨ (0 ≤ pMov p f t ∧ pMov p f t < 1073741824) := by
  unfold pMov
  split
  · exact Or.inl rfl
  · right
    obtain ⟨g0, g1⟩ := gand_30 (gshl p (5 * pNm f))
    have hn := pNm_rng t
    obtain ⟨n, hn2⟩ : ∃ n : Nat, pNm t = (n : Int) := ⟨(pNm t).toNat, by omega⟩
    rw [hn2, gushr_div g0 (by omega) _ (5 * n) (us5_all n (by omega))]
    have h3 : 0 ≤ gand (gshl p (5 * pNm f)) 1073741823 / (2 ^ (5 * n) : Nat) := Int.ediv_nonneg g0 (Int.natCast_nonneg _)
    have h4 : gand (gshl p (5 * pNm f)) 1073741823 / (2 ^ (5 * n) : Nat) ≤ gand (gshl p (5 * pNm f)) 1073741823 := Int.ediv_le_self _ g0
    rw [gor_nat ht.1 h3 (by omega) (by omega)]
    have : t.toNat ||| (gand (gshl p (5 * pNm f)) 1073741823 / (2 ^ (5 * n) : Nat)).toNat < 2 ^ 30 := Nat.or_lt_two_pow (by omega) (by omega)
    omega
theorem tSuf_congr {M M1 : gM} {t i : Int} {fs : List gF} (h : tSuf M t i fs) (h0 : M1 t = M t) (h1 : M1 (t + 1) = M (t + 1)) (h2 : M1 (t + 2) = M (t + 2)) : tSuf M1 t i fs := by
  obtain ⟨c, d, e⟩ := h
  refine ⟨c, by rw [h0]; exact d, fun j x hx => ?_⟩
  rw [h1, h2]
  exact e j x hx
def tMvBad (f t : Int) : List gF → Bool
  | [] => false
  | g :: r => if pCov f g.1 then if pMov g.1 f t < 0 then true else tMvBad f t r else tMvBad f t r
def tMvIn (f t : Int) : List gF → List gF → List gF
  | [], acc => acc
  | g :: r, acc => tMvIn f t r (if pCov f g.1 then tPut (pMov g.1 f t) g.2 acc else acc)
def dMov (f t : Int) (fs : List gF) : Int × List gF :=
  if 0 < tCnt t fs ∨ pCov f t = true ∨ tAhead t fs = true then (7, fs) else if tMvBad f t fs = true then (5, fs) else (0, tMvIn f t fs (fs.filter (fun g => !pCov f g.1)))
theorem sp_X2_moveAll {sh : gS} {M : gM} {a f t : Int} {d : kC} (hOK : gOK sh M) (hD : dOk sh M a d) (hf : 0 ≤ f ∧ f < 1073741824) (ht : 0 ≤ t ∧ t < 1073741824) :
    gC (gr 2 89) yX2_moveAll cX2_moveAll 4 (some (.int)) [(4, a), (0, f), (0, t)] sh M (gPm sh (fun r M1 => r = some (0, (dMov f t (kFs d)).1) ∧ dPost sh M a (dFs d (dMov f t (kFs d)).2) M1)) := by
  have hD0 := hD
  obtain ⟨s0, d1, d2, d3, d4, d5, d6, d7, d8, d9⟩ := hD
  obtain ⟨s1, s2, s3, s4, s5, s6, s7⟩ := id s0
  obtain ⟨s8, s9, s10, s11⟩ := id s3
  obtain ⟨z8, z9, z10, z11⟩ := id s5
  have hc := tOk_c d4
  have hT := d4.2.2.1
  have r2 := tCnt_rng f (kFs d)
  have r3 := tCnt_fil f (kFs d)
  generalize hQ : gPm sh (fun (r : Option gV) M1 => r = some (0, (dMov f t (kFs d)).1) ∧ dPost sh M a (dFs d (dMov f t (kFs d)).2) M1) = Q
  have h30 : (0 < tCnt t (kFs d) ∨ pCov f t = true ∨ tAhead t (kFs d) = true) → gA (gr 2 89) yX2_moveAll cX2_moveAll 4 (some (.int)) Q (0, 0) 30 [(4, a), (0, f), (0, t), (9, 0)] [] sh M := by
    intro h
    refine g_bipush (q0 := 32) rfl dX2_moveAll_30 (k := ?_)
    refine g_ireturn dX2_moveAll_32 rfl ⟨Nat.zero_le _, Nat.zero_le _⟩ ?_
    subst hQ
    rw [dMov, if_pos h]
    exact ⟨rfl, rfl, hD0, hOK, fun _ _ => rfl⟩
  have lq : ∀ (suf pre : List gF) (i : Int) (gs : List gF) (M1 : gM), ¬ (0 < tCnt t (kFs d) ∨ pCov f t = true ∨ tAhead t (kFs d) = true) → tMvBad f t (kFs d) = false → tMvBad f t suf = false → kFs d = pre ++ suf → i = (pre.length : Int) → tSuf M1 (a + 6) i suf → tMvIn f t suf gs = tMvIn f t (kFs d) ((kFs d).filter (fun g => !pCov f g.1)) → (gs.length : Int) + tCnt f suf ≤ 32 → tOk sh M1 (a + 2) 32 gs → gOK sh M1 → (∀ b : Int, b < a + 2 ∨ a + 8 < b ∨ b = a + 5 → M1 b = M b) →
      gA (gr 2 89) yX2_moveAll cX2_moveAll 4 (some (.int)) Q (0, 0) 108 [(4, a), (0, f), (0, t), (0, i)] [] sh M1 := by
    intro suf
    induction suf with
    | nil =>
      intro pre i gs M1 n1 n2 n3 e1 e2 hS hv hlen hT1 hO hF
      have h0 := tSuf_nil hS
      refine g_iload_n (q0 := 109) (j := 3) rfl dX2_moveAll_108 rfl ?_
      refine g_aload_n (q0 := 110) (j := 0) rfl dX2_moveAll_109 rfl ?_
      refine g_getp (q0 := 113) (b := a + 6) rfl ff_X2_28 dX2_moveAll_110 rfl hO (by omega) (by assumption) rfl rfl ?_
      refine g_getf (q0 := 116) (t := 0) (fi := 2) rfl rfl ff_X2_35 dX2_moveAll_113 rfl (by assumption) ?_
      refine g_icmp_ge (q0 := 119) (tgt := 171) rfl dX2_moveAll_116 (by decide) (fun h116 => ?_) (fun h116 => ?_)
      · refine g_iconst (q0 := 172) rfl dX2_moveAll_171 (k := ?_)
        refine g_ireturn dX2_moveAll_172 rfl ⟨Nat.zero_le _, Nat.zero_le _⟩ ?_
        subst hQ
        rw [dMov, if_neg n1, if_neg (by rw [n2]; decide), ← hv]
        exact ⟨rfl, rfl, dOk_tree hD0 hT1 (fun b b0 b1 b2 _ => hF b (by omega)), hO, fun b hb => hF b (by omega)⟩
      · omega
    | cons g r ih =>
      intro pre i gs M1 n1 n2 n3 e1 e2 hS hv hlen hT1 hO hF
      have hl9 : (kFs d).length = pre.length + r.length + 1 := by rw [e1]; simp; omega
      obtain ⟨k0, k1, k2, k3, k4, k5⟩ := tSuf_cons hS
      rw [tMvIn] at hv
      rw [tCnt] at hlen
      rw [tMvBad] at n3
      have rr := tCnt_rng f r
      refine g_iload_n (q0 := 109) (j := 3) rfl dX2_moveAll_108 rfl ?_
      refine g_aload_n (q0 := 110) (j := 0) rfl dX2_moveAll_109 rfl ?_
      refine g_getp (q0 := 113) (b := a + 6) rfl ff_X2_28 dX2_moveAll_110 rfl hO (by omega) (by assumption) rfl rfl ?_
      refine g_getf (q0 := 116) (t := 0) (fi := 2) rfl rfl ff_X2_35 dX2_moveAll_113 rfl (by assumption) ?_
      refine g_icmp_ge (q0 := 119) (tgt := 171) rfl dX2_moveAll_116 (by decide) (fun h116 => ?_) (fun h116 => ?_)
      · omega
      · refine g_iload_n (q0 := 120) (j := 1) rfl dX2_moveAll_119 rfl ?_
        refine g_aload_n (q0 := 121) (j := 0) rfl dX2_moveAll_120 rfl ?_
        refine g_getp (q0 := 124) (b := a + 6) rfl ff_X2_28 dX2_moveAll_121 rfl hO (by omega) (by assumption) rfl rfl ?_
        refine g_getp (q0 := 127) (b := a + 6 + 1) rfl ff_X2_161 dX2_moveAll_124 rfl hO (by omega) (by assumption) rfl rfl ?_
        refine g_iload_n (q0 := 128) (j := 3) rfl dX2_moveAll_127 rfl ?_
        refine g_iald (q0 := 129) rfl dX2_moveAll_128 (by assumption) (by omega) (by omega) ?_
        rw [k2]
        refine g_callSp (as := [_, _]) (rest := []) mt_X10_covers ms_X10_covers ml_X2_157 dX2_moveAll_129 (q0 := 132) rfl rfl (sp_X10_covers hf k4) rfl ⟨by decide, by decide⟩ (Nat.le_of_ble_eq_true rfl) ⟨Nat.zero_le _, Nat.zero_le _⟩ (fun hwc => ?_)
        refine g_if_eq (q0 := 135) (tgt := 165) rfl dX2_moveAll_132 (by decide) (fun h132 => ?_) (fun h132 => ?_)
        · have hb := bI_f h132
          rw [if_neg (by rw [hb]; decide)] at hv n3
          rw [hb] at hlen
          have hb0 : bI false = 0 := rfl
          rw [hb0] at hlen
          clear hb
          refine g_iinc (q0 := 168) (lv2 := [_, _, _, _]) rfl dX2_moveAll_165 rfl (by decide) rfl rfl (by omega) (by omega) ?_
          refine g_goto (tgt := 108) dX2_moveAll_168 (by decide) ?_
          exact ih (pre ++ [g]) (i + 1) gs M1 n1 n2 n3 (by rw [e1]; simp) (by simp; omega) k5 hv (by omega) hT1 hO hF
        · have hb := bI_t h132
          rw [if_pos hb] at hv n3
          rw [hb] at hlen
          have hb0 : bI true = 1 := rfl
          rw [hb0] at hlen
          clear hb
          have hm : ¬ pMov g.1 f t < 0 := by
            intro q
            rw [if_pos q] at n3
            exact absurd n3 (by decide)
          rw [if_neg hm] at n3
          have hmr := pMov_rng (p := g.1) (f := f) ht
          have hpl := (tPut_len (pMov g.1 f t) g.2 gs).1
          refine g_aload_n (q0 := 136) (j := 0) rfl dX2_moveAll_135 rfl ?_
          refine g_getp (q0 := 139) (b := a + 2) rfl ff_X2_20 dX2_moveAll_136 rfl hO (by omega) (by assumption) rfl rfl ?_
          refine g_aload_n (q0 := 140) (j := 0) rfl dX2_moveAll_139 rfl ?_
          refine g_getp (q0 := 143) (b := a + 6) rfl ff_X2_28 dX2_moveAll_140 rfl hO (by omega) (by assumption) rfl rfl ?_
          refine g_getp (q0 := 146) (b := a + 6 + 1) rfl ff_X2_161 dX2_moveAll_143 rfl hO (by omega) (by assumption) rfl rfl ?_
          refine g_iload_n (q0 := 147) (j := 3) rfl dX2_moveAll_146 rfl ?_
          refine g_iald (q0 := 148) rfl dX2_moveAll_147 (by assumption) (by omega) (by omega) ?_
          refine g_iload_n (q0 := 149) (j := 1) rfl dX2_moveAll_148 rfl ?_
          refine g_iload_n (q0 := 150) (j := 2) rfl dX2_moveAll_149 rfl ?_
          rw [k2]
          refine g_callSp (as := [_, _, _]) (rest := [_]) mt_X10_moved ms_X10_moved ml_X2_163 dX2_moveAll_150 (q0 := 153) rfl rfl (sp_X10_moved k4 hf ht) rfl ⟨by decide, by decide⟩ (Nat.le_of_ble_eq_true rfl) ⟨Nat.zero_le _, Nat.zero_le _⟩ (fun hwc => ?_)
          refine g_aload_n (q0 := 154) (j := 0) rfl dX2_moveAll_153 rfl ?_
          refine g_getp (q0 := 157) (b := a + 6) rfl ff_X2_28 dX2_moveAll_154 rfl hO (by omega) (by assumption) rfl rfl ?_
          refine g_getp (q0 := 160) (b := a + 6 + 2) rfl ff_X2_167 dX2_moveAll_157 rfl hO (by omega) (by assumption) rfl rfl ?_
          refine g_iload_n (q0 := 161) (j := 3) rfl dX2_moveAll_160 rfl ?_
          refine g_iald (q0 := 162) rfl dX2_moveAll_161 (by assumption) (by omega) (by omega) ?_
          rw [k3]
          refine g_callVm (as := [_, _]) (rest := []) mt_X10_put mi_X10_put se_X10_put ml_X2_154 dX2_moveAll_162 (q0 := 165) rfl rfl (by assumption) rfl rfl (sp_X10_put hO hT1 (show 0 ≤ pMov g.1 f t ∧ pMov g.1 f t < 1073741824 by omega) (by omega)) rfl ⟨by decide, by decide⟩ (Nat.le_of_ble_eq_true rfl) ⟨Nat.zero_le _, Nat.zero_le _⟩ (fun r2 M2 hP2 hw2 hMw2 => ?_)
          obtain ⟨rfl, t1, hO2, t2⟩ := hP2
          refine g_iinc (q0 := 168) (lv2 := [_, _, _, _]) rfl dX2_moveAll_165 rfl (by decide) rfl rfl (by omega) (by omega) ?_
          refine g_goto (tgt := 108) dX2_moveAll_168 (by decide) ?_
          exact ih (pre ++ [g]) (i + 1) _ M2 n1 n2 n3 (by rw [e1]; simp) (by simp; omega) (tSuf_congr k5 (t2 _ (by omega) (by omega) (by omega)) (t2 _ (by omega) (by omega) (by omega)) (t2 _ (by omega) (by omega) (by omega))) hv (by omega) t1 hO2 (fun b hb => by rw [t2 b (by omega) (by omega) (by omega), hF b hb])
  have lp : ∀ (suf pre : List gF) (i : Int), ¬ (0 < tCnt t (kFs d) ∨ pCov f t = true ∨ tAhead t (kFs d) = true) → kFs d = pre ++ suf → i = (pre.length : Int) → tSuf M (a + 2) i suf → tMvBad f t suf = tMvBad f t (kFs d) →
      gA (gr 2 89) yX2_moveAll cX2_moveAll 4 (some (.int)) Q (0, 0) 35 [(4, a), (0, f), (0, t), (0, i)] [] sh M := by
    intro suf
    induction suf with
    | nil =>
      intro pre i n1 e1 e2 hS hv
      have h0 := tSuf_nil hS
      refine g_iload_n (q0 := 36) (j := 3) rfl dX2_moveAll_35 rfl ?_
      refine g_aload_n (q0 := 37) (j := 0) rfl dX2_moveAll_36 rfl ?_
      refine g_getp (q0 := 40) (b := a + 2) rfl ff_X2_20 dX2_moveAll_37 rfl hOK (by omega) (by assumption) rfl rfl ?_
      refine g_getf (q0 := 43) (t := 0) (fi := 2) rfl rfl ff_X2_35 dX2_moveAll_40 rfl (by assumption) ?_
      refine g_icmp_ge (q0 := 46) (tgt := 87) rfl dX2_moveAll_43 (by decide) (fun h43 => ?_) (fun h43 => ?_)
      · refine g_aload_n (q0 := 88) (j := 0) rfl dX2_moveAll_87 rfl ?_
        refine g_getp (q0 := 91) (b := a + 6) rfl ff_X2_28 dX2_moveAll_88 rfl hOK (by omega) (by assumption) rfl rfl ?_
        refine g_aload_n (q0 := 92) (j := 0) rfl dX2_moveAll_91 rfl ?_
        refine g_getp (q0 := 95) (b := a + 2) rfl ff_X2_20 dX2_moveAll_92 rfl hOK (by omega) (by assumption) rfl rfl ?_
        refine g_callVm (as := [_]) (rest := []) mt_X10_copy mi_X10_copy se_X10_copy ml_X2_85 dX2_moveAll_95 (q0 := 98) rfl rfl (by assumption) rfl rfl (sp_X10_copy (fs := []) hOK s5 (by decide) d4 (by omega) (by omega)) rfl ⟨by decide, by decide⟩ (Nat.le_of_ble_eq_true rfl) ⟨Nat.zero_le _, Nat.zero_le _⟩ (fun r1 M1 hP1 hw1 hMw1 => ?_)
        obtain ⟨rfl, t1, hO1, t2⟩ := hP1
        have d4b := tOk_congr d4 (t2 (a + 2) (by omega) (by omega) (by omega)) (t2 (a + 2 + 1) (by omega) (by omega) (by omega)) (t2 (a + 2 + 2) (by omega) (by omega) (by omega))
        refine g_aload_n (q0 := 99) (j := 0) rfl dX2_moveAll_98 rfl ?_
        refine g_getp (q0 := 102) (b := a + 2) rfl ff_X2_20 dX2_moveAll_99 rfl hO1 (by omega) (by assumption) rfl rfl ?_
        refine g_iload_n (q0 := 103) (j := 1) rfl dX2_moveAll_102 rfl ?_
        refine g_callVm (as := [_]) (rest := []) mt_X10_removeAt mi_X10_removeAt se_X10_removeAt ml_X2_142 dX2_moveAll_103 (q0 := 106) rfl rfl (by assumption) rfl rfl (sp_X10_removeAt hO1 d4b hf) rfl ⟨by decide, by decide⟩ (Nat.le_of_ble_eq_true rfl) ⟨Nat.zero_le _, Nat.zero_le _⟩ (fun r2 M2 hP2 hw2 hMw2 => ?_)
        obtain ⟨rfl, t3, hO2, t4⟩ := hP2
        refine g_iconst (q0 := 107) rfl dX2_moveAll_106 (k := ?_)
        refine g_istore_n (q0 := 108) (j := 3) (lv2 := [_, _, _, _]) rfl dX2_moveAll_107 (by decide) rfl rfl ?_
        have hb : tMvBad f t (kFs d) = false := by rw [← hv]; rfl
        refine lq (kFs d) [] 0 _ M2 n1 hb hb rfl rfl (tSuf_congr t1.2.2.1 (t4 _ (by omega) (by omega) (by omega)) (t4 _ (by omega) (by omega) (by omega)) (t4 _ (by omega) (by omega) (by omega))) rfl (by omega) t3 hO2 (fun b hb => by rw [t4 b (by omega) (by omega) (by omega), t2 b (by omega) (by omega) (by omega)])
      · omega
    | cons g r ih =>
      intro pre i n1 e1 e2 hS hv
      have hl9 : (kFs d).length = pre.length + r.length + 1 := by rw [e1]; simp; omega
      obtain ⟨k0, k1, k2, k3, k4, k5⟩ := tSuf_cons hS
      rw [tMvBad] at hv
      refine g_iload_n (q0 := 36) (j := 3) rfl dX2_moveAll_35 rfl ?_
      refine g_aload_n (q0 := 37) (j := 0) rfl dX2_moveAll_36 rfl ?_
      refine g_getp (q0 := 40) (b := a + 2) rfl ff_X2_20 dX2_moveAll_37 rfl hOK (by omega) (by assumption) rfl rfl ?_
      refine g_getf (q0 := 43) (t := 0) (fi := 2) rfl rfl ff_X2_35 dX2_moveAll_40 rfl (by assumption) ?_
      refine g_icmp_ge (q0 := 46) (tgt := 87) rfl dX2_moveAll_43 (by decide) (fun h43 => ?_) (fun h43 => ?_)
      · omega
      · refine g_iload_n (q0 := 47) (j := 1) rfl dX2_moveAll_46 rfl ?_
        refine g_aload_n (q0 := 48) (j := 0) rfl dX2_moveAll_47 rfl ?_
        refine g_getp (q0 := 51) (b := a + 2) rfl ff_X2_20 dX2_moveAll_48 rfl hOK (by omega) (by assumption) rfl rfl ?_
        refine g_getp (q0 := 54) (b := a + 2 + 1) rfl ff_X2_161 dX2_moveAll_51 rfl hOK (by omega) (by assumption) rfl rfl ?_
        refine g_iload_n (q0 := 55) (j := 3) rfl dX2_moveAll_54 rfl ?_
        refine g_iald (q0 := 56) rfl dX2_moveAll_55 (by assumption) (by omega) (by omega) ?_
        rw [k2]
        refine g_callSp (as := [_, _]) (rest := []) mt_X10_covers ms_X10_covers ml_X2_157 dX2_moveAll_56 (q0 := 59) rfl rfl (sp_X10_covers hf k4) rfl ⟨by decide, by decide⟩ (Nat.le_of_ble_eq_true rfl) ⟨Nat.zero_le _, Nat.zero_le _⟩ (fun hwc => ?_)
        refine g_if_eq (q0 := 62) (tgt := 81) rfl dX2_moveAll_59 (by decide) (fun h59 => ?_) (fun h59 => ?_)
        · have hb := bI_f h59
          rw [if_neg (by rw [hb]; decide)] at hv
          refine g_iinc (q0 := 84) (lv2 := [_, _, _, _]) rfl dX2_moveAll_81 rfl (by decide) rfl rfl (by omega) (by omega) ?_
          refine g_goto (tgt := 35) dX2_moveAll_84 (by decide) ?_
          exact ih (pre ++ [g]) (i + 1) n1 (by rw [e1]; simp) (by simp; omega) k5 hv
        · have hb := bI_t h59
          rw [if_pos hb] at hv
          refine g_aload_n (q0 := 63) (j := 0) rfl dX2_moveAll_62 rfl ?_
          refine g_getp (q0 := 66) (b := a + 2) rfl ff_X2_20 dX2_moveAll_63 rfl hOK (by omega) (by assumption) rfl rfl ?_
          refine g_getp (q0 := 69) (b := a + 2 + 1) rfl ff_X2_161 dX2_moveAll_66 rfl hOK (by omega) (by assumption) rfl rfl ?_
          refine g_iload_n (q0 := 70) (j := 3) rfl dX2_moveAll_69 rfl ?_
          refine g_iald (q0 := 71) rfl dX2_moveAll_70 (by assumption) (by omega) (by omega) ?_
          refine g_iload_n (q0 := 72) (j := 1) rfl dX2_moveAll_71 rfl ?_
          refine g_iload_n (q0 := 73) (j := 2) rfl dX2_moveAll_72 rfl ?_
          rw [k2]
          refine g_callSp (as := [_, _, _]) (rest := []) mt_X10_moved ms_X10_moved ml_X2_163 dX2_moveAll_73 (q0 := 76) rfl rfl (sp_X10_moved k4 hf ht) rfl ⟨by decide, by decide⟩ (Nat.le_of_ble_eq_true rfl) ⟨Nat.zero_le _, Nat.zero_le _⟩ (fun hwc => ?_)
          refine g_if_ge (q0 := 79) (tgt := 81) rfl dX2_moveAll_76 (by decide) (fun h76 => ?_) (fun h76 => ?_)
          · rw [if_neg (by omega)] at hv
            refine g_iinc (q0 := 84) (lv2 := [_, _, _, _]) rfl dX2_moveAll_81 rfl (by decide) rfl rfl (by omega) (by omega) ?_
            refine g_goto (tgt := 35) dX2_moveAll_84 (by decide) ?_
            exact ih (pre ++ [g]) (i + 1) n1 (by rw [e1]; simp) (by simp; omega) k5 hv
          · rw [if_pos (by omega)] at hv
            refine g_iconst (q0 := 80) rfl dX2_moveAll_79 (k := ?_)
            refine g_ireturn dX2_moveAll_80 rfl ⟨Nat.zero_le _, Nat.zero_le _⟩ ?_
            subst hQ
            rw [dMov, if_neg n1, if_pos hv.symm]
            exact ⟨rfl, rfl, hD0, hOK, fun _ _ => rfl⟩
  refine gC_ofA (lv := [_, _, _, _]) (by decide +kernel) (Nat.le_of_ble_eq_true rfl) rfl (fun hMw hav => ?_)
  refine g_aload_n (q0 := 1) (j := 0) rfl dX2_moveAll_0 rfl ?_
  refine g_getp (q0 := 4) (b := a + 2) rfl ff_X2_20 dX2_moveAll_1 rfl hOK (by omega) (by assumption) rfl rfl ?_
  refine g_iload_n (q0 := 5) (j := 2) rfl dX2_moveAll_4 rfl ?_
  refine g_callVp (as := [_]) (rest := []) mt_X10_filesAt mi_X10_filesAt se_X10_filesAt ml_X2_136 dX2_moveAll_5 (q0 := 8) rfl rfl (by assumption) rfl rfl (sp_X10_filesAt hOK d4 ht) rfl ⟨by decide, by decide⟩ (Nat.le_of_ble_eq_true rfl) ⟨Nat.zero_le _, Nat.zero_le _⟩ (fun hwc => ?_)
  refine g_if_gt (q0 := 11) (tgt := 30) rfl dX2_moveAll_8 (by decide) (fun h8 => ?_) (fun h8 => ?_)
  · exact h30 (Or.inl h8)
  · refine g_iload_n (q0 := 12) (j := 1) rfl dX2_moveAll_11 rfl ?_
    refine g_iload_n (q0 := 13) (j := 2) rfl dX2_moveAll_12 rfl ?_
    refine g_callSp (as := [_, _]) (rest := []) mt_X10_covers ms_X10_covers ml_X2_157 dX2_moveAll_13 (q0 := 16) rfl rfl (sp_X10_covers hf ht) rfl ⟨by decide, by decide⟩ (Nat.le_of_ble_eq_true rfl) ⟨Nat.zero_le _, Nat.zero_le _⟩ (fun hwc => ?_)
    refine g_if_ne (q0 := 19) (tgt := 30) rfl dX2_moveAll_16 (by decide) (fun h16 => ?_) (fun h16 => ?_)
    · exact h30 (Or.inr (Or.inl (bI_t h16)))
    · have q1 := bI_f h16
      refine g_aload_n (q0 := 20) (j := 0) rfl dX2_moveAll_19 rfl ?_
      refine g_getp (q0 := 23) (b := a + 2) rfl ff_X2_20 dX2_moveAll_20 rfl hOK (by omega) (by assumption) rfl rfl ?_
      refine g_iload_n (q0 := 24) (j := 2) rfl dX2_moveAll_23 rfl ?_
      refine g_callVp (as := [_]) (rest := []) mt_X10_hasFileAhead mi_X10_hasFileAhead se_X10_hasFileAhead ml_X2_148 dX2_moveAll_24 (q0 := 27) rfl rfl (by assumption) rfl rfl (sp_X10_hasFileAhead hOK d4 ht) rfl ⟨by decide, by decide⟩ (Nat.le_of_ble_eq_true rfl) ⟨Nat.zero_le _, Nat.zero_le _⟩ (fun hwc => ?_)
      refine g_if_eq (q0 := 30) (tgt := 33) rfl dX2_moveAll_27 (by decide) (fun h27 => ?_) (fun h27 => ?_)
      · have q2 := bI_f h27
        refine g_iconst (q0 := 34) rfl dX2_moveAll_33 (k := ?_)
        refine g_istore_n (q0 := 35) (j := 3) (lv2 := [_, _, _, _]) rfl dX2_moveAll_34 (by decide) rfl rfl ?_
        refine lp (kFs d) [] 0 (fun q => ?_) rfl rfl hT rfl
        rw [q1, q2] at q
        rcases q with q | q | q
        · omega
        · exact absurd q (by decide)
        · exact absurd q (by decide)
      · exact h30 (Or.inr (Or.inr (bI_t h27)))
