-- ==== what a PLAN marks
theorem dX8_markPlan_0 : decode cX8_markPlan 0 = .ok (.iconst 0, 1) := by decide +kernel
theorem dX8_markPlan_1 : decode cX8_markPlan 1 = .ok (.istore_n 3, 1) := by decide +kernel
theorem dX8_markPlan_2 : decode cX8_markPlan 2 = .ok (.iload_n 3, 1) := by decide +kernel
theorem dX8_markPlan_3 : decode cX8_markPlan 3 = .ok (.aload_n 0, 1) := by decide +kernel
theorem dX8_markPlan_4 : decode cX8_markPlan 4 = .ok (.getfield 12, 3) := by decide +kernel
theorem dX8_markPlan_7 : decode cX8_markPlan 7 = .ok (.getfield 59, 3) := by decide +kernel
theorem dX8_markPlan_10 : decode cX8_markPlan 10 = .ok (.if_icmp .ge 81, 3) := by decide +kernel
theorem dX8_markPlan_13 : decode cX8_markPlan 13 = .ok (.aload_n 0, 1) := by decide +kernel
theorem dX8_markPlan_14 : decode cX8_markPlan 14 = .ok (.getfield 30, 3) := by decide +kernel
theorem dX8_markPlan_17 : decode cX8_markPlan 17 = .ok (.iload_n 3, 1) := by decide +kernel
theorem dX8_markPlan_18 : decode cX8_markPlan 18 = .ok (.invokevirtual 63, 3) := by decide +kernel
theorem dX8_markPlan_21 : decode cX8_markPlan 21 = .ok (.aload_n 1, 1) := by decide +kernel
theorem dX8_markPlan_22 : decode cX8_markPlan 22 = .ok (.aload_n 0, 1) := by decide +kernel
theorem dX8_markPlan_23 : decode cX8_markPlan 23 = .ok (.getfield 12, 3) := by decide +kernel
theorem dX8_markPlan_26 : decode cX8_markPlan 26 = .ok (.iload_n 3, 1) := by decide +kernel
theorem dX8_markPlan_27 : decode cX8_markPlan 27 = .ok (.invokevirtual 66, 3) := by decide +kernel
theorem dX8_markPlan_30 : decode cX8_markPlan 30 = .ok (.istore 4, 2) := by decide +kernel
theorem dX8_markPlan_32 : decode cX8_markPlan 32 = .ok (.iconst 0, 1) := by decide +kernel
theorem dX8_markPlan_33 : decode cX8_markPlan 33 = .ok (.istore 5, 2) := by decide +kernel
theorem dX8_markPlan_35 : decode cX8_markPlan 35 = .ok (.iload 5, 2) := by decide +kernel
theorem dX8_markPlan_37 : decode cX8_markPlan 37 = .ok (.iload 4, 2) := by decide +kernel
theorem dX8_markPlan_39 : decode cX8_markPlan 39 = .ok (.if_icmp .ge 46, 3) := by decide +kernel
theorem dX8_markPlan_42 : decode cX8_markPlan 42 = .ok (.aload_n 1, 1) := by decide +kernel
theorem dX8_markPlan_43 : decode cX8_markPlan 43 = .ok (.aload_n 0, 1) := by decide +kernel
theorem dX8_markPlan_44 : decode cX8_markPlan 44 = .ok (.getfield 12, 3) := by decide +kernel
theorem dX8_markPlan_47 : decode cX8_markPlan 47 = .ok (.iload_n 3, 1) := by decide +kernel
theorem dX8_markPlan_48 : decode cX8_markPlan 48 = .ok (.iload 5, 2) := by decide +kernel
theorem dX8_markPlan_50 : decode cX8_markPlan 50 = .ok (.invokevirtual 72, 3) := by decide +kernel
theorem dX8_markPlan_53 : decode cX8_markPlan 53 = .ok (.istore 6, 2) := by decide +kernel
theorem dX8_markPlan_55 : decode cX8_markPlan 55 = .ok (.aload_n 0, 1) := by decide +kernel
theorem dX8_markPlan_56 : decode cX8_markPlan 56 = .ok (.getfield 30, 3) := by decide +kernel
theorem dX8_markPlan_59 : decode cX8_markPlan 59 = .ok (.iload_n 3, 1) := by decide +kernel
theorem dX8_markPlan_60 : decode cX8_markPlan 60 = .ok (.aload_n 0, 1) := by decide +kernel
theorem dX8_markPlan_61 : decode cX8_markPlan 61 = .ok (.getfield 30, 3) := by decide +kernel
theorem dX8_markPlan_64 : decode cX8_markPlan 64 = .ok (.iload 6, 2) := by decide +kernel
theorem dX8_markPlan_66 : decode cX8_markPlan 66 = .ok (.invokevirtual 76, 3) := by decide +kernel
theorem dX8_markPlan_69 : decode cX8_markPlan 69 = .ok (.aload_n 0, 1) := by decide +kernel
theorem dX8_markPlan_70 : decode cX8_markPlan 70 = .ok (.getfield 30, 3) := by decide +kernel
theorem dX8_markPlan_73 : decode cX8_markPlan 73 = .ok (.iload_n 3, 1) := by decide +kernel
theorem dX8_markPlan_74 : decode cX8_markPlan 74 = .ok (.iload 6, 2) := by decide +kernel
theorem dX8_markPlan_76 : decode cX8_markPlan 76 = .ok (.invokevirtual 80, 3) := by decide +kernel
theorem dX8_markPlan_79 : decode cX8_markPlan 79 = .ok (.iinc 5 1, 3) := by decide +kernel
theorem dX8_markPlan_82 : decode cX8_markPlan 82 = .ok (.goto (-47), 3) := by decide +kernel
theorem dX8_markPlan_85 : decode cX8_markPlan 85 = .ok (.iinc 3 1, 3) := by decide +kernel
theorem dX8_markPlan_88 : decode cX8_markPlan 88 = .ok (.goto (-86), 3) := by decide +kernel
theorem dX8_markPlan_91 : decode cX8_markPlan 91 = .ok (.aload_n 0, 1) := by decide +kernel
theorem dX8_markPlan_92 : decode cX8_markPlan 92 = .ok (.getfield 34, 3) := by decide +kernel
theorem dX8_markPlan_95 : decode cX8_markPlan 95 = .ok (.iconst 0, 1) := by decide +kernel
theorem dX8_markPlan_96 : decode cX8_markPlan 96 = .ok (.invokevirtual 63, 3) := by decide +kernel
theorem dX8_markPlan_99 : decode cX8_markPlan 99 = .ok (.iconst 0, 1) := by decide +kernel
theorem dX8_markPlan_100 : decode cX8_markPlan 100 = .ok (.istore_n 3, 1) := by decide +kernel
theorem dX8_markPlan_101 : decode cX8_markPlan 101 = .ok (.iload_n 3, 1) := by decide +kernel
theorem dX8_markPlan_102 : decode cX8_markPlan 102 = .ok (.aload_n 2, 1) := by decide +kernel
theorem dX8_markPlan_103 : decode cX8_markPlan 103 = .ok (.getfield 84, 3) := by decide +kernel
theorem dX8_markPlan_106 : decode cX8_markPlan 106 = .ok (.if_icmp .ge 41, 3) := by decide +kernel
theorem dX8_markPlan_109 : decode cX8_markPlan 109 = .ok (.aload_n 0, 1) := by decide +kernel
theorem dX8_markPlan_110 : decode cX8_markPlan 110 = .ok (.getfield 34, 3) := by decide +kernel
theorem dX8_markPlan_113 : decode cX8_markPlan 113 = .ok (.iconst 0, 1) := by decide +kernel
theorem dX8_markPlan_114 : decode cX8_markPlan 114 = .ok (.aload_n 0, 1) := by decide +kernel
theorem dX8_markPlan_115 : decode cX8_markPlan 115 = .ok (.getfield 30, 3) := by decide +kernel
theorem dX8_markPlan_118 : decode cX8_markPlan 118 = .ok (.aload_n 2, 1) := by decide +kernel
theorem dX8_markPlan_119 : decode cX8_markPlan 119 = .ok (.getfield 87, 3) := by decide +kernel
theorem dX8_markPlan_122 : decode cX8_markPlan 122 = .ok (.iload_n 3, 1) := by decide +kernel
theorem dX8_markPlan_123 : decode cX8_markPlan 123 = .ok (.iaload, 1) := by decide +kernel
theorem dX8_markPlan_124 : decode cX8_markPlan 124 = .ok (.invokevirtual 76, 3) := by decide +kernel
theorem dX8_markPlan_127 : decode cX8_markPlan 127 = .ok (.aload_n 0, 1) := by decide +kernel
theorem dX8_markPlan_128 : decode cX8_markPlan 128 = .ok (.getfield 34, 3) := by decide +kernel
theorem dX8_markPlan_131 : decode cX8_markPlan 131 = .ok (.iconst 0, 1) := by decide +kernel
theorem dX8_markPlan_132 : decode cX8_markPlan 132 = .ok (.aload_n 2, 1) := by decide +kernel
theorem dX8_markPlan_133 : decode cX8_markPlan 133 = .ok (.getfield 87, 3) := by decide +kernel
theorem dX8_markPlan_136 : decode cX8_markPlan 136 = .ok (.iload_n 3, 1) := by decide +kernel
theorem dX8_markPlan_137 : decode cX8_markPlan 137 = .ok (.iaload, 1) := by decide +kernel
theorem dX8_markPlan_138 : decode cX8_markPlan 138 = .ok (.invokevirtual 80, 3) := by decide +kernel
theorem dX8_markPlan_141 : decode cX8_markPlan 141 = .ok (.iinc 3 1, 3) := by decide +kernel
theorem dX8_markPlan_144 : decode cX8_markPlan 144 = .ok (.goto (-43), 3) := by decide +kernel
theorem dX8_markPlan_147 : decode cX8_markPlan 147 = .ok (.return_, 1) := by decide +kernel
def eMark (cs : List kC) (pl : kP) (rs : List rF) (j : Nat) : Bool := rs.any (fun x => decide (j = x.2.2.1.toNat) || kEld cs pl x.2.2.1.toNat j)
def eldP (sh : gS) (M : gM) (cs : List kC) (pl : kP) (rs : List rF) (M1 : gM) : Prop :=
  (∀ k : Nat, k < cs.length → mIs M1 389 (k : Int) (kEld cs pl k)) ∧ mIs M1 392 0 (eMark cs pl rs) ∧ gOK sh M1 ∧ ∀ b : Int, b ≠ 390 → b ≠ 391 → b ≠ 393 → b ≠ 394 → M1 b = M b
theorem plOk_keep {sh : gS} {M M1 : gM} {a : Int} {pl : kP} (h : plOk sh M a pl) (hf : ∀ b : Int, a ≤ b → b ≤ a + 23 → M1 b = M b) : plOk sh M1 a pl := by
  obtain ⟨s, h1, h2, h3, h4⟩ := h
  refine ⟨s, fun i hi => qOk_congr (h1 i hi) (hf _ (by omega) (by omega)) (hf _ (by omega) (by omega)) (hf _ (by omega) (by omega)), qOk_congr h2 (hf _ (by omega) (by omega)) (hf _ (by omega) (by omega)) (hf _ (by omega) (by omega)), fun f hf2 => by rw [hf a (by omega) (by omega)]; exact h3 f hf2, fun k k0 k1 => by rw [hf _ (by omega) (by omega), hf _ (by omega) (by omega)]; exact h4 k k0 k1⟩
theorem sp_X8_markPlan {sh : gS} {M : gM} {a h : Int} {cs : List kC} {pl : kP} {rs : List rF} (hOK : gOK sh M) (hC : cOk sh M cs) (hP : plOk sh M a pl) (hF : kForeOk cs pl) (hR : rOk sh M h rs) (hat : rAt cs rs) (ha : 394 < a) (hh : 394 < h) :
    gC (gr 2 46) yX8_markPlan cX8_markPlan 7 none [(4, 3), (4, a), (4, h)] sh M (gPm sh (fun r M1 => r = none ∧ eldP sh M cs pl rs M1)) := by
  have hlen := hC.2.1
  have hc0 := hC.1
  have hap := hP.1
  obtain ⟨⟨hr0, hr1, hr2, hr3, hr4, hlr⟩, hrl, hrc, hrw⟩ := id hR
  have hpa := hap.1
  have hpb := hap.2.2.2.2.2.2.2.2.2.2.2
  -- the COMMITS of the HISTORY
  have lr : ∀ (suf pre : List rF) (i : Int) (M1 : gM) (w4 w5 w6 : gV), gw w4 → gw w5 → gw w6 → rs = pre ++ suf → i = (pre.length : Int) → (∀ k : Nat, k < cs.length → mIs M1 389 (k : Int) (kEld cs pl k)) → mIs M1 392 0 (eMark cs pl pre) → gOK sh M1 → (∀ b : Int, b ≠ 390 → b ≠ 391 → b ≠ 393 → b ≠ 394 → M1 b = M b) →
      gA (gr 2 46) yX8_markPlan cX8_markPlan 7 none (gPm sh (fun r M1 => r = none ∧ eldP sh M cs pl rs M1)) (0, 0) 101 [(4, 3), (4, a), (4, h), (0, i), w4, w5, w6] [] sh M1 := by
    intro suf
    induction suf with
    | nil =>
      intro pre i M1 w4 w5 w6 g4 g5 g6 e1 e2 e3 e4 hO e5
      have ec : M1 h 0 = M h 0 := by rw [e5 h (by omega) (by omega) (by omega) (by omega)]
      have hl : rs.length = pre.length := by rw [e1]; simp
      refine g_iload_n (q0 := 102) (j := 3) rfl dX8_markPlan_101 rfl ?_
      refine g_aload_n (q0 := 103) (j := 2) rfl dX8_markPlan_102 rfl ?_
      refine g_getf (q0 := 106) (t := 0) (fi := 0) rfl rfl ff_X8_84 dX8_markPlan_103 rfl (by assumption) ?_
      refine g_icmp_ge (q0 := 109) (tgt := 147) rfl dX8_markPlan_106 (by decide) (fun h106 => ?_) (fun h106 => ?_)
      · refine g_return dX8_markPlan_147 rfl ⟨Nat.zero_le _, Nat.zero_le _⟩ ?_
        refine ⟨rfl, rfl, e3, ?_, hO, e5⟩
        rw [e1, List.append_nil]; exact e4
      · omega
    | cons x s ih =>
      intro pre i M1 w4 w5 w6 g4 g5 g6 e1 e2 e3 e4 hO e5
      have ec : M1 h 0 = M h 0 := by rw [e5 h (by omega) (by omega) (by omega) (by omega)]
      have ec3 : M1 (h + 3) i = x.2.2.1 := by
        rw [e5 (h + 3) (by omega) (by omega) (by omega) (by omega)]
        rw [e1] at hrw
        have := (rG_1 (rw_cons (rw_app hrw).2).1).2.2.1
        rwa [Int.zero_add, ← e2] at this
      have hl : rs.length = pre.length + s.length + 1 := by rw [e1]; simp; omega
      have hx := hat x (by rw [e1]; simp)
      obtain ⟨m, hm⟩ : ∃ m : Nat, x.2.2.1 = (m : Int) := ⟨x.2.2.1.toNat, by omega⟩
      have hanc := e3 m (by omega)
      rw [hm] at ec3
      refine g_iload_n (q0 := 102) (j := 3) rfl dX8_markPlan_101 rfl ?_
      refine g_aload_n (q0 := 103) (j := 2) rfl dX8_markPlan_102 rfl ?_
      refine g_getf (q0 := 106) (t := 0) (fi := 0) rfl rfl ff_X8_84 dX8_markPlan_103 rfl (by assumption) ?_
      refine g_icmp_ge (q0 := 109) (tgt := 147) rfl dX8_markPlan_106 (by decide) (fun h106 => ?_) (fun h106 => ?_)
      · omega
      · refine g_aload_n (q0 := 110) (j := 0) rfl dX8_markPlan_109 rfl ?_
        refine g_getp (q0 := 113) (b := 392) rfl ff_X8_34 dX8_markPlan_110 rfl hO (by decide) (sh_3 hO) rfl (by decide) ?_
        refine g_iconst (q0 := 114) rfl dX8_markPlan_113 (k := ?_)
        refine g_aload_n (q0 := 115) (j := 0) rfl dX8_markPlan_114 rfl ?_
        refine g_getp (q0 := 118) (b := 389) rfl ff_X8_30 dX8_markPlan_115 rfl hO (by decide) (sh_3 hO) rfl (by decide) ?_
        refine g_aload_n (q0 := 119) (j := 2) rfl dX8_markPlan_118 rfl ?_
        refine g_getp (q0 := 122) (b := h + 3) rfl ff_X8_87 dX8_markPlan_119 rfl hO (by omega) (by assumption) rfl rfl ?_
        refine g_iload_n (q0 := 123) (j := 3) rfl dX8_markPlan_122 rfl ?_
        refine g_iald (q0 := 124) rfl dX8_markPlan_123 (by assumption) (by omega) (by omega) ?_
        rw [ec3]
        refine g_callVm (as := [_, _, _]) (rest := []) mt_X3_putAll mi_X3_putAll se_X3_putAll ml_X8_76 dX8_markPlan_124 (q0 := 127) rfl rfl (sh_392 hO) rfl rfl (sp_X3_putAll hO (mSh392 hO) ⟨by decide, by decide⟩ (mSh389 hO) ⟨by omega, by omega⟩ (Or.inr (Or.inr (by decide)))) rfl ⟨by decide, by decide⟩ (Nat.le_of_ble_eq_true rfl) ⟨Nat.zero_le _, Nat.zero_le _⟩ (fun r2 M2 hP2 hw2 hMw2 => ?_)
        obtain ⟨rfl, b1, hO2, b2, b3⟩ := hP2
        have ed3 : M2 (h + 3) i = (m : Int) := by rw [b2 (h + 3) (by omega) (by omega)]; exact ec3
        refine g_aload_n (q0 := 128) (j := 0) rfl dX8_markPlan_127 rfl ?_
        refine g_getp (q0 := 131) (b := 392) rfl ff_X8_34 dX8_markPlan_128 rfl hO2 (by decide) (sh_3 hO) rfl (by decide) ?_
        refine g_iconst (q0 := 132) rfl dX8_markPlan_131 (k := ?_)
        refine g_aload_n (q0 := 133) (j := 2) rfl dX8_markPlan_132 rfl ?_
        refine g_getp (q0 := 136) (b := h + 3) rfl ff_X8_87 dX8_markPlan_133 rfl hO2 (by omega) (by assumption) rfl rfl ?_
        refine g_iload_n (q0 := 137) (j := 3) rfl dX8_markPlan_136 rfl ?_
        refine g_iald (q0 := 138) rfl dX8_markPlan_137 (by assumption) (by omega) (by omega) ?_
        rw [ed3]
        refine g_callVm (as := [_, _]) (rest := []) mt_X3_put mi_X3_put se_X3_put ml_X8_80 dX8_markPlan_138 (q0 := 141) rfl rfl (sh_392 hO) rfl rfl (sp_X3_put hO2 (mSh392 hO2) ⟨by decide, by decide⟩ (show m < 120 by omega)) rfl ⟨by decide, by decide⟩ (Nat.le_of_ble_eq_true rfl) ⟨Nat.zero_le _, Nat.zero_le _⟩ (fun r3 M3 hP3 hw3 hMw3 => ?_)
        obtain ⟨rfl, c1, hO3, c2, c3⟩ := hP3
        refine g_iinc (q0 := 144) (lv2 := [_, _, _, _, _, _, _]) rfl dX8_markPlan_141 rfl (by decide) rfl rfl (by omega) (by omega) ?_
        refine g_goto (tgt := 101) dX8_markPlan_144 (by decide) ?_
        refine ih (pre ++ [x]) (i + 1) M3 _ _ _ g4 g5 g6 (by rw [e1]; simp) (by simp; omega) (fun k hk j hj => ?_) (fun j hj => ?_) hO3 (fun b h1 h2 h3 h4 => by rw [c2 b (by omega) (by omega), b2 b (by omega) (by omega), e5 b h1 h2 h3 h4])
        · rw [mB_row (M := M1) ⟨by rw [c2 _ (by decide) (by decide), b2 _ (by decide) (by decide)], by rw [c2 _ (by decide) (by decide), b2 _ (by decide) (by decide)]⟩]
          exact e3 k hk j hj
        · rw [c1 j hj]
          show (mB M2 392 0 j || decide (j = m)) = eMark cs pl (pre ++ [x]) j
          rw [b1 j hj]
          show ((mB M1 392 0 j || mB M1 389 (m : Int) j) || decide (j = m)) = eMark cs pl (pre ++ [x]) j
          rw [e4 j hj, hanc j hj]
          unfold eMark
          rw [List.any_append, List.any_cons, List.any_nil, Bool.or_false, hm, Int.toNat_natCast, Bool.or_assoc, Bool.or_comm (kEld cs pl m j)]
  have l1 : ∀ (n k : Nat) (M1 : gM) (w4 w5 w6 : gV), gw w4 → gw w5 → gw w6 → k + n = cs.length → (∀ i : Nat, i < k → mIs M1 389 (i : Int) (kEld cs pl i)) → gOK sh M1 → (∀ b : Int, b ≠ 390 → b ≠ 391 → M1 b = M b) →
      gA (gr 2 46) yX8_markPlan cX8_markPlan 7 none (gPm sh (fun r M1 => r = none ∧ eldP sh M cs pl rs M1)) (0, 0) 2 [(4, 3), (4, a), (4, h), (0, (k : Int)), w4, w5, w6] [] sh M1 := by
    intro n
    induction n with
    | zero =>
      intro k M1 w4 w5 w6 g4 g5 g6 hk e3 hO e5
      have ec : M1 4 0 = (cs.length : Int) := by rw [e5 4 (by decide) (by decide)]; exact hc0
      refine g_iload_n (q0 := 3) (j := 3) rfl dX8_markPlan_2 rfl ?_
      refine g_aload_n (q0 := 4) (j := 0) rfl dX8_markPlan_3 rfl ?_
      refine g_getp (q0 := 7) (b := 4) rfl ff_X8_12 dX8_markPlan_4 rfl hO (by decide) (sh_3 hO) rfl (by decide) ?_
      refine g_getf (q0 := 10) (t := 0) (fi := 0) rfl rfl ff_X8_59 dX8_markPlan_7 rfl (sh_4 hO) ?_
      refine g_icmp_ge (q0 := 13) (tgt := 91) rfl dX8_markPlan_10 (by decide) (fun h10 => ?_) (fun h10 => ?_)
      · refine g_aload_n (q0 := 92) (j := 0) rfl dX8_markPlan_91 rfl ?_
        refine g_getp (q0 := 95) (b := 392) rfl ff_X8_34 dX8_markPlan_92 rfl hO (by decide) (sh_3 hO) rfl (by decide) ?_
        refine g_iconst (q0 := 96) rfl dX8_markPlan_95 (k := ?_)
        refine g_callVm (as := [_]) (rest := []) mt_X3_clear mi_X3_clear se_X3_clear ml_X8_63 dX8_markPlan_96 (q0 := 99) rfl rfl (sh_392 hO) rfl rfl (sp_X3_clear hO (mSh392 hO) ⟨by decide, by decide⟩) rfl ⟨by decide, by decide⟩ (Nat.le_of_ble_eq_true rfl) ⟨Nat.zero_le _, Nat.zero_le _⟩ (fun r2 M2 hP2 hw2 hMw2 => ?_)
        obtain ⟨rfl, b1, hO2, b2, b3⟩ := hP2
        refine g_iconst (q0 := 100) rfl dX8_markPlan_99 (k := ?_)
        refine g_istore_n (q0 := 101) (j := 3) (lv2 := [_, _, _, _, _, _, _]) rfl dX8_markPlan_100 (by decide) rfl rfl ?_
        refine lr rs [] 0 M2 _ _ _ g4 g5 g6 rfl rfl (fun i hi j hj => ?_) b1 hO2 (fun b h1 h2 h3 h4 => by rw [b2 b (by omega) (by omega), e5 b h1 h2])
        rw [mB_row (M := M1) ⟨by rw [b2 _ (by decide) (by decide)], by rw [b2 _ (by decide) (by decide)]⟩]
        exact e3 i (by omega) j hj
      · omega
    | succ n ih =>
      intro k M1 w4 w5 w6 g4 g5 g6 hk e3 hO e5
      have ec : M1 4 0 = (cs.length : Int) := by rw [e5 4 (by decide) (by decide)]; exact hc0
      have hkc : cs[k]? = some cs[k] := List.getElem?_eq_getElem (by omega)
      have hfo := hF k _ hkc
      have heq := kEld_eq hF hkc
      generalize cs[k] = c at hkc hfo heq
      have hfl : (kForeL c pl (k : Int)).length ≤ 3 := by
        unfold kForeL
        split
        · split <;> simp
        · exact ((hC.2.2.2 k c hkc).2.1).1
      -- the FORE
      have l2 : ∀ (t2 t1 : List Int) (M2 : gM) (w6 : gV), gw w6 → kForeL c pl (k : Int) = t1 ++ t2 → (∀ i : Nat, i < k → mIs M2 389 (i : Int) (kEld cs pl i)) → mIs M2 389 (k : Int) (fun j => t1.any (fun p => p.toNat == j || kEld cs pl p.toNat j)) → gOK sh M2 → (∀ b : Int, b ≠ 390 → b ≠ 391 → M2 b = M b) →
          gA (gr 2 46) yX8_markPlan cX8_markPlan 7 none (gPm sh (fun r M1 => r = none ∧ eldP sh M cs pl rs M1)) (0, 0) 35 [(4, 3), (4, a), (4, h), (0, (k : Int)), (0, ((kForeL c pl (k : Int)).length : Int)), (0, (t1.length : Int)), w6] [] sh M2 := by
        intro t2
        induction t2 with
        | nil =>
          intro t1 M2 w6 g6 e1 f3 f4 hO2 f5
          have hl : (kForeL c pl (k : Int)).length = t1.length := by rw [e1]; simp
          refine g_iload (q0 := 37) (j := 5) rfl dX8_markPlan_35 rfl ?_
          refine g_iload (q0 := 39) (j := 4) rfl dX8_markPlan_37 rfl ?_
          refine g_icmp_ge (q0 := 42) (tgt := 85) rfl dX8_markPlan_39 (by decide) (fun h39 => ?_) (fun h39 => ?_)
          · refine g_iinc (q0 := 88) (lv2 := [_, _, _, _, _, _, _]) rfl dX8_markPlan_85 rfl (by decide) rfl rfl (by omega) (by omega) ?_
            refine g_goto (tgt := 2) dX8_markPlan_88 (by decide) ?_
            refine ih (k + 1) M2 _ _ _ ⟨by show -2147483648 ≤ ((kForeL c pl (k : Int)).length : Int); omega, by show ((kForeL c pl (k : Int)).length : Int) < 2147483648; omega⟩ ⟨by show -2147483648 ≤ (t1.length : Int); omega, by show (t1.length : Int) < 2147483648; omega⟩ g6 (by omega) (fun i hi => ?_) hO2 f5
            by_cases hz : i = k
            · subst hz
              intro j hj
              rw [f4 j hj, heq j, e1, List.append_nil]
            · exact f3 i (by omega)
          · omega
        | cons p t2 ih2 =>
          intro t1 M2 w6 g6 e1 f3 f4 hO2 f5
          have hl : (kForeL c pl (k : Int)).length = t1.length + t2.length + 1 := by rw [e1]; simp; omega
          have hp := hfo p (by rw [e1]; simp)
          have hat2 : (kForeL c pl (k : Int))[t1.length]? = some p := by rw [e1, List.getElem?_append_right (Nat.le_refl _)]; simp
          obtain ⟨m, hm⟩ : ∃ m : Nat, p = (m : Int) := ⟨p.toNat, by omega⟩
          have hmm := f3 m (by omega)
          have hC2 : cOk sh M2 cs := cOk_fr hC (fun b b0 b1 => f5 b (by omega) (by omega))
          have hP2 := plOk_keep (M1 := M2) hP (fun b b0 b1 => f5 b (by omega) (by omega))
          refine g_iload (q0 := 37) (j := 5) rfl dX8_markPlan_35 rfl ?_
          refine g_iload (q0 := 39) (j := 4) rfl dX8_markPlan_37 rfl ?_
          refine g_icmp_ge (q0 := 42) (tgt := 85) rfl dX8_markPlan_39 (by decide) (fun h39 => ?_) (fun h39 => ?_)
          · omega
          · refine g_aload_n (q0 := 43) (j := 1) rfl dX8_markPlan_42 rfl ?_
            refine g_aload_n (q0 := 44) (j := 0) rfl dX8_markPlan_43 rfl ?_
            refine g_getp (q0 := 47) (b := 4) rfl ff_X8_12 dX8_markPlan_44 rfl hO2 (by decide) (sh_3 hO2) rfl (by decide) ?_
            refine g_iload_n (q0 := 48) (j := 3) rfl dX8_markPlan_47 rfl ?_
            refine g_iload (q0 := 50) (j := 5) rfl dX8_markPlan_48 rfl ?_
            refine g_callVp (as := [_, _, _]) (rest := []) mt_X5_foreAt mi_X5_foreAt se_X5_foreAt ml_X8_72 dX8_markPlan_50 (q0 := 53) rfl rfl (by assumption) rfl rfl (sp_X5_foreAt hO2 hC2 hkc hP2 hat2) rfl ⟨by decide, by decide⟩ (Nat.le_of_ble_eq_true rfl) ⟨Nat.zero_le _, Nat.zero_le _⟩ (fun hwc => ?_)
            rw [hm]
            refine g_istore (q0 := 55) (j := 6) (lv2 := [_, _, _, _, _, _, _]) rfl dX8_markPlan_53 (by decide) rfl rfl ?_
            refine g_aload_n (q0 := 56) (j := 0) rfl dX8_markPlan_55 rfl ?_
            refine g_getp (q0 := 59) (b := 389) rfl ff_X8_30 dX8_markPlan_56 rfl hO2 (by decide) (sh_3 hO2) rfl (by decide) ?_
            refine g_iload_n (q0 := 60) (j := 3) rfl dX8_markPlan_59 rfl ?_
            refine g_aload_n (q0 := 61) (j := 0) rfl dX8_markPlan_60 rfl ?_
            refine g_getp (q0 := 64) (b := 389) rfl ff_X8_30 dX8_markPlan_61 rfl hO2 (by decide) (sh_3 hO2) rfl (by decide) ?_
            refine g_iload (q0 := 66) (j := 6) rfl dX8_markPlan_64 rfl ?_
            refine g_callVm (as := [_, _, _]) (rest := []) mt_X3_putAll mi_X3_putAll se_X3_putAll ml_X8_76 dX8_markPlan_66 (q0 := 69) rfl rfl (sh_389 hO2) rfl rfl (sp_X3_putAll hO2 (mSh389 hO2) ⟨by omega, by omega⟩ (mSh389 hO2) ⟨by omega, by omega⟩ (Or.inl rfl)) rfl ⟨by decide, by decide⟩ (Nat.le_of_ble_eq_true rfl) ⟨Nat.zero_le _, Nat.zero_le _⟩ (fun r3 M3 hP3 hw3 hMw3 => ?_)
            obtain ⟨rfl, b1, hO3, b2, b3⟩ := hP3
            refine g_aload_n (q0 := 70) (j := 0) rfl dX8_markPlan_69 rfl ?_
            refine g_getp (q0 := 73) (b := 389) rfl ff_X8_30 dX8_markPlan_70 rfl hO3 (by decide) (sh_3 hO2) rfl (by decide) ?_
            refine g_iload_n (q0 := 74) (j := 3) rfl dX8_markPlan_73 rfl ?_
            refine g_iload (q0 := 76) (j := 6) rfl dX8_markPlan_74 rfl ?_
            refine g_callVm (as := [_, _]) (rest := []) mt_X3_put mi_X3_put se_X3_put ml_X8_80 dX8_markPlan_76 (q0 := 79) rfl rfl (sh_389 hO2) rfl rfl (sp_X3_put hO3 (mSh389 hO3) ⟨by omega, by omega⟩ (show m < 120 by omega)) rfl ⟨by decide, by decide⟩ (Nat.le_of_ble_eq_true rfl) ⟨Nat.zero_le _, Nat.zero_le _⟩ (fun r4 M4 hP4 hw4 hMw4 => ?_)
            obtain ⟨rfl, c1, hO4, c2, c3⟩ := hP4
            refine g_iinc (q0 := 82) (lv2 := [_, _, _, _, _, _, _]) rfl dX8_markPlan_79 rfl (by decide) rfl rfl (by omega) (by omega) ?_
            refine g_goto (tgt := 35) dX8_markPlan_82 (by decide) ?_
            have e9 : ((t1.length : Int) + 1) = ((t1 ++ [p]).length : Int) := by simp
            rw [e9]
            refine ih2 (t1 ++ [p]) M4 _ ⟨by show -2147483648 ≤ (m : Int); omega, by show (m : Int) < 2147483648; omega⟩ (by rw [e1]; simp) (fun i hi j hj => ?_) (fun j hj => ?_) hO4 (fun b h1 h2 => by rw [c2 b (by omega) (by omega), b2 b (by omega) (by omega), f5 b h1 h2])
            · rw [mB_row (M := M2) ⟨by rw [(c3 _ (by omega)).1, (b3 _ (by omega)).1], by rw [(c3 _ (by omega)).2, (b3 _ (by omega)).2]⟩]
              exact f3 i hi j hj
            · rw [c1 j hj]
              show (mB M3 389 (k : Int) j || decide (j = m)) = _
              rw [b1 j hj]
              show ((mB M2 389 (k : Int) j || mB M2 389 (m : Int) j) || decide (j = m)) = (t1 ++ [p]).any (fun p => p.toNat == j || kEld cs pl p.toNat j)
              rw [f4 j hj, hmm j hj, List.any_append, List.any_cons, List.any_nil, Bool.or_false, hm, Int.toNat_natCast, Bool.or_assoc, Bool.or_comm (kEld cs pl m j)]
              congr 2
              by_cases z : j = m
              · simp [z]
              · have z2 : ¬ m = j := fun q => z q.symm
                simp [z, z2]
      have hC1 : cOk sh M1 cs := cOk_fr hC (fun b b0 b1 => e5 b (by omega) (by omega))
      refine g_iload_n (q0 := 3) (j := 3) rfl dX8_markPlan_2 rfl ?_
      refine g_aload_n (q0 := 4) (j := 0) rfl dX8_markPlan_3 rfl ?_
      refine g_getp (q0 := 7) (b := 4) rfl ff_X8_12 dX8_markPlan_4 rfl hO (by decide) (sh_3 hO) rfl (by decide) ?_
      refine g_getf (q0 := 10) (t := 0) (fi := 0) rfl rfl ff_X8_59 dX8_markPlan_7 rfl (sh_4 hO) ?_
      refine g_icmp_ge (q0 := 13) (tgt := 91) rfl dX8_markPlan_10 (by decide) (fun h10 => ?_) (fun h10 => ?_)
      · omega
      · refine g_aload_n (q0 := 14) (j := 0) rfl dX8_markPlan_13 rfl ?_
        refine g_getp (q0 := 17) (b := 389) rfl ff_X8_30 dX8_markPlan_14 rfl hO (by decide) (sh_3 hO) rfl (by decide) ?_
        refine g_iload_n (q0 := 18) (j := 3) rfl dX8_markPlan_17 rfl ?_
        refine g_callVm (as := [_]) (rest := []) mt_X3_clear mi_X3_clear se_X3_clear ml_X8_63 dX8_markPlan_18 (q0 := 21) rfl rfl (sh_389 hO) rfl rfl (sp_X3_clear hO (mSh389 hO) ⟨by omega, by omega⟩) rfl ⟨by decide, by decide⟩ (Nat.le_of_ble_eq_true rfl) ⟨Nat.zero_le _, Nat.zero_le _⟩ (fun r2 M2 hP2 hw2 hMw2 => ?_)
        obtain ⟨rfl, b1, hO2, b2, b3⟩ := hP2
        have hC2 : cOk sh M2 cs := cOk_fr hC1 (fun b b0 b1 => b2 b (by omega) (by omega))
        have hP2 := plOk_keep (M1 := M2) hP (fun b b0 b1 => by rw [b2 b (by omega) (by omega), e5 b (by omega) (by omega)])
        refine g_aload_n (q0 := 22) (j := 1) rfl dX8_markPlan_21 rfl ?_
        refine g_aload_n (q0 := 23) (j := 0) rfl dX8_markPlan_22 rfl ?_
        refine g_getp (q0 := 26) (b := 4) rfl ff_X8_12 dX8_markPlan_23 rfl hO2 (by decide) (sh_3 hO) rfl (by decide) ?_
        refine g_iload_n (q0 := 27) (j := 3) rfl dX8_markPlan_26 rfl ?_
        refine g_callVp (as := [_, _]) (rest := []) mt_X5_foreCount mi_X5_foreCount se_X5_foreCount ml_X8_66 dX8_markPlan_27 (q0 := 30) rfl rfl (by assumption) rfl rfl (sp_X5_foreCount hO2 hC2 hkc hP2) rfl ⟨by decide, by decide⟩ (Nat.le_of_ble_eq_true rfl) ⟨Nat.zero_le _, Nat.zero_le _⟩ (fun hwc => ?_)
        refine g_istore (q0 := 32) (j := 4) (lv2 := [_, _, _, _, _, _, _]) rfl dX8_markPlan_30 (by decide) rfl rfl ?_
        refine g_iconst (q0 := 33) rfl dX8_markPlan_32 (k := ?_)
        refine g_istore (q0 := 35) (j := 5) (lv2 := [_, _, _, _, _, _, _]) rfl dX8_markPlan_33 (by decide) rfl rfl ?_
        refine l2 (kForeL c pl (k : Int)) [] M2 _ g6 rfl (fun i hi j hj => ?_) b1 hO2 (fun b h1 h2 => by rw [b2 b (by omega) (by omega), e5 b h1 h2])
        rw [mB_row (M := M1) ⟨(b3 _ (by omega)).1, (b3 _ (by omega)).2⟩]
        exact e3 i hi j hj
  refine gC_ofA (lv := [_, _, _, _, _, _, _]) (by decide +kernel) (Nat.le_of_ble_eq_true rfl) rfl (fun hMw hav => ?_)
  refine g_iconst (q0 := 1) rfl dX8_markPlan_0 (k := ?_)
  refine g_istore_n (q0 := 2) (j := 3) (lv2 := [_, _, _, _, _, _, _]) rfl dX8_markPlan_1 (by decide) rfl rfl ?_
  exact l1 cs.length 0 M _ _ _ trivial trivial trivial (by omega) (fun i hi => by omega) hOK (fun _ _ _ => rfl)
