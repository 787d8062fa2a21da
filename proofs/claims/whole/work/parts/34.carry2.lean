-- ==== a TREE is carried: the walk
theorem sp_X8_carryTree {sh : gS} {M : gM} {a u : Int} {m : Nat} {fs : List gF} {pl : kP} (hOK : gOK sh M) (hP : plOk sh M a pl) (hR : plRng pl) (hU : tOk sh M u m fs) (hfl : fs.length ≤ 16) (hfc : ∀ f ∈ fs, 0 ≤ f.2 ∧ f.2 < 2147483648) (ha : 397 < a) (hu : 3 < u ∧ u + 2 < 380) :
    gC (gr 3 73) yX8_carryTree cX8_carryTree 8 none [(4, 3), (4, a), (4, u)] sh M (gPm sh (fun r M1 => r = none ∧ ctP sh M (rCt pl fs 0 0 []).1 (rCt pl fs 0 0 []).2.1 (rCt pl fs 0 0 []).2.2 M1)) := by
  have hap := hP.1.1
  obtain ⟨hr1, hr2, hr3⟩ := hR
  obtain ⟨⟨hu0, hu1, hu2, hult⟩, hm, hUT, hul⟩ := id hU
  have hsp := hP.1
  obtain ⟨-, x1, x2, x3, x4, -, -, -, -, -, -, halt⟩ := hsp
  have y1 := x1.1
  have y2 := x2.1
  have y4 := x4.1
  generalize hx : rCt pl fs 0 0 [] = x
  have lp : ∀ (suf pre : List gF) (i tk ls : Int) (acc : List gF) (M1 : gM) (w5 w6 w7 : gV), gw w5 → gw w6 → gw w7 → fs = pre ++ suf → i = (pre.length : Int) → tSuf M u i suf → (acc.length : Int) ≤ i → 0 ≤ tk → tk ≤ i → 0 ≤ ls → ls ≤ i → ctP sh M tk ls acc M1 → rCt pl suf tk ls acc = x →
      gA (gr 3 73) yX8_carryTree cX8_carryTree 8 none (gPm sh (fun r M1 => r = none ∧ ctP sh M x.1 x.2.1 x.2.2 M1)) (0, 0) 26 [(4, 3), (4, a), (4, u), (4, 382), (0, i), w5, w6, w7] [] sh M1 := by
    intro suf
    induction suf with
    | nil =>
      intro pre i tk ls acc M1 w5 w6 w7 g5 g6 g7 e1 e2 hS hacc t0 t1 l0 l1 hG hv
      obtain ⟨hT1, hk6, hk7, hO1, hF1⟩ := id hG
      have h0 := tSuf_nil hS
      have ec : M1 u 2 = M u 2 := by rw [hF1 u (by omega) (by omega) (by omega) (by omega)]
      refine g_iload (q0 := 28) (j := 4) rfl dX8_carryTree_26 rfl ?_
      refine g_aload_n (q0 := 29) (j := 2) rfl dX8_carryTree_28 rfl ?_
      refine g_getf (q0 := 32) (t := 0) (fi := 2) rfl rfl ff_X8_171 dX8_carryTree_29 rfl (by assumption) ?_
      refine g_icmp_ge (q0 := 35) (tgt := 181) rfl dX8_carryTree_32 (by decide) (fun h32 => ?_) (fun h32 => ?_)
      · refine g_return dX8_carryTree_181 rfl ⟨Nat.zero_le _, Nat.zero_le _⟩ ?_
        rw [← hv]
        exact ⟨rfl, rfl, hG⟩
      · omega
    | cons f r ih =>
      intro pre i tk ls acc M1 w5 w6 w7 g5 g6 g7 e1 e2 hS hacc t0 t1 l0 l1 hG hv
      obtain ⟨hT1, hk6, hk7, hO1, hF1⟩ := id hG
      obtain ⟨k0, k1, k2, k3, k4, k5⟩ := tSuf_cons hS
      have hl9 : fs.length = pre.length + r.length + 1 := by rw [e1]; simp; omega
      have ec : M1 u 2 = M u 2 := by rw [hF1 u (by omega) (by omega) (by omega) (by omega)]
      have ec1 : M1 (u + 1) i = f.1 := by rw [hF1 (u + 1) (by omega) (by omega) (by omega) (by omega)]; exact k2
      have ec2 : M1 (u + 2) i = f.2 := by rw [hF1 (u + 2) (by omega) (by omega) (by omega) (by omega)]; exact k3
      have hfc1 := hfc f (by rw [e1]; simp)
      have hP1 := plOk_keep (M1 := M1) hP (fun b b0 b1 => hF1 b (by omega) (by omega) (by omega) (by omega))
      obtain ⟨hq0, hq1, hq3⟩ := plKeep hP1
      have em : M1 a 16 = pl.2.1 16 := hP1.2.2.2.1 16 (by decide)
      have e1b : fs = (pre ++ [f]) ++ r := by rw [e1]; simp
      have e2b : i + 1 = ((pre ++ [f]).length : Int) := by simp; omega
      have hfw : gw (0, f.1) := ⟨by show -2147483648 ≤ f.1; omega, by show f.1 < 2147483648; omega⟩
      have hdr := dgN_rng 6 f.2
      rw [rCt] at hv
      -- not TAKEN
      have hskip : rTk pl f = false → ∀ (w6 w7 : gV), gw w6 → gw w7 → gA (gr 3 73) yX8_carryTree cX8_carryTree 8 none (gPm sh (fun r M1 => r = none ∧ ctP sh M x.1 x.2.1 x.2.2 M1)) (0, 0) 175 [(4, 3), (4, a), (4, u), (4, 382), (0, i), (0, f.1), w6, w7] [] sh M1 := by
        intro hn w6 w7 g6 g7
        rw [if_neg (by rw [hn]; decide)] at hv
        refine g_iinc (q0 := 178) (lv2 := [_, _, _, _, _, _, _, _]) rfl dX8_carryTree_175 rfl (by decide) rfl rfl (by omega) (by omega) ?_
        refine g_goto (tgt := 26) dX8_carryTree_178 (by decide) ?_
        exact ih _ _ tk ls acc M1 _ _ _ hfw g6 g7 e1b e2b k5 (by omega) t0 (by omega) l0 (by omega) hG hv
      -- TAKEN
      have htake : rTk pl f = true → ∀ (v6 : Int) (w7 : gV), gw (0, v6) → gw w7 → gA (gr 3 73) yX8_carryTree cX8_carryTree 8 none (gPm sh (fun r M1 => r = none ∧ ctP sh M x.1 x.2.1 x.2.2 M1)) (0, 0) 110 [(4, 3), (4, a), (4, u), (4, 382), (0, i), (0, f.1), (0, v6), w7] [] sh M1 := by
        intro hy v6 w7 g6 g7
        rw [if_pos hy] at hv
        have hpr := plPlace_rng (p := f.1) (ms := pl.1 2) k4 hr3
        generalize hM2 : gU M1 3 6 (M1 3 6 + 1) = M2
        have hO2 : gOK sh M2 := by rw [← hM2]; exact gOK_o (f := 6) hO1 (sh_3 hO1) rfl rfl
        have hF2 : ∀ b : Int, b ≠ 3 → M2 b = M1 b := fun b hb => by rw [← hM2, gU_cell _ _ _ hb]
        have h26 : M2 3 6 = tk + 1 := by rw [← hM2, gU_same, hk6]
        have h27 : M2 3 7 = ls := by rw [← hM2, gU_idx (by decide), hk7]
        have hT2 := tOk_congr (M1 := M2) hT1 (hF2 _ (by decide)) (hF2 _ (by decide)) (hF2 _ (by decide))
        have hP2 := plOk_keep (M1 := M2) hP1 (fun b b0 b1 => hF2 b (by omega))
        have h120 : gA (gr 3 73) yX8_carryTree cX8_carryTree 8 none (gPm sh (fun r M1 => r = none ∧ ctP sh M x.1 x.2.1 x.2.2 M1)) (0, 0) 120 [(4, 3), (4, a), (4, u), (4, 382), (0, i), (0, f.1), (0, v6), w7] [] sh M2 := by
          have h142 : (plPlace f.1 (pl.1 2) < 0 ∨ tTaken (plPlace f.1 (pl.1 2)) acc = true) → gw (0, plPlace f.1 (pl.1 2)) → gA (gr 3 73) yX8_carryTree cX8_carryTree 8 none (gPm sh (fun r M1 => r = none ∧ ctP sh M x.1 x.2.1 x.2.2 M1)) (0, 0) 142 [(4, 3), (4, a), (4, u), (4, 382), (0, i), (0, f.1), (0, v6), (0, plPlace f.1 (pl.1 2))] [] sh M2 := by
            intro hlo hpw
            rw [if_pos hlo] at hv
            refine g_aload_n (q0 := 143) (j := 0) rfl dX8_carryTree_142 rfl ?_
            refine g_dup (q0 := 144) rfl dX8_carryTree_143 (k := ?_)
            refine g_getf (q0 := 147) (t := 0) (fi := 7) rfl rfl ff_X8_177 dX8_carryTree_144 rfl (sh_3 hO2) ?_
            refine g_iconst (q0 := 148) rfl dX8_carryTree_147 (k := ?_)
            refine g_iadd (q0 := 149) rfl dX8_carryTree_148 (by omega) (by omega) ?_
            refine g_put (q0 := 152) (t := 0) (fi := 7) rfl rfl ff_X8_177 dX8_carryTree_149 rfl (sh_3 hO2) rfl (fun _ => ⟨rfl, rfl⟩) ?_
            refine g_goto (tgt := 175) dX8_carryTree_152 (by decide) ?_
            refine g_iinc (q0 := 178) (lv2 := [_, _, _, _, _, _, _, _]) rfl dX8_carryTree_175 rfl (by decide) rfl rfl (by omega) (by omega) ?_
            refine g_goto (tgt := 26) dX8_carryTree_178 (by decide) ?_
            exact ih _ _ (tk + 1) (ls + 1) acc _ _ _ _ hfw g6 hpw e1b e2b k5 (by omega) (by omega) (by omega) (by omega) (by omega) ⟨tOk_congr hT2 (gU_cell _ _ _ (by decide)) (gU_cell _ _ _ (by decide)) (gU_cell _ _ _ (by decide)), by rw [gU_idx (by decide), h26], by rw [gU_same, h27], gOK_o (f := 7) hO2 (sh_3 hO2) rfl rfl, fun b b0 b1 b2 b3 => by rw [gU_cell _ _ _ b0, hF2 b b0, hF1 b b0 b1 b2 b3]⟩ hv
          refine g_aload_n (q0 := 121) (j := 1) rfl dX8_carryTree_120 rfl ?_
          refine g_iload (q0 := 123) (j := 5) rfl dX8_carryTree_121 rfl ?_
          refine g_callVp (as := [_]) (rest := []) mt_X5_placeOf mi_X5_placeOf se_X5_placeOf ml_X8_205 dX8_carryTree_123 (q0 := 126) rfl rfl (by assumption) rfl rfl (sp_X5_placeOf hO2 hP2 k4 hr3) rfl ⟨by decide, by decide⟩ (Nat.le_of_ble_eq_true rfl) ⟨Nat.zero_le _, Nat.zero_le _⟩ (fun hwc => ?_)
          refine g_istore (q0 := 128) (j := 7) (lv2 := [_, _, _, _, _, _, _, _]) rfl dX8_carryTree_126 (by decide) rfl rfl ?_
          refine g_iload (q0 := 130) (j := 7) rfl dX8_carryTree_128 rfl ?_
          refine g_if_lt (q0 := 133) (tgt := 142) rfl dX8_carryTree_130 (by decide) (fun h130 => ?_) (fun h130 => ?_)
          · exact h142 (Or.inl h130) hwc
          · have hpr2 : 0 ≤ plPlace f.1 (pl.1 2) ∧ plPlace f.1 (pl.1 2) < 1073741824 := by omega
            have hpw : gw (0, plPlace f.1 (pl.1 2)) := hwc
            have s382 := sh_382 hOK
            refine g_aload_n (q0 := 134) (j := 3) rfl dX8_carryTree_133 rfl ?_
            refine g_iload (q0 := 136) (j := 7) rfl dX8_carryTree_134 rfl ?_
            refine g_callVp (as := [_]) (rest := []) mt_X10_isTaken mi_X10_isTaken se_X10_isTaken ml_X8_208 dX8_carryTree_136 (q0 := 139) rfl rfl (sh_382 hO2) rfl rfl (sp_X10_isTaken hO2 hT2 hpr2) rfl ⟨by decide, by decide⟩ (Nat.le_of_ble_eq_true rfl) ⟨Nat.zero_le _, Nat.zero_le _⟩ (fun hwc => ?_)
            refine g_if_eq (q0 := 142) (tgt := 155) rfl dX8_carryTree_139 (by decide) (fun h139 => ?_) (fun h139 => ?_)
            · have hb := bI_f h139
              rw [if_neg (by rw [hb]; simp; omega)] at hv
              have hpl := (tPut_len (plPlace f.1 (pl.1 2)) ((qGet f.2 (pl.1 3)).getD f.2) acc).1
              obtain ⟨-, -, hq3b⟩ := plKeep hP2
              have ec3 : M2 (u + 2) i = f.2 := by rw [hF2 (u + 2) (by omega)]; exact ec2
              clear hb
              refine g_aload_n (q0 := 156) (j := 3) rfl dX8_carryTree_155 rfl ?_
              refine g_iload (q0 := 158) (j := 7) rfl dX8_carryTree_156 rfl ?_
              refine g_aload_n (q0 := 159) (j := 1) rfl dX8_carryTree_158 rfl ?_
              refine g_getp (q0 := 162) (b := a + 10) rfl ff_X8_211 dX8_carryTree_159 rfl hO2 (by omega) (by assumption) rfl rfl ?_
              refine g_aload_n (q0 := 163) (j := 2) rfl dX8_carryTree_162 rfl ?_
              refine g_getp (q0 := 166) (b := u + 2) rfl ff_X8_191 dX8_carryTree_163 rfl hO2 (by omega) (by assumption) rfl rfl ?_
              refine g_iload (q0 := 168) (j := 4) rfl dX8_carryTree_166 rfl ?_
              refine g_iald (q0 := 169) rfl dX8_carryTree_168 (by assumption) (by omega) (by omega) ?_
              rw [ec3]
              refine g_callVp (as := [_]) (rest := [_, _]) mt_X4_exchanged mi_X4_exchanged se_X4_exchanged ml_X8_115 dX8_carryTree_169 (q0 := 172) rfl rfl (by assumption) rfl rfl (sp_X4_exchanged hO2 hq3b) rfl ⟨by decide, by decide⟩ (Nat.le_of_ble_eq_true rfl) ⟨Nat.zero_le _, Nat.zero_le _⟩ (fun hwc => ?_)
              refine g_callVm (as := [_, _]) (rest := []) mt_X10_put mi_X10_put se_X10_put ml_X8_214 dX8_carryTree_172 (q0 := 175) rfl rfl (sh_382 hO2) rfl rfl (sp_X10_put hO2 hT2 hpr2 (by omega)) rfl ⟨by decide, by decide⟩ (Nat.le_of_ble_eq_true rfl) ⟨Nat.zero_le _, Nat.zero_le _⟩ (fun r3 M3 hP3 hw3 hMw3 => ?_)
              obtain ⟨rfl, v1, hO3, v2⟩ := hP3
              refine g_iinc (q0 := 178) (lv2 := [_, _, _, _, _, _, _, _]) rfl dX8_carryTree_175 rfl (by decide) rfl rfl (by omega) (by omega) ?_
              refine g_goto (tgt := 26) dX8_carryTree_178 (by decide) ?_
              exact ih _ _ (tk + 1) ls _ M3 _ _ _ hfw g6 hpw e1b e2b k5 (by omega) (by omega) (by omega) (by omega) (by omega) ⟨v1, by rw [v2 3 (by decide) (by decide) (by decide)]; exact h26, by rw [v2 3 (by decide) (by decide) (by decide)]; exact h27, hO3, fun b b0 b1 b2 b3 => by rw [v2 b b1 b2 b3, hF2 b b0, hF1 b b0 b1 b2 b3]⟩ hv
            · exact h142 (Or.inr (bI_t h139)) hpw
        refine g_aload_n (q0 := 111) (j := 0) rfl dX8_carryTree_110 rfl ?_
        refine g_dup (q0 := 112) rfl dX8_carryTree_111 (k := ?_)
        refine g_getf (q0 := 115) (t := 0) (fi := 6) rfl rfl ff_X8_174 dX8_carryTree_112 rfl (sh_3 hO1) ?_
        refine g_iconst (q0 := 116) rfl dX8_carryTree_115 (k := ?_)
        refine g_iadd (q0 := 117) rfl dX8_carryTree_116 (by omega) (by omega) ?_
        refine g_put (q0 := 120) (t := 0) (fi := 6) rfl rfl ff_X8_174 dX8_carryTree_117 rfl (sh_3 hO1) rfl (fun _ => ⟨rfl, rfl⟩) ?_
        rw [hM2]
        exact h120
      have h73 : ∀ (kv : Bool) (w7 : gV), gw w7 → kv = (decide (pl.1 0 = []) || qCov f.1 (pl.1 0)) → gA (gr 3 73) yX8_carryTree cX8_carryTree 8 none (gPm sh (fun r M1 => r = none ∧ ctP sh M x.1 x.2.1 x.2.2 M1)) (0, 0) 73 [(4, 3), (4, a), (4, u), (4, 382), (0, i), (0, f.1), (0, bI kv), w7] [] sh M1 := by
        intro kv w7 g7 hkv
        have hkw : gw (0, bI kv) := by cases kv <;> exact ⟨by decide, by decide⟩
        refine g_aload_n (q0 := 74) (j := 2) rfl dX8_carryTree_73 rfl ?_
        refine g_getp (q0 := 77) (b := u + 2) rfl ff_X8_191 dX8_carryTree_74 rfl hO1 (by omega) (by assumption) rfl rfl ?_
        refine g_iload (q0 := 79) (j := 4) rfl dX8_carryTree_77 rfl ?_
        refine g_iald (q0 := 80) rfl dX8_carryTree_79 (by assumption) (by omega) (by omega) ?_
        rw [ec2]
        refine g_callSp (as := [_]) (rest := []) mt_X0_digitsIn ms_X0_digitsIn ml_X8_194 dX8_carryTree_80 (q0 := 83) rfl rfl (sp_X0_digitsIn hfc1) rfl ⟨by decide, by decide⟩ (Nat.le_of_ble_eq_true rfl) ⟨Nat.zero_le _, Nat.zero_le _⟩ (fun hwc => ?_)
        refine g_aload_n (q0 := 84) (j := 1) rfl dX8_carryTree_83 rfl ?_
        refine g_getf (q0 := 87) (t := 0) (fi := 16) rfl rfl ff_X8_199 dX8_carryTree_84 rfl (by assumption) ?_
        refine g_icmp_gt (q0 := 90) (tgt := 175) rfl dX8_carryTree_87 (by decide) (fun h87 => ?_) (fun h87 => ?_)
        · rw [em] at h87
          exact hskip (by unfold rTk; rw [decide_eq_true (by omega)]; rfl) _ _ hkw g7
        · rw [em] at h87
          cases kv with
          | false =>
            refine g_iload (q0 := 92) (j := 6) rfl dX8_carryTree_90 rfl ?_
            refine g_if_eq (q0 := 95) (tgt := 175) rfl dX8_carryTree_92 (by decide) (fun h92 => ?_) (fun h92 => ?_)
            · exact hskip (by unfold rTk; rw [← hkv]; simp) _ _ hkw g7
            · exact absurd rfl h92
          | true =>
            refine g_iload (q0 := 92) (j := 6) rfl dX8_carryTree_90 rfl ?_
            refine g_if_eq (q0 := 95) (tgt := 175) rfl dX8_carryTree_92 (by decide) (fun h92 => ?_) (fun h92 => ?_)
            · exact absurd h92 (by decide)
            · refine g_aload_n (q0 := 96) (j := 1) rfl dX8_carryTree_95 rfl ?_
              refine g_getp (q0 := 99) (b := a + 4) rfl ff_X8_202 dX8_carryTree_96 rfl hO1 (by omega) (by assumption) rfl rfl ?_
              refine g_iload (q0 := 101) (j := 5) rfl dX8_carryTree_99 rfl ?_
              refine g_callVp (as := [_]) (rest := []) mt_X4_cover mi_X4_cover se_X4_cover ml_X8_187 dX8_carryTree_101 (q0 := 104) rfl rfl (by assumption) rfl rfl (sp_X4_cover hO1 hq1 hr2 k4) rfl ⟨by decide, by decide⟩ (Nat.le_of_ble_eq_true rfl) ⟨Nat.zero_le _, Nat.zero_le _⟩ (fun hwc => ?_)
              refine g_if_eq (q0 := 107) (tgt := 110) rfl dX8_carryTree_104 (by decide) (fun h104 => ?_) (fun h104 => ?_)
              · refine htake ?_ _ _ hkw g7
                unfold rTk
                rw [← hkv, bI_f h104, decide_eq_false (by omega)]
                rfl
              · refine g_goto (tgt := 175) dX8_carryTree_107 (by decide) ?_
                refine hskip ?_ _ _ hkw g7
                unfold rTk
                rw [bI_t h104]
                simp
      have y0c := hq0.2.2.1
      refine g_iload (q0 := 28) (j := 4) rfl dX8_carryTree_26 rfl ?_
      refine g_aload_n (q0 := 29) (j := 2) rfl dX8_carryTree_28 rfl ?_
      refine g_getf (q0 := 32) (t := 0) (fi := 2) rfl rfl ff_X8_171 dX8_carryTree_29 rfl (by assumption) ?_
      refine g_icmp_ge (q0 := 35) (tgt := 181) rfl dX8_carryTree_32 (by decide) (fun h32 => ?_) (fun h32 => ?_)
      · omega
      · refine g_aload_n (q0 := 36) (j := 2) rfl dX8_carryTree_35 rfl ?_
        refine g_getp (q0 := 39) (b := u + 1) rfl ff_X8_180 dX8_carryTree_36 rfl hO1 (by omega) (by assumption) rfl rfl ?_
        refine g_iload (q0 := 41) (j := 4) rfl dX8_carryTree_39 rfl ?_
        refine g_iald (q0 := 42) rfl dX8_carryTree_41 (by assumption) (by omega) (by omega) ?_
        refine g_istore (q0 := 44) (j := 5) (lv2 := [_, _, _, _, _, _, _, _]) rfl dX8_carryTree_42 (by decide) rfl rfl ?_
        rw [ec1]
        refine g_aload_n (q0 := 45) (j := 1) rfl dX8_carryTree_44 rfl ?_
        refine g_getp (q0 := 48) (b := a + 1) rfl ff_X8_183 dX8_carryTree_45 rfl hO1 (by omega) (by assumption) rfl rfl ?_
        refine g_getf (q0 := 51) (t := 0) (fi := 0) rfl rfl ff_X8_186 dX8_carryTree_48 rfl (by assumption) ?_
        refine g_if_eq (q0 := 54) (tgt := 66) rfl dX8_carryTree_51 (by decide) (fun h51 => ?_) (fun h51 => ?_)
        · have hnil : pl.1 0 = [] := List.length_eq_zero_iff.mp (by omega)
          refine g_iconst (q0 := 67) rfl dX8_carryTree_66 (k := ?_)
          refine g_goto (tgt := 71) dX8_carryTree_67 (by decide) ?_
          refine g_istore (q0 := 73) (j := 6) (lv2 := [_, _, _, _, _, _, _, _]) rfl dX8_carryTree_71 (by decide) rfl rfl ?_
          exact h73 true _ g7 (by rw [decide_eq_true hnil]; rfl)
        · have hnil : ¬ pl.1 0 = [] := fun q => by rw [q] at y0c; simp at y0c; omega
          refine g_aload_n (q0 := 55) (j := 1) rfl dX8_carryTree_54 rfl ?_
          refine g_getp (q0 := 58) (b := a + 1) rfl ff_X8_183 dX8_carryTree_55 rfl hO1 (by omega) (by assumption) rfl rfl ?_
          refine g_iload (q0 := 60) (j := 5) rfl dX8_carryTree_58 rfl ?_
          refine g_callVp (as := [_]) (rest := []) mt_X4_cover mi_X4_cover se_X4_cover ml_X8_187 dX8_carryTree_60 (q0 := 63) rfl rfl (by assumption) rfl rfl (sp_X4_cover hO1 hq0 hr1 k4) rfl ⟨by decide, by decide⟩ (Nat.le_of_ble_eq_true rfl) ⟨Nat.zero_le _, Nat.zero_le _⟩ (fun hwc => ?_)
          refine g_if_eq (q0 := 66) (tgt := 70) rfl dX8_carryTree_63 (by decide) (fun h63 => ?_) (fun h63 => ?_)
          · refine g_iconst (q0 := 71) rfl dX8_carryTree_70 (k := ?_)
            refine g_istore (q0 := 73) (j := 6) (lv2 := [_, _, _, _, _, _, _, _]) rfl dX8_carryTree_71 (by decide) rfl rfl ?_
            exact h73 false _ g7 (by rw [decide_eq_false hnil, bI_f h63]; rfl)
          · refine g_iconst (q0 := 67) rfl dX8_carryTree_66 (k := ?_)
            refine g_goto (tgt := 71) dX8_carryTree_67 (by decide) ?_
            refine g_istore (q0 := 73) (j := 6) (lv2 := [_, _, _, _, _, _, _, _]) rfl dX8_carryTree_71 (by decide) rfl rfl ?_
            exact h73 true _ g7 (by rw [decide_eq_false hnil, bI_t h63]; rfl)
  have s382 := sh_382 hOK
  refine gC_ofA (lv := [_, _, _, _, _, _, _, _]) (by decide +kernel) (Nat.le_of_ble_eq_true rfl) rfl (fun hMw hav => ?_)
  refine g_aload_n (q0 := 1) (j := 0) rfl dX8_carryTree_0 rfl ?_
  refine g_getp (q0 := 4) (b := 380) rfl ff_X8_21 dX8_carryTree_1 rfl hOK (by decide) (sh_3 hOK) rfl (by decide) ?_
  refine g_getp (q0 := 7) (b := 382) rfl ff_X8_51 dX8_carryTree_4 rfl hOK (by decide) (sh_380 hOK) rfl (by decide) ?_
  refine g_astore_n (q0 := 8) (j := 3) (lv2 := [_, _, _, _, _, _, _, _]) rfl dX8_carryTree_7 (by decide) rfl rfl ?_
  refine g_aload_n (q0 := 9) (j := 3) rfl dX8_carryTree_8 rfl ?_
  refine g_iconst (q0 := 10) rfl dX8_carryTree_9 (k := ?_)
  refine g_put (q0 := 13) (t := 0) (fi := 2) rfl rfl ff_X8_171 dX8_carryTree_10 rfl (sh_382 hOK) rfl (fun _ => ⟨rfl, rfl⟩) ?_
  refine g_aload_n (q0 := 14) (j := 0) rfl dX8_carryTree_13 rfl ?_
  refine g_iconst (q0 := 15) rfl dX8_carryTree_14 (k := ?_)
  refine g_put (q0 := 18) (t := 0) (fi := 6) rfl rfl ff_X8_174 dX8_carryTree_15 rfl (sh_3 hOK) rfl (fun _ => ⟨rfl, rfl⟩) ?_
  refine g_aload_n (q0 := 19) (j := 0) rfl dX8_carryTree_18 rfl ?_
  refine g_iconst (q0 := 20) rfl dX8_carryTree_19 (k := ?_)
  refine g_put (q0 := 23) (t := 0) (fi := 7) rfl rfl ff_X8_177 dX8_carryTree_20 rfl (sh_3 hOK) rfl (fun _ => ⟨rfl, rfl⟩) ?_
  refine g_iconst (q0 := 24) rfl dX8_carryTree_23 (k := ?_)
  refine g_istore (q0 := 26) (j := 4) (lv2 := [_, _, _, _, _, _, _, _]) rfl dX8_carryTree_24 (by decide) rfl rfl ?_
  exact lp fs [] 0 0 0 [] _ _ _ _ trivial trivial trivial rfl rfl hUT (by simp) (by decide) (by decide) (by decide) (by decide) ⟨⟨⟨sh_382 hOK, sh_383 hOK, sh_384 hOK, by decide⟩, by decide, ⟨by decide, by simp [gU], fun j g hg => by simp at hg⟩, by decide⟩, by simp [gU], by simp [gU], gOK_o (f := 7) (gOK_o (f := 6) (gOK_o (f := 2) hOK (sh_382 hOK) rfl rfl) (sh_3 hOK) rfl rfl) (sh_3 hOK) rfl rfl, fun b b0 b1 _ _ => by rw [gU_cell _ _ _ b0, gU_cell _ _ _ b0, gU_cell _ _ _ b1]⟩ hx
