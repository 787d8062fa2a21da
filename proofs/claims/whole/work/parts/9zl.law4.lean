-- ==== the law, its loop
section
variable {l : Launch} {G : gG} {p : Program} {e : Env} {s : State} {m : MethodId} {args : Array Value} {below : List Frame} {meth : Method} {c : Code} {Z : State → Prop}
theorem lw_loop {b : Nat} (hb33 : G.2.2.2 33 = some b) (hL : scL G ≤ 3072) (hend : ∀ (cc cd : Nat) (i : Int) (sh : gS) (M : gM), cc ≤ 600000 → cd ≤ 7302249 → gB l G p e s m args below meth c Z room_1 yL_law cL_law 4 ret (cc, cd) 1501 [(5, 33), (4, 0), (4, 711), (0, i)] [(0, 1)] sh M) :
    ∀ (k : Nat) (i : Int) (cc cd : Nat) (sh : gS) (M : gM) (z : aS), 0 ≤ i → i ≤ 3072 → scL G < i + 6 + 6 * (k : Int) → cc + 5 * k ≤ 600000 → cd + 1106 * k ≤ 7302249 → lwS sh M z → gB l G p e s m args below meth c Z room_1 yL_law cL_law 4 ret (cc, cd) 18 [(5, 33), (4, 0), (4, 711), (0, i)] [] sh M := by
  intro k
  induction k with
  | zero =>
    intro i cc cd sh M z h0 h3 hk hc1 hc2 hS
    have hl0 : 0 ≤ scL G := Int.natCast_nonneg _
    refine q_iload_n (q0 := 19) (j := 3) rfl dL_law_18 rfl ?_
    refine q_aload5_n (q0 := 20) (j := 0) rfl dL_law_19 rfl ?_
    refine q_sclen (q0 := 21) rfl hb33 hL dL_law_20 ?_
    refine q_bipush (q0 := 23) rfl dL_law_21 (k := ?_)
    refine q_isub (q0 := 24) rfl dL_law_23 (by omega) (by omega) ?_
    refine q_icmp_gt (q0 := 27) (tgt := 1500) rfl dL_law_24 (by decide) (fun h => ?_) (fun h => by omega)
    refine q_iconst (q0 := 1501) rfl dL_law_1500 (k := ?_)
    exact hend cc cd i sh M (by omega) (by omega)
  | succ k ih =>
    intro i cc cd sh M z h0 h3 hk hc1 hc2 hS
    have hl0 : 0 ≤ scL G := Int.natCast_nonneg _
    refine q_iload_n (q0 := 19) (j := 3) rfl dL_law_18 rfl ?_
    refine q_aload5_n (q0 := 20) (j := 0) rfl dL_law_19 rfl ?_
    refine q_sclen (q0 := 21) rfl hb33 hL dL_law_20 ?_
    refine q_bipush (q0 := 23) rfl dL_law_21 (k := ?_)
    refine q_isub (q0 := 24) rfl dL_law_23 (by omega) (by omega) ?_
    refine q_icmp_gt (q0 := 27) (tgt := 1500) rfl dL_law_24 (by decide) (fun h => ?_) (fun h => ?_)
    · refine q_iconst (q0 := 1501) rfl dL_law_1500 (k := ?_)
      exact hend cc cd i sh M (by omega) (by omega)
    have h6 : i + 6 ≤ scL G := by omega
    have g1 : cc + 5 ≤ 600000 := by omega
    have g2 : cd + 1106 ≤ 7302249 := Nat.le_trans (Nat.add_le_add_left (Nat.le_mul_of_pos_right 1106 (Nat.succ_pos k)) cd) hc2
    have kk : ∀ (sh2 : gS) (M2 : gM) (z2 : aS), lwS sh2 M2 z2 → gB l G p e s m args below meth c Z room_1 yL_law cL_law 4 ret (cc + 5, cd + 1106) 1494 [(5, 33), (4, 0), (4, 711), (0, i)] [] sh2 M2 := fun sh2 M2 z2 hS2 => by
      refine q_iinc (q0 := 1497) (lv2 := [_, _, _, _]) rfl dL_law_1494 rfl (by decide) rfl rfl (by omega) (by omega) ?_
      refine q_goto (tgt := 18) dL_law_1497 (by decide) ?_
      exact ih (i + 6) (cc + 5) (cd + 1106) sh2 M2 z2 (by omega) (by omega) (by omega) (by omega) (by omega) hS2
    refine q_aload5_n (q0 := 28) (j := 0) rfl dL_law_27 rfl ?_
    refine q_iload_n (q0 := 29) (j := 3) rfl dL_law_28 rfl ?_
    refine q_scld (q0 := 30) rfl hb33 h0 (by omega) dL_law_29 ?_
    refine q_bipush (q0 := 32) rfl dL_law_30 (k := ?_)
    refine q_iand (q0 := 33) rfl dL_law_32 ?_
    generalize gand (scX G i) 63 = v
    by_cases hv : 0 ≤ v ∧ v ≤ 34
    · have hc : v = 0 ∨ v = 1 ∨ v = 2 ∨ v = 3 ∨ v = 4 ∨ v = 5 ∨ v = 6 ∨ v = 7 ∨ v = 8 ∨ v = 9 ∨ v = 10 ∨ v = 11 ∨ v = 12 ∨ v = 13 ∨ v = 14 ∨ v = 15 ∨ v = 16 ∨ v = 17 ∨ v = 18 ∨ v = 19 ∨ v = 20 ∨ v = 21 ∨ v = 22 ∨ v = 23 ∨ v = 24 ∨ v = 25 ∨ v = 26 ∨ v = 27 ∨ v = 28 ∨ v = 29 ∨ v = 30 ∨ v = 31 ∨ v = 32 ∨ v = 33 ∨ v = 34 := by omega
      rcases hc with rfl | rfl | rfl | rfl | rfl | rfl | rfl | rfl | rfl | rfl | rfl | rfl | rfl | rfl | rfl | rfl | rfl | rfl | rfl | rfl | rfl | rfl | rfl | rfl | rfl | rfl | rfl | rfl | rfl | rfl | rfl | rfl | rfl | rfl | rfl
      · refine q_tabIn (off := 155) (tgt := 188) dL_law_33 (by decide) (by decide) rfl (by decide) ?_
        exact lwc_feed hb33 hL h0 h6 g1 g2 hS kk
      · refine q_tabIn (off := 218) (tgt := 251) dL_law_33 (by decide) (by decide) rfl (by decide) ?_
        exact lwc_commit hb33 hL h0 h6 g1 g2 hS kk
      · refine q_tabIn (off := 261) (tgt := 294) dL_law_33 (by decide) (by decide) rfl (by decide) ?_
        exact lwc_plan hb33 hL h0 h6 g1 g2 hS kk
      · refine q_tabIn (off := 294) (tgt := 327) dL_law_33 (by decide) (by decide) rfl (by decide) ?_
        exact lwc_ref hb33 hL h0 h6 g1 g2 hS kk
      · refine q_tabIn (off := 347) (tgt := 380) dL_law_33 (by decide) (by decide) rfl (by decide) ?_
        exact lwc_run hb33 hL h0 h6 g1 g2 hS kk
      · refine q_tabIn (off := 370) (tgt := 403) dL_law_33 (by decide) (by decide) rfl (by decide) ?_
        exact lwc_again hb33 hL h0 h6 g1 g2 hS kk
      · refine q_tabIn (off := 393) (tgt := 426) dL_law_33 (by decide) (by decide) rfl (by decide) ?_
        exact lwc_join hb33 hL h0 h6 g1 g2 hS kk
      · refine q_tabIn (off := 456) (tgt := 489) dL_law_33 (by decide) (by decide) rfl (by decide) ?_
        exact lwc_replay hb33 hL h0 h6 g1 g2 hS kk
      · refine q_tabIn (off := 499) (tgt := 532) dL_law_33 (by decide) (by decide) rfl (by decide) ?_
        exact lwc_commitIs hb33 hL h0 h6 g1 g2 hS kk
      · refine q_tabIn (off := 532) (tgt := 565) dL_law_33 (by decide) (by decide) rfl (by decide) ?_
        exact lwc_spelt hb33 hL h0 h6 g1 g2 hS kk
      · refine q_tabIn (off := 565) (tgt := 598) dL_law_33 (by decide) (by decide) rfl (by decide) ?_
        exact lwc_look hb33 hL h0 h6 g1 g2 hS kk
      · refine q_tabIn (off := 608) (tgt := 641) dL_law_33 (by decide) (by decide) rfl (by decide) ?_
        exact lwc_planIs hb33 hL h0 h6 g1 g2 hS kk
      · refine q_tabIn (off := 641) (tgt := 674) dL_law_33 (by decide) (by decide) rfl (by decide) ?_
        exact lwc_image hb33 hL h0 h6 g1 g2 hS kk
      · refine q_tabIn (off := 684) (tgt := 717) dL_law_33 (by decide) (by decide) rfl (by decide) ?_
        exact lwc_tried hb33 hL h0 h6 g1 g2 hS kk
      · refine q_tabIn (off := 727) (tgt := 760) dL_law_33 (by decide) (by decide) rfl (by decide) ?_
        exact lwc_share hb33 hL h0 h6 g1 g2 hS kk
      · refine q_tabIn (off := 751) (tgt := 784) dL_law_33 (by decide) (by decide) rfl (by decide) ?_
        exact lwc_sound hb33 hL h0 h6 g1 g2 hS kk
      · refine q_tabIn (off := 784) (tgt := 817) dL_law_33 (by decide) (by decide) rfl (by decide) ?_
        exact lwc_refIs hb33 hL h0 h6 g1 g2 hS kk
      · refine q_tabIn (off := 827) (tgt := 860) dL_law_33 (by decide) (by decide) rfl (by decide) ?_
        exact lwc_historyIs hb33 hL h0 h6 g1 g2 hS kk
      · refine q_tabIn (off := 860) (tgt := 893) dL_law_33 (by decide) (by decide) rfl (by decide) ?_
        exact lwc_listing hb33 hL h0 h6 g1 g2 hS kk
      · refine q_tabIn (off := 893) (tgt := 926) dL_law_33 (by decide) (by decide) rfl (by decide) ?_
        exact lwc_ancestor hb33 hL h0 h6 g1 g2 hS kk
      · refine q_tabIn (off := 926) (tgt := 959) dL_law_33 (by decide) (by decide) rfl (by decide) ?_
        exact lwc_base hb33 hL h0 h6 g1 g2 hS kk
      · refine q_tabIn (off := 969) (tgt := 1002) dL_law_33 (by decide) (by decide) rfl (by decide) ?_
        exact lwc_way hb33 hL h0 h6 g1 g2 hS kk
      · refine q_tabIn (off := 1002) (tgt := 1035) dL_law_33 (by decide) (by decide) rfl (by decide) ?_
        exact lwc_halving hb33 hL h0 h6 g1 g2 hS kk
      · refine q_tabIn (off := 1045) (tgt := 1078) dL_law_33 (by decide) (by decide) rfl (by decide) ?_
        exact lwc_diff hb33 hL h0 h6 g1 g2 hS kk
      · refine q_tabIn (off := 1088) (tgt := 1121) dL_law_33 (by decide) (by decide) rfl (by decide) ?_
        exact lwc_renamed hb33 hL h0 h6 g1 g2 hS kk
      · refine q_tabIn (off := 1141) (tgt := 1174) dL_law_33 (by decide) (by decide) rfl (by decide) ?_
        exact lwc_likeness hb33 hL h0 h6 g1 g2 hS kk
      · refine q_tabIn (off := 1204) (tgt := 1237) dL_law_33 (by decide) (by decide) rfl (by decide) ?_
        exact lwc_origin hb33 hL h0 h6 g1 g2 hS kk
      · refine q_tabIn (off := 1247) (tgt := 1280) dL_law_33 (by decide) (by decide) rfl (by decide) ?_
        exact lwc_touches hb33 hL h0 h6 g1 g2 hS kk
      · refine q_tabIn (off := 1280) (tgt := 1313) dL_law_33 (by decide) (by decide) rfl (by decide) ?_
        exact lwc_apart hb33 hL h0 h6 g1 g2 hS kk
      · refine q_tabIn (off := 1323) (tgt := 1356) dL_law_33 (by decide) (by decide) rfl (by decide) ?_
        exact lwc_picked hb33 hL h0 h6 g1 g2 hS kk
      · refine q_tabIn (off := 1356) (tgt := 1389) dL_law_33 (by decide) (by decide) rfl (by decide) ?_
        exact lwc_line hb33 hL h0 h6 g1 g2 hS kk
      · refine q_tabIn (off := 1389) (tgt := 1422) dL_law_33 (by decide) (by decide) rfl (by decide) ?_
        exact lwc_keep hb33 hL h0 h6 g1 g2 hS kk
      · refine q_tabIn (off := 1402) (tgt := 1435) dL_law_33 (by decide) (by decide) rfl (by decide) ?_
        exact lwc_undo hb33 hL h0 h6 g1 g2 hS kk
      · refine q_tabIn (off := 1415) (tgt := 1448) dL_law_33 (by decide) (by decide) rfl (by decide) ?_
        exact lwc_check hb33 hL h0 h6 g1 g2 hS kk
      · refine q_tabIn (off := 1438) (tgt := 1471) dL_law_33 (by decide) (by decide) rfl (by decide) ?_
        exact lwc_count hb33 hL h0 h6 g1 g2 hS kk
    · refine q_tabOut (tgt := 1494) dL_law_33 (by omega) (by decide) ?_
      exact gB_ck (Nat.le_add_right _ _) (Nat.le_add_right _ _) (kk _ _ _ hS)
end
