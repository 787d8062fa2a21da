-- ==== replay: the class
theorem hG_at {sh : gS} {M : gM} {a : Int} {ds : List hE} (h : hOk sh M a ds) {j : Nat} {e : hE} (hj : ds[j]? = some e) : M (a + 1) (j : Int) = e.1 ∧ M (a + 2) (j : Int) = e.2.1 ∧ M (a + 3) (j : Int) = e.2.2.1 := by
  have := h.2.2.2 j e hj
  rw [Int.zero_add] at this
  rw [← this]; exact ⟨rfl, rfl, rfl⟩
theorem sp_X0_fits {sh : gS} {M : gM} {a t : Int} {n : Nat} {ds : List hE} {o : List gF} (hOK : gOK sh M) (hD : hOk sh M a ds) (hT : tOk sh M t n o) : gC (gr 2 44) yX0_fits cX0_fits 4 (some (.boolean)) [(4, a), (4, t)] sh M (gPp sh M (0, bI (rpF ds o))) := by
  obtain ⟨s0, s1, s2, s3, s4, s5, s6⟩ := id hD.1
  have hl := hD.2.1
  refine w_X0_fits hOK ?_
  have lp : ∀ (suf pre : List hE), ds = pre ++ suf → P_X0_fits_2 sh (gPp sh M (0, bI (rpF suf o))) a t (pre.length : Int) M := by
    intro suf
    induction suf with
    | nil =>
      intro pre e
      rw [List.append_nil] at e
      refine w_X0_fits_2 hOK ⟨⟨s0, s6⟩, ?_⟩
      rw [hD.2.2.1, e, if_neg (by omega)]
      exact ⟨rfl, rfl, rfl⟩
    | cons x r ih =>
      intro pre e
      have hln := len_mid e
      have hx := hG_at hD (at_mid e)
      have ih' := ih (pre ++ [x]) (app_mid e)
      rw [List.length_append, List.length_singleton] at ih'
      have nx : ((pre.length : Int) + 1) = ((pre.length + 1 : Nat) : Int) := by omega
      refine w_X0_fits_2 hOK ⟨⟨s0, s6⟩, ?_⟩
      rw [hD.2.2.1, if_pos (by omega), gw32_id (by omega) (by omega), nx]
      rw [hx.1, hx.2.1, hx.2.2]
      refine ⟨_, s1, ⟨by omega, by omega⟩, ⟨hT.1.1, hT.1.2.2.2⟩, _, sp_X10_contentAt hOK hT, _, s2, ⟨by omega, by omega⟩, ?_⟩
      have un : rpF (x :: r) o = (decide (tCont x.1 o = x.2.1 ∨ tCont x.1 o = x.2.2.1) && rpF r o) := rfl
      by_cases c1 : tCont x.1 o = x.2.1
      · rw [if_pos c1, un, decide_eq_true (Or.inl c1), Bool.true_and]; exact ih'
      · rw [if_neg c1]
        refine ⟨_, s3, ⟨by omega, by omega⟩, ?_⟩
        by_cases c2 : tCont x.1 o = x.2.2.1
        · rw [if_pos c2, un, decide_eq_true (Or.inr c2), Bool.true_and]; exact ih'
        · rw [if_neg c2, un, decide_eq_false (fun w => w.elim c1 c2), Bool.false_and]
          exact ⟨rfl, rfl, rfl⟩
  exact lp ds [] rfl
theorem rpT_len (gs fs : List gF) : fs.length ≤ (rpPt gs fs).length := by
  induction gs generalizing fs with
  | nil => exact Nat.le_refl _
  | cons g r ih => exact Nat.le_trans (tPut_len g.1 g.2 fs).2 (ih _)
theorem sp_X0_apply {sh : gS} {M : gM} {a t : Int} {n : Nat} {ds : List hE} {o : List gF} (hOK : gOK sh M) (hD : hOk sh M a ds) (hT : tOk sh M t n o) (hat : t + 2 < a ∨ a + 5 < t) (hp : ∀ e ∈ ds, 0 ≤ e.1 ∧ e.1 < 1073741824) (hn : (rpT ds o).length ≤ n) : gC (gr 1 24) yX0_apply cX0_apply 3 none [(4, a), (4, t)] sh M (gPm sh (fun r M1 => r = none ∧ tPost sh M t n (rpT ds o) M1)) := by
  obtain ⟨s0, s1, s2, s3, s4, s5, s6⟩ := id hD.1
  have hl := hD.2.1
  refine w_X0_apply hOK ?_
  have lp2 : ∀ (suf pre : List hE) (cur : List gF) (M1 : gM), ds = pre ++ suf → tPost sh M t n cur M1 → (rpPt ((suf.filter eN).map eC) cur) = rpT ds o → P_X0_apply_37 sh (gPm sh (fun r M1 => r = none ∧ tPost sh M t n (rpT ds o) M1)) a t (pre.length : Int) M1 := by
    intro suf
    induction suf with
    | nil =>
      intro pre cur M1 e hP hq
      rw [List.append_nil] at e
      have hD1 := hOk_keep hD (fun b b0 b1 => hP.2.2 b (by omega) (by omega) (by omega))
      refine w_X0_apply_37 hP.2.1 ⟨⟨s0, s6⟩, ?_⟩
      rw [hD1.2.2.1, e, if_neg (by omega)]
      have hq' : cur = rpT pre o := by rw [← e]; exact hq
      rw [← e]
      rw [← e] at hq'
      exact ⟨rfl, rfl, hq' ▸ hP⟩
    | cons x r ih =>
      intro pre cur M1 e hP hq
      have hln := len_mid e
      have hD1 := hOk_keep hD (fun b b0 b1 => hP.2.2 b (by omega) (by omega) (by omega))
      have hx := hG_at hD1 (at_mid e)
      have ih' := ih (pre ++ [x])
      rw [List.length_append, List.length_singleton] at ih'
      have nx : ((pre.length : Int) + 1) = ((pre.length + 1 : Nat) : Int) := by omega
      refine w_X0_apply_37 hP.2.1 ⟨⟨s0, s6⟩, ?_⟩
      rw [hD1.2.2.1, if_pos (by omega), gw32_id (by omega) (by omega), nx, hx.1, hx.2.2]
      refine ⟨_, s3, ⟨by omega, by omega⟩, ?_⟩
      by_cases c : x.2.2.1 = 0
      · rw [if_pos c]
        have ng : ¬ eN x = true := by show ¬ (!decide (x.2.2.1 = 0)) = true; rw [decide_eq_true c]; decide
        rw [List.filter_cons_of_neg ng] at hq
        exact ih' cur M1 (app_mid e) hP hq
      · rw [if_neg c]
        have pg : eN x = true := by show (!decide (x.2.2.1 = 0)) = true; rw [decide_eq_false c]; rfl
        rw [List.filter_cons_of_pos pg, List.map_cons, rpPt_cons] at hq
        have l1 := rpT_len ((r.filter eN).map eC) (tPut (eC x).1 (eC x).2 cur)
        rw [hq] at l1
        refine ⟨_, s1, ⟨by omega, by omega⟩, ⟨hT.1.1, hT.1.2.2.2⟩, _, sp_X10_put (w := x.1) (c := x.2.2.1) hP.2.1 hP.1 (hp x (by rw [e]; simp)) (Nat.le_trans l1 hn), fun r3 M3 hP3 => ?_⟩
        obtain ⟨rfl, p1, p2, p3⟩ := hP3
        exact ⟨rfl, p2, ih' _ M3 (app_mid e) ⟨p1, p2, fun b b0 b1 b2 => by rw [p3 b b0 b1 b2]; exact hP.2.2 b b0 b1 b2⟩ hq⟩
  have lp : ∀ (suf pre : List hE) (cur : List gF) (M1 : gM), ds = pre ++ suf → tPost sh M t n cur M1 → rpPt ((ds.filter eN).map eC) (rpRm ((suf.filter eP0).map (fun e => e.1)) cur) = rpT ds o → P_X0_apply_2 sh (gPm sh (fun r M1 => r = none ∧ tPost sh M t n (rpT ds o) M1)) a t (pre.length : Int) M1 := by
    intro suf
    induction suf with
    | nil =>
      intro pre cur M1 e hP hq
      rw [List.append_nil] at e
      have hD1 := hOk_keep hD (fun b b0 b1 => hP.2.2 b (by omega) (by omega) (by omega))
      refine w_X0_apply_2 hP.2.1 ⟨⟨s0, s6⟩, ?_⟩
      rw [hD1.2.2.1, if_neg (by rw [e]; omega)]
      exact lp2 ds [] cur M1 rfl hP hq
    | cons x r ih =>
      intro pre cur M1 e hP hq
      have hln := len_mid e
      have hD1 := hOk_keep hD (fun b b0 b1 => hP.2.2 b (by omega) (by omega) (by omega))
      have hx := hG_at hD1 (at_mid e)
      have ih' := ih (pre ++ [x])
      rw [List.length_append, List.length_singleton] at ih'
      have nx : ((pre.length : Int) + 1) = ((pre.length + 1 : Nat) : Int) := by omega
      refine w_X0_apply_2 hP.2.1 ⟨⟨s0, s6⟩, ?_⟩
      rw [hD1.2.2.1, if_pos (by omega), gw32_id (by omega) (by omega), nx, hx.1, hx.2.2]
      refine ⟨_, s3, ⟨by omega, by omega⟩, ?_⟩
      by_cases c : x.2.2.1 = 0
      · rw [if_pos c]
        rw [List.filter_cons_of_pos (show eP0 x = true from decide_eq_true c), List.map_cons, rpRm_cons] at hq
        refine ⟨_, s1, ⟨by omega, by omega⟩, ⟨hT.1.1, hT.1.2.2.2⟩, _, sp_X10_removeFile (w := x.1) hP.2.1 hP.1 (hp x (by rw [e]; simp)), fun r3 M3 hP3 => ?_⟩
        obtain ⟨rfl, p1, p2, p3⟩ := hP3
        exact ⟨rfl, p2, ih' _ M3 (app_mid e) ⟨p1, p2, fun b b0 b1 b2 => by rw [p3 b b0 b1 b2]; exact hP.2.2 b b0 b1 b2⟩ hq⟩
      · rw [if_neg c]
        rw [List.filter_cons_of_neg (show ¬ eP0 x = true by show ¬ decide (x.2.2.1 = 0) = true; rw [decide_eq_false c]; decide)] at hq
        exact ih' cur M1 (app_mid e) hP hq
  exact lp ds [] o M rfl ⟨hT, hOK, fun _ _ _ _ => rfl⟩ rfl
theorem sp_X11_replay {sh : gS} {M : gM} {z : aS} {h a k : Int} (hz : cS sh M z) (hG : kGd (aCs z)) (hR : ∀ h : Int, 0 ≤ h → h < 4 → rGd ((aCs z).length : Int) (aRs z h)) : gC (gr 5 160) yX11_replay cX11_replay 6 (some (.int)) [(4, 0), (0, h), (0, a), (0, k)] sh M (cPo sh M 0 (aReplay z h a k).1 (aReplay z h a k).2) := by
  obtain ⟨hOK, hC, -, hRs, -⟩ := id hz
  have hl9 := hC.2.1
  unfold aReplay
  have no : ∀ y : Int × aS, ¬ ((0 ≤ h ∧ h ≤ 3) ∧ (0 ≤ a ∧ a ≤ 25) ∧ bC (aCs z) k = true) → cPo sh M 0 (if (0 ≤ h ∧ h ≤ 3) ∧ (0 ≤ a ∧ a ≤ 25) ∧ bC (aCs z) k = true then y else (-1, z)).1 (if (0 ≤ h ∧ h ≤ 3) ∧ (0 ≤ a ∧ a ≤ 25) ∧ bC (aCs z) k = true then y else (-1, z)).2 (some (0, -1)) sh M := fun y q => by
    rw [if_neg q]; exact cPo_same hz rfl
  refine w_X11_replay hOK ⟨_, sp_X11_isHistory hOK, ?_⟩
  by_cases q1 : 0 ≤ h ∧ h ≤ 3
  · rw [decide_eq_true q1, if_neg bIt]
    refine ⟨_, sp_X11_isLetter hOK, ?_⟩
    by_cases q2 : 0 ≤ a ∧ a ≤ 25
    · rw [decide_eq_true q2, if_neg bIt]
      refine ⟨_, sp_X1_has hOK hC, ?_⟩
      rw [hasI]
      by_cases q3 : bC (aCs z) k = true
      · rw [if_neg (bI_ne q3), if_pos (show (0 ≤ h ∧ h ≤ 3) ∧ (0 ≤ a ∧ a ≤ 25) ∧ bC (aCs z) k = true from ⟨q1, q2, q3⟩)]
        clear no
        obtain ⟨n, c, rfl, hk, hl⟩ := bC_at q3
        rw [Int.toNat_natCast, rpC_at hk]
        have rA := (hRs h q1.1 (by omega)).1
        have hRg := hR h q1.1 (by omega)
        refine ⟨⟨q1.1, by omega⟩, ⟨rA.1.1, by omega⟩, _, sp_X7_branch hOK rA, ?_⟩
        have ba := (branch_is hRg q2).2
        have rp : ((rGet 0 a (aRs z h)).getD (-1) = -1) ∨ (rGet 0 a (aRs z h) ≠ none ∧ ∃ p : Nat, (rGet 0 a (aRs z h)).getD (-1) = (p : Int) ∧ p < (aCs z).length) := by
          rcases ba with e | ⟨c, e, e2, e3⟩
          · rw [e]; exact Or.inl rfl
          · rw [e]; exact Or.inr ⟨(fun w => by cases w), c.toNat, by show c = _; omega, by omega⟩
        generalize (rGet 0 a (aRs z h)).getD (-1) = P at rp ⊢
        unfold rpV
        rcases rp with rfl | ⟨hgn, p, rfl, hp⟩
        · rw [if_pos (by decide), if_pos (show (-1 : Int) < 0 by decide)]; exact cPo_same hz rfl
        rw [if_neg (by omega), if_neg (show ¬ ((p : Int) < 0) by omega), Int.toNat_natCast]
        have hcp := List.getElem?_eq_getElem hp
        generalize (aCs z)[p] = d at hcp
        rw [fFs_at hcp]
        obtain ⟨E1, E2, E3, E4, E5⟩ := eL_is hG hk
        have gd := hG.2 d (List.mem_of_getElem? hcp)
        have l2 := (hG.1 p d hcp).1.2.2.2.2.2.2
        have hwc := (hG.1 n c hk).1
        obtain ⟨f1, f2, f3⟩ := kFF_hd hG.1 hk
        obtain ⟨g1, g2, g3⟩ := kFs_hd hG.1 hk
        obtain ⟨m, hm, hF⟩ := cFT_ok hOK hC hk
        obtain ⟨lf1, lf2⟩ := cFT_lt hC hk
        refine ⟨_, sp_X1_firstTree hOK hC hk, _, sp_X1_tree hOK hC hk, _, sp_X0_measure hOK (hSh440 hOK) hF (cT_rng hC hk).2.2 ⟨Or.inl lf1, Or.inl lf2⟩ (by omega) f2 g2, fun r1 M1 hP1 => ?_⟩
        obtain ⟨rfl, d1, d2, d3, -⟩ := hP1
        have z1 : cS sh M1 z := cS_keep hz d2 (fun b hb => d3 b (by omega))
        have hds : ∀ e ∈ mg 32 (kFF (aCs z) c) (kFs c) 0 0, 0 ≤ e.1 ∧ e.1 < 1073741824 := fun e he => by
          have : e3 e ∈ eL (mg 32 (kFF (aCs z) c) (kFs c) 0 0) := by
            refine List.mem_append.mpr ?_
            cases hb : eP0 e with
            | true => exact Or.inr (List.mem_map_of_mem (List.mem_filter.mpr ⟨he, hb⟩))
            | false => exact Or.inl (List.mem_map_of_mem (List.mem_filter.mpr ⟨he, by unfold eN; rw [hb]; rfl⟩))
          have := E3 _ this
          exact ⟨this.1, this.2.1⟩
        have E4' : tW (((mg 32 (kFF (aCs z) c) (kFs c) 0 0).filter eN).map eC) := fun x hx => by
          obtain ⟨e, he, rfl⟩ := List.mem_map.mp hx
          have hm2 : e3 e ∈ eL (mg 32 (kFF (aCs z) c) (kFs c) 0 0) := List.mem_append.mpr (Or.inl (List.mem_map_of_mem he))
          exact E4 _ hm2 (fun w => by
            have h2 := (List.mem_filter.mp he).2
            have h3 : (!decide (e.2.2.1 = 0)) = true := h2
            rw [decide_eq_true (show e.2.2.1 = 0 from w)] at h3; cases h3)
        generalize mg 32 (kFF (aCs z) c) (kFs c) 0 0 = ds at d1 E5 hds E4' ⊢
        have rg := rpRm_gd ((ds.filter eP0).map (fun e => e.1)) (kFs d) gd
        have tl := (rpPt_is ((ds.filter eN).map eC) _ rg.1.1 rg.1.2.2 E4').2.2
        rw [List.length_map] at tl
        have tl32 : (rpT ds (kFs d)).length ≤ 32 := by show (rpPt _ _).length ≤ 32; omega
        obtain ⟨⟨w1, w2, w3, w4, w5, w6⟩, -⟩ := z1.2.1.2.2.2 n c hk
        refine ⟨rfl, d2, ⟨by omega, by omega⟩, _, sp_X2_begin d2 (dSh399 d2), fun r2 M2 hP2 => ?_⟩
        obtain ⟨rfl, b1, b2, b3⟩ := hP2
        rw [w5, w6] at b1
        refine ⟨rfl, b2, _, sp_X2_addParent b2 b1, fun r3 M3 hP3 => ?_⟩
        obtain ⟨rfl, i1, i2, i3⟩ := hP3
        have i1' : dOk sh M3 399 ([(p : Int)], [], [], kWh c, kHr c) := i1
        have z3 : cS sh M3 z := cS_keep z1 i2 (fun x hx => by rw [i3 x (by omega), b3 x (by omega)])
        refine ⟨rfl, i2, _, sp_X2_takeMessage i2 z3.2.1 hk i1', fun r4 M4 hP4 => ?_⟩
        obtain ⟨rfl, m1, m2, m3⟩ := hP4
        have m1' : dOk sh M4 399 ([(p : Int)], [], kMs c, kWh c, kHr c) := m1
        have z4 : cS sh M4 z := cS_keep z3 m2 (fun x hx => m3 x (by omega))
        obtain ⟨-, -, tp⟩ := cT_rng z4.2.1 hcp
        have bp := cT_lt z4.2.1 hcp
        refine ⟨rfl, m2, _, sp_X1_tree m2 z4.2.1 hcp, _, sp_X10_copy (fs := []) (n := 32) m2 (dSh399 m2).2.2.1 (by decide) tp (by omega) (by omega), fun r5 M5 hP5 => ?_⟩
        obtain ⟨rfl, j1, j2, j3⟩ := hP5
        have z5 : cS sh M5 z := cS_keep z4 j2 (fun x hx => j3 x (by omega) (by omega) (by omega))
        have hD5 : hOk sh M5 440 ds := hOk_keep d1 (fun b c0 c1 => by rw [j3 b (by omega) (by omega) (by omega), m3 b (by omega), i3 b (by omega), b3 b (by omega)])
        have f5 : ∀ x : Int, (x = 475 ∨ x = 476 ∨ 710 < x) → M5 x = M x := fun x hx => by rw [j3 x (by omega) (by omega) (by omega), m3 x (by omega), i3 x (by omega), b3 x (by omega), d3 x (by omega)]
        refine ⟨rfl, j2, _, sp_X0_fits j2 hD5 j1, ?_⟩
        cases hb : rpF ds (kFs d) with
        | false =>
          rw [if_pos bIf, Bool.false_and, if_pos rfl]
          exact ⟨rfl, rfl, z5, f5⟩
        | true =>
          rw [if_neg bIt, Bool.true_and]
          refine ⟨_, sp_X0_apply j2 hD5 j1 (Or.inl (by decide)) hds tl32, fun r6 M6 hP6 => ?_⟩
          obtain ⟨rfl, t1, t2, t3⟩ := hP6
          have z6 : cS sh M6 z := cS_keep z5 t2 (fun x hx => t3 x (by omega) (by omega) (by omega))
          have f6 : ∀ x : Int, (x = 475 ∨ x = 476 ∨ 710 < x) → M6 x = M x := fun x hx => by rw [t3 x (by omega) (by omega) (by omega), f5 x hx]
          refine ⟨rfl, t2, _, sp_X10_clashes t2 t1, ?_⟩
          cases hcl : tClash0 (rpT ds (kFs d)) with
          | true =>
            rw [if_neg bIt, if_pos (show (!true) = false from rfl)]
            exact ⟨rfl, rfl, z6, f6⟩
          | false =>
            rw [if_pos bIf, if_neg (show ¬ (!false) = false by decide), (tOk_c t1).1]
            by_cases q16 : 16 < (rpT ds (kFs d)).length
            · rw [if_pos (by omega), if_pos q16]
              exact ⟨rfl, rfl, z6, f6⟩
            · rw [if_neg (by omega), if_neg q16]
              obtain ⟨-, -, tp6⟩ := cT_rng z6.2.1 hcp
              refine ⟨_, sp_X1_tree t2 z6.2.1 hcp, _, sp_X10_isLike t2 t1 tp6, ?_⟩
              by_cases qe : rpT ds (kFs d) = kFs d
              · rw [decide_eq_true qe, if_neg bIt, if_pos qe]
                exact ⟨rfl, rfl, z6, f6⟩
              · rw [decide_eq_false qe, if_pos bIf, if_neg qe]
                have hD6 : dOk sh M6 399 ([(p : Int)], rpT ds (kFs d), kMs c, kWh c, kHr c) := dOk_tree m1' t1 (fun x x0 x1 x2 _ => by rw [t3 x x0 x1 x2]; exact j3 x x0 x1 x2)
                have hwf : kWf ((aCs z).length : Int) ([(p : Int)], rpT ds (kFs d), kMs c, kWh c, kHr c) := ⟨(show 1 ≤ 3 by decide), (fun x hx => by
                  rw [List.mem_singleton.mp hx]; omega), hwc.2.2.1, hwc.2.2.2.1, hwc.2.2.2.2.1, hwc.2.2.2.2.2.1, (show (rpT ds (kFs d)).length ≤ 16 by omega)⟩
                refine ⟨_, sp_X11_settleOn (M0 := M) z6 hD6 hwf hRg q1 q2 hgn f6, fun r7 M7 hP7 => ?_⟩
                obtain ⟨rfl, v1, v2⟩ := hP7
                exact ⟨_, rfl, v1.1, rfl, rfl, v1, v2⟩
      · rw [if_pos (bI_eq (by simpa using q3))]; exact no _ (fun w => q3 w.2.2)
    · rw [decide_eq_false q2, if_pos bIf]; exact no _ (fun w => q2 w.2.1)
  · rw [decide_eq_false q1, if_pos bIf]; exact no _ (fun w => q1 w.1)
