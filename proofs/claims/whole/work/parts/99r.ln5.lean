-- ==== PlanText: isTooMany, readLine
def lnMany (w : Nat) (pl : kP) (T : Nat) : Bool := (decide (2 ≤ w ∧ w ≤ 7 ∧ 4 ≤ (pl.1 (w - 2)).length)) || (decide (10 ≤ w) && T.testBit (w - 10))
def lnT (w T : Nat) : Nat := if 10 ≤ w then T ||| (1 <<< (w - 10)) else T
theorem bt_all : ∀ T : Nat, T < 32 → ∀ j : Nat, j < 5 → (gand (gushr (1024 * (T : Int)) ((10 + j : Nat) : Int)) 1 = if T.testBit j then 1 else 0) ∧ gor (1024 * (T : Int)) (gshl 1 ((10 + j : Nat) : Int)) = 1024 * ((T ||| (1 <<< j) : Nat) : Int) ∧ (T ||| (1 <<< j)) < 32 := by decide +kernel
theorem lnT_lt {w T : Nat} (hT : T < 32) (hw : w < 15) : lnT w T < 32 := by
  unfold lnT
  by_cases h : 10 ≤ w
  · rw [if_pos h]; exact (bt_all T hT (w - 10) (by omega)).2.2
  · rw [if_neg h]; exact hT
theorem sp_X6_isTooMany {sh : gS} {M0 M : gM} {n st p : Int} {s : List Int} {pl : kP} {T w : Nat} (h : lS sh M0 M n st p s pl T) (hT : T < 32) (hw : w < 15) : gC (gr 1 21) yX6_isTooMany cX6_isTooMany 3 (some (.boolean)) [(4, 410), (0, (w : Int))] sh M (gPm sh (fun r M1 => r = some (0, bI (lnMany w pl T)) ∧ lS sh M0 M1 n st p s pl (lnT w T))) := by
  have hOK := h.1.1
  obtain ⟨hF, hI, h0, hP, c1, c2, c3⟩ := id h
  refine w_X6_isTooMany hOK ?_
  have tail : ¬ (2 ≤ w ∧ w ≤ 7) → P_X6_isTooMany_29 sh (gPm sh (fun r M1 => r = some (0, bI (lnMany w pl T)) ∧ lS sh M0 M1 n st p s pl (lnT w T))) (w : Int) M := fun hno => by
    refine w_X6_isTooMany_29 hOK ?_
    unfold lnMany lnT
    rw [decide_eq_false (show ¬ (2 ≤ w ∧ w ≤ 7 ∧ 4 ≤ (pl.1 (w - 2)).length) from fun z => hno ⟨z.1, z.2.1⟩), Bool.false_or]
    by_cases q : w < 10
    · rw [if_pos (show (w : Int) < 10 by omega), if_neg (show ¬ 10 ≤ w by omega), decide_eq_false (show ¬ 10 ≤ w by omega), Bool.false_and]
      exact ⟨rfl, rfl, h⟩
    · rw [if_neg (show ¬ (w : Int) < 10 by omega), if_pos (show 10 ≤ w by omega), decide_eq_true (show 10 ≤ w by omega), Bool.true_and]
      obtain ⟨b1, b2, b3⟩ := bt_all T hT (w - 10) (by omega)
      rw [show ((10 + (w - 10) : Nat) : Int) = (w : Int) by omega] at b1 b2
      rw [c3, b1, b2]
      have fin : lS sh M0 (gU M 410 3 (1024 * ((T ||| (1 <<< (w - 10)) : Nat) : Int))) n st p s pl (T ||| (1 <<< (w - 10))) := by
        have e : ∀ x : Int, x ≠ 410 → gU M 410 3 (1024 * ((T ||| (1 <<< (w - 10)) : Nat) : Int)) x = M x := fun x hx => gU_cell _ _ _ hx
        refine ⟨⟨gOK_o (f := 3) hF.1 (sh_410 hOK) rfl rfl, fun x x0 hx => by rw [e x (by omega)]; exact hF.2.1 x x0 hx, by rw [e 1 (by decide)]; exact hF.2.2⟩, tpIn_keep hI (e 1 (by decide)) (e 2 (by decide)), by rw [e 1 (by decide)]; exact h0, plOk_keep hP (fun b b0 _ => e b (by omega)), by rw [gU_idx (by decide)]; exact c1, by rw [gU_idx (by decide)]; exact c2, gU_same _ _ _ _⟩
      cases hb : T.testBit (w - 10) with
      | true => rw [if_neg (show ¬ (if true = true then (1 : Int) else 0) = 0 by decide)]; exact ⟨rfl, rfl, fin⟩
      | false => rw [if_pos (show (if false = true then (1 : Int) else 0) = 0 by decide)]; exact ⟨rfl, rfl, fin⟩
  by_cases q : w < 2
  · rw [if_pos (by omega)]; exact tail (by omega)
  · rw [if_neg (by omega)]
    by_cases q2 : 7 < w
    · rw [if_pos (by omega)]; exact tail (by omega)
    · rw [if_neg (by omega)]
      have hq := plOk_q hP (show w - 2 < 7 by omega)
      refine ⟨_, sp_X6_pairsOf hOK (by omega), ⟨hq.1.1, by omega⟩, ?_⟩
      rw [hq.2.2.1]
      unfold lnMany lnT
      rw [if_neg (show ¬ 10 ≤ w by omega), decide_eq_false (show ¬ 10 ≤ w by omega), Bool.false_and, Bool.or_false]
      by_cases q3 : (pl.1 (w - 2)).length < 4
      · rw [if_pos (by omega), decide_eq_false (by omega)]; exact ⟨rfl, rfl, h⟩
      · rw [if_neg (by omega), decide_eq_true (by omega)]; exact ⟨rfl, rfl, h⟩
theorem sp_X6_readLine {sh : gS} {M0 M : gM} {n st p : Int} {s : List Int} {pl : kP} {T : Nat} (h : lS sh M0 M n st p s pl T) (hn : 0 ≤ n) (hT : T < 32) (hL : 0 ≤ pl.2.1 1 ∧ pl.2.1 1 ≤ 240) (hsg : sgOk pl) (hs : s.length ≤ 240) : gC (gr 8 171) yX6_readLine cX6_readLine 5 none [(4, 410), (4, 1)] sh M (gPm sh (fun r M1 => r = none ∧ lQ sh M0 n p (lnLine n pl T s p) M1)) := by
  have hOK := h.1.1
  have hl := tpIn_len h.2.1
  refine w_X6_readLine hOK ⟨⟨sh_1 hOK, by decide⟩, ?_⟩
  rw [h.2.1.1]
  have h1 : lS sh M0 (gU M 410 2 p) n p p s pl T := by
    obtain ⟨hF, hI, h0, hP, c1, c2, c3⟩ := id h
    have e : ∀ x : Int, x ≠ 410 → gU M 410 2 p x = M x := fun x hx => gU_cell _ _ _ hx
    exact ⟨⟨gOK_o (f := 2) hF.1 (sh_410 hOK) rfl rfl, fun x x0 hx => by rw [e x (by omega)]; exact hF.2.1 x x0 hx, by rw [e 1 (by decide)]; exact hF.2.2⟩, tpIn_keep hI (e 1 (by decide)) (e 2 (by decide)), by rw [e 1 (by decide)]; exact h0, plOk_keep hP (fun b b0 _ => e b (by omega)), by rw [gU_idx (by decide)]; exact c1, gU_same _ _ _ _, by rw [gU_idx (by decide)]; exact c3⟩
  refine ⟨_, sp_X6_readWord h1.1.1 h1.2.1 h1.2.2.2.2.2.1 hs, fun r2 M2 hP2 => ?_⟩
  obtain ⟨rfl, hM2, hT2⟩ := hP2
  rw [h1.2.2.1] at hM2
  have h2 : lS sh M0 M2 n p (p + ((wT s).length : Int)) (wR s) pl T := by
    rw [hM2] at hT2 ⊢
    exact lS_tM h1 hT2
  clear hM2 hT2
  refine ⟨_, rfl, h2.1.1, ?_⟩
  have e1 : M2 411 1 = pl.2.1 1 := h2.2.2.2.1.2.2.2.1 1 (by decide)
  rw [e1]
  have hi15 : wIx (wT s) ≤ 15 := (wIxF_rng (wT s) 15 0).2
  -- what follows
  have go : P_X6_readLine_60 sh (gPm sh (fun r M1 => r = none ∧ lQ sh M0 n p (lnLine n pl T s p) M1)) 1 (wIx (wT s) : Int) (bI (lnFits (pl.2.1 1) (wIx (wT s)))) M2 := by
    have hl2 := tpIn_len h2.2.1
    have fail : ∀ (k : Int) (M3 : gM) (p3 : Int) (s3 : List Int) (T3 : Nat), 1 ≤ k ∧ k ≤ 9 → lS sh M0 M3 n p p3 s3 pl T3 → lnLine n pl T s p = lnBad (-1000 * k - p) → (gsh sh 1 = some (0, 10) ∧ (1 : Int) < 758) ∧ ∃ P71 : Option gV → gM → Prop, gC (gr 0 0) yX9_fail cX9_fail 3 none [(4, 1), (0, k), (0, (M3 410 2))] sh M3 (gPm sh P71) ∧ ∀ (r71 : Option gV) (M71 : gM), P71 r71 M71 → r71 = none ∧ gOK sh M71 ∧ gPm sh (fun r M1 => r = none ∧ lQ sh M0 n p (lnLine n pl T s p) M1) none sh M71 := fun k M3 p3 s3 T3 hk h3 e => by
      have h0 := h3.2.2.1
      refine ⟨⟨sh_1 h3.1.1, by decide⟩, _, sp_X9_fail h3.1.1 (by omega) (by rw [h3.2.2.2.2.2.1]; omega), fun r4 M4 hP4 => ?_⟩
      obtain ⟨rfl, rfl⟩ := hP4
      rw [h0, ff_z _ rfl, h3.2.2.2.2.2.1, e]
      have e2 := lF_tM (q := M3 1 2) (f := -1000 * k - p) h3.1
      exact ⟨rfl, e2.1, rfl, rfl, lQ_bad e2 (tM_f _ _ _) (by omega)⟩
    have un : lnLine n pl T s p = if lnFits (pl.2.1 1) (wIx (wT s)) = false then lnBad (-1000 - p)
  else if 2 ≤ wIx (wT s) ∧ wIx (wT s) ≤ 7 ∧ 4 ≤ (pl.1 (wIx (wT s) - 2)).length then lnBad (-4000 - p)
  else if 10 ≤ wIx (wT s) ∧ T.testBit (wIx (wT s) - 10) = true then lnBad (-6000 - p)
  else if hd (wR s) ≠ 58 then lnBad (-1000 - (p + ((wT s).length : Int)))
  else lnBody n p (wIx (wT s)) (lnSet pl 1 (pl.2.1 1 + 1)) (lnT (wIx (wT s)) T) (wR s).tail (p + ((wT s).length : Int) + 1) := rfl
    generalize hw : wIx (wT s) = w at hi15 un ⊢
    refine w_X6_readLine_60 h2.1.1 ?_
    cases hf : lnFits (pl.2.1 1) w with
    | false =>
      rw [if_pos bIf]
      exact fail 1 M2 _ _ T (by decide) h2 (by rw [un, hf, if_pos rfl]; rfl)
    | true =>
      rw [if_neg bIt]
      rw [hf, if_neg (by decide)] at un
      have hw15 : w < 15 := by
        unfold lnFits at hf
        split at hf
        · have := of_decide_eq_true hf; omega
        · have := of_decide_eq_true hf; omega
      refine ⟨_, sp_X6_isTooMany h2 hT hw15, fun r3 M3 hP3 => ?_⟩
      obtain ⟨rfl, h3⟩ := hP3
      refine ⟨_, rfl, h3.1.1, ?_⟩
      cases hm : lnMany w pl T with
      | true =>
        rw [if_neg bIt]
        unfold lnMany at hm
        by_cases q : 2 ≤ w ∧ w ≤ 7 ∧ 4 ≤ (pl.1 (w - 2)).length
        · rw [if_pos (by omega)]
          exact fail 4 M3 _ _ _ (by decide) h3 (by rw [un, if_pos q]; rfl)
        · rw [decide_eq_false q, Bool.false_or] at hm
          have q2 := (Bool.and_eq_true _ _ ▸ hm : decide (10 ≤ w) = true ∧ _)
          have q3 := of_decide_eq_true q2.1
          rw [if_neg (by omega)]
          exact fail 6 M3 _ _ _ (by decide) h3 (by rw [un, if_neg q, if_pos ⟨q3, q2.2⟩]; rfl)
      | false =>
        rw [if_pos bIf]
        unfold lnMany at hm
        have q := (Bool.or_eq_false_iff.mp hm)
        have q1 := of_decide_eq_false q.1
        have q2 : ¬ (10 ≤ w ∧ T.testBit (w - 10) = true) := fun z => by
          have := q.2
          rw [decide_eq_true z.1, z.2] at this; cases this
        rw [if_neg q1, if_neg q2] at un
        refine ⟨⟨sh_1 h3.1.1, by decide⟩, _, sp_X9_expect h3.1.1 h3.2.1 (by decide), fun r4 M4 hP4 => ?_⟩
        by_cases q4 : hd (wR s) = 58
        · rw [if_pos q4] at hP4
          rw [if_neg (show ¬ hd (wR s) ≠ 58 from fun z => z q4)] at un
          have hR4 := lR_tP h3 hP4
          obtain ⟨rfl, g1, g2, g3, g4⟩ := hR4
          have h4 := g4 rfl
          refine ⟨_, rfl, g1.1, ?_⟩
          rw [if_neg (show ¬ (1 : Int) = 0 by decide)]
          have e41 : M4 411 1 = pl.2.1 1 := g3.2.2.2.1 1 (by decide)
          rw [e41, gw32_id (by omega) (by omega)]
          have h5 : lS sh M0 (gU M4 411 1 (pl.2.1 1 + 1)) n p (p + ((wT s).length : Int) + 1) (wR s).tail (lnSet pl 1 (pl.2.1 1 + 1)) (lnT w T) := lS_set (f := 1) (v := pl.2.1 1 + 1) h4 (by decide)
          have e1 : (lnSet pl 1 (pl.2.1 1 + 1)).1 = pl.1 := rfl
          rw [un]
          clear un fail
          generalize gU M4 411 1 (pl.2.1 1 + 1) = M5 at h5 ⊢
          generalize lnSet pl 1 (pl.2.1 1 + 1) = pl5 at h5 e1 ⊢
          generalize (wR s).tail = s5 at h5 ⊢
          generalize p + ((wT s).length : Int) + 1 = p5 at h5 ⊢
          generalize lnT w T = T5 at h5 ⊢
          have hO5 := h5.1.1
          unfold lnBody
          have path : (w = 2 ∨ w = 3) → ∃ P139 : Option gV → gM → Prop, gC (gr 1 22) yX9_path cX9_path 4 (some (.int)) [(4, 1), (0, 4)] sh M5 (gPm sh P139) ∧ ∀ (r139 : Option gV) (M139 : gM), P139 r139 M139 → ∃ v139 : Int, r139 = some (0, v139) ∧ gOK sh M139 ∧ (∃ v146 : Int, gC (gr 0 0) yX6_pairsOf cX6_pairsOf 2 (some (.object "CarriedHistory$Pairs")) [(4, 410), (0, (w : Int))] sh M139 (gPp sh M139 (4, v146)) ∧ ((gsh sh v146 = some (0, 5) ∧ v146 < 758) ∧ (∃ P152 : Option gV → gM → Prop, gC (gr 0 0) yX4_add cX4_add 3 none [(4, v146), (0, v139), (0, 0)] sh M139 (gPm sh P152) ∧ ∀ (r152 : Option gV) (M152 : gM), P152 r152 M152 → r152 = none ∧ gOK sh M152 ∧ gPm sh (fun r M1 => r = none ∧ lQ sh M0 n p (lnOf (pPath 4 s5 p5) (lnAdd pl5 (w - 2) ((pPath 4 s5 p5).2.1, 0)) T5) M1) none sh M152))) := fun hc => by
            refine ⟨_, sp_X9_path hO5 h5.2.1 (by decide), fun r6 M6 hP6 => ?_⟩
            have hR6 := lR_tP h5 hP6
            obtain ⟨rfl, k1, k2, k3, k4⟩ := hR6
            have hq := plOk_q k3 (show w - 2 < 7 by omega)
            have hlen : (pl5.1 (w - 2)).length + 1 ≤ plN (w - 2) := by
              rw [e1]
              have : plN (w - 2) = 4 := by unfold plN; rw [if_neg (by omega)]
              omega
            refine ⟨_, rfl, k1.1, _, sp_X6_pairsOf k1.1 (by omega), ⟨hq.1.1, by omega⟩, _, sp_X4_add k1.1 hq hlen, fun r7 M7 hP7 => ?_⟩
            obtain ⟨rfl, hP⟩ := hP7
            refine ⟨rfl, hP.2.1, rfl, rfl, ?_⟩
            unfold lnOf
            by_cases z : (pPath 4 s5 p5).1 = 0
            · rw [if_pos z]
              exact ⟨fun _ => lS_add (k4 z) (by omega) hP, fun w => absurd rfl w⟩
            · rw [if_neg z]
              obtain ⟨a, b⟩ := lF_q k1 hP (by omega)
              exact lQ_bad a (b.trans k2) z
          by_cases c2 : w = 2
          · rw [if_pos (show (w : Int) = 2 by omega), if_pos (Or.inl c2)]; exact path (Or.inl c2)
          rw [if_neg (show ¬ (w : Int) = 2 by omega)]
          by_cases c3 : w = 3
          · rw [if_pos (show (w : Int) = 3 by omega), if_pos (Or.inr c3)]; exact path (Or.inr c3)
          rw [if_neg (show ¬ (w : Int) = 3 by omega), if_neg (show ¬ (w = 2 ∨ w = 3) by omega)]
          have sett : (w < 4 ∨ 8 < w) → ∃ P181 : Option gV → gM → Prop, gC (gr 3 67) yX6_readSetting cX6_readSetting 4 none [(4, 410), (4, 1), (0, (w : Int))] sh M5 (gPm sh P181) ∧ ∀ (r181 : Option gV) (M181 : gM), P181 r181 M181 → r181 = none ∧ gOK sh M181 ∧ gPm sh (fun r M1 => r = none ∧ lQ sh M0 n p (lnSetting w pl5 T5 s5 p5) M1) none sh M181 := fun hc => by
            refine ⟨_, sp_X6_readSetting h5 (by omega), fun r6 M6 hP6 => ?_⟩
            obtain ⟨rfl, hQ⟩ := hP6
            exact ⟨rfl, lQ_ok hQ, rfl, rfl, hQ⟩
          by_cases c4 : w < 4
          · rw [if_pos (show (w : Int) < 4 by omega), if_neg (show ¬ (4 ≤ w ∧ w ≤ 8) by omega)]; exact sett (Or.inl c4)
          rw [if_neg (show ¬ (w : Int) < 4 by omega)]
          by_cases c8 : 8 < w
          · rw [if_pos (show (8 : Int) < w by omega), if_neg (show ¬ (4 ≤ w ∧ w ≤ 8) by omega)]; exact sett (Or.inr c8)
          rw [if_neg (show ¬ (8 : Int) < w by omega), if_pos (show 4 ≤ w ∧ w ≤ 8 by omega)]
          have hroom : lnRoom w pl5 := by
            unfold lnRoom sgOk
            rw [e1]
            by_cases c : w = 8
            · rw [if_pos c]; exact hsg
            · rw [if_neg c]
              have : ¬ 4 ≤ (pl.1 (w - 2)).length := fun z => q1 ⟨by omega, by omega, z⟩
              omega
          refine ⟨_, sp_X6_readPair h5 hn ⟨hl.1, by omega⟩ (by omega) hroom, fun r6 M6 hP6 => ?_⟩
          obtain ⟨rfl, hQ⟩ := hP6
          exact ⟨rfl, lQ_ok hQ, rfl, rfl, hQ⟩
        · rw [if_neg q4] at hP4
          rw [if_pos (show hd (wR s) ≠ 58 from q4)] at un
          have hR4 := lR_tP h3 hP4
          obtain ⟨rfl, g1, g2, g3, g4⟩ := hR4
          refine ⟨_, rfl, g1.1, ?_⟩
          rw [if_pos (show (0 : Int) = 0 from rfl), un]
          exact ⟨rfl, rfl, lQ_bad g1 g2 (by show -1000 - (p + ((wT s).length : Int)) ≠ 0; omega)⟩
  generalize lnLine n pl T s p = Y at go ⊢
  unfold lnFits at go
  by_cases q : pl.2.1 1 < 2
  · rw [if_pos q]
    rw [if_pos q] at go
    by_cases q2 : (wIx (wT s) : Int) = pl.2.1 1
    · rw [if_pos q2]; rw [decide_eq_true q2] at go; exact go
    · rw [if_neg q2]; rw [decide_eq_false q2] at go; exact go
  · rw [if_neg q]
    rw [if_neg q] at go
    by_cases q2 : 1 < wIx (wT s)
    · rw [if_pos (by omega)]
      by_cases q3 : wIx (wT s) < 15
      · rw [if_pos (by omega)]; rw [decide_eq_true ⟨q2, q3⟩] at go; exact go
      · rw [if_neg (by omega)]; rw [decide_eq_false (fun z => q3 z.2)] at go; exact go
    · rw [if_neg (by omega)]; rw [decide_eq_false (fun z => q2 z.1)] at go; exact go
