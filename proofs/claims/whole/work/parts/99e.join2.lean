-- ==== join: the reference, the class
theorem s_join {M : gM} {z : aS} {h a b wh hr : Int} (hz : uSt M z) (hG : kGd (aCs z)) (hR : ∀ h : Int, 0 ≤ h → h < 4 → rGd ((aCs z).length : Int) (aRs z h)) : ∃ M1, F_join M h a b wh hr = some ((aJoin z h a b wh hr).1, M1) ∧ uSt M1 (aJoin z h a b wh hr).2 := by
  have hl9 := hz.1.2.1
  unfold aJoin
  have no : ∀ y : Int × aS, ¬ ((0 ≤ h ∧ h ≤ 3) ∧ (0 ≤ a ∧ a ≤ 25) ∧ (0 ≤ b ∧ b ≤ 25) ∧ a ≠ b ∧ (0 ≤ wh ∧ wh ≤ 9) ∧ (0 ≤ hr ∧ hr ≤ 999)) → ∃ M1, some ((-1 : Int), M) = some ((if (0 ≤ h ∧ h ≤ 3) ∧ (0 ≤ a ∧ a ≤ 25) ∧ (0 ≤ b ∧ b ≤ 25) ∧ a ≠ b ∧ (0 ≤ wh ∧ wh ≤ 9) ∧ (0 ≤ hr ∧ hr ≤ 999) then y else (-1, z)).1, M1) ∧ uSt M1 (if (0 ≤ h ∧ h ≤ 3) ∧ (0 ≤ a ∧ a ≤ 25) ∧ (0 ≤ b ∧ b ≤ 25) ∧ a ≠ b ∧ (0 ≤ wh ∧ wh ≤ 9) ∧ (0 ≤ hr ∧ hr ≤ 999) then y else (-1, z)).2 := fun y q => by
    rw [if_neg q]; exact ⟨M, rfl, hz⟩
  rw [eq_join, gI_bb s_isHistory]
  by_cases q1 : 0 ≤ h ∧ h ≤ 3
  · rw [decide_eq_true q1, if_neg bIt, gI_bb s_in]
    by_cases q2 : 0 ≤ a ∧ a ≤ 25
    · rw [decide_eq_true q2, if_neg bIt, gI_bb s_in]
      by_cases q3 : 0 ≤ b ∧ b ≤ 25
      · rw [decide_eq_true q3, if_neg bIt]
        by_cases q4 : a = b
        · rw [if_pos q4]; exact no _ (fun w => w.2.2.2.1 q4)
        · rw [if_neg q4, gI_bb s_in]
          by_cases q5 : 0 ≤ wh ∧ wh ≤ 9
          · rw [decide_eq_true q5, if_neg bIt, gI_bb s_in]
            by_cases q6 : 0 ≤ hr ∧ hr ≤ 999
            · rw [decide_eq_true q6, if_neg bIt, if_pos (show (0 ≤ h ∧ h ≤ 3) ∧ (0 ≤ a ∧ a ≤ 25) ∧ (0 ≤ b ∧ b ≤ 25) ∧ a ≠ b ∧ (0 ≤ wh ∧ wh ≤ 9) ∧ (0 ≤ hr ∧ hr ≤ 999) from ⟨q1, q2, q3, q4, q5, q6⟩)]
              clear no
              have hRf := hz.2.2.1 h q1.1 (by omega)
              have hRg := hR h q1.1 (by omega)
              rw [gI_bb (s_branchAt hRf hRg q1 q2), gI_bb (s_branchAt hRf hRg q1 q3)]
              have ba := (branch_is hRg q2).2
              have bb := (branch_is hRg q3).2
              have rp : (rGet 0 a (aRs z h)).getD (-1) = -1 ∨ ∃ p : Nat, (rGet 0 a (aRs z h)).getD (-1) = (p : Int) ∧ p < (aCs z).length := by
                rcases ba with e | ⟨c, e, e2, e3⟩
                · rw [e]; exact Or.inl rfl
                · rw [e]; exact Or.inr ⟨c.toNat, by show c = _; omega, by omega⟩
              have rq : (rGet 0 b (aRs z h)).getD (-1) = -1 ∨ ∃ p : Nat, (rGet 0 b (aRs z h)).getD (-1) = (p : Int) ∧ p < (aCs z).length := by
                rcases bb with e | ⟨c, e, e2, e3⟩
                · rw [e]; exact Or.inl rfl
                · rw [e]; exact Or.inr ⟨c.toNat, by show c = _; omega, by omega⟩
              generalize (rGet 0 a (aRs z h)).getD (-1) = P at rp ⊢
              generalize (rGet 0 b (aRs z h)).getD (-1) = Q at rq ⊢
              unfold jnV
              rcases rp with rfl | ⟨p, rfl, hp⟩
              · rw [if_pos rfl, if_pos (Or.inl (by decide))]; exact ⟨M, rfl, hz⟩
              rw [if_neg (by omega)]
              rcases rq with rfl | ⟨q, rfl, hq⟩
              · rw [if_pos rfl, if_pos (Or.inr (by decide))]; exact ⟨M, rfl, hz⟩
              rw [if_neg (by omega), if_neg (show ¬ ((p : Int) < 0 ∨ (q : Int) < 0) by omega), Int.toNat_natCast, Int.toNat_natCast]
              by_cases e : (p : Int) = (q : Int)
              · rw [if_pos e, if_pos (Or.inl e)]; exact ⟨M, rfl, hz⟩
              rw [if_neg e]
              obtain ⟨M1, e1, f1⟩ := s_isAncestor hz.1 hG.1 hp hq
              rw [gI_bb e1]
              have k1 : uSt M1 z := uSt_keep (A := [723]) (F := []) hz ⟨fun x hx _ => f1 x (fun w => hx (by rw [w]; simp)), fun i _ => by rw [f1 711 (by decide)]⟩ (fun x hx => by rw [List.mem_singleton.mp hx]; omega) (by decide)
              show ∃ M9, (if bI (kAnc (aCs z) q p) = 0 then _ else _) = _ ∧ _
              cases a1 : kAnc (aCs z) q p with
              | true => rw [if_neg bIt, if_pos (Or.inr (Or.inl rfl))]; exact ⟨M1, rfl, k1⟩
              | false =>
                rw [if_pos bIf]
                obtain ⟨M2, e2, f2⟩ := s_isAncestor k1.1 hG.1 hq hp
                show ∃ M9, (F_isAncestor M1 (q : Int) (p : Int)).bind _ = _ ∧ _
                rw [gI_bb e2]
                have k2 : uSt M2 z := uSt_keep (A := [723]) (F := []) k1 ⟨fun x hx _ => f2 x (fun w => hx (by rw [w]; simp)), fun i _ => by rw [f2 711 (by decide)]⟩ (fun x hx => by rw [List.mem_singleton.mp hx]; omega) (by decide)
                show ∃ M9, (if bI (kAnc (aCs z) p q) = 0 then _ else _) = _ ∧ _
                cases a2 : kAnc (aCs z) p q with
                | true => rw [if_neg bIt, if_pos (Or.inr (Or.inr rfl))]; exact ⟨M2, rfl, k2⟩
                | false =>
                  rw [if_pos bIf, if_neg (show ¬ ((p : Int) = (q : Int) ∨ false = true ∨ false = true) from fun w => by
                    rcases w with w | w | w
                    · exact e w
                    · cases w
                    · cases w)]
                  have hcp := List.getElem?_eq_getElem hp
                  have hcq := List.getElem?_eq_getElem hq
                  generalize (aCs z)[p] = c at hcp
                  generalize (aCs z)[q] = d at hcq
                  rw [fFs_at hcp, fFs_at hcq]
                  have gc := hG.2 c (List.mem_of_getElem? hcp)
                  have gd := hG.2 d (List.mem_of_getElem? hcq)
                  have l1 := (hG.1 p c hcp).1.2.2.2.2.2.2
                  have l2 := (hG.1 q d hcq).1.2.2.2.2.2.2
                  obtain ⟨M3, e3, t3, u3⟩ := s_putsTogether (k2.1.2.2 p c hcp).2.2.2.2.2.2 (k2.1.2.2 q d hcq).2.2.2.2.2.2 (by omega) (by omega) gc.1 gc.2.2 gd.2.2 (by omega)
                  have f3 : gFr [718, 719, 720] [] M2 M3 := fr_putsTogether e3
                  show ∃ M9, (F_putsTogether M2 (p : Int) (q : Int)).bind _ = _ ∧ _
                  rw [gI_bb e3]
                  have fr3 : gFr [718, 719, 720, 723] [] M M3 := ⟨fun x hx hx2 => by
                    simp at hx
                    rw [f3.1 x (by simp; omega) hx2, f2 x hx.2.2.2, f1 x hx.2.2.2], fun g _ => by rw [f3.2 g (by simp), f2 711 (by decide), f1 711 (by decide)]⟩
                  have hC3 : uC M3 (aCs z) := by
                    refine ⟨by rw [fr3.2 0 (by simp)]; exact hz.1.1, hl9, fun k x hk => ?_⟩
                    have hu := k2.1.2.2 k x hk
                    have hkl := (uC_len k2.1 hk).2
                    exact ⟨by rw [f3.1 712 (by simp) (by decide)]; exact hu.1, by rw [f3.1 713 (by simp) (by decide)]; exact hu.2.1, by rw [f3.1 716 (by simp) (by decide)]; exact hu.2.2.1, by rw [f3.1 717 (by simp) (by decide)]; exact hu.2.2.2.1, by rw [f3.1 714 (by simp) (by decide)]; exact hu.2.2.2.2.1, by rw [f3.1 715 (by simp) (by decide)]; exact hu.2.2.2.2.2.1, u3 _ _ (by omega) hu.2.2.2.2.2.2⟩
                  have hR3 : ∀ h : Int, 0 ≤ h → h < 4 → uRf M3 h (aRs z h) := fun i i0 i1 s s0 s1 => by
                    rw [fr3.1 727 (by simp) (by decide), fr3.1 728 (by simp) (by decide)]; exact hz.2.2.1 i i0 i1 s s0 s1
                  have k3 : uSt M3 z := uSt_new (cs := aCs z) (R := aRs z) hz hC3 hR3 fr3 (fun x hx => by simp at hx; omega) (by decide)
                  show ∃ M9, (if bI ((tTakeAll (kFs d) (kFs c)).1 && !tClash0 (tTakeAll (kFs d) (kFs c)).2) = 0 then _ else _) = _ ∧ _
                  cases hb : ((tTakeAll (kFs d) (kFs c)).1 && !tClash0 (tTakeAll (kFs d) (kFs c)).2) with
                  | false => rw [if_pos bIf, if_pos rfl]; exact ⟨M3, rfl, k3⟩
                  | true =>
                    rw [if_neg bIt, if_neg (show ¬ true = false by decide)]
                    have ht := (Bool.and_eq_true _ _ ▸ hb : (tTakeAll (kFs d) (kFs c)).1 = true ∧ _).1
                    have hT3 := t3 ht
                    show ∃ M9, (if (16 : Int) < M3 718 122 then _ else _) = _ ∧ _
                    rw [hT3.2.1]
                    by_cases q16 : 16 < (tTakeAll (kFs d) (kFs c)).2.length
                    · rw [if_pos (by omega), if_pos q16]; exact ⟨M3, rfl, k3⟩
                    · rw [if_neg (by omega), if_neg q16]
                      have fr4 : gFr [718, 719, 720, 721, 723] [12, 13] M (gU (gU (gU (gU M3 711 12 2) 721 0 (p : Int)) 721 1 (q : Int)) 711 13 0) := ⟨fun x hx hx2 => by
                        simp at hx
                        rw [gU_cell _ _ _ hx2, gU_cell _ _ _ hx.2.2.2.1, gU_cell _ _ _ hx.2.2.2.1, gU_cell _ _ _ hx2]
                        exact fr3.1 x (by simp; omega) hx2, fun g hg => by
                        simp at hg
                        rw [gU_idx hg.2, gU_cell _ _ _ (by decide), gU_cell _ _ _ (by decide), gU_idx hg.1]
                        exact fr3.2 g (by simp)⟩
                      have hN : uN (gU (gU (gU (gU M3 711 12 2) 721 0 (p : Int)) 721 1 (q : Int)) 711 13 0) [(p : Int), (q : Int)] [] := ⟨by rw [gU_idx (by decide), gU_cell _ _ _ (by decide), gU_cell _ _ _ (by decide), gU_same]; rfl, (show 2 ≤ 3 by decide), (fun j v hj => by
                        rw [gU_cell _ _ _ (by decide)]
                        cases j with
                        | zero => cases hj; rw [gU_idx (by decide), show (0 : Int) + ((0 : Nat) : Int) = 0 from rfl, gU_same]
                        | succ j =>
                          cases j with
                          | zero => cases hj; rw [show (0 : Int) + ((0 + 1 : Nat) : Int) = 1 from rfl, gU_same]
                          | succ j => cases hj), by rw [gU_same]; rfl, by decide, rw_nil⟩
                      have k4 : ∀ b : Int, 712 ≤ b → b ≤ 720 → (gU (gU (gU (gU M3 711 12 2) 721 0 (p : Int)) 721 1 (q : Int)) 711 13 0) b = M3 b := fun b b0 b1 => by rw [gU_cell _ _ _ (by omega), gU_cell _ _ _ (by omega), gU_cell _ _ _ (by omega), gU_cell _ _ _ (by omega)]
                      refine s_sets hz (uC_same hC3 (by rw [gU_idx (by decide), gU_cell _ _ _ (by decide), gU_cell _ _ _ (by decide), gU_idx (by decide)]) k4) hG.1 (uT_of hT3 (by rw [k4 718 (by decide) (by decide)]) (fun q _ _ => by unfold uG; rw [k4 719 (by decide) (by decide), k4 720 (by decide) (by decide)])) hN (by omega) (fun i i0 i1 => ⟨fun s s0 s1 => ?_, hR i i0 i1⟩) q1 q2 fr4 (fun x hx => by simp at hx; omega) (by decide)
                      rw [fr4.1 727 (by simp) (by decide), fr4.1 728 (by simp) (by decide)]; exact hz.2.2.1 i i0 i1 s s0 s1
            · rw [decide_eq_false q6, if_pos bIf]; exact no _ (fun w => q6 w.2.2.2.2.2)
          · rw [decide_eq_false q5, if_pos bIf]; exact no _ (fun w => q5 w.2.2.2.2.1)
      · rw [decide_eq_false q3, if_pos bIf]; exact no _ (fun w => q3 w.2.2.1)
    · rw [decide_eq_false q2, if_pos bIf]; exact no _ (fun w => q2 w.2.1)
  · rw [decide_eq_false q1, if_pos bIf]; exact no _ (fun w => q1 w.1)
-- ---- the class
theorem sp_X11_settleOn {sh : gS} {M M0 : gM} {z : aS} {h a : Int} {d : kC} (hz : cS sh M z) (hD : dOk sh M 399 d) (hw : kWf ((aCs z).length : Int) d) (hG : rGd ((aCs z).length : Int) (aRs z h)) (hh : 0 ≤ h ∧ h ≤ 3) (ha : 0 ≤ a ∧ a ≤ 25) (hg : rGet 0 a (aRs z h) ≠ none) (hf0 : ∀ b : Int, (b = 475 ∨ b = 476 ∨ 710 < b) → M b = M0 b) : gC (gr 4 137) yX11_settleOn cX11_settleOn 4 (some (.int)) [(4, 0), (4, 479 + 10 * h), (0, a)] sh M (gPm sh (fun r M1 => r = some (0, (aSet z h a d).1) ∧ cS sh M1 (aSet z h a d).2 ∧ ∀ b : Int, (b = 475 ∨ b = 476 ∨ 710 < b) → M1 b = M0 b)) := by
  obtain ⟨hOK, hC, hB, hRs, hPl, hSv⟩ := id hz
  have rA := (hRs h hh.1 (by omega)).1
  refine w_X11_settleOn hOK ⟨_, sp_X1_settle hOK hC hD (fun _ => hw), fun r1 M1 hP1 => ?_⟩
  obtain ⟨rfl, c1, c2, c3⟩ := hP1
  have z1 : cS sh M1 (z.1, (kSet (aCs z) d).2, z.2.2) := ⟨c1, c2, ⟨tBy_keep hB.1 (c3 2 (by omega)), by rw [c3 1 (by omega)]; exact hB.2⟩, fun i i0 i1 => ⟨rOk_keep (hRs i i0 i1).1 (fun b b0 b1 => c3 b (by omega)), rOk_keep (hRs i i0 i1).2 (fun b b0 b1 => c3 b (by omega))⟩, fun p p0 p1 => ⟨plOk_keep (hPl p p0 p1).1 (fun b b0 b1 => c3 b (by omega)), plOk_keep (hPl p p0 p1).2 (fun b b0 b1 => c3 b (by omega))⟩, by rw [c3 0 (by omega)]; exact hSv⟩
  refine ⟨_, rfl, c1, ?_⟩
  unfold aSet
  by_cases q : (kSet (aCs z) d).1 < 0
  · rw [if_pos q, if_pos q]
    exact ⟨rfl, rfl, z1, fun b hb => by rw [c3 b (by omega)]; exact hf0 b hb⟩
  · rw [if_neg q, if_neg q]
    have rA1 := (z1.2.2.2.1 h hh.1 (by omega)).1
    refine ⟨⟨rA1.1.1, by omega⟩, _, sp_X7_lay c1 rA1 (rGd_all hG) hG.1 (by decide) ha (fun w => absurd w hg), fun r2 M2 hP2 => ?_⟩
    obtain ⟨rfl, hP⟩ := hP2
    refine ⟨rfl, hP.2.1, ?_⟩
    have := cPo_refs (z := (z.1, (kSet (aCs z) d).2, z.2.2)) (v := (kSet (aCs z) d).1) (w := (kSet (aCs z) d).1) z1 ⟨hh.1, by omega⟩ hP rfl
    obtain ⟨-, t1, t2, t3⟩ := this
    exact ⟨rfl, t1, t2, fun b hb => by rw [t3 b hb, c3 b (by omega)]; exact hf0 b hb⟩
theorem sp_X11_join {sh : gS} {M : gM} {z : aS} {h a b wh hr : Int} (hz : cS sh M z) (hG : kGd (aCs z)) (hR : ∀ h : Int, 0 ≤ h → h < 4 → rGd ((aCs z).length : Int) (aRs z h)) : gC (gr 5 160) yX11_join cX11_join 9 (some (.int)) [(4, 0), (0, h), (0, a), (0, b), (0, wh), (0, hr)] sh M (cPo sh M 0 (aJoin z h a b wh hr).1 (aJoin z h a b wh hr).2) := by
  obtain ⟨hOK, hC, -, hRs, -⟩ := id hz
  have hl9 := hC.2.1
  unfold aJoin
  have no : ∀ y : Int × aS, ¬ ((0 ≤ h ∧ h ≤ 3) ∧ (0 ≤ a ∧ a ≤ 25) ∧ (0 ≤ b ∧ b ≤ 25) ∧ a ≠ b ∧ (0 ≤ wh ∧ wh ≤ 9) ∧ (0 ≤ hr ∧ hr ≤ 999)) → cPo sh M 0 (if (0 ≤ h ∧ h ≤ 3) ∧ (0 ≤ a ∧ a ≤ 25) ∧ (0 ≤ b ∧ b ≤ 25) ∧ a ≠ b ∧ (0 ≤ wh ∧ wh ≤ 9) ∧ (0 ≤ hr ∧ hr ≤ 999) then y else (-1, z)).1 (if (0 ≤ h ∧ h ≤ 3) ∧ (0 ≤ a ∧ a ≤ 25) ∧ (0 ≤ b ∧ b ≤ 25) ∧ a ≠ b ∧ (0 ≤ wh ∧ wh ≤ 9) ∧ (0 ≤ hr ∧ hr ≤ 999) then y else (-1, z)).2 (some (0, -1)) sh M := fun y q => by
    rw [if_neg q]; exact cPo_same hz rfl
  refine w_X11_join hOK ⟨_, sp_X11_isHistory hOK, ?_⟩
  by_cases q1 : 0 ≤ h ∧ h ≤ 3
  · rw [decide_eq_true q1, if_neg bIt]
    refine ⟨_, sp_X11_isLetter hOK, ?_⟩
    by_cases q2 : 0 ≤ a ∧ a ≤ 25
    · rw [decide_eq_true q2, if_neg bIt]
      refine ⟨_, sp_X11_isLetter hOK, ?_⟩
      by_cases q3 : 0 ≤ b ∧ b ≤ 25
      · rw [decide_eq_true q3, if_neg bIt]
        by_cases q4 : a = b
        · rw [if_pos q4]; exact no _ (fun w => w.2.2.2.1 q4)
        rw [if_neg q4]
        refine ⟨_, sp_X11_isWho hOK, ?_⟩
        by_cases q5 : 0 ≤ wh ∧ wh ≤ 9
        · rw [decide_eq_true q5, if_neg bIt]
          refine ⟨_, sp_X11_isHour hOK, ?_⟩
          by_cases q6 : 0 ≤ hr ∧ hr ≤ 999
          · rw [decide_eq_true q6, if_neg bIt, if_pos (show (0 ≤ h ∧ h ≤ 3) ∧ (0 ≤ a ∧ a ≤ 25) ∧ (0 ≤ b ∧ b ≤ 25) ∧ a ≠ b ∧ (0 ≤ wh ∧ wh ≤ 9) ∧ (0 ≤ hr ∧ hr ≤ 999) from ⟨q1, q2, q3, q4, q5, q6⟩)]
            clear no
            have rA := (hRs h q1.1 (by omega)).1
            have hRg := hR h q1.1 (by omega)
            refine ⟨⟨q1.1, by omega⟩, ⟨rA.1.1, by omega⟩, _, sp_X7_branch hOK rA, _, sp_X7_branch hOK rA, ?_⟩
            have ba := (branch_is hRg q2).2
            have bb := (branch_is hRg q3).2
            have rp : ((rGet 0 a (aRs z h)).getD (-1) = -1) ∨ (rGet 0 a (aRs z h) ≠ none ∧ ∃ p : Nat, (rGet 0 a (aRs z h)).getD (-1) = (p : Int) ∧ p < (aCs z).length) := by
              rcases ba with e | ⟨c, e, e2, e3⟩
              · rw [e]; exact Or.inl rfl
              · rw [e]; exact Or.inr ⟨(fun w => by cases w), c.toNat, by show c = _; omega, by omega⟩
            have rq : (rGet 0 b (aRs z h)).getD (-1) = -1 ∨ ∃ p : Nat, (rGet 0 b (aRs z h)).getD (-1) = (p : Int) ∧ p < (aCs z).length := by
              rcases bb with e | ⟨c, e, e2, e3⟩
              · rw [e]; exact Or.inl rfl
              · rw [e]; exact Or.inr ⟨c.toNat, by show c = _; omega, by omega⟩
            generalize (rGet 0 a (aRs z h)).getD (-1) = P at rp ⊢
            generalize (rGet 0 b (aRs z h)).getD (-1) = Q at rq ⊢
            unfold jnV
            rcases rp with rfl | ⟨hgn, p, rfl, hp⟩
            · rw [if_pos (by decide), if_pos (Or.inl (by decide))]; exact cPo_same hz rfl
            rw [if_neg (by omega)]
            rcases rq with rfl | ⟨q, rfl, hq⟩
            · rw [if_pos (by decide), if_pos (Or.inr (by decide))]; exact cPo_same hz rfl
            rw [if_neg (by omega), if_neg (show ¬ ((p : Int) < 0 ∨ (q : Int) < 0) by omega), Int.toNat_natCast, Int.toNat_natCast]
            by_cases e : (p : Int) = (q : Int)
            · rw [if_pos e, if_pos (Or.inl e)]; exact cPo_same hz rfl
            rw [if_neg e]
            have hcp := List.getElem?_eq_getElem hp
            have hcq := List.getElem?_eq_getElem hq
            generalize (aCs z)[p] = c at hcp
            generalize (aCs z)[q] = d at hcq
            refine ⟨_, sp_X1_isAbove hOK hC hcq (by omega), ?_⟩
            cases a1 : kAnc (aCs z) q p with
            | true => rw [if_neg bIt, if_pos (Or.inr (Or.inl rfl))]; exact cPo_same hz rfl
            | false =>
              rw [if_pos bIf]
              refine ⟨_, sp_X1_isAbove hOK hC hcp (by omega), ?_⟩
              cases a2 : kAnc (aCs z) p q with
              | true => rw [if_neg bIt, if_pos (Or.inr (Or.inr rfl))]; exact cPo_same hz rfl
              | false =>
                rw [if_pos bIf, if_neg (show ¬ ((p : Int) = (q : Int) ∨ false = true ∨ false = true) from fun w => by
                  rcases w with w | w | w
                  · exact e w
                  · cases w
                  · cases w)]
                rw [fFs_at hcp, fFs_at hcq]
                have gc := hG.2 c (List.mem_of_getElem? hcp)
                have gd := hG.2 d (List.mem_of_getElem? hcq)
                have l1 := (hG.1 p c hcp).1.2.2.2.2.2.2
                have l2 := (hG.1 q d hcq).1.2.2.2.2.2.2
                refine ⟨_, sp_X2_begin hOK (dSh399 hOK), fun r1 M1 hP1 => ?_⟩
                obtain ⟨rfl, d1, d2, d3⟩ := hP1
                refine ⟨rfl, d2, _, sp_X2_addParent d2 d1, fun r2 M2 hP2 => ?_⟩
                obtain ⟨rfl, g1, g2, g3⟩ := hP2
                refine ⟨rfl, g2, _, sp_X2_addParent g2 g1, fun r3 M3 hP3 => ?_⟩
                obtain ⟨rfl, i1, i2, i3⟩ := hP3
                have z3 : cS sh M3 z := cS_keep hz i2 (fun x hx => by rw [i3 x (by omega), g3 x (by omega), d3 x (by omega)])
                have i1' : dOk sh M3 399 ([(p : Int), (q : Int)], [], [], wh, hr) := i1
                obtain ⟨-, -, tp⟩ := cT_rng z3.2.1 hcp
                have bp := cT_lt z3.2.1 hcp
                refine ⟨rfl, i2, _, sp_X1_tree i2 z3.2.1 hcp, _, sp_X10_copy (fs := []) (n := 32) i2 (dSh399 i2).2.2.1 (by decide) tp (by omega) (by omega), fun r4 M4 hP4 => ?_⟩
                obtain ⟨rfl, j1, j2, j3⟩ := hP4
                have z4 : cS sh M4 z := cS_keep z3 j2 (fun x hx => j3 x (by omega) (by omega) (by omega))
                have e4 : ∀ x : Int, x ≠ 401 → x ≠ 402 → x ≠ 403 → M4 x = M3 x := fun x x0 x1 x2 => j3 x x0 x1 x2
                obtain ⟨-, -, tq⟩ := cT_rng z4.2.1 hcq
                have bq := cT_lt z4.2.1 hcq
                refine ⟨rfl, j2, _, sp_X1_tree j2 z4.2.1 hcq, _, sp_X10_takeAll j2 j1 tq (by omega) (by omega), fun r5 M5 hP5 => ?_⟩
                obtain ⟨rfl, t1, t2, t3⟩ := hP5
                have z5 : cS sh M5 z := cS_keep z4 t2 (fun x hx => t3 x (by omega) (by omega) (by omega))
                have f5 : ∀ x : Int, (x = 475 ∨ x = 476 ∨ 710 < x) → M5 x = M x := fun x hx => by rw [t3 x (by omega) (by omega) (by omega), j3 x (by omega) (by omega) (by omega), i3 x (by omega), g3 x (by omega), d3 x (by omega)]
                refine ⟨_, rfl, t2, ?_⟩
                cases ht : (tTakeAll (kFs d) (kFs c)).1 with
                | false =>
                  rw [if_pos bIf, Bool.false_and, if_pos rfl]
                  exact ⟨rfl, rfl, z5, f5⟩
                | true =>
                  rw [if_neg bIt, Bool.true_and]
                  refine ⟨_, sp_X10_clashes t2 t1, ?_⟩
                  cases hcl : tClash0 (tTakeAll (kFs d) (kFs c)).2 with
                  | true =>
                    rw [if_neg bIt, if_pos (show (!true) = false from rfl)]
                    exact ⟨rfl, rfl, z5, f5⟩
                  | false =>
                    rw [if_pos bIf, if_neg (show ¬ (!false) = false by decide), (tOk_c t1).1]
                    by_cases q16 : 16 < (tTakeAll (kFs d) (kFs c)).2.length
                    · rw [if_pos (by omega), if_pos q16]
                      exact ⟨rfl, rfl, z5, f5⟩
                    · rw [if_neg (by omega), if_neg q16]
                      have hD5 : dOk sh M5 399 ([(p : Int), (q : Int)], (tTakeAll (kFs d) (kFs c)).2, [], wh, hr) := dOk_tree i1' t1 (fun x x0 x1 x2 _ => by rw [t3 x x0 x1 x2]; exact j3 x x0 x1 x2)
                      have hwf : kWf ((aCs z).length : Int) ([(p : Int), (q : Int)], (tTakeAll (kFs d) (kFs c)).2, [], wh, hr) := ⟨(show 2 ≤ 3 by decide), (fun x hx => by
                        rcases List.mem_cons.mp hx with w | w
                        · omega
                        · rw [List.mem_singleton.mp w]; omega), (show 0 ≤ 24 by decide), (fun x hx => (by cases hx)), q5, q6, (show (tTakeAll (kFs d) (kFs c)).2.length ≤ 16 by omega)⟩
                      refine ⟨_, sp_X11_settleOn (M0 := M) z5 hD5 hwf hRg q1 q2 hgn f5, fun r6 M6 hP6 => ?_⟩
                      obtain ⟨rfl, s1, s2⟩ := hP6
                      exact ⟨_, rfl, s1.1, rfl, rfl, s1, s2⟩
          · rw [decide_eq_false q6, if_pos bIf]; exact no _ (fun w => q6 w.2.2.2.2.2)
        · rw [decide_eq_false q5, if_pos bIf]; exact no _ (fun w => q5 w.2.2.2.2.1)
      · rw [decide_eq_false q3, if_pos bIf]; exact no _ (fun w => q3 w.2.2.1)
    · rw [decide_eq_false q2, if_pos bIf]; exact no _ (fun w => q2 w.2.1)
  · rw [decide_eq_false q1, if_pos bIf]; exact no _ (fun w => q1 w.1)
