-- ==== replay: the reference
def rpV (z : aS) (h a on : Int) (c : kC) : Int × aS :=
  if on < 0 then (-4, z)
  else if (rpF (mg 32 (kFF (aCs z) c) (kFs c) 0 0) (fFs (aCs z) on.toNat) && !tClash0 (rpT (mg 32 (kFF (aCs z) c) (kFs c) 0 0) (fFs (aCs z) on.toNat))) = false then (-6, z)
  else if 16 < (rpT (mg 32 (kFF (aCs z) c) (kFs c) 0 0) (fFs (aCs z) on.toNat)).length then (-5, z)
  else if rpT (mg 32 (kFF (aCs z) c) (kFs c) 0 0) (fFs (aCs z) on.toNat) = fFs (aCs z) on.toNat then (-8, z)
  else aSet z h a ([on], rpT (mg 32 (kFF (aCs z) c) (kFs c) 0 0) (fFs (aCs z) on.toNat), kMs c, kWh c, kHr c)
def rpC (cs : List kC) (k : Nat) : kC := cs[k]?.getD ([], [], [], 0, 0)
theorem rpC_at {cs : List kC} {k : Nat} {c : kC} (h : cs[k]? = some c) : rpC cs k = c := by unfold rpC; rw [h]; rfl
def aReplay (z : aS) (h a k : Int) : Int × aS :=
  if (0 ≤ h ∧ h ≤ 3) ∧ (0 ≤ a ∧ a ≤ 25) ∧ bC (aCs z) k = true then rpV z h a ((rGet 0 a (aRs z h)).getD (-1)) (rpC (aCs z) k.toNat)
  else (-1, z)
/-- what a CHANGE of a COMMIT is like -/
theorem eL_is {cs : List kC} (hG : kGd cs) {k : Nat} {c : kC} (hk : cs[k]? = some c) : chL (kFF cs c) (kFs c) = eL (mg 32 (kFF cs c) (kFs c) 0 0) ∧ (eL (mg 32 (kFF cs c) (kFs c) 0 0)).length ≤ 32 ∧ (∀ x ∈ eL (mg 32 (kFF cs c) (kFs c) 0 0), pW x.1) ∧ (∀ x ∈ eL (mg 32 (kFF cs c) (kFs c) 0 0), x.2.1 ≠ 0 → pW x.1 ∧ 10 ≤ x.2.1 ∧ x.2.1 < 2000000) ∧ ((mg 32 (kFF cs c) (kFs c) 0 0).filter eN).length ≤ 16 := by
  obtain ⟨f1, f2, f3⟩ := kFF_hd hG.1 hk
  obtain ⟨g1, g2, g3⟩ := kFs_hd hG.1 hk
  obtain ⟨-, a, b, -, -⟩ := mg_ch 32 (kFF cs c) (kFs c) 0 0 f1 g1 f2 g2 (by omega)
  have e : chL (kFF cs c) (kFs c) = eL (mg 32 (kFF cs c) (kFs c) 0 0) := by
    unfold chL eL
    rw [← a, ← b]; rfl
  have wf := (kFF_gd hG.2 c).2.2
  have ws := (hG.2 c (List.mem_of_getElem? hk)).2.2
  rw [← e]
  refine ⟨rfl, ?_, fun x hx => ?_, fun x hx h0 => ?_, ?_⟩
  · unfold chL
    rw [List.length_append, List.length_map, List.length_map]
    have l1 := List.length_filter_le (chU (kFF cs c)) (kFs c)
    have l2 := List.length_filter_le (goP (kFs c)) (kFF cs c)
    omega
  · rcases List.mem_append.mp hx with w | w
    · obtain ⟨f, hf, rfl⟩ := List.mem_map.mp w
      exact (ws f (List.mem_filter.mp hf).1).1
    · obtain ⟨f, hf, rfl⟩ := List.mem_map.mp w
      exact (wf f (List.mem_filter.mp hf).1).1
  · rcases List.mem_append.mp hx with w | w
    · obtain ⟨f, hf, rfl⟩ := List.mem_map.mp w
      exact ws f (List.mem_filter.mp hf).1
    · obtain ⟨f, hf, rfl⟩ := List.mem_map.mp w
      exact absurd rfl h0
  · have := congrArg List.length a
    rw [List.length_map, List.length_map] at this
    have l1 := List.length_filter_le (chU (kFF cs c)) (kFs c)
    omega
/-- the MESSAGE copied -/
theorem s_rp116 {M : gM} {cs : List kC} {k : Nat} {c : kC} {h a on : Int} (hC : uC M cs) (hO : kOk cs) (hk : cs[k]? = some c) (h12 : M 711 12 = 1) (h21 : M 721 0 = on) (h13 : M 711 13 = ((kMs c).length : Int)) :
    ∃ M1, F_replay_116 M h a (k : Int) on 0 = (F_comes M1 122 (kWh c) (kHr c)).bind (fun p => if p.1 < 0 then some (p.1, p.2) else (F_laysRef p.2 h a p.1 (-1)).bind (fun m => some (p.1, m))) ∧ uN M1 [on] (kMs c) ∧ ∀ b : Int, b ≠ 722 → M1 b = M b := by
  have hkl := uC_len hC hk
  have hw := (hO k c hk).1
  have lm := hw.2.2.1
  have hr := hC.2.2 k c hk
  have lp : ∀ (suf pre : List Int) (M2 : gM), kMs c = pre ++ suf → rw_ (M2 722) 0 pre → (∀ b : Int, b ≠ 722 → M2 b = M b) → ∃ M1, F_replay_116 M2 h a (k : Int) on (pre.length : Int) = (F_comes M1 122 (kWh c) (kHr c)).bind (fun p => if p.1 < 0 then some (p.1, p.2) else (F_laysRef p.2 h a p.1 (-1)).bind (fun m => some (p.1, m))) ∧ rw_ (M1 722) 0 (kMs c) ∧ ∀ b : Int, b ≠ 722 → M1 b = M b := by
    intro suf
    induction suf with
    | nil =>
      intro pre M2 e h2 hf
      rw [List.append_nil] at e
      rw [eq_replay_116, if_pos (by omega), hf 716 (by decide), hr.2.2.1, e, if_neg (by omega), hf 714 (by decide), hf 715 (by decide), hr.2.2.2.2.1, hr.2.2.2.2.2.1]
      exact ⟨M2, rfl, h2, hf⟩
    | cons x r ih =>
      intro pre M2 e h2 hf
      have hln := len_mid e
      have hx := hr.2.2.2.1 pre.length x (at_mid e)
      rw [eq_replay_116, if_pos (by omega), hf 716 (by decide), hr.2.2.1, if_pos (by omega)]
      simp (disch := omega) only [gw32_id]
      rw [if_pos (by omega), if_pos (by omega), hf 717 (by decide), hx]
      have := ih (pre ++ [x]) (gU M2 722 (pre.length : Int) x) (app_mid e) (rw_end (rw_congr h2 (fun q q0 q1 => gU_idx (by omega))) (by rw [Int.zero_add, gU_same])) (fun b hb => by rw [gU_cell _ _ _ hb]; exact hf b hb)
      rw [List.length_append, List.length_singleton] at this
      exact this
  obtain ⟨M1, e1, r1, f1⟩ := lp (kMs c) [] M rfl rw_nil (fun _ _ => rfl)
  refine ⟨M1, e1, ⟨by rw [f1 711 (by decide), h12]; rfl, (show 1 ≤ 3 by decide), fun j v hj => ?_, by rw [f1 711 (by decide)]; exact h13, lm, r1⟩, f1⟩
  cases j with
  | zero => cases hj; rw [f1 721 (by decide)]; exact h21
  | succ j => cases hj
theorem s_replay {M : gM} {z : aS} {h a k : Int} (hz : uSt M z) (hG : kGd (aCs z)) (hR : ∀ h : Int, 0 ≤ h → h < 4 → rGd ((aCs z).length : Int) (aRs z h)) : ∃ M1, F_replay M h a k = some ((aReplay z h a k).1, M1) ∧ uSt M1 (aReplay z h a k).2 := by
  have hl9 := hz.1.2.1
  unfold aReplay
  have no : ∀ y : Int × aS, ¬ ((0 ≤ h ∧ h ≤ 3) ∧ (0 ≤ a ∧ a ≤ 25) ∧ bC (aCs z) k = true) → ∃ M1, some ((-1 : Int), M) = some ((if (0 ≤ h ∧ h ≤ 3) ∧ (0 ≤ a ∧ a ≤ 25) ∧ bC (aCs z) k = true then y else (-1, z)).1, M1) ∧ uSt M1 (if (0 ≤ h ∧ h ≤ 3) ∧ (0 ≤ a ∧ a ≤ 25) ∧ bC (aCs z) k = true then y else (-1, z)).2 := fun y q => by
    rw [if_neg q]; exact ⟨M, rfl, hz⟩
  rw [eq_replay, gI_bb s_isHistory]
  by_cases q1 : 0 ≤ h ∧ h ≤ 3
  · rw [decide_eq_true q1, if_neg bIt, gI_bb s_in]
    by_cases q2 : 0 ≤ a ∧ a ≤ 25
    · rw [decide_eq_true q2, if_neg bIt, gI_bb (s_isCommit hz.1 k)]
      cases q3 : decide (0 ≤ k ∧ k < ((aCs z).length : Int)) with
      | false => rw [if_pos bIf]; exact no _ (fun w => by have w2 : decide (0 ≤ k ∧ k < ((aCs z).length : Int)) = true := w.2.2; rw [q3] at w2; cases w2)
      | true =>
        have q3' : bC (aCs z) k = true := q3
        rw [if_neg bIt, if_pos (show (0 ≤ h ∧ h ≤ 3) ∧ (0 ≤ a ∧ a ≤ 25) ∧ bC (aCs z) k = true from ⟨q1, q2, q3'⟩)]
        clear no
        obtain ⟨n, c, rfl, hk, hl⟩ := bC_at q3'
        rw [Int.toNat_natCast, rpC_at hk]
        have hRf := hz.2.2.1 h q1.1 (by omega)
        have hRg := hR h q1.1 (by omega)
        rw [gI_bb (s_branchAt hRf hRg q1 q2)]
        have ba := (branch_is hRg q2).2
        have rp : (rGet 0 a (aRs z h)).getD (-1) = -1 ∨ ∃ p : Nat, (rGet 0 a (aRs z h)).getD (-1) = (p : Int) ∧ p < (aCs z).length := by
          rcases ba with e | ⟨c, e, e2, e3⟩
          · rw [e]; exact Or.inl rfl
          · rw [e]; exact Or.inr ⟨c.toNat, by show c = _; omega, by omega⟩
        generalize (rGet 0 a (aRs z h)).getD (-1) = P at rp ⊢
        unfold rpV
        rcases rp with rfl | ⟨p, rfl, hp⟩
        · rw [if_pos rfl, if_pos (show (-1 : Int) < 0 by decide)]; exact ⟨M, rfl, hz⟩
        rw [if_neg (by omega), if_neg (show ¬ ((p : Int) < 0) by omega), Int.toNat_natCast]
        have hcp := List.getElem?_eq_getElem hp
        generalize (aCs z)[p] = d at hcp
        rw [fFs_at hcp]
        obtain ⟨E1, E2, E3, E4, E5⟩ := eL_is hG hk
        generalize mg 32 (kFF (aCs z) c) (kFs c) 0 0 = ds at E1 E2 E3 E4 E5 ⊢
        have gd := hG.2 d (List.mem_of_getElem? hcp)
        have l2 := (hG.1 p d hcp).1.2.2.2.2.2.2
        obtain ⟨M1, e1, u1, c1⟩ := s_laysChange hz.1 hG.1 hk
        rw [E1] at u1
        have f1 : gFr [741, 742, 743] [49] M M1 := ⟨fun b hb h7 => c1.1 b h7 (fun w => hb (by rw [w]; simp)) (fun w => hb (by rw [w]; simp)) (fun w => hb (by rw [w]; simp)), fun f hf => c1.2 f (fun w => hf (by rw [w]; simp))⟩
        have k1 : uSt M1 z := uSt_keep hz f1 (fun x hx => by simp at hx; omega) (by decide)
        rw [gI_bb e1]
        obtain ⟨M2, e2, t2, u2⟩ := s_changesThere u1 E2 (k1.1.2.2 p d hcp).2.2.2.2.2.2 (by omega) gd E3 E4 (by omega)
        have f2 : gFr [718, 719, 720] [] M1 M2 := fr_changesThere e2
        rw [gI_bb e2]
        have fr2 : gFr [718, 719, 720, 741, 742, 743] [49] M M2 := ⟨fun b hb h7 => by
          simp at hb
          rw [f2.1 b (by simp; omega) h7, f1.1 b (by simp; omega) h7], fun f hf => by rw [f2.2 f (by simp), f1.2 f hf]⟩
        have hC2 : uC M2 (aCs z) := by
          refine ⟨by rw [fr2.2 0 (by decide)]; exact hz.1.1, hl9, fun j x hj => ?_⟩
          have hu := k1.1.2.2 j x hj
          have hjl := (uC_len k1.1 hj).2
          exact ⟨by rw [f2.1 712 (by simp) (by decide)]; exact hu.1, by rw [f2.1 713 (by simp) (by decide)]; exact hu.2.1, by rw [f2.1 716 (by simp) (by decide)]; exact hu.2.2.1, by rw [f2.1 717 (by simp) (by decide)]; exact hu.2.2.2.1, by rw [f2.1 714 (by simp) (by decide)]; exact hu.2.2.2.2.1, by rw [f2.1 715 (by simp) (by decide)]; exact hu.2.2.2.2.2.1, u2 _ _ (by omega) hu.2.2.2.2.2.2⟩
        have hR2 : ∀ h : Int, 0 ≤ h → h < 4 → uRf M2 h (aRs z h) := fun i i0 i1 s s0 s1 => by
          rw [fr2.1 727 (by simp) (by decide), fr2.1 728 (by simp) (by decide)]; exact hz.2.2.1 i i0 i1 s s0 s1
        have k2 : uSt M2 z := uSt_new (cs := aCs z) (R := aRs z) hz hC2 hR2 fr2 (fun x hx => by simp at hx; omega) (by decide)
        show ∃ M9, (if bI (rpF ds (kFs d) && !tClash0 (rpT ds (kFs d))) = 0 then _ else _) = _ ∧ _
        cases hb : (rpF ds (kFs d) && !tClash0 (rpT ds (kFs d))) with
        | false => rw [if_pos bIf, if_pos (show false = false from rfl)]; exact ⟨M2, rfl, k2⟩
        | true =>
          rw [if_neg bIt, if_neg (show ¬ true = false by decide)]
          have ht := (Bool.and_eq_true _ _ ▸ hb : rpF ds (kFs d) = true ∧ _).1
          have hT2 := t2 ht
          show ∃ M9, (if (16 : Int) < M2 718 122 then _ else _) = _ ∧ _
          rw [hT2.2.1]
          by_cases q16 : 16 < (rpT ds (kFs d)).length
          · rw [if_pos (by omega), if_pos q16]; exact ⟨M2, rfl, k2⟩
          · rw [if_neg (by omega), if_neg q16]
            show ∃ M9, (F_areLike M2 122 (p : Int)).bind _ = _ ∧ _
            rw [gI_bb (s_areLike hT2 (k2.1.2.2 p d hcp).2.2.2.2.2.2)]
            by_cases qe : rpT ds (kFs d) = kFs d
            · rw [decide_eq_true qe, if_neg bIt, if_pos qe]; exact ⟨M2, rfl, k2⟩
            · rw [decide_eq_false qe, if_pos bIf, if_neg qe, if_pos (by omega)]
              have hkl := uC_len hz.1 hk
              have hms : M2 716 (n : Int) = ((kMs c).length : Int) := (hC2.2.2 n c hk).2.2.1
              show ∃ M9, F_replay_116 (gU (gU (gU M2 711 12 1) 721 0 (p : Int)) 711 13 ((gU (gU M2 711 12 1) 721 0 (p : Int)) 716 (n : Int))) h a (n : Int) (p : Int) 0 = _ ∧ _
              rw [gU_cell _ _ _ (show (716 : Int) ≠ 721 by decide), gU_cell _ _ _ (show (716 : Int) ≠ 711 by decide), hms]
              have fr3 : gFr [718, 719, 720, 721, 741, 742, 743] [12, 13, 49] M (gU (gU (gU M2 711 12 1) 721 0 (p : Int)) 711 13 ((kMs c).length : Int)) := ⟨fun x hx hx2 => by
                simp at hx
                rw [gU_cell _ _ _ hx2, gU_cell _ _ _ hx.2.2.2.1, gU_cell _ _ _ hx2]
                exact fr2.1 x (by simp; omega) hx2, fun g hg => by
                simp at hg
                rw [gU_idx hg.2.1, gU_cell _ _ _ (by decide), gU_idx hg.1]
                exact fr2.2 g (by simp; omega)⟩
              have b3 : ∀ b : Int, 712 ≤ b → b ≤ 720 → (gU (gU (gU M2 711 12 1) 721 0 (p : Int)) 711 13 ((kMs c).length : Int)) b = M2 b := fun b b0 b1 => by rw [gU_cell _ _ _ (by omega), gU_cell _ _ _ (by omega), gU_cell _ _ _ (by omega)]
              have a12 : (gU (gU (gU M2 711 12 1) 721 0 (p : Int)) 711 13 ((kMs c).length : Int)) 711 12 = 1 := by rw [gU_idx (by decide), gU_cell _ _ _ (by decide), gU_same]
              have a0 : (gU (gU (gU M2 711 12 1) 721 0 (p : Int)) 711 13 ((kMs c).length : Int)) 711 0 = M2 711 0 := by rw [gU_idx (by decide), gU_cell _ _ _ (by decide), gU_idx (by decide)]
              have a21 : (gU (gU (gU M2 711 12 1) 721 0 (p : Int)) 711 13 ((kMs c).length : Int)) 721 0 = (p : Int) := by rw [gU_cell _ _ _ (by decide), gU_same]
              have a13 : (gU (gU (gU M2 711 12 1) 721 0 (p : Int)) 711 13 ((kMs c).length : Int)) 711 13 = ((kMs c).length : Int) := gU_same _ _ _ _
              generalize (gU (gU (gU M2 711 12 1) 721 0 (p : Int)) 711 13 ((kMs c).length : Int)) = M3 at fr3 b3 a12 a0 a21 a13 ⊢
              have hC3 : uC M3 (aCs z) := uC_same hC2 a0 b3
              obtain ⟨M4, e4, n4, f4⟩ := s_rp116 (h := h) (a := a) hC3 hG.1 hk a12 a21 a13
              rw [e4]
              have fr4 : gFr [718, 719, 720, 721, 722, 741, 742, 743] [12, 13, 49] M M4 := ⟨fun x hx hx2 => by
                simp at hx
                rw [f4 x (by omega), fr3.1 x (by simp; omega) hx2], fun g hg => by rw [f4 711 (by decide)]; exact fr3.2 g hg⟩
              have b4 : ∀ b : Int, 712 ≤ b → b ≤ 720 → M4 b = M2 b := fun b b0 b1 => by rw [f4 b (by omega), b3 b b0 b1]
              refine s_sets hz (uC_same hC2 (by rw [f4 711 (by decide)]; exact a0) b4) hG.1 (uT_of hT2 (by rw [b4 718 (by decide) (by decide)]) (fun q _ _ => by unfold uG; rw [b4 719 (by decide) (by decide), b4 720 (by decide) (by decide)])) n4 (by omega) (fun i i0 i1 => ⟨fun s s0 s1 => ?_, hR i i0 i1⟩) q1 q2 fr4 (fun x hx => by simp at hx; omega) (by decide)
              rw [fr4.1 727 (by simp) (by decide), fr4.1 728 (by simp) (by decide)]; exact hz.2.2.1 i i0 i1 s s0 s1
    · rw [decide_eq_false q2, if_pos bIf]; exact no _ (fun w => q2 w.2.1)
  · rw [decide_eq_false q1, if_pos bIf]; exact no _ (fun w => q1 w.1)
