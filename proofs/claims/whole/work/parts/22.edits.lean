-- ==== EDITS: files stay in order, and not too many
theorem dX2_readEdits_0 : decode cX2_readEdits 0 = .ok (.iconst 0, 1) := by decide +kernel
theorem dX2_readEdits_1 : decode cX2_readEdits 1 = .ok (.istore_n 3, 1) := by decide +kernel
theorem dX2_readEdits_2 : decode cX2_readEdits 2 = .ok (.iload_n 3, 1) := by decide +kernel
theorem dX2_readEdits_3 : decode cX2_readEdits 3 = .ok (.sipush 160, 3) := by decide +kernel
theorem dX2_readEdits_6 : decode cX2_readEdits 6 = .ok (.if_icmp .ge 42, 3) := by decide +kernel
theorem dX2_readEdits_9 : decode cX2_readEdits 9 = .ok (.aload_n 0, 1) := by decide +kernel
theorem dX2_readEdits_10 : decode cX2_readEdits 10 = .ok (.aload_n 1, 1) := by decide +kernel
theorem dX2_readEdits_11 : decode cX2_readEdits 11 = .ok (.aload_n 2, 1) := by decide +kernel
theorem dX2_readEdits_12 : decode cX2_readEdits 12 = .ok (.invokevirtual 119, 3) := by decide +kernel
theorem dX2_readEdits_15 : decode cX2_readEdits 15 = .ok (.aload_n 1, 1) := by decide +kernel
theorem dX2_readEdits_16 : decode cX2_readEdits 16 = .ok (.getfield 75, 3) := by decide +kernel
theorem dX2_readEdits_19 : decode cX2_readEdits 19 = .ok (.ifCond .ne 12, 3) := by decide +kernel
theorem dX2_readEdits_22 : decode cX2_readEdits 22 = .ok (.aload_n 1, 1) := by decide +kernel
theorem dX2_readEdits_23 : decode cX2_readEdits 23 = .ok (.invokevirtual 66, 3) := by decide +kernel
theorem dX2_readEdits_26 : decode cX2_readEdits 26 = .ok (.bipush 59, 2) := by decide +kernel
theorem dX2_readEdits_28 : decode cX2_readEdits 28 = .ok (.if_icmp .eq 4, 3) := by decide +kernel
theorem dX2_readEdits_31 : decode cX2_readEdits 31 = .ok (.return_, 1) := by decide +kernel
theorem dX2_readEdits_32 : decode cX2_readEdits 32 = .ok (.aload_n 1, 1) := by decide +kernel
theorem dX2_readEdits_33 : decode cX2_readEdits 33 = .ok (.dup, 1) := by decide +kernel
theorem dX2_readEdits_34 : decode cX2_readEdits 34 = .ok (.getfield 101, 3) := by decide +kernel
theorem dX2_readEdits_37 : decode cX2_readEdits 37 = .ok (.iconst 1, 1) := by decide +kernel
theorem dX2_readEdits_38 : decode cX2_readEdits 38 = .ok (.iadd, 1) := by decide +kernel
theorem dX2_readEdits_39 : decode cX2_readEdits 39 = .ok (.putfield 101, 3) := by decide +kernel
theorem dX2_readEdits_42 : decode cX2_readEdits 42 = .ok (.iinc 3 1, 3) := by decide +kernel
theorem dX2_readEdits_45 : decode cX2_readEdits 45 = .ok (.goto (-43), 3) := by decide +kernel
theorem dX2_readEdits_48 : decode cX2_readEdits 48 = .ok (.return_, 1) := by decide +kernel
def tSrt (fs : List gF) : Prop := fs.Pairwise (fun f g => f.1 < g.1)
theorem tPut_mem {w c : Int} : ∀ {fs : List gF} {g : gF}, g ∈ tPut w c fs → g = (w, c) ∨ g ∈ fs
  | [], g, h => Or.inl (List.mem_singleton.mp h)
  | f :: r, g, h => by
    unfold tPut at h
    split at h
    · rcases List.mem_cons.mp h with z | z
      · exact Or.inr (by rw [z]; exact List.mem_cons_self)
      · rcases tPut_mem z with q | q
        · exact Or.inl q
        · exact Or.inr (List.mem_cons_of_mem _ q)
    · split at h
      · rcases List.mem_cons.mp h with z | z
        · exact Or.inl z
        · exact Or.inr (List.mem_cons_of_mem _ z)
      · rcases List.mem_cons.mp h with z | z
        · exact Or.inl z
        · exact Or.inr z
theorem tPut_srt (w c : Int) : ∀ {fs : List gF}, tSrt fs → tSrt (tPut w c fs)
  | [], _ => List.pairwise_singleton _ _
  | f :: r, h => by
    obtain ⟨h1, h2⟩ := List.pairwise_cons.mp h
    unfold tPut
    by_cases hl : f.1 < w
    · rw [if_pos hl]
      refine List.pairwise_cons.mpr ⟨fun g hg => ?_, tPut_srt w c h2⟩
      rcases tPut_mem hg with q | q
      · rw [q]; exact hl
      · exact h1 g q
    · rw [if_neg hl]
      by_cases he : f.1 = w
      · rw [if_pos he]
        refine List.pairwise_cons.mpr ⟨fun g hg => ?_, h2⟩
        have := h1 g hg
        show w < g.1
        omega
      · rw [if_neg he]
        refine List.pairwise_cons.mpr ⟨fun g hg => ?_, h⟩
        show w < g.1
        rcases List.mem_cons.mp hg with q | q
        · rw [q]; omega
        · have := h1 g q; omega
theorem tPut_old {w : Int} (c : Int) : ∀ {fs : List gF} (i : Int), tSrt fs → 0 ≤ i → 0 ≤ tFind w fs i → (tPut w c fs).length = fs.length
  | [], i, _, _, h => absurd h (by show ¬ 0 ≤ (-1 : Int); decide)
  | f :: r, i, hs, hi, h => by
    obtain ⟨h1, h2⟩ := List.pairwise_cons.mp hs
    unfold tFind at h
    unfold tPut
    by_cases he : f.1 = w
    · rw [if_neg (by omega), if_pos he]; rfl
    · rw [if_neg he] at h
      have hlt : f.1 < w := by
        rcases tFind_i w r (i + 1) with ⟨a, -, -⟩ | ⟨j, g, a, b, -, -⟩
        · omega
        · have := h1 g (List.mem_of_getElem? a); omega
      rw [if_pos hlt, List.length_cons, List.length_cons, tPut_old c (i + 1) h2 (by omega) h]
def dInv (fs : List gF) : Prop := fs.length ≤ 16 ∧ tSrt fs
theorem dPutF_inv (w c : Int) {fs : List gF} (h : dInv fs) : dInv (dPutF w c fs).2 := by
  unfold dPutF
  split
  · exact h
  · split
    · exact h
    · refine ⟨?_, tPut_srt w c h.2⟩
      show (tPut w c fs).length ≤ 16
      rename_i h1 h2
      have h3 := (tPut_len w c fs).1
      have h4 := h.1
      by_cases hf : 0 ≤ tFind w fs 0
      · rw [tPut_old c 0 h.2 (Int.le_refl 0) hf]; exact h4
      · omega
theorem tFet_inv (w : Int) : ∀ (os fs : List gF), tSrt fs → tSrt (tFet w os fs) ∧ ((tFet w os fs).length : Int) ≤ (fs.length : Int) + tCnt w os
  | [], fs, h => ⟨h, by show (fs.length : Int) ≤ (fs.length : Int) + 0; omega⟩
  | f :: r, fs, h => by
    unfold tFet tCnt
    cases hb : pCov w f.1
    · obtain ⟨a, b⟩ := tFet_inv w r fs h
      exact ⟨a, by show ((tFet w r fs).length : Int) ≤ (fs.length : Int) + ((0 : Int) + tCnt w r); omega⟩
    · obtain ⟨a, b⟩ := tFet_inv w r (tPut f.1 f.2 fs) (tPut_srt _ _ h)
      have := (tPut_len f.1 f.2 fs).1
      exact ⟨a, by show ((tFet w r (tPut f.1 f.2 fs)).length : Int) ≤ (fs.length : Int) + ((1 : Int) + tCnt w r); omega⟩
theorem tMvIn_inv (f t : Int) : ∀ (os fs : List gF), tSrt fs → tSrt (tMvIn f t os fs) ∧ ((tMvIn f t os fs).length : Int) ≤ (fs.length : Int) + tCnt f os
  | [], fs, h => ⟨h, by show (fs.length : Int) ≤ (fs.length : Int) + 0; omega⟩
  | g :: r, fs, h => by
    unfold tMvIn tCnt
    cases hb : pCov f g.1
    · obtain ⟨a, b⟩ := tMvIn_inv f t r fs h
      exact ⟨a, by show ((tMvIn f t r fs).length : Int) ≤ (fs.length : Int) + ((0 : Int) + tCnt f r); omega⟩
    · obtain ⟨a, b⟩ := tMvIn_inv f t r (tPut (pMov g.1 f t) g.2 fs) (tPut_srt _ _ h)
      have := (tPut_len (pMov g.1 f t) g.2 fs).1
      exact ⟨a, by show ((tMvIn f t r (tPut (pMov g.1 f t) g.2 fs)).length : Int) ≤ (fs.length : Int) + ((1 : Int) + tCnt f r); omega⟩
theorem dFetch_inv (w : Int) (os : List gF) {fs : List gF} (h : dInv fs) : dInv (dFetch w os fs).2 := by
  unfold dFetch
  split
  · exact h
  · split
    · exact h
    · rename_i h1 h2
      obtain ⟨a, b⟩ := tFet_inv w os _ (List.Pairwise.filter (fun f => !pCov w f.1) h.2)
      rw [tCnt_fil] at b
      exact ⟨by show (tFet w os _).length ≤ 16; omega, a⟩
theorem dMov_inv (f t : Int) {fs : List gF} (h : dInv fs) : dInv (dMov f t fs).2 := by
  unfold dMov
  split
  · exact h
  · split
    · exact h
    · obtain ⟨a, b⟩ := tMvIn_inv f t fs _ (List.Pairwise.filter (fun g => !pCov f g.1) h.2)
      rw [tCnt_fil] at b
      have := h.1
      exact ⟨by show (tMvIn f t fs _).length ≤ 16; omega, a⟩
theorem pEditDo_inv (cs : List kC) (sg v5 v6 v7 : Int) {d : kC} (h : dInv (kFs d)) : dInv (pEditDo cs sg v5 v6 v7 d).2 := by
  unfold pEditDo
  split
  · exact dPutF_inv _ _ h
  · split
    · split
      · split
        · exact dFetch_inv _ _ h
        · exact h
      · exact h
    · split
      · exact h
      · split
        · exact dMov_inv _ _ h
        · exact ⟨Nat.le_trans (List.length_filter_le _ _) h.1, List.Pairwise.filter _ h.2⟩
theorem pEdit_inv (cs : List kC) (s : List Int) (p : Int) {d : kC} (h : dInv (kFs d)) : dInv (kFs (pEdit cs s p d).2.2.2) ∧ kPs (pEdit cs s p d).2.2.2 = kPs d ∧ kMs (pEdit cs s p d).2.2.2 = kMs d := by
  unfold pEdit
  split
  · unfold pEditEnd
    split
    · exact ⟨h, rfl, rfl⟩
    · exact ⟨pEditDo_inv cs _ _ _ _ h, rfl, rfl⟩
  · exact ⟨h, rfl, rfl⟩
/-- EDITS: so many at most -/
def pEdits (cs : List kC) : Nat → List Int → Int → kC → pE
  | 0, s, p, d => (0, p, s, d)
  | k + 1, s, p, d =>
    if (pEdit cs s p d).1 ≠ 0 then pEdit cs s p d
    else if hd (pEdit cs s p d).2.2.1 = 59 then pEdits cs k (pEdit cs s p d).2.2.1.tail ((pEdit cs s p d).2.1 + 1) (pEdit cs s p d).2.2.2
    else (0, (pEdit cs s p d).2.1, (pEdit cs s p d).2.2.1, (pEdit cs s p d).2.2.2)
theorem pEdits_inv (cs : List kC) : ∀ (k : Nat) (s : List Int) (p : Int) (d : kC), dInv (kFs d) → dInv (kFs (pEdits cs k s p d).2.2.2) ∧ kPs (pEdits cs k s p d).2.2.2 = kPs d ∧ kMs (pEdits cs k s p d).2.2.2 = kMs d
  | 0, s, p, d, h => ⟨h, rfl, rfl⟩
  | k + 1, s, p, d, h => by
    have hi := pEdit_inv cs s p h
    unfold pEdits
    split
    · exact hi
    · split
      · obtain ⟨a, b, c⟩ := pEdits_inv cs k (pEdit cs s p d).2.2.1.tail ((pEdit cs s p d).2.1 + 1) _ hi.1
        exact ⟨a, b.trans hi.2.1, c.trans hi.2.2⟩
      · exact hi
theorem sp_X2_readEdits {sh : gS} {M : gM} {a p : Int} {s : List Int} {d : kC} {cs : List kC} (hOK : gOK sh M) (hC : cOk sh M cs) (hT : tpIn M p s) (h0 : M 1 4 = 0) (hD : dOk sh M a d) (hps : ∀ q ∈ kPs d, 0 ≤ q ∧ q < (cs.length : Int)) (hfl : dInv (kFs d)) :
    gC (gr 4 140) yX2_readEdits cX2_readEdits 4 none [(4, a), (4, 1), (4, 4)] sh M (gPm sh (fun r M1 => r = none ∧ rdP sh M a (pEdits cs 160 s p d).1 (pEdits cs 160 s p d).2.1 (pEdits cs 160 s p d).2.2.1 (pEdits cs 160 s p d).2.2.2 M1)) := by
  have hsa := hD.1.1
  have ha0 : 379 < a := hD.1.2.2.2.2.2.1
  generalize hx : pEdits cs 160 s p d = x
  refine gC_ofA (lv := [_, _, _, _]) (by decide +kernel) (Nat.le_of_ble_eq_true rfl) rfl (fun hMw hav => ?_)
  have lp : ∀ (k m : Nat) (s1 : List Int) (q : Int) (d1 : kC) (M1 : gM), m + k = 160 → kPs d1 = kPs d → dInv (kFs d1) → rdP sh M a 0 q s1 d1 M1 → pEdits cs k s1 q d1 = x →
      gA (gr 4 140) yX2_readEdits cX2_readEdits 4 none (gPm sh (fun r M1 => r = none ∧ rdP sh M a x.1 x.2.1 x.2.2.1 x.2.2.2 M1)) (0, 0) 2 [(4, a), (4, 1), (4, 4), (0, (m : Int))] [] sh M1 := by
    intro k
    induction k with
    | zero =>
      intro m s1 q d1 M1 hm hk hi hP hv
      obtain ⟨hT1, hf1, hD1, hO1, hF1⟩ := id hP
      refine g_iload_n (q0 := 3) (j := 3) rfl dX2_readEdits_2 rfl ?_
      refine g_sipush (q0 := 6) rfl dX2_readEdits_3 (k := ?_)
      refine g_icmp_ge (q0 := 9) (tgt := 48) rfl dX2_readEdits_6 (by decide) (fun h6 => ?_) (fun h6 => ?_)
      · refine g_return dX2_readEdits_48 rfl ⟨Nat.zero_le _, Nat.zero_le _⟩ ?_
        rw [← hv]
        exact ⟨rfl, rfl, hP⟩
      · omega
    | succ k ih =>
      intro m s1 q d1 M1 hm hk hi hP hv
      obtain ⟨hT1, hf1, hD1, hO1, hF1⟩ := id hP
      have hC1 : cOk sh M1 cs := cOk_fr hC (fun b b0 b1 => hF1 b (by omega) (by omega))
      rw [pEdits] at hv
      have hi2 := pEdit_inv cs s1 q hi
      refine g_iload_n (q0 := 3) (j := 3) rfl dX2_readEdits_2 rfl ?_
      refine g_sipush (q0 := 6) rfl dX2_readEdits_3 (k := ?_)
      refine g_icmp_ge (q0 := 9) (tgt := 48) rfl dX2_readEdits_6 (by decide) (fun h6 => ?_) (fun h6 => ?_)
      · omega
      · refine g_aload_n (q0 := 10) (j := 0) rfl dX2_readEdits_9 rfl ?_
        refine g_aload_n (q0 := 11) (j := 1) rfl dX2_readEdits_10 rfl ?_
        refine g_aload_n (q0 := 12) (j := 2) rfl dX2_readEdits_11 rfl ?_
        refine g_callVm (as := [_, _]) (rest := []) mt_X2_readEdit mi_X2_readEdit se_X2_readEdit ml_X2_119 dX2_readEdits_12 (q0 := 15) rfl rfl (by assumption) rfl rfl (sp_X2_readEdit hO1 hC1 hT1 hf1 hD1 (by rw [hk]; exact hps) hi.1) rfl ⟨by decide, by decide⟩ (Nat.le_of_ble_eq_true rfl) ⟨Nat.zero_le _, Nat.zero_le _⟩ (fun r2 M2 hP2 hw2 hMw2 => ?_)
        obtain ⟨rfl, hP2⟩ := hP2
        generalize pEdit cs s1 q d1 = y at hP2 hv hi2
        have hP3 : rdP sh M a y.1 y.2.1 y.2.2.1 y.2.2.2 M2 := ⟨hP2.1, hP2.2.1, hP2.2.2.1, hP2.2.2.2.1, fun b b1 b2 => by rw [hP2.2.2.2.2 b b1 b2, hF1 b b1 b2]⟩
        obtain ⟨hT3, hf3, hD3, hO2, hF3⟩ := id hP3
        have hl3 := tpIn_len hT3
        have hq3 := hT3.1
        refine g_aload_n (q0 := 16) (j := 1) rfl dX2_readEdits_15 rfl ?_
        refine g_getf (q0 := 19) (t := 0) (fi := 4) rfl rfl ff_X2_75 dX2_readEdits_16 rfl (sh_1 hO1) ?_
        refine g_if_ne (q0 := 22) (tgt := 31) rfl dX2_readEdits_19 (by decide) (fun h19 => ?_) (fun h19 => ?_)
        · rw [hf3] at h19
          rw [if_pos h19] at hv
          refine g_return dX2_readEdits_31 rfl ⟨Nat.zero_le _, Nat.zero_le _⟩ ?_
          rw [← hv]
          exact ⟨rfl, rfl, hP3⟩
        · rw [hf3] at h19
          rw [if_neg (by omega)] at hv
          rw [h19] at hP3
          refine g_aload_n (q0 := 23) (j := 1) rfl dX2_readEdits_22 rfl ?_
          refine g_callVp (as := []) (rest := []) mt_X9_next mi_X9_next se_X9_next ml_X2_66 dX2_readEdits_23 (q0 := 26) rfl rfl (sh_1 hO1) rfl rfl (sp_X9_next hO2 hT3) rfl ⟨by decide, by decide⟩ (Nat.le_of_ble_eq_true rfl) ⟨Nat.zero_le _, Nat.zero_le _⟩ (fun hwc => ?_)
          refine g_bipush (q0 := 28) rfl dX2_readEdits_26 (k := ?_)
          refine g_icmp_eq (q0 := 31) (tgt := 32) rfl dX2_readEdits_28 (by decide) (fun h28 => ?_) (fun h28 => ?_)
          · rw [if_pos h28] at hv
            cases hy : y.2.2.1 with
            | nil => rw [hy] at h28; exact absurd h28 (by decide)
            | cons c r =>
              rw [hy] at hv hP3 hl3
              simp only [List.length_cons] at hl3
              refine g_aload_n (q0 := 33) (j := 1) rfl dX2_readEdits_32 rfl ?_
              refine g_dup (q0 := 34) rfl dX2_readEdits_33 (k := ?_)
              refine g_getf (q0 := 37) (t := 0) (fi := 2) rfl rfl ff_X2_101 dX2_readEdits_34 rfl (sh_1 hO1) ?_
              refine g_iconst (q0 := 38) rfl dX2_readEdits_37 (k := ?_)
              refine g_iadd (q0 := 39) rfl dX2_readEdits_38 (by omega) (by omega) ?_
              refine g_put (q0 := 42) (t := 0) (fi := 2) rfl rfl ff_X2_101 dX2_readEdits_39 rfl (sh_1 hO1) rfl (fun _ => ⟨rfl, rfl⟩) ?_
              refine g_iinc (q0 := 45) (lv2 := [_, _, _, _]) rfl dX2_readEdits_42 rfl (by decide) rfl rfl (by omega) (by omega) ?_
              refine g_goto (tgt := 2) dX2_readEdits_45 (by decide) ?_
              exact ih (m + 1) r (y.2.1 + 1) _ _ (by omega) (hi2.2.1.trans hk) hi2.1 (rdP_adv hP3) hv
          · rw [if_neg h28] at hv
            refine g_return dX2_readEdits_31 rfl ⟨Nat.zero_le _, Nat.zero_le _⟩ ?_
            rw [← hv]
            exact ⟨rfl, rfl, hP3⟩
  refine g_iconst (q0 := 1) rfl dX2_readEdits_0 (k := ?_)
  refine g_istore_n (q0 := 2) (j := 3) (lv2 := [_, _, _, _]) rfl dX2_readEdits_1 (by decide) rfl rfl ?_
  exact lp 160 0 s p d M rfl rfl hfl ⟨hT, h0, hD, hOK, fun _ _ _ => rfl⟩ hx
