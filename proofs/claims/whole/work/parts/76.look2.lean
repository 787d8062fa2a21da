-- ==== look: the class
theorem cS_tape {sh : gS} {M M1 : gM} {z : aS} (h : cS sh M z) (hO : gOK sh M1) (hf : ∀ b : Int, b ≠ 1 → M1 b = M b) (h1 : M1 1 1 = 0) : cS sh M1 ([], z.2) := by
  obtain ⟨h0, hC, -, h3, h4, h5⟩ := h
  refine ⟨hO, cOk_fr hC (fun b b0 b1 => hf b (by omega)), ⟨tBy_nil M1, h1⟩, fun i i0 i1 => ?_, fun p p0 p1 => ?_, by rw [hf 0 (by omega)]; exact h5⟩
  · exact ⟨rOk_keep (h3 i i0 i1).1 (fun b b0 b1 => hf b (by omega)), rOk_keep (h3 i i0 i1).2 (fun b b0 b1 => hf b (by omega))⟩
  · exact ⟨plOk_keep (h4 p p0 p1).1 (fun b b0 b1 => hf b (by omega)), plOk_keep (h4 p p0 p1).2 (fun b b0 b1 => hf b (by omega))⟩
theorem sp_X11_readWholePath {sh : gS} {M : gM} {z : aS} {n : Nat} (hz : cS sh M z) (hn : n ≤ (aTp z).length) : gC (gr 2 45) yX11_readWholePath cX11_readWholePath 3 (some (.int)) [(4, 0), (0, (n : Int))] sh M (gPm sh (fun r M1 => r = some (0, (wpR ((aTp z).take n)).2) ∧ cS sh M1 ([], z.2) ∧ M1 1 4 = (wpR ((aTp z).take n)).1 ∧ (∀ b : Int, b ≠ 1 → M1 b = M b))) := by
  obtain ⟨hOK, hC, ⟨hB, hL⟩, hRs, hPl, hSv⟩ := id hz
  have h260 := hB.1
  refine w_X11_readWholePath hOK ⟨_, sp_X9_begin hOK hB hL hn, fun r1 M1 hP1 => ?_⟩
  obtain ⟨rfl, rfl⟩ := hP1
  have hT := tBeg_in hB hn
  have hO1 : gOK sh (tBeg M (n : Int)) := by
    unfold tBeg
    exact gOK_U (gOK_U (gOK_U hOK (sh_1 hOK) (gFree_obj (f := 2) rfl)) (sh_1 hOK) (gFree_obj (f := 3) rfl)) (sh_1 hOK) (gFree_obj (f := 4) rfl)
  refine ⟨rfl, hO1, _, sp_X9_path hO1 hT (show (6 : Nat) ≤ 6 by decide), fun r2 M2 hP2 => ?_⟩
  obtain ⟨rfl, hM2, hT2⟩ := hP2
  have hO2 : gOK sh M2 := by rw [hM2]; exact gOK_tM hO1
  have f4 : (tBeg M (n : Int)) 1 4 = 0 := by unfold tBeg; rw [gU_same]
  have g4 : M2 1 4 = (pPath 6 ((aTp z).take n) 0).1 := by
    rw [hM2, f4]; unfold tM; rw [gU_same]; rfl
  have hl := tpIn_len hT2
  have fr2 : ∀ b : Int, b ≠ 1 → M2 b = M b := fun b hb => by
    rw [hM2]; unfold tM tBeg
    rw [gU_cell _ _ _ hb, gU_cell _ _ _ hb, gU_cell _ _ _ hb, gU_cell _ _ _ hb, gU_cell _ _ _ hb]
  have fin : ∀ (M3 : gM) (f : Int), gOK sh M3 → (∀ b : Int, b ≠ 1 → M3 b = M b) → M3 1 4 = f → gOK sh (gU M3 1 1 0) ∧ cS sh (gU M3 1 1 0) ([], z.2) ∧ (gU M3 1 1 0) 1 4 = f ∧ ∀ b : Int, b ≠ 1 → (gU M3 1 1 0) b = M b := fun M3 f hO3 fr3 h4 => by
    have hO4 : gOK sh (gU M3 1 1 0) := gOK_U hO3 (sh_1 hO3) (gFree_obj (f := 1) rfl)
    have fr4 : ∀ b : Int, b ≠ 1 → (gU M3 1 1 0) b = M b := fun b hb => by rw [gU_cell _ _ _ hb]; exact fr3 b hb
    exact ⟨hO4, cS_tape hz hO4 fr4 (gU_same _ _ _ _), by rw [gU_idx (by decide)]; exact h4, fr4⟩
  refine ⟨_, rfl, hO2, ?_⟩
  rw [g4]
  unfold wpR
  by_cases a : (pPath 6 ((aTp z).take n) 0).1 = 0
  · rw [if_pos a, if_pos a]
    refine ⟨_, sp_X9_isAtEnd hO2 hT2, ?_⟩
    by_cases b : (pPath 6 ((aTp z).take n) 0).2.2.2 = []
    · rw [if_pos b, if_pos b, if_neg (show ¬ (1 : Int) = 0 by decide)]
      obtain ⟨w1, w2, w3, w4⟩ := fin M2 0 hO2 fr2 (by rw [g4, a])
      exact ⟨rfl, rfl, w2, w3, w4⟩
    · rw [if_neg b, if_neg b, if_pos (show (0 : Int) = 0 from rfl)]
      refine ⟨_, sp_X9_fail hO2 (by decide) (by rw [hT2.1]; omega), fun r3 M3 hP3 => ?_⟩
      obtain ⟨rfl, hM3⟩ := hP3
      have hO3 : gOK sh M3 := by rw [hM3]; exact gOK_tM hO2
      have fr3 : ∀ b : Int, b ≠ 1 → M3 b = M b := fun b hb => by
        rw [hM3]; unfold tM; rw [gU_cell _ _ _ hb, gU_cell _ _ _ hb]; exact fr2 b hb
      obtain ⟨w1, w2, w3, w4⟩ := fin M3 (-1000 - (pPath 6 ((aTp z).take n) 0).2.2.1) hO3 fr3 (by
        rw [hM3]; unfold tM; rw [gU_same, g4, a, hT2.1]; show (if (0 : Int) = 0 then -1000 * 1 - _ else _) = _; rw [if_pos rfl, Int.mul_one])
      exact ⟨rfl, hO3, rfl, rfl, w2, w3, w4⟩
  · rw [if_neg a, if_neg a]
    obtain ⟨w1, w2, w3, w4⟩ := fin M2 _ hO2 fr2 g4
    exact ⟨rfl, rfl, w2, w3, w4⟩
theorem fold_t {w : Int} {fs : List gF} : (if tFind w fs 0 < 0 then (if tFolder w fs = false then (0 : Int) else 2) else 1) = tKind w fs := by
  unfold tKind
  rcases tFind_spec w fs 0 (by decide) with ⟨a, -, c⟩ | ⟨j, g, a, b, c, -⟩
  · rw [a, if_pos (by decide), if_pos rfl, fold_no c]
    by_cases h : 0 < tCnt w fs
    · rw [if_pos h, decide_eq_true h, if_neg (by decide)]
    · rw [if_neg h, decide_eq_false h, if_pos rfl]
  · rw [if_neg (by omega), if_neg (by omega)]
theorem sp_X11_look {sh : gS} {M : gM} {z : aS} {k n w : Int} (hz : cS sh M z) : gC (gr 3 67) yX11_look cX11_look 6 (some (.int)) [(4, 0), (0, k), (0, n), (0, w)] sh M (cPo sh M 0 (aLook z k n w).1 ((aLook z k n w).2, z.2)) := by
  obtain ⟨hOK, hC, ⟨hB, hL⟩, -⟩ := id hz
  have hl9 := hC.2.1
  refine w_X11_look hOK ⟨_, sp_X1_has hOK hC, ?_⟩
  unfold aLook
  have no : ∀ y : Int × List Int, ¬ (bC (aCs z) k = true ∧ (1 ≤ n ∧ n ≤ 11) ∧ (0 ≤ w ∧ w ≤ 3) ∧ n ≤ ((aTp z).length : Int)) → cPo sh M 0 (if bC (aCs z) k = true ∧ (1 ≤ n ∧ n ≤ 11) ∧ (0 ≤ w ∧ w ≤ 3) ∧ n ≤ ((aTp z).length : Int) then y else (-1, aTp z)).1 ((if bC (aCs z) k = true ∧ (1 ≤ n ∧ n ≤ 11) ∧ (0 ≤ w ∧ w ≤ 3) ∧ n ≤ ((aTp z).length : Int) then y else (-1, aTp z)).2, z.2) (some (0, -1)) sh M := fun y q => by
    rw [if_neg q]; exact cPo_same (z := (aTp z, z.2)) hz rfl
  rw [hasI]
  by_cases q1 : bC (aCs z) k = true
  · rw [if_neg (bI_ne q1)]
    by_cases q2 : w < 0
    · rw [if_pos q2]; exact no _ (fun w => by omega)
    rw [if_neg q2]
    by_cases q3 : (3 : Int) < w
    · rw [if_pos q3]; exact no _ (fun w => by omega)
    rw [if_neg q3]
    by_cases q4 : n < 1
    · rw [if_pos q4]; exact no _ (fun w => by omega)
    rw [if_neg q4]
    by_cases q5 : (11 : Int) < n
    · rw [if_pos q5]; exact no _ (fun w => by omega)
    rw [if_neg q5, hL]
    by_cases q6 : ((aTp z).length : Int) < n
    · rw [if_pos q6]; exact no _ (fun w => by omega)
    rw [if_neg q6, if_pos (show bC (aCs z) k = true ∧ (1 ≤ n ∧ n ≤ 11) ∧ (0 ≤ w ∧ w ≤ 3) ∧ n ≤ ((aTp z).length : Int) from ⟨q1, by omega, by omega, by omega⟩)]
    clear no
    obtain ⟨m, rfl⟩ : ∃ m : Nat, n = (m : Int) := ⟨n.toNat, by omega⟩
    rw [Int.toNat_natCast]
    have hrg := wpR_rng ((aTp z).take m)
    refine ⟨_, sp_X11_readWholePath hz (by omega), fun r1 M1 hP1 => ?_⟩
    obtain ⟨rfl, z1, g4, fr⟩ := hP1
    refine ⟨_, rfl, z1.1, ?_⟩
    rw [g4]
    have don : ∀ u v : Int, u = v → cPo sh M 0 v ([], z.2) (some (0, u)) sh M1 := fun u v e => ⟨rfl, by rw [e], z1, fun b hb => fr b (by omega)⟩
    by_cases a : (wpR ((aTp z).take m)).1 = 0
    · rw [if_pos a, if_pos a]
      obtain ⟨nk, c, rfl, hk, hl⟩ := bC_at q1
      have hW := (wpR_W a hrg).1
      generalize (wpR ((aTp z).take m)).2 = p at hW ⊢
      have hC1 : cOk sh M1 (aCs z) := z1.2.1
      obtain ⟨t0, t1, t2⟩ := cT_rng hC1 hk
      rw [Int.toNat_natCast, fFs_at hk]
      refine ⟨_, sp_X1_tree z1.1 hC1 hk, ?_⟩
      have hsh : gsh sh (cT M1 (nk : Int)) = some (0, 11) ∧ cT M1 (nk : Int) < 758 := ⟨t2.1.1, t2.1.2.2.2⟩
      unfold lkV
      by_cases k0 : w = 0
      · rw [if_pos k0, if_pos k0]
        refine ⟨hsh, _, sp_X10_find z1.1 t2, ?_⟩
        rw [← fold_t]
        by_cases f0 : tFind p (kFs c) 0 < 0
        · rw [if_pos f0, if_pos f0]
          refine ⟨_, sp_X10_hasFolder z1.1 t2 ⟨hW.1, hW.2.1⟩, ?_⟩
          cases tFolder p (kFs c) with
          | false => rw [if_pos bIf]; exact don _ _ rfl
          | true => rw [if_neg bIt]; exact don _ _ rfl
        · rw [if_neg f0, if_neg f0]; exact don _ _ rfl
      rw [if_neg k0, if_neg k0]
      by_cases k1 : w = 1
      · rw [if_pos k1, if_pos k1]
        exact ⟨hsh, _, sp_X10_filesAt z1.1 t2 ⟨hW.1, hW.2.1⟩, don _ _ rfl⟩
      rw [if_neg k1, if_neg k1]
      by_cases k2 : w = 2
      · rw [if_pos k2, if_pos k2]
        refine ⟨hsh, _, sp_X10_hasFolder z1.1 t2 ⟨hW.1, hW.2.1⟩, ?_⟩
        cases tFolder p (kFs c) with
        | false => rw [if_pos bIf]; exact don _ _ rfl
        | true =>
          rw [if_neg bIt]
          refine ⟨_, sp_X10_hasFilesAlone z1.1 t2 ⟨hW.1, hW.2.1⟩, ?_⟩
          cases tAlone p (kFs c) with
          | false => rw [if_pos bIf]; exact don _ _ rfl
          | true => rw [if_neg bIt]; exact don _ _ rfl
      rw [if_neg k2, if_neg k2]
      exact ⟨hsh, _, sp_X10_entriesIn z1.1 t2 ⟨hW.1, hW.2.1⟩, don _ _ rfl⟩
    · rw [if_neg a, if_neg a]
      exact don _ _ rfl
  · rw [if_pos (bI_eq (by simpa using q1))]; exact no _ (fun w => q1 w.1)
