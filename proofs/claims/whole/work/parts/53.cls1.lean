-- ==== the class: what it holds; its calls, first ones
theorem rOk_keep {sh : gS} {M M1 : gM} {a : Int} {rs : List rF} (h : rOk sh M a rs) (hf : ∀ b : Int, a ≤ b → b ≤ a + 4 → M1 b = M b) : rOk sh M1 a rs := by
  obtain ⟨h1, h2, h3, h4⟩ := h
  refine ⟨h1, h2, by rw [hf a (by omega) (by omega)]; exact h3, rw_congr h4 (fun q _ _ => ?_)⟩
  unfold rG
  rw [hf (a + 1) (by omega) (by omega), hf (a + 2) (by omega) (by omega), hf (a + 3) (by omega) (by omega), hf (a + 4) (by omega) (by omega)]
theorem tBy_keep {M M1 : gM} {s : List Int} (h : tBy M s) (h2 : M1 2 = M 2) : tBy M1 s := ⟨h.1, fun j c hj => by rw [h2]; exact h.2 j c hj⟩
/-- the state of an object: the tape, COMMITS, REFS, PLANS; what was saved -/
abbrev aS : Type := List Int × List kC × (Int → List rF) × (Int → kP) × Int × (Int → List rF) × (Int → kP)
def aTp (z : aS) : List Int := z.1
def aCs (z : aS) : List kC := z.2.1
def aRs (z : aS) : Int → List rF := z.2.2.1
def aPl (z : aS) : Int → kP := z.2.2.2.1
def aSv (z : aS) : Int := z.2.2.2.2.1
def aSR (z : aS) : Int → List rF := z.2.2.2.2.2.1
def aSP (z : aS) : Int → kP := z.2.2.2.2.2.2
/-- the class holds the state -/
def cS (sh : gS) (M : gM) (z : aS) : Prop := gOK sh M ∧ cOk sh M (aCs z) ∧ (tBy M (aTp z) ∧ M 1 1 = ((aTp z).length : Int)) ∧ (∀ h : Int, 0 ≤ h → h < 4 → rOk sh M (479 + 10 * h) (aRs z h) ∧ rOk sh M (484 + 10 * h) (aSR z h)) ∧ (∀ p : Int, 0 ≤ p → p < 4 → plOk sh M (519 + 48 * p) (aPl z p) ∧ plOk sh M (543 + 48 * p) (aSP z p)) ∧ M 0 16 = aSv z
/-- cells that are no part of the state -/
theorem cS_keep {sh : gS} {M M1 : gM} {z : aS} (h : cS sh M z) (hO : gOK sh M1) (hf : ∀ b : Int, b < 3 ∨ (3 < b ∧ b < 380) ∨ (478 < b ∧ b < 711) → M1 b = M b) : cS sh M1 z := by
  obtain ⟨h0, h1, h2, h3, h4, h5⟩ := h
  refine ⟨hO, cOk_fr h1 (fun b b0 b1 => hf b (by omega)), ⟨tBy_keep h2.1 (hf 2 (by omega)), by rw [hf 1 (by omega)]; exact h2.2⟩, fun i i0 i1 => ?_, fun p p0 p1 => ?_, by rw [hf 0 (by omega)]; exact h5⟩
  · exact ⟨rOk_keep (h3 i i0 i1).1 (fun b b0 b1 => hf b (by omega)), rOk_keep (h3 i i0 i1).2 (fun b b0 b1 => hf b (by omega))⟩
  · exact ⟨plOk_keep (h4 p p0 p1).1 (fun b b0 b1 => hf b (by omega)), plOk_keep (h4 p p0 p1).2 (fun b b0 b1 => hf b (by omega))⟩
/-- what a call comes to: its answer, the state then; nothing of the reference is written -/
def cPo (sh : gS) (M : gM) (t : Nat) (v : Int) (z : aS) : Option gV → gS → gM → Prop := gPm sh (fun r M1 => r = some (t, v) ∧ cS sh M1 z ∧ ∀ b : Int, (b = 475 ∨ b = 476 ∨ 710 < b) → M1 b = M b)
theorem cPo_same {sh : gS} {M : gM} {t : Nat} {v w : Int} {z : aS} (h : cS sh M z) (e : v = w) : cPo sh M t w z (some (t, v)) sh M := ⟨rfl, by rw [e], h, fun _ _ => rfl⟩
theorem sp_X11_isWho {sh : gS} {M : gM} {a : Int} (hOK : gOK sh M) : gC (gr 0 0) yX11_isWho cX11_isWho 1 (some (.boolean)) [(0, a)] sh M (gPp sh M (0, bI (decide (0 ≤ a ∧ a ≤ 9)))) := by
  refine w_X11_isWho hOK ?_
  by_cases h : a < 0
  · rw [if_pos h, decide_eq_false (by omega)]; exact ⟨rfl, rfl, rfl⟩
  · rw [if_neg h]
    by_cases h2 : (9 : Int) < a
    · rw [if_pos h2, decide_eq_false (by omega)]; exact ⟨rfl, rfl, rfl⟩
    · rw [if_neg h2, decide_eq_true (by omega)]; exact ⟨rfl, rfl, rfl⟩
theorem sp_X11_isHour {sh : gS} {M : gM} {a : Int} (hOK : gOK sh M) : gC (gr 0 0) yX11_isHour cX11_isHour 1 (some (.boolean)) [(0, a)] sh M (gPp sh M (0, bI (decide (0 ≤ a ∧ a ≤ 999)))) := by
  refine w_X11_isHour hOK ?_
  by_cases h : a < 0
  · rw [if_pos h, decide_eq_false (by omega)]; exact ⟨rfl, rfl, rfl⟩
  · rw [if_neg h]
    by_cases h2 : (999 : Int) < a
    · rw [if_pos h2, decide_eq_false (by omega)]; exact ⟨rfl, rfl, rfl⟩
    · rw [if_neg h2, decide_eq_true (by omega)]; exact ⟨rfl, rfl, rfl⟩
theorem sp_X11_isPlan {sh : gS} {M : gM} {a : Int} (hOK : gOK sh M) : gC (gr 0 0) yX11_isPlan cX11_isPlan 1 (some (.boolean)) [(0, a)] sh M (gPp sh M (0, bI (decide (0 ≤ a ∧ a ≤ 3)))) := by
  refine w_X11_isPlan hOK ?_
  by_cases h : a < 0
  · rw [if_pos h, decide_eq_false (by omega)]; exact ⟨rfl, rfl, rfl⟩
  · rw [if_neg h]
    by_cases h2 : a < 4
    · rw [if_pos h2, decide_eq_true (by omega)]; exact ⟨rfl, rfl, rfl⟩
    · rw [if_neg h2, decide_eq_false (by omega)]; exact ⟨rfl, rfl, rfl⟩
theorem sp_X11_isHistory {sh : gS} {M : gM} {a : Int} (hOK : gOK sh M) : gC (gr 0 0) yX11_isHistory cX11_isHistory 1 (some (.boolean)) [(0, a)] sh M (gPp sh M (0, bI (decide (0 ≤ a ∧ a ≤ 3)))) := by
  refine w_X11_isHistory hOK ?_
  by_cases h : a < 0
  · rw [if_pos h, decide_eq_false (by omega)]; exact ⟨rfl, rfl, rfl⟩
  · rw [if_neg h]
    by_cases h2 : a < 4
    · rw [if_pos h2, decide_eq_true (by omega)]; exact ⟨rfl, rfl, rfl⟩
    · rw [if_neg h2, decide_eq_false (by omega)]; exact ⟨rfl, rfl, rfl⟩
theorem sp_X11_isLetter {sh : gS} {M : gM} {a : Int} (hOK : gOK sh M) : gC (gr 0 0) yX11_isLetter cX11_isLetter 1 (some (.boolean)) [(0, a)] sh M (gPp sh M (0, bI (decide (0 ≤ a ∧ a ≤ 25)))) := by
  refine w_X11_isLetter hOK ?_
  by_cases h : a < 0
  · rw [if_pos h, decide_eq_false (by omega)]; exact ⟨rfl, rfl, rfl⟩
  · rw [if_neg h]
    by_cases h2 : a < 26
    · rw [if_pos h2, decide_eq_true (by omega)]; exact ⟨rfl, rfl, rfl⟩
    · rw [if_neg h2, decide_eq_false (by omega)]; exact ⟨rfl, rfl, rfl⟩
theorem sp_X11_isFile {sh : gS} {M : gM} {a : Int} (hOK : gOK sh M) : gC (gr 0 0) yX11_isFile cX11_isFile 1 (some (.boolean)) [(0, a)] sh M (gPp sh M (0, bI (decide (0 ≤ a ∧ a ≤ 15)))) := by
  refine w_X11_isFile hOK ?_
  by_cases h : a < 0
  · rw [if_pos h, decide_eq_false (by omega)]; exact ⟨rfl, rfl, rfl⟩
  · rw [if_neg h]
    by_cases h2 : a < 16
    · rw [if_pos h2, decide_eq_true (by omega)]; exact ⟨rfl, rfl, rfl⟩
    · rw [if_neg h2, decide_eq_false (by omega)]; exact ⟨rfl, rfl, rfl⟩
theorem hasI (cs : List kC) (k : Int) : (if 0 ≤ k ∧ k < (cs.length : Int) then (1 : Int) else 0) = bI (bC cs k) := by
  unfold bC bI
  by_cases h : 0 ≤ k ∧ k < (cs.length : Int)
  · rw [if_pos h, decide_eq_true h]; rfl
  · rw [if_neg h, decide_eq_false h]; rfl
theorem bC_at {cs : List kC} {k : Int} (h : bC cs k = true) : ∃ (n : Nat) (c : kC), k = (n : Int) ∧ cs[n]? = some c ∧ n < cs.length := by
  have h := of_decide_eq_true h
  exact ⟨k.toNat, cs[k.toNat]'(by omega), by omega, List.getElem?_eq_getElem (by omega), by omega⟩
-- ---- feed
theorem sp_X11_feed {sh : gS} {M : gM} {z : aS} {a b c d e : Int} (h : cS sh M z) : gC (gr 1 22) yX11_feed cX11_feed 6 (some (.int)) [(4, 0), (0, a), (0, b), (0, c), (0, d), (0, e)] sh M (cPo sh M 0 (aFeed (aTp z) a b c d e).1 ((aFeed (aTp z) a b c d e).2, z.2)) := by
  obtain ⟨hOK, hC, ⟨hB, hL⟩, hRs, hPl, hSv⟩ := id h
  have hl := hB.1
  refine w_X11_feed hOK ?_
  rw [hL, gw32_id (by omega) (by omega)]
  unfold aFeed
  by_cases q : (260 : Int) < ((aTp z).length : Int) + 20
  · rw [if_pos q, if_pos (by omega)]; exact cPo_same h rfl
  · rw [if_neg q, if_neg (by omega)]
    refine ⟨_, sp_X9_add hOK hB hL (by omega), fun r1 M1 hP1 => ?_⟩
    obtain ⟨rfl, hB1, hL1, hO1, hf1, hj1⟩ := hP1
    refine ⟨rfl, hO1, _, sp_X9_add hO1 hB1 hL1 (by simp [four_len]; omega), fun r2 M2 hP2 => ?_⟩
    obtain ⟨rfl, hB2, hL2, hO2, hf2, hj2⟩ := hP2
    refine ⟨rfl, hO2, _, sp_X9_add hO2 hB2 hL2 (by simp [four_len]; omega), fun r3 M3 hP3 => ?_⟩
    obtain ⟨rfl, hB3, hL3, hO3, hf3, hj3⟩ := hP3
    refine ⟨rfl, hO3, _, sp_X9_add hO3 hB3 hL3 (by simp [four_len]; omega), fun r4 M4 hP4 => ?_⟩
    obtain ⟨rfl, hB4, hL4, hO4, hf4, hj4⟩ := hP4
    refine ⟨rfl, hO4, _, sp_X9_add hO4 hB4 hL4 (by simp [four_len]; omega), fun r5 M5 hP5 => ?_⟩
    obtain ⟨rfl, hB5, hL5, hO5, hf5, hj5⟩ := hP5
    have hf : ∀ b : Int, b ≠ 1 → b ≠ 2 → M5 b = M b := fun b b1 b2 => by rw [hf5 b b1 b2, hf4 b b1 b2, hf3 b b1 b2, hf2 b b1 b2, hf1 b b1 b2]
    refine ⟨rfl, hO5, rfl, ?_, ⟨hO5, cOk_fr hC (fun b b0 b1 => hf b (by omega) (by omega)), ⟨hB5, hL5⟩, fun i i0 i1 => ?_, fun p p0 p1 => ?_, by rw [hf 0 (by decide) (by decide)]; exact hSv⟩, fun b hb => hf b (by omega) (by omega)⟩
    · rw [hL5]
      congr 2
      simp only [List.length_append, four_len]
      omega
    · exact ⟨rOk_keep (hRs i i0 i1).1 (fun b b0 b1 => hf b (by omega) (by omega)), rOk_keep (hRs i i0 i1).2 (fun b b0 b1 => hf b (by omega) (by omega))⟩
    · exact ⟨plOk_keep (hPl p p0 p1).1 (fun b b0 b1 => hf b (by omega) (by omega)), plOk_keep (hPl p p0 p1).2 (fun b b0 b1 => hf b (by omega) (by omega))⟩
theorem bIf : bI false = 0 := rfl
theorem bIt : ¬ bI true = 0 := by decide
theorem bI_ne {b : Bool} (h : b = true) : ¬ bI b = 0 := by rw [h]; decide
theorem bI_eq {b : Bool} (h : b = false) : bI b = 0 := by rw [h]; rfl
-- ---- ancestor
theorem sp_X11_ancestor {sh : gS} {M : gM} {z : aS} {j k : Int} (h : cS sh M z) : gC (gr 2 44) yX11_ancestor cX11_ancestor 3 (some (.int)) [(4, 0), (0, j), (0, k)] sh M (cPo sh M 0 (if bC (aCs z) j && bC (aCs z) k then bI (kAnc (aCs z) k.toNat j.toNat) else -1) z) := by
  obtain ⟨hOK, hC, -⟩ := id h
  have hl9 := hC.2.1
  refine w_X11_ancestor hOK ⟨_, sp_X1_has hOK hC, ?_⟩
  rw [hasI]
  cases q1 : bC (aCs z) j with
  | false => rw [if_pos bIf, Bool.false_and]; exact cPo_same h rfl
  | true =>
    rw [if_neg (by decide)]
    refine ⟨_, sp_X1_has hOK hC, ?_⟩
    rw [hasI]
    cases q2 : bC (aCs z) k with
    | false => rw [if_pos bIf, Bool.and_false]; exact cPo_same h rfl
    | true =>
      obtain ⟨n, c, rfl, hc, hn⟩ := bC_at q2
      obtain ⟨m, c2, rfl, hc2, hm⟩ := bC_at q1
      rw [if_neg (by decide)]
      refine ⟨_, sp_X1_isAbove hOK hC hc (by omega), ?_⟩
      rw [Bool.and_true, if_pos rfl, Int.toNat_natCast, Int.toNat_natCast]
      cases kAnc (aCs z) n m with
      | false => rw [if_pos bIf]; exact cPo_same h rfl
      | true => rw [if_neg (by decide)]; exact cPo_same h rfl
-- ---- commit
/-- what holds of every state -/
def aGd (z : aS) : Prop := kGd (aCs z) ∧ (∀ h : Int, 0 ≤ h → h < 4 → rGd ((aCs z).length : Int) (aRs z h) ∧ (aRs z h).length ≤ 8)
theorem kGd_srt {cs : List kC} (h : kGd cs) : kSrt cs := fun c hc => by
  obtain ⟨k, hk⟩ := List.getElem?_of_mem hc
  exact ⟨(h.1 k c hk).1.2.2.2.2.2.2, (h.2 c hc).1⟩
theorem dSh399 {sh : gS} {M : gM} (h : gOK sh M) : dSh sh 399 := ⟨sh_399 h, sh_400 h, ⟨sh_401 h, sh_402 h, sh_403 h, by decide⟩, sh_404 h, ⟨sh_405 h, sh_406 h, sh_407 h, by decide⟩, by decide, by decide⟩
theorem cPo_fr {sh : gS} {M M1 : gM} {z : aS} {cs : List kC} {s : List Int} {v w : Int} (h : cS sh M z) (hO : gOK sh M1) (hC : cOk sh M1 cs) (hB : tBy M1 s) (hL : M1 1 1 = (s.length : Int)) (hf : ∀ b : Int, (b = 0 ∨ b = 475 ∨ b = 476 ∨ 478 < b) → M1 b = M b) (e : v = w) : cPo sh M 0 w (s, cs, z.2.2) (some (0, v)) sh M1 := by
  obtain ⟨-, -, -, hRs, hPl, hSv⟩ := h
  refine ⟨rfl, by rw [e], ⟨hO, hC, ⟨hB, hL⟩, fun i i0 i1 => ?_, fun p p0 p1 => ?_, by rw [hf 0 (by omega)]; exact hSv⟩, fun b hb => hf b (by omega)⟩
  · exact ⟨rOk_keep (hRs i i0 i1).1 (fun b b0 b1 => hf b (by omega)), rOk_keep (hRs i i0 i1).2 (fun b b0 b1 => hf b (by omega))⟩
  · exact ⟨plOk_keep (hPl p p0 p1).1 (fun b b0 b1 => hf b (by omega)), plOk_keep (hPl p p0 p1).2 (fun b b0 b1 => hf b (by omega))⟩
theorem tBy_nil (M : gM) : tBy M [] := ⟨by decide, fun j c hj => by simp at hj⟩
theorem sp_X11_commit {sh : gS} {M : gM} {z : aS} {n who hour : Int} (h : cS sh M z) (hG : kGd (aCs z)) : gC (gr 6 186) yX11_commit cX11_commit 5 (some (.int)) [(4, 0), (0, n), (0, who), (0, hour)] sh M (cPo sh M 0 (aCommit (aCs z) (aTp z) n who hour).1 ((aCommit (aCs z) (aTp z) n who hour).2.1, (aCommit (aCs z) (aTp z) n who hour).2.2, z.2.2)) := by
  obtain ⟨hOK, hC, ⟨hB, hL⟩, hRs, hPl, hSv⟩ := id h
  have hl9 := hC.2.1
  refine w_X11_commit hOK ?_
  unfold aCommit
  have no : ¬ (1 ≤ n ∧ n ≤ 160 ∧ n ≤ ((aTp z).length : Int) ∧ (0 ≤ who ∧ who ≤ 9) ∧ 0 ≤ hour ∧ hour ≤ 999) → ∀ y : Int × List Int × List kC, cPo sh M 0 (if 1 ≤ n ∧ n ≤ 160 ∧ n ≤ ((aTp z).length : Int) ∧ (0 ≤ who ∧ who ≤ 9) ∧ 0 ≤ hour ∧ hour ≤ 999 then y else (-1, aTp z, aCs z)).1 ((if 1 ≤ n ∧ n ≤ 160 ∧ n ≤ ((aTp z).length : Int) ∧ (0 ≤ who ∧ who ≤ 9) ∧ 0 ≤ hour ∧ hour ≤ 999 then y else (-1, aTp z, aCs z)).2.1, (if 1 ≤ n ∧ n ≤ 160 ∧ n ≤ ((aTp z).length : Int) ∧ (0 ≤ who ∧ who ≤ 9) ∧ 0 ≤ hour ∧ hour ≤ 999 then y else (-1, aTp z, aCs z)).2.2, z.2.2) (some (0, -1)) sh M := fun q y => by
    rw [if_neg q]
    exact cPo_same (z := (aTp z, aCs z, z.2.2)) h rfl
  by_cases q1 : n < 1
  · rw [if_pos q1]; exact no (fun w => by omega) _
  · rw [if_neg q1]
    by_cases q2 : (160 : Int) < n
    · rw [if_pos q2]; exact no (fun w => by omega) _
    · rw [if_neg q2, hL]
      by_cases q3 : ((aTp z).length : Int) < n
      · rw [if_pos q3]; exact no (fun w => by omega) _
      · rw [if_neg q3]
        refine ⟨_, sp_X11_isWho hOK, ?_⟩
        by_cases q4 : 0 ≤ who ∧ who ≤ 9
        · rw [decide_eq_true q4, if_neg bIt]
          refine ⟨_, sp_X11_isHour hOK, ?_⟩
          by_cases q5 : 0 ≤ hour ∧ hour ≤ 999
          · rw [decide_eq_true q5, if_neg bIt]
            clear no
            rw [if_pos (show 1 ≤ n ∧ n ≤ 160 ∧ n ≤ ((aTp z).length : Int) ∧ (0 ≤ who ∧ who ≤ 9) ∧ 0 ≤ hour ∧ hour ≤ 999 from ⟨by omega, by omega, by omega, q4, q5⟩)]
            obtain ⟨m, rfl⟩ : ∃ m : Nat, n = (m : Int) := ⟨n.toNat, by omega⟩
            rw [Int.toNat_natCast]
            refine ⟨_, sp_X2_read hOK hC (kGd_srt hG) hB hL (by omega) (dSh399 hOK), fun r1 M1 hP1 => ?_⟩
            obtain ⟨rfl, hD1, hO1, hf1⟩ := hP1
            refine ⟨_, rfl, hO1, ?_⟩
            have hO2 : gOK sh (gU M1 1 1 0) := gOK_o hO1 (sh_1 hO1) (f := 1) rfl rfl
            by_cases q6 : (pText (aCs z) ((aTp z).take m)).1 = 0
            · rw [if_pos q6, if_pos q6]
              have hdi := pText_is hG q6
              generalize pText (aCs z) ((aTp z).take m) = T at *
              have hO3 : gOK sh (gU (gU M1 1 1 0) 399 5 who) := gOK_o hO2 (sh_399 hO2) (f := 5) rfl rfl
              have hO4 : gOK sh (gU (gU (gU M1 1 1 0) 399 5 who) 399 6 hour) := gOK_o hO3 (sh_399 hO3) (f := 6) rfl rfl
              generalize hM4 : gU (gU (gU M1 1 1 0) 399 5 who) 399 6 hour = M4 at hO4 ⊢
              have e4 : ∀ b : Int, b ≠ 1 → b ≠ 399 → M4 b = M1 b := fun b b1 b2 => by rw [← hM4, gU_cell _ _ _ b2, gU_cell _ _ _ b2, gU_cell _ _ _ b1]
              have hD4 : dOk sh M4 399 (kPs T.2.2.2, kFs T.2.2.2, kMs T.2.2.2, who, hour) := by
                obtain ⟨s0, d1, d2, d3, d4, d5, d6, d7, d8, d9⟩ := hD1
                have e3 : ∀ j : Int, j ≠ 5 → j ≠ 6 → M4 399 j = M1 399 j := fun j j5 j6 => by rw [← hM4, gU_idx j6, gU_idx j5, gU_cel (by decide)]
                refine ⟨s0, by rw [e3 1 (by decide) (by decide)]; exact d1, d2, by rw [e4 (399 + 1) (by decide) (by decide)]; exact d3, ?_, by rw [e3 4 (by decide) (by decide)]; exact d5, d6, by rw [e4 (399 + 5) (by decide) (by decide)]; exact d7, by rw [← hM4, gU_idx (by decide), gU_same]; rfl, by rw [← hM4, gU_same]; rfl⟩
                exact tOk_congr d4 (e4 _ (by decide) (by decide)) (e4 _ (by decide) (by decide)) (e4 _ (by decide) (by decide))
              have hC4 : cOk sh M4 (aCs z) := cOk_fr hC (fun b b0 b1 => by rw [e4 b (by omega) (by omega), hf1 b (by omega) (by omega)])
              refine ⟨_, sp_X1_settle hO4 hC4 hD4 (fun _ => dIs_wf hdi q4 q5), fun r5 M5 hP5 => ?_⟩
              obtain ⟨rfl, hO5, hC5, hf5⟩ := hP5
              refine ⟨_, rfl, hO5, ?_⟩
              exact cPo_fr h hO5 hC5 (tBy_nil M5) (by rw [hf5 1 (by omega), ← hM4, gU_cel (by decide), gU_cel (by decide), gU_same]; rfl) (fun b hb => by rw [hf5 b (by omega), e4 b (by omega) (by omega), hf1 b (by omega) (by omega)]) rfl
            · rw [if_neg q6, if_neg q6]
              exact cPo_fr h hO2 (cOk_fr hC (fun b b0 b1 => by rw [gU_cell _ _ _ (by omega), hf1 b (by omega) (by omega)])) (tBy_nil _) (gU_same _ _ _ _) (fun b hb => by rw [gU_cell _ _ _ (by omega), hf1 b (by omega) (by omega)]) rfl
          · rw [decide_eq_false q5, if_pos bIf]; exact no (fun w => q5 w.2.2.2.2) _
        · rw [decide_eq_false q4, if_pos bIf]; exact no (fun w => q4 w.2.2.2.1) _
-- ---- ref
theorem rGd_all {n : Int} {rs : List rF} (h : rGd n rs) : ∀ x ∈ rs, rRng x := fun x hx => (h.2 x hx).1
theorem cPo_refs {sh : gS} {M M1 : gM} {z : aS} {h : Int} {rs : List rF} {v w : Int} (hz : cS sh M z) (hh : 0 ≤ h ∧ h < 4) (hP : rPost sh M (479 + 10 * h) rs M1) (e : v = w) : cPo sh M 0 w (z.1, z.2.1, rPut (aRs z) h rs, z.2.2.2) (some (0, v)) sh M1 := by
  obtain ⟨h0, h1, h2, h3, h4, h5⟩ := hz
  obtain ⟨p1, p2, p3⟩ := hP
  refine ⟨rfl, by rw [e], ⟨p2, cOk_fr h1 (fun b b0 b1 => p3 b (by omega)), ⟨tBy_keep h2.1 (p3 2 (by omega)), by rw [p3 1 (by omega)]; exact h2.2⟩, fun i i0 i1 => ?_, fun p p0 p1 => ?_, by rw [p3 0 (by omega)]; exact h5⟩, fun b hb => p3 b (by omega)⟩
  · refine ⟨?_, rOk_keep (h3 i i0 i1).2 (fun b b0 b1 => p3 b (by omega))⟩
    show rOk sh M1 (479 + 10 * i) (rPut (aRs z) h rs i)
    unfold rPut
    by_cases c : i = h
    · rw [if_pos c, c]; exact p1
    · rw [if_neg c]; exact rOk_keep (h3 i i0 i1).1 (fun b b0 b1 => p3 b (by omega))
  · exact ⟨plOk_keep (h4 p p0 p1).1 (fun b b0 b1 => p3 b (by omega)), plOk_keep (h4 p p0 p1).2 (fun b b0 b1 => p3 b (by omega))⟩
theorem rFind_neg {n : Int} {rs : List rF} {k l : Int} : rFind k l rs 0 < 0 ↔ rGet k l rs = none := by
  rcases rFind_sp k l rs 0 with ⟨a, b, -⟩ | ⟨pre, suf, c, p, -, a, b, -⟩
  · rw [a, b]; exact ⟨fun _ => rfl, fun _ => by decide⟩
  · rw [a, b]
    refine ⟨fun h => by omega, fun h => by cases h⟩
theorem sp_X11_ref {sh : gS} {M : gM} {z : aS} {h kind letter k : Int} (hz : cS sh M z) (hG : aGd z) : gC (gr 3 70) yX11_ref cX11_ref 7 (some (.int)) [(4, 0), (0, h), (0, kind), (0, letter), (0, k)] sh M (cPo sh M 0 (aRef ((aCs z).length : Int) (aRs z) h kind letter k).1 (z.1, z.2.1, (aRef ((aCs z).length : Int) (aRs z) h kind letter k).2, z.2.2.2)) := by
  obtain ⟨hOK, hC, ⟨hB, hL⟩, hRs, hPl, hSv⟩ := id hz
  have hl9 := hC.2.1
  have h40 := hC.1
  refine w_X11_ref hOK ⟨_, sp_X11_isHistory hOK, ?_⟩
  unfold aRef
  have no : ∀ y : Int × (Int → List rF), ¬ ((0 ≤ h ∧ h ≤ 3) ∧ (0 ≤ kind ∧ kind ≤ 1) ∧ (0 ≤ letter ∧ letter ≤ 25) ∧ -1 ≤ k ∧ k < ((aCs z).length : Int)) → cPo sh M 0 (if (0 ≤ h ∧ h ≤ 3) ∧ (0 ≤ kind ∧ kind ≤ 1) ∧ (0 ≤ letter ∧ letter ≤ 25) ∧ -1 ≤ k ∧ k < ((aCs z).length : Int) then y else (-1, aRs z)).1 (z.1, z.2.1, (if (0 ≤ h ∧ h ≤ 3) ∧ (0 ≤ kind ∧ kind ≤ 1) ∧ (0 ≤ letter ∧ letter ≤ 25) ∧ -1 ≤ k ∧ k < ((aCs z).length : Int) then y else (-1, aRs z)).2, z.2.2.2) (some (0, -1)) sh M := fun y q => by
    rw [if_neg q]; exact cPo_same (z := (z.1, z.2.1, aRs z, z.2.2.2)) hz rfl
  by_cases q1 : 0 ≤ h ∧ h ≤ 3
  · rw [decide_eq_true q1, if_neg bIt]
    by_cases q2 : kind < 0
    · rw [if_pos q2]; exact no _ (fun w => by omega)
    · rw [if_neg q2]
      by_cases q3 : (1 : Int) < kind
      · rw [if_pos q3]; exact no _ (fun w => by omega)
      · rw [if_neg q3]
        refine ⟨_, sp_X11_isLetter hOK, ?_⟩
        by_cases q4 : 0 ≤ letter ∧ letter ≤ 25
        · rw [decide_eq_true q4, if_neg bIt]
          by_cases q5 : k < -1
          · rw [if_pos q5]; exact no _ (fun w => by omega)
          · rw [if_neg q5, h40]
            by_cases q6 : k < ((aCs z).length : Int)
            · rw [if_pos q6]
              clear no
              have hkk : 0 ≤ kind ∧ kind ≤ 1 := ⟨by omega, by omega⟩
              rw [if_pos (show (0 ≤ h ∧ h ≤ 3) ∧ (0 ≤ kind ∧ kind ≤ 1) ∧ (0 ≤ letter ∧ letter ≤ 25) ∧ -1 ≤ k ∧ k < ((aCs z).length : Int) from ⟨q1, hkk, q4, by omega, q6⟩)]
              obtain ⟨hR, hSR⟩ := hRs h q1.1 (by omega)
              obtain ⟨hRg, h8⟩ := hG.2 h q1.1 (by omega)
              have hsh := hR.1
              refine ⟨⟨q1.1, by omega⟩, ⟨hsh.1, by omega⟩, _, sp_X7_find hOK hR, ?_⟩
              obtain ⟨-, -, hlen⟩ := rLay_is (c := k) (p := -1) hRg hkk q4
              have lay : 0 ≤ k → (rGet kind letter (aRs z h) = none → (aRs z h).length + 1 ≤ 16) → ∃ P119 : Option gV → gM → Prop, gC (gr 2 45) yX7_lay cX7_lay 6 none [(4, (479 + 10 * h)), (0, kind), (0, letter), (0, k), (0, -1)] sh M (gPm sh P119) ∧ ∀ (r119 : Option gV) (M119 : gM), P119 r119 M119 → r119 = none ∧ gOK sh M119 ∧ cPo sh M 0 ((rLay kind letter k (-1) (aRs z h)).length : Int) (z.1, z.2.1, rPut (aRs z) h (rLay kind letter k (-1) (aRs z h)), z.2.2.2) (some (0, M119 (479 + 10 * h) 0)) sh M119 := by
                intro k0 hl16
                refine ⟨_, sp_X7_lay hOK hR (rGd_all hRg) hRg.1 hkk q4 hl16, fun r1 M1 hP1 => ?_⟩
                obtain ⟨rfl, hP⟩ := hP1
                exact ⟨rfl, hP.2.1, cPo_refs hz ⟨q1.1, by omega⟩ hP hP.1.2.2.1⟩
              by_cases q7 : rGet kind letter (aRs z h) = none
              · rw [if_pos ((rFind_neg (n := 0)).mpr q7)]
                refine w_X11_ref_66 hOK ?_
                by_cases q8 : k < 0
                · rw [if_pos q8, if_pos rfl, if_pos (show k = -1 by omega), if_pos q7]
                  exact cPo_same (z := (z.1, z.2.1, aRs z, z.2.2.2)) hz rfl
                · rw [if_neg q8, if_pos rfl, if_neg (show ¬ k = -1 by omega)]
                  refine ⟨⟨hsh.1, by omega⟩, ?_⟩
                  rw [hR.2.2.1]
                  by_cases q9 : ((aRs z h).length : Int) < 8
                  · rw [if_pos q9, if_neg (fun w => by omega)]
                    exact lay (by omega) (fun _ => by omega)
                  · rw [if_neg q9, if_pos ⟨q7, by omega⟩]
                    exact cPo_same (z := (z.1, z.2.1, aRs z, z.2.2.2)) hz rfl
              · rw [if_neg (fun w => q7 ((rFind_neg (n := 0)).mp w))]
                refine w_X11_ref_66 hOK ?_
                by_cases q8 : k < 0
                · rw [if_pos q8, if_neg (by decide), if_pos (show k = -1 by omega), if_neg q7]
                  refine ⟨⟨hsh.1, by omega⟩, _, sp_X7_remove hOK hR, fun r1 M1 hP1 => ?_⟩
                  obtain ⟨rfl, hP⟩ := hP1
                  exact ⟨rfl, hP.2.1, cPo_refs hz ⟨q1.1, by omega⟩ hP hP.1.2.2.1⟩
                · rw [if_neg q8, if_neg (by decide), if_neg (show ¬ k = -1 by omega), if_neg (fun w => q7 w.1)]
                  exact ⟨⟨hsh.1, by omega⟩, lay (by omega) (fun w => absurd w q7)⟩
            · rw [if_neg q6]; exact no _ (fun w => by omega)
        · rw [decide_eq_false q4, if_pos bIf]; exact no _ (fun w => q4 w.2.2.1)
  · rw [decide_eq_false q1, if_pos bIf]; exact no _ (fun w => q1 w.1)
