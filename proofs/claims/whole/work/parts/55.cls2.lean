-- ==== the class's keep, undo; line on both sides
theorem kLow_pre (fs : List gF) (ds : List kC) : ∀ (cs : List kC) (i : Int), (∃ c ∈ cs, kFs c = fs) → kLow fs (cs ++ ds) i = kLow fs cs i
  | [], i, h => by obtain ⟨c, hc, -⟩ := h; cases hc
  | c :: r, i, h => by
    show (if kFs c = fs then i else kLow fs (r ++ ds) (i + 1)) = (if kFs c = fs then i else kLow fs r (i + 1))
    by_cases e : kFs c = fs
    · rw [if_pos e, if_pos e]
    · rw [if_neg e, if_neg e]
      refine kLow_pre fs ds r (i + 1) ?_
      obtain ⟨x, hx, he⟩ := h
      rcases List.mem_cons.mp hx with q | q
      · exact absurd (q ▸ he) e
      · exact ⟨x, q, he⟩
theorem kGen_pre : ∀ (ds cs : List kC) (k : Int), k < (cs.length : Int) → kGen (cs ++ ds) k = kGen cs k
  | [], cs, k, _ => by rw [List.append_nil]
  | d :: ds, cs, k, h => by
    rw [show cs ++ d :: ds = (cs ++ [d]) ++ ds by simp, kGen_pre ds (cs ++ [d]) k (by simp; omega), kGen_app, if_neg (by omega)]
theorem kAnc_pre (j : Nat) : ∀ (ds cs : List kC) (k : Nat), k < cs.length → kAnc (cs ++ ds) k j = kAnc cs k j
  | [], cs, k, _ => by rw [List.append_nil]
  | d :: ds, cs, k, h => by
    rw [show cs ++ d :: ds = (cs ++ [d]) ++ ds by simp, kAnc_pre j ds (cs ++ [d]) k (by simp; omega), kAnc_app, if_neg (by omega)]
theorem cOk_take {sh : gS} {M : gM} {cs : List kC} {n : Int} (hOK : gOK sh M) (h : cOk sh M cs) (hn : 0 ≤ n ∧ n ≤ (cs.length : Int)) : gOK sh (gU M 4 0 n) ∧ cOk sh (gU M 4 0 n) (cs.take n.toNat) := by
  obtain ⟨h1, h2, h3, h4⟩ := h
  have hlen : (cs.take n.toNat).length = n.toNat := by rw [List.length_take]; omega
  refine ⟨gOK_o (f := 0) hOK (sh_4 hOK) rfl rfl, ?_, by omega, by rw [gU_cell _ _ _ (by decide)]; exact h3, fun k c hk => ?_⟩
  · rw [gU_same, hlen]; omega
  · have hk' := hk
    rw [List.getElem?_take] at hk'
    split at hk'
    · rename_i hkn
      have ho := h4 k c hk'
      have e : ∀ b : Int, b ≠ 4 → gU M 4 0 n b = M b := fun b hb => gU_cell _ _ _ hb
      have hl : kLow (kFs c) cs 0 = kLow (kFs c) (cs.take n.toNat) 0 := by
        have := kLow_pre (kFs c) (cs.drop n.toNat) (cs.take n.toNat) 0 ⟨c, List.mem_of_getElem? hk, rfl⟩
        rw [List.take_append_drop] at this; exact this
      have hg : kGen cs (k : Int) = kGen (cs.take n.toNat) (k : Int) := by
        have := kGen_pre (cs.drop n.toNat) (cs.take n.toNat) (k : Int) (by omega)
        rw [List.take_append_drop] at this; exact this
      have ha : kAnc cs k = kAnc (cs.take n.toNat) k := by
        funext j
        have := kAnc_pre j (cs.drop n.toNat) (cs.take n.toNat) k (by omega)
        rw [List.take_append_drop] at this; exact this
      have hs2 : kSame M (gU M 4 0 n) 120 := kSame_U (by decide) (by omega) (by decide)
      obtain ⟨o1, o7, o8, o9, o10, o11⟩ := cOne_same ho hs2 hk' (by omega)
      exact ⟨o1, o7, by rw [← hl]; exact o8, by rw [← hl]; exact o9, by rw [← hg]; exact o10, by rw [← ha]; exact o11⟩
    · cases hk'
theorem cpR {sh : gS} {M : gM} {d u : Int} {fA : Int → List rF} {P : Int → gM → Prop} {E : gM → Prop} (hdu : d = 484 ∧ u = 479 ∨ d = 479 ∧ u = 484) (hOK : gOK sh M) (hd : ∀ h : Int, 0 ≤ h → h < 4 → rSh sh (d + 10 * h)) (hu : ∀ h : Int, 0 ≤ h → h < 4 → rOk sh M (u + 10 * h) (fA h))
    (hP : ∀ (x1 : Int) (M1 : gM), gOK sh M1 → (if x1 < 4 then ((0 ≤ x1 ∧ x1 < 4) ∧ ((gsh sh (d + 10 * x1) = some (0, 8) ∧ (d + 10 * x1) < 758) ∧ (∃ P30 : Option gV → gM → Prop, gC (gr 1 23) yX7_copy cX7_copy 3 none [(4, (d + 10 * x1)), (4, (u + 10 * x1))] sh M1 (gPm sh P30) ∧ ∀ (r30 : Option gV) (M30 : gM), P30 r30 M30 → r30 = none ∧ gOK sh M30 ∧ P (gw32 (x1 + 1)) M30))) else E M1) → P x1 M1)
    (hE : ∀ M1 : gM, gOK sh M1 → (∀ h : Int, 0 ≤ h → h < 4 → rOk sh M1 (d + 10 * h) (fA h) ∧ rOk sh M1 (u + 10 * h) (fA h)) → (∀ b : Int, b < 479 ∨ 518 < b → M1 b = M b) → E M1) : P 0 M := by
  have lp : ∀ (n : Nat) (i : Int) (M1 : gM), i + (n : Int) = 4 → 0 ≤ i → gOK sh M1 → (∀ h : Int, 0 ≤ h → h < 4 → rOk sh M1 (u + 10 * h) (fA h)) → (∀ h : Int, 0 ≤ h → h < i → rOk sh M1 (d + 10 * h) (fA h)) → (∀ b : Int, b < 479 ∨ 518 < b → M1 b = M b) → P i M1 := by
    intro n
    induction n with
    | zero =>
      intro i M1 hi h0 hO h1 h2 h3
      refine hP i M1 hO ?_
      rw [if_neg (by omega)]
      exact hE M1 hO (fun h a b => ⟨h2 h a (by omega), h1 h a b⟩) h3
    | succ n ih =>
      intro i M1 hi h0 hO h1 h2 h3
      refine hP i M1 hO ?_
      rw [if_pos (by omega)]
      have hdi := hd i h0 (by omega)
      refine ⟨⟨h0, by omega⟩, ⟨hdi.1, by omega⟩, _, sp_X7_copy hO hdi (h1 i h0 (by omega)) (by omega), fun r1 M2 hP1 => ?_⟩
      obtain ⟨rfl, p1, p2, p3⟩ := hP1
      refine ⟨rfl, p2, ?_⟩
      rw [gw32_id (by omega) (by omega)]
      refine ih (i + 1) M2 (by omega) (by omega) p2 (fun h a b => rOk_keep (h1 h a b) (fun b b0 b1 => p3 b (by omega))) (fun h a b => ?_) (fun b hb => by rw [p3 b (by omega)]; exact h3 b hb)
      by_cases e : h = i
      · rw [e]; exact p1
      · exact rOk_keep (h2 h a (by omega)) (fun b b0 b1 => p3 b (by omega))
  exact lp 4 0 M (by decide) (by decide) hOK hu (fun h a b => by omega) (fun b _ => rfl)
theorem cpP {sh : gS} {M : gM} {d u : Int} {fA : Int → kP} {P : Int → gM → Prop} {E : gM → Prop} (hdu : d = 543 ∧ u = 519 ∨ d = 519 ∧ u = 543) (hOK : gOK sh M) (h01 : ∀ p : Int, 0 ≤ p → p < 4 → (fA p).2.1 0 = 0 ∨ (fA p).2.1 0 = 1) (hd : ∀ h : Int, 0 ≤ h → h < 4 → plSh sh (d + 48 * h)) (hu : ∀ h : Int, 0 ≤ h → h < 4 → plOk sh M (u + 48 * h) (fA h))
    (hP : ∀ (x1 : Int) (M1 : gM), gOK sh M1 → (if x1 < 4 then ((0 ≤ x1 ∧ x1 < 4) ∧ ((gsh sh (d + 48 * x1) = some (0, 6) ∧ (d + 48 * x1) < 758) ∧ (∃ P30 : Option gV → gM → Prop, gC (gr 2 90) yX5_copy cX5_copy 2 none [(4, (d + 48 * x1)), (4, (u + 48 * x1))] sh M1 (gPm sh P30) ∧ ∀ (r30 : Option gV) (M30 : gM), P30 r30 M30 → r30 = none ∧ gOK sh M30 ∧ P (gw32 (x1 + 1)) M30))) else E M1) → P x1 M1)
    (hE : ∀ M1 : gM, gOK sh M1 → (∀ h : Int, 0 ≤ h → h < 4 → plOk sh M1 (d + 48 * h) (fA h) ∧ plOk sh M1 (u + 48 * h) (fA h)) → (∀ b : Int, b < 519 ∨ 710 < b → M1 b = M b) → E M1) : P 0 M := by
  have lp : ∀ (n : Nat) (i : Int) (M1 : gM), i + (n : Int) = 4 → 0 ≤ i → gOK sh M1 → (∀ h : Int, 0 ≤ h → h < 4 → plOk sh M1 (u + 48 * h) (fA h)) → (∀ h : Int, 0 ≤ h → h < i → plOk sh M1 (d + 48 * h) (fA h)) → (∀ b : Int, b < 519 ∨ 710 < b → M1 b = M b) → P i M1 := by
    intro n
    induction n with
    | zero =>
      intro i M1 hi h0 hO h1 h2 h3
      refine hP i M1 hO ?_
      rw [if_neg (by omega)]
      exact hE M1 hO (fun h a b => ⟨h2 h a (by omega), h1 h a b⟩) h3
    | succ n ih =>
      intro i M1 hi h0 hO h1 h2 h3
      refine hP i M1 hO ?_
      rw [if_pos (by omega)]
      have hdi := hd i h0 (by omega)
      refine ⟨⟨h0, by omega⟩, ⟨hdi.1, by omega⟩, _, sp_X5_copy hO hdi (h1 i h0 (by omega)) (by omega) (h01 i h0 (by omega)), fun r1 M2 hP1 => ?_⟩
      obtain ⟨rfl, p1, p2, p3⟩ := hP1
      refine ⟨rfl, p2, ?_⟩
      rw [gw32_id (by omega) (by omega)]
      refine ih (i + 1) M2 (by omega) (by omega) p2 (fun h a b => plOk_keep (h1 h a b) (fun b b0 b1 => p3 b (by omega))) (fun h a b => ?_) (fun b hb => by rw [p3 b (by omega)]; exact h3 b hb)
      by_cases e : h = i
      · rw [e]; exact p1
      · exact plOk_keep (h2 h a (by omega)) (fun b b0 b1 => p3 b (by omega))
  exact lp 4 0 M (by decide) (by decide) hOK hu (fun h a b => by omega) (fun b _ => rfl)
/-- what every PLAN is like -/
def plGd (pl : kP) : Prop := (pl.2.1 0 = 0 ∨ pl.2.1 0 = 1) ∧ (pl.2.1 0 = 1 → ∀ k : Int, 0 ≤ k → k < 120 → -1 ≤ pl.2.2.2 k ∧ -1 ≤ pl.2.2.1 k)
theorem sp_X11_keep {sh : gS} {M : gM} {z : aS} (hz : cS sh M z) (hG : ∀ p : Int, 0 ≤ p → p < 4 → plGd (aPl z p)) : gC (gr 3 111) yX11_keep cX11_keep 2 (some (.int)) [(4, 0)] sh M (cPo sh M 0 ((aCs z).length : Int) (aKeep z)) := by
  obtain ⟨hOK, hC, ⟨hB, hL⟩, hRs, hPl, hSv⟩ := id hz
  refine w_X11_keep hOK ?_
  have hO0 : gOK sh (gU M 0 16 (M 4 0)) := gOK_o (f := 16) hOK (sh_0 hOK) rfl rfl
  have e0 : ∀ b : Int, b ≠ 0 → gU M 0 16 (M 4 0) b = M b := fun b hb => gU_cell _ _ _ hb
  refine cpR (P := fun x1 M1 => P_X11_keep_13 sh _ x1 M1) (d := 484) (u := 479) (fA := aRs z) (Or.inl ⟨rfl, rfl⟩) hO0 (fun i a b => (hRs i a b).2.1) (fun i a b => rOk_keep (hRs i a b).1 (fun q _ _ => e0 q (by omega))) (fun x1 M1 hO1 hT => w_X11_keep_13 hO1 hT) (fun M1 hO1 hR1 hf1 => ?_)
  refine cpP (P := fun x1 M1 => P_X11_keep_41 sh _ x1 M1) (d := 543) (u := 519) (fA := aPl z) (Or.inl ⟨rfl, rfl⟩) hO1 (fun p a b => (hG p a b).1) (fun i a b => (hPl i a b).2.1) (fun i a b => plOk_keep (hPl i a b).1 (fun q _ _ => by rw [hf1 q (by omega)]; exact e0 q (by omega))) (fun x1 M1 hO1 hT => w_X11_keep_41 hO1 hT) (fun M2 hO2 hP2 hf2 => ?_)
  have hf : ∀ b : Int, b < 479 ∨ 710 < b → M2 b = gU M 0 16 (M 4 0) b := fun b hb => by rw [hf2 b (by omega), hf1 b (by omega)]
  have hg : ∀ b : Int, b ≠ 0 → b < 479 ∨ 710 < b → M2 b = M b := fun b h0 hb => by rw [hf b hb, e0 b h0]
  have h016 : M2 0 16 = ((aCs z).length : Int) := by rw [hf 0 (by decide), gU_same]; exact hC.1
  refine ⟨rfl, by rw [h016], ⟨hO2, cOk_fr hC (fun b b0 b1 => hg b (by omega) (by omega)), ⟨tBy_keep hB (hg 2 (by decide) (by decide)), by rw [hg 1 (by decide) (by decide)]; exact hL⟩, fun i a b => ?_, fun i a b => ⟨(hP2 i a b).2, (hP2 i a b).1⟩, h016⟩, fun b hb => hg b (by omega) (by omega)⟩
  exact ⟨rOk_keep (hR1 i a b).2 (fun q _ _ => hf2 q (by omega)), rOk_keep (hR1 i a b).1 (fun q _ _ => hf2 q (by omega))⟩
theorem sp_X11_undo {sh : gS} {M : gM} {z : aS} (hz : cS sh M z) (hG : ∀ p : Int, 0 ≤ p → p < 4 → 0 ≤ aSv z → plGd (aSP z p)) (hv : aSv z ≤ ((aCs z).length : Int)) : gC (gr 3 111) yX11_undo cX11_undo 2 (some (.boolean)) [(4, 0)] sh M (cPo sh M 0 (bI (decide (0 ≤ aSv z))) (aUndo z)) := by
  obtain ⟨hOK, hC, ⟨hB, hL⟩, hRs, hPl, hSv⟩ := id hz
  refine w_X11_undo hOK ?_
  rw [hSv]
  by_cases q : aSv z < 0
  · rw [if_pos q, decide_eq_false (by omega)]
    unfold aUndo
    rw [if_pos q]
    exact cPo_same hz rfl
  · rw [if_neg q, decide_eq_true (show 0 ≤ aSv z by omega)]
    obtain ⟨hO0, hC0⟩ := cOk_take (n := aSv z) hOK hC ⟨by omega, hv⟩
    have e0 : ∀ b : Int, b ≠ 4 → gU M 4 0 (aSv z) b = M b := fun b hb => gU_cell _ _ _ hb
    refine cpR (P := fun x1 M1 => P_X11_undo_22 sh _ x1 M1) (d := 479) (u := 484) (fA := aSR z) (Or.inr ⟨rfl, rfl⟩) hO0 (fun i a b => (hRs i a b).1.1) (fun i a b => rOk_keep (hRs i a b).2 (fun q _ _ => e0 q (by omega))) (fun x1 M1 hO1 hT => w_X11_undo_22 hO1 hT) (fun M1 hO1 hR1 hf1 => ?_)
    refine cpP (P := fun x1 M1 => P_X11_undo_50 sh _ x1 M1) (d := 519) (u := 543) (fA := aSP z) (Or.inr ⟨rfl, rfl⟩) hO1 (fun p a b => (hG p a b (by omega)).1) (fun i a b => (hPl i a b).1.1) (fun i a b => plOk_keep (hPl i a b).2 (fun q _ _ => by rw [hf1 q (by omega)]; exact e0 q (by omega))) (fun x1 M1 hO1 hT => w_X11_undo_50 hO1 hT) (fun M2 hO2 hP2 hf2 => ?_)
    have hf : ∀ b : Int, b < 479 ∨ 710 < b → M2 b = gU M 4 0 (aSv z) b := fun b hb => by rw [hf2 b (by omega), hf1 b (by omega)]
    have hg : ∀ b : Int, b ≠ 4 → b < 479 ∨ 710 < b → M2 b = M b := fun b h0 hb => by rw [hf b hb, e0 b h0]
    have hun : aUndo z = (z.1, (aCs z).take (aSv z).toNat, aSR z, aSP z, aSv z, aSR z, aSP z) := by unfold aUndo; rw [if_neg q]
    rw [hun]
    refine ⟨rfl, rfl, ⟨hO2, cOk_fr hC0 (fun b b0 b1 => hf b (by omega)), ⟨tBy_keep hB (hg 2 (by decide) (by decide)), by rw [hg 1 (by decide) (by decide)]; exact hL⟩, fun i a b => ?_, fun i a b => hP2 i a b, by rw [hg 0 (by decide) (by decide)]; exact hSv⟩, fun b hb => hg b (by omega) (by omega)⟩
    exact ⟨rOk_keep (hR1 i a b).1 (fun q _ _ => hf2 q (by omega)), rOk_keep (hR1 i a b).2 (fun q _ _ => hf2 q (by omega))⟩
