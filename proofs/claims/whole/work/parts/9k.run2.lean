-- ==== RUN, ANEW, in the class
theorem rSh435 {sh : gS} {M : gM} (h : gOK sh M) : rSh sh 435 := ⟨gOK_sh h 435 rfl, gOK_sh h 436 rfl, gOK_sh h 437 rfl, gOK_sh h 438 rfl, gOK_sh h 439 rfl, by decide⟩
theorem sp_X11_layRefs {sh : gS} {M : gM} {a p : Int} {pl : kP} {rf rt : List rF} {im fa : Int → Int} {n : Int} (hOK : gOK sh M) (hP : plOk sh M a pl) (hf : 0 ≤ pl.2.1 2 ∧ pl.2.1 2 < 4) (ht : 0 ≤ pl.2.1 3 ∧ pl.2.1 3 < 4) (hRf : rOk sh M (479 + 10 * pl.2.1 2) rf) (hRt : rOk sh M (479 + 10 * pl.2.1 3) rt) (hGf : rGd n rf) (hGt : rGd n rt) (h8 : rf.length ≤ 8 ∧ rt.length ≤ 8) (hn : n ≤ 120) (hp : 0 ≤ p ∧ p ≤ 3) (hI : ∀ q : Int, 0 ≤ q → q < 120 → M 395 q = im q ∧ M 396 q = fa q) (him : ∀ q : Int, 0 ≤ q → q < 120 → im q < n) (ha : 439 < a) :
    gC (gr 3 70) yX11_layRefs cX11_layRefs 8 none [(4, 0), (4, a), (0, p)] sh M (gPm sh (fun r M1 => r = none ∧ rPost sh M 435 (lrGo (pl.2.1 14) im fa p rf (rt.filter (fun x => decide (x.2.2.2 ≠ p)))) M1)) := by
  have hlt := hP.1.2.2.2.2.2.2.2.2.2.2
  have e2 : M a 2 = pl.2.1 2 := hP.2.2.2.1 2 (by decide)
  have e3 : M a 3 = pl.2.1 3 := hP.2.2.2.1 3 (by decide)
  refine w_X11_layRefs hOK ⟨⟨hP.1.1, by omega⟩, ?_⟩
  rw [e2, e3]
  refine ⟨hf, ht, _, sp_X7_copy hOK (rSh435 hOK) hRt (by omega), fun r1 M1 hP1 => ?_⟩
  obtain ⟨rfl, a1, hO1, b1⟩ := hP1
  refine ⟨rfl, hO1, _, sp_X7_removeLaidBy hO1 a1, fun r2 M2 hP2 => ?_⟩
  obtain ⟨rfl, a2, hO2, b2⟩ := hP2
  refine ⟨rfl, hO2, ?_⟩
  generalize hacc : rt.filter (fun x => decide (x.2.2.2 ≠ p)) = acc0 at a2 ⊢
  have hG0 : rGd n acc0 := by rw [← hacc]; exact rGd_fil hGt _
  have hl0 : acc0.length ≤ 8 := by rw [← hacc]; exact Nat.le_trans (List.length_filter_le _ _) h8.2
  generalize hL : lrGo (pl.2.1 14) im fa p rf acc0 = L
  have hGb := hRf.1
  have lp : ∀ (suf pre acc : List rF) (M3 : gM), rf = pre ++ suf → rOk sh M3 435 acc → gOK sh M3 → (∀ b : Int, b < 435 ∨ 439 < b → M3 b = M b) → rGd n acc → acc.length ≤ 8 + pre.length → lrGo (pl.2.1 14) im fa p suf acc = L →
      P_X11_layRefs_37 sh (gPm sh (fun r M1 => r = none ∧ rPost sh M 435 L M1)) a p (479 + 10 * pl.2.1 2) (pre.length : Int) M3 := by
    intro suf
    induction suf with
    | nil =>
      intro pre acc M3 e hR hO hfr hG hl eL
      rw [List.append_nil] at e
      have hR3 := rOk_keep (M1 := M3) hRf (fun b b0 b1 => hfr b (by omega))
      refine w_X11_layRefs_37 hO ⟨⟨hGb.1, by omega⟩, ?_⟩
      rw [hR3.2.2.1, e, if_neg (by omega)]
      have eL : acc = L := eL
      rw [← eL]
      exact ⟨rfl, rfl, hR, hO, hfr⟩
    | cons x r ih =>
      intro pre acc M3 e hR hO hfr hG hl eL
      have hln := len_mid e
      have hR3 := rOk_keep (M1 := M3) hRf (fun b b0 b1 => hfr b (by omega))
      have hx := hR3.2.2.2 pre.length x (by rw [e, List.getElem?_append_right (Nat.le_refl _), Nat.sub_self]; rfl)
      rw [Int.zero_add] at hx
      have x1 : M3 (479 + 10 * pl.2.1 2 + 1) (pre.length : Int) = x.1 := congrArg Prod.fst hx
      have x2 : M3 (479 + 10 * pl.2.1 2 + 2) (pre.length : Int) = x.2.1 := congrArg (fun y : rF => y.2.1) hx
      have x3 : M3 (479 + 10 * pl.2.1 2 + 3) (pre.length : Int) = x.2.2.1 := congrArg (fun y : rF => y.2.2.1) hx
      obtain ⟨⟨g1, g2, g3, g4⟩, g5, g6, g7⟩ := hGf.2 x (by rw [e]; simp)
      have hP3 : plOk sh M3 a pl := plOk_keep hP (fun b b0 _ => hfr b (by omega))
      have e14 : M3 a 14 = pl.2.1 14 := hP3.2.2.2.1 14 (by decide)
      obtain ⟨i1, i2⟩ := hI x.2.2.1 g5.1 (by omega)
      have nx : gw32 ((pre.length : Int) + 1) = ((pre ++ [x]).length : Int) := by rw [gw32_id (by omega) (by omega), List.length_append, List.length_singleton]; omega
      unfold lrGo at eL
      -- it is left out
      have skip : ¬ ((x.1 = 0 ∨ pl.2.1 14 = 2 ∨ (pl.2.1 14 = 1 ∧ fa x.2.2.1 = 0)) ∧ 0 ≤ im x.2.2.1) → P_X11_layRefs_37 sh (gPm sh (fun r M1 => r = none ∧ rPost sh M 435 L M1)) a p (479 + 10 * pl.2.1 2) (gw32 ((pre.length : Int) + 1)) M3 := fun hno => by
        rw [nx]
        rw [if_neg hno] at eL
        exact ih (pre ++ [x]) acc M3 (app_mid e) hR hO hfr hG (by rw [List.length_append, List.length_singleton]; omega) eL
      have go : ∀ s0 : Bool, (s0 = true ↔ (x.1 = 0 ∨ pl.2.1 14 = 2 ∨ (pl.2.1 14 = 1 ∧ fa x.2.2.1 = 0))) → P_X11_layRefs_111 sh (gPm sh (fun r M1 => r = none ∧ rPost sh M 435 L M1)) a p (479 + 10 * pl.2.1 2) (pre.length : Int) x.2.2.1 (im x.2.2.1) (bI s0) M3 := fun s0 hs => by
        refine w_X11_layRefs_111 hO ?_
        cases s0 with
        | false => rw [if_pos bIf]; exact skip (fun w => absurd (hs.mpr w.1) (by decide))
        | true =>
          rw [if_neg bIt]
          have hs := hs.mp rfl
          by_cases q : im x.2.2.1 < 0
          · rw [if_pos q]; exact skip (fun w => by omega)
          · rw [if_neg q, x1, x2]
            have hyes : (x.1 = 0 ∨ pl.2.1 14 = 2 ∨ (pl.2.1 14 = 1 ∧ fa x.2.2.1 = 0)) ∧ 0 ≤ im x.2.2.1 := ⟨hs, by omega⟩
            rw [if_pos hyes] at eL
            have hlay := sp_X7_lay (c := im x.2.2.1) (p := p) (u := x.1) (v := x.2.1) hO hR (rGd_all hG) hG.1 ⟨g1, g2⟩ ⟨g3, g4⟩ (fun _ => by omega)
            refine ⟨⟨hGb.1, by omega⟩, 16, hGb.2.1, ⟨by omega, by omega⟩, 16, hGb.2.2.1, ⟨by omega, by omega⟩, _, hlay, fun r4 M4 hP4 => ?_⟩
            obtain ⟨rfl, a4, hO4, b4⟩ := hP4
            refine ⟨rfl, hO4, ?_⟩
            rw [nx]
            have := rLay_len (c := im x.2.2.1) (p := p) hG ⟨g1, g2⟩ ⟨g3, g4⟩
            exact ih (pre ++ [x]) _ M4 (app_mid e) a4 hO4 (fun b hb => by rw [b4 b (by omega)]; exact hfr b hb) (rLay_gd hG ⟨g1, g2⟩ ⟨g3, g4⟩ ⟨by omega, him _ g5.1 (by omega)⟩ ⟨by omega, hp.2⟩) (by rw [List.length_append, List.length_singleton]; omega) eL
      have f395 : M3 395 x.2.2.1 = im x.2.2.1 := by rw [hfr 395 (by omega)]; exact i1
      have f396 : M3 396 x.2.2.1 = fa x.2.2.1 := by rw [hfr 396 (by omega)]; exact i2
      refine w_X11_layRefs_37 hO ⟨⟨hGb.1, by omega⟩, ?_⟩
      rw [hR3.2.2.1, if_pos (by omega), x3, x1, e14, f395, f396]
      refine ⟨16, hGb.2.2.2.1, ⟨by omega, by omega⟩, ⟨by omega, by omega⟩, 16, hGb.2.1, ⟨by omega, by omega⟩, ?_⟩
      by_cases c1 : x.1 = 0
      · rw [if_pos c1]; exact go true ⟨fun _ => Or.inl c1, fun _ => rfl⟩
      · rw [if_neg c1]
        refine ⟨⟨hP.1.1, by omega⟩, ?_⟩
        by_cases c2 : pl.2.1 14 = 2
        · rw [if_pos c2]; exact go true ⟨fun _ => Or.inr (Or.inl c2), fun _ => rfl⟩
        · rw [if_neg c2]
          by_cases c3 : pl.2.1 14 = 1
          · rw [if_pos c3]
            by_cases c4 : fa x.2.2.1 = 0
            · rw [if_pos c4]; exact go true ⟨fun _ => Or.inr (Or.inr ⟨c3, c4⟩), fun _ => rfl⟩
            · rw [if_neg c4]; exact go false ⟨fun w => (by cases w), fun w => by rcases w with w | w | w; exact absurd w c1; exact absurd w c2; exact absurd w.2 c4⟩
          · rw [if_neg c3]; exact go false ⟨fun w => (by cases w), fun w => by rcases w with w | w | w; exact absurd w c1; exact absurd w c2; exact absurd w.1 c3⟩
  exact lp rf [] acc0 M2 rfl a2 hO2 (fun b hb => by rw [b2 b (by omega), b1 b (by omega)]) hG0 (by omega) hL
theorem rAt_gd {cs : List kC} {rs : List rF} (h : rGd (cs.length : Int) rs) : rAt cs rs := fun x hx => (h.2 x hx).2.1
theorem plOk_map {sh : gS} {M M1 : gM} {a : Int} {pl : kP} {im fa : Int → Int} (h : plOk sh M a pl) (hm : ∀ k : Int, 0 ≤ k → k < 120 → M1 (a + 22) k = im k ∧ M1 (a + 23) k = fa k) (hf : ∀ b : Int, b ≠ a + 22 → b ≠ a + 23 → M1 b = M b) : plOk sh M1 a (pl.1, pl.2.1, im, fa) := by
  obtain ⟨h1, h2, h3, h4, h5⟩ := h
  exact ⟨h1, fun i hi => qOk_congr (h2 i hi) (hf _ (by omega) (by omega)) (hf _ (by omega) (by omega)) (hf _ (by omega) (by omega)), qOk_congr h3 (hf _ (by omega) (by omega)) (hf _ (by omega) (by omega)) (hf _ (by omega) (by omega)), fun f hf2 => by rw [hf a (by omega) (by omega)]; exact h4 f hf2, hm⟩
theorem sp_X11_carry {sh : gS} {M : gM} {z : aS} {p : Int} {b : Bool} (hz : cS sh M z) (hG : kGd (aCs z)) (hR : ∀ h : Int, 0 ≤ h → h < 4 → rGd ((aCs z).length : Int) (aRs z h) ∧ (aRs z h).length ≤ 8) (hI : plInv (aCs z) (aPl z p)) (hp : 0 ≤ p ∧ p ≤ 3) :
    gC (gr 5 162) yX11_carry cX11_carry 7 (some (.int)) [(4, 0), (0, p), (0, bI b)] sh M (cPo sh M 0 (aCarry z p b).1 (aCarry z p b).2) := by
  obtain ⟨hOK, hC, ⟨hB, hL⟩, hRs, hPl, hSv⟩ := id hz
  have hPa := (hPl p hp.1 (by omega)).1
  have hl9 := hC.2.1
  have hlt := hPa.1.2.2.2.2.2.2.2.2.2.2
  have e0 : M (519 + 48 * p) 0 = (aPl z p).2.1 0 := hPa.2.2.2.1 0 (by decide)
  have e2 : M (519 + 48 * p) 2 = (aPl z p).2.1 2 := hPa.2.2.2.1 2 (by decide)
  refine w_X11_carry hOK ⟨⟨hp.1, by omega⟩, ⟨hPa.1.1, by omega⟩, ?_⟩
  unfold aCarry
  rw [e0]
  by_cases q0 : (aPl z p).2.1 0 = 0
  · rw [if_pos q0, if_pos q0]; exact cPo_same hz rfl
  rw [if_neg q0, if_neg q0, e2, hC.1]
  have h1 : (aPl z p).2.1 0 = 1 := by rcases hI.1 with w | w; exact absurd w q0; exact w
  obtain ⟨hf, ht⟩ := plInv_ft hI h1
  have hK := plInv_K hI h1
  have hF := plInv_fore hG.1 hI h1
  obtain ⟨hGf, h8f⟩ := hR _ hf.1 hf.2
  obtain ⟨hGt, h8t⟩ := hR _ ht.1 ht.2
  have hRf := (hRs _ hf.1 hf.2).1
  refine ⟨hf, _, sp_X8_begin (z := bI b) hOK hC hPa hF hRf (rAt_gd hGf) (by omega) (by omega), fun r1 M1 hP1 => ?_⟩
  obtain ⟨rfl, m1, m2, hO1, m4, m5⟩ := hP1
  refine ⟨rfl, hO1, ?_⟩
  have hY : (if bI b = 0 then (aPl z p).2.2.1 else fun _ => -1) = (rcY z (aPl z p) b).2.2.1 ∧ (if bI b = 0 then (aPl z p).2.2.2 else fun _ => -1) = (rcY z (aPl z p) b).2.2.2 := by
    cases b with
    | true => exact ⟨if_neg (by decide), if_neg (by decide)⟩
    | false => exact ⟨if_pos rfl, if_pos rfl⟩
  rw [hY.1, hY.2] at m4
  have hli := rcY_li (b := b) hG hl9 hI h1
  have hSt : rwS sh M (aCs z).length (kEld (aCs z) (aPl z p)) (eMark (aCs z) (aPl z p) (aRs z ((aPl z p).2.1 2))) (rcY z (aPl z p) b).2.1 (rcY z (aPl z p) b).2.2.1 (rcY z (aPl z p) b).2.2.2 M1 := ⟨hO1, cOk_fr hC (fun x x0 x1 => m5 x (by omega)), m1, m2, m4, fun x hx => m5 x (by omega)⟩
  generalize hEl : kEld (aCs z) (aPl z p) = el at hSt ⊢
  generalize hS : eMark (aCs z) (aPl z p) (aRs z ((aPl z p).2.1 2)) = S at hSt ⊢
  generalize hres : aLoop el S (aPl z p) (aCs z).length 0 (rcY z (aPl z p) b) = res
  have hrli : ∀ w, res = some w → liS (aCs z) (aPl z p) w := fun w hw => by
    rw [hw, ← hEl] at hres
    exact aLoop_li hK hG.1 _ _ _ w (by omega) hli hres
  -- what is cut back
  have cut : ∀ (v : Int) (ds : List kC) (M9 : gM), gOK sh M9 → cOk sh M9 (aCs z ++ ds) → (∀ x : Int, x < 3 ∨ 439 < x → M9 x = M x) → cPo sh M 0 v z (some (0, v)) sh (gU M9 4 0 ((aCs z).length : Int)) := fun v ds M9 hO hC9 hfr => by
    obtain ⟨c1, c2⟩ := cOk_take hO hC9 (n := ((aCs z).length : Int)) ⟨by omega, by rw [List.length_append]; omega⟩
    rw [Int.toNat_natCast, List.take_left'  rfl] at c2
    have e : ∀ x : Int, x ≠ 4 → gU M9 4 0 ((aCs z).length : Int) x = M9 x := fun x hx => gU_cell _ _ _ hx
    refine ⟨rfl, rfl, ⟨c1, c2, ⟨tBy_keep hB (by rw [e 2 (by decide), hfr 2 (by decide)]), by rw [e 1 (by decide), hfr 1 (by decide)]; exact hL⟩, fun i i0 i1 => ?_, fun i i0 i1 => ?_, by rw [e 0 (by decide), hfr 0 (by decide)]; exact hSv⟩, fun x hx => by rw [e x (by omega), hfr x (by omega)]⟩
    · exact ⟨rOk_keep (hRs i i0 i1).1 (fun x x0 x1 => by rw [e x (by omega), hfr x (by omega)]), rOk_keep (hRs i i0 i1).2 (fun x x0 x1 => by rw [e x (by omega), hfr x (by omega)])⟩
    · exact ⟨plOk_keep (hPl i i0 i1).1 (fun x x0 x1 => by rw [e x (by omega), hfr x (by omega)]), plOk_keep (hPl i i0 i1).2 (fun x x0 x1 => by rw [e x (by omega), hfr x (by omega)])⟩
  generalize hV : rcV z p res = V
  have lp : ∀ (m k : Nat) (y : aL) (M2 : gM), k + m = (aCs z).length → (0 ≤ y.1 ∧ y.1 ≤ (k : Int)) → liS (aCs z) (aPl z p) y → rwS sh M (aCs z).length el S y.2.1 y.2.2.1 y.2.2.2 M2 → aLoop el S (aPl z p) m k y = res → P_X11_carry_50 sh (cPo sh M 0 V.1 V.2) p (bI b) (519 + 48 * p) ((aCs z).length : Int) y.1 (k : Int) M2 := by
    intro m
    induction m with
    | zero =>
      intro k y M2 hk hy hl h e
      obtain ⟨hO2, hC2, hE2, hS2, hI2, hfr2⟩ := id h
      have e : some y = res := e
      have hlw := hrli y e.symm
      obtain ⟨⟨ds, hds⟩, hGy, hly, hmy⟩ := hl
      rw [← e] at hV
      have hP2 : plOk sh M2 (519 + 48 * p) (aPl z p) := plOk_keep hPa (fun x x0 x1 => hfr2 x (by omega))
      have hRf2 := rOk_keep (M1 := M2) hRf (fun x x0 x1 => hfr2 x (by omega))
      have hRt2 := rOk_keep (M1 := M2) (hRs _ ht.1 ht.2).1 (fun x x0 x1 => hfr2 x (by omega))
      have hlen : (aCs z).length ≤ y.2.1.length := by rw [hds, List.length_append]; omega
      refine w_X11_carry_50 hO2 ?_
      rw [if_neg (by omega)]
      refine ⟨_, sp_X11_layRefs (im := y.2.2.1) (fa := y.2.2.2) (n := (y.2.1.length : Int)) hO2 hP2 hf ht hRf2 hRt2 (rGd_up (by omega) hGf) (rGd_up (by omega) hGt) ⟨h8f, h8t⟩ (by omega) hp hI2 (fun q q0 q1 => (hmy q q0 q1).2.1.2) (by omega), fun r3 M3 hP3 => ?_⟩
      obtain ⟨rfl, a3, hO3, b3⟩ := hP3
      refine ⟨rfl, hO3, ?_⟩
      have hLL : lrGo ((aPl z p).2.1 14) y.2.2.1 y.2.2.2 p (aRs z ((aPl z p).2.1 2)) ((aRs z ((aPl z p).2.1 3)).filter (fun x => decide (x.2.2.2 ≠ p))) = rcL z p (aPl z p) y := rfl
      rw [hLL] at a3
      have hC3 : cOk sh M3 y.2.1 := cOk_fr hC2 (fun x x0 x1 => b3 x (by omega))
      have fr3 : ∀ x : Int, x < 3 ∨ 439 < x → M3 x = M x := fun x hx => by rw [b3 x (by omega), hfr2 x (by omega)]
      rw [a3.2.2.1]
      by_cases q8 : 8 < (rcL z p (aPl z p) y).length
      · rw [if_pos (by omega)]
        have hV : (if 8 < (rcL z p (aPl z p) y).length then ((-5 : Int), z) else _) = V := hV
        rw [if_pos q8] at hV
        rw [← hV]
        exact cut (-5) ds M3 hO3 (by rw [← hds]; exact hC3) fr3
      · rw [if_neg (by omega)]
        have hV : (if 8 < (rcL z p (aPl z p) y).length then ((-5 : Int), z) else _) = V := hV
        rw [if_neg q8] at hV
        rw [← hV]
        have hP3 : plOk sh M3 (519 + 48 * p) (aPl z p) := plOk_keep hPa (fun x x0 x1 => fr3 x (by omega))
        refine ⟨⟨hPa.1.1, by omega⟩, _, sp_X5_takeMap hO3 hPa.1 (sh_395 hO3) (sh_396 hO3) (by omega), fun r4 M4 hP4 => ?_⟩
        obtain ⟨rfl, a4, hO4, b4⟩ := hP4
        have e43 : M4 (519 + 48 * p) 3 = (aPl z p).2.1 3 := by rw [b4 _ (by omega) (by omega)]; exact hP3.2.2.2.1 3 (by decide)
        have hP4 : plOk sh M4 (519 + 48 * p) ((aPl z p).1, (aPl z p).2.1, y.2.2.1, y.2.2.2) := plOk_map hP3 (fun k k0 k1 => by
          obtain ⟨x1, x2⟩ := a4 k k0 k1
          obtain ⟨x3, x4⟩ := hI2 k k0 k1
          rw [b3 395 (by omega)] at x1
          rw [b3 396 (by omega)] at x2
          exact ⟨x1.trans x3, x2.trans x4⟩) b4
        have a34 : rOk sh M4 435 (rcL z p (aPl z p) y) := rOk_keep a3 (fun x x0 x1 => b4 x (by omega) (by omega))
        have hshT := (hRs _ ht.1 ht.2).1.1
        refine ⟨rfl, hO4, ?_⟩
        rw [e43]
        refine ⟨ht, ⟨hshT.1, by omega⟩, _, sp_X7_copy hO4 hshT a34 (by omega), fun r5 M5 hP5 => ?_⟩
        obtain ⟨rfl, a5, hO5, b5⟩ := hP5
        refine ⟨rfl, hO5, rfl, rfl, ?_⟩
        have fr5 : ∀ x : Int, (x < 479 + 10 * (aPl z p).2.1 3 ∨ 479 + 10 * (aPl z p).2.1 3 + 4 < x) → x ≠ 519 + 48 * p + 22 → x ≠ 519 + 48 * p + 23 → M5 x = M3 x := fun x x0 x1 x2 => by rw [b5 x x0, b4 x x1 x2]
        refine ⟨⟨hO5, cOk_fr hC3 (fun x x0 x1 => fr5 x (by omega) (by omega) (by omega)), ⟨tBy_keep hB (by rw [fr5 2 (by omega) (by omega) (by omega), fr3 2 (by decide)]), by rw [fr5 1 (by omega) (by omega) (by omega), fr3 1 (by decide)]; exact hL⟩, fun i i0 i1 => ⟨?_, ?_⟩, fun i i0 i1 => ⟨?_, ?_⟩, by rw [fr5 0 (by omega) (by omega) (by omega), fr3 0 (by decide)]; exact hSv⟩, fun x hx => by rw [fr5 x (by omega) (by omega) (by omega), fr3 x (by omega)]⟩
        · show rOk sh M5 (479 + 10 * i) (if i = (aPl z p).2.1 3 then rcL z p (aPl z p) y else aRs z i)
          by_cases ei : i = (aPl z p).2.1 3
          · rw [if_pos ei, ei]; exact a5
          · rw [if_neg ei]; exact rOk_keep (hRs i i0 i1).1 (fun x x0 x1 => by rw [fr5 x (by omega) (by omega) (by omega), fr3 x (by omega)])
        · exact rOk_keep (hRs i i0 i1).2 (fun x x0 x1 => by rw [fr5 x (by omega) (by omega) (by omega), fr3 x (by omega)])
        · show plOk sh M5 (519 + 48 * i) (if i = p then ((aPl z p).1, (aPl z p).2.1, y.2.2.1, y.2.2.2) else aPl z i)
          by_cases ei : i = p
          · rw [if_pos ei, ei]; exact plOk_keep hP4 (fun x x0 x1 => b5 x (by omega))
          · rw [if_neg ei]; exact plOk_keep (hPl i i0 i1).1 (fun x x0 x1 => by rw [fr5 x (by omega) (by omega) (by omega), fr3 x (by omega)])
        · exact plOk_keep (hPl i i0 i1).2 (fun x x0 x1 => by rw [fr5 x (by omega) (by omega) (by omega), fr3 x (by omega)])
    | succ m ih =>
      intro k y M2 hk hy hl h e
      obtain ⟨hO2, hC2, hE2, hS2, hI2, hfr2⟩ := id h
      obtain ⟨⟨ds, hds⟩, hGy, hly, hmy⟩ := id hl
      have hkl : k < (aCs z).length := by omega
      refine w_X11_carry_50 hO2 ?_
      rw [if_pos (by omega)]
      refine ⟨_, sp_X8_isOfPlan hO2, ?_⟩
      rw [mHas_of hS2 k (by omega)]
      have nx : gw32 ((k : Int) + 1) = ((k + 1 : Nat) : Int) := by rw [gw32_id (by omega) (by omega)]; omega
      unfold aLoop at e
      have next : ¬ (S k && decide (y.2.2.2 (k : Int) < 0)) = true → P_X11_carry_50 sh (cPo sh M 0 V.1 V.2) p (bI b) (519 + 48 * p) ((aCs z).length : Int) y.1 (gw32 ((k : Int) + 1)) M2 := fun hno => by
        rw [if_neg hno] at e
        rw [nx]
        exact ih (k + 1) y M2 (by omega) ⟨hy.1, by omega⟩ hl h e
      cases hSk : S k with
      | false => rw [if_pos bIf]; exact next (by rw [hSk, Bool.false_and]; decide)
      | true =>
        rw [if_neg bIt, (hI2 (k : Int) (by omega) (by omega)).2]
        refine ⟨⟨by omega, by omega⟩, ?_⟩
        by_cases q : y.2.2.2 (k : Int) < 0
        · rw [if_pos q]
          rw [if_pos (show (S k && decide (y.2.2.2 (k : Int) < 0)) = true by rw [hSk, decide_eq_true q]; rfl)] at e
          have hkc : y.2.1[k]? = some (y.2.1[k]'(by rw [hds, List.length_append]; omega)) := List.getElem?_eq_getElem _
          generalize (y.2.1[k]'(by rw [hds, List.length_append]; omega)) = c at hkc
          rw [hkc] at e
          have hH := liS_H hK hl hG.1
          rw [hEl] at hH
          have hP2 : plOk sh M2 (519 + 48 * p) (aPl z p) := plOk_keep hPa (fun x x0 x1 => hfr2 x (by omega))
          refine ⟨_, sp_X8_rewrite (fa := y.2.2.2) h hH hP2 (by omega) hkc hkl, fun r3 M3 hP3 => ?_⟩
          cases hx : aRw y.2.1 el (aPl z p) y.2.2.1 k c with
          | none =>
            rw [hx] at hP3
            obtain ⟨rfl, o1, o2, o3⟩ := hP3
            have e : (match aRw y.2.1 el (aPl z p) y.2.2.1 k c with
              | none => none
              | some x => aLoop el S (aPl z p) m (k + 1) (y.1 + 1, x.2.2, fUp y.2.2.1 (k : Int) x.2.1, fUp y.2.2.2 (k : Int) x.1)) = res := e
            rw [hx] at e
            have e : none = res := e
            rw [← e] at hV
            have hV : ((-3 : Int), z) = V := hV
            refine ⟨0, rfl, o1, ?_⟩
            rw [if_pos (show (0 : Int) = 0 from rfl), ← hV]
            exact cut (-3) ds M3 o1 (by rw [← hds]; exact o2) (fun x hx => o3 x (by omega))
          | some x =>
            rw [hx] at hP3
            obtain ⟨rfl, hS3⟩ := hP3
            have e : (match aRw y.2.1 el (aPl z p) y.2.2.1 k c with
              | none => none
              | some x => aLoop el S (aPl z p) m (k + 1) (y.1 + 1, x.2.2, fUp y.2.2.1 (k : Int) x.2.1, fUp y.2.2.2 (k : Int) x.1)) = res := e
            rw [hx] at e
            refine ⟨1, rfl, hS3.1, ?_⟩
            rw [if_neg (show ¬ (1 : Int) = 0 by decide), nx, gw32_id (z := y.1 + 1) (by omega) (by omega)]
            have hx' := hx
            rw [← hEl] at hx'
            exact ih (k + 1) _ M3 (by omega) ⟨by show 0 ≤ y.1 + 1; omega, by show y.1 + 1 ≤ _; omega⟩ (liS_step hK hl hG.1 hkl hkc hx' (y.1 + 1)) hS3 e
        · rw [if_neg q]; exact next (by rw [hSk, decide_eq_false q]; decide)
  have := lp (aCs z).length 0 (rcY z (aPl z p) b) M1 (by omega) ⟨by show (0 : Int) ≤ 0; decide, by show (0 : Int) ≤ 0; decide⟩ hli hSt hres
  exact this
theorem sp_X11_run {sh : gS} {M : gM} {z : aS} {p : Int} (hz : cS sh M z) (hG : kGd (aCs z)) (hR : ∀ h : Int, 0 ≤ h → h < 4 → rGd ((aCs z).length : Int) (aRs z h) ∧ (aRs z h).length ≤ 8) (hI : ∀ p : Int, 0 ≤ p → p < 4 → plInv (aCs z) (aPl z p)) :
    gC (gr 6 188) yX11_run cX11_run 2 (some (.int)) [(4, 0), (0, p)] sh M (cPo sh M 0 (aRun z p).1 (aRun z p).2) := by
  unfold aRun
  refine w_X11_run hz.1 ⟨_, sp_X11_isPlan hz.1, ?_⟩
  by_cases q1 : 0 ≤ p ∧ p ≤ 3
  · rw [decide_eq_true q1, if_neg bIt, if_pos q1]
    refine ⟨_, sp_X11_carry (b := false) hz hG hR (hI p q1.1 (by omega)) q1, fun r1 M1 hP1 => ?_⟩
    obtain ⟨rfl, h1, h2⟩ := hP1
    exact ⟨_, rfl, h1.1, rfl, rfl, h1, h2⟩
  · rw [decide_eq_false q1, if_pos bIf, if_neg q1]; exact cPo_same hz rfl
theorem sp_X11_again {sh : gS} {M : gM} {z : aS} {p : Int} (hz : cS sh M z) (hG : kGd (aCs z)) (hR : ∀ h : Int, 0 ≤ h → h < 4 → rGd ((aCs z).length : Int) (aRs z h) ∧ (aRs z h).length ≤ 8) (hI : ∀ p : Int, 0 ≤ p → p < 4 → plInv (aCs z) (aPl z p)) :
    gC (gr 6 188) yX11_again cX11_again 4 (some (.int)) [(4, 0), (0, p)] sh M (cPo sh M 0 (aAgain z p).1 (aAgain z p).2) := by
  unfold aAgain
  refine w_X11_again hz.1 ⟨_, sp_X11_isPlan hz.1, ?_⟩
  by_cases q1 : 0 ≤ p ∧ p ≤ 3
  · rw [decide_eq_true q1, if_neg bIt, if_pos q1]
    refine ⟨_, sp_X11_carry (b := true) hz hG hR (hI p q1.1 (by omega)) q1, fun r1 M1 hP1 => ?_⟩
    obtain ⟨rfl, h1, h2⟩ := hP1
    refine ⟨_, rfl, h1.1, ?_⟩
    have l0 := hz.2.1.1
    have l1 := h1.2.1.1
    have m0 := hz.2.1.2.1
    have m1 := h1.2.1.2.1
    by_cases q : (aCarry z p true).1 < 0
    · rw [if_pos q, if_pos q]; exact ⟨rfl, rfl, h1, h2⟩
    · rw [if_neg q, if_neg q, l0, l1, gw32_id (by omega) (by omega)]; exact ⟨rfl, rfl, h1, h2⟩
  · rw [decide_eq_false q1, if_pos bIf, if_neg q1]; exact cPo_same hz rfl
