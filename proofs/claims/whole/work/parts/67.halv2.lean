-- ==== halving: the class
theorem sp_X11_halving {sh : gS} {M : gM} {z : aS} {i j w : Int} (hz : cS sh M z) (hO : kOk (aCs z)) : gC (gr 2 46) yX11_halving cX11_halving 11 (some (.int)) [(4, 0), (0, i), (0, j), (0, w)] sh M (cPo sh M 0 (aHalving (aCs z) i j w) z) := by
  obtain ⟨hOK, hC, -⟩ := id hz
  have hl9 := hC.2.1
  unfold aHalving
  refine w_X11_halving hOK ⟨_, sp_X1_has hOK hC, ?_⟩
  rw [hasI]
  by_cases q1 : bC (aCs z) i = true
  · rw [if_neg (bI_ne q1)]
    refine ⟨_, sp_X1_has hOK hC, ?_⟩
    rw [hasI]
    by_cases q2 : bC (aCs z) j = true
    · rw [if_neg (bI_ne q2)]
      by_cases q3 : w < 0
      · rw [if_pos q3, if_neg (fun w => by omega)]; exact cPo_same hz rfl
      · rw [if_neg q3]
        by_cases q4 : (2 : Int) < w
        · rw [if_pos q4, if_neg (fun w => by omega)]; exact cPo_same hz rfl
        · rw [if_neg q4, if_pos (show bC (aCs z) i = true ∧ bC (aCs z) j = true ∧ (0 ≤ w ∧ w ≤ 2) from ⟨q1, q2, by omega, by omega⟩)]
          obtain ⟨ni, ci, rfl, hki, hli⟩ := bC_at q1
          obtain ⟨nj, cj, rfl, hkj, hlj⟩ := bC_at q2
          rw [Int.toNat_natCast, Int.toNat_natCast]
          refine ⟨_, sp_X1_markWithAncestors hOK hC hkj (mSh470 hOK) (by decide) (by decide), fun r1 M1 hP1 => ?_⟩
          obtain ⟨rfl, a1, a2, a3, a4⟩ := hP1
          have hz1 : cS sh M1 z := cS_keep hz a2 (fun b hb => a3 b (by omega) (by omega))
          refine ⟨rfl, a2, _, sp_X1_markWithAncestors a2 hz1.2.1 hki (mSh470 a2) (by decide) (by decide), fun r2 M2 hP2 => ?_⟩
          obtain ⟨rfl, b1, b2, b3, b4⟩ := hP2
          have hz2 : cS sh M2 z := cS_keep hz1 b2 (fun b hb => b3 b (by omega) (by omega))
          refine ⟨rfl, b2, _, sp_X3_cutAll b2 (mSh470 b2) (by decide) (mSh470 b2) (by decide) (Or.inl rfl), fun r3 M3 hP3 => ?_⟩
          obtain ⟨rfl, c1, c2, c3, c4⟩ := hP3
          have hz3 : cS sh M3 z := cS_keep hz2 c2 (fun b hb => c3 b (by omega) (by omega))
          have hC3 := hz3.2.1
          refine ⟨rfl, c2, _, sp_X3_size c2 (mSh470 c2) (by decide), ?_⟩
          have don : ∀ v w : Int, v = w → cPo sh M 0 w z (some (0, v)) sh M3 := fun v w e => ⟨rfl, by rw [e], hz3, fun b hb => by rw [c3 b (by omega) (by omega), b3 b (by omega) (by omega), a3 b (by omega) (by omega)]⟩
          have sX : mIs M3 470 0 (hvX (aCs z) ni nj) := fun q hq => by
            rw [c1 q hq]; show (mB M2 470 0 q && !mB M2 470 1 q) = _; rw [mB_row (b4 0 (by decide)), a1 q hq, b1 q hq]; rfl
          generalize hX : hvX (aCs z) ni nj = X at sX
          have tX : ∀ k, (aCs z).length ≤ k → X k = false := fun k hk => by
            rw [← hX]; unfold hvX; rw [kU_top hO (by omega) hk]; rfl
          have eN : cnt (mB M3 470 0) 128 = cnt X (aCs z).length := by rw [cnt_congr 128 (fun q hq => sX q hq)]; exact cnt_cut (by omega) tX
          rw [eN]
          unfold hvA
          generalize hN : cnt X (aCs z).length = N
          have rN := cnt_rng X (aCs z).length
          rw [hN] at rN
          by_cases w0 : w = 0
          · rw [if_pos w0, if_pos w0]; exact don _ _ rfl
          · rw [if_neg w0, if_neg w0]
            have lp : ∀ (m k : Nat), k + m = (aCs z).length → P_X11_halving_103 sh (cPo sh M 0 (if w = 1 then (hvG (aCs z) X N (aCs z).length).1 else (hvG (aCs z) X N (aCs z).length).2.1) z) (ni : Int) (nj : Int) w N (hvG (aCs z) X N k).1 (hvG (aCs z) X N k).2.1 (hvG (aCs z) X N k).2.2 (k : Int) M3 := by
              intro m
              induction m with
              | zero =>
                intro k hk
                have hkk : k = (aCs z).length := by omega
                refine w_X11_halving_103 c2 ?_
                rw [hC3.1, if_neg (by omega), hkk]
                by_cases w1 : w = 1
                · rw [if_pos w1, if_pos w1]; exact don _ _ rfl
                · rw [if_neg w1, if_neg w1]; exact don _ _ rfl
              | succ m ih =>
                intro k hk
                have hkl : k < (aCs z).length := by omega
                have ih1 := ih (k + 1) (by omega)
                have hG : hvG (aCs z) X N (k + 1) = hvS (aCs z) X N (hvG (aCs z) X N k) k := rfl
                rw [hG] at ih1
                generalize hvG (aCs z) X N k = st at ih1 ⊢
                refine w_X11_halving_103 c2 ?_
                rw [hC3.1, if_pos (by omega)]
                refine ⟨_, sp_X3_has c2 (mSh470 c2) (by decide), ?_⟩
                rw [mHas_of sX k (by omega), gw32_id (z := (k : Int) + 1) (by omega) (by omega)]
                unfold hvS at ih1
                cases hx : X k with
                | false =>
                  rw [if_pos bIf]
                  rw [if_neg (show ¬ X k = true by rw [hx]; decide)] at ih1
                  exact ih1
                | true =>
                  rw [if_neg bIt]
                  rw [if_pos hx] at ih1
                  refine ⟨_, sp_X3_sizeInBoth c2 (mSh470 c2) (by decide) (mSh14 c2) (by omega), ?_⟩
                  have en : cnt (fun q => mB M3 470 0 q && mB M3 14 (k : Int) q) 128 + 1 = hvN (aCs z) X k := by
                    unfold hvN
                    have hk3 := List.getElem?_eq_getElem hkl
                    have ha := (hC3.2.2.2 k _ hk3).2.2.2.2.2
                    rw [cnt_congr 128 (g := fun q => X q && kAnc (aCs z) k q) (fun q hq => by rw [sX q hq, ha q hq]), cnt_cut (n := (aCs z).length) (by omega) (fun q hq => by rw [tX q hq]; rfl)]
                  have rn := cnt_rng (fun q => mB M3 470 0 q && mB M3 14 (k : Int) q) 128
                  rw [gw32_id (z := cnt (fun q => mB M3 470 0 q && mB M3 14 (k : Int) q) 128 + 1) (by omega) (by omega), en]
                  have rn2 : 0 ≤ hvN (aCs z) X k ∧ hvN (aCs z) X k ≤ 129 := by omega
                  rw [gw32_id (z := N - hvN (aCs z) X k) (by omega) (by omega)]
                  have hv : (if N - hvN (aCs z) X k < hvN (aCs z) X k then N - hvN (aCs z) X k else hvN (aCs z) X k) = hvV N (hvN (aCs z) X k) := rfl
                  rw [hv]
                  by_cases y : st.2.2 < hvV N (hvN (aCs z) X k)
                  · rw [if_pos y]; rw [if_pos y] at ih1; exact ih1
                  · rw [if_neg y]; rw [if_neg y] at ih1; exact ih1
            exact lp (aCs z).length 0 (by omega)
    · rw [if_pos (bI_eq (by simpa using q2)), if_neg (fun w => q2 w.2.1)]; exact cPo_same hz rfl
  · rw [if_pos (bI_eq (by simpa using q1)), if_neg (fun w => q1 w.1)]; exact cPo_same hz rfl
