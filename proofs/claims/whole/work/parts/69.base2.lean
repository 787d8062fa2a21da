-- ==== base: the class
theorem any_suc {f : Nat → Bool} (k : Nat) : (List.range (k + 1)).any f = ((List.range k).any f || f k) := by
  rw [List.range_succ, List.any_append, List.any_cons, List.any_nil, Bool.or_false]
theorem mNth_congr {f g : Nat → Bool} : ∀ (m k : Nat) (n : Int), (∀ q, q < k + m → f q = g q) → mNth f m k n = mNth g m k n
  | 0, _, _, _ => rfl
  | m + 1, k, n, h => by
    rw [mNth, mNth, h k (by omega), mNth_congr m (k + 1) (n - 1) (fun q hq => h q (by omega)), mNth_congr m (k + 1) n (fun q hq => h q (by omega))]
theorem sp_X11_markBases {sh : gS} {M : gM} {z : aS} {i j : Nat} {ci cj : kC} (hz : cS sh M z) (hO : kOk (aCs z)) (hki : (aCs z)[i]? = some ci) (hkj : (aCs z)[j]? = some cj) : gC (gr 2 46) yX11_markBases cX11_markBases 4 none [(4, 0), (0, (i : Int)), (0, (j : Int))] sh M (gPm sh (fun r M1 => r = none ∧ mIs M1 470 0 (bsB (aCs z) i j) ∧ gOK sh M1 ∧ ∀ b : Int, b ≠ 471 → b ≠ 472 → M1 b = M b)) := by
  obtain ⟨hOK, hC, -⟩ := id hz
  have hl9 := hC.2.1
  have hli := (List.getElem?_eq_some_iff.mp hki).1
  refine w_X11_markBases hOK ⟨_, sp_X1_markWithAncestors hOK hC hki (mSh470 hOK) (by decide) (by decide), fun r1 M1 hP1 => ?_⟩
  obtain ⟨rfl, a1, a2, a3, a4⟩ := hP1
  have hz1 : cS sh M1 z := cS_keep hz a2 (fun b hb => a3 b (by omega) (by omega))
  refine ⟨rfl, a2, _, sp_X1_markWithAncestors a2 hz1.2.1 hkj (mSh470 a2) (by decide) (by decide), fun r2 M2 hP2 => ?_⟩
  obtain ⟨rfl, b1, b2, b3, b4⟩ := hP2
  refine ⟨rfl, b2, _, sp_X3_onlyIn b2 (mSh470 b2) (by decide) (mSh470 b2) (by decide) (Or.inl rfl), fun r3 M3 hP3 => ?_⟩
  obtain ⟨rfl, c1, c2, c3, c4⟩ := hP3
  refine ⟨rfl, c2, _, sp_X3_clear c2 (mSh470 c2) (by decide), fun r4 M4 hP4 => ?_⟩
  obtain ⟨rfl, d1, d2, d3, d4⟩ := hP4
  refine ⟨rfl, d2, ?_⟩
  have f4 : ∀ b : Int, b ≠ 471 → b ≠ 472 → M4 b = M b := fun b h1 h2 => by
    rw [d3 b (by omega) (by omega), c3 b (by omega) (by omega), b3 b (by omega) (by omega), a3 b (by omega) (by omega)]
  have sX : mIs M4 470 0 (bsC (aCs z) i j) := fun q hq => by
    rw [mB_row (d4 0 (by decide)), c1 q hq]
    show (mB M2 470 0 q && mB M2 470 1 q) = _
    rw [mB_row (b4 0 (by decide)), a1 q hq, b1 q hq]; rfl
  have lp : ∀ (m k : Nat) (M5 : gM), k + m = (aCs z).length → gOK sh M5 → (∀ b : Int, b ≠ 471 → b ≠ 472 → M5 b = M b) → mIs M5 470 0 (bsC (aCs z) i j) → mIs M5 470 1 (fun q => (List.range k).any (fun m => bsC (aCs z) i j m && kAnc (aCs z) m q)) → P_X11_markBases_49 sh (gPm sh (fun r M1 => r = none ∧ mIs M1 470 0 (bsB (aCs z) i j) ∧ gOK sh M1 ∧ ∀ b : Int, b ≠ 471 → b ≠ 472 → M1 b = M b)) (i : Int) (j : Int) (k : Int) M5 := by
    intro m
    induction m with
    | zero =>
      intro k M5 hk hO5 hf s0 s1
      refine w_X11_markBases_49 hO5 ?_
      rw [hf 4 (by decide) (by decide), hC.1, if_neg (by omega)]
      refine ⟨_, sp_X3_cutAll hO5 (mSh470 hO5) (by decide) (mSh470 hO5) (by decide) (Or.inl rfl), fun r6 M6 hP6 => ?_⟩
      obtain ⟨rfl, e1, e2, e3, e4⟩ := hP6
      refine ⟨rfl, e2, rfl, rfl, fun q hq => ?_, e2, fun b h1 h2 => by rw [e3 b (by omega) (by omega)]; exact hf b h1 h2⟩
      rw [e1 q hq]
      show (mB M5 470 0 q && !mB M5 470 1 q) = bsB (aCs z) i j q
      rw [s0 q hq, s1 q hq, show k = (aCs z).length by omega]; rfl
    | succ m ih =>
      intro k M5 hk hO5 hf s0 s1
      have hkl : k < (aCs z).length := by omega
      have hz5 : cS sh M5 z := cS_keep hz hO5 (fun b hb => hf b (by omega) (by omega))
      refine w_X11_markBases_49 hO5 ?_
      rw [hf 4 (by decide) (by decide), hC.1, if_pos (by omega)]
      refine ⟨_, sp_X3_has hO5 (mSh470 hO5) (by decide), ?_⟩
      rw [mHas_of s0 k (by omega), gw32_id (by omega) (by omega)]
      cases hb : bsC (aCs z) i j k with
      | false =>
        rw [if_pos bIf]
        refine ih (k + 1) M5 (by omega) hO5 hf s0 (fun q hq => ?_)
        rw [s1 q hq]
        show _ = (List.range (k + 1)).any _
        rw [any_suc, hb]; simp
      | true =>
        rw [if_neg bIt]
        refine ⟨_, sp_X3_putAll hO5 (mSh470 hO5) (by decide) (mSh14 hO5) (by omega) (by decide), fun r6 M6 hP6 => ?_⟩
        obtain ⟨rfl, e1, e2, e3, e4⟩ := hP6
        refine ⟨rfl, e2, ?_⟩
        refine ih (k + 1) M6 (by omega) e2 (fun b h1 h2 => by rw [e3 b (by omega) (by omega)]; exact hf b h1 h2) (fun q hq => by rw [mB_row (e4 0 (by decide))]; exact s0 q hq) (fun q hq => ?_)
        have hk5 := List.getElem?_eq_getElem hkl
        have ha := (hz5.2.1.2.2.2 k _ hk5).2.2.2.2.2 q hq
        rw [e1 q hq]
        show (mB M5 470 1 q || mB M5 14 (k : Int) q) = (List.range (k + 1)).any _
        rw [any_suc, hb, ha, s1 q hq]; simp
  exact lp (aCs z).length 0 M4 (by omega) d2 f4 sX (fun q hq => by rw [d1 q hq]; rfl)
theorem sp_X11_base {sh : gS} {M : gM} {z : aS} {i j w : Int} (hz : cS sh M z) (hO : kOk (aCs z)) : gC (gr 3 69) yX11_base cX11_base 6 (some (.int)) [(4, 0), (0, i), (0, j), (0, w)] sh M (cPo sh M 0 (aBase (aCs z) i j w) z) := by
  obtain ⟨hOK, hC, -⟩ := id hz
  have hl9 := hC.2.1
  unfold aBase
  have go : ∀ s0 : Int, (s0 = 0 ∨ (s0 = 1 ∧ 10 ≤ w ∧ w ≤ 129)) → (s0 = 0 → ¬ (10 ≤ w ∧ w ≤ 129)) → P_X11_base_18 sh (cPo sh M 0 (if bC (aCs z) i = true ∧ bC (aCs z) j = true ∧ (w = 0 ∨ (10 ≤ w ∧ w ≤ 129)) then bsV (aCs z) (bsB (aCs z) i.toNat j.toNat) w else -1) z) i j w s0 M := fun s0 h1 h2 => by
    refine w_X11_base_18 hOK ⟨_, sp_X1_has hOK hC, ?_⟩
    rw [hasI]
    by_cases q1 : bC (aCs z) i = true
    · rw [if_neg (bI_ne q1)]
      refine ⟨_, sp_X1_has hOK hC, ?_⟩
      rw [hasI]
      by_cases q2 : bC (aCs z) j = true
      · rw [if_neg (bI_ne q2)]
        have run : (w = 0 ∨ (10 ≤ w ∧ w ≤ 129)) → P_X11_base_53 sh (cPo sh M 0 (if bC (aCs z) i = true ∧ bC (aCs z) j = true ∧ (w = 0 ∨ (10 ≤ w ∧ w ≤ 129)) then bsV (aCs z) (bsB (aCs z) i.toNat j.toNat) w else -1) z) i j w s0 M := fun hw => by
          rw [if_pos (show bC (aCs z) i = true ∧ bC (aCs z) j = true ∧ (w = 0 ∨ (10 ≤ w ∧ w ≤ 129)) from ⟨q1, q2, hw⟩)]
          obtain ⟨ni, ci, rfl, hki, hli⟩ := bC_at q1
          obtain ⟨nj, cj, rfl, hkj, hlj⟩ := bC_at q2
          rw [Int.toNat_natCast, Int.toNat_natCast]
          refine w_X11_base_53 hOK ⟨_, sp_X11_markBases hz hO hki hkj, fun r1 M1 hP1 => ?_⟩
          obtain ⟨rfl, s1, p2, p3⟩ := hP1
          have don : ∀ v w : Int, v = w → cPo sh M 0 w z (some (0, v)) sh M1 := fun v w e => ⟨rfl, by rw [e], cS_keep hz p2 (fun b hb => p3 b (by omega) (by omega)), fun b hb => p3 b (by omega) (by omega)⟩
          have tB : ∀ q, (aCs z).length ≤ q → bsB (aCs z) ni nj q = false := fun q hq => bsB_top hO (by omega) hq
          refine ⟨rfl, p2, ?_⟩
          unfold bsV
          generalize bsB (aCs z) ni nj = B at s1 tB
          by_cases w0 : w = 0
          · rw [if_pos w0, if_pos w0]
            refine ⟨_, sp_X3_size p2 (mSh470 p2) (by decide), don _ _ ?_⟩
            rw [cnt_congr 128 (fun q hq => s1 q hq)]; exact cnt_cut (by omega) tB
          · rw [if_neg w0, if_neg w0]
            refine ⟨_, sp_X3_nth p2 (mSh470 p2) (by decide) (by rw [gw32_id (by omega) (by omega)]; omega), ?_⟩
            rw [gw32_id (by omega) (by omega), mNth_congr 120 0 (w - 10) (fun q hq => s1 q (by omega))]
            by_cases v : mNth B 120 0 (w - 10) < 0
            · rw [if_pos v, if_pos v]; exact don _ _ rfl
            · rw [if_neg v, if_neg v]; exact don _ _ rfl
        by_cases w0 : w = 0
        · rw [if_pos w0]; exact run (Or.inl w0)
        · rw [if_neg w0]
          by_cases e : s0 = 0
          · rw [if_pos e, if_neg (fun y => by have := h2 e; omega)]; exact cPo_same hz rfl
          · rw [if_neg e]; exact run (by omega)
      · rw [if_pos (bI_eq (by simpa using q2)), if_neg (fun w => q2 w.2.1)]; exact cPo_same hz rfl
    · rw [if_pos (bI_eq (by simpa using q1)), if_neg (fun w => q1 w.1)]; exact cPo_same hz rfl
  refine w_X11_base hOK ?_
  by_cases y1 : w < 10
  · rw [if_pos y1]; exact go 0 (Or.inl rfl) (fun _ => by omega)
  · rw [if_neg y1]
    by_cases y2 : w < 130
    · rw [if_pos y2]; exact go 1 (Or.inr ⟨rfl, by omega, by omega⟩) (fun e => by omega)
    · rw [if_neg y2]; exact go 0 (Or.inl rfl) (fun _ => by omega)
