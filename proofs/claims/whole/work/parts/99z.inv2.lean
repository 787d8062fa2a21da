-- ==== a LINE keeps what a PLAN's text gives
def lnK (n : Int) (y : pL) : Prop := y.1 = 0 → plI n y.2.2.2.1
theorem lnK_bad {n f : Int} (h : f ≠ 0) : lnK n (lnBad f) := fun w => absurd w h
theorem lnK_of {n : Int} {y : pR} {pl : kP} {T : Nat} (h : y.1 = 0 → plI n pl) : lnK n (lnOf y pl T) := by
  unfold lnOf
  by_cases q : y.1 = 0
  · rw [if_pos q]; exact fun _ => h q
  · rw [if_neg q]; exact lnK_bad q
theorem pX_half {n : Int} {w : Nat} {x : Int × Int} (hw : 4 ≤ w ∧ w ≤ 8) (h7 : w ≠ 7) (h1 : hvOk n (-1) w x.1) (h2 : hvOk n x.1 w x.2) : pX n (w - 2) x := by
  unfold hvOk at h1 h2
  have hc : w = 4 ∨ w = 5 ∨ w = 6 ∨ w = 8 := by omega
  rcases hc with rfl | rfl | rfl | rfl
  · exact ⟨h1, h2⟩
  · exact ⟨h1, h2⟩
  · exact ⟨h1, h2⟩
  · exact ⟨h1, h2⟩
theorem lnTwo_K {n k : Int} {w : Nat} {pl : kP} {T : Nat} {s : List Int} {p : Int} (hp : 0 ≤ p) (h : plI n pl) (hw : 4 ≤ w ∧ w ≤ 8) (hk : hvOk n (-1) w k) (hf : qFind k (pl.1 (w - 2)) 0 < 0) (hr : lnRoom w pl) : lnK n (lnTwo n k w pl T s p) := by
  have hl : w - 2 < 6 → (pl.1 (w - 2)).length < 4 := fun z => by
    unfold lnRoom at hr
    rwa [if_neg (by omega)] at hr
  have sg : ∀ v : Int, sgOk (lnAdd pl (w - 2) (k, v)) := fun v => by
    by_cases e : w = 8
    · subst e
      exact (sg_add h.2.2.2.2.2 hk hf).2
    · exact sg_oth h.2.2.2.2.2 (by omega)
  unfold lnTwo
  by_cases q : w = 7 ∧ hd s = 46
  · rw [if_pos q]
    intro _
    have e : w - 2 = 5 := by omega
    rw [e] at hl sg
    have hk7 : 0 ≤ k ∧ k < n ∧ (0 ≤ (-1 : Int) → k < -1) := by
      have := hk
      unfold hvOk at this
      rw [if_neg (by omega), if_neg (by omega), if_neg (by omega), if_pos q.1] at this
      exact this
    exact plI_add h (by decide) (show (0 ≤ k ∧ k < n) ∧ -1 ≤ (-1 : Int) ∧ (-1 : Int) < k from ⟨⟨hk7.1, hk7.2.1⟩, by decide, by omega⟩) hl (sg (-1))
  · rw [if_neg q]
    by_cases q2 : (lnHalf n k w s p).1 = 0
    · rw [if_pos q2]
      intro _
      have hv := lnHalf_v hp q2
      refine plI_add h (by omega) ?_ hl (sg _)
      by_cases e : w = 7
      · subst e
        have hk7 : 0 ≤ k ∧ k < n ∧ (0 ≤ (-1 : Int) → k < -1) := hk
        have hv7 : 0 ≤ (lnHalf n k 7 s p).2.1 ∧ (lnHalf n k 7 s p).2.1 < n ∧ (0 ≤ k → (lnHalf n k 7 s p).2.1 < k) := hv
        exact ⟨⟨hk7.1, hk7.2.1⟩, by show -1 ≤ (lnHalf n k 7 s p).2.1; omega, hv7.2.2 hk7.1⟩
      · exact pX_half hw e hk hv
    · rw [if_neg q2]; exact lnK_bad q2
theorem lnPair_K {n st : Int} {w : Nat} {pl : kP} {T : Nat} {s : List Int} {p : Int} (hp : 0 ≤ p) (hst : 0 ≤ st) (h : plI n pl) (hw : 4 ≤ w ∧ w ≤ 8) (hr : lnRoom w pl) : lnK n (lnPair n st w pl T s p) := by
  unfold lnPair
  have ha := lnHalf_adv n (-1) w s p
  by_cases q : (lnHalf n (-1) w s p).1 = 0
  · rw [if_neg (show ¬ (lnHalf n (-1) w s p).1 ≠ 0 from fun z => z q)]
    have hv := lnHalf_v hp q
    by_cases q2 : 0 ≤ qFind (lnHalf n (-1) w s p).2.1 (pl.1 (w - 2)) 0
    · rw [if_pos q2]; exact lnK_bad (by omega)
    · rw [if_neg q2]
      by_cases q3 : hd (lnHalf n (-1) w s p).2.2.2 = 62
      · rw [if_neg (show ¬ hd (lnHalf n (-1) w s p).2.2.2 ≠ 62 from fun z => z q3)]
        exact lnTwo_K (by have := ha.1; have := ha.2; omega) h hw hv (Int.not_le.mp q2) hr
      · rw [if_pos (show hd (lnHalf n (-1) w s p).2.2.2 ≠ 62 from q3)]
        exact lnK_bad (by have := ha.1; have := ha.2; omega)
  · rw [if_pos (show (lnHalf n (-1) w s p).1 ≠ 0 from q)]; exact lnK_bad q
theorem gor_skip : ∀ a : Nat, a < 1024 → ∀ j : Nat, j < 10 → 0 ≤ gor (a : Int) (gshl 1 (j : Int)) ∧ gor (a : Int) (gshl 1 (j : Int)) < 1024 := by decide +kernel
theorem lnSetting_K {n : Int} {w : Nat} {pl : kP} {T : Nat} {s : List Int} {p : Int} (hp : 0 ≤ p) (h : plI n pl) : lnK n (lnSetting w pl T s p) := by
  unfold lnSetting
  split
  · exact lnK_of (fun q => plI_set h (by decide) (pDigit_ok hp q))
  split
  · unfold lnTo
    split
    · split
      · exact lnK_bad (by omega)
      · exact lnK_of (fun q => plI_set h (by decide) (pDigit_ok hp q))
    · rename_i q; exact lnK_bad q
  split
  · refine lnK_of (fun q => plI_set h (by decide) ?_)
    have d := pDigit_ok hp q
    have s11 : 0 ≤ pl.2.1 11 ∧ pl.2.1 11 < 1024 := h.2.2.2.1 11
    have := gor_skip (pl.2.1 11).toNat (by omega) (pDigit 0 9 s p).2.1.toNat (by omega)
    rw [show (((pl.2.1 11).toNat : Nat) : Int) = pl.2.1 11 by omega, show (((pDigit 0 9 s p).2.1.toNat : Nat) : Int) = (pDigit 0 9 s p).2.1 by omega] at this
    exact this
  split
  · exact lnK_of (fun q => plI_set h (by decide) (pDigit_ok hp q))
  split
  · exact lnK_of (fun q => plI_set h (by decide) (pDigit_ok hp q))
  split
  · exact lnK_of (fun q => plI_set h (by decide) (pDigit_ok hp q))
  split
  · refine lnK_of (fun q => plI_set h (by decide) ?_)
    have r := pDigits_rng (k := 3) (v := 0) hp (by decide) q
    exact ⟨r.1, by have h3 : (10 ^ 3 : Nat) = 1000 := by decide
                   omega⟩
  · exact lnK_of (fun q => plI_set h (by decide) (pDigit_ok hp q))
theorem lnLine_K {n : Int} {pl : kP} {T : Nat} {s : List Int} {p : Int} (hp : 0 ≤ p) (h : plI n pl) : lnK n (lnLine n pl T s p) := by
  have un : lnLine n pl T s p = if lnFits (pl.2.1 1) (wIx (wT s)) = false then lnBad (-1000 - p)
  else if 2 ≤ wIx (wT s) ∧ wIx (wT s) ≤ 7 ∧ 4 ≤ (pl.1 (wIx (wT s) - 2)).length then lnBad (-4000 - p)
  else if 10 ≤ wIx (wT s) ∧ T.testBit (wIx (wT s) - 10) = true then lnBad (-6000 - p)
  else if hd (wR s) ≠ 58 then lnBad (-1000 - (p + ((wT s).length : Int)))
  else lnBody n p (wIx (wT s)) (lnSet pl 1 (pl.2.1 1 + 1)) (lnT (wIx (wT s)) T) (wR s).tail (p + ((wT s).length : Int) + 1) := rfl
  rw [un]
  split
  · exact lnK_bad (by omega)
  split
  · exact lnK_bad (by omega)
  rename_i q1
  split
  · exact lnK_bad (by omega)
  split
  · exact lnK_bad (by omega)
  have h1 : plI n (lnSet pl 1 (pl.2.1 1 + 1)) := plI_set h (by decide) trivial
  have e1 : (lnSet pl 1 (pl.2.1 1 + 1)).1 = pl.1 := rfl
  generalize lnSet pl 1 (pl.2.1 1 + 1) = pl5 at h1 e1 ⊢
  generalize wIx (wT s) = w at q1 ⊢
  have hq : 0 ≤ p + ((wT s).length : Int) + 1 := by omega
  unfold lnBody
  split
  · rename_i q
    refine lnK_of (fun z => plI_add h1 (by omega) ?_ (fun _ => ?_) (sg_oth h1.2.2.2.2.2 (by omega)))
    · have hw := pPath_W (most := 4) (by decide) hq z
      rcases q with rfl | rfl
      · exact hw
      · exact hw
    · rw [e1]
      exact Nat.lt_of_not_le (fun z => q1 ⟨by omega, by omega, z⟩)
  split
  · rename_i q
    refine lnPair_K hq hp h1 q ?_
    unfold lnRoom
    by_cases e : w = 8
    · rw [if_pos e]; exact h1.2.2.2.2.2
    · rw [if_neg e, e1]
      exact Nat.lt_of_not_le (fun z => q1 ⟨by omega, by omega, z⟩)
  · exact lnSetting_K hq h1
theorem lnGo_I {n : Int} : ∀ (k : Nat) (pl : kP) (T : Nat) (s : List Int) (p : Int), 0 ≤ p → plI n pl → (lnGo n k pl T s p).1 = 0 → plI n (lnGo n k pl T s p).2
  | 0, pl, T, s, p, hp, h, h0 => absurd h0 (show ¬ (-1 : Int) = 0 by decide)
  | k + 1, pl, T, s, p, hp, h, h0 => by
    have hK := lnLine_K (T := T) (s := s) hp h
    unfold lnGo at h0 ⊢
    by_cases q : (lnLine n pl T s p).1 = 0
    · have hG := (lnLine_G hp q).1
      rw [if_neg (show ¬ (lnLine n pl T s p).1 ≠ 0 from fun z => z q)] at h0 ⊢
      split at h0
      · rename_i q2; rw [if_pos q2]; exact hK q
      · rename_i q2
        rw [if_neg q2]
        split at h0
        · have : -1000 - (lnLine n pl T s p).2.1 = 0 := h0
          omega
        · rename_i q3
          rw [if_neg q3]
          exact lnGo_I k _ _ _ _ (by omega) (hK q) h0
    · rw [if_pos (show (lnLine n pl T s p).1 ≠ 0 from q)] at h0
      exact absurd h0 q
theorem aText_I {n : Int} {s : List Int} (h : (aText n s).1 = 0) : plI n (aText n s).2 := lnGo_I _ _ _ _ _ (by decide) (plI_b0 n) h
