-- ==== what a LINE leaves
def adv (y : pR) (s : List Int) (p : Int) : Prop := y.2.2.1 + (y.2.2.2.length : Int) = p + (s.length : Int) ∧ y.2.2.2.length ≤ s.length
theorem adv_id (f v p : Int) (s : List Int) : adv (f, v, p, s) s p := ⟨rfl, Nat.le_refl _⟩
theorem adv_1 {f v p c : Int} {r : List Int} : adv (f, v, p + 1, r) (c :: r) p := ⟨by show p + 1 + (r.length : Int) = p + ((r.length + 1 : Nat) : Int); omega, by show r.length ≤ r.length + 1; omega⟩
theorem adv_c {y : pR} {p c : Int} {r : List Int} (h : adv y r (p + 1)) : adv y (c :: r) p := by
  obtain ⟨a, b⟩ := h
  exact ⟨by rw [a, List.length_cons]; omega, by rw [List.length_cons]; omega⟩
theorem pDigGo_adv : ∀ (k : Nat) (v : Int) (s : List Int) (p : Int), adv (pDigGo k v s p) s p
  | 0, v, [], p => adv_id _ _ _ _
  | _ + 1, v, [], p => adv_id _ _ _ _
  | 0, v, c :: s, p => by unfold pDigGo; split <;> exact adv_id _ _ _ _
  | k + 1, v, c :: s, p => by
    unfold pDigGo
    split
    · exact adv_c (pDigGo_adv k _ s (p + 1))
    · exact adv_id _ _ _ _
theorem pDigits_adv (k : Nat) (v : Int) (s : List Int) (p : Int) : adv (pDigits k v s p) s p := by
  unfold pDigits
  split
  · exact pDigGo_adv k v s p
  · exact adv_id _ _ _ _
theorem pDigit_adv (lo hi : Int) (s : List Int) (p : Int) : adv (pDigit lo hi s p) s p := by
  rcases pDigit_cases (lo := lo) (hi := hi) (p := p) (s := s) with ⟨c, r, rfl, c0, c1, c2, c3, ep⟩ | ⟨c0, c1, c2, ep⟩ | ⟨c0, ep⟩
  · rw [ep]; exact adv_1
  · rw [ep]; exact adv_id _ _ _ _
  · rw [ep]; exact adv_id _ _ _ _
theorem pWordGo_adv : ∀ (k : Nat) (v : Int) (s : List Int) (p : Int), adv (pWordGo k v s p) s p
  | 0, v, [], p => adv_id _ _ _ _
  | _ + 1, v, [], p => adv_id _ _ _ _
  | 0, v, c :: s, p => by unfold pWordGo; split <;> exact adv_id _ _ _ _
  | k + 1, v, c :: s, p => by
    unfold pWordGo
    split
    · exact adv_c (pWordGo_adv k _ s (p + 1))
    · exact adv_id _ _ _ _
theorem pWord_adv (s : List Int) (p : Int) : adv (pWord s p) s p := by
  unfold pWord
  split
  · exact pWordGo_adv 4 0 s p
  · exact adv_id _ _ _ _
theorem pPathGo_adv : ∀ (k : Nat) (w v : Int) (s : List Int) (p : Int), adv (pPathGo k w v s p) s p
  | 0, w, v, [], p => adv_id _ _ _ _
  | _ + 1, w, v, [], p => adv_id _ _ _ _
  | 0, w, v, c :: s, p => by unfold pPathGo; split <;> exact adv_id _ _ _ _
  | k + 1, w, v, c :: r, p => by
    unfold pPathGo
    split
    · split
      · rename_i q1 q2
        cases r with
        | nil => exact absurd q2 (by decide)
        | cons d r2 =>
          have := pPathGo_adv k (w / 32) (v + (c - 96) * w) r2 (p + 2)
          exact adv_c (adv_c (by rw [show p + 1 + 1 = p + 2 by omega]; exact this))
      · exact adv_1
    · exact adv_id _ _ _ _
theorem pPath_adv (k : Nat) (s : List Int) (p : Int) : adv (pPath k s p) s p := pPathGo_adv k _ _ s p
theorem lnHalf_adv (n than : Int) (w : Nat) (s : List Int) (p : Int) : adv (lnHalf n than w s p) s p := by
  unfold lnHalf
  split
  · unfold lnCom
    have := pDigits_adv 3 0 s p
    split
    · split
      · exact this
      · split
        · exact this
        · exact this
    · exact this
  · unfold lnSide
    split
    · split
      · rename_i q
        cases s with
        | nil => exact absurd q (by decide)
        | cons c r => exact adv_1
      · exact pPath_adv 4 s p
    · split
      · exact pDigits_adv 6 1 s p
      · split
        · exact pWord_adv s p
        · exact pDigit_adv 0 9 s p
/-- what a piece of a LINE leaves -/
def lnG (y : pL) (pl : kP) (T : Nat) (s : List Int) (p : Int) : Prop := y.1 = 0 → (y.2.1 + (y.2.2.1.length : Int) = p + (s.length : Int) ∧ y.2.2.1.length ≤ s.length) ∧ y.2.2.2.1.2.1 1 = pl.2.1 1 ∧ y.2.2.2.2 = T ∧ (sgOk pl → sgOk y.2.2.2.1)
theorem lnG_bad {f p : Int} {pl : kP} {T : Nat} {s : List Int} (h : f ≠ 0) : lnG (lnBad f) pl T s p := fun w => absurd w h
theorem lnG_of {y : pR} {pl pl2 : kP} {T : Nat} {s : List Int} {p : Int} (h : adv y s p) (h1 : pl2.2.1 1 = pl.2.1 1) (h2 : sgOk pl → sgOk pl2) : lnG (lnOf y pl2 T) pl T s p := by
  unfold lnOf
  by_cases q : y.1 = 0
  · rw [if_pos q]; exact fun _ => ⟨h, h1, rfl, h2⟩
  · rw [if_neg q]; exact lnG_bad q
theorem sg_set {pl : kP} {f : Nat} {v : Int} (h : sgOk pl) : sgOk (lnSet pl f v) := h
theorem sg_oth {pl : kP} {i : Nat} {x : Int × Int} (h : sgOk pl) (hi : i ≠ 6) : sgOk (lnAdd pl i x) := by
  unfold sgOk
  rw [show (lnAdd pl i x).1 6 = pl.1 6 from if_neg (fun w => hi w.symm)]
  exact h
theorem lnTwo_G {n k : Int} {w : Nat} {pl : kP} {T : Nat} {s : List Int} {p : Int} (hw : 4 ≤ w ∧ w ≤ 8) (hs : w = 8 → sgOk pl → 0 ≤ k ∧ k ≤ 9 ∧ qFind k (pl.1 6) 0 < 0) : lnG (lnTwo n k w pl T s p) pl T s p := by
  unfold lnTwo
  split
  · rename_i q
    cases s with
    | nil => exact absurd q.2 (by decide)
    | cons c r => exact fun _ => ⟨(adv_1 (f := 0) (v := 0)), rfl, rfl, fun h => sg_oth h (by decide)⟩
  · split
    · refine fun _ => ⟨lnHalf_adv n k w s p, rfl, rfl, fun h => ?_⟩
      by_cases e : w = 8
      · obtain ⟨a, b, c⟩ := hs e h
        subst e
        exact (sg_add h ⟨a, b⟩ c).2
      · exact sg_oth h (by omega)
    · rename_i q
      exact lnG_bad q
theorem lnPair_G {n st : Int} {w : Nat} {pl : kP} {T : Nat} {s : List Int} {p : Int} (hw : 4 ≤ w ∧ w ≤ 8) (hp : 0 ≤ p) (hst : 0 ≤ st) : lnG (lnPair n st w pl T s p) pl T s p := by
  unfold lnPair
  have ha := lnHalf_adv n (-1) w s p
  split
  · rename_i q; exact lnG_bad q
  · rename_i q
    have q' : (lnHalf n (-1) w s p).1 = 0 := Classical.byContradiction q
    split
    · exact lnG_bad (by omega)
    · rename_i q2
      split
      · exact lnG_bad (by have := ha.1; have := ha.2; omega)
      · rename_i q3
        have q3' : hd (lnHalf n (-1) w s p).2.2.2 = 62 := Classical.byContradiction q3
        have g := lnTwo_G (n := n) (k := (lnHalf n (-1) w s p).2.1) (w := w) (pl := pl) (T := T) (s := (lnHalf n (-1) w s p).2.2.2.tail) (p := (lnHalf n (-1) w s p).2.2.1 + 1) hw (fun e _ => by
          subst e
          have hd : lnHalf n (-1) 8 s p = pDigit 0 9 s p := rfl
          rw [hd] at q2 q' ⊢
          rcases pDigit_v (lo := 0) (hi := 9) (s := s) (p := p) (by decide) with ⟨a, b, c⟩ | ⟨a, b⟩
          · exact ⟨b, c, Int.not_le.mp q2⟩
          · exact absurd q' (a hp))
        intro h0
        obtain ⟨⟨a, b⟩, c, d, e⟩ := g h0
        generalize hy : lnHalf n (-1) w s p = y at *
        cases h5 : y.2.2.2 with
        | nil => rw [h5] at q3'; exact absurd q3' (by decide)
        | cons x r =>
          rw [h5] at a b c d e
          have l1 := ha.1
          have l2 := ha.2
          rw [h5] at l1 l2
          rw [List.length_cons] at l1 l2
          rw [List.tail_cons] at a b c d e ⊢
          exact ⟨⟨by omega, by omega⟩, c, d, e⟩
theorem lnSetting_G {w : Nat} {pl : kP} {T : Nat} {s : List Int} {p : Int} (hp : 0 ≤ p) : lnG (lnSetting w pl T s p) pl T s p := by
  unfold lnSetting
  split
  · exact lnG_of (pDigit_adv _ _ _ _) rfl sg_set
  split
  · unfold lnTo
    split
    · split
      · exact lnG_bad (by omega)
      · exact lnG_of (pDigit_adv _ _ _ _) rfl sg_set
    · rename_i q; exact lnG_bad q
  split
  · exact lnG_of (pDigit_adv _ _ _ _) rfl sg_set
  split
  · exact lnG_of (pDigit_adv _ _ _ _) rfl sg_set
  split
  · exact lnG_of (pDigit_adv _ _ _ _) rfl sg_set
  split
  · exact lnG_of (pDigit_adv _ _ _ _) rfl sg_set
  split
  · exact lnG_of (pDigits_adv _ _ _ _) rfl sg_set
  · exact lnG_of (pDigit_adv _ _ _ _) rfl sg_set
theorem lnBody_G {n st : Int} {i : Nat} {pl : kP} {T : Nat} {s : List Int} {p : Int} (hp : 0 ≤ p) (hst : 0 ≤ st) : lnG (lnBody n st i pl T s p) pl T s p := by
  unfold lnBody
  split
  · exact lnG_of (pPath_adv _ _ _) rfl (fun h => sg_oth h (by omega))
  split
  · rename_i q; exact lnPair_G q hp hst
  · exact lnSetting_G hp
/-- what a LINE leaves -/
theorem lnLine_G {n : Int} {pl : kP} {T : Nat} {s : List Int} {p : Int} (hp : 0 ≤ p) (h0 : (lnLine n pl T s p).1 = 0) : ((lnLine n pl T s p).2.1 + ((lnLine n pl T s p).2.2.1.length : Int) = p + (s.length : Int) ∧ (lnLine n pl T s p).2.2.1.length + 1 ≤ s.length) ∧ (lnLine n pl T s p).2.2.2.1.2.1 1 = pl.2.1 1 + 1 ∧ (T < 32 → (lnLine n pl T s p).2.2.2.2 < 32) ∧ (sgOk pl → sgOk (lnLine n pl T s p).2.2.2.1) ∧ lnFits (pl.2.1 1) (wIx (wT s)) = true := by
  have un : lnLine n pl T s p = if lnFits (pl.2.1 1) (wIx (wT s)) = false then lnBad (-1000 - p)
  else if 2 ≤ wIx (wT s) ∧ wIx (wT s) ≤ 7 ∧ 4 ≤ (pl.1 (wIx (wT s) - 2)).length then lnBad (-4000 - p)
  else if 10 ≤ wIx (wT s) ∧ T.testBit (wIx (wT s) - 10) = true then lnBad (-6000 - p)
  else if hd (wR s) ≠ 58 then lnBad (-1000 - (p + ((wT s).length : Int)))
  else lnBody n p (wIx (wT s)) (lnSet pl 1 (pl.2.1 1 + 1)) (lnT (wIx (wT s)) T) (wR s).tail (p + ((wT s).length : Int) + 1) := rfl
  rw [un] at h0 ⊢
  cases hf : lnFits (pl.2.1 1) (wIx (wT s)) with
  | false =>
    rw [hf, if_pos rfl] at h0
    have h0' : -1000 - p = 0 := h0
    omega
  | true =>
    have hw15 : wIx (wT s) < 15 := by
      unfold lnFits at hf
      split at hf
      · have := of_decide_eq_true hf; omega
      · have := of_decide_eq_true hf; omega
    rw [hf, if_neg (by decide)] at h0
    rw [if_neg (by decide)]
    split at h0
    · have h0' : -4000 - p = 0 := h0
      omega
    rename_i q1
    split at h0
    · have h0' : -6000 - p = 0 := h0
      omega
    rename_i q2
    split at h0
    · have h0' : -1000 - (p + ((wT s).length : Int)) = 0 := h0
      omega
    rename_i q3
    rw [if_neg q1, if_neg q2, if_neg q3]
    have q3' : hd (wR s) = 58 := Classical.byContradiction q3
    obtain ⟨⟨a, b⟩, c, d, e⟩ := lnBody_G (by omega) hp h0
    have hap := congrArg List.length (wT_app s)
    rw [List.length_append] at hap
    cases h5 : wR s with
    | nil => rw [h5] at q3'; exact absurd q3' (by decide)
    | cons x r =>
      rw [h5] at a b c d e hap
      rw [List.length_cons] at hap
      rw [List.tail_cons] at a b c d e ⊢
      exact ⟨⟨by omega, by omega⟩, c, fun hT => by rw [d]; exact lnT_lt hT hw15, fun hs => e (sg_set hs), rfl⟩
