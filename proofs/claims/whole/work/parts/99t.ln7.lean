-- ==== PlanText.read
theorem sp_X9_isAtEnd2 {sh : gS} {M : gM} (hOK : gOK sh M) : gC (gr 0 0) yX9_isAtEnd cX9_isAtEnd 1 (some (.boolean)) [(4, 1)] sh M (gPp sh M (0, if M 1 2 < M 1 3 then 0 else 1)) := by
  refine gC_ofA (lv := [_]) (by decide +kernel) (Nat.le_of_ble_eq_true rfl) rfl (fun hMw hav => ?_)
  refine g_aload_n (q0 := 1) (j := 0) rfl dX9_isAtEnd_0 rfl ?_
  refine g_getf (q0 := 4) (t := 0) (fi := 2) rfl rfl ff_X9_19 dX9_isAtEnd_1 rfl (sh_1 hOK) ?_
  refine g_aload_n (q0 := 5) (j := 0) rfl dX9_isAtEnd_4 rfl ?_
  refine g_getf (q0 := 8) (t := 0) (fi := 3) rfl rfl ff_X9_28 dX9_isAtEnd_5 rfl (sh_1 hOK) ?_
  refine g_icmp_lt (q0 := 11) (tgt := 15) rfl dX9_isAtEnd_8 (by decide) (fun h8 => ?_) (fun h8 => ?_)
  · refine g_iconst (q0 := 16) rfl dX9_isAtEnd_15 (k := ?_)
    refine g_zreturn dX9_isAtEnd_16 rfl (by first | rfl | exact gnz (by omega)) ⟨Nat.zero_le _, Nat.zero_le _⟩ ?_
    exact ⟨by rw [if_pos h8], rfl, rfl⟩
  · refine g_iconst (q0 := 12) rfl dX9_isAtEnd_11 (k := ?_)
    refine g_goto (tgt := 16) dX9_isAtEnd_12 (by decide) ?_
    refine g_zreturn dX9_isAtEnd_16 rfl (by first | rfl | exact gnz (by omega)) ⟨Nat.zero_le _, Nat.zero_le _⟩ ?_
    exact ⟨by rw [if_neg (by omega)], rfl, rfl⟩
/-- the texts before FROM and TO are told matter to nobody -/
def eqv (L : Int) (a b : kP) : Prop := a.1 = b.1 ∧ a.2.2 = b.2.2 ∧ (∀ f : Nat, (f = 2 → 1 ≤ L) → (f = 3 → 2 ≤ L) → a.2.1 f = b.2.1 f)
theorem eqv_all {a b : kP} (h : eqv 2 a b) : a = b := by
  obtain ⟨h1, h2, h3⟩ := h
  obtain ⟨a1, a2, a3⟩ := a
  obtain ⟨b1, b2, b3⟩ := b
  have h1' : a1 = b1 := h1
  have h2' : a3 = b3 := h2
  have h3' : a2 = b2 := funext (fun f => h3 f (fun _ => by decide) (fun _ => by decide))
  rw [h1', h2', h3']
theorem lnLine_0 {n : Int} {pl : kP} {T : Nat} {s : List Int} {p : Int} (h : pl.2.1 1 = 0) : lnLine n pl T s p = if wIx (wT s) ≠ 0 then lnBad (-1000 - p) else if hd (wR s) ≠ 58 then lnBad (-1000 - (p + ((wT s).length : Int))) else lnOf (pDigit 0 3 (wR s).tail (p + ((wT s).length : Int) + 1)) (lnSet (lnSet pl 1 1) 2 (pDigit 0 3 (wR s).tail (p + ((wT s).length : Int) + 1)).2.1) T := by
  unfold lnLine
  rw [h, show lnFits 0 (wIx (wT s)) = decide ((wIx (wT s) : Int) = 0) from if_pos (by decide)]
  by_cases e : wIx (wT s) = 0
  · rw [e, if_neg (show ¬ decide (((0 : Nat) : Int) = 0) = false by decide), if_neg (show ¬ (2 ≤ 0 ∧ (0 : Nat) ≤ 7 ∧ 4 ≤ (pl.1 (0 - 2)).length) from fun z => by have := z.1; omega), if_neg (show ¬ (10 ≤ 0 ∧ T.testBit (0 - 10) = true) from fun z => by have := z.1; omega), if_neg (show ¬ (0 : Nat) ≠ 0 by decide)]
    split
    · rfl
    · rfl
  · rw [if_pos (show decide ((wIx (wT s) : Int) = 0) = false from decide_eq_false (by omega)), if_pos (show wIx (wT s) ≠ 0 from e)]
theorem lnLine_1 {n : Int} {pl : kP} {T : Nat} {s : List Int} {p : Int} (h : pl.2.1 1 = 1) : lnLine n pl T s p = if wIx (wT s) ≠ 1 then lnBad (-1000 - p) else if hd (wR s) ≠ 58 then lnBad (-1000 - (p + ((wT s).length : Int))) else lnTo (lnSet pl 1 2) T (wR s).tail (p + ((wT s).length : Int) + 1) := by
  unfold lnLine
  rw [h, show lnFits 1 (wIx (wT s)) = decide ((wIx (wT s) : Int) = 1) from if_pos (by decide)]
  by_cases e : wIx (wT s) = 1
  · rw [e, if_neg (show ¬ decide (((1 : Nat) : Int) = 1) = false by decide), if_neg (show ¬ (2 ≤ 1 ∧ (1 : Nat) ≤ 7 ∧ 4 ≤ (pl.1 (1 - 2)).length) from fun z => by have := z.1; omega), if_neg (show ¬ (10 ≤ 1 ∧ T.testBit (1 - 10) = true) from fun z => by have := z.1; omega), if_neg (show ¬ (1 : Nat) ≠ 1 by decide)]
    split
    · rfl
    · rfl
  · rw [if_pos (show decide ((wIx (wT s) : Int) = 1) = false from decide_eq_false (by omega)), if_pos (show wIx (wT s) ≠ 1 from e)]
/-- two LINES' ends are alike -/
def eqL (L : Int) (y z : pL) : Prop := y.1 = z.1 ∧ (y.1 = 0 → y.2.1 = z.2.1 ∧ y.2.2.1 = z.2.2.1 ∧ y.2.2.2.2 = z.2.2.2.2 ∧ eqv L y.2.2.2.1 z.2.2.2.1 ∧ y.2.2.2.1.2.1 1 = L ∧ z.2.2.2.1.2.1 1 = L)
theorem eqL_bad {L f : Int} (h : f ≠ 0) : eqL L (lnBad f) (lnBad f) := ⟨rfl, fun w => absurd w h⟩
theorem eqL_0 {n : Int} {a b : kP} {T : Nat} {s : List Int} {p : Int} (hp : 0 ≤ p) (h : eqv 0 a b) (h1 : a.2.1 1 = 0) (h2 : b.2.1 1 = 0) : eqL 1 (lnLine n a T s p) (lnLine n b T s p) := by
  rw [lnLine_0 h1, lnLine_0 h2]
  split
  · exact eqL_bad (by omega)
  split
  · exact eqL_bad (by omega)
  · generalize pDigit 0 3 (wR s).tail (p + ((wT s).length : Int) + 1) = y
    unfold lnOf
    split
    · refine ⟨rfl, fun _ => ⟨rfl, rfl, rfl, ⟨h.1, h.2.1, fun f hf hf2 => ?_⟩, rfl, rfl⟩⟩
      show (if f = 2 then y.2.1 else if f = 1 then 1 else a.2.1 f) = (if f = 2 then y.2.1 else if f = 1 then 1 else b.2.1 f)
      by_cases e : f = 2
      · rw [if_pos e, if_pos e]
      · rw [if_neg e, if_neg e, h.2.2 f (fun w => absurd w e) (fun w => by have := hf2 w; omega)]
    · rename_i q; exact eqL_bad q
theorem eqL_1 {n : Int} {a b : kP} {T : Nat} {s : List Int} {p : Int} (hp : 0 ≤ p) (h : eqv 1 a b) (h1 : a.2.1 1 = 1) (h2 : b.2.1 1 = 1) : eqL 2 (lnLine n a T s p) (lnLine n b T s p) := by
  rw [lnLine_1 h1, lnLine_1 h2]
  split
  · exact eqL_bad (by omega)
  split
  · exact eqL_bad (by omega)
  · unfold lnTo
    have e2 : (lnSet a 1 2).2.1 2 = (lnSet b 1 2).2.1 2 := h.2.2 2 (fun _ => by decide) (fun w => by omega)
    rw [e2]
    generalize pDigit 0 3 (wR s).tail (p + ((wT s).length : Int) + 1) = y
    by_cases q : y.1 = 0
    · rw [if_pos q, if_pos q]
      by_cases q2 : y.2.1 = (lnSet b 1 2).2.1 2
      · rw [if_pos q2, if_pos q2]; exact eqL_bad (by omega)
      · rw [if_neg q2, if_neg q2]
        unfold lnOf
        rw [if_pos q, if_pos q]
        refine ⟨rfl, fun _ => ⟨rfl, rfl, rfl, ⟨h.1, h.2.1, fun f hf hf2 => ?_⟩, rfl, rfl⟩⟩
        show (if f = 3 then y.2.1 else if f = 1 then 2 else a.2.1 f) = (if f = 3 then y.2.1 else if f = 1 then 2 else b.2.1 f)
        by_cases e : f = 3
        · rw [if_pos e, if_pos e]
        · rw [if_neg e, if_neg e, h.2.2 f (fun w => by decide) (fun w => absurd w e)]
    · rw [if_neg q, if_neg q]; exact eqL_bad q
theorem lnGo_b0 (n f t : Int) (k : Nat) (s : List Int) : (lnGo n k (plB0 f t) 0 s 0).1 = (lnGo n k (plB0 0 0) 0 s 0).1 ∧ ((lnGo n k (plB0 0 0) 0 s 0).1 = 0 → (lnGo n k (plB0 f t) 0 s 0).2 = (lnGo n k (plB0 0 0) 0 s 0).2) := by
  have go1 : ∀ (k : Nat) (a b : kP) (T : Nat) (s : List Int) (p : Int), 0 ≤ p → eqv 1 a b → a.2.1 1 = 1 → b.2.1 1 = 1 → (lnGo n k a T s p).1 = (lnGo n k b T s p).1 ∧ ((lnGo n k b T s p).1 = 0 → (lnGo n k a T s p).2 = (lnGo n k b T s p).2) := by
    intro k a b T s p hp h h1 h2
    cases k with
    | zero => exact ⟨rfl, fun w => absurd w (show ¬ (-1 : Int) = 0 by decide)⟩
    | succ k =>
      unfold lnGo
      obtain ⟨e1, e2⟩ := eqL_1 (n := n) (T := T) (s := s) hp h h1 h2
      by_cases q : (lnLine n a T s p).1 = 0
      · obtain ⟨g1, g2, g3, g4, g5, g6⟩ := e2 q
        have g4' := eqv_all g4
        rw [if_neg (show ¬ (lnLine n a T s p).1 ≠ 0 from fun w => w q), if_neg (show ¬ (lnLine n b T s p).1 ≠ 0 from fun w => w (e1 ▸ q)), g1, g2, g3, g4']
        split
        · exact ⟨rfl, fun _ => rfl⟩
        split
        · refine ⟨rfl, fun w => ?_⟩
          have w' : -1000 - (lnLine n b T s p).2.1 = 0 := w
          have := (lnLine_G hp (by rw [← e1]; exact q)).1
          omega
        · exact ⟨rfl, fun _ => rfl⟩
      · rw [if_pos (show (lnLine n a T s p).1 ≠ 0 from q), if_pos (show (lnLine n b T s p).1 ≠ 0 from fun w => q (by rw [e1]; exact w))]
        exact ⟨e1, fun w => absurd (show (lnLine n b T s p).1 = 0 from w) (fun w => q (by rw [e1]; exact w))⟩
  cases k with
  | zero => exact ⟨rfl, fun w => absurd w (show ¬ (-1 : Int) = 0 by decide)⟩
  | succ k =>
    have hp : (0 : Int) ≤ 0 := by decide
    have h0 : eqv 0 (plB0 f t) (plB0 0 0) := ⟨rfl, rfl, fun g h2 h3 => by
      show (if g = 0 then (1 : Int) else if g = 2 then f else if g = 3 then t else _) = (if g = 0 then (1 : Int) else if g = 2 then 0 else if g = 3 then 0 else _)
      by_cases g2 : g = 2
      · have := h2 g2; omega
      by_cases g3 : g = 3
      · have := h3 g3; omega
      rw [if_neg g2, if_neg g2, if_neg g3, if_neg g3]⟩
    unfold lnGo
    obtain ⟨e1, e2⟩ := eqL_0 (n := n) (T := 0) (s := s) hp h0 rfl rfl
    generalize plB0 f t = a at e1 e2 ⊢
    generalize plB0 0 0 = b at e1 e2 ⊢
    by_cases q : (lnLine n a 0 s 0).1 = 0
    · have hgb := (lnLine_G hp (show (lnLine n b 0 s 0).1 = 0 by rw [← e1]; exact q)).1
      obtain ⟨g1, g2, g3, g4, g5, g6⟩ := e2 q
      rw [if_neg (show ¬ (lnLine n a 0 s 0).1 ≠ 0 from fun w => w q), if_neg (show ¬ (lnLine n b 0 s 0).1 ≠ 0 from fun w => w (e1 ▸ q)), g1, g2, g3, g5, g6]
      rw [if_neg (show ¬ ((lnLine n b 0 s 0).2.2.1 = [] ∧ (2 : Int) ≤ 1) from fun w => by have := w.2; omega), if_neg (show ¬ ((lnLine n b 0 s 0).2.2.1 = [] ∧ (2 : Int) ≤ 1) from fun w => by have := w.2; omega)]
      split
      · refine ⟨rfl, fun w => ?_⟩
        have w' : -1000 - (lnLine n b 0 s 0).2.1 = 0 := w
        omega
      · exact go1 k _ _ _ _ _ (by omega) g4 g5 g6
    · rw [if_pos (show (lnLine n a 0 s 0).1 ≠ 0 from q), if_pos (show (lnLine n b 0 s 0).1 ≠ 0 from fun w => q (by rw [e1]; exact w))]
      exact ⟨e1, fun w => absurd (show (lnLine n b 0 s 0).1 = 0 from w) (fun w => q (by rw [e1]; exact w))⟩
