-- ==== a LINE of a PLAN's text, as a function
abbrev pL : Type := Int × Int × List Int × kP × Nat
def lnSet (pl : kP) (f : Nat) (v : Int) : kP := (pl.1, fun i => if i = f then v else pl.2.1 i, pl.2.2)
def lnAdd (pl : kP) (i : Nat) (x : Int × Int) : kP := (fun j => if j = i then pl.1 j ++ [x] else pl.1 j, pl.2)
def lnBad (f : Int) : pL := (f, 0, [], plB0 0 0, 0)
def lnSide (w : Nat) (s : List Int) (p : Int) : pR := if w = 4 then (if hd s = 46 then (0, 0, p + 1, s.tail) else pPath 4 s p) else if w = 5 then pDigits 6 1 s p else if w = 6 then pWord s p else pDigit 0 9 s p
def lnCom (n than : Int) (s : List Int) (p : Int) : pR := if (pDigits 3 0 s p).1 = 0 then (if n ≤ (pDigits 3 0 s p).2.1 then (-9000 - p, (pDigits 3 0 s p).2) else if 0 ≤ than ∧ than ≤ (pDigits 3 0 s p).2.1 then (-7000 - p, (pDigits 3 0 s p).2) else pDigits 3 0 s p) else pDigits 3 0 s p
def lnHalf (n than : Int) (w : Nat) (s : List Int) (p : Int) : pR := if w = 7 then lnCom n than s p else lnSide w s p
def lnTwo (n k : Int) (w : Nat) (pl : kP) (T : Nat) (s : List Int) (p : Int) : pL :=
  if w = 7 ∧ hd s = 46 then (0, p + 1, s.tail, lnAdd pl 5 (k, -1), T)
  else if (lnHalf n k w s p).1 = 0 then (0, (lnHalf n k w s p).2.2.1, (lnHalf n k w s p).2.2.2, lnAdd pl (w - 2) (k, (lnHalf n k w s p).2.1), T) else lnBad (lnHalf n k w s p).1
def lnPair (n st : Int) (w : Nat) (pl : kP) (T : Nat) (s : List Int) (p : Int) : pL :=
  if (lnHalf n (-1) w s p).1 ≠ 0 then lnBad (lnHalf n (-1) w s p).1
  else if 0 ≤ qFind (lnHalf n (-1) w s p).2.1 (pl.1 (w - 2)) 0 then lnBad (-6000 - st)
  else if hd (lnHalf n (-1) w s p).2.2.2 ≠ 62 then lnBad (-1000 - (lnHalf n (-1) w s p).2.2.1)
  else lnTwo n (lnHalf n (-1) w s p).2.1 w pl T (lnHalf n (-1) w s p).2.2.2.tail ((lnHalf n (-1) w s p).2.2.1 + 1)
def lnOf (y : pR) (pl : kP) (T : Nat) : pL := if y.1 = 0 then (0, y.2.2.1, y.2.2.2, pl, T) else lnBad y.1
def lnTo (pl : kP) (T : Nat) (s : List Int) (p : Int) : pL := if (pDigit 0 3 s p).1 = 0 then (if (pDigit 0 3 s p).2.1 = pl.2.1 2 then lnBad (-3000 - p) else lnOf (pDigit 0 3 s p) (lnSet pl 3 (pDigit 0 3 s p).2.1) T) else lnBad (pDigit 0 3 s p).1
def lnSetting (w : Nat) (pl : kP) (T : Nat) (s : List Int) (p : Int) : pL :=
  if w = 0 then lnOf (pDigit 0 3 s p) (lnSet pl 2 (pDigit 0 3 s p).2.1) T
  else if w = 1 then lnTo pl T s p
  else if w = 9 then lnOf (pDigit 0 9 s p) (lnSet pl 11 (gor (pl.2.1 11) (gshl 1 (pDigit 0 9 s p).2.1))) T
  else if w = 10 then lnOf (pDigit 0 3 s p) (lnSet pl 12 (pDigit 0 3 s p).2.1) T
  else if w = 11 then lnOf (pDigit 0 2 s p) (lnSet pl 13 (pDigit 0 2 s p).2.1) T
  else if w = 12 then lnOf (pDigit 0 2 s p) (lnSet pl 14 (pDigit 0 2 s p).2.1) T
  else if w = 13 then lnOf (pDigits 3 0 s p) (lnSet pl 15 (pDigits 3 0 s p).2.1) T
  else lnOf (pDigit 1 6 s p) (lnSet pl 16 (pDigit 1 6 s p).2.1) T
def lnBody (n st : Int) (i : Nat) (pl : kP) (T : Nat) (s : List Int) (p : Int) : pL :=
  if i = 2 ∨ i = 3 then lnOf (pPath 4 s p) (lnAdd pl (i - 2) ((pPath 4 s p).2.1, 0)) T
  else if 4 ≤ i ∧ i ≤ 8 then lnPair n st i pl T s p else lnSetting i pl T s p
def lnFits (L : Int) (i : Nat) : Bool := if L < 2 then decide ((i : Int) = L) else decide (1 < i ∧ i < 15)
def lnLine (n : Int) (pl : kP) (T : Nat) (s : List Int) (p : Int) : pL :=
  if lnFits (pl.2.1 1) (wIx (wT s)) = false then lnBad (-1000 - p)
  else if 2 ≤ wIx (wT s) ∧ wIx (wT s) ≤ 7 ∧ 4 ≤ (pl.1 (wIx (wT s) - 2)).length then lnBad (-4000 - p)
  else if 10 ≤ wIx (wT s) ∧ T.testBit (wIx (wT s) - 10) = true then lnBad (-6000 - p)
  else if hd (wR s) ≠ 58 then lnBad (-1000 - (p + ((wT s).length : Int)))
  else lnBody n p (wIx (wT s)) (lnSet pl 1 (pl.2.1 1 + 1)) (if 10 ≤ wIx (wT s) then T ||| (1 <<< (wIx (wT s) - 10)) else T) (wR s).tail (p + ((wT s).length : Int) + 1)
def lnGo (n : Int) : Nat → kP → Nat → List Int → Int → Int × kP
  | 0, pl, _, _, _ => (-1, pl)
  | k + 1, pl, T, s, p =>
    if (lnLine n pl T s p).1 ≠ 0 then ((lnLine n pl T s p).1, pl)
    else if (lnLine n pl T s p).2.2.1 = [] ∧ 2 ≤ (lnLine n pl T s p).2.2.2.1.2.1 1 then (0, (lnLine n pl T s p).2.2.2.1)
    else if hd (lnLine n pl T s p).2.2.1 ≠ 59 then (-1000 - (lnLine n pl T s p).2.1, pl)
    else lnGo n k (lnLine n pl T s p).2.2.2.1 (lnLine n pl T s p).2.2.2.2 (lnLine n pl T s p).2.2.1.tail ((lnLine n pl T s p).2.1 + 1)
-- ---- the class's memory while it reads a PLAN's text
def lF (sh : gS) (M0 M : gM) : Prop := gOK sh M ∧ (∀ b : Int, b ≠ 1 → (b < 410 ∨ 434 < b) → M b = M0 b) ∧ M 1 1 = M0 1 1
def lS (sh : gS) (M0 M : gM) (n st p : Int) (s : List Int) (pl : kP) (T : Nat) : Prop := lF sh M0 M ∧ tpIn M p s ∧ M 1 4 = 0 ∧ plOk sh M 411 pl ∧ M 410 1 = n ∧ M 410 2 = st ∧ M 410 3 = 1024 * (T : Int)
def lQ (sh : gS) (M0 : gM) (n st : Int) (y : pL) (M : gM) : Prop := (y.1 = 0 → lS sh M0 M n st y.2.1 y.2.2.1 y.2.2.2.1 y.2.2.2.2) ∧ (y.1 ≠ 0 → lF sh M0 M ∧ M 1 4 = y.1)
theorem lQ_bad {sh : gS} {M0 M : gM} {n st f : Int} (hF : lF sh M0 M) (hf : M 1 4 = f) (h : f ≠ 0) : lQ sh M0 n st (lnBad f) M := ⟨fun w => absurd w h, fun _ => ⟨hF, hf⟩⟩
theorem lF_tM {sh : gS} {M0 M : gM} {q f : Int} (h : lF sh M0 M) : lF sh M0 (tM M q f) := ⟨gOK_tM h.1, fun b b0 hb => by rw [tM_cell _ _ _ b0]; exact h.2.1 b b0 hb, by rw [tM_oth _ _ _ (by decide) (by decide)]; exact h.2.2⟩
theorem plOk_tM {sh : gS} {M : gM} {q f : Int} {pl : kP} (h : plOk sh M 411 pl) : plOk sh (tM M q f) 411 pl := plOk_keep h (fun b b0 _ => tM_cell _ _ _ (by omega))
/-- the tape has moved on, without a FAULT -/
theorem lS_tM {sh : gS} {M0 M : gM} {n st p q : Int} {s s2 : List Int} {pl : kP} {T : Nat} (h : lS sh M0 M n st p s pl T) (ht : tpIn (tM M q 0) q s2) : lS sh M0 (tM M q 0) n st q s2 pl T := by
  obtain ⟨hF, hT, h0, hP, a, b, c⟩ := h
  exact ⟨lF_tM hF, ht, tM_f _ _ _, plOk_tM hP, by rw [tM_cell _ _ _ (by decide)]; exact a, by rw [tM_cell _ _ _ (by decide)]; exact b, by rw [tM_cell _ _ _ (by decide)]; exact c⟩
theorem plSh411 {sh : gS} {M : gM} {pl : kP} (h : plOk sh M 411 pl) : gsh sh 411 = some (0, 6) := h.1.1
theorem plOk_set {sh : gS} {M : gM} {f : Nat} {v : Int} {pl : kP} (h : plOk sh M 411 pl) : plOk sh (gU M 411 (f : Int) v) 411 (lnSet pl f v) := by
  obtain ⟨s, h1, h2, h3, h4⟩ := h
  refine ⟨s, fun i hi => qOk_congr (h1 i hi) (gU_cell _ _ _ (by omega)) (gU_cell _ _ _ (by omega)) (gU_cell _ _ _ (by omega)), qOk_congr h2 (gU_cell _ _ _ (by decide)) (gU_cell _ _ _ (by decide)) (gU_cell _ _ _ (by decide)), fun g hg => ?_, fun k k0 k1 => ?_⟩
  · show _ = (if g = f then v else pl.2.1 g)
    by_cases e : g = f
    · rw [if_pos e, e, gU_same]
    · rw [if_neg e, gU_idx (by omega)]; exact h3 g hg
  · rw [gU_cell _ _ _ (by omega), gU_cell _ _ _ (by omega)]; exact h4 k k0 k1
theorem lS_set {sh : gS} {M0 M : gM} {n st p : Int} {s : List Int} {pl : kP} {T f : Nat} {v : Int} (h : lS sh M0 M n st p s pl T) (hf : f < 4 ∨ (10 < f ∧ f < 17)) : lS sh M0 (gU M 411 (f : Int) v) n st p s (lnSet pl f v) T := by
  obtain ⟨hF, hT, h0, hP, a, b, c⟩ := h
  have e : ∀ x : Int, x ≠ 411 → gU M 411 (f : Int) v x = M x := fun x hx => gU_cell _ _ _ hx
  refine ⟨⟨gOK_U hF.1 (plSh411 hP) ?_, fun x x0 hx => by rw [e x (by omega)]; exact hF.2.1 x x0 hx, by rw [e 1 (by decide)]; exact hF.2.2⟩, tpIn_keep hT (e 1 (by decide)) (e 2 (by decide)), by rw [e 1 (by decide)]; exact h0, plOk_set hP, by rw [e 410 (by decide)]; exact a, by rw [e 410 (by decide)]; exact b, by rw [e 410 (by decide)]; exact c⟩
  intro j hj
  have : j = f := by omega
  subst this
  have hc : j = 0 ∨ j = 1 ∨ j = 2 ∨ j = 3 ∨ j = 11 ∨ j = 12 ∨ j = 13 ∨ j = 14 ∨ j = 15 ∨ j = 16 := by omega
  rcases hc with rfl | rfl | rfl | rfl | rfl | rfl | rfl | rfl | rfl | rfl <;> rfl
theorem plOk_q {sh : gS} {M : gM} {pl : kP} (h : plOk sh M 411 pl) {i : Nat} (hi : i < 7) : qOk sh M (412 + 3 * (i : Int)) (plN i) (pl.1 i) := by
  obtain ⟨s, h1, h2, -⟩ := h
  unfold plN
  by_cases e : i = 6
  · rw [if_pos e, e]; exact h2
  · rw [if_neg e]
    have := h1 i (by omega)
    rwa [show (411 : Int) + 1 + 3 * (i : Int) = 412 + 3 * (i : Int) by omega] at this
theorem plOk_add {sh : gS} {M M1 : gM} {pl : kP} {i : Nat} {x : Int × Int} (h : plOk sh M 411 pl) (hi : i < 7) (hq : qPost sh M (412 + 3 * (i : Int)) (plN i) (pl.1 i ++ [x]) M1) : plOk sh M1 411 (lnAdd pl i x) := by
  obtain ⟨s, h1, h2, h3, h4⟩ := h
  obtain ⟨q1, q2, q3⟩ := hq
  refine ⟨s, fun j hj => ?_, ?_, fun g hg => by rw [q3 411 (by omega) (by omega) (by omega)]; exact h3 g hg, fun k k0 k1 => by rw [q3 (411 + 22) (by omega) (by omega) (by omega), q3 (411 + 23) (by omega) (by omega) (by omega)]; exact h4 k k0 k1⟩
  · show qOk sh M1 _ 4 (if j = i then pl.1 j ++ [x] else pl.1 j)
    by_cases e : j = i
    · rw [if_pos e, e, show (411 : Int) + 1 + 3 * (i : Int) = 412 + 3 * (i : Int) by omega]
      unfold plN at q1
      rwa [if_neg (by omega)] at q1
    · rw [if_neg e]
      exact qOk_congr (h1 j hj) (q3 _ (by omega) (by omega) (by omega)) (q3 _ (by omega) (by omega) (by omega)) (q3 _ (by omega) (by omega) (by omega))
  · show qOk sh M1 _ 10 (if 6 = i then pl.1 6 ++ [x] else pl.1 6)
    by_cases e : 6 = i
    · rw [if_pos e]
      subst e
      exact q1
    · rw [if_neg e]
      exact qOk_congr h2 (q3 _ (by omega) (by omega) (by omega)) (q3 _ (by omega) (by omega) (by omega)) (q3 _ (by omega) (by omega) (by omega))
theorem lF_q {sh : gS} {M0 M M1 : gM} {t : Int} {k : Nat} {ps : List (Int × Int)} (h : lF sh M0 M) (hq : qPost sh M t k ps M1) (ht : 411 < t ∧ t < 432) : lF sh M0 M1 ∧ M1 1 4 = M 1 4 := by
  obtain ⟨q1, q2, q3⟩ := hq
  exact ⟨⟨q2, fun b b0 hb => by rw [q3 b (by omega) (by omega) (by omega)]; exact h.2.1 b b0 hb, by rw [q3 1 (by omega) (by omega) (by omega)]; exact h.2.2⟩, by rw [q3 1 (by omega) (by omega) (by omega)]⟩
theorem lS_add {sh : gS} {M0 M M1 : gM} {n st p : Int} {s : List Int} {pl : kP} {T i : Nat} {x : Int × Int} (h : lS sh M0 M n st p s pl T) (hi : i < 7) (hq : qPost sh M (412 + 3 * (i : Int)) (plN i) (pl.1 i ++ [x]) M1) : lS sh M0 M1 n st p s (lnAdd pl i x) T := by
  obtain ⟨hF, hT, h0, hP, a, b, c⟩ := h
  have q3 := hq.2.2
  obtain ⟨f1, f2⟩ := lF_q hF hq (by omega)
  exact ⟨f1, tpIn_keep hT (q3 1 (by omega) (by omega) (by omega)) (q3 2 (by omega) (by omega) (by omega)), f2.trans h0, plOk_add hP hi hq, by rw [q3 410 (by omega) (by omega) (by omega)]; exact a, by rw [q3 410 (by omega) (by omega) (by omega)]; exact b, by rw [q3 410 (by omega) (by omega) (by omega)]; exact c⟩
