-- ==== PlanText: its small readers
def lR (sh : gS) (M0 : gM) (n st : Int) (y : pR) (pl : kP) (T : Nat) : Option gV → gM → Prop := fun r M1 => r = some (0, y.2.1) ∧ lF sh M0 M1 ∧ M1 1 4 = y.1 ∧ plOk sh M1 411 pl ∧ (y.1 = 0 → lS sh M0 M1 n st y.2.2.1 y.2.2.2 pl T)
theorem lR_tP {sh : gS} {M0 M M1 : gM} {n st p : Int} {s : List Int} {pl : kP} {T : Nat} {y : pR} {r : Option gV} (h : lS sh M0 M n st p s pl T) (ht : tP M y r M1) : lR sh M0 n st y pl T r M1 := by
  obtain ⟨t1, t2, t3⟩ := ht
  rw [h.2.2.1, ff_z _ rfl] at t2
  subst t2
  refine ⟨t1, lF_tM h.1, tM_f _ _ _, plOk_tM h.2.2.2.1, fun h0 => ?_⟩
  rw [h0] at t3 ⊢
  exact lS_tM h t3
theorem pDigGo_bad : ∀ (k : Nat) (v : Int) (s : List Int) (p : Int), (pDigGo k v s p).1 ≠ 0 → (pDigGo k v s p).2.1 = -1
  | _, v, [], p, h => absurd rfl (by cases ‹Nat› <;> exact h)
  | 0, v, c :: s, p, h => by
    unfold pDigGo at h ⊢
    split at h
    · rw [if_pos (by assumption)]
    · exact absurd rfl h
  | k + 1, v, c :: s, p, h => by
    unfold pDigGo at h ⊢
    split at h
    · rw [if_pos (by assumption)]; exact pDigGo_bad k _ s _ h
    · exact absurd rfl h
theorem pDigits_bad {k : Nat} {v : Int} {s : List Int} {p : Int} (h : (pDigits k v s p).1 ≠ 0) : (pDigits k v s p).2.1 = -1 := by
  unfold pDigits at h ⊢
  split at h
  · rw [if_pos (by assumption)]; exact pDigGo_bad k v s p h
  · rw [if_neg (by assumption)]
theorem sp_X6_readCommit {sh : gS} {M0 M : gM} {n st p than : Int} {s : List Int} {pl : kP} {T : Nat} (h : lS sh M0 M n st p s pl T) (hn : 0 ≤ n) : gC (gr 2 46) yX6_readCommit cX6_readCommit 5 (some (.int)) [(4, 410), (4, 1), (0, than)] sh M (gPm sh (lR sh M0 n st (lnCom n than s p) pl T)) := by
  have hOK := h.1.1
  have hl := tpIn_len h.2.1
  refine w_X6_readCommit hOK ⟨⟨sh_1 hOK, by decide⟩, _, sp_X9_digits hOK h.2.1 (by decide) (by decide), fun r1 M1 hP1 => ?_⟩
  have e410 : M1 410 1 = n := by rw [hP1.2.1, tM_cell _ _ _ (by decide)]; exact h.2.2.2.2.1
  have hR := lR_tP h hP1
  obtain ⟨rfl, f1, f2, f3, f4⟩ := id hR
  refine ⟨_, rfl, f1.1, ?_⟩
  rw [e410]
  unfold lnCom
  by_cases q0 : (pDigits 3 0 s p).1 = 0
  · rw [if_pos q0]
    have bad : ∀ (k : Int), 1 ≤ k ∧ k ≤ 9 → ∃ P46 : Option gV → gM → Prop, gC (gr 0 0) yX9_fail cX9_fail 3 none [(4, 1), (0, k), (0, (M 1 2))] sh M1 (gPm sh P46) ∧ ∀ (r46 : Option gV) (M46 : gM), P46 r46 M46 → r46 = none ∧ gOK sh M46 ∧ gPm sh (lR sh M0 n st (-1000 * k - p, (pDigits 3 0 s p).2) pl T) (some (0, (pDigits 3 0 s p).2.1)) sh M46 := fun k hk => by
      refine ⟨_, sp_X9_fail f1.1 (by omega) (by rw [h.2.1.1]; omega), fun r2 M2 hP2 => ?_⟩
      obtain ⟨rfl, rfl⟩ := hP2
      rw [f2, q0, ff_z _ rfl, h.2.1.1]
      have e := lF_tM (q := M1 1 2) (f := -1000 * k - p) f1
      exact ⟨rfl, e.1, rfl, rfl, e, tM_f _ _ _, plOk_tM f3, fun w => (by have w' : -1000 * k - p = 0 := w; omega)⟩
    by_cases q1 : (pDigits 3 0 s p).2.1 < n
    · rw [if_pos q1, if_neg (show ¬ n ≤ (pDigits 3 0 s p).2.1 by omega)]
      by_cases q2 : than < 0
      · rw [if_pos q2, if_neg (show ¬ (0 ≤ than ∧ than ≤ (pDigits 3 0 s p).2.1) by omega)]
        exact ⟨rfl, hR⟩
      · rw [if_neg q2]
        by_cases q3 : (pDigits 3 0 s p).2.1 < than
        · rw [if_pos q3, if_neg (show ¬ (0 ≤ than ∧ than ≤ (pDigits 3 0 s p).2.1) by omega)]
          exact ⟨rfl, hR⟩
        · rw [if_neg q3, if_pos (show 0 ≤ than ∧ than ≤ (pDigits 3 0 s p).2.1 by omega)]
          exact bad 7 (by decide)
    · rw [if_neg q1, if_pos (show n ≤ (pDigits 3 0 s p).2.1 by omega)]
      exact bad 9 (by decide)
  · rw [if_neg q0]
    have := pDigits_bad q0
    rw [this, if_pos (by omega)]
    rw [this] at hR
    by_cases q2 : than < 0
    · rw [if_pos q2]; exact ⟨rfl, hR⟩
    · rw [if_neg q2, if_pos (by omega)]; exact ⟨rfl, hR⟩
theorem sp_X6_readSide {sh : gS} {M0 M : gM} {n st p : Int} {s : List Int} {pl : kP} {T w : Nat} (h : lS sh M0 M n st p s pl T) (hw : 4 ≤ w ∧ w ≤ 8 ∧ w ≠ 7) : gC (gr 2 46) yX6_readSide cX6_readSide 3 (some (.int)) [(4, 410), (4, 1), (0, (w : Int))] sh M (gPm sh (lR sh M0 n st (lnSide w s p) pl T)) := by
  have hOK := h.1.1
  have hl := tpIn_len h.2.1
  refine w_X6_readSide hOK ?_
  unfold lnSide
  by_cases q4 : w = 4
  · rw [if_pos (by omega), if_pos q4]
    refine ⟨⟨sh_1 hOK, by decide⟩, _, sp_X9_next hOK h.2.1, ?_⟩
    by_cases q : hd s = 46
    · rw [if_pos q, if_pos q]
      cases s with
      | nil => exact absurd q (by decide)
      | cons c r =>
        have a := tadv h.2.1
        rw [gw32_id (by rw [h.2.1.1]; omega) (by rw [h.2.1.1]; omega)]
        exact ⟨rfl, lR_tP (y := (0, 0, p + 1, r)) h ⟨rfl, a.1, a.2⟩⟩
    · rw [if_neg q, if_neg q]
      refine ⟨_, sp_X9_path hOK h.2.1 (by decide), fun r1 M1 hP1 => ?_⟩
      have hR := lR_tP h hP1
      obtain ⟨rfl, f1, -⟩ := id hR
      exact ⟨_, rfl, f1.1, rfl, hR⟩
  · rw [if_neg (by omega), if_neg q4]
    by_cases q5 : w = 5
    · rw [if_pos (by omega), if_pos q5]
      refine ⟨⟨sh_1 hOK, by decide⟩, _, sp_X9_digits hOK h.2.1 (by decide) (by decide), fun r1 M1 hP1 => ?_⟩
      have hR := lR_tP h hP1
      obtain ⟨rfl, f1, -⟩ := id hR
      exact ⟨_, rfl, f1.1, rfl, hR⟩
    · rw [if_neg (by omega), if_neg q5]
      by_cases q6 : w = 6
      · rw [if_pos (by omega), if_pos q6]
        refine ⟨⟨sh_1 hOK, by decide⟩, _, sp_X9_word hOK h.2.1, fun r1 M1 hP1 => ?_⟩
        have hR := lR_tP h hP1
        obtain ⟨rfl, f1, -⟩ := id hR
        exact ⟨_, rfl, f1.1, rfl, hR⟩
      · rw [if_neg (by omega), if_neg q6]
        refine ⟨⟨sh_1 hOK, by decide⟩, _, sp_X9_digit hOK h.2.1, fun r1 M1 hP1 => ?_⟩
        have hR := lR_tP h hP1
        obtain ⟨rfl, f1, -⟩ := id hR
        exact ⟨_, rfl, f1.1, rfl, hR⟩
theorem sp_X6_pairsOf {sh : gS} {M : gM} {w : Nat} (hOK : gOK sh M) (hw : 2 ≤ w ∧ w ≤ 8) : gC (gr 0 0) yX6_pairsOf cX6_pairsOf 2 (some (.object "CarriedHistory$Pairs")) [(4, 410), (0, (w : Int))] sh M (gPp sh M (4, 412 + 3 * ((w - 2 : Nat) : Int))) := by
  refine w_X6_pairsOf hOK ?_
  have hc : w = 2 ∨ w = 3 ∨ w = 4 ∨ w = 5 ∨ w = 6 ∨ w = 7 ∨ w = 8 := by omega
  rcases hc with rfl | rfl | rfl | rfl | rfl | rfl | rfl <;> exact ⟨rfl, rfl, rfl⟩
