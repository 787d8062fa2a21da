-- ==== PlanText: settings, pairs
theorem lQ_of {sh : gS} {M0 M M1 : gM} {n st : Int} {y : pR} {pl : kP} {T f : Nat} {v : Int} (hR : lF sh M0 M1 ∧ M1 1 4 = y.1 ∧ plOk sh M1 411 pl ∧ (y.1 = 0 → lS sh M0 M1 n st y.2.2.1 y.2.2.2 pl T)) (hM : M = gU M1 411 (f : Int) v) (hf : f < 4 ∨ (10 < f ∧ f < 17)) : gOK sh M ∧ lQ sh M0 n st (lnOf y (lnSet pl f v) T) M := by
  subst hM
  obtain ⟨h1, h2, h3, h4⟩ := hR
  have sF := h3.1.1
  have e : ∀ x : Int, x ≠ 411 → gU M1 411 (f : Int) v x = M1 x := fun x hx => gU_cell _ _ _ hx
  have hO : gOK sh (gU M1 411 (f : Int) v) := by
    refine gOK_U h1.1 sF (fun j hj => ?_)
    have : j = f := by omega
    subst this
    have hc : j = 0 ∨ j = 1 ∨ j = 2 ∨ j = 3 ∨ j = 11 ∨ j = 12 ∨ j = 13 ∨ j = 14 ∨ j = 15 ∨ j = 16 := by omega
    rcases hc with rfl | rfl | rfl | rfl | rfl | rfl | rfl | rfl | rfl | rfl <;> rfl
  refine ⟨hO, ?_⟩
  unfold lnOf
  by_cases q : y.1 = 0
  · rw [if_pos q]; exact ⟨fun _ => lS_set (h4 q) hf, fun w => absurd rfl w⟩
  · rw [if_neg q]
    exact lQ_bad ⟨hO, fun x x0 hx => by rw [e x (by omega)]; exact h1.2.1 x x0 hx, by rw [e 1 (by decide)]; exact h1.2.2⟩ (by rw [e 1 (by decide)]; exact h2) q
theorem sp_X6_readTo {sh : gS} {M0 M : gM} {n st p : Int} {s : List Int} {pl : kP} {T : Nat} (h : lS sh M0 M n st p s pl T) : gC (gr 2 45) yX6_readTo cX6_readTo 3 none [(4, 410), (4, 1)] sh M (gPm sh (fun r M1 => r = none ∧ lQ sh M0 n st (lnTo pl T s p) M1)) := by
  have hOK := h.1.1
  have hl := tpIn_len h.2.1
  refine w_X6_readTo hOK ⟨⟨sh_1 hOK, by decide⟩, _, sp_X9_digit hOK h.2.1, fun r1 M1 hP1 => ?_⟩
  have hR := lR_tP h hP1
  obtain ⟨rfl, f1, f2, f3, f4⟩ := id hR
  refine ⟨_, rfl, f1.1, ?_⟩
  have e2 : M1 411 2 = pl.2.1 2 := f3.2.2.2.1 2 (by decide)
  rw [gU_same, gU_idx (by decide), e2]
  obtain ⟨hO2, hQ⟩ := lQ_of (f := 3) (v := (pDigit 0 3 s p).2.1) ⟨f1, f2, f3, f4⟩ rfl (by decide)
  unfold lnTo
  by_cases q : (pDigit 0 3 s p).1 = 0
  · rw [if_pos q]
    by_cases q2 : (pDigit 0 3 s p).2.1 = pl.2.1 2
    · have q2' : (pDigit 0 3 s p).2.1 = pl.2.1 ((2 : Nat)) := q2
      rw [if_pos q2, if_pos q2]
      refine ⟨_, sp_X9_fail hO2 (by decide) (by rw [h.2.1.1]; omega), fun r2 M2 hP2 => ?_⟩
      obtain ⟨rfl, rfl⟩ := hP2
      have e0 : gU M1 411 3 (pDigit 0 3 s p).2.1 1 4 = 0 := by rw [gU_cell _ _ _ (by decide), f2, q]
      rw [e0, ff_z _ rfl, h.2.1.1]
      have hF : lF sh M0 (gU M1 411 3 (pDigit 0 3 s p).2.1) := ⟨hO2, fun x x0 hx => by rw [gU_cell _ _ _ (by omega)]; exact f1.2.1 x x0 hx, by rw [gU_cell _ _ _ (by decide)]; exact f1.2.2⟩
      have e := lF_tM (q := gU M1 411 3 (pDigit 0 3 s p).2.1 1 2) (f := -1000 * 3 - p) hF
      exact ⟨rfl, e.1, rfl, rfl, lQ_bad e (by rw [tM_f]; omega) (by omega)⟩
    · rw [if_neg q2, if_neg q2]
      exact ⟨rfl, rfl, hQ⟩
  · rw [if_neg q]
    have hF : lF sh M0 (gU M1 411 3 (pDigit 0 3 s p).2.1) := ⟨hO2, fun x x0 hx => by rw [gU_cell _ _ _ (by omega)]; exact f1.2.1 x x0 hx, by rw [gU_cell _ _ _ (by decide)]; exact f1.2.2⟩
    have e0 : gU M1 411 3 (pDigit 0 3 s p).2.1 1 4 = (pDigit 0 3 s p).1 := by rw [gU_cell _ _ _ (by decide), f2]
    split
    · refine ⟨_, sp_X9_fail hO2 (by decide) (by rw [h.2.1.1]; omega), fun r2 M2 hP2 => ?_⟩
      obtain ⟨rfl, rfl⟩ := hP2
      have e := lF_tM (q := gU M1 411 3 (pDigit 0 3 s p).2.1 1 2) (f := ff (gU M1 411 3 (pDigit 0 3 s p).2.1 1 4) (-1000 * 3 - M 1 2)) hF
      exact ⟨rfl, e.1, rfl, rfl, lQ_bad e (by rw [tM_f, e0, ff, if_neg q]) q⟩
    · exact ⟨rfl, rfl, lQ_bad hF e0 q⟩
theorem pDigit_v {lo hi : Int} {s : List Int} {p : Int} (h0 : 0 ≤ lo) : ((pDigit lo hi s p).1 = 0 ∧ lo ≤ (pDigit lo hi s p).2.1 ∧ (pDigit lo hi s p).2.1 ≤ hi) ∨ (0 ≤ p → (pDigit lo hi s p).1 ≠ 0) ∧ (pDigit lo hi s p).2.1 = -1 := by
  rcases pDigit_cases (lo := lo) (hi := hi) (p := p) (s := s) with ⟨c, r, rfl, c0, c1, c2, c3, ep⟩ | ⟨c0, c1, c2, ep⟩ | ⟨c0, ep⟩
  · rw [ep]; exact Or.inl ⟨rfl, c2, c3⟩
  · rw [ep]; exact Or.inr ⟨fun hp => by show -3000 - p ≠ 0; omega, rfl⟩
  · rw [ep]; exact Or.inr ⟨fun hp => by show -1000 - p ≠ 0; omega, rfl⟩
theorem sp_X6_readSetting {sh : gS} {M0 M : gM} {n st p : Int} {s : List Int} {pl : kP} {T w : Nat} (h : lS sh M0 M n st p s pl T) (hw : w < 2 ∨ (8 < w ∧ w < 15)) : gC (gr 3 67) yX6_readSetting cX6_readSetting 4 none [(4, 410), (4, 1), (0, (w : Int))] sh M (gPm sh (fun r M1 => r = none ∧ lQ sh M0 n st (lnSetting w pl T s p) M1)) := by
  have hOK := h.1.1
  have hl := tpIn_len h.2.1
  refine w_X6_readSetting hOK ?_
  have dg : ∀ (lo hi : Int) (f : Nat), (f < 4 ∨ (10 < f ∧ f < 17)) → ∃ P79 : Option gV → gM → Prop, gC (gr 1 22) yX9_digit cX9_digit 4 (some (.int)) [(4, 1), (0, lo), (0, hi)] sh M (gPm sh P79) ∧ ∀ (r79 : Option gV) (M79 : gM), P79 r79 M79 → ∃ v79 : Int, r79 = some (0, v79) ∧ gOK sh M79 ∧ gPm sh (fun r M1 => r = none ∧ lQ sh M0 n st (lnOf (pDigit lo hi s p) (lnSet pl f (pDigit lo hi s p).2.1) T) M1) none sh (gU M79 411 (f : Int) v79) := fun lo hi f hf => by
    refine ⟨_, sp_X9_digit hOK h.2.1, fun r1 M1 hP1 => ?_⟩
    have hR := lR_tP h hP1
    obtain ⟨rfl, f1, f2, f3, f4⟩ := id hR
    exact ⟨_, rfl, f1.1, rfl, rfl, (lQ_of (f := f) (v := (pDigit lo hi s p).2.1) ⟨f1, f2, f3, f4⟩ rfl hf).2⟩
  unfold lnSetting
  have hc : w = 0 ∨ w = 1 ∨ w = 9 ∨ w = 10 ∨ w = 11 ∨ w = 12 ∨ w = 13 ∨ w = 14 := by omega
  rcases hc with rfl | rfl | rfl | rfl | rfl | rfl | rfl | rfl
  · exact ⟨⟨sh_1 hOK, by decide⟩, dg 0 3 2 (by decide)⟩
  · refine ⟨_, sp_X6_readTo h, fun r1 M1 hP1 => ?_⟩
    obtain ⟨rfl, hQ⟩ := hP1
    refine ⟨rfl, ?_, rfl, rfl, hQ⟩
    by_cases q : (lnTo pl T s p).1 = 0
    · exact (hQ.1 q).1.1
    · exact (hQ.2 q).1.1
  · refine ⟨⟨sh_1 hOK, by decide⟩, _, sp_X9_digit hOK h.2.1, fun r1 M1 hP1 => ?_⟩
    have hR := lR_tP h hP1
    obtain ⟨rfl, f1, f2, f3, f4⟩ := id hR
    refine ⟨_, rfl, f1.1, ?_⟩
    have e11 : M1 411 11 = pl.2.1 11 := f3.2.2.2.1 11 (by decide)
    rw [e11]
    rcases pDigit_v (lo := 0) (hi := 9) (s := s) (p := p) (by decide) with ⟨a, b, c⟩ | ⟨a, b⟩
    · rw [if_neg (by omega)]
      exact ⟨rfl, rfl, (lQ_of (f := 11) (v := gor (pl.2.1 11) (gshl 1 (pDigit 0 9 s p).2.1)) ⟨f1, f2, f3, f4⟩ rfl (by decide)).2⟩
    · rw [if_pos (by omega)]
      have a' := a hl.1
      have hQ := (lQ_of (f := 11) (v := gor (pl.2.1 11) 0) ⟨f1, f2, f3, f4⟩ rfl (by decide)).2
      unfold lnOf at hQ
      rw [if_neg a'] at hQ
      refine ⟨rfl, rfl, ?_⟩
      show lQ sh M0 n st (lnOf (pDigit 0 9 s p) _ T) _
      unfold lnOf
      rw [if_neg a']
      exact hQ
  · exact ⟨⟨sh_1 hOK, by decide⟩, dg 0 3 12 (by decide)⟩
  · exact ⟨⟨sh_1 hOK, by decide⟩, dg 0 2 13 (by decide)⟩
  · exact ⟨⟨sh_1 hOK, by decide⟩, dg 0 2 14 (by decide)⟩
  · refine ⟨⟨sh_1 hOK, by decide⟩, _, sp_X9_digits hOK h.2.1 (by decide) (by decide), fun r1 M1 hP1 => ?_⟩
    have hR := lR_tP h hP1
    obtain ⟨rfl, f1, f2, f3, f4⟩ := id hR
    exact ⟨_, rfl, f1.1, rfl, rfl, (lQ_of (f := 15) (v := (pDigits 3 0 s p).2.1) ⟨f1, f2, f3, f4⟩ rfl (by decide)).2⟩
  · exact ⟨⟨sh_1 hOK, by decide⟩, dg 1 6 16 (by decide)⟩
