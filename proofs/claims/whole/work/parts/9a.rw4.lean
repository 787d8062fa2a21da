-- ==== the reference: pairs, grafts, signs
def vS (cs : List kC) (M : gM) (st : Int) (l : Int → Int) (p : Int) (s : List Int) (pl : kP) (T : Nat) : Prop := uC M cs ∧ uR M p s ∧ vPt M pl T ∧ M 711 30 = st ∧ ∀ q : Int, (q < 272 ∨ q = 288) → M 729 q = l q
def vO (cs : List kC) (M1 : gM) (r st : Int) (l : Int → Int) (y : pL) : Prop := (y.1 = 0 → r = 1 ∧ vS cs M1 st l y.2.1 y.2.2.1 y.2.2.2.1 y.2.2.2.2) ∧ (y.1 ≠ 0 → r = 0 ∧ M1 711 21 = y.1 ∧ ∀ q : Int, q < 272 → M1 729 q = l q)
theorem fr9 {F : List Int} {M M1 : gM} (h : gFr [] F M M1) : M1 729 = M 729 := h.1 729 (fun w => by cases w) (by decide)
theorem vS_k {cs : List kC} {M M1 : gM} {l : Int → Int} {st p q : Int} {s s2 : List Int} {pl : kP} {T : Nat} {F : List Int} (h : vS cs M st l p s pl T) (hf : gFr [] F M M1) (hF : (0 : Int) ∉ F ∧ (30 : Int) ∉ F) (hR : uR M1 q s2) : vS cs M1 st l q s2 pl T := by
  obtain ⟨h1, h2, h3, h4, h5⟩ := h
  have e : ∀ b : Int, b ≠ 711 → M1 b = M b := fun b b0 => hf.1 b (fun w => by cases w) b0
  exact ⟨uC_same h1 (by rw [hf.2 0 hF.1]) (fun b b0 b1 => e b (by omega)), hR, vPt_keep h3 (e 729 (by decide)), by rw [hf.2 30 hF.2]; exact h4, fun x hx => by rw [e 729 (by decide)]; exact h5 x hx⟩
theorem vO_bad {cs : List kC} {M M1 : gM} {l : Int → Int} {st st2 p f : Int} {s : List Int} {pl : kP} {T : Nat} (hv : vS cs M st2 l p s pl T) (e9 : M1 729 = M 729) (h : f ≠ 0) (e : M1 711 21 = f) : vO cs M1 0 st l (lnBad f) := ⟨fun w => absurd w h, fun _ => ⟨rfl, e, fun q hq => by rw [e9]; exact hv.2.2.2.2 q (Or.inl hq)⟩⟩
theorem vO_w {cs : List kC} {M : gM} {l : Int → Int} {st st2 f a p p2 : Int} {s : List Int} {pl : kP} {T : Nat} (hv : vS cs M st2 l p2 s pl T) (h : f ≠ 0) (e : f = -1000 * a - p) : vO cs (gU M 711 21 (-1000 * a - p)) 0 st l (lnBad f) := vO_bad hv (gU_cell _ _ _ (by decide)) h (by rw [gU_same]; exact e.symm)
theorem gFr_add {M M1 : gM} {F : List Int} (h : gFr [729] F M M1) : ∀ b : Int, b ≠ 729 → b ≠ 711 → M1 b = M b := fun b b0 b1 => h.1 b (fun w => b0 (List.mem_singleton.mp w)) b1
/-- a pair is added, nothing else -/
theorem vS_add {cs : List kC} {M : gM} {l : Int → Int} {st p : Int} {s : List Int} {pl : kP} {T i : Nat} {k v : Int} (h : vS cs M st l p s pl T) (hi : i < 6) (hl : (pl.1 i).length < 4) : ∃ M1, F_adds M ((i : Int) + 1) k v = some (1, M1) ∧ vS cs M1 st l p s (lnAdd pl i (k, v)) T := by
  obtain ⟨h1, h2, h3, h4, h5⟩ := h
  obtain ⟨M1, e1, a1, a2⟩ := s_adds (k := k) (v := v) h3 hi hl
  have f : gFr [729] [] M M1 := fr_adds e1
  have e := gFr_add f
  have e711 : ∀ g : Int, M1 711 g = M 711 g := fun g => f.2 g (fun w => by cases w)
  exact ⟨M1, e1, uC_same h1 (e711 0) (fun b b0 b1 => e b (by omega) (by omega)), uR_of h2 (e711 19) (e711 20) (e 726 (by decide) (by decide)), a1, by rw [e711]; exact h4, fun x hx => (a2 x hx).trans (h5 x hx)⟩
theorem s_readsFirst {M : gM} {p : Int} {s : List Int} {w : Nat} (h : uR M p s) (hw : 4 ≤ w ∧ w ≤ 6) : ∃ r M1, F_readsFirst M ((w : Int) - 1) = some (r, M1) ∧ uO M1 r (lnSide w s p) 22 := by
  rw [eq_readsFirst]
  unfold lnSide
  by_cases c4 : w = 4
  · rw [if_pos (by omega), if_pos c4]
    obtain ⟨r, M1, e, o⟩ := s_readsPlace h
    rw [gI_bb e]
    generalize (if hd s = 46 then ((0, 0, p + 1, s.tail) : pR) else pPath 4 s p) = y at o ⊢
    by_cases q : y.1 = 0
    · obtain ⟨rfl, o1, o2⟩ := o.1 q
      refine ⟨1, _, rfl, fun _ => ⟨rfl, uR_of o1 (gU_idx (by decide)) (gU_idx (by decide)) (gU_cell _ _ _ (by decide)), ?_⟩, fun z => absurd q z⟩
      rw [gU_same]; exact o2
    · obtain ⟨rfl, o1⟩ := o.2 q
      exact ⟨0, M1, rfl, fun z => absurd z q, fun _ => ⟨rfl, o1⟩⟩
  · rw [if_neg (by omega), if_neg c4]
    by_cases c5 : w = 5
    · rw [if_pos (by omega), if_pos c5]
      obtain ⟨r, M1, e, o⟩ := s_readsContent h
      rw [gI_bb e]; exact ⟨r, M1, rfl, o⟩
    · rw [if_neg (by omega), if_neg c5, if_pos (show w = 6 by omega)]
      obtain ⟨r, M1, e, o⟩ := s_readsLetters h
      rw [gI_bb e]; exact ⟨r, M1, rfl, o⟩
/-- the sign > -/
theorem s_gt {cs : List kC} {M : gM} {l : Int → Int} {st p c : Int} {s : List Int} {pl : kP} {T : Nat} (h : vS cs M st l p s pl T) (hc : 0 ≤ c) : ∃ r M1, F_takesSign M c = some (r, M1) ∧ (hd s = c → r = 1 ∧ vS cs M1 st l (p + 1) s.tail pl T ∧ M1 711 22 = M 711 22 ∧ M1 711 19 = p + 1) ∧ (hd s ≠ c → r = 0 ∧ M1 711 21 = -1000 - p ∧ M1 729 = M 729) := by
  obtain ⟨r, M1, e, o1, o2⟩ := s_takesSign h.2.1 hc
  have f : gFr [] [19, 21] M M1 := fr_takesSign e
  refine ⟨r, M1, e, fun q => ?_, fun q => ⟨(o2 q).1, (o2 q).2, fr9 f⟩⟩
  obtain ⟨a, b, c2⟩ := o1 q
  exact ⟨a, vS_k h f (by decide) b, by rw [f.2 22 (by decide)], b.1⟩
theorem s_readsPair {cs : List kC} {M : gM} {l : Int → Int} {n st p : Int} {s : List Int} {pl : kP} {T w : Nat} (h : vS cs M st l p s pl T) (hst : 0 ≤ st ∧ st ≤ 260) (hw : 4 ≤ w ∧ w ≤ 6) (hr : lnRoom w pl) : ∃ r M1, F_readsPair M ((w : Int) - 1) = some (r, M1) ∧ vO cs M1 r st l (lnPair n st w pl T s p) := by
  have hl := uR_len h.2.1
  have hroom : (pl.1 (w - 2)).length < 4 := by unfold lnRoom at hr; rwa [if_neg (by omega)] at hr
  have half : ∀ (than : Int) (s : List Int) (p : Int), lnHalf n than w s p = lnSide w s p := fun than s p => by unfold lnHalf; rw [if_neg (by omega)]
  have hwi : (w : Int) - 1 = ((w - 2 : Nat) : Int) + 1 := by omega
  obtain ⟨r, M1, e, o⟩ := s_readsFirst (w := w) h.2.1 hw
  have f : gFr [] [19, 21, 22, 23] M M1 := fr_readsFirst e
  have ha := lnHalf_adv n (-1) w s p
  rw [half] at ha
  rw [eq_readsPair, gI_bb e]
  unfold lnPair
  rw [half]
  by_cases q : (lnSide w s p).1 = 0
  · obtain ⟨rfl, o1, o2⟩ := o.1 q
    have h1 := vS_k h f (by decide) o1
    rw [if_neg (show ¬ (lnSide w s p).1 ≠ 0 from fun z => z q)]
    show ∃ r0 M9, (if (1 : Int) = 0 then _ else _) = some (r0, M9) ∧ _
    rw [if_neg (show ¬ (1 : Int) = 0 by decide)]
    show ∃ r0 M9, (F_isNamed M1 ((w : Int) - 1) (M1 711 22)).bind _ = some (r0, M9) ∧ _
    rw [hwi, gI_bb (s_isNamed h1.2.2.1 (by omega)), o2]
    by_cases q2 : 0 ≤ qFind (lnSide w s p).2.1 (pl.1 (w - 2)) 0
    · rw [if_pos q2, decide_eq_true q2, if_neg bIt, h.2.2.2.1]
      show ∃ r0 M9, (F_wrongAt M1 6 st).bind _ = some (r0, M9) ∧ _
      rw [gI_bb (s_wrongAt (by decide) hst)]
      exact ⟨0, gU M1 711 21 (-1000 * 6 - st), rfl, vO_w h1 (by omega) (by omega)⟩
    · rw [if_neg q2, decide_eq_false q2, if_pos bIf]
      obtain ⟨r2, M2, e2, g1, g2⟩ := s_gt (c := 62) h1 (by decide)
      show ∃ r0 M9, (F_takesSign M1 62).bind _ = some (r0, M9) ∧ _
      rw [gI_bb e2]
      by_cases q3 : hd (lnSide w s p).2.2.2 = 62
      · obtain ⟨rfl, h2, -, -⟩ := g1 q3
        rw [if_neg (show ¬ hd (lnSide w s p).2.2.2 ≠ 62 from fun z => z q3)]
        show ∃ r0 M9, (if (1 : Int) = 0 then _ else _) = some (r0, M9) ∧ _
        rw [if_neg (show ¬ (1 : Int) = 0 by decide)]
        obtain ⟨r3, M3, e3, o3⟩ := s_readsFirst (w := w) h2.2.1 hw
        have f3 : gFr [] [19, 21, 22, 23] M2 M3 := fr_readsFirst e3
        show ∃ r0 M9, (F_readsFirst M2 (((w - 2 : Nat) : Int) + 1)).bind _ = some (r0, M9) ∧ _
        rw [← hwi, gI_bb e3]
        generalize (lnSide w s p).2.2.2.tail = s1 at h2 o3 ⊢
        generalize (lnSide w s p).2.2.1 + 1 = p1 at h2 o3 ⊢
        unfold lnTwo
        rw [if_neg (show ¬ (w = 7 ∧ hd s1 = 46) from fun z => by omega), half]
        by_cases q4 : (lnSide w s1 p1).1 = 0
        · obtain ⟨rfl, k1, k2⟩ := o3.1 q4
          have h3 := vS_k h2 f3 (by decide) k1
          rw [if_pos q4]
          show ∃ r0 M9, (if (1 : Int) = 0 then _ else _) = some (r0, M9) ∧ _
          rw [if_neg (show ¬ (1 : Int) = 0 by decide)]
          obtain ⟨M4, e4, h4⟩ := vS_add (i := w - 2) (k := (lnSide w s p).2.1) (v := (lnSide w s1 p1).2.1) h3 (by omega) hroom
          show ∃ r0 M9, (F_adds M3 ((w : Int) - 1) (M1 711 22) (M3 711 22)).bind _ = some (r0, M9) ∧ _
          rw [o2, k2, hwi, gI_bb e4]
          exact ⟨1, M4, rfl, fun _ => ⟨rfl, h4⟩, fun z => absurd rfl z⟩
        · obtain ⟨rfl, k1⟩ := o3.2 q4
          rw [if_neg q4]
          exact ⟨0, M3, rfl, vO_bad h2 (fr9 f3) q4 k1⟩
      · obtain ⟨rfl, k1, k9⟩ := g2 q3
        rw [if_pos (show hd (lnSide w s p).2.2.2 ≠ 62 from q3)]
        exact ⟨0, M2, rfl, vO_bad h1 k9 (by have := ha.1; have := ha.2; omega) k1⟩
  · obtain ⟨rfl, o1⟩ := o.2 q
    rw [if_pos (show (lnSide w s p).1 ≠ 0 from q)]
    exact ⟨0, M1, rfl, vO_bad h (fr9 f) q o1⟩
