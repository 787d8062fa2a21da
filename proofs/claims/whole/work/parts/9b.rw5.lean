-- ==== the reference: grafts, signs, what is told once
theorem vS_sg {cs : List kC} {M : gM} {l : Int → Int} {st p c : Int} {s r : List Int} {pl : kP} {T : Nat} (h : vS cs M st l p s pl T) (e : s = c :: r) : vS cs (gU M 711 19 (gw32 (M 711 19 + 1))) st l (p + 1) r pl T := by
  subst e
  have hl := uR_len h.2.1
  rw [List.length_cons] at hl
  have e1 : gw32 (M 711 19 + 1) = p + 1 := by rw [h.2.1.1]; exact gw32_id (by omega) (by omega)
  rw [e1]
  exact vS_k h (gFr_f (F := [19]) (gFr_r [] [19] M) (by decide)) (by decide) (uR_tl h.2.1 rfl (gU_same _ _ _ _) (gU_idx (by decide)) (gU_cell _ _ _ (by decide)))
theorem s_readsGraft {cs : List kC} {M : gM} {l : Int → Int} {st p : Int} {s : List Int} {pl : kP} {T : Nat} (h : vS cs M st l p s pl T) (hst : 0 ≤ st ∧ st ≤ 260) (hr : (pl.1 5).length < 4) : ∃ r M1, F_readsGraft M = some (r, M1) ∧ vO cs M1 r st l (lnPair (cs.length : Int) st 7 pl T s p) := by
  have hl := uR_len h.2.1
  have half : ∀ (than : Int) (s : List Int) (p : Int), lnHalf (cs.length : Int) than 7 s p = lnCom (cs.length : Int) than s p := fun than s p => by unfold lnHalf; rw [if_pos rfl]
  obtain ⟨r, M1, e, o⟩ := s_readsNumber h.2.1
  have f : gFr [] [19, 21, 22] M M1 := fr_readsNumber e
  have ha := pDigits_adv 3 0 s p
  rw [eq_readsGraft, gI_bb e]
  unfold lnPair
  rw [half]
  by_cases q : (pDigits 3 0 s p).1 = 0
  · obtain ⟨rfl, o1, o2⟩ := o.1 q
    have h1 := vS_k h f (by decide) o1
    have rg := pDigits_rng (k := 3) (v := 0) hl.1 (by decide) q
    show ∃ r0 M9, (if (1 : Int) = 0 then _ else _) = some (r0, M9) ∧ _
    rw [if_neg (show ¬ (1 : Int) = 0 by decide)]
    show ∃ r0 M9, (F_isCommit M1 (M1 711 22)).bind _ = some (r0, M9) ∧ _
    rw [gI_bb (s_isCommit h1.1 _), o2, h.2.1.1]
    by_cases q1 : (cs.length : Int) ≤ (pDigits 3 0 s p).2.1
    · have hC : lnCom (cs.length : Int) (-1) s p = (-9000 - p, (pDigits 3 0 s p).2) := by unfold lnCom; rw [if_pos q, if_pos q1]
      rw [hC, if_pos (show (-9000 - p : Int) ≠ 0 by omega), decide_eq_false (by omega), if_pos bIf]
      show ∃ r0 M9, (F_wrongAt M1 9 p).bind _ = some (r0, M9) ∧ _
      rw [gI_bb (s_wrongAt (by decide) (by omega))]
      exact ⟨0, gU M1 711 21 (-1000 * 9 - p), rfl, vO_w h1 (show (-9000 - p : Int) ≠ 0 by omega) (show (-9000 - p : Int) = _ by omega)⟩
    · have hC : lnCom (cs.length : Int) (-1) s p = pDigits 3 0 s p := by unfold lnCom; rw [if_pos q, if_neg q1, if_neg (fun w => by omega)]
      rw [hC, if_neg (show ¬ (pDigits 3 0 s p).1 ≠ 0 from fun z => z q), decide_eq_true (show 0 ≤ (pDigits 3 0 s p).2.1 ∧ (pDigits 3 0 s p).2.1 < (cs.length : Int) by omega), if_neg bIt]
      have hN : F_isNamed M1 6 (pDigits 3 0 s p).2.1 = some (bI (decide (0 ≤ qFind (pDigits 3 0 s p).2.1 (pl.1 5) 0))) := s_isNamed (i := 5) h1.2.2.1 (by decide)
      show ∃ r0 M9, (F_isNamed M1 6 (M1 711 22)).bind _ = some (r0, M9) ∧ _
      rw [o2, gI_bb hN]
      show ∃ r0 M9, _ = some (r0, M9) ∧ vO cs M9 r0 st l (if 0 ≤ qFind (pDigits 3 0 s p).2.1 (pl.1 5) 0 then _ else _)
      generalize hk : (pDigits 3 0 s p).2.1 = k at *
      by_cases q2 : 0 ≤ qFind k (pl.1 5) 0
      · rw [if_pos q2, decide_eq_true q2, if_neg bIt, h.2.2.2.1]
        show ∃ r0 M9, (F_wrongAt M1 6 st).bind _ = some (r0, M9) ∧ _
        rw [gI_bb (s_wrongAt (by decide) hst)]
        exact ⟨0, gU M1 711 21 (-1000 * 6 - st), rfl, vO_w h1 (by omega) (by omega)⟩
      · rw [if_neg q2, decide_eq_false q2, if_pos bIf]
        obtain ⟨r2, M2, e2, g1, g2⟩ := s_gt (c := 62) h1 (by decide)
        show ∃ r0 M9, (F_takesSign M1 62).bind _ = some (r0, M9) ∧ _
        rw [gI_bb e2]
        by_cases q3 : hd (pDigits 3 0 s p).2.2.2 = 62
        · obtain ⟨rfl, h2, -, h19⟩ := g1 q3
          rw [if_neg (show ¬ hd (pDigits 3 0 s p).2.2.2 ≠ 62 from fun z => z q3)]
          show ∃ r0 M9, (if (1 : Int) = 0 then _ else _) = some (r0, M9) ∧ _
          rw [if_neg (show ¬ (1 : Int) = 0 by decide)]
          have ht : (pDigits 3 0 s p).2.2.2.tail.length + 1 = (pDigits 3 0 s p).2.2.2.length := by
            cases hh : (pDigits 3 0 s p).2.2.2 with
            | nil => rw [hh] at q3; exact absurd q3 (by decide)
            | cons c r => rfl
          have hp1 : (pDigits 3 0 s p).2.2.1 + 1 + ((pDigits 3 0 s p).2.2.2.tail.length : Int) = p + (s.length : Int) ∧ p + 1 ≤ (pDigits 3 0 s p).2.2.1 + 1 := by
            have := ha.1; have := ha.2; omega
          generalize (pDigits 3 0 s p).2.2.2.tail = s1 at h2 hp1 ⊢
          generalize (pDigits 3 0 s p).2.2.1 + 1 = p1 at h2 hp1 h19 ⊢
          show ∃ r0 M9, (F_here M2).bind _ = some (r0, M9) ∧ _
          rw [gI_bb (s_here h2.2.1)]
          unfold lnTwo
          rw [half]
          by_cases q5 : hd s1 = 46
          · rw [if_pos q5, if_pos (show (7 : Nat) = 7 ∧ hd s1 = 46 from ⟨rfl, q5⟩)]
            cases s1 with
            | nil => exact absurd q5 (by decide)
            | cons c rr =>
              have h3 := vS_sg h2 rfl
              obtain ⟨M4, e4, h4⟩ := vS_add (i := 5) (k := k) (v := -1) h3 (by decide) hr
              have e4 : F_adds (gU M2 711 19 (gw32 (M2 711 19 + 1))) 6 k (-1) = some (1, M4) := e4
              show ∃ r0 M9, (F_adds (gU M2 711 19 (gw32 (M2 711 19 + 1))) 6 (M1 711 22) (-1)).bind _ = some (r0, M9) ∧ _
              rw [o2, gI_bb e4]
              exact ⟨1, M4, rfl, fun _ => ⟨rfl, h4⟩, fun z => absurd rfl z⟩
          · rw [if_neg q5, if_neg (show ¬ ((7 : Nat) = 7 ∧ hd s1 = 46) from fun z => q5 z.2)]
            obtain ⟨r3, M3, e3, o3⟩ := s_readsNumber h2.2.1
            have f3 : gFr [] [19, 21, 22] M2 M3 := fr_readsNumber e3
            show ∃ r0 M9, (F_readsNumber M2).bind _ = some (r0, M9) ∧ _
            rw [gI_bb e3]
            by_cases q4 : (pDigits 3 0 s1 p1).1 = 0
            · obtain ⟨rfl, k1, k2⟩ := o3.1 q4
              have h3 := vS_k h2 f3 (by decide) k1
              have rg1 := pDigits_rng (k := 3) (v := 0) (show 0 ≤ p1 by omega) (by decide) q4
              show ∃ r0 M9, (if (1 : Int) = 0 then _ else _) = some (r0, M9) ∧ _
              rw [if_neg (show ¬ (1 : Int) = 0 by decide)]
              show ∃ r0 M9, (F_isCommit M3 (M3 711 22)).bind _ = some (r0, M9) ∧ _
              rw [gI_bb (s_isCommit h3.1 _), k2]
              by_cases q6 : (cs.length : Int) ≤ (pDigits 3 0 s1 p1).2.1
              · have hC : lnCom (cs.length : Int) k s1 p1 = (-9000 - p1, (pDigits 3 0 s1 p1).2) := by unfold lnCom; rw [if_pos q4, if_pos q6]
                rw [hC, if_neg (show ¬ (-9000 - p1 : Int) = 0 by omega), decide_eq_false (by omega), if_pos bIf]
                show ∃ r0 M9, (F_wrongAt M3 9 (M2 711 19)).bind _ = some (r0, M9) ∧ _
                rw [h19, gI_bb (s_wrongAt (by decide) (by omega))]
                exact ⟨0, gU M3 711 21 (-1000 * 9 - p1), rfl, vO_w h3 (show (-9000 - p1 : Int) ≠ 0 by omega) (show (-9000 - p1 : Int) = _ by omega)⟩
              · rw [decide_eq_true (show 0 ≤ (pDigits 3 0 s1 p1).2.1 ∧ (pDigits 3 0 s1 p1).2.1 < (cs.length : Int) by omega), if_neg bIt]
                by_cases q7 : k ≤ (pDigits 3 0 s1 p1).2.1
                · have hC : lnCom (cs.length : Int) k s1 p1 = (-7000 - p1, (pDigits 3 0 s1 p1).2) := by unfold lnCom; rw [if_pos q4, if_neg q6, if_pos (by omega)]
                  rw [hC, if_neg (show ¬ (-7000 - p1 : Int) = 0 by omega)]
                  show ∃ r0 M9, (if M3 711 22 < M1 711 22 then _ else _) = some (r0, M9) ∧ _
                  rw [k2, o2, if_neg (by omega)]
                  show ∃ r0 M9, (F_wrongAt M3 7 (M2 711 19)).bind _ = some (r0, M9) ∧ _
                  rw [h19, gI_bb (s_wrongAt (by decide) (by omega))]
                  exact ⟨0, gU M3 711 21 (-1000 * 7 - p1), rfl, vO_w h3 (show (-7000 - p1 : Int) ≠ 0 by omega) (show (-7000 - p1 : Int) = _ by omega)⟩
                · have hC : lnCom (cs.length : Int) k s1 p1 = pDigits 3 0 s1 p1 := by unfold lnCom; rw [if_pos q4, if_neg q6, if_neg (fun w => q7 w.2)]
                  rw [hC, if_pos q4]
                  show ∃ r0 M9, (if M3 711 22 < M1 711 22 then _ else _) = some (r0, M9) ∧ _
                  rw [k2, o2, if_pos (by omega)]
                  obtain ⟨M4, e4, h4⟩ := vS_add (i := 5) (k := k) (v := (pDigits 3 0 s1 p1).2.1) h3 (by decide) hr
                  have e4 : F_adds M3 6 k (pDigits 3 0 s1 p1).2.1 = some (1, M4) := e4
                  show ∃ r0 M9, (F_adds M3 6 (M1 711 22) (M3 711 22)).bind _ = some (r0, M9) ∧ _
                  rw [o2, k2, gI_bb e4]
                  exact ⟨1, M4, rfl, fun _ => ⟨rfl, h4⟩, fun z => absurd rfl z⟩
            · obtain ⟨rfl, k1⟩ := o3.2 q4
              have hC : lnCom (cs.length : Int) k s1 p1 = pDigits 3 0 s1 p1 := by unfold lnCom; rw [if_neg q4]
              rw [hC, if_neg q4]
              exact ⟨0, M3, rfl, vO_bad h2 (fr9 f3) q4 k1⟩
        · obtain ⟨rfl, k1, k9⟩ := g2 q3
          rw [if_pos (show hd (pDigits 3 0 s p).2.2.2 ≠ 62 from q3)]
          exact ⟨0, M2, rfl, vO_bad h1 k9 (by have := ha.1; have := ha.2; omega) k1⟩
  · obtain ⟨rfl, o1⟩ := o.2 q
    have hC : lnCom (cs.length : Int) (-1) s p = pDigits 3 0 s p := by unfold lnCom; rw [if_neg q]
    rw [hC, if_pos (show (pDigits 3 0 s p).1 ≠ 0 from q)]
    exact ⟨0, M1, rfl, vO_bad h (fr9 f) q o1⟩
-- ---- signs
theorem qGet_no {w : Int} : ∀ {ps : List (Int × Int)}, qFind w ps 0 < 0 → qGet w ps = none := fun {ps} h => by
  rcases qFind_sp w ps 0 with ⟨-, b⟩ | ⟨pre, suf, v, -, b, -⟩
  · exact b
  · rw [b] at h; omega
theorem qGet_yes {w : Int} {ps : List (Int × Int)} (h : 0 ≤ qFind w ps 0) (hv : ∀ x ∈ ps, 0 ≤ x.2) : ∃ v, qGet w ps = some v ∧ 0 ≤ v := by
  rcases qFind_sp w ps 0 with ⟨a, -⟩ | ⟨pre, suf, v, e, -, b⟩
  · rw [a] at h; exact absurd h (by decide)
  · exact ⟨v, b, hv (w, v) (by rw [e]; simp)⟩
theorem qGet_snoc {w k v : Int} : ∀ {ps : List (Int × Int)}, qGet k ps = none → qGet w (ps ++ [(k, v)]) = if w = k then some v else qGet w ps
  | [], _ => by
    show (if k = w then some v else none) = _
    by_cases e : w = k
    · rw [if_pos e, if_pos e.symm]
    · rw [if_neg e, if_neg (fun z => e z.symm)]; rfl
  | x :: r, h => by
    have un : ∀ (w : Int) (l : List (Int × Int)), qGet w (x :: l) = if x.1 = w then some x.2 else qGet w l := fun _ _ => rfl
    rw [un] at h
    by_cases e : x.1 = k
    · rw [if_pos e] at h; cases h
    · rw [if_neg e] at h
      show qGet w (x :: (r ++ [(k, v)])) = _
      rw [un, un, qGet_snoc h]
      by_cases e1 : x.1 = w
      · rw [if_pos e1, if_pos e1, if_neg (fun z => e (by rw [e1, z]))]
      · rw [if_neg e1, if_neg e1]
theorem vPt_sign {M M1 : gM} {pl : kP} {T : Nat} {k v : Int} (h : vPt M pl T) (hk : 0 ≤ k ∧ k ≤ 9) (hf : qFind k (pl.1 6) 0 < 0) (e : ∀ q : Int, q ≠ 330 + k → q ≠ 281 → M1 729 q = M 729 q) (e1 : M1 729 (330 + k) = v) (e2 : M1 729 281 = M 729 281 + 1) : vPt M1 (lnAdd pl 6 (k, v)) T := by
  obtain ⟨⟨a1, a2, a3, a4, a5, a6, a7, a8, a9, a10, a11⟩, b, c⟩ := h
  have e6 : (lnAdd pl 6 (k, v)).1 6 = pl.1 6 ++ [(k, v)] := rfl
  refine ⟨?_, fun i hi => ?_, fun w w0 w1 => ?_⟩
  · rw [e6, List.length_append, List.length_singleton]
    exact ⟨by rw [e _ (by omega) (by omega)]; exact a1, by rw [e _ (by omega) (by omega)]; exact a2, by rw [e _ (by omega) (by omega)]; exact a3, by rw [e2, a4]; omega, by rw [e _ (by omega) (by omega)]; exact a5, by rw [e _ (by omega) (by omega)]; exact a6, by rw [e _ (by omega) (by omega)]; exact a7, by rw [e _ (by omega) (by omega)]; exact a8, by rw [e _ (by omega) (by omega)]; exact a9, by rw [e _ (by omega) (by omega)]; exact a10, by rw [e _ (by omega) (by omega)]; exact a11⟩
  · have ei : (lnAdd pl 6 (k, v)).1 i = pl.1 i := if_neg (by omega)
    obtain ⟨b1, b2, b3, b4⟩ := b i hi
    have hu := uL1_rng hi
    rw [ei]
    refine ⟨by rw [e _ (by omega) (by omega)]; exact b1, b2, rw_congr b3 (fun q q0 q1 => e q ?_ ?_), fun h2 => rw_congr (b4 h2) (fun q q0 q1 => e q ?_ ?_)⟩
    · rw [List.length_map] at q1; omega
    · omega
    · rw [List.length_map] at q1; have := hu.2.2 h2; omega
    · omega
  · rw [e6, qGet_snoc (qGet_no hf)]
    by_cases ew : w = k
    · rw [if_pos ew, ew, e1]; rfl
    · rw [if_neg ew, e _ (by omega) (by omega)]; exact c w w0 w1
theorem s_readsSign {cs : List kC} {M : gM} {l : Int → Int} {n st p : Int} {s : List Int} {pl : kP} {T : Nat} (h : vS cs M st l p s pl T) (hst : 0 ≤ st ∧ st ≤ 260) (hsg : sgOk pl) (hv : ∀ x ∈ pl.1 6, 0 ≤ x.2) : ∃ r M1, F_readsSign M = some (r, M1) ∧ vO cs M1 r st l (lnPair n st 8 pl T s p) := by
  have hl := uR_len h.2.1
  have half : ∀ (than : Int) (s : List Int) (p : Int), lnHalf n than 8 s p = pDigit 0 9 s p := fun than s p => rfl
  obtain ⟨r, M1, e, o⟩ := s_readsUpTo (lo := 0) (hi := 9) h.2.1
  have f : gFr [] [19, 21, 22] M M1 := fr_readsUpTo e
  have ha := pDigit_adv 0 9 s p
  rw [eq_readsSign, gI_bb e]
  unfold lnPair
  rw [half]
  by_cases q : (pDigit 0 9 s p).1 = 0
  · obtain ⟨rfl, o1, o2⟩ := o.1 q
    have h1 := vS_k h f (by decide) o1
    have rg := pDigit_ok hl.1 q
    rw [if_neg (show ¬ (pDigit 0 9 s p).1 ≠ 0 from fun z => z q)]
    show ∃ r0 M9, (if (1 : Int) = 0 then _ else _) = some (r0, M9) ∧ _
    rw [if_neg (show ¬ (1 : Int) = 0 by decide)]
    show ∃ r0 M9, (if 0 ≤ (gw32 ((330 : Int) + (M1 711 22))) ∧ (gw32 ((330 : Int) + (M1 711 22))) < 340 then (if (M1 729 (gw32 ((330 : Int) + (M1 711 22)))) = -1 then _ else _) else none) = some (r0, M9) ∧ vO cs M9 r0 st l (if 0 ≤ qFind (pDigit 0 9 s p).2.1 (pl.1 6) 0 then _ else _)
    rw [o2, gw32_id (by omega) (by omega), if_pos (by omega), h1.2.2.1.2.2 _ rg.1 (by omega)]
    by_cases q2 : 0 ≤ qFind (pDigit 0 9 s p).2.1 (pl.1 6) 0
    · obtain ⟨v, ev, v0⟩ := qGet_yes q2 hv
      rw [if_pos q2, ev, if_neg (show ¬ (some v).getD (-1) = -1 from fun z => by have z : v = -1 := z; omega), h.2.2.2.1]
      show ∃ r0 M9, (F_wrongAt M1 6 st).bind _ = some (r0, M9) ∧ _
      rw [gI_bb (s_wrongAt (by decide) hst)]
      exact ⟨0, gU M1 711 21 (-1000 * 6 - st), rfl, vO_w h1 (by omega) (by omega)⟩
    · rw [if_neg q2, qGet_no (Int.not_le.mp q2), if_pos (show (none : Option Int).getD (-1) = -1 from rfl)]
      obtain ⟨r2, M2, e2, g1, g2⟩ := s_gt (c := 62) h1 (by decide)
      show ∃ r0 M9, (F_takesSign M1 62).bind _ = some (r0, M9) ∧ _
      rw [gI_bb e2]
      by_cases q3 : hd (pDigit 0 9 s p).2.2.2 = 62
      · obtain ⟨rfl, h2, -, -⟩ := g1 q3
        rw [if_neg (show ¬ hd (pDigit 0 9 s p).2.2.2 ≠ 62 from fun z => z q3)]
        show ∃ r0 M9, (if (1 : Int) = 0 then _ else _) = some (r0, M9) ∧ _
        rw [if_neg (show ¬ (1 : Int) = 0 by decide)]
        obtain ⟨r3, M3, e3, o3⟩ := s_readsUpTo (lo := 0) (hi := 9) h2.2.1
        have f3 : gFr [] [19, 21, 22] M2 M3 := fr_readsUpTo e3
        show ∃ r0 M9, (F_readsUpTo M2 0 9).bind _ = some (r0, M9) ∧ _
        rw [gI_bb e3]
        generalize hk : (pDigit 0 9 s p).2.1 = k at *
        generalize (pDigit 0 9 s p).2.2.2.tail = s1 at h2 o3 ⊢
        generalize (pDigit 0 9 s p).2.2.1 + 1 = p1 at h2 o3 ⊢
        unfold lnTwo
        rw [if_neg (show ¬ ((8 : Nat) = 7 ∧ hd s1 = 46) from fun z => by omega), half]
        by_cases q4 : (pDigit 0 9 s1 p1).1 = 0
        · obtain ⟨rfl, k1, k2⟩ := o3.1 q4
          have h3 := vS_k h2 f3 (by decide) k1
          rw [if_pos q4]
          show ∃ r0 M9, (if (1 : Int) = 0 then _ else _) = some (r0, M9) ∧ _
          rw [if_neg (show ¬ (1 : Int) = 0 by decide)]
          show ∃ r0 M9, some ((1 : Int), gU (gU M3 729 (gw32 (330 + M1 711 22)) (M3 711 22)) 729 281 (gw32 ((gU M3 729 (gw32 (330 + M1 711 22)) (M3 711 22)) 729 281 + 1))) = some (r0, M9) ∧ _
          obtain ⟨sl, -⟩ := sg_add (v := 0) hsg rg (Int.not_le.mp q2)
          have a4 : M3 729 281 = ((pl.1 6).length : Int) := h3.2.2.1.1.2.2.2.1
          rw [o2, k2, gw32_id (z := 330 + k) (by omega) (by omega), gU_idx (by omega), gw32_id (z := M3 729 281 + 1) (by omega) (by omega)]
          refine ⟨1, _, rfl, fun _ => ⟨rfl, ?_⟩, fun z => absurd rfl z⟩
          obtain ⟨b1, b2, b3, b4, b5⟩ := h3
          have ec : ∀ b : Int, b ≠ 729 → (gU (gU M3 729 (330 + k) (pDigit 0 9 s1 p1).2.1) 729 281 (M3 729 281 + 1)) b = M3 b := fun b hb => by rw [gU_cell _ _ _ hb, gU_cell _ _ _ hb]
          exact ⟨uC_same b1 (by rw [ec 711 (by decide)]) (fun b b0 b1 => ec b (by omega)), uR_of b2 (by rw [ec 711 (by decide)]) (by rw [ec 711 (by decide)]) (ec 726 (by decide)), vPt_sign b3 rg (Int.not_le.mp q2) (fun x x0 x1 => by rw [gU_idx x1, gU_idx x0]) (by rw [gU_idx (by omega), gU_same]) (gU_same _ _ _ _), by rw [ec 711 (by decide)]; exact b4, fun x hx => by rw [gU_idx (by omega), gU_idx (by omega)]; exact b5 x hx⟩
        · obtain ⟨rfl, k1⟩ := o3.2 q4
          rw [if_neg q4]
          exact ⟨0, M3, rfl, vO_bad h2 (fr9 f3) q4 k1⟩
      · obtain ⟨rfl, k1, k9⟩ := g2 q3
        rw [if_pos (show hd (pDigit 0 9 s p).2.2.2 ≠ 62 from q3)]
        exact ⟨0, M2, rfl, vO_bad h1 k9 (by have := ha.1; have := ha.2; omega) k1⟩
  · obtain ⟨rfl, o1⟩ := o.2 q
    rw [if_pos (show (pDigit 0 9 s p).1 ≠ 0 from q)]
    exact ⟨0, M1, rfl, vO_bad h (fr9 f) q o1⟩
