-- ==== the reference: settings, LINES
theorem vPt_set {M : gM} {pl : kP} {T f : Nat} {v : Int} (h : vPt M pl T) (hf : f = 2 ∨ f = 3 ∨ (11 ≤ f ∧ f ≤ 16)) : vPt (gU M 729 (271 + (f : Int)) v) (lnSet pl f v) T := by
  obtain ⟨⟨a1, a2, a3, a4, a5, a6, a7, a8, a9, a10, a11⟩, b, c⟩ := h
  have k : ∀ g : Nat, (g = 2 ∨ g = 3 ∨ (11 ≤ g ∧ g ≤ 16)) → M 729 (271 + (g : Int)) = pl.2.1 g → gU M 729 (271 + (f : Int)) v 729 (271 + (g : Int)) = (lnSet pl f v).2.1 g := fun g hg e => by
    show _ = (if g = f then v else pl.2.1 g)
    by_cases q : g = f
    · rw [if_pos q, q, gU_same]
    · rw [if_neg q, gU_idx (by omega)]; exact e
  have o : ∀ q : Int, (q < 273 ∨ (274 < q ∧ q < 282) ∨ 287 < q) → gU M 729 (271 + (f : Int)) v 729 q = M 729 q := fun q hq => gU_idx (by omega)
  refine ⟨⟨by rw [o _ (by decide)]; exact a1, k 2 (by decide) a2, k 3 (by decide) a3, by rw [o _ (by decide)]; exact a4, k 11 (by decide) a5, k 12 (by decide) a6, k 13 (by decide) a7, k 14 (by decide) a8, k 15 (by decide) a9, k 16 (by decide) a10, by rw [o _ (by decide)]; exact a11⟩, fun i hi => ?_, fun w w0 w1 => by rw [o _ (by omega)]; exact c w w0 w1⟩
  obtain ⟨b1, b2, b3, b4⟩ := b i hi
  have hu := uL1_rng hi
  exact ⟨by rw [o _ (by omega)]; exact b1, b2, rw_congr b3 (fun q q0 q1 => o q (by omega)), fun h2 => rw_congr (b4 h2) (fun q q0 q1 => o q (by omega))⟩
theorem vS_set {cs : List kC} {M : gM} {l : Int → Int} {st p : Int} {s : List Int} {pl : kP} {T f : Nat} {v : Int} (h : vS cs M st l p s pl T) (hf : f = 2 ∨ f = 3 ∨ (11 ≤ f ∧ f ≤ 16)) : vS cs (gU M 729 (271 + (f : Int)) v) st l p s (lnSet pl f v) T := by
  obtain ⟨b1, b2, b3, b4, b5⟩ := h
  have ec : ∀ b : Int, b ≠ 729 → (gU M 729 (271 + (f : Int)) v) b = M b := fun b hb => gU_cell _ _ _ hb
  exact ⟨uC_same b1 (by rw [ec 711 (by decide)]) (fun b b0 b1 => ec b (by omega)), uR_of b2 (by rw [ec 711 (by decide)]) (by rw [ec 711 (by decide)]) (ec 726 (by decide)), vPt_set b3 hf, by rw [ec 711 (by decide)]; exact b4, fun x hx => by rw [gU_idx (by omega)]; exact b5 x hx⟩
/-- one digit or number that is laid -/
theorem s_lays {cs : List kC} {M M1 : gM} {l : Int → Int} {st p r : Int} {s : List Int} {pl : kP} {T f : Nat} {y : pR} {F : List Int} (h : vS cs M st l p s pl T) (hf : f = 2 ∨ f = 3 ∨ (11 ≤ f ∧ f ≤ 16)) (hfr : gFr [] F M M1) (hF : (0 : Int) ∉ F ∧ (30 : Int) ∉ F) (o : uO M1 r y 22) : vO cs (gU M1 729 (271 + (f : Int)) (M1 711 22)) r st l (lnOf y (lnSet pl f y.2.1) T) := by
  unfold lnOf
  by_cases q : y.1 = 0
  · obtain ⟨rfl, o1, o2⟩ := o.1 q
    rw [if_pos q, o2]
    exact ⟨fun _ => ⟨rfl, vS_set (vS_k h hfr hF o1) hf⟩, fun w => absurd rfl w⟩
  · obtain ⟨rfl, o1⟩ := o.2 q
    rw [if_neg q]
    exact ⟨fun w => absurd w q, fun _ => ⟨rfl, by rw [gU_cell _ _ _ (by decide)]; exact o1, fun x hx => by rw [gU_idx (by omega), fr9 hfr]; exact h.2.2.2.2 x (Or.inl hx)⟩⟩
theorem s_readsOnce {cs : List kC} {M : gM} {l : Int → Int} {st p : Int} {s : List Int} {pl : kP} {T w : Nat} (h : vS cs M st l p s pl T) (hw : 10 ≤ w ∧ w ≤ 14) : ∃ r M1, F_readsOnce M ((w : Int) + 1) = some (r, M1) ∧ vO cs M1 r st l (lnSetting w pl T s p) := by
  rw [eq_readsOnce]
  have hc : w = 10 ∨ w = 11 ∨ w = 12 ∨ w = 13 ∨ w = 14 := by omega
  rcases hc with rfl | rfl | rfl | rfl | rfl
  · obtain ⟨r, M1, e, o⟩ := s_readsUpTo (lo := 0) (hi := 3) h.2.1
    rw [if_neg (show ¬ ((10 : Nat) : Int) + 1 = 14 by decide), if_neg (show ¬ ((10 : Nat) : Int) + 1 = 15 by decide), if_pos (show ((10 : Nat) : Int) + 1 = 11 by decide), gI_bb e]
    exact ⟨r, _, rfl, s_lays (f := 12) h (by decide) (fr_readsUpTo e) (by decide) o⟩
  · obtain ⟨r, M1, e, o⟩ := s_readsUpTo (lo := 0) (hi := 2) h.2.1
    rw [if_neg (show ¬ ((11 : Nat) : Int) + 1 = 14 by decide), if_neg (show ¬ ((11 : Nat) : Int) + 1 = 15 by decide), if_neg (show ¬ ((11 : Nat) : Int) + 1 = 11 by decide), gI_bb e]
    exact ⟨r, _, rfl, s_lays (f := 13) h (by decide) (fr_readsUpTo e) (by decide) o⟩
  · obtain ⟨r, M1, e, o⟩ := s_readsUpTo (lo := 0) (hi := 2) h.2.1
    rw [if_neg (show ¬ ((12 : Nat) : Int) + 1 = 14 by decide), if_neg (show ¬ ((12 : Nat) : Int) + 1 = 15 by decide), if_neg (show ¬ ((12 : Nat) : Int) + 1 = 11 by decide), gI_bb e]
    exact ⟨r, _, rfl, s_lays (f := 14) h (by decide) (fr_readsUpTo e) (by decide) o⟩
  · obtain ⟨r, M1, e, o⟩ := s_readsNumber h.2.1
    rw [if_pos (show ((13 : Nat) : Int) + 1 = 14 by decide), gI_bb e]
    exact ⟨r, _, rfl, s_lays (f := 15) h (by decide) (fr_readsNumber e) (by decide) o⟩
  · obtain ⟨r, M1, e, o⟩ := s_readsUpTo (lo := 1) (hi := 6) h.2.1
    rw [if_neg (show ¬ ((14 : Nat) : Int) + 1 = 14 by decide), if_pos (show ((14 : Nat) : Int) + 1 = 15 by decide), gI_bb e]
    exact ⟨r, _, rfl, s_lays (f := 16) h (by decide) (fr_readsUpTo e) (by decide) o⟩
theorem s_readsSkip {cs : List kC} {M : gM} {l : Int → Int} {st p : Int} {s : List Int} {pl : kP} {T : Nat} (h : vS cs M st l p s pl T) : ∃ r M1, F_readsSkip M = some (r, M1) ∧ vO cs M1 r st l (lnSetting 9 pl T s p) := by
  obtain ⟨r, M1, e, o⟩ := s_readsUpTo (lo := 0) (hi := 9) h.2.1
  rw [eq_readsSkip, gI_bb e]
  show ∃ r0 M9, _ = some (r0, M9) ∧ vO cs M9 r0 st l (lnOf (pDigit 0 9 s p) (lnSet pl 11 (gor (pl.2.1 11) (gshl 1 (pDigit 0 9 s p).2.1))) T)
  unfold lnOf
  by_cases q : (pDigit 0 9 s p).1 = 0
  · obtain ⟨rfl, o1, o2⟩ := o.1 q
    have h1 := vS_k h (fr_readsUpTo e) (by decide) o1
    have a5 : M1 729 282 = pl.2.1 11 := h1.2.2.1.1.2.2.2.2.1
    rw [if_pos q]
    refine ⟨1, gU M1 729 282 (gor (M1 729 282) (gshl 1 (M1 711 22))), rfl, fun _ => ⟨rfl, ?_⟩, fun w => absurd rfl w⟩
    rw [a5, o2]
    exact vS_set (f := 11) h1 (by decide)
  · obtain ⟨rfl, o1⟩ := o.2 q
    rw [if_neg q]
    exact ⟨0, M1, rfl, vO_bad h (fr9 (fr_readsUpTo e)) q o1⟩
theorem s_readsList {cs : List kC} {M : gM} {l : Int → Int} {st p : Int} {s : List Int} {pl : kP} {T w : Nat} (h : vS cs M st l p s pl T) (hst : 0 ≤ st ∧ st ≤ 260) (hw : 2 ≤ w ∧ w ≤ 7) (hr : (pl.1 (w - 2)).length < 4) : ∃ r M1, F_readsList M ((w : Int) - 1) = some (r, M1) ∧ vO cs M1 r st l (lnBody (cs.length : Int) st w pl T s p) := by
  rw [eq_readsList]
  unfold lnBody
  by_cases c7 : w = 7
  · subst c7
    rw [if_pos (by decide), if_neg (by decide), if_pos (by decide)]
    obtain ⟨r, M1, e, o⟩ := s_readsGraft h hst hr
    rw [gI_bb e]
    exact ⟨r, M1, rfl, o⟩
  · rw [if_neg (by omega)]
    by_cases c2 : w = 2 ∨ w = 3
    · rw [if_pos (by omega), if_pos c2]
      obtain ⟨r, M1, e, o⟩ := s_readsPath (most := 4) h.2.1 (by decide)
      have e' : F_readsPath M 4 = some (r, M1) := e
      rw [gI_bb e']
      unfold lnOf
      by_cases q : (pPath 4 s p).1 = 0
      · obtain ⟨rfl, o1, o2⟩ := o.1 q
        have h1 := vS_k h (fr_readsPath e) (by decide) o1
        obtain ⟨M2, e2, h2⟩ := vS_add (i := w - 2) (k := (pPath 4 s p).2.1) (v := 0) h1 (by omega) hr
        rw [show (((w - 2 : Nat) : Int) + 1) = (w : Int) - 1 by omega] at e2
        rw [if_pos q]
        show ∃ r0 M9, (if (1 : Int) = 0 then _ else _) = some (r0, M9) ∧ _
        rw [if_neg (show ¬ (1 : Int) = 0 by decide)]
        show ∃ r0 M9, (F_adds M1 ((w : Int) - 1) (M1 711 23) 0).bind _ = some (r0, M9) ∧ _
        rw [o2, gI_bb e2]
        exact ⟨1, M2, rfl, fun _ => ⟨rfl, h2⟩, fun w => absurd rfl w⟩
      · obtain ⟨rfl, o1⟩ := o.2 q
        rw [if_neg q]
        exact ⟨0, M1, rfl, vO_bad h (fr9 (fr_readsPath e)) q o1⟩
    · rw [if_neg (by omega), if_neg c2, if_pos (show 4 ≤ w ∧ w ≤ 8 by omega)]
      obtain ⟨r, M1, e, o⟩ := s_readsPair (n := (cs.length : Int)) (w := w) h hst (by omega) (by unfold lnRoom; rw [if_neg (by omega)]; exact hr)
      rw [gI_bb e]
      exact ⟨r, M1, rfl, o⟩
-- ---- a LINE
theorem b2_all : ∀ T : Nat, T < 32 → ∀ j : Nat, j < 5 → (gand (gshr (2048 * (T : Int)) ((11 + j : Nat) : Int)) 1 = if T.testBit j then 1 else 0) ∧ gor (2048 * (T : Int)) (gshl 1 ((11 + j : Nat) : Int)) = 2048 * ((T ||| (1 <<< j) : Nat) : Int) := by decide +kernel
def dUp (l : Int → Int) : Int → Int := fun q => if q = 288 then l 288 + 1 else l q
theorem vPt_T {M : gM} {pl : kP} {T T2 : Nat} (h : vPt M pl T) : vPt (gU M 729 289 (2048 * (T2 : Int))) pl T2 := by
  obtain ⟨⟨a1, a2, a3, a4, a5, a6, a7, a8, a9, a10, a11⟩, b, c⟩ := h
  have o : ∀ q : Int, q ≠ 289 → gU M 729 289 (2048 * (T2 : Int)) 729 q = M 729 q := fun q hq => gU_idx hq
  refine ⟨⟨by rw [o _ (by decide)]; exact a1, by rw [o _ (by decide)]; exact a2, by rw [o _ (by decide)]; exact a3, by rw [o _ (by decide)]; exact a4, by rw [o _ (by decide)]; exact a5, by rw [o _ (by decide)]; exact a6, by rw [o _ (by decide)]; exact a7, by rw [o _ (by decide)]; exact a8, by rw [o _ (by decide)]; exact a9, by rw [o _ (by decide)]; exact a10, gU_same _ _ _ _⟩, fun i hi => ?_, fun w w0 w1 => by rw [o _ (by omega)]; exact c w w0 w1⟩
  obtain ⟨b1, b2, b3, b4⟩ := b i hi
  have hu := uL1_rng hi
  exact ⟨by rw [o _ (by omega)]; exact b1, b2, rw_congr b3 (fun q q0 q1 => o q (by omega)), fun h2 => rw_congr (b4 h2) (fun q q0 q1 => o q (by omega))⟩
theorem vS_T {cs : List kC} {M : gM} {l : Int → Int} {st p : Int} {s : List Int} {pl : kP} {T T2 : Nat} (h : vS cs M st l p s pl T) : vS cs (gU M 729 289 (2048 * (T2 : Int))) st l p s pl T2 := by
  obtain ⟨b1, b2, b3, b4, b5⟩ := h
  have ec : ∀ b : Int, b ≠ 729 → (gU M 729 289 (2048 * (T2 : Int))) b = M b := fun b hb => gU_cell _ _ _ hb
  exact ⟨uC_same b1 (by rw [ec 711 (by decide)]) (fun b b0 b1 => ec b (by omega)), uR_of b2 (by rw [ec 711 (by decide)]) (by rw [ec 711 (by decide)]) (ec 726 (by decide)), vPt_T b3, by rw [ec 711 (by decide)]; exact b4, fun x hx => by rw [gU_idx (by omega)]; exact b5 x hx⟩
theorem vS_up {cs : List kC} {M : gM} {l : Int → Int} {st p v : Int} {s : List Int} {pl : kP} {T : Nat} (h : vS cs M st l p s pl T) (hl : -2147483648 ≤ l 288 ∧ l 288 < 2147483647) : vS cs (gU M 729 288 (gw32 (M 729 288 + 1))) st (dUp l) p s (lnSet pl 1 v) T := by
  obtain ⟨b1, b2, b3, b4, b5⟩ := h
  have e8 := b5 288 (Or.inr rfl)
  rw [e8, gw32_id (by omega) (by omega)]
  have ec : ∀ b : Int, b ≠ 729 → (gU M 729 288 (l 288 + 1)) b = M b := fun b hb => gU_cell _ _ _ hb
  refine ⟨uC_same b1 (by rw [ec 711 (by decide)]) (fun b b0 b1 => ec b (by omega)), uR_of b2 (by rw [ec 711 (by decide)]) (by rw [ec 711 (by decide)]) (ec 726 (by decide)), vPt_oth b3 (fun x hx => gU_idx hx), by rw [ec 711 (by decide)]; exact b4, fun x hx => ?_⟩
  unfold dUp
  by_cases q : x = 288
  · rw [if_pos q, q, gU_same]
  · rw [if_neg q, gU_idx q]; exact b5 x hx
theorem vS_word {cs : List kC} {M : gM} {l : Int → Int} {st p : Int} {s : List Int} {pl : kP} {T : Nat} (h : vS cs M st l p s pl T) : ∃ M1, F_readsWord M = some M1 ∧ vS cs M1 p l (p + ((wT s).length : Int)) (wR s) pl T ∧ M1 711 29 = wcode (wT s) := by
  obtain ⟨M1, e, hR, h30, h29⟩ := s_readsWord h.2.1
  have f : gFr [] [19, 29, 30] M M1 := fr_readsWord e
  obtain ⟨h1, h2, h3, h4, h5⟩ := h
  have ec : ∀ b : Int, b ≠ 711 → M1 b = M b := fun b b0 => f.1 b (fun w => by cases w) b0
  exact ⟨M1, e, ⟨uC_same h1 (by rw [f.2 0 (by decide)]) (fun b b0 b1 => ec b (by omega)), hR, vPt_keep h3 (ec 729 (by decide)), h30, fun x hx => by rw [ec 729 (by decide)]; exact h5 x hx⟩, h29⟩
theorem vO_u {cs : List kC} {M : gM} {l : Int → Int} {st r f : Int} (h : vO cs M r st l (lnBad f)) (hf : f ≠ 0 := by omega) : vO cs M r st (dUp l) (lnBad f) := ⟨fun w => absurd w hf, fun w => ⟨(h.2 w).1, (h.2 w).2.1, fun q hq => by unfold dUp; rw [if_neg (by omega)]; exact (h.2 w).2.2 q hq⟩⟩
theorem s_line133 {cs : List kC} {M : gM} {l : Int → Int} {L st p : Int} {s : List Int} {pl : kP} {T w : Nat} {x1 x2 x3 : Int} (h : vS cs M st l p s pl T) (hl8 : -2147483648 ≤ l 288 ∧ l 288 < 2147483647) (hst : 0 ≤ st ∧ st ≤ 260) (hw : 2 ≤ w ∧ w < 15) (hr : w ≤ 7 → (pl.1 (w - 2)).length < 4) (hsg : sgOk pl) (hv : ∀ x ∈ pl.1 6, 0 ≤ x.2) (e2 : x2 = if 2 ≤ w ∧ w ≤ 7 then (w : Int) - 1 else 0) (e3 : x3 = if 10 ≤ w ∧ w ≤ 14 then (w : Int) + 1 else 0) (e1 : x1 = 632046 ↔ w = 8) :
    ∃ r M1, F_readsLine_133 M x1 x2 x3 = some (r, M1) ∧ vO cs M1 r st (dUp l) (if hd s ≠ 58 then lnBad (-1000 - p) else lnBody (cs.length : Int) st w (lnSet pl 1 L) T s.tail (p + 1)) := by
  have h1 := vS_up (v := L) h hl8
  have hl := uR_len h.2.1
  rw [eq_readsLine_133]
  obtain ⟨r2, M2, e, g1, g2⟩ := s_gt (c := 58) h1 (by decide)
  rw [gI_bb e]
  by_cases q3 : hd s = 58
  · obtain ⟨rfl, h2, -, -⟩ := g1 q3
    rw [if_neg (show ¬ hd s ≠ 58 from fun z => z q3)]
    show ∃ r0 M9, (if (1 : Int) = 0 then _ else _) = some (r0, M9) ∧ _
    rw [if_neg (show ¬ (1 : Int) = 0 by decide)]
    by_cases c7 : w ≤ 7
    · have e2' : x2 = (w : Int) - 1 := by rw [e2, if_pos ⟨hw.1, c7⟩]
      rw [if_pos (by omega)]
      obtain ⟨r, M3, e4, o⟩ := s_readsList (w := w) h2 hst ⟨hw.1, c7⟩ (hr c7)
      show ∃ r0 M9, (F_readsList M2 x2).bind _ = some (r0, M9) ∧ _
      rw [e2', gI_bb e4]
      exact ⟨r, M3, rfl, o⟩
    · have e2' : x2 = 0 := by rw [e2, if_neg (fun z => c7 z.2)]
      rw [if_neg (by omega)]
      by_cases c10 : 10 ≤ w
      · have e3' : x3 = (w : Int) + 1 := by rw [e3, if_pos ⟨c10, by omega⟩]
        rw [if_pos (by omega)]
        obtain ⟨r, M3, e4, o⟩ := s_readsOnce (w := w) h2 ⟨c10, by omega⟩
        show ∃ r0 M9, (F_readsOnce M2 x3).bind _ = some (r0, M9) ∧ _
        rw [e3', gI_bb e4]
        unfold lnBody
        rw [if_neg (by omega), if_neg (by omega)]
        exact ⟨r, M3, rfl, o⟩
      · have e3' : x3 = 0 := by rw [e3, if_neg (fun z => c10 z.1)]
        rw [if_neg (by omega)]
        by_cases c8 : w = 8
        · rw [if_pos (e1.mpr c8)]
          obtain ⟨r, M3, e4, o⟩ := s_readsSign (n := (cs.length : Int)) h2 hst hsg hv
          show ∃ r0 M9, (F_readsSign M2).bind _ = some (r0, M9) ∧ _
          rw [gI_bb e4]
          unfold lnBody
          rw [if_neg (by omega), if_pos (by omega), c8]
          exact ⟨r, M3, rfl, o⟩
        · rw [if_neg (fun z => c8 (e1.mp z))]
          have c9 : w = 9 := by omega
          obtain ⟨r, M3, e4, o⟩ := s_readsSkip h2
          show ∃ r0 M9, (F_readsSkip M2).bind _ = some (r0, M9) ∧ _
          rw [gI_bb e4]
          unfold lnBody
          rw [if_neg (by omega), if_neg (by omega), c9]
          exact ⟨r, M3, rfl, o⟩
  · obtain ⟨rfl, k1, k9⟩ := g2 q3
    rw [if_pos (show hd s ≠ 58 from q3)]
    exact ⟨0, M2, rfl, vO_bad h1 k9 (by omega) k1⟩
theorem s_line79 {cs : List kC} {M : gM} {l : Int → Int} {L st p : Int} {s : List Int} {pl : kP} {T w : Nat} {x1 x2 x3 : Int} (h : vS cs M st l p s pl T) (hT : T < 32) (hl8 : -2147483648 ≤ l 288 ∧ l 288 < 2147483647) (hst : 0 ≤ st ∧ st ≤ 260) (hw : 2 ≤ w ∧ w < 15) (hr : w ≤ 7 → (pl.1 (w - 2)).length < 4) (hsg : sgOk pl) (hv : ∀ x ∈ pl.1 6, 0 ≤ x.2) (e2 : x2 = if 2 ≤ w ∧ w ≤ 7 then (w : Int) - 1 else 0) (e3 : x3 = if 10 ≤ w ∧ w ≤ 14 then (w : Int) + 1 else 0) (e1 : x1 = 632046 ↔ w = 8) :
    ∃ r M1, F_readsLine_79 M x1 x2 x3 = some (r, M1) ∧ vO cs M1 r st (dUp l) (if 10 ≤ w ∧ T.testBit (w - 10) = true then lnBad (-6000 - st) else if hd s ≠ 58 then lnBad (-1000 - p) else lnBody (cs.length : Int) st w (lnSet pl 1 L) (lnT w T) s.tail (p + 1)) := by
  rw [eq_readsLine_79]
  have a11 : M 729 289 = 2048 * (T : Int) := h.2.2.1.1.2.2.2.2.2.2.2.2.2.2
  by_cases c10 : 10 ≤ w
  · have e3' : x3 = (w : Int) + 1 := by rw [e3, if_pos ⟨c10, by omega⟩]
    obtain ⟨t1, t2⟩ := b2_all T hT (w - 10) (by omega)
    rw [show ((11 + (w - 10) : Nat) : Int) = x3 by omega] at t1 t2
    have hh : F_has (2048 * (T : Int)) x3 = some (bI (T.testBit (w - 10))) := by
      rw [eq_has, t1]
      cases T.testBit (w - 10) <;> rfl
    rw [if_pos (by omega), a11, gI_bb hh]
    cases hb : T.testBit (w - 10) with
    | true =>
      rw [if_neg bIt, if_pos (show 10 ≤ w ∧ true = true from ⟨c10, rfl⟩), h.2.2.2.1, gI_bb (s_wrongAt (by decide) hst)]
      exact ⟨0, gU M 711 21 (-1000 * 6 - st), rfl, vO_u (vO_w h (by omega) (by omega))⟩
    | false =>
      rw [if_pos bIf, if_neg (show ¬ (10 ≤ w ∧ false = true) from fun z => by cases z.2), if_pos (by omega), t2, show (T ||| 1 <<< (w - 10)) = lnT w T from by unfold lnT; rw [if_pos c10]]
      exact s_line133 (vS_T h) hl8 hst hw hr hsg hv e2 e3 e1
  · have e3' : x3 = 0 := by rw [e3, if_neg (fun z => c10 z.1)]
    rw [if_neg (by omega), if_neg (by omega), if_neg (show ¬ (10 ≤ w ∧ T.testBit (w - 10) = true) from fun z => c10 z.1), show lnT w T = T from by unfold lnT; rw [if_neg c10]]
    exact s_line133 h hl8 hst hw hr hsg hv e2 e3 e1
theorem s_readsLine {cs : List kC} {M : gM} {l : Int → Int} {st p : Int} {s : List Int} {pl : kP} {T : Nat} (h : vS cs M st l p s pl T) (hT : T < 32) (hl8 : -2147483648 ≤ l 288 ∧ l 288 < 2147483647) (hL : 2 ≤ pl.2.1 1) (hI : plI (cs.length : Int) pl) : ∃ r M1, F_readsLine M = some (r, M1) ∧ vO cs M1 r p (dUp l) (lnLine (cs.length : Int) pl T s p) := by
  have hl := uR_len h.2.1
  have un : lnLine (cs.length : Int) pl T s p = if lnFits (pl.2.1 1) (wIx (wT s)) = false then lnBad (-1000 - p)
  else if 2 ≤ wIx (wT s) ∧ wIx (wT s) ≤ 7 ∧ 4 ≤ (pl.1 (wIx (wT s) - 2)).length then lnBad (-4000 - p)
  else if 10 ≤ wIx (wT s) ∧ T.testBit (wIx (wT s) - 10) = true then lnBad (-6000 - p)
  else if hd (wR s) ≠ 58 then lnBad (-1000 - (p + ((wT s).length : Int)))
  else lnBody (cs.length : Int) p (wIx (wT s)) (lnSet pl 1 (pl.2.1 1 + 1)) (lnT (wIx (wT s)) T) (wR s).tail (p + ((wT s).length : Int) + 1) := rfl
  rw [un]
  obtain ⟨M1, e, h1, h29⟩ := vS_word h
  have hls : isLs (wT s) := wT_low s
  have hi15 : wIx (wT s) ≤ 15 := (wIxF_rng (wT s) 15 0).2
  rw [eq_readsLine, gI_bb e, h29, gI_bb (s_listOf hls), gI_bb (s_onceOf hls)]
  obtain ⟨-, -, k8, k9, -⟩ := k_oth hls
  rw [h1.2.2.2.1]
  generalize (wIx (wT s)) = w at hi15 k8 k9 ⊢
  generalize hx1 : wcode (wT s) = x1 at k8 k9 ⊢
  have hfit : lnFits (pl.2.1 1) w = decide (1 < w ∧ w < 15) := by unfold lnFits; rw [if_neg (by omega)]
  rw [hfit]
  -- what follows the list's room
  have go : 1 < w ∧ w < 15 → ¬ (2 ≤ w ∧ w ≤ 7 ∧ 4 ≤ (pl.1 (w - 2)).length) → ∀ x2 x3 : Int, x2 = (if 2 ≤ w ∧ w ≤ 7 then (w : Int) - 1 else 0) → x3 = (if 10 ≤ w ∧ w ≤ 14 then (w : Int) + 1 else 0) → ∃ r M9, F_readsLine_79 M1 x1 x2 x3 = some (r, M9) ∧ vO cs M9 r p (dUp l) (if 10 ≤ w ∧ T.testBit (w - 10) = true then lnBad (-6000 - p) else if hd (wR s) ≠ 58 then lnBad (-1000 - (p + ((wT s).length : Int))) else lnBody (cs.length : Int) p w (lnSet pl 1 (pl.2.1 1 + 1)) (lnT w T) (wR s).tail (p + ((wT s).length : Int) + 1)) := fun hw hno x2 x3 e2 e3 =>
    s_line79 h1 hT hl8 ⟨hl.1, by omega⟩ ⟨by omega, hw.2⟩ (fun w7 => Nat.lt_of_not_le (fun z => hno ⟨by omega, w7, z⟩)) hI.2.2.2.2.2 (fun x hx => (show 0 ≤ x.2 from (hI.2.2.1 6 (by decide) x hx).2.1)) e2 e3 k8
  by_cases c7 : 2 ≤ w ∧ w ≤ 7
  · have c1 : (274 : Int) + ((w : Int) - 1) = 275 + ((w - 2 : Nat) : Int) := by omega
    obtain ⟨b1, b2, -⟩ := h1.2.2.1.2.1 (w - 2) (by omega)
    rw [if_pos c7, if_neg (show ¬ ((w : Int) - 1 = 0) by omega), if_pos (show (0 : Int) < (w : Int) - 1 by omega), gw32_id (by omega) (by omega), if_pos (by omega), c1, b1, decide_eq_true (show 1 < w ∧ w < 15 by omega), if_neg (show ¬ true = false by decide)]
    by_cases q : 4 ≤ (pl.1 (w - 2)).length
    · rw [if_pos (by omega), if_pos (show 2 ≤ w ∧ w ≤ 7 ∧ 4 ≤ (pl.1 (w - 2)).length from ⟨c7.1, c7.2, q⟩)]
      show ∃ r0 M9, (F_wrongAt M1 4 p).bind _ = some (r0, M9) ∧ _
      rw [gI_bb (s_wrongAt (by decide) (by omega))]
      exact ⟨0, gU M1 711 21 (-1000 * 4 - p), rfl, vO_u (vO_w h1 (by omega) (by omega))⟩
    · rw [if_neg (by omega), if_neg (show ¬ (2 ≤ w ∧ w ≤ 7 ∧ 4 ≤ (pl.1 (w - 2)).length) from fun z => q z.2.2)]
      exact go (by omega) (fun z => q z.2.2) _ _ (by rw [if_pos c7]) rfl
  · rw [if_neg c7, if_pos rfl, if_neg (show ¬ (0 : Int) < 0 by decide)]
    have n7 : ¬ (2 ≤ w ∧ w ≤ 7 ∧ 4 ≤ (pl.1 (w - 2)).length) := fun z => c7 ⟨z.1, z.2.1⟩
    by_cases c10 : 10 ≤ w ∧ w ≤ 14
    · rw [if_neg (by rw [if_pos c10]; omega), decide_eq_true (show 1 < w ∧ w < 15 by omega), if_neg (show ¬ true = false by decide), if_neg n7]
      exact go (by omega) n7 _ _ (by rw [if_neg c7]) rfl
    · rw [if_pos (by rw [if_neg c10])]
      by_cases c8 : w = 8
      · rw [if_pos (k8.mpr c8), decide_eq_true (show 1 < w ∧ w < 15 by omega), if_neg (show ¬ true = false by decide), if_neg n7]
        exact go (by omega) n7 _ _ (by rw [if_neg c7]) rfl
      · rw [if_neg (fun z => c8 (k8.mp z))]
        by_cases c9 : w = 9
        · rw [if_pos (k9.mpr c9), decide_eq_true (show 1 < w ∧ w < 15 by omega), if_neg (show ¬ true = false by decide), if_neg n7]
          exact go (by omega) n7 _ _ (by rw [if_neg c7]) rfl
        · rw [if_neg (fun z => c9 (k9.mp z)), decide_eq_false (show ¬ (1 < w ∧ w < 15) by omega), if_pos (show false = false from rfl)]
          rw [gI_bb (s_wrongAt (by decide) (by omega))]
          exact ⟨0, gU M1 711 21 (-1000 * 1 - p), rfl, vO_u (vO_w h1 (by omega) (by omega))⟩
-- ---- FROM, TO
theorem s_hist0 {cs : List kC} {M : gM} {l : Int → Int} {st p : Int} {s : List Int} {pl : kP} {T : Nat} (h : vS cs M st l p s pl T) (h1 : pl.2.1 1 = 0) : ∃ r M1, F_readsHistory M 215533 1 = some (r, M1) ∧ vO cs M1 r p l (lnLine (cs.length : Int) pl T s p) := by
  have hl := uR_len h.2.1
  rw [lnLine_0 h1]
  obtain ⟨M1, e, hw, h29⟩ := vS_word h
  have hl2 := uR_len hw.2.1
  rw [eq_readsHistory, gI_bb e, h29]
  obtain ⟨k0, -⟩ := k_oth (w := wT s) (wT_low s)
  by_cases q0 : wIx (wT s) = 0
  · rw [if_pos (k0.mpr q0), if_neg (show ¬ wIx (wT s) ≠ 0 from fun z => z q0)]
    obtain ⟨r2, M2, e2, g1, g2⟩ := s_gt (c := 58) hw (by decide)
    rw [gI_bb e2]
    by_cases q3 : hd (wR s) = 58
    · obtain ⟨rfl, h2, -, h19⟩ := g1 q3
      rw [if_neg (show ¬ hd (wR s) ≠ 58 from fun z => z q3)]
      show ∃ r0 M9, (if (1 : Int) = 0 then _ else _) = some (r0, M9) ∧ _
      rw [if_neg (show ¬ (1 : Int) = 0 by decide)]
      obtain ⟨r3, M3, e3, o⟩ := s_readsUpTo (lo := 0) (hi := 3) h2.2.1
      show ∃ r0 M9, (F_readsUpTo M2 0 3).bind _ = some (r0, M9) ∧ _
      rw [gI_bb e3]
      have h2' : vS cs M2 p l (p + ((wT s).length : Int) + 1) (wR s).tail (lnSet pl 1 1) T := h2
      have L := s_lays (f := 2) h2' (by decide) (fr_readsUpTo e3) (by decide) o
      by_cases q : (pDigit 0 3 (wR s).tail (p + ((wT s).length : Int) + 1)).1 = 0
      · obtain ⟨rfl, -, -⟩ := o.1 q
        show ∃ r0 M9, (if (1 : Int) = 0 then _ else _) = some (r0, M9) ∧ _
        rw [if_neg (show ¬ (1 : Int) = 0 by decide), if_neg (show ¬ (1 : Int) = 2 by decide), if_pos (by decide)]
        exact ⟨1, _, rfl, L⟩
      · obtain ⟨rfl, k1⟩ := o.2 q
        unfold lnOf
        rw [if_neg q]
        exact ⟨0, M3, rfl, vO_bad h2 (fr9 (fr_readsUpTo e3)) q k1⟩
    · obtain ⟨rfl, k1, k9⟩ := g2 q3
      rw [if_pos (show hd (wR s) ≠ 58 from q3)]
      exact ⟨0, M2, rfl, vO_bad hw k9 (by omega) k1⟩
  · rw [if_neg (fun z => q0 (k0.mp z)), if_pos (show wIx (wT s) ≠ 0 from q0), hw.2.2.2.1, gI_bb (s_wrongAt (by decide) (by omega))]
    exact ⟨0, gU M1 711 21 (-1000 * 1 - p), rfl, vO_w hw (by omega) (by omega)⟩
theorem s_hist1 {cs : List kC} {M : gM} {l : Int → Int} {st p : Int} {s : List Int} {pl : kP} {T : Nat} (h : vS cs M st l p s pl T) (h1 : pl.2.1 1 = 1) : ∃ r M1, F_readsHistory M 655 2 = some (r, M1) ∧ vO cs M1 r p l (lnLine (cs.length : Int) pl T s p) := by
  have hl := uR_len h.2.1
  rw [lnLine_1 h1]
  obtain ⟨M1, e, hw, h29⟩ := vS_word h
  have hl2 := uR_len hw.2.1
  rw [eq_readsHistory, gI_bb e, h29]
  obtain ⟨-, k0, -⟩ := k_oth (w := wT s) (wT_low s)
  by_cases q0 : wIx (wT s) = 1
  · rw [if_pos (k0.mpr q0), if_neg (show ¬ wIx (wT s) ≠ 1 from fun z => z q0)]
    obtain ⟨r2, M2, e2, g1, g2⟩ := s_gt (c := 58) hw (by decide)
    rw [gI_bb e2]
    by_cases q3 : hd (wR s) = 58
    · obtain ⟨rfl, h2, -, h19⟩ := g1 q3
      rw [if_neg (show ¬ hd (wR s) ≠ 58 from fun z => z q3)]
      show ∃ r0 M9, (if (1 : Int) = 0 then _ else _) = some (r0, M9) ∧ _
      rw [if_neg (show ¬ (1 : Int) = 0 by decide)]
      obtain ⟨r3, M3, e3, o⟩ := s_readsUpTo (lo := 0) (hi := 3) h2.2.1
      show ∃ r0 M9, (F_readsUpTo M2 0 3).bind _ = some (r0, M9) ∧ _
      rw [gI_bb e3]
      have h2' : vS cs M2 p l (p + ((wT s).length : Int) + 1) (wR s).tail (lnSet pl 1 2) T := h2
      have hl3 := uR_len h2.2.1
      have L := s_lays (f := 3) h2' (by decide) (fr_readsUpTo e3) (by decide) o
      unfold lnTo
      have e12 : (lnSet pl 1 2).2.1 2 = pl.2.1 2 := rfl
      rw [e12]
      by_cases q : (pDigit 0 3 (wR s).tail (p + ((wT s).length : Int) + 1)).1 = 0
      · obtain ⟨rfl, o1, o2⟩ := o.1 q
        have h3 := vS_k h2 (fr_readsUpTo e3) (by decide) o1
        have a2 : M3 729 273 = pl.2.1 2 := h3.2.2.1.1.2.1
        rw [if_pos q]
        show ∃ r0 M9, (if (1 : Int) = 0 then _ else _) = some (r0, M9) ∧ _
        rw [if_neg (show ¬ (1 : Int) = 0 by decide), if_pos (show (2 : Int) = 2 from rfl)]
        show ∃ r0 M9, (if M3 711 22 = M3 729 273 then _ else _) = some (r0, M9) ∧ _
        rw [a2]
        rw [o2]
        by_cases q5 : (pDigit 0 3 (wR s).tail (p + ((wT s).length : Int) + 1)).2.1 = pl.2.1 2
        · rw [if_pos q5, if_pos q5]
          show ∃ r0 M9, (F_wrongAt M3 3 (M2 711 19)).bind _ = some (r0, M9) ∧ _
          rw [h19]
          show ∃ r0 M9, (F_wrongAt M3 3 (p + ((wT s).length : Int) + 1)).bind _ = some (r0, M9) ∧ _
          rw [gI_bb (s_wrongAt (by decide) (by omega))]
          exact ⟨0, gU M3 711 21 (-1000 * 3 - (p + ((wT s).length : Int) + 1)), rfl, vO_w h3 (by omega) (by omega)⟩
        · rw [if_neg q5, if_neg q5, if_pos (by decide)]
          exact ⟨1, _, rfl, L⟩
      · obtain ⟨rfl, k1⟩ := o.2 q
        rw [if_neg q]
        exact ⟨0, M3, rfl, vO_bad h2 (fr9 (fr_readsUpTo e3)) q k1⟩
    · obtain ⟨rfl, k1, k9⟩ := g2 q3
      rw [if_pos (show hd (wR s) ≠ 58 from q3)]
      exact ⟨0, M2, rfl, vO_bad hw k9 (by omega) k1⟩
  · rw [if_neg (fun z => q0 (k0.mp z)), if_pos (show wIx (wT s) ≠ 1 from q0), hw.2.2.2.1, gI_bb (s_wrongAt (by decide) (by omega))]
    exact ⟨0, gU M1 711 21 (-1000 * 1 - p), rfl, vO_w hw (by omega) (by omega)⟩
