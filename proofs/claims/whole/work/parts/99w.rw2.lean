-- ==== the reference: pieces of a PLAN's text
def vPt (M : gM) (pl : kP) (T : Nat) : Prop :=
  (M 729 272 = 1 ∧ M 729 273 = pl.2.1 2 ∧ M 729 274 = pl.2.1 3 ∧ M 729 281 = ((pl.1 6).length : Int) ∧ M 729 282 = pl.2.1 11 ∧ M 729 283 = pl.2.1 12 ∧ M 729 284 = pl.2.1 13 ∧ M 729 285 = pl.2.1 14 ∧ M 729 286 = pl.2.1 15 ∧ M 729 287 = pl.2.1 16 ∧ M 729 289 = 2048 * (T : Int)) ∧
  (∀ i : Nat, i < 6 → M 729 (275 + (i : Int)) = ((pl.1 i).length : Int) ∧ (pl.1 i).length ≤ 4 ∧ rw_ (M 729) (272 + uL1 i) ((pl.1 i).map Prod.fst) ∧ (2 ≤ i → rw_ (M 729) (272 + uL1 i + 4) ((pl.1 i).map Prod.snd))) ∧
  (∀ w : Int, 0 ≤ w → w < 10 → M 729 (330 + w) = (qGet w (pl.1 6)).getD (-1))
theorem vPt_keep {M M1 : gM} {pl : kP} {T : Nat} (h : vPt M pl T) (e : M1 729 = M 729) : vPt M1 pl T := by
  unfold vPt; rw [e]; exact h
theorem uL1_rng {i : Nat} (hi : i < 6) : 18 ≤ uL1 i ∧ uL1 i + 4 ≤ 58 ∧ (2 ≤ i → uL1 i + 8 ≤ 58) := by unfold uL1; split <;> (try split) <;> omega
theorem uL1_ap {i j : Nat} (hi : i < 6) (hj : j < 6) (h : i ≠ j) : (uL1 i + 4 ≤ uL1 j ∧ (2 ≤ i → uL1 i + 8 ≤ uL1 j)) ∨ (uL1 j + 4 ≤ uL1 i ∧ (2 ≤ j → uL1 j + 8 ≤ uL1 i)) := by
  unfold uL1
  split <;> split <;> (try split) <;> (try split) <;> omega
theorem s_listAt2 {i : Nat} (hi : i < 6) : F_listAt ((i : Int) + 1) = some (uL1 i) := by
  rw [eq_listAt]
  unfold uL1
  by_cases h0 : i = 0
  · rw [if_pos (by omega), if_pos h0]
  · rw [if_neg (by omega), if_neg h0]
    by_cases h1 : i = 1
    · rw [if_pos (by omega), if_pos h1]
    · rw [if_neg (by omega), if_neg h1]
      simp (disch := omega) only [gw32_id]
      congr 1; omega
theorem k_lists {w : List Int} (hw : isLs w) : (wcode w = 365744 ↔ wIx w = 2) ∧ (wcode w = 150000 ↔ wIx w = 3) ∧ (wcode w = 442053 ↔ wIx w = 4) ∧ (wcode w = 646192 ↔ wIx w = 5) ∧ (wcode w = 769604 ↔ wIx w = 6) ∧ (wcode w = 7931092 ↔ wIx w = 7) := by
  obtain ⟨-, -, c2, c3, c4, c5, c6, c7, -⟩ := wc_all
  rw [← c2, ← c3, ← c4, ← c5, ← c6, ← c7]
  exact ⟨wcode_iff hw (by decide), wcode_iff hw (by decide), wcode_iff hw (by decide), wcode_iff hw (by decide), wcode_iff hw (by decide), wcode_iff hw (by decide)⟩
theorem k_oth {w : List Int} (hw : isLs w) : (wcode w = 215533 ↔ wIx w = 0) ∧ (wcode w = 655 ↔ wIx w = 1) ∧ (wcode w = 632046 ↔ wIx w = 8) ∧ (wcode w = 634160 ↔ wIx w = 9) ∧ (wcode w = 442047667 ↔ wIx w = 10) ∧ (wcode w = 5685913 ↔ wIx w = 11) ∧ (wcode w = 656627 ↔ wIx w = 12) ∧ (wcode w = 20232293 ↔ wIx w = 13) ∧ (wcode w = 441972 ↔ wIx w = 14) := by
  obtain ⟨c0, c1, -, -, -, -, -, -, c8, c9, c10, c11, c12, c13, c14⟩ := wc_all
  rw [← c0, ← c1, ← c8, ← c9, ← c10, ← c11, ← c12, ← c13, ← c14]
  exact ⟨wcode_iff hw (by decide), wcode_iff hw (by decide), wcode_iff hw (by decide), wcode_iff hw (by decide), wcode_iff hw (by decide), wcode_iff hw (by decide), wcode_iff hw (by decide), wcode_iff hw (by decide), wcode_iff hw (by decide)⟩
theorem s_listOf {w : List Int} (hw : isLs w) : F_listOf (wcode w) = some (if 2 ≤ wIx w ∧ wIx w ≤ 7 then (wIx w : Int) - 1 else 0) := by
  obtain ⟨k2, k3, k4, k5, k6, k7⟩ := k_lists hw
  rw [eq_listOf]
  generalize wIx w = i at k2 k3 k4 k5 k6 k7 ⊢
  by_cases c2 : i = 2
  · rw [if_pos (k2.mpr c2), if_pos (by omega), c2]; rfl
  rw [if_neg (fun z => c2 (k2.mp z))]
  by_cases c3 : i = 3
  · rw [if_pos (k3.mpr c3), if_pos (by omega), c3]; rfl
  rw [if_neg (fun z => c3 (k3.mp z))]
  by_cases c4 : i = 4
  · rw [if_pos (k4.mpr c4), if_pos (by omega), c4]; rfl
  rw [if_neg (fun z => c4 (k4.mp z))]
  by_cases c5 : i = 5
  · rw [if_pos (k5.mpr c5), if_pos (by omega), c5]; rfl
  rw [if_neg (fun z => c5 (k5.mp z))]
  by_cases c6 : i = 6
  · rw [if_pos (k6.mpr c6), if_pos (by omega), c6]; rfl
  rw [if_neg (fun z => c6 (k6.mp z))]
  by_cases c7 : i = 7
  · rw [if_pos (k7.mpr c7), if_pos (by omega), c7]; rfl
  rw [if_neg (fun z => c7 (k7.mp z)), if_neg (by omega)]
theorem s_onceOf {w : List Int} (hw : isLs w) : F_onceOf (wcode w) = some (if 10 ≤ wIx w ∧ wIx w ≤ 14 then (wIx w : Int) + 1 else 0) := by
  obtain ⟨-, -, -, -, k2, k3, k4, k5, k6⟩ := k_oth hw
  rw [eq_onceOf]
  generalize wIx w = i at k2 k3 k4 k5 k6 ⊢
  by_cases c2 : i = 10
  · rw [if_pos (k2.mpr c2), if_pos (by omega), c2]; rfl
  rw [if_neg (fun z => c2 (k2.mp z))]
  by_cases c3 : i = 11
  · rw [if_pos (k3.mpr c3), if_pos (by omega), c3]; rfl
  rw [if_neg (fun z => c3 (k3.mp z))]
  by_cases c4 : i = 12
  · rw [if_pos (k4.mpr c4), if_pos (by omega), c4]; rfl
  rw [if_neg (fun z => c4 (k4.mp z))]
  by_cases c5 : i = 13
  · rw [if_pos (k5.mpr c5), if_pos (by omega), c5]; rfl
  rw [if_neg (fun z => c5 (k5.mp z))]
  by_cases c6 : i = 14
  · rw [if_pos (k6.mpr c6), if_pos (by omega), c6]; rfl
  rw [if_neg (fun z => c6 (k6.mp z)), if_neg (by omega)]
theorem s_readsUpTo {M : gM} {p lo hi : Int} {s : List Int} (h : uR M p s) : ∃ r M1, F_readsUpTo M lo hi = some (r, M1) ∧ uO M1 r (pDigit lo hi s p) 22 := by
  have hl := uR_len h
  rw [eq_readsUpTo, gI_bb (s_here h), gI_bb s_isDigit]
  rcases pDigit_cases (lo := lo) (hi := hi) (p := p) (s := s) with ⟨c, r, rfl, c0, c1, c2, c3, ep⟩ | ⟨c0, c1, c2, ep⟩ | ⟨c0, ep⟩
  · rw [ep, show decide (48 ≤ hd (c :: r) ∧ hd (c :: r) ≤ 57) = true from decide_eq_true ⟨c0, c1⟩, if_neg bIt, gI_bb (s_here h)]
    rw [show hd (c :: r) = c from rfl, gw32_id (z := c - 48) (by omega) (by omega), gI_bb s_in, decide_eq_true (show lo ≤ c - 48 ∧ c - 48 ≤ hi from ⟨c2, c3⟩), if_neg bIt, gI_bb (s_here h)]
    rw [show hd (c :: r) = c from rfl, gw32_id (z := c - 48) (by omega) (by omega), gU_idx (by decide), h.1]
    rw [List.length_cons] at hl
    rw [gw32_id (by omega) (by omega)]
    refine ⟨1, _, rfl, fun _ => ⟨rfl, uR_tl h rfl (gU_same _ _ _ _) ?_ ?_, ?_⟩, fun w => absurd rfl w⟩
    · rw [gU_idx (by decide), gU_idx (by decide)]
    · rw [gU_cell _ _ _ (by decide), gU_cell _ _ _ (by decide)]
    · rw [gU_idx (by decide), gU_same]
  · rw [ep, decide_eq_true (show 48 ≤ hd s ∧ hd s ≤ 57 from ⟨c0, c1⟩), if_neg bIt, gI_bb (s_here h), gw32_id (by omega) (by omega), gI_bb s_in, decide_eq_false c2, if_pos bIf, h.1]
    rw [gI_bb (s_wrongAt (by decide) (by omega))]
    exact ⟨0, _, rfl, uO_bad (y := (-3000 - p, -1, p, s)) (by show -3000 - p = -1000 * 3 - p; omega) (by decide) hl.1⟩
  · rw [ep, decide_eq_false c0, if_pos bIf, h.1]
    rw [gI_bb (s_wrongAt (by decide) (by omega))]
    exact ⟨0, _, rfl, uO_bad (y := (-1000 - p, -1, p, s)) (by show -1000 - p = -1000 * 1 - p; omega) (by decide) hl.1⟩
theorem s_readsPlace {M : gM} {p : Int} {s : List Int} (h : uR M p s) : ∃ r M1, F_readsPlace M = some (r, M1) ∧ uO M1 r (if hd s = 46 then (0, 0, p + 1, s.tail) else pPath 4 s p) 23 := by
  have h0 : uR (gU M 711 23 0) p s := uR_of h (gU_idx (by decide)) (gU_idx (by decide)) (gU_cell _ _ _ (by decide))
  rw [eq_readsPlace, gI_bb (s_here h0)]
  by_cases q : hd s = 46
  · rw [if_pos q, if_pos q]
    cases s with
    | nil => exact absurd q (by decide)
    | cons c r =>
      have hl := uR_len h
      rw [List.length_cons] at hl
      rw [h0.1, gw32_id (by omega) (by omega)]
      refine ⟨1, _, rfl, fun _ => ⟨rfl, uR_tl h0 rfl (gU_same _ _ _ _) (gU_idx (by decide)) (gU_cell _ _ _ (by decide)), ?_⟩, fun w => absurd rfl w⟩
      rw [gU_idx (by decide), gU_same]
  · rw [if_neg q, if_neg q]
    obtain ⟨r, M1, e, o⟩ := s_readsPath (most := 4) h0 (by decide)
    rw [show ((4 : Nat) : Int) = 4 from rfl] at e
    rw [gI_bb e]
    exact ⟨r, M1, rfl, o⟩
