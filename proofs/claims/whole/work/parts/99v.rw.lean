-- ==== the reference: the words of a PLAN's text
def cdF : Int → List Int → Int
  | v, [] => v
  | v, c :: r => cdF (32 * v + c - 96) r
theorem cdF_app : ∀ (w : List Int) (v c : Int), cdF v (w ++ [c]) = 32 * cdF v w + c - 96
  | [], v, c => rfl
  | d :: r, v, c => cdF_app r (32 * v + d - 96) c
def isLs (w : List Int) : Prop := ∀ c ∈ w, 97 ≤ c ∧ c ≤ 122
theorem cdF_rng : ∀ (k : Nat) (w : List Int), w.length = k → isLs w → 0 ≤ cdF 0 w ∧ cdF 0 w < (32 ^ k : Nat)
  | 0, w, hk, _ => by
    rw [List.length_eq_zero_iff.mp hk]; exact ⟨by decide, by decide⟩
  | k + 1, w, hk, h => by
    obtain ⟨ys, y, rfl, hy⟩ := ls_snoc hk
    have := cdF_rng k ys hy (fun c hc => h c (List.mem_append_left _ hc))
    have hc := h y (by simp)
    rw [cdF_app, Nat.pow_succ]
    omega
theorem cdF_inj : ∀ (k : Nat) (a b : List Int), a.length = k → isLs a → isLs b → cdF 0 a = cdF 0 b → a = b
  | 0, a, b, hk, ha, hb, e => by
    have e0 := List.length_eq_zero_iff.mp hk
    subst e0
    cases hl : b.length with
    | zero => exact (List.length_eq_zero_iff.mp hl).symm
    | succ m =>
      obtain ⟨zs, z, rfl, hz⟩ := ls_snoc hl
      have r := cdF_rng m zs hz (fun c hc => hb c (List.mem_append_left _ hc))
      have hc := hb z (by simp)
      rw [cdF_app] at e
      have e' : (0 : Int) = 32 * cdF 0 zs + z - 96 := e
      omega
  | k + 1, a, b, hk, ha, hb, e => by
    obtain ⟨ys, y, rfl, hy⟩ := ls_snoc hk
    have ry := cdF_rng k ys hy (fun c hc => ha c (List.mem_append_left _ hc))
    have hcy := ha y (by simp)
    rw [cdF_app] at e
    cases hl : b.length with
    | zero =>
      rw [List.length_eq_zero_iff.mp hl] at e
      have e' : 32 * cdF 0 ys + y - 96 = 0 := e
      omega
    | succ m =>
      obtain ⟨zs, z, rfl, hz⟩ := ls_snoc hl
      have rz := cdF_rng m zs hz (fun c hc => hb c (List.mem_append_left _ hc))
      have hcz := hb z (by simp)
      rw [cdF_app] at e
      have e1 : cdF 0 ys = cdF 0 zs := by omega
      have e2 : y = z := by omega
      rw [e2, cdF_inj k ys zs hy (fun c hc => ha c (List.mem_append_left _ hc)) (fun c hc => hb c (List.mem_append_left _ hc)) e1]
def wcode (w : List Int) : Int := if 6 < w.length then -1 else cdF 0 w
theorem wd_all : ∀ i, i < 15 → (wd i).length ≤ 6 ∧ (∀ c ∈ wd i, 97 ≤ c ∧ c ≤ 122) ∧ wIx (wd i) = i := by decide +kernel
theorem wIxF_hit (w : List Int) : ∀ (k i : Nat), i + k = 15 → wIxF w k i < 15 → w = wd (wIxF w k i)
  | 0, i, h, hl => by unfold wIxF at hl; omega
  | k + 1, i, h, hl => by
    unfold wIxF at hl ⊢
    by_cases e : w = wd i
    · rw [if_pos e]; exact e
    · rw [if_neg e] at hl ⊢; exact wIxF_hit w k (i + 1) (by omega) hl
/-- the code and the number of a word -/
theorem wcode_iff {w : List Int} (hw : isLs w) {i : Nat} (hi : i < 15) : wcode w = wcode (wd i) ↔ wIx w = i := by
  obtain ⟨h1, h2, h3⟩ := wd_all i hi
  constructor
  · intro h
    have e : w = wd i := by
      unfold wcode at h
      rw [if_neg (show ¬ 6 < (wd i).length by omega)] at h
      by_cases c : 6 < w.length
      · rw [if_pos c] at h
        have := cdF_rng _ (wd i) rfl h2
        omega
      · rw [if_neg c] at h
        exact cdF_inj _ w (wd i) rfl hw h2 h
    rw [e]; exact h3
  · intro h
    have := wIxF_hit w 15 0 rfl (by show wIx w < 15; omega)
    rw [show wIxF w 15 0 = i from h] at this
    rw [this]
theorem wc_all : wcode (wd 0) = 215533 ∧ wcode (wd 1) = 655 ∧ wcode (wd 2) = 365744 ∧ wcode (wd 3) = 150000 ∧ wcode (wd 4) = 442053 ∧ wcode (wd 5) = 646192 ∧ wcode (wd 6) = 769604 ∧ wcode (wd 7) = 7931092 ∧ wcode (wd 8) = 632046 ∧ wcode (wd 9) = 634160 ∧ wcode (wd 10) = 442047667 ∧ wcode (wd 11) = 5685913 ∧ wcode (wd 12) = 656627 ∧ wcode (wd 13) = 20232293 ∧ wcode (wd 14) = 441972 := by decide +kernel
theorem s_readsWord {M : gM} {p : Int} {s : List Int} (h : uR M p s) : ∃ M1, F_readsWord M = some M1 ∧ uR M1 (p + ((wT s).length : Int)) (wR s) ∧ M1 711 30 = p ∧ M1 711 29 = wcode (wT s) := by
  have hl := uR_len h
  have lp : ∀ (suf pre : List Int) (M1 : gM), pre ++ wT suf = wT s → wR suf = wR s → uR M1 (p + (pre.length : Int)) suf → M1 711 30 = p → M1 711 29 = cdF 0 (pre.take 6) → ∃ M2, F_readsWord_13 M1 = some M2 ∧ uR M2 (p + ((wT s).length : Int)) (wR s) ∧ M2 711 30 = p ∧ M2 711 29 = wcode (wT s) := by
    intro suf
    have fin : ∀ (pre : List Int) (M1 : gM), pre = wT s → uR M1 (p + (pre.length : Int)) (wR s) → M1 711 30 = p → M1 711 29 = cdF 0 (pre.take 6) → ∃ M2, (if (6 : Int) < (gw32 ((M1 711 19) - (M1 711 30))) then some (gU M1 711 29 (-1)) else some M1) = some M2 ∧ uR M2 (p + ((wT s).length : Int)) (wR s) ∧ M2 711 30 = p ∧ M2 711 29 = wcode (wT s) := by
      intro pre M1 e hR h30 h29
      subst e
      have hl1 := uR_len hR
      rw [h30, hR.1, gw32_id (by omega) (by omega)]
      unfold wcode
      by_cases c : 6 < (wT s).length
      · rw [if_pos (by omega), if_pos c]
        exact ⟨_, rfl, uR_of hR (gU_idx (by decide)) (gU_idx (by decide)) (gU_cell _ _ _ (by decide)), by rw [gU_idx (by decide)]; exact h30, gU_same _ _ _ _⟩
      · rw [if_neg (by omega), if_neg c]
        exact ⟨M1, rfl, hR, h30, by rw [h29, List.take_of_length_le (by omega)]⟩
    induction suf with
    | nil =>
      intro pre M1 h1 h2 hR h30 h29
      have e : pre = wT s := by rw [← h1]; show pre = pre ++ []; rw [List.append_nil]
      rw [eq_readsWord_13, gI_bb (s_here hR), gI_bb s_isSmall, show decide (97 ≤ hd [] ∧ hd [] ≤ 122) = false from rfl, if_pos bIf]
      exact fin pre M1 e (by rw [← h2]; exact hR) h30 h29
    | cons c r ih =>
      intro pre M1 h1 h2 hR h30 h29
      have hl1 := uR_len hR
      rw [List.length_cons] at hl1
      rw [eq_readsWord_13, gI_bb (s_here hR), gI_bb s_isSmall]
      show ∃ M2, (if bI (decide (97 ≤ c ∧ c ≤ 122)) = 0 then _ else _) = some M2 ∧ _
      by_cases q : 97 ≤ c ∧ c ≤ 122
      · rw [decide_eq_true q, if_neg bIt, h30, hR.1, gw32_id (by omega) (by omega)]
        rw [show wT (c :: r) = c :: wT r from if_pos q] at h1
        rw [show wR (c :: r) = wR r from if_pos q] at h2
        have hls : isLs (pre ++ c :: wT r) := by rw [h1]; exact wT_low s
        have hpre : isLs pre := fun x hx => hls x (List.mem_append_left _ hx)
        by_cases q6 : pre.length < 6
        · rw [if_pos (by omega), gI_bb (s_here hR)]
          show ∃ M2, F_readsWord_13 (gU (gU M1 711 29 (gw32 (gw32 (gw32 (gw32 (32 * M1 711 29) + c) - 97) + 1))) 711 19 (gw32 ((gU M1 711 29 (gw32 (gw32 (gw32 (gw32 (32 * M1 711 29) + c) - 97) + 1))) 711 19 + 1))) = some M2 ∧ _
          have ht : pre.take 6 = pre := List.take_of_length_le (by omega)
          rw [ht] at h29
          have rg := cdF_rng pre.length pre rfl hpre
          have p5 : (32 ^ pre.length : Nat) ≤ 32 ^ 5 := Nat.pow_le_pow_right (by decide) (by omega)
          have p5' : (32 ^ 5 : Nat) = 33554432 := by decide
          rw [gU_idx (by decide), hR.1, h29]
          have e : gw32 (gw32 (gw32 (gw32 (32 * cdF 0 pre) + c) - 97) + 1) = cdF 0 ((pre ++ [c]).take 6) := by
            rw [List.take_of_length_le (by rw [List.length_append, List.length_singleton]; omega), cdF_app, gw32_id (z := 32 * cdF 0 pre) (by omega) (by omega), gw32_id (z := 32 * cdF 0 pre + c) (by omega) (by omega), gw32_id (z := 32 * cdF 0 pre + c - 97) (by omega) (by omega), gw32_id (by omega) (by omega)]
            omega
          rw [e, gw32_id (by omega) (by omega)]
          have := ih (pre ++ [c]) (gU (gU M1 711 29 (cdF 0 ((pre ++ [c]).take 6))) 711 19 (p + (pre.length : Int) + 1)) (by rw [List.append_assoc]; exact h1) h2 (uR_tl hR (by rw [List.length_append, List.length_singleton]; omega) (by rw [gU_same, List.length_append, List.length_singleton]; omega) (by rw [gU_idx (by decide), gU_idx (by decide)]) (by rw [gU_cell _ _ _ (by decide), gU_cell _ _ _ (by decide)])) (by rw [gU_idx (by decide), gU_idx (by decide)]; exact h30) (by rw [gU_idx (by decide), gU_same])
          exact this
        · rw [if_neg (by omega), gw32_id (by omega) (by omega)]
          have := ih (pre ++ [c]) (gU M1 711 19 (p + (pre.length : Int) + 1)) (by rw [List.append_assoc]; exact h1) h2 (uR_tl hR (by rw [List.length_append, List.length_singleton]; omega) (by rw [gU_same, List.length_append, List.length_singleton]; omega) (by rw [gU_idx (by decide)]) (by rw [gU_cell _ _ _ (by decide)])) (by rw [gU_idx (by decide)]; exact h30) (by rw [gU_idx (by decide), h29, List.take_append_of_le_length (by omega)])
          exact this
      · rw [decide_eq_false q, if_pos bIf]
        rw [show wT (c :: r) = [] from if_neg q, List.append_nil] at h1
        rw [show wR (c :: r) = c :: r from if_neg q] at h2
        exact fin pre M1 h1 (by rw [← h2]; exact hR) h30 h29
  rw [eq_readsWord]
  refine lp s [] _ (List.nil_append _) rfl (uR_of h ?_ ?_ ?_ |> fun z => by simpa using z) ?_ ?_
  · rw [gU_idx (by decide), gU_idx (by decide)]
  · rw [gU_idx (by decide), gU_idx (by decide)]
  · rw [gU_cell _ _ _ (by decide), gU_cell _ _ _ (by decide)]
  · rw [gU_idx (by decide), gU_same]; exact h.1
  · rw [gU_same]; rfl
