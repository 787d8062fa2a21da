-- ==== the reference: letters, pairs
theorem s_readsLetters {M : gM} {p : Int} {s : List Int} (h : uR M p s) : ∃ r M1, F_readsLetters M = some (r, M1) ∧ uO M1 r (pWord s p) 22 := by
  have hl := uR_len h
  have lp : ∀ (s1 : List Int) (k : Nat) (v q : Int) (M1 : gM), uR M1 q s1 → M1 711 22 = v → q + (k : Int) = p + 4 → 0 ≤ v → k ≤ 4 → v < (32 ^ (4 - k) : Nat) → ∃ r M2, F_readsLetters_30 M1 p = some (r, M2) ∧ uO M2 r (pWordGo k v s1 q) 22 := by
    intro s1
    induction s1 with
    | nil =>
      intro k v q M1 hR hv hq h0 hk hb
      rw [eq_readsLetters_30, gI_bb (s_here hR), gI_bb s_isSmall, show decide (97 ≤ hd [] ∧ hd [] ≤ 122) = false from rfl, if_pos bIf]
      have e : pWordGo k v [] q = (0, v, q, []) := by cases k <;> rfl
      rw [e]
      exact ⟨1, M1, rfl, fun _ => ⟨rfl, hR, hv⟩, fun w => absurd rfl w⟩
    | cons c r ih =>
      intro k v q M1 hR hv hq h0 hk hb
      have hl1 := uR_len hR
      rw [List.length_cons] at hl1
      rw [eq_readsLetters_30, gI_bb (s_here hR), gI_bb s_isSmall]
      show ∃ r0 M2, (if bI (decide (97 ≤ c ∧ c ≤ 122)) = 0 then _ else _) = some (r0, M2) ∧ _
      by_cases q1 : 97 ≤ c ∧ c ≤ 122
      · rw [decide_eq_true q1, if_neg bIt, hR.1, gw32_id (by omega) (by omega)]
        cases k with
        | zero =>
          rw [if_pos (by omega), gI_bb (s_wrongAt (by decide) (by omega))]
          have e : pWordGo 0 v (c :: r) q = (-2000 - q, -1, q, c :: r) := if_pos q1
          rw [e]
          exact ⟨0, _, rfl, uO_bad (y := (-2000 - q, -1, q, c :: r)) (by show -2000 - q = -1000 * 2 - q; omega) (by decide) (by omega)⟩
        | succ k =>
          rw [if_neg (by omega), gI_bb (s_here hR)]
          have e : pWordGo (k + 1) v (c :: r) q = pWordGo k (32 * v + c - 96) r (q + 1) := if_pos q1
          rw [e]
          have hpw : (32 ^ (4 - k) : Nat) = 32 ^ (4 - (k + 1)) * 32 := by rw [← Nat.pow_succ]; congr 1; omega
          have hp3 : (32 ^ (4 - (k + 1)) : Nat) ≤ 32 ^ 3 := Nat.pow_le_pow_right (by decide) (by omega)
          have h33 : (32 ^ 3 : Nat) = 32768 := by decide
          rw [show hd (c :: r) = c from rfl, gU_idx (by decide), hR.1, hv]
          have ev : gw32 (gw32 (gw32 (gw32 (32 * v) + c) - 97) + 1) = 32 * v + c - 96 := by
            rw [gw32_id (z := 32 * v) (by omega) (by omega), gw32_id (z := 32 * v + c) (by omega) (by omega), gw32_id (z := 32 * v + c - 97) (by omega) (by omega), gw32_id (by omega) (by omega)]
            omega
          rw [ev, gw32_id (by omega) (by omega)]
          exact ih k (32 * v + c - 96) (q + 1) _ (uR_tl hR rfl (gU_same _ _ _ _) (by rw [gU_idx (by decide), gU_idx (by decide)]) (by rw [gU_cell _ _ _ (by decide), gU_cell _ _ _ (by decide)])) (by rw [gU_idx (by decide), gU_same]) (by omega) (by omega) (by omega) (by omega)
      · rw [decide_eq_false q1, if_pos bIf]
        have e : pWordGo k v (c :: r) q = (0, v, q, c :: r) := by cases k <;> exact if_neg q1
        rw [e]
        exact ⟨1, M1, rfl, fun _ => ⟨rfl, hR, hv⟩, fun w => absurd rfl w⟩
  rw [eq_readsLetters, gI_bb (s_here h), gI_bb s_isSmall]
  unfold pWord
  by_cases q : 97 ≤ hd s ∧ hd s ≤ 122
  · rw [decide_eq_true q, if_neg bIt, if_pos q, h.1]
    exact lp s 4 0 p _ (uR_of h (gU_idx (by decide)) (gU_idx (by decide)) (gU_cell _ _ _ (by decide))) (gU_same _ _ _ _) (by omega) (by decide) (by decide) (by decide)
  · rw [decide_eq_false q, if_pos bIf, if_neg q, h.1, gI_bb (s_wrongAt (by decide) (by omega))]
    exact ⟨0, _, rfl, uO_bad (y := (-1000 - p, -1, p, s)) (by show -1000 - p = -1000 * 1 - p; omega) (by decide) hl.1⟩
theorem s_isNamed {M : gM} {pl : kP} {T i : Nat} {k : Int} (h : vPt M pl T) (hi : i < 6) : F_isNamed M ((i : Int) + 1) k = some (bI (decide (0 ≤ qFind k (pl.1 i) 0))) := by
  obtain ⟨c1, c2, c3, -⟩ := h.2.1 i hi
  have hu := uL1_rng hi
  have lp : ∀ (suf pre : List (Int × Int)), pl.1 i = pre ++ suf → F_isNamed_2 M ((i : Int) + 1) k (pre.length : Int) = some (bI (decide (0 ≤ qFind k suf (pre.length : Int)))) := by
    intro suf
    induction suf with
    | nil =>
      intro pre e
      rw [List.append_nil] at e
      rw [eq_isNamed_2, gw32_id (by omega) (by omega), if_pos (by omega), show (274 : Int) + ((i : Int) + 1) = 275 + (i : Int) by omega, c1, e, if_neg (by omega), show qFind k [] (pre.length : Int) = -1 from rfl]
      rfl
    | cons x r ih =>
      intro pre e
      have hln := len_mid e
      have hx : M 729 (272 + uL1 i + (pre.length : Int)) = x.1 := c3 pre.length x.1 (by rw [e, List.map_append, List.map_cons]; simp)
      have ih' := ih (pre ++ [x]) (app_mid e)
      rw [List.length_append, List.length_singleton] at ih'
      have nx : ((pre.length : Int) + 1) = ((pre.length + 1 : Nat) : Int) := by omega
      rw [eq_isNamed_2, gw32_id (by omega) (by omega), if_pos (by omega), show (274 : Int) + ((i : Int) + 1) = 275 + (i : Int) by omega, c1, if_pos (by omega), gI_bb (s_listAt2 hi), gw32_id (z := 272 + uL1 i) (by omega) (by omega), gw32_id (z := 272 + uL1 i + (pre.length : Int)) (by omega) (by omega), if_pos (by omega), hx, gw32_id (by omega) (by omega), nx, ih']
      have un : qFind k (x :: r) (pre.length : Int) = if x.1 = k then (pre.length : Int) else qFind k r ((pre.length : Int) + 1) := rfl
      rw [un]
      by_cases q : x.1 = k
      · rw [if_pos q, if_pos q, decide_eq_true (by omega)]; rfl
      · rw [if_neg q, if_neg q, nx]
  rw [eq_isNamed]
  exact lp (pl.1 i) [] rfl
theorem vPt_oth {M M1 : gM} {pl : kP} {T : Nat} (h : vPt M pl T) (e : ∀ q : Int, q ≠ 288 → M1 729 q = M 729 q) : vPt M1 pl T := by
  obtain ⟨⟨a1, a2, a3, a4, a5, a6, a7, a8, a9, a10, a11⟩, b, c⟩ := h
  refine ⟨⟨by rw [e _ (by decide)]; exact a1, by rw [e _ (by decide)]; exact a2, by rw [e _ (by decide)]; exact a3, by rw [e _ (by decide)]; exact a4, by rw [e _ (by decide)]; exact a5, by rw [e _ (by decide)]; exact a6, by rw [e _ (by decide)]; exact a7, by rw [e _ (by decide)]; exact a8, by rw [e _ (by decide)]; exact a9, by rw [e _ (by decide)]; exact a10, by rw [e _ (by decide)]; exact a11⟩, fun i hi => ?_, fun w w0 w1 => by rw [e _ (by omega)]; exact c w w0 w1⟩
  obtain ⟨b1, b2, b3, b4⟩ := b i hi
  have hu := uL1_rng hi
  exact ⟨by rw [e _ (by omega)]; exact b1, b2, rw_congr b3 (fun q q0 q1 => e q (by omega)), fun h2 => rw_congr (b4 h2) (fun q q0 q1 => e q (by omega))⟩
theorem s_adds {M : gM} {pl : kP} {T i : Nat} {k v : Int} (h : vPt M pl T) (hi : i < 6) (hl : (pl.1 i).length < 4) : ∃ M1, F_adds M ((i : Int) + 1) k v = some (1, M1) ∧ vPt M1 (lnAdd pl i (k, v)) T ∧ ∀ q : Int, (q < 272 ∨ q = 288) → M1 729 q = M 729 q := by
  obtain ⟨⟨a1, a2, a3, a4, a5, a6, a7, a8, a9, a10, a11⟩, b, c⟩ := id h
  obtain ⟨c1, c2, c3, c4⟩ := b i hi
  have hu := uL1_rng hi
  rw [eq_adds, gw32_id (z := 274 + ((i : Int) + 1)) (by omega) (by omega), if_pos (by omega), gI_bb (s_listAt2 hi), show (274 : Int) + ((i : Int) + 1) = 275 + (i : Int) by omega, c1, gw32_id (z := 272 + uL1 i) (by omega) (by omega), gw32_id (z := 272 + uL1 i + ((pl.1 i).length : Int)) (by omega) (by omega), if_pos (by omega)]
  -- what every such writing comes to
  have key : ∀ M1 : gM, (∀ q : Int, q ≠ 272 + uL1 i + ((pl.1 i).length : Int) → q ≠ 275 + (i : Int) → (2 ≤ i → q ≠ 272 + uL1 i + 4 + ((pl.1 i).length : Int)) → M1 729 q = M 729 q) → M1 729 (272 + uL1 i + ((pl.1 i).length : Int)) = k → M1 729 (275 + (i : Int)) = ((pl.1 i).length : Int) + 1 → (2 ≤ i → M1 729 (272 + uL1 i + 4 + ((pl.1 i).length : Int)) = v) → vPt M1 (lnAdd pl i (k, v)) T ∧ ∀ q : Int, (q < 272 ∨ q = 288) → M1 729 q = M 729 q := by
    intro M1 e e1 e2 e3
    have e6 : (lnAdd pl i (k, v)).1 6 = pl.1 6 := if_neg (by omega)
    refine ⟨⟨?_, fun j hj => ?_, fun w w0 w1 => ?_⟩, fun q hq => e q (by omega) (by omega) (fun _ => by omega)⟩
    · rw [e6]
      exact ⟨by rw [e _ (by omega) (by omega) (fun _ => by omega)]; exact a1, by rw [e _ (by omega) (by omega) (fun _ => by omega)]; exact a2, by rw [e _ (by omega) (by omega) (fun _ => by omega)]; exact a3, by rw [e _ (by omega) (by omega) (fun _ => by omega)]; exact a4, by rw [e _ (by omega) (by omega) (fun _ => by omega)]; exact a5, by rw [e _ (by omega) (by omega) (fun _ => by omega)]; exact a6, by rw [e _ (by omega) (by omega) (fun _ => by omega)]; exact a7, by rw [e _ (by omega) (by omega) (fun _ => by omega)]; exact a8, by rw [e _ (by omega) (by omega) (fun _ => by omega)]; exact a9, by rw [e _ (by omega) (by omega) (fun _ => by omega)]; exact a10, by rw [e _ (by omega) (by omega) (fun _ => by omega)]; exact a11⟩
    · obtain ⟨b1, b2, b3, b4⟩ := b j hj
      have hv := uL1_rng hj
      by_cases ej : j = i
      · subst ej
        have e5 : (lnAdd pl j (k, v)).1 j = pl.1 j ++ [(k, v)] := if_pos rfl
        rw [e5, List.length_append, List.length_singleton, List.map_append, List.map_append]
        refine ⟨by rw [e2]; omega, by omega, rw_snoc (rw_congr b3 (fun q q0 q1 => ?_)) ?_, fun h2 => rw_snoc (rw_congr (b4 h2) (fun q q0 q1 => ?_)) ?_⟩
        · rw [List.length_map] at q1
          exact e q (by omega) (by omega) (fun _ => by omega)
        · rw [List.length_map]; exact e1
        · rw [List.length_map] at q1
          have := hv.2.2 h2
          exact e q (by omega) (by omega) (fun _ => by omega)
        · rw [List.length_map]; exact e3 h2
      · have e5 : (lnAdd pl i (k, v)).1 j = pl.1 j := if_neg ej
        rw [e5]
        have hap := uL1_ap hj hi ej
        refine ⟨by rw [e _ (by omega) (by omega) (fun _ => by omega)]; exact b1, b2, rw_congr b3 (fun q q0 q1 => ?_), fun h2 => rw_congr (b4 h2) (fun q q0 q1 => ?_)⟩
        · rw [List.length_map] at q1
          rcases hap with ⟨x1, x2⟩ | ⟨x1, x2⟩
          · exact e q (by omega) (by omega) (fun h2i => by have := hu.2.2 h2i; omega)
          · exact e q (by omega) (by omega) (fun h2i => by have := x2 h2i; omega)
        · rw [List.length_map] at q1
          have := hv.2.2 h2
          rcases hap with ⟨x1, x2⟩ | ⟨x1, x2⟩
          · have := x2 h2
            exact e q (by omega) (by omega) (fun h2i => by have := hu.2.2 h2i; omega)
          · exact e q (by omega) (by omega) (fun h2i => by have := x2 h2i; omega)
    · rw [e6, e _ (by omega) (by omega) (fun _ => by omega)]; exact c w w0 w1
  by_cases q : (i : Int) + 1 < 3
  · rw [if_pos q, gw32_id (by omega) (by omega)]
    refine ⟨_, rfl, key _ (fun x x0 x1 _ => by rw [gU_idx x1, gU_idx x0]) (by rw [gU_idx (by omega), gU_same]) (gU_same _ _ _ _) (fun w => by omega)⟩
  · have h2 := hu.2.2 (by omega)
    rw [if_neg q, gI_bb (s_listAt2 hi), gw32_id (z := 272 + uL1 i) (by omega) (by omega), gw32_id (z := 272 + uL1 i + 4) (by omega) (by omega), gw32_id (z := 272 + uL1 i + 4 + ((pl.1 i).length : Int)) (by omega) (by omega), if_pos (by omega), gw32_id (by omega) (by omega)]
    refine ⟨_, rfl, key _ (fun x x0 x1 x2 => by rw [gU_idx x1, gU_idx (x2 (by omega)), gU_idx x0]) (by rw [gU_idx (by omega), gU_idx (by omega), gU_same]) (gU_same _ _ _ _) (fun _ => by rw [gU_idx (by omega), gU_same])⟩
