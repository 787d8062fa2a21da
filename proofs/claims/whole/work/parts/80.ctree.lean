-- ==== TREE' of the reference
/-- PATHS and CONTENTS of a PLAN are such -/
def plW (pl : kP) : Prop := (∀ x ∈ pl.1 0, pW x.1) ∧ (∀ x ∈ pl.1 1, pW x.1) ∧ (∀ x ∈ pl.1 2, pW x.1 ∧ pW x.2) ∧ (∀ x ∈ pl.1 3, 10 ≤ x.2 ∧ x.2 < 2000000)
theorem plW_rng {pl : kP} (h : plW pl) : plRng pl := ⟨fun f hf => ⟨(h.1 f hf).1, (h.1 f hf).2.1⟩, fun f hf => ⟨(h.2.1 f hf).1, (h.2.1 f hf).2.1⟩, fun f hf => ⟨⟨(h.2.2.1 f hf).1.1, (h.2.2.1 f hf).1.2.1⟩, (h.2.2.1 f hf).2.1, (h.2.2.1 f hf).2.2.1⟩⟩
theorem s_isTaken {M : gM} {p t : Int} {pl : kP} {fs : List gF} {j : Nat} {f : gF} (h : uPq M p pl) (hp : 0 ≤ p ∧ p ≤ 3) (hw : plW pl) (hT : uT M t fs) (hW : tW fs) (hj : fs[j]? = some f) : F_isTaken M p t (j : Int) = some (bI (rTk pl f)) := by
  have hf := hW f (List.mem_of_getElem? hj)
  have h0 : F_manyOf M p 1 = some ((pl.1 0).length : Int) := s_manyOf h hp (i := 0) (by decide)
  have h1 : F_manyOf M p 2 = some ((pl.1 1).length : Int) := s_manyOf h hp (i := 1) (by decide)
  have f0 : ∀ {j : Nat} {x : Int × Int}, (pl.1 0)[j]? = some x → F_firstOf M p 1 (j : Int) = some x.1 := fun hj => s_firstOf h hp (i := 0) (by decide) hj
  have f1 : ∀ {j : Nat} {x : Int × Int}, (pl.1 1)[j]? = some x → F_firstOf M p 2 (j : Int) = some x.1 := fun hj => s_firstOf h hp (i := 1) (by decide) hj
  have l0 := (h.2.1 0 (by decide)).2.1
  have l1 := (h.2.1 1 (by decide)).2.1
  have lp1 : ∀ (suf pre : List (Int × Int)) (b : Bool), pl.1 1 = pre ++ suf → F_isTaken_92 M p t (j : Int) (bI b) (pre.length : Int) = some (bI (b && !qCov f.1 suf)) := by
    intro suf
    induction suf with
    | nil =>
      intro pre b e
      have hlen := congrArg List.length e
      rw [List.append_nil] at hlen
      rw [eq_isTaken_92, gI_bb h1, if_neg (by omega), if_pos (by cases b <;> decide)]
      rw [show qCov f.1 [] = false from rfl]; cases b <;> rfl
    | cons x r ih =>
      intro pre b e
      have hlen := congrArg List.length e
      rw [List.length_append, List.length_cons] at hlen
      have nx := fun b => ih (pre ++ [x]) b (by rw [e]; simp)
      rw [List.length_append] at nx
      rw [eq_isTaken_92, gI_bb h1, if_pos (by omega)]
      rw [gw32_id (by omega) (by omega), qCov]
      cases b with
      | false =>
        rw [if_pos bIf]
        have := nx false
        rw [Bool.false_and] at this ⊢
        exact this
      | true =>
        rw [if_neg bIt, gI_bb (s_pathAt hT hj), gI_bb (f1 (at_mid e)), gI_bb (s_isAtOrBelow hf.1 (hw.2.1 x (by rw [e]; simp)))]
        cases hc : pCov x.1 f.1 with
        | false =>
          rw [if_pos bIf, if_neg (by decide)]
          have := nx true
          rw [Bool.true_and] at this ⊢
          exact this
        | true =>
          rw [if_neg bIt, if_pos rfl]
          have := nx false
          rw [Bool.false_and] at this
          exact this
  have lp0 : ∀ (suf pre : List (Int × Int)) (b : Bool), pl.1 0 = pre ++ suf → F_isTaken_40 M p t (j : Int) (bI b) (pre.length : Int) = some (bI ((b || qCov f.1 suf) && !qCov f.1 (pl.1 1))) := by
    intro suf
    induction suf with
    | nil =>
      intro pre b e
      have hlen := congrArg List.length e
      rw [List.append_nil] at hlen
      rw [eq_isTaken_40, gI_bb h0, if_neg (by omega), show qCov f.1 [] = false from rfl, Bool.or_false]
      exact lp1 (pl.1 1) [] b rfl
    | cons x r ih =>
      intro pre b e
      have hlen := congrArg List.length e
      rw [List.length_append, List.length_cons] at hlen
      have nx := fun b => ih (pre ++ [x]) b (by rw [e]; simp)
      rw [List.length_append] at nx
      rw [eq_isTaken_40, gI_bb h0, if_pos (by omega), gw32_id (by omega) (by omega), qCov]
      cases b with
      | true =>
        rw [if_neg bIt]
        have := nx true
        rw [Bool.true_or] at this ⊢
        exact this
      | false =>
        rw [if_pos bIf, gI_bb (s_pathAt hT hj), gI_bb (f0 (at_mid e)), gI_bb (s_isAtOrBelow hf.1 (hw.1 x (by rw [e]; simp)))]
        cases hc : pCov x.1 f.1 with
        | false =>
          rw [if_pos bIf, if_neg (by decide)]
          have := nx false
          rw [Bool.false_or] at this ⊢
          exact this
        | true =>
          rw [if_neg bIt, if_pos rfl]
          have := nx true
          rw [Bool.true_or] at this
          rw [Bool.false_or]
          exact this
  have e16 := h.1.2.2.2.2.2.2.2.2.1
  rw [eq_isTaken, gI_bb (s_contentAt hT hj), gI_bb (s_digits (by omega) (by omega)), gI_bb (s_ofPlan hp (by decide)), e16]
  unfold rTk
  by_cases q : pl.2.1 16 < dgN 6 f.2
  · rw [if_pos q, decide_eq_true q]; rfl
  · rw [if_neg q, decide_eq_false q, gI_bb h0, Bool.not_false, Bool.true_and]
    by_cases n : pl.1 0 = []
    · rw [decide_eq_true n, if_pos (by rw [n]; rfl)]
      exact lp0 (pl.1 0) [] true rfl
    · rw [decide_eq_false n, if_neg (fun w => n (List.length_eq_zero_iff.mp (by omega)))]
      exact lp0 (pl.1 0) [] false rfl
theorem s_moveOf {M : gM} {p w : Int} {pl : kP} (h : uPq M p pl) (hp : 0 ≤ p ∧ p ≤ 3) (hw : plW pl) (hW : pW w) : (F_moveOf M p w = some (-1) ∧ plBest w none (pl.1 2) = none) ∨ ∃ (j : Nat) (x : Int × Int), (pl.1 2)[j]? = some x ∧ F_moveOf M p w = some (j : Int) ∧ plBest w none (pl.1 2) = some x ∧ pCov x.1 w = true := by
  have h0 : F_manyOf M p 3 = some ((pl.1 2).length : Int) := s_manyOf h hp (i := 2) (by decide)
  have f0 : ∀ {j : Nat} {x : Int × Int}, (pl.1 2)[j]? = some x → F_firstOf M p 3 (j : Int) = some x.1 := fun hj => s_firstOf h hp (i := 2) (by decide) hj
  have l0 := (h.2.1 2 (by decide)).2.1
  have lp : ∀ (suf pre : List (Int × Int)) (best : Option (Int × Int)) (x3 x4 : Int), pl.1 2 = pre ++ suf → ((best = none ∧ x3 = -1 ∧ x4 = -1) ∨ ∃ (j : Nat) (x : Int × Int), (pl.1 2)[j]? = some x ∧ best = some x ∧ pCov x.1 w = true ∧ x3 = (j : Int) ∧ x4 = pNm x.1) → (F_moveOf_8 M p w x3 x4 (pre.length : Int) = some (-1) ∧ plBest w best suf = none) ∨ ∃ (j : Nat) (x : Int × Int), (pl.1 2)[j]? = some x ∧ F_moveOf_8 M p w x3 x4 (pre.length : Int) = some (j : Int) ∧ plBest w best suf = some x ∧ pCov x.1 w = true := by
    intro suf
    induction suf with
    | nil =>
      intro pre best x3 x4 e hb
      have hlen := congrArg List.length e
      rw [List.append_nil] at hlen
      rw [eq_moveOf_8, gI_bb h0, if_neg (by omega)]
      rcases hb with ⟨rfl, rfl, rfl⟩ | ⟨j, x, a, rfl, b, rfl, rfl⟩
      · exact Or.inl ⟨rfl, rfl⟩
      · exact Or.inr ⟨j, x, a, rfl, rfl, b⟩
    | cons y r ih =>
      intro pre best x3 x4 e hb
      have hlen := congrArg List.length e
      rw [List.length_append, List.length_cons] at hlen
      have hy := (hw.2.2.1 y (by rw [e]; simp)).1
      have hat := at_mid e
      have ny := pNm_rng y.1
      have nx := fun best x3 x4 => ih (pre ++ [y]) best x3 x4 (by rw [e]; simp)
      rw [List.length_append] at nx
      have nx : ∀ (best : Option (Int × Int)) (x3 x4 : Int), _ := nx
      rw [eq_moveOf_8, gI_bb h0, if_pos (by omega), gI_bb (f0 hat), gI_bb (s_isAtOrBelow hW hy), gw32_id (by omega) (by omega)]
      cases hc : pCov y.1 w with
      | false =>
        rw [if_pos bIf]
        have : plBest w best (y :: r) = plBest w best r := by cases best <;> rw [plBest, hc] <;> rfl
        rw [this]
        simpa using nx best x3 x4 hb
      | true =>
        rw [if_neg bIt, gI_bb (s_names hy)]
        have upd : plBest w best (y :: r) = plBest w (some y) r → (F_moveOf_8 M p w (pre.length : Int) (pNm y.1) ((pre.length : Int) + 1) = some (-1) ∧ plBest w best (y :: r) = none) ∨ ∃ (j : Nat) (x : Int × Int), (pl.1 2)[j]? = some x ∧ F_moveOf_8 M p w (pre.length : Int) (pNm y.1) ((pre.length : Int) + 1) = some (j : Int) ∧ plBest w best (y :: r) = some x ∧ pCov x.1 w = true := fun hu => by
          rw [hu]
          simpa using nx (some y) (pre.length : Int) (pNm y.1) (Or.inr ⟨pre.length, y, hat, rfl, hc, rfl, rfl⟩)
        rcases hb with ⟨rfl, rfl, rfl⟩ | ⟨j, x, a, rfl, b, rfl, rfl⟩
        · rw [if_pos (by omega), gI_bb (s_names hy)]
          exact upd (by rw [plBest, hc]; rfl)
        · by_cases q : pNm x.1 < pNm y.1
          · rw [if_pos q, gI_bb (s_names hy)]
            exact upd (by rw [plBest, hc, if_pos rfl, if_pos q])
          · rw [if_neg q]
            have : plBest w (some x) (y :: r) = plBest w (some x) r := by rw [plBest, hc, if_pos rfl, if_neg q]
            rw [this]
            simpa using nx (some x) (j : Int) (pNm x.1) (Or.inr ⟨j, x, a, rfl, b, rfl, rfl⟩)
  rw [eq_moveOf]
  exact lp (pl.1 2) [] none (-1) (-1) rfl (Or.inl ⟨rfl, rfl, rfl⟩)
theorem s_carriedPath {M : gM} {p w : Int} {pl : kP} (h : uPq M p pl) (hp : 0 ≤ p ∧ p ≤ 3) (hw : plW pl) (hW : pW w) : F_carriedPath M p w = some (plPlace w (pl.1 2)) ∧ (plPlace w (pl.1 2) = -1 ∨ (0 ≤ plPlace w (pl.1 2) ∧ pW (plPlace w (pl.1 2)) ∧ (1 ≤ pNm w → 1 ≤ pNm (plPlace w (pl.1 2))))) := by
  rw [eq_carriedPath]
  unfold plPlace
  rcases s_moveOf h hp hw hW with ⟨a, b⟩ | ⟨j, x, a, b, c, d⟩
  · rw [gI_bb a, if_pos rfl, b]
    exact ⟨rfl, Or.inr ⟨hW.1, hW, fun h => h⟩⟩
  · obtain ⟨hf, ht⟩ := hw.2.2.1 x (List.mem_of_getElem? a)
    have f0 : F_firstOf M p 3 (j : Int) = some x.1 := s_firstOf h hp (i := 2) (by decide) a
    have g0 : F_secondOf M p 3 (j : Int) = some x.2 := s_secondOf h hp (i := 2) (by decide) (by decide) a
    have n1 := pNm_rng w
    have n2 := pNm_rng x.1
    have n3 := pNm_rng x.2
    rw [gI_bb b, if_neg (by omega), gI_bb f0, gI_bb g0, gI_bb (s_names hW), gI_bb (s_names hf), gI_bb (s_names ht), c]
    simp (disch := omega) only [gw32_id]
    rw [gI_bb s_in]
    show (if bI (decide (1 ≤ pNm w - pNm x.1 + pNm x.2 ∧ pNm w - pNm x.1 + pNm x.2 ≤ 6)) = 0 then some (-1) else _) = some (pMov w x.1 x.2) ∧ (pMov w x.1 x.2 = -1 ∨ (0 ≤ pMov w x.1 x.2 ∧ pW (pMov w x.1 x.2) ∧ (1 ≤ pNm w → 1 ≤ pNm (pMov w x.1 x.2))))
    by_cases q : 1 ≤ pNm w - pNm x.1 + pNm x.2 ∧ pNm w - pNm x.1 + pNm x.2 ≤ 6
    · have hm := pMov_W hW hf ht d (by omega) (by omega)
      rw [decide_eq_true q, if_neg bIt, gI_bb (s_moved hW hf ht d (by omega) (by omega))]
      exact ⟨rfl, Or.inr ⟨hm.1.1, hm.1, fun _ => by rw [hm.2]; omega⟩⟩
    · rw [decide_eq_false q, if_pos bIf]
      have : pMov w x.1 x.2 = -1 := by unfold pMov; rw [if_pos (by omega)]
      rw [this]
      exact ⟨rfl, Or.inl rfl⟩
theorem s_isInTheWay {M : gM} {w : Int} {fs : List gF} (hT : uT M 121 fs) (hW : tW fs) (hw : pW w) : F_isInTheWay M w = some (bI (tTaken w fs)) := by
  have h32 := uT_32 hT
  have lp : ∀ (suf pre : List gF), fs = pre ++ suf → F_isInTheWay_2 M w (pre.length : Int) = some (bI (tTaken w suf)) := by
    intro suf
    induction suf with
    | nil =>
      intro pre e
      have hlen := congrArg List.length e
      rw [List.append_nil] at hlen
      rw [eq_isInTheWay_2, hT.2.1, if_neg (by omega)]; rfl
    | cons f r ih =>
      intro pre e
      have hlen := congrArg List.length e
      rw [List.length_append, List.length_cons] at hlen
      have hf := (tW_mid hW e).1
      have nx := ih (pre ++ [f]) (by rw [e]; simp)
      rw [List.length_append] at nx
      rw [eq_isInTheWay_2, hT.2.1, if_pos (by omega), gI_bb (s_pathAt hT (at_mid e)), tTaken, gw32_id (by omega) (by omega)]
      by_cases q : f.1 = w
      · rw [if_pos q, q, pCov_self, if_pos rfl]; rfl
      · rw [if_neg q, gI_bb (s_pathAt hT (at_mid e)), gI_bb (s_begins hf hw), decide_eq_true q, Bool.true_and]
        cases hc : pCov f.1 w with
        | true => rw [if_neg bIt, if_pos rfl]; rfl
        | false =>
          rw [if_pos bIf, gI_bb (s_pathAt hT (at_mid e)), gI_bb (s_begins hw hf), decide_eq_true (show w ≠ f.1 from fun z => q z.symm), Bool.true_and, if_neg (show ¬ false = true by decide)]
          cases hd : pCov w f.1 with
          | true => rw [if_neg bIt, if_pos rfl]; rfl
          | false => rw [if_pos bIf, if_neg (show ¬ false = true by decide)]; exact nx
  rw [eq_isInTheWay]
  exact lp fs [] rfl
theorem s_swapped {M : gM} {p c : Int} {pl : kP} (h : uPq M p pl) (hp : 0 ≤ p ∧ p ≤ 3) : F_swapped M p c = some ((qGet c (pl.1 3)).getD c) := by
  have h0 : F_manyOf M p 4 = some ((pl.1 3).length : Int) := s_manyOf h hp (i := 3) (by decide)
  have f0 : ∀ {j : Nat} {x : Int × Int}, (pl.1 3)[j]? = some x → F_firstOf M p 4 (j : Int) = some x.1 := fun hj => s_firstOf h hp (i := 3) (by decide) hj
  have g0 : ∀ {j : Nat} {x : Int × Int}, (pl.1 3)[j]? = some x → F_secondOf M p 4 (j : Int) = some x.2 := fun hj => s_secondOf h hp (i := 3) (by decide) (by decide) hj
  have l0 := (h.2.1 3 (by decide)).2.1
  have lp : ∀ (suf pre : List (Int × Int)), pl.1 3 = pre ++ suf → F_swapped_2 M p c (pre.length : Int) = some ((qGet c suf).getD c) := by
    intro suf
    induction suf with
    | nil =>
      intro pre e
      have hlen := congrArg List.length e
      rw [List.append_nil] at hlen
      rw [eq_swapped_2, gI_bb h0, if_neg (by omega)]; rfl
    | cons x r ih =>
      intro pre e
      have hlen := congrArg List.length e
      rw [List.length_append, List.length_cons] at hlen
      have nx := ih (pre ++ [x]) (by rw [e]; simp)
      rw [List.length_append] at nx
      rw [eq_swapped_2, gI_bb h0, if_pos (by omega), gI_bb (f0 (at_mid e)), qGet, gw32_id (by omega) (by omega)]
      by_cases q : x.1 = c
      · rw [if_pos q, if_pos q, gI_bb (g0 (at_mid e))]; rfl
      · rw [if_neg q, if_neg q]; simpa using nx
  rw [eq_swapped]
  exact lp (pl.1 3) [] rfl
theorem tTaken_no {w : Int} : ∀ {fs : List gF}, tTaken w fs = false → ∀ f ∈ fs, pCov f.1 w = false ∧ pCov w f.1 = false
  | [], _, _, hf => by cases hf
  | f :: r, h, g, hg => by
    rw [tTaken] at h
    cases h1 : pCov f.1 w with
    | true => rw [h1, if_pos rfl] at h; cases h
    | false =>
      cases h2 : pCov w f.1 with
      | true => rw [h1, h2, if_neg (by decide), if_pos rfl] at h; cases h
      | false =>
        rw [h1, h2, if_neg (by decide), if_neg (by decide)] at h
        rcases List.mem_cons.mp hg with e | e
        · rw [e]; exact ⟨h1, h2⟩
        · exact tTaken_no h g e
theorem swp_rng {pl : kP} (hw : plW pl) {c : Int} (hc : 10 ≤ c ∧ c < 2000000) : 10 ≤ (qGet c (pl.1 3)).getD c ∧ (qGet c (pl.1 3)).getD c < 2000000 := by
  cases h : qGet c (pl.1 3) with
  | none => exact hc
  | some v => exact hw.2.2.2 (c, v) (qGet_mem h)
theorem uG_U {M : gM} {b i v q : Int} (h1 : (719 : Int) ≠ b) (h2 : (720 : Int) ≠ b) : uG (gU M b i v) q = uG M q := by
  show ((gU M b i v) 719 q, (gU M b i v) 720 q) = (M 719 q, M 720 q)
  rw [gU_cell M i v h1, gU_cell M i v h2]
theorem uT_711 {M : gM} {t i v : Int} {fs : List gF} (h : uT M t fs) : uT (gU M 711 i v) t fs := uT_of h (by rw [gU_cell M i v (show (718 : Int) ≠ 711 by decide)]) (fun q _ _ => uG_U (by decide) (by decide))
/-- what is known of the loop's state -/
def ctS (M M0 : gM) (acc : List gF) (tk ls : Int) : Prop := uT M 121 acc ∧ M 711 32 = tk ∧ M 711 33 = ls ∧ (∀ (u : Int) (gs : List gF), u ≠ 121 → uT M0 u gs → uT M u gs) ∧ gFr [718, 719, 720] [32, 33] M0 M
theorem s_carriesTree {M : gM} {p t : Int} {pl : kP} {fs : List gF} (h : uPq M p pl) (hp : 0 ≤ p ∧ p ≤ 3) (hw : plW pl) (ht : t ≠ 121) (hT : uT M t fs) (hG : tGd fs) (hl : fs.length ≤ 16) :
    ∃ M1, F_carriesTree M p t = some M1 ∧ ctS M1 M (rCt pl fs 0 0 []).2.2 (rCt pl fs 0 0 []).1 (rCt pl fs 0 0 []).2.1 ∧ tGd (rCt pl fs 0 0 []).2.2 ∧ (rCt pl fs 0 0 []).2.2.length ≤ 16 ∧ ((∀ f ∈ fs, 1 ≤ pNm f.1) → ∀ f ∈ (rCt pl fs 0 0 []).2.2, 1 ≤ pNm f.1) ∧ 0 ≤ (rCt pl fs 0 0 []).1 ∧ (rCt pl fs 0 0 []).1 ≤ 16 ∧ 0 ≤ (rCt pl fs 0 0 []).2.1 ∧ (rCt pl fs 0 0 []).2.1 ≤ 16 := by
  have lp : ∀ (suf pre acc : List gF) (M1 : gM) (tk ls : Int), fs = pre ++ suf → ctS M1 M acc tk ls → tGd acc → acc.length ≤ pre.length → ((∀ f ∈ fs, 1 ≤ pNm f.1) → ∀ f ∈ acc, 1 ≤ pNm f.1) → 0 ≤ tk → tk ≤ (pre.length : Int) → 0 ≤ ls → ls ≤ tk →
      ∃ M2, F_carriesTree_20 M1 p t (pre.length : Int) = some M2 ∧ ctS M2 M (rCt pl suf tk ls acc).2.2 (rCt pl suf tk ls acc).1 (rCt pl suf tk ls acc).2.1 ∧ tGd (rCt pl suf tk ls acc).2.2 ∧ (rCt pl suf tk ls acc).2.2.length ≤ 16 ∧ ((∀ f ∈ fs, 1 ≤ pNm f.1) → ∀ f ∈ (rCt pl suf tk ls acc).2.2, 1 ≤ pNm f.1) ∧ 0 ≤ (rCt pl suf tk ls acc).1 ∧ (rCt pl suf tk ls acc).1 ≤ 16 ∧ 0 ≤ (rCt pl suf tk ls acc).2.1 ∧ (rCt pl suf tk ls acc).2.1 ≤ 16 := by
    intro suf
    induction suf with
    | nil =>
      intro pre acc M1 tk ls e hS hA hlen2 hN2 t0 t1 l0 l1
      have hlen := congrArg List.length e
      rw [List.append_nil] at hlen
      have hT1 := hS.2.2.2.1 t fs ht hT
      rw [eq_carriesTree_20, if_pos hT1.1, hT1.2.1, if_neg (by omega)]
      exact ⟨M1, rfl, hS, hA, by show acc.length ≤ 16; omega, hN2, t0, by show tk ≤ 16; omega, l0, by show ls ≤ 16; omega⟩
    | cons f r ih =>
      intro pre acc M1 tk ls e hS hA hlen2 hN2 t0 t1 l0 l1
      have hlen := congrArg List.length e
      rw [List.length_append, List.length_cons] at hlen
      obtain ⟨s1, s2, s3, s4, s5⟩ := id hS
      have hT1 := s4 t fs ht hT
      have hP1 : uPq M1 p pl := uPq_of h (s5.1 729 (by decide) (by decide)) (s5.1 730 (by decide) (by decide)) (s5.1 731 (by decide) (by decide))
      have hf := tW_mid hG.2.2 e
      have nx := ih (pre ++ [f])
      rw [List.length_append] at nx
      rw [eq_carriesTree_20, if_pos hT1.1, hT1.2.1, if_pos (by omega), gI_bb (s_isTaken hP1 hp hw hT1 hG.2.2 (at_mid e)), gw32_id (z := (pre.length : Int) + 1) (by omega) (by omega), rCt]
      cases hk : rTk pl f with
      | false =>
        rw [if_pos bIf, if_neg (by decide)]
        have := nx acc M1 tk ls (by rw [e]; simp) hS hA (by omega) hN2 t0 (by simp; omega) l0 l1
        simpa using this
      | true =>
        rw [if_neg bIt, if_pos rfl, s2, gw32_id (z := tk + 1) (by omega) (by omega)]
        have k2 : gFr [] [32, 33] M1 (gU M1 711 32 (tk + 1)) := gFr_f (gFr_r _ _ _) (.head _)
        have hU2 : ∀ (u : Int) (gs : List gF), uT M1 u gs → uT (gU M1 711 32 (tk + 1)) u gs := fun u gs hu => uT_711 hu
        have hS2 : ctS (gU M1 711 32 (tk + 1)) M acc (tk + 1) ls := ⟨hU2 _ _ s1, gU_same _ _ _ _, by rw [gU_idx (by decide)]; exact s3, fun u gs hu hu2 => hU2 _ _ (s4 u gs hu hu2), ⟨fun b hb hb2 => by rw [gU_cell _ _ _ hb2]; exact s5.1 b hb hb2, fun x hx => by rw [gU_idx (fun w => hx (by rw [w]; exact .head _))]; exact s5.2 x hx⟩⟩
        have hP2 : uPq (gU M1 711 32 (tk + 1)) p pl := uPq_of hP1 (gU_cell _ _ _ (by decide)) (gU_cell _ _ _ (by decide)) (gU_cell _ _ _ (by decide))
        obtain ⟨c1, c2⟩ := s_carriedPath hP2 hp hw hf.1
        rw [gI_bb (s_pathAt (hU2 _ _ hT1) (at_mid e)), gI_bb c1]
        have lost : (plPlace f.1 (pl.1 2) < 0 ∨ tTaken (plPlace f.1 (pl.1 2)) acc = true) → ∃ M2, F_carriesTree_20 (gU (gU M1 711 32 (tk + 1)) 711 33 (gw32 (gU M1 711 32 (tk + 1) 711 33 + 1))) p t ((pre.length : Int) + 1) = some M2 ∧ ctS M2 M (if plPlace f.1 (pl.1 2) < 0 ∨ tTaken (plPlace f.1 (pl.1 2)) acc = true then rCt pl r (tk + 1) (ls + 1) acc else rCt pl r (tk + 1) ls (tPut (plPlace f.1 (pl.1 2)) ((qGet f.2 (pl.1 3)).getD f.2) acc)).2.2 (if plPlace f.1 (pl.1 2) < 0 ∨ tTaken (plPlace f.1 (pl.1 2)) acc = true then rCt pl r (tk + 1) (ls + 1) acc else rCt pl r (tk + 1) ls (tPut (plPlace f.1 (pl.1 2)) ((qGet f.2 (pl.1 3)).getD f.2) acc)).1 (if plPlace f.1 (pl.1 2) < 0 ∨ tTaken (plPlace f.1 (pl.1 2)) acc = true then rCt pl r (tk + 1) (ls + 1) acc else rCt pl r (tk + 1) ls (tPut (plPlace f.1 (pl.1 2)) ((qGet f.2 (pl.1 3)).getD f.2) acc)).2.1 ∧ tGd (if plPlace f.1 (pl.1 2) < 0 ∨ tTaken (plPlace f.1 (pl.1 2)) acc = true then rCt pl r (tk + 1) (ls + 1) acc else rCt pl r (tk + 1) ls (tPut (plPlace f.1 (pl.1 2)) ((qGet f.2 (pl.1 3)).getD f.2) acc)).2.2 ∧ (if plPlace f.1 (pl.1 2) < 0 ∨ tTaken (plPlace f.1 (pl.1 2)) acc = true then rCt pl r (tk + 1) (ls + 1) acc else rCt pl r (tk + 1) ls (tPut (plPlace f.1 (pl.1 2)) ((qGet f.2 (pl.1 3)).getD f.2) acc)).2.2.length ≤ 16 ∧ ((∀ f ∈ fs, 1 ≤ pNm f.1) → ∀ g ∈ (if plPlace f.1 (pl.1 2) < 0 ∨ tTaken (plPlace f.1 (pl.1 2)) acc = true then rCt pl r (tk + 1) (ls + 1) acc else rCt pl r (tk + 1) ls (tPut (plPlace f.1 (pl.1 2)) ((qGet f.2 (pl.1 3)).getD f.2) acc)).2.2, 1 ≤ pNm g.1) ∧ 0 ≤ (if plPlace f.1 (pl.1 2) < 0 ∨ tTaken (plPlace f.1 (pl.1 2)) acc = true then rCt pl r (tk + 1) (ls + 1) acc else rCt pl r (tk + 1) ls (tPut (plPlace f.1 (pl.1 2)) ((qGet f.2 (pl.1 3)).getD f.2) acc)).1 ∧ (if plPlace f.1 (pl.1 2) < 0 ∨ tTaken (plPlace f.1 (pl.1 2)) acc = true then rCt pl r (tk + 1) (ls + 1) acc else rCt pl r (tk + 1) ls (tPut (plPlace f.1 (pl.1 2)) ((qGet f.2 (pl.1 3)).getD f.2) acc)).1 ≤ 16 ∧ 0 ≤ (if plPlace f.1 (pl.1 2) < 0 ∨ tTaken (plPlace f.1 (pl.1 2)) acc = true then rCt pl r (tk + 1) (ls + 1) acc else rCt pl r (tk + 1) ls (tPut (plPlace f.1 (pl.1 2)) ((qGet f.2 (pl.1 3)).getD f.2) acc)).2.1 ∧ (if plPlace f.1 (pl.1 2) < 0 ∨ tTaken (plPlace f.1 (pl.1 2)) acc = true then rCt pl r (tk + 1) (ls + 1) acc else rCt pl r (tk + 1) ls (tPut (plPlace f.1 (pl.1 2)) ((qGet f.2 (pl.1 3)).getD f.2) acc)).2.1 ≤ 16 := fun hx => by
          rw [if_pos hx, gU_idx (by decide), s3, gw32_id (z := ls + 1) (by omega) (by omega)]
          have hS3 : ctS (gU (gU M1 711 32 (tk + 1)) 711 33 (ls + 1)) M acc (tk + 1) (ls + 1) := by
            obtain ⟨a1, a2, a3, a4, a5⟩ := hS2
            have hU3 : ∀ (u : Int) (gs : List gF), uT (gU M1 711 32 (tk + 1)) u gs → uT (gU (gU M1 711 32 (tk + 1)) 711 33 (ls + 1)) u gs := fun u gs hu => uT_711 hu
            exact ⟨hU3 _ _ a1, by rw [gU_idx (by decide)]; exact a2, gU_same _ _ _ _, fun u gs hu hu2 => hU3 _ _ (a4 u gs hu hu2), ⟨fun b hb hb2 => by rw [gU_cell _ _ _ hb2]; exact a5.1 b hb hb2, fun x hx => by rw [gU_idx (fun w => hx (by rw [w]; exact .tail _ (.head _)))]; exact a5.2 x hx⟩⟩
          have := nx acc _ (tk + 1) (ls + 1) (by rw [e]; simp) hS3 hA (by omega) hN2 (by omega) (by simp; omega) (by omega) (by omega)
          simpa using this
        rcases c2 with c2 | ⟨c2, c3, c4⟩
        · rw [if_pos c2]
          exact lost (Or.inl (by omega))
        · rw [if_neg (by omega), gI_bb (s_isInTheWay hS2.1 hA.2.2 c3)]
          cases hi : tTaken (plPlace f.1 (pl.1 2)) acc with
          | true =>
            rw [hi] at lost
            rw [if_neg bIt]
            exact lost (Or.inr rfl)
          | false =>
            have hno := tTaken_no hi
            have hneg : ¬ (plPlace f.1 (pl.1 2) < 0 ∨ false = true) := fun w => by
              rcases w with w | w
              · omega
              · cases w
            rw [if_pos bIf, gI_bb (s_contentAt (hU2 _ _ hT1) (at_mid e)), gI_bb (s_swapped hP2 hp), if_neg hneg]
            have hsw := swp_rng hw hf.2
            have hpl := tPut_len (plPlace f.1 (pl.1 2)) ((qGet f.2 (pl.1 3)).getD f.2) acc
            obtain ⟨M3, e3, p3⟩ := s_puts (c := (qGet f.2 (pl.1 3)).getD f.2) (w := plPlace f.1 (pl.1 2)) hS2.1 hA.1 (by show _ ≤ (32 : Int); omega)
            rw [gI_bb e3]
            have f3 := fr_puts e3
            have hA3 : tGd (tPut (plPlace f.1 (pl.1 2)) ((qGet f.2 (pl.1 3)).getD f.2) acc) := tGd_put hA c3 hsw (fun g hg w => by rw [(hno g hg).1] at w; cases w) (fun g hg w => by rw [(hno g hg).2] at w; cases w)
            obtain ⟨a1, a2, a3, a4, a5⟩ := hS2
            have hS3 : ctS M3 M (tPut (plPlace f.1 (pl.1 2)) ((qGet f.2 (pl.1 3)).getD f.2) acc) (tk + 1) ls := ⟨p3.1, by rw [f3.2 32 (by simp)]; exact a2, by rw [f3.2 33 (by simp)]; exact a3, fun u gs hu hu2 => uT_keep p3 hu (a4 u gs hu hu2), ⟨fun b hb hb2 => by rw [f3.1 b hb hb2]; exact a5.1 b hb hb2, fun x hx => by rw [f3.2 x (by simp)]; exact a5.2 x hx⟩⟩
            have := nx _ M3 (tk + 1) ls (by rw [e]; simp) hS3 hA3 (by simp; omega) (fun hN g hg => by
              rcases tPut_mem hg with w | w
              · rw [w]; exact c4 (hN f (by rw [e]; simp))
              · exact hN2 hN g w) (by omega) (by simp; omega) (by omega) (by omega)
            simpa using this
  rw [eq_carriesTree]
  have hU0 : ∀ (u : Int) (gs : List gF), u ≠ 121 → uT M u gs → uT (gU (gU (gU M 718 121 0) 711 32 0) 711 33 0) u gs := fun u gs hu hu2 => uT_711 (uT_711 (uT_of hu2 (gU_idx hu) (fun q _ _ => uG_U (by decide) (by decide))))
  exact lp fs [] [] _ 0 0 rfl ⟨⟨by decide, by rw [gU_cell _ _ _ (by decide), gU_cell _ _ _ (by decide), gU_same]; rfl, by decide, rw_nil⟩, by rw [gU_idx (by decide), gU_same], gU_same _ _ _ _, hU0, ⟨fun b hb hb2 => by rw [gU_cell _ _ _ hb2, gU_cell _ _ _ hb2, gU_cell _ _ _ (fun w => hb (by rw [w]; exact .head _))], fun x hx => by rw [gU_idx (fun w => hx (by rw [w]; exact .tail _ (.head _))), gU_idx (fun w => hx (by rw [w]; exact .head _)), gU_cell _ _ _ (by decide)]⟩⟩ tGd_nil (Nat.le_refl _) (fun _ f hf => by cases hf) (by decide) (by decide) (by decide) (by decide)
