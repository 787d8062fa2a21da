-- ==== the reference: TREES
def uRow (t : Int) : Int := if t < 120 then 16 * t else 1920 + 32 * (t - 120)
def uCap (t : Int) : Int := if t < 120 then 16 else 32
def uG (M : gM) (q : Int) : gF := (M 719 q, M 720 q)
def uT (M : gM) (t : Int) (fs : List gF) : Prop := (0 ≤ t ∧ t < 123) ∧ M 718 t = (fs.length : Int) ∧ (fs.length : Int) ≤ uCap t ∧ rw_ (uG M) (uRow t) fs
/-- PATHS and CONTENTS as they can be -/
def tW (fs : List gF) : Prop := ∀ f ∈ fs, pW f.1 ∧ 10 ≤ f.2 ∧ f.2 < 2000000
theorem uCap_rng (t : Int) : 16 ≤ uCap t ∧ uCap t ≤ 32 := by unfold uCap; split <;> omega
theorem uRow_rng {t : Int} (h : 0 ≤ t ∧ t < 123) : 0 ≤ uRow t ∧ uRow t + uCap t ≤ 2016 := by unfold uRow uCap; split <;> omega
theorem uRow_apart {t u : Int} (h : 0 ≤ t ∧ t < 123) (h2 : 0 ≤ u ∧ u < 123) (hn : t ≠ u) : uRow t + uCap t ≤ uRow u ∨ uRow u + uCap u ≤ uRow t := by
  unfold uRow uCap; split <;> split <;> omega
theorem s_rowOf {t : Int} (h : 0 ≤ t ∧ t < 123) : F_rowOf t = some (uRow t) := by
  rw [eq_rowOf]
  unfold uRow
  by_cases h1 : t < 120
  · rw [if_pos h1, if_pos h1, gw32_id (by omega) (by omega)]
  · rw [if_neg h1, if_neg h1]
    simp (disch := omega) only [gw32_id]
theorem at_mid {α : Type} {fs pre r : List α} {f : α} (e : fs = pre ++ f :: r) : fs[pre.length]? = some f := by rw [e]; simp
theorem len_mid {α : Type} {fs pre r : List α} {f : α} (e : fs = pre ++ f :: r) : fs.length = pre.length + r.length + 1 := by rw [e]; simp; omega
theorem app_mid {α : Type} {fs pre r : List α} {f : α} (e : fs = pre ++ f :: r) : fs = (pre ++ [f]) ++ r := by rw [e]; simp
theorem s_pathAt {M : gM} {t : Int} {fs : List gF} (hT : uT M t fs) {j : Nat} {f : gF} (h : fs[j]? = some f) : F_pathAt M t (j : Int) = some f.1 := by
  have hr := uRow_rng hT.1
  have hj := (List.getElem?_eq_some_iff.mp h).1
  have hc := hT.2.2.1
  have e : (uG M (uRow t + (j : Int))).1 = f.1 := by rw [hT.2.2.2 j f h]
  rw [eq_pathAt, gI_bb (s_rowOf hT.1)]
  rw [gw32_id (by omega) (by omega), if_pos (by omega)]
  exact congrArg some e
theorem s_contentAt {M : gM} {t : Int} {fs : List gF} (hT : uT M t fs) {j : Nat} {f : gF} (h : fs[j]? = some f) : F_contentAt M t (j : Int) = some f.2 := by
  have hr := uRow_rng hT.1
  have hj := (List.getElem?_eq_some_iff.mp h).1
  have hc := hT.2.2.1
  have e : (uG M (uRow t + (j : Int))).2 = f.2 := by rw [hT.2.2.2 j f h]
  rw [eq_contentAt, gI_bb (s_rowOf hT.1)]
  rw [gw32_id (by omega) (by omega), if_pos (by omega)]
  exact congrArg some e
theorem uT_32 {M : gM} {t : Int} {fs : List gF} (hT : uT M t fs) : fs.length ≤ 32 := by have := uCap_rng t; have := hT.2.2.1; omega
theorem s_fileAt {M : gM} {t w : Int} {fs : List gF} (hT : uT M t fs) : F_fileAt M t w = some (tFind w fs 0) := by
  have h32 := uT_32 hT
  have lp : ∀ (suf pre : List gF), fs = pre ++ suf → F_fileAt_2 M t w (pre.length : Int) = some (tFind w suf (pre.length : Int)) := by
    intro suf
    induction suf with
    | nil => intro pre e; rw [eq_fileAt_2, if_pos hT.1, if_neg (by rw [hT.2.1, e]; simp)]; rfl
    | cons f r ih =>
      intro pre e
      have hl := len_mid e
      rw [eq_fileAt_2, if_pos hT.1, if_pos (by rw [hT.2.1]; omega), gI_bb (s_pathAt hT (at_mid e)), tFind]
      by_cases h : f.1 = w
      · rw [if_pos h, if_pos h]
      · rw [if_neg h, if_neg h, gw32_id (by omega) (by omega)]
        simpa using ih (pre ++ [f]) (app_mid e)
  exact lp fs [] rfl
theorem tFind_spec (w : Int) : ∀ (fs : List gF) (i : Int), 0 ≤ i → (tFind w fs i = -1 ∧ tCont w fs = 0 ∧ ∀ f ∈ fs, f.1 ≠ w) ∨ ∃ (j : Nat) (f : gF), fs[j]? = some f ∧ f.1 = w ∧ tFind w fs i = i + (j : Int) ∧ tCont w fs = f.2
  | [], i, _ => Or.inl ⟨rfl, rfl, fun f hf => by cases hf⟩
  | f :: r, i, hi => by
    unfold tFind tCont
    by_cases h : f.1 = w
    · rw [if_pos h, if_pos h]
      exact Or.inr ⟨0, f, rfl, h, by simp, rfl⟩
    · rw [if_neg h, if_neg h]
      rcases tFind_spec w r (i + 1) (by omega) with ⟨a, b, c⟩ | ⟨j, g, a, b, c, d⟩
      · exact Or.inl ⟨a, b, fun g hg => by
          rcases List.mem_cons.mp hg with e | e
          · rw [e]; exact h
          · exact c g e⟩
      · exact Or.inr ⟨j + 1, g, a, b, by rw [c]; simp; omega, d⟩
theorem s_contentBy {M : gM} {t w : Int} {fs : List gF} (hT : uT M t fs) : F_contentBy M t w = some (tCont w fs) := by
  rw [eq_contentBy, gI_bb (s_fileAt hT)]
  rcases tFind_spec w fs 0 (by decide) with ⟨a, b, -⟩ | ⟨j, f, a, b, c, d⟩
  · rw [a, b]; rfl
  · rw [c, d, Int.zero_add, if_neg (by omega), gI_bb (s_contentAt hT a)]
theorem tW_cons {f : gF} {r : List gF} (h : tW (f :: r)) : pW f.1 ∧ tW r := ⟨(h f List.mem_cons_self).1, fun g hg => h g (List.mem_cons_of_mem _ hg)⟩
theorem tW_mid {pre r : List gF} {f : gF} {fs : List gF} (h : tW fs) (e : fs = pre ++ f :: r) : pW f.1 ∧ 10 ≤ f.2 ∧ f.2 < 2000000 := h f (by rw [e]; simp)
theorem s_filesBelow {M : gM} {t w : Int} {fs : List gF} (hT : uT M t fs) (hW : tW fs) (hw : pW w) : F_filesBelow M t w = some (tCnt w fs) := by
  have h32 := uT_32 hT
  have lp : ∀ (suf pre : List gF) (n : Int), fs = pre ++ suf → 0 ≤ n → n ≤ (pre.length : Int) → F_filesBelow_5 M t w n (pre.length : Int) = some (n + tCnt w suf) := by
    intro suf
    induction suf with
    | nil => intro pre n e n0 n1; rw [eq_filesBelow_5, if_pos hT.1, if_neg (by rw [hT.2.1, e]; simp)]; simp [tCnt]
    | cons f r ih =>
      intro pre n e n0 n1
      have hl := len_mid e
      rw [eq_filesBelow_5, if_pos hT.1, if_pos (by rw [hT.2.1]; omega), gI_bb (s_pathAt hT (at_mid e)), gI_bb (s_isAtOrBelow (tW_mid hW e).1 hw), tCnt]
      simp (disch := omega) only [gw32_id]
      cases pCov w f.1 with
      | true =>
        rw [if_neg (by decide)]
        have := ih (pre ++ [f]) (n + 1) (app_mid e) (by omega) (by simp; omega)
        simp only [List.length_append, List.length_singleton, Int.natCast_add, Int.natCast_one] at this
        rw [this, bI, if_pos rfl]; congr 1; omega
      | false =>
        rw [if_pos (by decide)]
        have := ih (pre ++ [f]) n (app_mid e) (by omega) (by simp; omega)
        simp only [List.length_append, List.length_singleton, Int.natCast_add, Int.natCast_one] at this
        rw [this, bI, if_neg (by decide), Int.zero_add]
  rw [eq_filesBelow]
  simpa using lp fs [] 0 rfl (by decide) (by decide)
/-- 1: a FILE, 2: a FOLDER, 0: nothing -/
def tKind (w : Int) (fs : List gF) : Int := if tFind w fs 0 = -1 then (if 0 < tCnt w fs then 2 else 0) else 1
theorem s_kindAt {M : gM} {t w : Int} {fs : List gF} (hT : uT M t fs) (hW : tW fs) (hw : pW w) : F_kindAt M t w = some (tKind w fs) := by
  rw [eq_kindAt, gI_bb (s_fileAt hT), tKind]
  by_cases h : tFind w fs 0 = -1
  · rw [if_pos h, if_pos h, gI_bb (s_filesBelow hT hW hw)]
    by_cases h2 : 0 < tCnt w fs
    · rw [if_pos h2, if_pos h2]
    · rw [if_neg h2, if_neg h2]
  · rw [if_neg h, if_neg h]
theorem s_isBarred {M : gM} {t w : Int} {fs : List gF} (hT : uT M t fs) (hW : tW fs) (hw : pW w) : F_isBarred M t w = some (bI (tAhead w fs)) := by
  have h32 := uT_32 hT
  have lp : ∀ (suf pre : List gF), fs = pre ++ suf → F_isBarred_2 M t w (pre.length : Int) = some (bI (tAhead w suf)) := by
    intro suf
    induction suf with
    | nil => intro pre e; rw [eq_isBarred_2, if_pos hT.1, if_neg (by rw [hT.2.1, e]; simp)]; rfl
    | cons f r ih =>
      intro pre e
      have hl := len_mid e
      rw [eq_isBarred_2, if_pos hT.1, if_pos (by rw [hT.2.1]; omega), gI_bb (s_pathAt hT (at_mid e)), gI_bb (s_begins (tW_mid hW e).1 hw), tAhead]
      have hi : F_isBarred_2 M t w (gw32 ((pre.length : Int) + 1)) = some (bI (tAhead w r)) := by
        rw [gw32_id (by omega) (by omega)]
        simpa using ih (pre ++ [f]) (app_mid e)
      by_cases h : f.1 = w
      · rw [if_pos h, (decide_eq_false (fun z => z h) : decide (f.1 ≠ w) = false), Bool.false_and, if_pos (by decide), hi]
      · rw [if_neg h, (decide_eq_true h : decide (f.1 ≠ w) = true), Bool.true_and]
        cases pCov f.1 w with
        | true => rw [if_neg (by decide), if_pos rfl]; rfl
        | false => rw [if_pos (by decide), if_neg (by decide), hi]
  exact lp fs [] rfl
theorem s_areLike {M : gM} {t u : Int} {fs gs : List gF} (hT : uT M t fs) (hU : uT M u gs) : F_areLike M t u = some (bI (decide (fs = gs))) := by
  have h32 := uT_32 hT
  rw [eq_areLike, if_pos hT.1, if_pos hU.1]
  by_cases hlen : fs.length = gs.length
  · rw [if_pos (by rw [hT.2.1, hU.2.1, hlen])]
    have lp : ∀ (suf suf2 pre : List gF), fs = pre ++ suf → gs = pre ++ suf2 → F_areLike_19 M t u (pre.length : Int) = some (bI (decide (fs = gs))) := by
      intro suf
      induction suf with
      | nil =>
        intro suf2 pre e e2
        rw [eq_areLike_19, if_pos hT.1, if_neg (by rw [hT.2.1, e]; simp)]
        have : suf2 = [] := by rw [e, e2] at hlen; simpa using hlen.symm
        rw [decide_eq_true (by rw [e, e2, this])]; rfl
      | cons f r ih =>
        intro suf2 pre e e2
        have hl := len_mid e
        cases suf2 with
        | nil => rw [e2] at hlen; simp at hlen; omega
        | cons g r2 =>
          rw [eq_areLike_19, if_pos hT.1, if_pos (by rw [hT.2.1]; omega), gI_bb (s_pathAt hT (at_mid e)), gI_bb (s_pathAt hU (at_mid e2))]
          have hne : f ≠ g → fs ≠ gs := fun h1 h2 => h1 (by
            have := at_mid e
            rw [h2, at_mid e2] at this
            exact (Option.some.inj this).symm)
          by_cases h1 : f.1 = g.1
          · rw [if_pos h1, gI_bb (s_contentAt hT (at_mid e)), gI_bb (s_contentAt hU (at_mid e2))]
            by_cases h2 : f.2 = g.2
            · rw [if_pos h2, gw32_id (by omega) (by omega)]
              have hfg : f = g := Prod.ext h1 h2
              subst hfg
              simpa using ih r2 (pre ++ [f]) (app_mid e) (app_mid e2)
            · rw [if_neg h2, decide_eq_false (hne (fun z => h2 (by rw [z])))]; rfl
          · rw [if_neg h1, decide_eq_false (hne (fun z => h1 (by rw [z])))]; rfl
    exact lp fs gs [] rfl rfl
  · rw [if_neg (by rw [hT.2.1, hU.2.1]; omega), decide_eq_false (fun z => hlen (by rw [z]))]; rfl
