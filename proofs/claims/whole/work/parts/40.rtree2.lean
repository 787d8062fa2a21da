-- ==== the reference: TREES are written
theorem uG_1 {M : gM} {q v p : Int} (h : p ≠ q) : uG (gU M 719 q v) p = uG M p := by unfold uG; rw [gU_idx h, gU_cel (by decide)]
theorem uG_2 {M : gM} {q v p : Int} (h : p ≠ q) : uG (gU M 720 q v) p = uG M p := by unfold uG; rw [gU_idx h, gU_cel (by decide)]
theorem uG_s {M : gM} {q v w : Int} : uG (gU (gU M 719 q v) 720 q w) q = (v, w) := by unfold uG; rw [gU_cel (by decide), gU_same, gU_same]
theorem uG_0 {M : gM} {q v p : Int} : uG (gU M 718 q v) p = uG M p := by unfold uG; rw [gU_cel (by decide), gU_cel (by decide)]
theorem uT_of {M M1 : gM} {t : Int} {fs : List gF} (h : uT M t fs) (h1 : M1 718 t = M 718 t) (h2 : ∀ q, uRow t ≤ q → q < uRow t + (fs.length : Int) → uG M1 q = uG M q) : uT M1 t fs :=
  ⟨h.1, by rw [h1]; exact h.2.1, h.2.2.1, rw_congr h.2.2.2 h2⟩
/-- tree t holds these, and no other has changed -/
def uPost (M : gM) (t : Int) (fs : List gF) (M1 : gM) : Prop := uT M1 t fs ∧ (∀ u, u ≠ t → M1 718 u = M 718 u) ∧ ∀ q, (q < uRow t ∨ uRow t + uCap t ≤ q) → uG M1 q = uG M q
theorem uT_keep {M M1 : gM} {t u : Int} {fs gs : List gF} (h : uPost M t fs M1) (hu : u ≠ t) (hU : uT M u gs) : uT M1 u gs := by
  refine uT_of hU (h.2.1 u hu) (fun q q1 q2 => h.2.2 q ?_)
  have := hU.2.2.1
  rcases uRow_apart hU.1 h.1.1 hu with z | z <;> omega
theorem s_copyTree {M : gM} {a b : Int} {fs : List gF} (hT : uT M a fs) (hb : 0 ≤ b ∧ b < 123) (hab : b ≠ a) (hc : (fs.length : Int) ≤ uCap b) : ∃ M1, F_copyTree M a b = some M1 ∧ uPost M b fs M1 := by
  have h32 := uT_32 hT
  have hra := uRow_rng hT.1
  have hrb := uRow_rng hb
  have hap := uRow_apart hT.1 hb (fun z => hab z.symm)
  have hca := hT.2.2.1
  rw [eq_copyTree, if_pos hT.1, if_pos hb]
  have lp : ∀ (suf pre : List gF) (M1 : gM), fs = pre ++ suf → (∀ u, u ≠ b → M1 718 u = M 718 u) → M1 718 b = (fs.length : Int) → (∀ q, (q < uRow b ∨ uRow b + uCap b ≤ q) → uG M1 q = uG M q) → rw_ (uG M1) (uRow b) pre →
      ∃ M2, F_copyTree_14 M1 a b (pre.length : Int) = some M2 ∧ uPost M b fs M2 := by
    intro suf
    induction suf with
    | nil =>
      intro pre M1 e h1 h2 h3 h4
      have hA : uT M1 a fs := uT_of hT (h1 a (fun z => hab z.symm)) (fun q q1 q2 => h3 q (by omega))
      rw [eq_copyTree_14, if_pos hT.1, if_neg (by rw [hA.2.1, e]; simp)]
      rw [List.append_nil] at e
      exact ⟨M1, rfl, ⟨hb, h2, hc, by rw [e]; exact h4⟩, h1, h3⟩
    | cons f r ih =>
      intro pre M1 e h1 h2 h3 h4
      have hl := len_mid e
      have hA : uT M1 a fs := uT_of hT (h1 a (fun z => hab z.symm)) (fun q q1 q2 => h3 q (by omega))
      have hA2 : uT (gU M1 719 (uRow b + (pre.length : Int)) f.1) a fs := uT_of hA (gU_cel (by decide)) (fun q q1 q2 => uG_1 (by omega))
      rw [eq_copyTree_14, if_pos hT.1, if_pos (by rw [hA.2.1]; omega), gI_bb (s_rowOf hb), gI_bb (s_pathAt hA (at_mid e))]
      simp (disch := omega) only [gw32_id]
      rw [if_pos (by omega), gI_bb (s_rowOf hb), gI_bb (s_contentAt hA2 (at_mid e))]
      simp (disch := omega) only [gw32_id]
      rw [if_pos (by omega)]
      have := ih (pre ++ [f]) (gU (gU M1 719 (uRow b + (pre.length : Int)) f.1) 720 (uRow b + (pre.length : Int)) f.2) (app_mid e) (fun u hu => by rw [gU_cel (by decide), gU_cel (by decide)]; exact h1 u hu) (by rw [gU_cel (by decide), gU_cel (by decide)]; exact h2) (fun q hq => by rw [uG_2 (by omega), uG_1 (by omega)]; exact h3 q hq)
        (rw_snoc (rw_congr h4 (fun q q1 q2 => by rw [uG_2 (by omega), uG_1 (by omega)])) uG_s)
      simpa using this
  have e0 : gU M 718 b (M 718 a) 718 b = (fs.length : Int) := by rw [gU_same]; exact hT.2.1
  simpa using lp fs [] (gU M 718 b (M 718 a)) rfl (fun u hu => gU_idx hu) e0 (fun q _ => uG_0) rw_nil
theorem tPut_ins {w c : Int} {A B : List gF} (h1 : ∀ f ∈ A, f.1 < w) (h2 : ∀ f ∈ B, w < f.1) : tPut w c (A ++ B) = A ++ (w, c) :: B := by
  rw [tPut_app w c A B h1]
  cases B with
  | nil => rfl
  | cons f r =>
    have := h2 f List.mem_cons_self
    rw [tPut, if_neg (by omega), if_neg (by omega)]
theorem tPut_set {w c : Int} {f : gF} : ∀ {fs : List gF} {j : Nat}, tSrt fs → fs[j]? = some f → f.1 = w → tPut w c fs = fs.set j (w, c)
  | [], j, _, h, _ => by simp at h
  | g :: r, 0, _, h, hw => by
    simp only [List.getElem?_cons_zero, Option.some.injEq] at h
    subst h
    rw [tPut, if_neg (by omega), if_pos hw]; rfl
  | g :: r, j + 1, hs, h, hw => by
    simp only [List.getElem?_cons_succ] at h
    have := (List.pairwise_cons.mp hs).1 f (List.mem_of_getElem? h)
    rw [tPut, if_pos (by omega), tPut_set (List.pairwise_cons.mp hs).2 h hw]; rfl
theorem rw_set {α : Type} {g g2 : Int → α} {i : Int} {xs : List α} {x : α} (h : rw_ g i xs) (j : Nat) (h1 : g2 (i + (j : Int)) = x) (h2 : ∀ q : Int, i ≤ q → q < i + (xs.length : Int) → q ≠ i + (j : Int) → g2 q = g q) : rw_ g2 i (xs.set j x) := by
  intro k y hy
  by_cases hkj : j = k
  · subst hkj
    rw [List.getElem?_set] at hy
    simp only [if_true] at hy
    split at hy
    · cases hy; exact h1
    · cases hy
  · rw [List.getElem?_set_ne hkj] at hy
    have := (List.getElem?_eq_some_iff.mp hy).1
    rw [h2 (i + (k : Int)) (by omega) (by omega) (by omega)]
    exact h k y hy
theorem tSrt_split {w : Int} {fs : List gF} (hs : tSrt fs) (hn : ∀ f ∈ fs, f.1 ≠ w) (A B : List gF) (f : gF) (e : fs = (A ++ [f]) ++ B) (hf : f.1 < w) : ∀ g ∈ A ++ [f], g.1 < w := by
  intro g hg
  rw [e] at hs
  have h1 := (List.pairwise_append.mp hs).1
  rcases List.mem_append.mp hg with z | z
  · have := (List.pairwise_append.mp h1).2.2 g z f (List.mem_singleton.mpr rfl)
    omega
  · rw [List.mem_singleton.mp z]; exact hf
theorem tPut_len1 (w c : Int) : ∀ {fs : List gF}, (∀ f ∈ fs, f.1 ≠ w) → (tPut w c fs).length = fs.length + 1
  | [], _ => rfl
  | f :: r, h => by
    have h0 := h f List.mem_cons_self
    unfold tPut
    split
    · simp [tPut_len1 w c (fun g hg => h g (List.mem_cons_of_mem _ hg))]
    · simp [h0]
theorem s_puts {M : gM} {t w c : Int} {fs : List gF} (hT : uT M t fs) (hs : tSrt fs) (hc : ((tPut w c fs).length : Int) ≤ uCap t) : ∃ M1, F_puts M t w c = some M1 ∧ uPost M t (tPut w c fs) M1 := by
  have h32 := uT_32 hT
  have hr := uRow_rng hT.1
  have hca := hT.2.2.1
  have hcr := uCap_rng t
  rw [eq_puts, gI_bb (s_rowOf hT.1), gI_bb (s_fileAt hT)]
  rcases tFind_spec w fs 0 (by decide) with ⟨a, -, hn⟩ | ⟨j, f, a, b, d, -⟩
  · have hl1 := tPut_len1 w c hn
    rw [a, if_pos rfl, if_pos hT.1, hT.2.1]
    have lp : ∀ (n : Nat) (A B : List gF) (M1 : gM), A.length = n → fs = A ++ B → (∀ f ∈ B, w < f.1) → M1 718 = M 718 → (∀ q, (q < uRow t ∨ uRow t + uCap t ≤ q) → uG M1 q = uG M q) → rw_ (uG M1) (uRow t) A → rw_ (uG M1) (uRow t + (A.length : Int) + 1) B →
        ∃ M2, F_puts_28 M1 t w c (uRow t) (A.length : Int) = some M2 ∧ uPost M t (tPut w c fs) M2 := by
      intro n
      have fin : ∀ (A B : List gF) (M1 : gM), fs = A ++ B → (∀ f ∈ A, f.1 < w) → (∀ f ∈ B, w < f.1) → M1 718 = M 718 → (∀ q, (q < uRow t ∨ uRow t + uCap t ≤ q) → uG M1 q = uG M q) → rw_ (uG M1) (uRow t) A → rw_ (uG M1) (uRow t + (A.length : Int) + 1) B →
          ∃ M2, F_puts_102 M1 t w c (uRow t) (A.length : Int) = some M2 ∧ uPost M t (tPut w c fs) M2 := by
        intro A B M1 e hA hB h1 h2 h3 h4
        have et : tPut w c fs = A ++ (w, c) :: B := by rw [e]; exact tPut_ins hA hB
        have el : fs.length = A.length + B.length := by rw [e]; simp
        have el2 : (tPut w c fs).length = A.length + B.length + 1 := by rw [et]; simp; omega
        rw [eq_puts_102, if_pos hT.1]
        simp (disch := omega) only [gw32_id]
        rw [if_pos (by omega), h1, hT.2.1, gw32_id (by omega) (by omega)]
        refine ⟨_, rfl, ⟨hT.1, ?_, hc, ?_⟩, fun u hu => ?_, fun q hq => ?_⟩
        · rw [gU_cel (by decide), gU_cel (by decide), gU_same, el2]; omega
        · rw [et]
          refine rw_mkapp (rw_congr h3 (fun q q1 q2 => by rw [uG_2 (by omega), uG_1 (by omega), uG_0])) (rw_mk uG_s (rw_congr h4 (fun q q1 q2 => by rw [uG_2 (by omega), uG_1 (by omega), uG_0])))
        · rw [gU_cel (by decide), gU_cel (by decide), gU_idx hu, h1]
        · rw [uG_2 (by omega), uG_1 (by omega), uG_0]; exact h2 q hq
      induction n with
      | zero =>
        intro A B M1 hn2 e hB h1 h2 h3 h4
        have : A = [] := List.length_eq_zero_iff.mp hn2
        subst this
        rw [eq_puts_28, if_neg (by simp)]
        exact fin [] B M1 e (fun f hf => by cases hf) hB h1 h2 h3 h4
      | succ n ih =>
        intro A B M1 hn2 e hB h1 h2 h3 h4
        obtain ⟨A0, g, rfl, hA0⟩ := ls_snoc hn2
        have el : fs.length = A0.length + 1 + B.length := by rw [e]; simp; omega
        have hl : ((A0 ++ [g]).length : Int) = (A0.length : Int) + 1 := by simp
        rw [hl] at h4 ⊢
        have hg := (rw_cons (rw_app h3).2).1
        have hg1 : M1 719 (uRow t + (A0.length : Int)) = g.1 := congrArg Prod.fst hg
        have hg2 : M1 720 (uRow t + (A0.length : Int)) = g.2 := congrArg Prod.snd hg
        rw [eq_puts_28, if_pos (by omega)]
        simp (disch := omega) only [gw32_id]
        rw [show uRow t + ((A0.length : Int) + 1) - 1 = uRow t + (A0.length : Int) by omega, if_pos (by omega), hg1]
        by_cases hw : w < g.1
        · rw [if_pos hw, if_pos (by omega), gU_cel (by decide), hg2, show (A0.length : Int) + 1 - 1 = (A0.length : Int) by omega]
          refine ih A0 (g :: B) _ hA0 (by rw [e]; simp) (fun f hf => ?_) ?_ (fun q hq => ?_) (rw_congr (rw_app h3).1 (fun q q1 q2 => by rw [uG_2 (by omega), uG_1 (by omega)])) ?_
          · rcases List.mem_cons.mp hf with z | z
            · rw [z]; exact hw
            · exact hB f z
          · rw [gU_cell _ _ _ (by decide), gU_cell _ _ _ (by decide)]; exact h1
          · rw [uG_2 (by omega), uG_1 (by omega)]; exact h2 q hq
          · rw [show uRow t + (A0.length : Int) + 1 = uRow t + ((A0.length : Int) + 1) by omega]
            exact rw_mk uG_s (rw_congr h4 (fun q q1 q2 => by rw [uG_2 (by omega), uG_1 (by omega)]))
        · rw [if_neg hw]
          have hne := hn g (by rw [e]; simp)
          have := fin (A0 ++ [g]) B M1 e (tSrt_split hs hn A0 B g e (by omega)) hB h1 h2 h3 (by rw [hl]; exact h4)
          rw [hl] at this
          exact this
    exact lp fs.length fs [] M rfl (by simp) (fun f hf => by cases hf) rfl (fun q _ => rfl) hT.2.2.2 rw_nil
  · have hj := (List.getElem?_eq_some_iff.mp a).1
    rw [d, Int.zero_add, if_neg (by omega)]
    simp (disch := omega) only [gw32_id]
    rw [if_pos (by omega)]
    have et : tPut w c fs = fs.set j (w, c) := tPut_set hs a b
    refine ⟨_, rfl, ⟨hT.1, ?_, hc, ?_⟩, fun u hu => ?_, fun q hq => ?_⟩
    · rw [gU_cel (by decide), gU_cel (by decide), hT.2.1, et, List.length_set]
    · rw [et]
      exact rw_set hT.2.2.2 j uG_s (fun q q1 q2 q3 => by rw [uG_2 q3, uG_1 q3])
    · rw [gU_cel (by decide), gU_cel (by decide)]
    · rw [uG_2 (by omega), uG_1 (by omega)]
theorem s_takes {M : gM} {t w : Int} {fs : List gF} (hT : uT M t fs) (hW : tW fs) (hw : pW w) : ∃ M1, F_takes M t w = some M1 ∧ uPost M t (fs.filter (fun f => !pCov w f.1)) M1 := by
  have h32 := uT_32 hT
  have hr := uRow_rng hT.1
  have hca := hT.2.2.1
  generalize hp : (fun f : gF => !pCov w f.1) = p
  rw [eq_takes, gI_bb (s_rowOf hT.1)]
  have lp : ∀ (suf pre : List gF) (M1 : gM), fs = pre ++ suf → M1 718 = M 718 → (∀ q, (q < uRow t ∨ uRow t + uCap t ≤ q) → uG M1 q = uG M q) → rw_ (uG M1) (uRow t) (pre.filter p) → rw_ (uG M1) (uRow t + (pre.length : Int)) suf →
      ∃ M2, F_takes_11 M1 t w (uRow t) ((pre.filter p).length : Int) (pre.length : Int) = some M2 ∧ uPost M t (fs.filter p) M2 := by
    intro suf
    induction suf with
    | nil =>
      intro pre M1 e h1 h2 h3 h4
      rw [eq_takes_11, if_pos hT.1, if_neg (by rw [h1, hT.2.1, e]; simp)]
      rw [List.append_nil] at e
      have hle : (fs.filter p).length ≤ fs.length := List.length_filter_le _ _
      refine ⟨_, rfl, ⟨hT.1, ?_, by omega, ?_⟩, fun u hu => ?_, fun q hq => ?_⟩
      · rw [gU_same, e]
      · rw [e]; exact rw_congr h3 (fun q _ _ => uG_0)
      · rw [gU_idx hu, h1]
      · rw [uG_0]; exact h2 q hq
    | cons f r ih =>
      intro pre M1 e h1 h2 h3 h4
      have hl := len_mid e
      have hle : (pre.filter p).length ≤ pre.length := List.length_filter_le _ _
      obtain ⟨h5, h6⟩ := rw_cons h4
      have hg1 : M1 719 (uRow t + (pre.length : Int)) = f.1 := congrArg Prod.fst h5
      have hg2 : M1 720 (uRow t + (pre.length : Int)) = f.2 := congrArg Prod.snd h5
      rw [eq_takes_11, if_pos hT.1, if_pos (by rw [h1, hT.2.1]; omega)]
      simp (disch := omega) only [gw32_id]
      rw [if_pos (by omega), hg1, gI_bb (s_isAtOrBelow (tW_mid hW e).1 hw)]
      have hpf : p f = !pCov w f.1 := by rw [← hp]
      cases hc : pCov w f.1 with
      | true =>
        rw [if_neg (by decide)]
        have hz : (pre ++ [f]).filter p = pre.filter p := by rw [List.filter_append]; simp [hpf, hc]
        have := ih (pre ++ [f]) M1 (app_mid e) h1 h2 (by rw [hz]; exact h3) (by simpa [Int.add_assoc] using h6)
        rw [hz] at this
        simpa using this
      | false =>
        rw [if_pos (by decide), if_pos (by omega), gU_cel (by decide), hg2]
        have hz : (pre ++ [f]).filter p = pre.filter p ++ [f] := by rw [List.filter_append]; simp [hpf, hc]
        have := ih (pre ++ [f]) (gU (gU M1 719 (uRow t + ((pre.filter p).length : Int)) f.1) 720 (uRow t + ((pre.filter p).length : Int)) f.2) (app_mid e) (by rw [gU_cell _ _ _ (by decide), gU_cell _ _ _ (by decide)]; exact h1) (fun q hq => by rw [uG_2 (by omega), uG_1 (by omega)]; exact h2 q hq)
          (by rw [hz]; exact rw_snoc (rw_congr h3 (fun q q1 q2 => by rw [uG_2 (by omega), uG_1 (by omega)])) uG_s)
          (by
            rw [show ((pre ++ [f]).length : Int) = (pre.length : Int) + 1 by simp, ← Int.add_assoc]
            exact rw_congr h6 (fun q q1 q2 => by rw [uG_2 (by omega), uG_1 (by omega)]))
        rw [hz] at this
        simpa using this
  simpa using lp fs [] M rfl rfl (fun q _ => rfl) rw_nil (by simpa using hT.2.2.2)
