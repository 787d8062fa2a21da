-- ==== the reference: COMMITS
def uRowC (M : gM) (k : Int) (c : kC) : Prop := M 712 k = ((kPs c).length : Int) ∧ rw_ (M 713) (3 * k) (kPs c) ∧ M 716 k = ((kMs c).length : Int) ∧ rw_ (M 717) (24 * k) (kMs c) ∧ M 714 k = kWh c ∧ M 715 k = kHr c ∧ uT M k (kFs c)
def uC (M : gM) (cs : List kC) : Prop := M 711 0 = (cs.length : Int) ∧ cs.length ≤ 120 ∧ ∀ (k : Nat) (c : kC), cs[k]? = some c → uRowC M (k : Int) c
/-- what each COMMIT is like -/
def kOk (cs : List kC) : Prop := ∀ (k : Nat) (c : kC), cs[k]? = some c → kWf (k : Int) c ∧ tW (kFs c) ∧ tSrt (kFs c)
theorem uRowC_of {M M1 : gM} {k : Int} {c : kC} (h : uRowC M k c) (hk : 0 ≤ k) (h1 : M1 712 k = M 712 k) (h2 : ∀ q, 3 * k ≤ q → q < 3 * k + ((kPs c).length : Int) → M1 713 q = M 713 q) (h3 : M1 716 k = M 716 k) (h4 : ∀ q, 24 * k ≤ q → q < 24 * k + ((kMs c).length : Int) → M1 717 q = M 717 q) (h5 : M1 714 k = M 714 k) (h6 : M1 715 k = M 715 k) (h7 : uT M1 k (kFs c)) : uRowC M1 k c :=
  ⟨h1.trans h.1, rw_congr h.2.1 h2, h3.trans h.2.2.1, rw_congr h.2.2.2.1 h4, h5.trans h.2.2.2.2.1, h6.trans h.2.2.2.2.2.1, h7⟩
theorem uC_same {M M1 : gM} {cs : List kC} (h : uC M cs) (h0 : M1 711 0 = M 711 0) (h1 : ∀ b : Int, 712 ≤ b → b ≤ 720 → M1 b = M b) : uC M1 cs := by
  refine ⟨h0.trans h.1, h.2.1, fun k c hk => ?_⟩
  have hr := h.2.2 k c hk
  have e : uG M1 = uG M := by funext q; unfold uG; rw [h1 719 (by decide) (by decide), h1 720 (by decide) (by decide)]
  refine uRowC_of hr (by omega) (by rw [h1 712 (by decide) (by decide)]) (fun q _ _ => by rw [h1 713 (by decide) (by decide)]) (by rw [h1 716 (by decide) (by decide)]) (fun q _ _ => by rw [h1 717 (by decide) (by decide)]) (by rw [h1 714 (by decide) (by decide)]) (by rw [h1 715 (by decide) (by decide)]) ?_
  exact uT_of hr.2.2.2.2.2.2 (by rw [h1 718 (by decide) (by decide)]) (fun q _ _ => by rw [e])
theorem uC_fr {M M1 : gM} {cs : List kC} {A F : List Int} (h : uC M cs) (hf : gFr A F M M1) (hA : ∀ b : Int, 712 ≤ b → b ≤ 720 → b ∉ A) (hF : (0 : Int) ∉ F) : uC M1 cs :=
  uC_same h (hf.2 0 hF) (fun b b0 b1 => hf.1 b (hA b b0 b1) (by omega))
theorem uC_len {M : gM} {cs : List kC} (h : uC M cs) {k : Nat} {c : kC} (hk : cs[k]? = some c) : k < cs.length ∧ k < 120 := by
  have := (List.getElem?_eq_some_iff.mp hk).1
  have := h.2.1
  omega
theorem s_in {a b c : Int} : F_in a b c = some (bI (decide (b ≤ a ∧ a ≤ c))) := by
  rw [eq_in]
  by_cases h : a < b
  · rw [if_pos h, decide_eq_false (by omega)]; rfl
  · rw [if_neg h]
    by_cases h2 : c < a
    · rw [if_pos h2, decide_eq_false (by omega)]; rfl
    · rw [if_neg h2, decide_eq_true (by omega)]; rfl
theorem s_isCommit {M : gM} {cs : List kC} (h : uC M cs) (k : Int) : F_isCommit M k = some (bI (decide (0 ≤ k ∧ k < (cs.length : Int)))) := by
  have := h.2.1
  rw [eq_isCommit, gI_bb s_in, h.1, gw32_id (by omega) (by omega)]
  congr 2
  exact decide_eq_decide.mpr (by omega)
theorem s_parentAt {M : gM} {cs : List kC} (h : uC M cs) {k i : Nat} {c : kC} {p : Int} (hk : cs[k]? = some c) (hw : (kPs c).length ≤ 3) (hi : (kPs c)[i]? = some p) : F_parentAt M (k : Int) (i : Int) = some p := by
  have hl := uC_len h hk
  have hil := (List.getElem?_eq_some_iff.mp hi).1
  have e := (h.2.2 k c hk).2.1 i p hi
  rw [eq_parentAt]
  simp (disch := omega) only [gw32_id]
  rw [if_pos (by omega), e]
-- ---- a COMMIT in the making
def uN (M : gM) (ps ms : List Int) : Prop := M 711 12 = (ps.length : Int) ∧ ps.length ≤ 3 ∧ rw_ (M 721) 0 ps ∧ M 711 13 = (ms.length : Int) ∧ ms.length ≤ 24 ∧ rw_ (M 722) 0 ms
theorem ne_mid {α : Type} {xs ys pre r r2 : List α} {x y : α} (e : xs = pre ++ x :: r) (e2 : ys = pre ++ y :: r2) (h : x ≠ y) : xs ≠ ys := fun z => h (by
  have h1 := at_mid e
  rw [z, at_mid e2] at h1
  exact (Option.some.inj h1).symm)
theorem s_isSameAs {M : gM} {cs : List kC} {t wh hr : Int} {k : Nat} {c : kC} {fs : List gF} {ps ms : List Int} (h : uC M cs) (hk : cs[k]? = some c) (hw : kWf (k : Int) c) (hT : uT M t fs) (hN : uN M ps ms) :
    F_isSameAs M (k : Int) t wh hr = some (bI (decide (kFs c = fs ∧ kAs c (ps, fs, ms, wh, hr)))) := by
  have hl := uC_len h hk
  obtain ⟨r1, r2, r3, r4, r5, r6, r7⟩ := h.2.2 k c hk
  obtain ⟨n1, n2, n3, n4, n5, n6⟩ := hN
  have hp3 := hw.1
  have hm24 := hw.2.2.1
  have no : ¬ (kFs c = fs ∧ kAs c (ps, fs, ms, wh, hr)) → some (0 : Int) = some (bI (decide (kFs c = fs ∧ kAs c (ps, fs, ms, wh, hr)))) := fun q => by rw [decide_eq_false q]; rfl
  rw [eq_isSameAs, if_pos (by omega), r1, n1]
  by_cases q1 : (kPs c).length = ps.length
  · rw [if_pos (by omega), r3, n4]
    by_cases q2 : (kMs c).length = ms.length
    · rw [if_pos (by omega), r5]
      by_cases q3 : kWh c = wh
      · rw [if_pos q3, r6]
        by_cases q4 : kHr c = hr
        · rw [if_pos q4]
          have l2 : ∀ (suf suf2 pre : List Int), kPs c = ps → kMs c = pre ++ suf → ms = pre ++ suf2 → F_isSameAs_89 M (k : Int) t wh hr (pre.length : Int) = some (bI (decide (kFs c = fs ∧ kAs c (ps, fs, ms, wh, hr)))) := by
            intro suf
            induction suf with
            | nil =>
              intro suf2 pre e0 e e2
              have : suf2 = [] := by rw [e, e2] at q2; simpa using q2.symm
              rw [eq_isSameAs_89, if_neg (by rw [n4, e2, this]; simp), gI_bb (s_areLike r7 hT)]
              congr 2
              exact decide_eq_decide.mpr ⟨fun z => ⟨z, q3, q4, e0, by show kMs c = ms; rw [e, e2, this]⟩, fun z => z.1⟩
            | cons x r ih =>
              intro suf2 pre e0 e e2
              have hl1 := len_mid e
              cases suf2 with
              | nil => rw [e2] at q2; simp at q2; omega
              | cons y r' =>
                have a1 := r4 pre.length x (at_mid e)
                have a2 := n6 pre.length y (at_mid e2)
                rw [Int.zero_add] at a2
                rw [eq_isSameAs_89, if_pos (by rw [n4]; omega)]
                simp (disch := omega) only [gw32_id]
                rw [if_pos (by omega), if_pos (by omega), a1, a2]
                by_cases hxy : x = y
                · subst hxy
                  rw [if_pos rfl]
                  simpa using ih r' (pre ++ [x]) e0 (app_mid e) (app_mid e2)
                · rw [if_neg hxy]
                  exact no (fun z => ne_mid e e2 hxy z.2.2.2.2)
          have l1 : ∀ (suf suf2 pre : List Int), kPs c = pre ++ suf → ps = pre ++ suf2 → F_isSameAs_52 M (k : Int) t wh hr (pre.length : Int) = some (bI (decide (kFs c = fs ∧ kAs c (ps, fs, ms, wh, hr)))) := by
            intro suf
            induction suf with
            | nil =>
              intro suf2 pre e e2
              have : suf2 = [] := by rw [e, e2] at q1; simpa using q1.symm
              rw [eq_isSameAs_52, if_neg (by rw [n1, e2, this]; simp)]
              exact l2 (kMs c) ms [] (by rw [e, e2, this]) rfl rfl
            | cons x r ih =>
              intro suf2 pre e e2
              have hl1 := len_mid e
              cases suf2 with
              | nil => rw [e2] at q1; simp at q1; omega
              | cons y r' =>
                have a2 := n3 pre.length y (at_mid e2)
                rw [Int.zero_add] at a2
                rw [eq_isSameAs_52, if_pos (by rw [n1]; omega), gI_bb (s_parentAt h hk hp3 (at_mid e))]
                simp (disch := omega) only [gw32_id]
                rw [if_pos (by omega), a2]
                by_cases hxy : x = y
                · subst hxy
                  rw [if_pos rfl]
                  simpa using ih r' (pre ++ [x]) (app_mid e) (app_mid e2)
                · rw [if_neg hxy]
                  exact no (fun z => ne_mid e e2 hxy z.2.2.2.1)
          exact l1 (kPs c) ps [] rfl rfl
        · rw [if_neg q4]; exact no (fun z => q4 z.2.2.1)
      · rw [if_neg q3]; exact no (fun z => q3 z.2.1)
    · rw [if_neg (by omega)]; exact no (fun z => q2 (by rw [z.2.2.2.2]; rfl))
  · rw [if_neg (by omega)]; exact no (fun z => q1 (by rw [z.2.2.2.1]; rfl))
/-- what a new COMMIT leaves as it was: trees beside those of COMMITS, rows that are not of COMMITS -/
def uCP (M M1 : gM) : Prop := (∀ t fs, 120 ≤ t → uT M t fs → uT M1 t fs) ∧ gFr [712, 713, 714, 715, 716, 717, 718, 719, 720] [0] M M1
theorem s_comes {M : gM} {cs : List kC} {t wh hr : Int} {fs : List gF} {ps ms : List Int} (h : uC M cs) (hO : kOk cs) (ht : 120 ≤ t) (hT : uT M t fs) (hN : uN M ps ms) (h16 : cs.length < 120 → fs.length ≤ 16) :
    ∃ M1, F_comes M t wh hr = some ((kSet cs (ps, fs, ms, wh, hr)).1, M1) ∧ uC M1 (kSet cs (ps, fs, ms, wh, hr)).2 ∧ uCP M M1 := by
  obtain ⟨n1, n2, n3, n4, n5, n6⟩ := id hN
  have hlen := h.2.1
  generalize hd : (ps, fs, ms, wh, hr) = d
  have hps : kPs d = ps := by rw [← hd]; rfl
  have hms : kMs d = ms := by rw [← hd]; rfl
  have hfs : kFs d = fs := by rw [← hd]; rfl
  have hwh : kWh d = wh := by rw [← hd]; rfl
  have hhr : kHr d = hr := by rw [← hd]; rfl
  -- a new row
  have new : kFind d cs 0 = -1 → (cs.length : Int) ≠ 120 → ∃ M1, F_comes_65 (gU M 712 (cs.length : Int) (ps.length : Int)) t wh hr (cs.length : Int) 0 = some ((kSet cs d).1, M1) ∧ uC M1 (kSet cs d).2 ∧ uCP M M1 := by
    intro hf hne
    have hset : kSet cs d = ((cs.length : Int), cs ++ [d]) := by unfold kSet; rw [if_neg (by omega), if_neg (by omega)]
    rw [hset]
    have hk0 : (0 : Int) ≤ (cs.length : Int) := Int.natCast_nonneg _
    generalize hK : (cs.length : Int) = K at *
    -- what stands while the row is written
    let J : gM → Prop := fun M1 => M1 711 = M 711 ∧ M1 721 = M 721 ∧ M1 722 = M 722 ∧ M1 718 = M 718 ∧ M1 719 = M 719 ∧ M1 720 = M 720 ∧ (∀ b q, 712 ≤ b → b ≤ 717 → b ≠ 713 → b ≠ 717 → q ≠ K → M1 b q = M b q) ∧ (∀ q, q < 3 * K → M1 713 q = M 713 q) ∧ (∀ q, q < 24 * K → M1 717 q = M 717 q) ∧ ∀ b, (b < 711 ∨ 720 < b) → M1 b = M b
    have J2 : ∀ M1, J M1 → M1 712 K = (ps.length : Int) → rw_ (M1 713) (3 * K) ps → M1 716 K = (ms.length : Int) → rw_ (M1 717) (24 * K) ms → ∃ M2, F_comes_113 M1 t wh hr K (ms.length : Int) = some (K, M2) ∧ uC M2 (cs ++ [d]) ∧ uCP M M2 := by
      intro M1 hJ a1 a2 a3 a4
      obtain ⟨j1, j2, j3, j4, j5, j6, j7, j8, j9, j10⟩ := hJ
      rw [eq_comes_113, if_neg (by rw [j1, n4]; omega), if_pos (by omega)]
      have hT2 : uT (gU (gU M1 714 K wh) 715 K hr) t fs := uT_of hT (by rw [gU_cel (by decide), gU_cel (by decide), j4]) (fun q _ _ => by unfold uG; simp only [gU_cel, ne_eq, Int.reduceEq, not_false_eq_true, j5, j6])
      have hcap : uCap K = 16 := by unfold uCap; rw [if_pos (by omega)]
      obtain ⟨M2, e2, hP⟩ := s_copyTree hT2 (b := K) (by omega) (by omega) (by have := h16 (by omega); omega)
      have hfr := fr_copyTree e2
      rw [gI_bb e2]
      have e711 : M2 711 = M 711 := by
        funext f
        rw [hfr.2 f (by simp), gU_cel (by decide), gU_cel (by decide), j1]
      rw [e711, h.1, hK, gw32_id (by omega) (by omega)]
      have hb : ∀ b : Int, b ≠ 711 → b ≠ 718 → b ≠ 719 → b ≠ 720 → gU M2 711 0 (K + 1) b = gU (gU M1 714 K wh) 715 K hr b := fun b b0 b1 b2 b3 => by rw [gU_cell _ _ _ b0]; exact hfr.1 b (by simp [b1, b2, b3]) b0
      have hb1 : ∀ b : Int, b ≠ 711 → b ≠ 714 → b ≠ 715 → b ≠ 718 → b ≠ 719 → b ≠ 720 → gU M2 711 0 (K + 1) b = M1 b := fun b b0 b1 b2 b3 b4 b5 => by rw [hb b b0 b3 b4 b5, gU_cell _ _ _ b2, gU_cell _ _ _ b1]
      have eG : uG (gU M2 711 0 (K + 1)) = uG M2 := by funext q; unfold uG; rw [gU_cel (by decide), gU_cel (by decide)]
      have e718 : gU M2 711 0 (K + 1) 718 = M2 718 := gU_cell _ _ _ (by decide)
      have keepT : ∀ u gs, u ≠ K → uT M u gs → uT (gU M2 711 0 (K + 1)) u gs := by
        intro u gs hu hU
        have hU2 : uT (gU (gU M1 714 K wh) 715 K hr) u gs := uT_of hU (by rw [gU_cel (by decide), gU_cel (by decide), j4]) (fun q _ _ => by unfold uG; simp only [gU_cel, ne_eq, Int.reduceEq, not_false_eq_true, j5, j6])
        exact uT_of (uT_keep hP hu hU2) (by rw [e718]) (fun q _ _ => by rw [eG])
      refine ⟨_, rfl, ⟨by rw [gU_same]; simp; omega, by simp; omega, fun k c hk => ?_⟩, fun u gs hu hU => keepT u gs (by omega) hU, fun b hbA hb7 => ?_, fun f hf2 => ?_⟩
      · by_cases hkl : k < cs.length
        · rw [List.getElem?_append_left hkl] at hk
          have hr0 := h.2.2 k c hk
          have hw0 := (hO k c hk).1
          have q3 := hw0.1
          have q24 := hw0.2.2.1
          refine uRowC_of hr0 (by omega) ?_ (fun q q1 q2 => ?_) ?_ (fun q q1 q2 => ?_) ?_ ?_ (keepT _ _ (by omega) hr0.2.2.2.2.2.2)
          · rw [hb1 712 (by decide) (by decide) (by decide) (by decide) (by decide) (by decide)]; exact j7 712 _ (by decide) (by decide) (by decide) (by decide) (by omega)
          · rw [hb1 713 (by decide) (by decide) (by decide) (by decide) (by decide) (by decide)]; exact j8 q (by omega)
          · rw [hb1 716 (by decide) (by decide) (by decide) (by decide) (by decide) (by decide)]; exact j7 716 _ (by decide) (by decide) (by decide) (by decide) (by omega)
          · rw [hb1 717 (by decide) (by decide) (by decide) (by decide) (by decide) (by decide)]; exact j9 q (by omega)
          · rw [hb 714 (by decide) (by decide) (by decide) (by decide), gU_cel (by decide), gU_idx (by omega)]; exact j7 714 _ (by decide) (by decide) (by decide) (by decide) (by omega)
          · rw [hb 715 (by decide) (by decide) (by decide) (by decide), gU_idx (by omega), gU_cel (by decide)]; exact j7 715 _ (by decide) (by decide) (by decide) (by decide) (by omega)
        · rw [List.getElem?_append_right (by omega)] at hk
          have hkk : k = cs.length := by
            have := (List.getElem?_eq_some_iff.mp hk).1
            simp at this; omega
          subst hkk
          rw [Nat.sub_self] at hk
          cases hk
          rw [hK]
          refine ⟨?_, ?_, ?_, ?_, ?_, ?_, ?_⟩
          · rw [hb1 712 (by decide) (by decide) (by decide) (by decide) (by decide) (by decide), hps]; exact a1
          · rw [hb1 713 (by decide) (by decide) (by decide) (by decide) (by decide) (by decide), hps]; exact a2
          · rw [hb1 716 (by decide) (by decide) (by decide) (by decide) (by decide) (by decide), hms]; exact a3
          · rw [hb1 717 (by decide) (by decide) (by decide) (by decide) (by decide) (by decide), hms]; exact a4
          · rw [hb 714 (by decide) (by decide) (by decide) (by decide), gU_cel (by decide), gU_same, hwh]
          · rw [hb 715 (by decide) (by decide) (by decide) (by decide), gU_same, hhr]
          · rw [hfs]; exact uT_of hP.1 (by rw [e718]) (fun q _ _ => by rw [eG])
      · simp only [List.mem_cons, List.not_mem_nil, or_false, not_or] at hbA
        rw [hb1 b hb7 hbA.2.2.1 hbA.2.2.2.1 hbA.2.2.2.2.2.2.1 hbA.2.2.2.2.2.2.2.1 hbA.2.2.2.2.2.2.2.2]
        by_cases hlt : b < 711
        · exact j10 b (Or.inl hlt)
        · exact j10 b (Or.inr (by omega))
      · simp only [List.mem_singleton] at hf2
        rw [gU_idx hf2, e711]
    have l2 : ∀ (suf pre : List Int) (M1 : gM), J M1 → M1 712 K = (ps.length : Int) → rw_ (M1 713) (3 * K) ps → M1 716 K = (ms.length : Int) → ms = pre ++ suf → rw_ (M1 717) (24 * K) pre → ∃ M2, F_comes_113 M1 t wh hr K (pre.length : Int) = some (K, M2) ∧ uC M2 (cs ++ [d]) ∧ uCP M M2 := by
      intro suf
      induction suf with
      | nil =>
        intro pre M1 hJ a1 a2 a3 e a4
        rw [List.append_nil] at e
        subst e
        exact J2 M1 hJ a1 a2 a3 a4
      | cons x r ih =>
        intro pre M1 hJ a1 a2 a3 e a4
        have hl1 := len_mid e
        have b2 := n6 pre.length x (at_mid e)
        rw [Int.zero_add] at b2
        obtain ⟨j1, j2, j3, j4, j5, j6, j7, j8, j9, j10⟩ := id hJ
        rw [eq_comes_113, if_pos (by rw [j1, n4]; omega), if_pos (by omega)]
        simp (disch := omega) only [gw32_id]
        rw [if_pos (by omega), j3, b2]
        have := ih (pre ++ [x]) (gU M1 717 (24 * K + (pre.length : Int)) x) ⟨by rw [gU_cell _ _ _ (by decide)]; exact j1, by rw [gU_cell _ _ _ (by decide)]; exact j2, by rw [gU_cell _ _ _ (by decide)]; exact j3, by rw [gU_cell _ _ _ (by decide)]; exact j4, by rw [gU_cell _ _ _ (by decide)]; exact j5, by rw [gU_cell _ _ _ (by decide)]; exact j6, fun b q b0 b1 b2 b3 b4 => by rw [gU_cel b3]; exact j7 b q b0 b1 b2 b3 b4, fun q hq => by rw [gU_cel (by decide)]; exact j8 q hq, fun q hq => by rw [gU_idx (by omega)]; exact j9 q hq, fun b hb => by rw [gU_cell _ _ _ (by omega)]; exact j10 b hb⟩
          (by rw [gU_cel (by decide)]; exact a1) (by rw [gU_cell _ _ _ (by decide)]; exact a2) (by rw [gU_cel (by decide)]; exact a3) (app_mid e) (rw_snoc (rw_congr a4 (fun q q1 q2 => gU_idx (by omega))) (gU_same _ _ _ _))
        simpa using this
    have l1 : ∀ (suf pre : List Int) (M1 : gM), J M1 → M1 712 K = (ps.length : Int) → ps = pre ++ suf → rw_ (M1 713) (3 * K) pre → ∃ M2, F_comes_65 M1 t wh hr K (pre.length : Int) = some (K, M2) ∧ uC M2 (cs ++ [d]) ∧ uCP M M2 := by
      intro suf
      induction suf with
      | nil =>
        intro pre M1 hJ a1 e a2
        rw [List.append_nil] at e
        obtain ⟨j1, j2, j3, j4, j5, j6, j7, j8, j9, j10⟩ := id hJ
        rw [eq_comes_65, if_neg (by rw [j1, n1, e]; omega), if_pos (by omega), j1, n4]
        refine l2 ms [] (gU M1 716 K (ms.length : Int)) ⟨by rw [gU_cell _ _ _ (by decide)]; exact j1, by rw [gU_cell _ _ _ (by decide)]; exact j2, by rw [gU_cell _ _ _ (by decide)]; exact j3, by rw [gU_cell _ _ _ (by decide)]; exact j4, by rw [gU_cell _ _ _ (by decide)]; exact j5, by rw [gU_cell _ _ _ (by decide)]; exact j6, fun b q b0 b1 b2 b3 b4 => ?_, fun q hq => by rw [gU_cel (by decide)]; exact j8 q hq, fun q hq => by rw [gU_cel (by decide)]; exact j9 q hq, fun b hb => by rw [gU_cell _ _ _ (by omega)]; exact j10 b hb⟩
          (by rw [gU_cel (by decide)]; exact a1) (by rw [gU_cell _ _ _ (by decide), e]; exact a2) (gU_same _ _ _ _) rfl rw_nil
        by_cases hb : b = 716
        · subst hb; rw [gU_idx b4]; exact j7 _ q b0 b1 b2 b3 b4
        · rw [gU_cel hb]; exact j7 b q b0 b1 b2 b3 b4
      | cons x r ih =>
        intro pre M1 hJ a1 e a2
        have hl1 := len_mid e
        have b2 := n3 pre.length x (at_mid e)
        rw [Int.zero_add] at b2
        obtain ⟨j1, j2, j3, j4, j5, j6, j7, j8, j9, j10⟩ := id hJ
        rw [eq_comes_65, if_pos (by rw [j1, n1]; omega), if_pos (by omega)]
        simp (disch := omega) only [gw32_id]
        rw [if_pos (by omega), j2, b2]
        have := ih (pre ++ [x]) (gU M1 713 (3 * K + (pre.length : Int)) x) ⟨by rw [gU_cell _ _ _ (by decide)]; exact j1, by rw [gU_cell _ _ _ (by decide)]; exact j2, by rw [gU_cell _ _ _ (by decide)]; exact j3, by rw [gU_cell _ _ _ (by decide)]; exact j4, by rw [gU_cell _ _ _ (by decide)]; exact j5, by rw [gU_cell _ _ _ (by decide)]; exact j6, fun b q b0 b1 b2 b3 b4 => by rw [gU_cel b2]; exact j7 b q b0 b1 b2 b3 b4, fun q hq => by rw [gU_idx (by omega)]; exact j8 q hq, fun q hq => by rw [gU_cel (by decide)]; exact j9 q hq, fun b hb => by rw [gU_cell _ _ _ (by omega)]; exact j10 b hb⟩
          (by rw [gU_cel (by decide)]; exact a1) (app_mid e) (rw_snoc (rw_congr a2 (fun q q1 q2 => gU_idx (by omega))) (gU_same _ _ _ _))
        simpa using this
    refine l1 ps [] _ ⟨gU_cell _ _ _ (by decide), gU_cell _ _ _ (by decide), gU_cell _ _ _ (by decide), gU_cell _ _ _ (by decide), gU_cell _ _ _ (by decide), gU_cell _ _ _ (by decide), fun b q b0 b1 b2 b3 b4 => ?_, fun q hq => gU_cel (by decide), fun q hq => gU_cel (by decide), fun b hb => gU_cell _ _ _ (by omega)⟩ (gU_same _ _ _ _) rfl rw_nil
    by_cases hb : b = 712
    · subst hb; exact gU_idx b4
    · exact gU_cel hb
  -- is it there
  have lp : ∀ (suf pre : List kC), cs = pre ++ suf → kFind d suf (pre.length : Int) = kFind d cs 0 → ∃ M1, F_comes_3 M t wh hr (pre.length : Int) = some ((kSet cs d).1, M1) ∧ uC M1 (kSet cs d).2 ∧ uCP M M1 := by
    intro suf
    induction suf with
    | nil =>
      intro pre e hf
      have hf1 : kFind d cs 0 = -1 := hf.symm
      rw [eq_comes_3, if_neg (by rw [h.1, e]; simp)]
      by_cases h120 : (cs.length : Int) = 120
      · rw [if_pos (by rw [h.1]; exact h120)]
        have : kSet cs d = (-3, cs) := by unfold kSet; rw [if_neg (by omega), if_pos (by omega)]
        rw [this]
        exact ⟨M, rfl, h, fun u gs _ hU => hU, gFr_r2 _ _ _⟩
      · rw [if_neg (by rw [h.1]; exact h120), h.1, if_pos (by omega), n1]
        exact new hf1 h120
    | cons c r ih =>
      intro pre e hf
      have hl1 := len_mid e
      rw [kFind] at hf
      rw [eq_comes_3, if_pos (by rw [h.1]; omega), gI_bb (s_isSameAs h (at_mid e) (hO _ _ (at_mid e)).1 hT hN), hd]
      by_cases hq : kFs c = fs ∧ kAs c d
      · rw [decide_eq_true hq, if_neg (by decide)]
        rw [hfs, if_pos hq] at hf
        have : kSet cs d = ((pre.length : Int), cs) := by unfold kSet; rw [← hf, if_pos (by omega)]
        rw [this]
        exact ⟨M, rfl, h, fun u gs _ hU => hU, gFr_r2 _ _ _⟩
      · rw [decide_eq_false hq, if_pos (by decide), gw32_id (by omega) (by omega)]
        rw [hfs, if_neg hq] at hf
        have := ih (pre ++ [c]) (app_mid e) (by simpa using hf)
        simpa using this
  rw [eq_comes]
  exact lp cs [] rfl rfl
