-- ==== CHANGE of a COMMIT: the reference's order and the class's
def chU (FF : List gF) (f : gF) : Bool := decide (tCont f.1 FF ≠ f.2)
def chL (FF fs : List gF) : List (Int × Int × Int) := (fs.filter (chU FF)).map (fun f => (f.1, f.2, tCont f.1 FF)) ++ (FF.filter (goP fs)).map (fun f => (f.1, 0, f.2))
def uCh (M : gM) (L : List (Int × Int × Int)) : Prop := M 711 49 = (L.length : Int) ∧ rw_ (M 741) 0 (L.map (fun x => x.1)) ∧ rw_ (M 742) 0 (L.map (fun x => x.2.1)) ∧ rw_ (M 743) 0 (L.map (fun x => x.2.2))
def chF (M M1 : gM) : Prop := (∀ b : Int, b ≠ 711 → b ≠ 741 → b ≠ 742 → b ≠ 743 → M1 b = M b) ∧ ∀ f : Int, f ≠ 49 → M1 711 f = M 711 f
theorem chF_refl (M : gM) : chF M M := ⟨fun _ _ _ _ _ => rfl, fun _ _ => rfl⟩
theorem chF_trans {M M1 M2 : gM} (h1 : chF M M1) (h2 : chF M1 M2) : chF M M2 := ⟨fun b b0 b1 b2 b3 => (h2.1 b b0 b1 b2 b3).trans (h1.1 b b0 b1 b2 b3), fun f hf => (h2.2 f hf).trans (h1.2 f hf)⟩
theorem uT_ch {M M1 : gM} {t : Int} {fs : List gF} (h : uT M t fs) (hf : chF M M1) : uT M1 t fs := uT_of h (by rw [hf.1 718 (by decide) (by decide) (by decide) (by decide)]) (fun q _ _ => by unfold uG; rw [hf.1 719 (by decide) (by decide) (by decide) (by decide), hf.1 720 (by decide) (by decide) (by decide) (by decide)])
theorem s_notes {M : gM} {L : List (Int × Int × Int)} {p i w : Int} (h : uCh M L) (hl : L.length < 32) : ∃ M1, F_notes M p i w = some M1 ∧ uCh M1 (L ++ [(p, i, w)]) ∧ chF M M1 := by
  obtain ⟨h0, h1, h2, h3⟩ := h
  rw [eq_notes]
  simp (disch := omega) only [gU_cel]
  rw [h0, if_pos (by omega), if_pos (by omega), if_pos (by omega), gw32_id (by omega) (by omega)]
  refine ⟨_, rfl, ⟨by rw [gU_same, List.length_append]; rfl, ?_, ?_, ?_⟩, fun b b0 b1 b2 b3 => by rw [gU_cell _ _ _ b0, gU_cell _ _ _ b3, gU_cell _ _ _ b2, gU_cell _ _ _ b1], fun f hf => by rw [gU_idx hf, gU_cell _ _ _ (by decide), gU_cell _ _ _ (by decide), gU_cell _ _ _ (by decide)]⟩
  · rw [List.map_append]
    refine rw_end (fun j v hj => ?_) ?_
    · have := (List.getElem?_eq_some_iff.mp hj).1
      rw [List.length_map] at this
      rw [gU_cell _ _ _ (by decide), gU_cell _ _ _ (by decide), gU_cell _ _ _ (by decide), gU_idx (by omega)]
      exact h1 j v hj
    · rw [List.length_map, Int.zero_add, gU_cell _ _ _ (by decide), gU_cell _ _ _ (by decide), gU_cell _ _ _ (by decide), gU_same]
  · rw [List.map_append]
    refine rw_end (fun j v hj => ?_) ?_
    · have := (List.getElem?_eq_some_iff.mp hj).1
      rw [List.length_map] at this
      rw [gU_cell _ _ _ (by decide), gU_cell _ _ _ (by decide), gU_idx (by omega), gU_cell _ _ _ (by decide)]
      exact h2 j v hj
    · rw [List.length_map, Int.zero_add, gU_cell _ _ _ (by decide), gU_cell _ _ _ (by decide), gU_same]
  · rw [List.map_append]
    refine rw_end (fun j v hj => ?_) ?_
    · have := (List.getElem?_eq_some_iff.mp hj).1
      rw [List.length_map] at this
      rw [gU_cell _ _ _ (by decide), gU_idx (by omega), gU_cell _ _ _ (by decide), gU_cell _ _ _ (by decide)]
      exact h3 j v hj
    · rw [List.length_map, Int.zero_add, gU_cell _ _ _ (by decide), gU_same]
theorem s_laysChange {M : gM} {cs : List kC} {k : Nat} {c : kC} (hC : uC M cs) (hO : kOk cs) (hk : cs[k]? = some c) : ∃ M1, F_laysChange M (k : Int) = some M1 ∧ uCh M1 (chL (kFF cs c) (kFs c)) ∧ chF M M1 := by
  have hl9 := hC.2.1
  have hkl := (List.getElem?_eq_some_iff.mp hk).1
  have hTk := (hC.2.2 k c hk).2.2.2.2.2.2
  have hnc := (hC.2.2 k c hk).1
  have hw := (hO k c hk).1
  have l16 := hw.2.2.2.2.2.2
  -- what was before
  obtain ⟨b, hb, hbf⟩ : ∃ b : Int, F_before M (k : Int) = some b ∧ ((b = -1 ∧ kFF cs c = []) ∨ (0 ≤ b ∧ b < 120 ∧ uT M b (kFF cs c) ∧ (kFF cs c).length ≤ 16)) := by
    rw [eq_before, if_pos (by omega), hnc]
    unfold kFF
    cases hps : kPs c with
    | nil => rw [if_pos (show (([] : List Int).length : Int) = 0 from rfl)]; exact ⟨-1, rfl, Or.inl ⟨rfl, rfl⟩⟩
    | cons p r =>
      have hp := hw.2.1 p (by rw [hps]; simp)
      have hpl : p.toNat < cs.length := by omega
      have hd := List.getElem?_eq_getElem hpl
      have hTd := (hC.2.2 p.toNat _ hd).2.2.2.2.2.2
      have hpa : F_parentAt M (k : Int) 0 = some p := s_parentAt (i := 0) hC hk hw.1 (by rw [hps]; rfl)
      rw [if_neg (by rw [List.length_cons]; omega), gI_bb hpa]
      refine ⟨p, rfl, Or.inr ⟨hp.1, by omega, ?_, ?_⟩⟩
      · show uT M p (match cs[p.toNat]? with | some d => kFs d | none => [])
        rw [hd]
        rw [show ((p.toNat : Nat) : Int) = p by omega] at hTd
        exact hTd
      · show (match cs[p.toNat]? with | some d => kFs d | none => []).length ≤ 16
        rw [hd]; exact (hO _ _ hd).1.2.2.2.2.2.2
  generalize hFF : kFF cs c = FF at hbf ⊢
  have lFF : FF.length ≤ 16 := by
    rcases hbf with ⟨-, e⟩ | ⟨-, -, -, e⟩
    · rw [e]; exact Nat.zero_le _
    · exact e
  have gone : ∀ (suf pre : List gF) (L : List (Int × Int × Int)) (M1 : gM), FF = pre ++ suf → chF M M1 → uCh M1 L → L.length + suf.length ≤ 32 → ∃ M2, F_laysChange_82 M1 (k : Int) b (pre.length : Int) = some M2 ∧ uCh M2 (L ++ (suf.filter (goP (kFs c))).map (fun f => (f.1, 0, f.2))) ∧ chF M M2 := by
    intro suf
    induction suf with
    | nil =>
      intro pre L M1 e hf hu hl
      have hlen := congrArg List.length e
      rw [List.append_nil] at hlen
      rw [eq_laysChange_82]
      rcases hbf with ⟨rfl, -⟩ | ⟨b0, b1, bT, -⟩
      · rw [if_pos rfl]; exact ⟨M1, rfl, by simpa using hu, hf⟩
      · have bT1 := uT_ch bT hf
        rw [if_neg (by omega), if_pos (by omega), bT1.2.1, if_neg (by omega)]
        exact ⟨M1, rfl, by simpa using hu, hf⟩
    | cons g r ih =>
      intro pre L M1 e hf hu hl
      have hlen := congrArg List.length e
      rw [List.length_append, List.length_cons] at hlen
      rw [List.length_cons] at hl
      rw [eq_laysChange_82]
      rcases hbf with ⟨-, he⟩ | ⟨b0, b1, bT, -⟩
      · rw [he] at e; simp at e
      · have bT1 := uT_ch bT hf
        have kT1 := uT_ch hTk hf
        have nx := fun L M2 => ih (pre ++ [g]) L M2 (by rw [e]; simp)
        rw [List.length_append] at nx
        have nx : ∀ (L : List (Int × Int × Int)) (M2 : gM), _ := nx
        rw [if_neg (by omega), if_pos (by omega), bT1.2.1, if_pos (by omega), gI_bb (s_pathAt bT1 (at_mid e)), gI_bb (s_fileAt kT1), gw32_id (by omega) (by omega)]
        by_cases q : tFind g.1 (kFs c) 0 = -1
        · obtain ⟨M2, e2, u2, f2⟩ := s_notes (p := g.1) (i := 0) (w := g.2) hu (by omega)
          rw [if_pos q, gI_bb (s_pathAt bT1 (at_mid e)), gI_bb (s_contentAt bT1 (at_mid e)), gI_bb e2, List.filter_cons_of_pos (goP_fnd.mpr q), List.map_cons]
          have := nx _ M2 (chF_trans hf f2) u2 (by rw [List.length_append]; show L.length + 1 + r.length ≤ 32; omega)
          rw [List.append_assoc] at this
          exact this
        · rw [if_neg q, List.filter_cons_of_neg (fun w => q (goP_fnd.mp w))]
          exact nx L M1 hf hu (by omega)
  have mid : ∀ (suf pre : List gF) (L : List (Int × Int × Int)) (M1 : gM), kFs c = pre ++ suf → chF M M1 → uCh M1 L → L.length ≤ pre.length → ∃ M2, F_laysChange_13 M1 (k : Int) b (pre.length : Int) = some M2 ∧ uCh M2 ((L ++ (suf.filter (chU FF)).map (fun f => (f.1, f.2, tCont f.1 FF))) ++ (FF.filter (goP (kFs c))).map (fun f => (f.1, 0, f.2))) ∧ chF M M2 := by
    intro suf
    induction suf with
    | nil =>
      intro pre L M1 e hf hu hl
      have hlen := congrArg List.length e
      rw [List.append_nil] at hlen
      have kT1 := uT_ch hTk hf
      rw [eq_laysChange_13, if_pos (by omega), kT1.2.1, if_neg (by omega)]
      rw [List.filter_nil, List.map_nil, List.append_nil]
      exact gone FF [] L M1 rfl hf hu (by omega)
    | cons g r ih =>
      intro pre L M1 e hf hu hl
      have hlen := congrArg List.length e
      rw [List.length_append, List.length_cons] at hlen
      have kT1 := uT_ch hTk hf
      have nx := fun L M2 => ih (pre ++ [g]) L M2 (by rw [e]; simp)
      rw [List.length_append] at nx
      have nx : ∀ (L : List (Int × Int × Int)) (M2 : gM), _ := nx
      have body : ∃ M2, F_laysChange_43 M1 (k : Int) b (pre.length : Int) (tCont g.1 FF) = some M2 ∧ uCh M2 ((L ++ ((g :: r).filter (chU FF)).map (fun f => (f.1, f.2, tCont f.1 FF))) ++ (FF.filter (goP (kFs c))).map (fun f => (f.1, 0, f.2))) ∧ chF M M2 := by
        rw [eq_laysChange_43, gI_bb (s_contentAt kT1 (at_mid e)), gw32_id (by omega) (by omega)]
        by_cases q : tCont g.1 FF = g.2
        · rw [if_pos q, List.filter_cons_of_neg (show ¬ chU FF g = true by unfold chU; rw [decide_eq_false (fun w => w q)]; decide)]
          exact nx L M1 hf hu (by show L.length ≤ pre.length + 1; omega)
        · obtain ⟨M2, e2, u2, f2⟩ := s_notes (p := g.1) (i := g.2) (w := tCont g.1 FF) hu (by omega)
          rw [if_neg q, gI_bb (s_pathAt kT1 (at_mid e)), gI_bb (s_contentAt kT1 (at_mid e)), gI_bb e2, List.filter_cons_of_pos (show chU FF g = true from decide_eq_true q), List.map_cons]
          have := nx _ M2 (chF_trans hf f2) u2 (by rw [List.length_append]; show L.length + 1 ≤ pre.length + 1; omega)
          rw [List.append_assoc (as := L)] at this
          exact this
      rw [eq_laysChange_13, if_pos (by omega), kT1.2.1, if_pos (by omega)]
      rcases hbf with ⟨rfl, he⟩ | ⟨b0, b1, bT, -⟩
      · rw [if_pos rfl]
        have : tCont g.1 FF = 0 := by rw [he]; rfl
        rw [this] at body
        exact body
      · have bT1 := uT_ch bT hf
        rw [if_neg (by omega), gI_bb (s_pathAt kT1 (at_mid e)), gI_bb (s_contentBy bT1)]
        exact body
  rw [eq_laysChange, gI_bb hb]
  have f0 : chF M (gU M 711 49 0) := ⟨fun b b0 _ _ _ => gU_cell _ _ _ b0, fun f hf => gU_idx hf⟩
  have := mid (kFs c) [] [] (gU M 711 49 0) rfl f0 ⟨gU_same _ _ _ _, rw_nil, rw_nil, rw_nil⟩ (Nat.le_refl _)
  rw [List.nil_append] at this
  exact this
-- ---- the class's order
def eC (e : hE) : gF := (e.1, e.2.2.1)
def eN (e : hE) : Bool := !eP0 e
theorem mg_ch : ∀ (n : Nat) (FF fs : List gF) (i j : Int), tSrt FF → tSrt fs → (∀ f ∈ FF, f.2 ≠ 0) → (∀ f ∈ fs, f.2 ≠ 0) → FF.length + fs.length ≤ n →
    (mg n FF fs i j).filter eN = (mg n FF fs i j).filter eN ∧ ((mg n FF fs i j).filter eN).map (fun e => (e.1, e.2.2.1, e.2.1)) = (fs.filter (chU FF)).map (fun f => (f.1, f.2, tCont f.1 FF)) ∧
    ((mg n FF fs i j).filter eP0).map (fun e => (e.1, e.2.2.1, e.2.1)) = (FF.filter (goP fs)).map (fun f => (f.1, (0 : Int), f.2)) ∧ (∀ e ∈ mg n FF fs i j, (∃ f ∈ FF, f.1 = e.1) ∨ ∃ f ∈ fs, f.1 = e.1) ∧ ((mg n FF fs i j).map eC).Pairwise (fun x y => x.1 < y.1)
  | 0, [], [], _, _, _, _, _, _, _ => ⟨rfl, rfl, rfl, fun e he => (by cases he), List.Pairwise.nil⟩
  | 0, f :: r, _, _, _, _, _, _, _, h => by simp at h
  | 0, [], g :: s, _, _, _, _, _, _, h => by simp at h
  | _ + 1, [], [], _, _, _, _, _, _, _ => ⟨rfl, rfl, rfl, fun e he => (by cases he), List.Pairwise.nil⟩
  | n + 1, f :: r, [], i, j, hs1, hs2, hz1, hz2, h => by
    obtain ⟨-, a, b, c, d⟩ := mg_ch n r [] (i + 1) j (srt_hd hs1).2 hs2 (fun x hx => hz1 x (List.mem_cons_of_mem _ hx)) hz2 (by simp at h ⊢; omega)
    unfold mg
    refine ⟨rfl, ?_, ?_, fun e he => ?_, ?_⟩
    · rw [List.filter_cons_of_neg (show ¬ eN (f.1, f.2, 0, i, j) = true by show ¬ (!decide ((0 : Int) = 0)) = true; decide), a]; rfl
    · rw [List.filter_cons_of_pos (show eP0 (f.1, f.2, 0, i, j) = true from decide_eq_true rfl), List.map_cons, b, List.filter_cons_of_pos (show goP [] f = true from rfl)]; rfl
    · rcases List.mem_cons.mp he with w | w
      · rw [w]; exact Or.inl ⟨f, List.mem_cons_self, rfl⟩
      · rcases c e w with ⟨x, x1, x2⟩ | ⟨x, x1, -⟩
        · exact Or.inl ⟨x, List.mem_cons_of_mem _ x1, x2⟩
        · cases x1
    · rw [List.map_cons]
      refine List.pairwise_cons.mpr ⟨fun y hy => ?_, d⟩
      obtain ⟨e, he, hh⟩ := List.mem_map.mp hy
      rcases c e he with ⟨x, x1, x2⟩ | ⟨x, x1, -⟩
      · have := (srt_hd hs1).1 x x1
        rw [← hh]; show f.1 < e.1; omega
      · cases x1
  | n + 1, [], g :: s, i, j, hs1, hs2, hz1, hz2, h => by
    obtain ⟨-, a, b, c, d⟩ := mg_ch n [] s i (j + 1) hs1 (srt_hd hs2).2 hz1 (fun x hx => hz2 x (List.mem_cons_of_mem _ hx)) (by simp at h ⊢; omega)
    have hz := hz2 g List.mem_cons_self
    unfold mg
    refine ⟨rfl, ?_, ?_, fun e he => ?_, ?_⟩
    · rw [List.filter_cons_of_pos (show eN (g.1, 0, g.2, i, j) = true by show (!decide (g.2 = 0)) = true; rw [decide_eq_false hz]; rfl), List.map_cons, a, List.filter_cons_of_pos (show chU [] g = true from decide_eq_true (fun w => hz w.symm))]; rfl
    · rw [List.filter_cons_of_neg (show ¬ eP0 (g.1, 0, g.2, i, j) = true from fun w => hz (of_decide_eq_true w)), b]; rfl
    · rcases List.mem_cons.mp he with w | w
      · rw [w]; exact Or.inr ⟨g, List.mem_cons_self, rfl⟩
      · rcases c e w with ⟨x, x1, -⟩ | ⟨x, x1, x2⟩
        · cases x1
        · exact Or.inr ⟨x, List.mem_cons_of_mem _ x1, x2⟩
    · rw [List.map_cons]
      refine List.pairwise_cons.mpr ⟨fun y hy => ?_, d⟩
      obtain ⟨e, he, hh⟩ := List.mem_map.mp hy
      rcases c e he with ⟨x, x1, -⟩ | ⟨x, x1, x2⟩
      · cases x1
      · have := (srt_hd hs2).1 x x1
        rw [← hh]; show g.1 < e.1; omega
  | n + 1, f :: r, g :: s, i, j, hs1, hs2, hz1, hz2, h => by
    obtain ⟨l1, t1⟩ := srt_hd hs1
    obtain ⟨l2, t2⟩ := srt_hd hs2
    have z1 : ∀ x ∈ r, x.2 ≠ 0 := fun x hx => hz1 x (List.mem_cons_of_mem _ hx)
    have z2 : ∀ x ∈ s, x.2 ≠ 0 := fun x hx => hz2 x (List.mem_cons_of_mem _ hx)
    have zf := hz1 f List.mem_cons_self
    have zg := hz2 g List.mem_cons_self
    have tcn : ∀ (x : gF) (ys : List gF) (y : gF), y.1 ≠ x.1 → tCont x.1 (y :: ys) = tCont x.1 ys := fun x ys y hne => if_neg hne
    unfold mg
    by_cases q : f.1 < g.1
    · rw [if_pos q]
      obtain ⟨-, a, b, c, d⟩ := mg_ch n r (g :: s) (i + 1) j t1 hs2 z1 hz2 (by simp at h ⊢; omega)
      have hno : ∀ y ∈ g :: s, y.1 ≠ f.1 := fun y hy => by
        rcases List.mem_cons.mp hy with e | e
        · rw [e]; omega
        · have := l2 y e; omega
      refine ⟨rfl, ?_, ?_, fun e he => ?_, ?_⟩
      · rw [List.filter_cons_of_neg (show ¬ eN (f.1, f.2, 0, i, j) = true by show ¬ (!decide ((0 : Int) = 0)) = true; decide), a]
        rw [List.filter_congr (q := chU (f :: r)) (fun y hy => by unfold chU; rw [tcn y r f (fun w => hno y hy w.symm)])]
        refine List.map_congr_left (fun y hy => ?_)
        rw [tcn y r f (fun w => hno y (List.mem_filter.mp hy).1 w.symm)]
      · rw [List.filter_cons_of_pos (show eP0 (f.1, f.2, 0, i, j) = true from decide_eq_true rfl), List.map_cons, b, List.filter_cons_of_pos (goP_iff.mpr hno)]; rfl
      · rcases List.mem_cons.mp he with w | w
        · rw [w]; exact Or.inl ⟨f, List.mem_cons_self, rfl⟩
        · rcases c e w with ⟨x, x1, x2⟩ | w2
          · exact Or.inl ⟨x, List.mem_cons_of_mem _ x1, x2⟩
          · exact Or.inr w2
      · rw [List.map_cons]
        refine List.pairwise_cons.mpr ⟨fun y hy => ?_, d⟩
        obtain ⟨e, he, hh⟩ := List.mem_map.mp hy
        rw [← hh]; show f.1 < e.1
        rcases c e he with ⟨x, x1, x2⟩ | ⟨x, x1, x2⟩
        · have := l1 x x1; omega
        · rcases List.mem_cons.mp x1 with w | w
          · rw [w] at x2; omega
          · have := l2 x w; omega
    · rw [if_neg q]
      by_cases q2 : g.1 < f.1
      · rw [if_pos q2]
        obtain ⟨-, a, b, c, d⟩ := mg_ch n (f :: r) s i (j + 1) hs1 t2 hz1 z2 (by simp at h ⊢; omega)
        have hno : ∀ y ∈ f :: r, y.1 ≠ g.1 := fun y hy => by
          rcases List.mem_cons.mp hy with e | e
          · rw [e]; omega
          · have := l1 y e; omega
        have tz : tCont g.1 (f :: r) = 0 := tCont_no hno
        refine ⟨rfl, ?_, ?_, fun e he => ?_, ?_⟩
        · rw [List.filter_cons_of_pos (show eN (g.1, 0, g.2, i, j) = true by show (!decide (g.2 = 0)) = true; rw [decide_eq_false zg]; rfl), List.map_cons, a, List.filter_cons_of_pos (show chU (f :: r) g = true from decide_eq_true (by rw [tz]; exact fun w => zg w.symm)), List.map_cons, tz]
        · rw [List.filter_cons_of_neg (show ¬ eP0 (g.1, 0, g.2, i, j) = true from fun w => zg (of_decide_eq_true w)), b]
          rw [List.filter_congr (q := goP (g :: s)) (fun y hy => (goP_ne (fun e => hno y hy e.symm)).symm)]
        · rcases List.mem_cons.mp he with w | w
          · rw [w]; exact Or.inr ⟨g, List.mem_cons_self, rfl⟩
          · rcases c e w with w2 | ⟨x, x1, x2⟩
            · exact Or.inl w2
            · exact Or.inr ⟨x, List.mem_cons_of_mem _ x1, x2⟩
        · rw [List.map_cons]
          refine List.pairwise_cons.mpr ⟨fun y hy => ?_, d⟩
          obtain ⟨e, he, hh⟩ := List.mem_map.mp hy
          rw [← hh]; show g.1 < e.1
          rcases c e he with ⟨x, x1, x2⟩ | ⟨x, x1, x2⟩
          · rcases List.mem_cons.mp x1 with w | w
            · rw [w] at x2; omega
            · have := l1 x w; omega
          · have := l2 x x1; omega
      · rw [if_neg q2]
        have e : f.1 = g.1 := by omega
        obtain ⟨-, a, b, c, d⟩ := mg_ch n r s (i + 1) (j + 1) t1 t2 z1 z2 (by simp at h ⊢; omega)
        have n1 : ∀ y ∈ r, g.1 ≠ y.1 := fun y hy => by have := l1 y hy; omega
        have n2 : ∀ y ∈ s, f.1 ≠ y.1 := fun y hy => by have := l2 y hy; omega
        have tg : tCont g.1 (f :: r) = f.2 := if_pos e
        have ngo : ¬ goP (g :: s) f = true := fun hb => absurd e.symm (goP_iff.mp hb g List.mem_cons_self)
        have fs1 : (s.filter (chU (f :: r))).map (fun y => (y.1, y.2, tCont y.1 (f :: r))) = (s.filter (chU r)).map (fun y => (y.1, y.2, tCont y.1 r)) := by
          rw [List.filter_congr (q := chU r) (fun y hy => by unfold chU; rw [tcn y r f (n2 y hy)])]
          exact List.map_congr_left (fun y hy => by rw [tcn y r f (n2 y (List.mem_filter.mp hy).1)])
        have ff1 : (f :: r).filter (goP (g :: s)) = r.filter (goP s) := by
          rw [List.filter_cons_of_neg ngo]
          exact List.filter_congr (fun y hy => goP_ne (n1 y hy))
        have cc : ∀ x : hE, x ∈ mg n r s (i + 1) (j + 1) → (∃ y ∈ f :: r, y.1 = x.1) ∨ ∃ y ∈ g :: s, y.1 = x.1 := fun x hx => by
          rcases c x hx with ⟨y, y1, y2⟩ | ⟨y, y1, y2⟩
          · exact Or.inl ⟨y, List.mem_cons_of_mem _ y1, y2⟩
          · exact Or.inr ⟨y, List.mem_cons_of_mem _ y1, y2⟩
        rw [ff1]
        by_cases w : f.2 = g.2
        · rw [if_pos w]
          refine ⟨rfl, ?_, b, cc, d⟩
          rw [List.filter_cons_of_neg (show ¬ chU (f :: r) g = true by unfold chU; rw [tg, decide_eq_false (fun z => z w)]; decide), fs1]; exact a
        · rw [if_neg w]
          refine ⟨rfl, ?_, ?_, fun x hx => ?_, ?_⟩
          · rw [List.filter_cons_of_pos (show eN (f.1, f.2, g.2, i, j) = true by show (!decide (g.2 = 0)) = true; rw [decide_eq_false zg]; rfl), List.map_cons, a, List.filter_cons_of_pos (show chU (f :: r) g = true from decide_eq_true (by rw [tg]; exact w)), List.map_cons, tg, fs1]
            show (f.1, g.2, f.2) :: _ = (g.1, g.2, f.2) :: _
            rw [e]
          · rw [List.filter_cons_of_neg (show ¬ eP0 (f.1, f.2, g.2, i, j) = true from fun z => zg (of_decide_eq_true z)), b]
          · rcases List.mem_cons.mp hx with z | z
            · rw [z]; exact Or.inl ⟨f, List.mem_cons_self, rfl⟩
            · exact cc x z
          · rw [List.map_cons]
            refine List.pairwise_cons.mpr ⟨fun y hy => ?_, d⟩
            obtain ⟨x, hx, hh⟩ := List.mem_map.mp hy
            rw [← hh]; show f.1 < x.1
            rcases c x hx with ⟨y, y1, y2⟩ | ⟨y, y1, y2⟩
            · have := l1 y y1; omega
            · have := l2 y y1; omega
/-- two CHANGES are one in one order as in the other -/
theorem ch_same {A B : List hE} (hA : (A.map eC).Pairwise (fun x y => x.1 < y.1)) (hB : (B.map eC).Pairwise (fun x y => x.1 < y.1)) : A.map eC = B.map eC ↔ ((A.filter eN).map eC ++ (A.filter eP0).map eC) = ((B.filter eN).map eC ++ (B.filter eP0).map eC) := by
  have fl : ∀ X : List hE, (X.filter eN).map eC = (X.map eC).filter (fun x => !decide (x.2 = 0)) ∧ (X.filter eP0).map eC = (X.map eC).filter (fun x => decide (x.2 = 0)) := fun X => by
    rw [List.filter_map, List.filter_map]; exact ⟨rfl, rfl⟩
  rw [(fl A).1, (fl A).2, (fl B).1, (fl B).2]
  generalize A.map eC = X at hA
  generalize B.map eC = Y at hB
  constructor
  · intro h; rw [h]
  · intro h
    have e1 := congrArg (List.filter (fun x : gF => !decide (x.2 = 0))) h
    have e2 := congrArg (List.filter (fun x : gF => decide (x.2 = 0))) h
    have n1 : ∀ Z : List gF, (Z.filter (fun x => decide (x.2 = 0))).filter (fun x => !decide (x.2 = 0)) = [] := fun Z => by
      rw [List.filter_eq_nil_iff]; intro a ha; have := (List.mem_filter.mp ha).2; rw [this]; decide
    have n2 : ∀ Z : List gF, (Z.filter (fun x => !decide (x.2 = 0))).filter (fun x => decide (x.2 = 0)) = [] := fun Z => by
      rw [List.filter_eq_nil_iff]; intro a ha; have := (List.mem_filter.mp ha).2; intro w; rw [w] at this; cases this
    rw [List.filter_append, List.filter_append, n1, n1, List.append_nil, List.append_nil, List.filter_filter, List.filter_filter] at e1
    rw [List.filter_append, List.filter_append, n2, n2, List.nil_append, List.nil_append, List.filter_filter, List.filter_filter] at e2
    simp only [Bool.and_self] at e1 e2
    have sub : ∀ P Q : List gF, P.filter (fun x => !decide (x.2 = 0)) = Q.filter (fun x => !decide (x.2 = 0)) → P.filter (fun x => decide (x.2 = 0)) = Q.filter (fun x => decide (x.2 = 0)) → ∀ x ∈ P, x ∈ Q := fun P Q h1 h2 x hx => by
      by_cases z : x.2 = 0
      · have : x ∈ P.filter (fun x => decide (x.2 = 0)) := List.mem_filter.mpr ⟨hx, decide_eq_true z⟩
        rw [h2] at this; exact (List.mem_filter.mp this).1
      · have : x ∈ P.filter (fun x => !decide (x.2 = 0)) := List.mem_filter.mpr ⟨hx, by rw [decide_eq_false z]; rfl⟩
        rw [h1] at this; exact (List.mem_filter.mp this).1
    have s1 := srt_sub Y X hA hB (sub X Y e1 e2)
    have s2 := srt_sub X Y hB hA (sub Y X e1.symm e2.symm)
    exact s1.2 s2.1
