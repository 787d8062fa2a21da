-- ==== COMMITS of a PLAN (the reference); tried on both sides
/-- what a PLAN that is told must be over these COMMITS -/
def plFit (cs : List kC) (pl : kP) : Prop := pl.2.1 0 = 1 → kForeOk cs pl ∧ plGr pl ∧ plW pl ∧ (0 ≤ pl.2.1 2 ∧ pl.2.1 2 < 4) ∧ (0 ≤ pl.2.1 3 ∧ pl.2.1 3 < 4) ∧ ∀ k : Int, 0 ≤ k → k < 120 → 0 ≤ pl.2.2.2 k → (-1 ≤ pl.2.2.1 k ∧ pl.2.2.1 k < (cs.length : Int)) ∧ (pl.2.2.2 k = 0 → 0 ≤ pl.2.2.1 k)
theorem s_marksPlan {M : gM} {cs : List kC} {p : Int} {pl : kP} {rs : List rF} (hC : uC M cs) (hO : kOk cs) (hP : uPq M p pl) (hp : 0 ≤ p ∧ p ≤ 3) (hg : plGr pl) (hF : kForeOk cs pl) (hf : 0 ≤ pl.2.1 2 ∧ pl.2.1 2 < 4) (hRf : uRf M (pl.2.1 2) rs) (hRg : rGd (cs.length : Int) rs) :
    ∃ M1, F_marksPlan M p = some M1 ∧ uS M1 736 (eMark cs pl rs) ∧ ∀ b : Int, b ≠ 736 → M1 b = M b := by
  have hl9 := hC.2.1
  have ha : gRw 736 := by decide
  obtain ⟨M1, e1, hS1, hb1⟩ := s_clears (M := M) ha
  have e2 := hP.1.1
  have lp : ∀ (m : Nat) (s : Int) (suf pre : List rF) (M2 : gM), s + (m : Int) = 52 → 0 ≤ s → rs = pre ++ suf → (∀ x ∈ pre, rOrd x < s) → (∀ x ∈ suf, s ≤ rOrd x) → uS M2 736 (fun k => pre.any (fun x => decide (k = x.2.2.1.toNat))) → (∀ b : Int, b ≠ 736 → M2 b = M b) →
      ∃ M3, F_marksPlan_9 M2 p s = some M3 ∧ uS M3 736 (eMark cs pl rs) ∧ ∀ b : Int, b ≠ 736 → M3 b = M b := by
    intro m
    induction m with
    | zero =>
      intro s suf pre M2 hm s0 e h1 h2 hS hb
      rw [eq_marksPlan_9, if_neg (by omega)]
      have hsuf : suf = [] := by
        cases suf with
        | nil => rfl
        | cons y r =>
          have a1 := h2 y List.mem_cons_self
          have b1 := rOrd_rng (hRg.2 y (by rw [e]; simp)).1
          omega
      rw [hsuf, List.append_nil] at e
      obtain ⟨M3, e3, hS3, hb3⟩ := s_walksFore (uC_but hC ha hb) hO (uPq_but hP ha hb) hp hg hF ha hS
      rw [gI_bb e3]
      refine ⟨M3, rfl, ?_, fun b hb2 => (hb3 b hb2).trans (hb b hb2)⟩
      have : clT cs.length (kEld cs pl) (fun k => pre.any (fun x => decide (k = x.2.2.1.toNat))) = eMark cs pl rs := by
        funext j
        rw [Bool.eq_iff_iff, clT_iff, e]
        unfold eMark
        simp only [List.any_eq_true, Bool.or_eq_true, decide_eq_true_eq]
        constructor
        · rintro (⟨x, hx, z⟩ | ⟨k, -, ⟨x, hx, z⟩, w⟩)
          · exact ⟨x, hx, Or.inl z⟩
          · exact ⟨x, hx, Or.inr (by rw [← z]; exact w)⟩
        · rintro ⟨x, hx, z | z⟩
          · exact Or.inl ⟨x, hx, z⟩
          · have := (hRg.2 x (by rw [e]; exact hx)).2.1
            exact Or.inr ⟨x.2.2.1.toNat, by omega, ⟨x, hx, rfl⟩, z⟩
      rw [this] at hS3
      exact hS3
    | succ m ih =>
      intro s suf pre M2 hm s0 e h1 h2 hS hb
      have hq := hRf s s0 (by omega)
      have e7 : M2 727 = M 727 := hb 727 (by decide)
      have e9 : M2 729 = M 729 := hb 729 (by decide)
      rw [eq_marksPlan_9, if_pos (by omega), gI_bb (s_ofPlan hp (by decide)), e9, e2]
      simp (disch := omega) only [gw32_id]
      rw [if_pos (by omega), e7, hq.1]
      rcases sAt_next hRg e h1 h2 with ⟨a1, b1⟩ | ⟨y, r, rfl, ho, a1, -, c1, d1⟩
      · rw [if_pos a1]
        exact ih (s + 1) suf pre M2 (by omega) (by omega) e (fun x hx => by have := h1 x hx; omega) b1 hS hb
      · have hy := (hRg.2 y (by rw [e]; simp)).2.1
        rw [a1, if_neg (by omega), if_pos (by omega)]
        refine ih (s + 1) r (pre ++ [y]) _ (by omega) (by omega) (app_mid e) (fun x hx => by
          rcases List.mem_append.mp hx with z | z
          · have := h1 x z; omega
          · rw [List.mem_singleton.mp z]; omega) d1 ?_ (fun b hb2 => by rw [gU_cell _ _ _ hb2]; exact hb b hb2)
        have hp := uS_put (k := y.2.2.1.toNat) hS
        rw [show ((y.2.2.1.toNat : Nat) : Int) = y.2.2.1 by omega] at hp
        intro k hk
        rw [hp k hk]
        congr 1
        show _ = (pre ++ [y]).any (fun x => decide (k = x.2.2.1.toNat))
        rw [List.any_append]
        simp
  rw [eq_marksPlan, gI_bb e1]
  exact lp 52 0 rs [] M1 rfl (by decide) rfl (fun x hx => by cases hx) (fun x hx => (rOrd_rng (hRg.2 x hx).1).1) hS1 hb1
def trV (cs : List kC) (pl : kP) (fs : List gF) (w : Int) : Int := if w = 0 then ((rCt pl fs 0 0 []).2.2.length : Int) else if w = 1 then (rCt pl fs 0 0 []).1 else if w = 2 then (rCt pl fs 0 0 []).2.1 else if kLow (rCt pl fs 0 0 []).2.2 cs 0 < 0 then -2 else kLow (rCt pl fs 0 0 []).2.2 cs 0
def aTried (z : aS) (p k w : Int) : Int := if (0 ≤ p ∧ p ≤ 3) ∧ bC (aCs z) k = true ∧ (0 ≤ w ∧ w ≤ 3) then (if (aPl z p).2.1 0 = 0 then -3 else trV (aCs z) (aPl z p) (fFs (aCs z) k.toNat) w) else -1
theorem s_tried_82 {M : gM} {cs : List kC} {fs : List gF} {p k w : Int} (hC : uC M cs) (hT : uT M 121 fs) : F_tried_82 M p k w 0 = some ((if kLow fs cs 0 < 0 then -2 else kLow fs cs 0), M) := by
  have hl9 := hC.2.1
  have lp : ∀ (n j : Nat), j + n = cs.length → (∀ (m : Nat) (d : kC), m < j → cs[m]? = some d → kFs d ≠ fs) → F_tried_82 M p k w (j : Int) = some ((if kLow fs cs 0 < 0 then -2 else kLow fs cs 0), M) := by
    intro n
    induction n with
    | zero =>
      intro j hj hno
      rw [eq_tried_82, hC.1, if_neg (by omega)]
      rcases kLow_sp fs cs 0 with ⟨a, -⟩ | ⟨i, d, a, b, -, -⟩
      · rw [a, if_pos (by decide)]
      · exact absurd b (hno i d (by have := (List.getElem?_eq_some_iff.mp a).1; omega) a)
    | succ n ih =>
      intro j hj hno
      have hd := List.getElem?_eq_getElem (show j < cs.length by omega)
      generalize cs[j] = d at hd
      rw [eq_tried_82, hC.1, if_pos (by omega), gI_bb (s_areLike (hC.2.2 j d hd).2.2.2.2.2.2 hT), gw32_id (by omega) (by omega)]
      by_cases e : kFs d = fs
      · rw [decide_eq_true e, if_neg bIt]
        rcases kLow_sp fs cs 0 with ⟨-, a⟩ | ⟨i, x, a, b, c, f⟩
        · exact absurd e (a d (List.mem_of_getElem? hd))
        · rcases Nat.lt_trichotomy i j with y | y | y
          · exact absurd b (hno i x y a)
          · subst y
            rw [c, if_neg (by omega), Int.zero_add]
          · exact absurd e (f j d y hd)
      · rw [decide_eq_false e, if_pos bIf]
        exact ih (j + 1) (by omega) (fun m x hm hx => by
          by_cases y : m = j
          · subst y; rw [hd] at hx; cases hx; exact e
          · exact hno m x (by omega) hx)
  exact lp cs.length 0 (by omega) (fun m d hm _ => by omega)
/-- the COMMITS stand where only the second spare TREE and two counts have changed -/
theorem uC_ct {M M1 : gM} {cs : List kC} {acc : List gF} {tk ls : Int} (h : uC M cs) (hS : ctS M1 M acc tk ls) : uC M1 cs := by
  obtain ⟨a, b, c, d, e⟩ := hS
  have f : ∀ x : Int, x ≠ 711 → (x < 718 ∨ 720 < x) → M1 x = M x := fun x x0 x1 => e.1 x (fun w => by
    rcases List.mem_cons.mp w with w | w
    · omega
    · rcases List.mem_cons.mp w with w | w
      · omega
      · have := List.mem_singleton.mp w; omega) x0
  refine ⟨by rw [e.2 0 (by decide)]; exact h.1, h.2.1, fun k c hk => ?_⟩
  have hu := h.2.2 k c hk
  have hl := (uC_len h hk).2
  exact ⟨by rw [f 712 (by decide) (by omega)]; exact hu.1, by rw [f 713 (by decide) (by omega)]; exact hu.2.1, by rw [f 716 (by decide) (by omega)]; exact hu.2.2.1, by rw [f 717 (by decide) (by omega)]; exact hu.2.2.2.1, by rw [f 714 (by decide) (by omega)]; exact hu.2.2.2.2.1, by rw [f 715 (by decide) (by omega)]; exact hu.2.2.2.2.2.1, d _ _ (by omega) hu.2.2.2.2.2.2⟩
theorem uSt_ct {M M1 : gM} {z : aS} {acc : List gF} {tk ls : Int} (h : uSt M z) (hS : ctS M1 M acc tk ls) : uSt M1 z := by
  have hC := uC_ct h.1 hS
  obtain ⟨a, b, c, d, e⟩ := hS
  have f : ∀ x : Int, x ≠ 711 → (x < 718 ∨ 720 < x) → M1 x = M x := fun x x0 x1 => e.1 x (fun w => by
    rcases List.mem_cons.mp w with w | w
    · omega
    · rcases List.mem_cons.mp w with w | w
      · omega
      · have := List.mem_singleton.mp w; omega) x0
  obtain ⟨-, h2, h3, h4, h5⟩ := h
  refine ⟨hC, ⟨by rw [e.2 18 (by decide)]; exact h2.1, h2.2.1, fun j c hj => by rw [f 726 (by decide) (by decide)]; exact h2.2.2 j c hj⟩, fun i i0 i1 => ?_, fun p p0 p1 => ?_, ?_⟩
  · exact uRfX_of (A := 727) (B := 728) (h3 i i0 i1) (fun q _ _ => by rw [f 727 (by decide) (by decide)]) (fun q _ _ => by rw [f 728 (by decide) (by decide)])
  · exact uPl_of (h4 p p0 p1) (fun q _ _ => by rw [f 729 (by decide) (by decide)]) (fun q _ _ => by rw [f 730 (by decide) (by decide)]) (fun q _ _ => by rw [f 731 (by decide) (by decide)])
  · rcases h5 with ⟨a, b⟩ | ⟨a, b, c, d, g⟩
    · exact Or.inl ⟨a, by rw [e.2 71 (by decide)]; exact b⟩
    · refine Or.inr ⟨a, by rw [e.2 71 (by decide)]; exact b, by rw [e.2 70 (by decide)]; exact c, fun i i0 i1 => ?_, fun p p0 p1 => ?_⟩
      · exact uRfX_of (d i i0 i1) (fun q _ _ => by rw [f 753 (by decide) (by decide)]) (fun q _ _ => by rw [f 754 (by decide) (by decide)])
      · exact uPl_of (g p p0 p1) (fun q _ _ => by rw [f 755 (by decide) (by decide)]) (fun q _ _ => by rw [f 756 (by decide) (by decide)]) (fun q _ _ => by rw [f 757 (by decide) (by decide)])
theorem s_tried {M : gM} {z : aS} {p k w : Int} (hz : uSt M z) (hG : kGd (aCs z)) (hPd : ∀ p : Int, 0 ≤ p → p < 4 → plFit (aCs z) (aPl z p)) : ∃ M1, F_tried M p k w = some (aTried z p k w, M1) ∧ uSt M1 z := by
  unfold aTried
  rw [eq_tried, gI_bb (s_isPlan p)]
  by_cases q1 : 0 ≤ p ∧ p ≤ 3
  · rw [decide_eq_true q1, if_neg bIt, gI_bb (s_isCommit hz.1 k)]
    by_cases q2 : bC (aCs z) k = true
    · have q2' := of_decide_eq_true q2
      rw [decide_eq_true q2', if_neg bIt, gI_bb s_in]
      by_cases q3 : 0 ≤ w ∧ w ≤ 3
      · have hU := hz.2.2.2.1 p q1.1 (by omega)
        rw [decide_eq_true q3, if_neg bIt, gI_bb (s_isToldPlan hU q1), if_pos (show (0 ≤ p ∧ p ≤ 3) ∧ bC (aCs z) k = true ∧ (0 ≤ w ∧ w ≤ 3) from ⟨q1, q2, q3⟩)]
        by_cases q4 : (aPl z p).2.1 0 = 0
        · rw [if_pos q4, if_pos q4]; exact ⟨M, rfl, hz⟩
        · have h1 : (aPl z p).2.1 0 = 1 := hU.2.1.resolve_left q4
          obtain ⟨b1, b2, b3, -⟩ := hPd p q1.1 (by omega) h1
          rw [if_neg q4, if_neg q4]
          obtain ⟨n, c, rfl, hk, hl⟩ := bC_at q2
          have hT := (hz.1.2.2 n c hk).2.2.2.2.2.2
          have hn := (uC_len hz.1 hk).2
          obtain ⟨M1, e1, s1, -⟩ := s_carriesTree (hU.2.2 h1) q1 b3 (show (n : Int) ≠ 121 by omega) hT (hG.2 c (List.mem_of_getElem? hk)) (hG.1 n c hk).1.2.2.2.2.2.2
          rw [gI_bb e1, Int.toNat_natCast, fFs_at hk]
          unfold trV
          have k1 := uSt_ct hz s1
          by_cases w0 : w = 0
          · rw [if_pos (by omega), if_pos w0, if_pos w0, s1.1.2.1]; exact ⟨M1, rfl, k1⟩
          rw [if_neg w0]
          by_cases w1 : w = 1
          · rw [if_pos (by omega), if_neg w0, if_pos w1, if_pos w1, s1.2.1]; exact ⟨M1, rfl, k1⟩
          rw [if_neg w1]
          by_cases w2 : w = 2
          · rw [if_pos (by omega), if_neg w0, if_neg w1, if_pos w2, s1.2.2.1]; exact ⟨M1, rfl, k1⟩
          rw [if_neg w2, if_neg (show ¬ w < 3 by omega)]
          rw [if_neg w0, if_neg w1]
          exact ⟨M1, s_tried_82 k1.1 s1.1, k1⟩
      · rw [decide_eq_false q3, if_pos bIf, if_neg (fun w => q3 w.2.2)]; exact ⟨M, rfl, hz⟩
    · rw [show decide (0 ≤ k ∧ k < ((aCs z).length : Int)) = false from by
        have : bC (aCs z) k = false := by simpa using q2
        exact this, if_pos bIf, if_neg (fun w => q2 w.2.1)]; exact ⟨M, rfl, hz⟩
  · rw [decide_eq_false q1, if_pos bIf, if_neg (fun w => q1 w.1)]; exact ⟨M, rfl, hz⟩
theorem sp_X8_tree {sh : gS} {M : gM} (hOK : gOK sh M) : gC (gr 0 0) yX8_tree cX8_tree 1 (some (.object "CarriedHistory$Tree")) [(4, 3)] sh M (gPp sh M (4, 382)) := w_X8_tree hOK ⟨rfl, rfl, rfl⟩
theorem sp_X11_tried {sh : gS} {M : gM} {z : aS} {p k w : Int} (hz : cS sh M z) (hG : kGd (aCs z)) (hPg : ∀ p : Int, 0 ≤ p → p < 4 → plGd (aPl z p)) (hPd : ∀ p : Int, 0 ≤ p → p < 4 → plFit (aCs z) (aPl z p)) : gC (gr 4 100) yX11_tried cX11_tried 5 (some (.int)) [(4, 0), (0, p), (0, k), (0, w)] sh M (cPo sh M 0 (aTried z p k w) z) := by
  obtain ⟨hOK, hC, -, -, hPl, -⟩ := id hz
  have hl9 := hC.2.1
  unfold aTried
  refine w_X11_tried hOK ⟨_, sp_X11_isPlan hOK, ?_⟩
  by_cases q1 : 0 ≤ p ∧ p ≤ 3
  · rw [decide_eq_true q1, if_neg bIt]
    refine ⟨_, sp_X1_has hOK hC, ?_⟩
    rw [hasI]
    by_cases q2 : bC (aCs z) k = true
    · rw [if_neg (bI_ne q2)]
      by_cases q3 : w < 0
      · rw [if_pos q3, if_neg (fun w => by omega)]; exact cPo_same hz rfl
      rw [if_neg q3]
      by_cases q4 : (3 : Int) < w
      · rw [if_pos q4, if_neg (fun w => by omega)]; exact cPo_same hz rfl
      rw [if_neg q4, if_pos (show (0 ≤ p ∧ p ≤ 3) ∧ bC (aCs z) k = true ∧ (0 ≤ w ∧ w ≤ 3) from ⟨q1, q2, by omega, by omega⟩)]
      have hP := (hPl p q1.1 (by omega)).1
      have e0 : M (519 + 48 * p) 0 = (aPl z p).2.1 0 := hP.2.2.2.1 0 (Or.inl (by decide))
      refine ⟨⟨q1.1, by omega⟩, ⟨hP.1.1, by omega⟩, ?_⟩
      rw [e0]
      by_cases q5 : (aPl z p).2.1 0 = 0
      · rw [if_pos q5, if_pos q5]; exact cPo_same hz rfl
      have h1 : (aPl z p).2.1 0 = 1 := (hPg p q1.1 (by omega)).1.resolve_left q5
      obtain ⟨b1, b2, b3, -⟩ := hPd p q1.1 (by omega) h1
      rw [if_neg q5, if_neg q5]
      obtain ⟨n, c, rfl, hk, hl⟩ := bC_at q2
      obtain ⟨t0, t1, t2⟩ := cT_rng hC hk
      have hct : 20 ≤ cT M (n : Int) ∧ cT M (n : Int) + 2 < 380 := by unfold cT; omega
      rw [Int.toNat_natCast, fFs_at hk]
      refine ⟨_, sp_X1_tree hOK hC hk, _, sp_X8_carryTree hOK hP (plW_rng b3) t2 (hG.1 n c hk).1.2.2.2.2.2.2 (fun f hf => by have := (hG.2 c (List.mem_of_getElem? hk)).2.2 f hf; omega) (by omega) (by omega), fun r1 M1 hP1 => ?_⟩
      obtain ⟨rfl, c1, c2, c3, c4, c5⟩ := hP1
      have z1 : cS sh M1 z := cS_keep hz c4 (fun b hb => c5 b (by omega) (by omega) (by omega) (by omega))
      have don : ∀ u v : Int, u = v → cPo sh M 0 v z (some (0, u)) sh M1 := fun u v e => ⟨rfl, by rw [e], z1, fun b hb => c5 b (by omega) (by omega) (by omega) (by omega)⟩
      refine ⟨rfl, c4, ?_⟩
      unfold trV
      by_cases w0 : w = 0
      · rw [if_pos w0, if_pos w0]
        exact ⟨_, sp_X8_tree c4, ⟨c1.1.1, by decide⟩, don _ _ (tOk_c c1).1⟩
      rw [if_neg w0, if_neg w0]
      by_cases w1 : w = 1
      · rw [if_pos w1, if_pos w1]; exact don _ _ c2
      rw [if_neg w1, if_neg w1]
      by_cases w2 : w = 2
      · rw [if_pos w2, if_pos w2]; exact don _ _ c3
      rw [if_neg w2, if_neg w2]
      refine ⟨_, sp_X8_tree c4, _, sp_X1_lowestWith c4 z1.2.1 c1, ?_⟩
      by_cases y : kLow (rCt (aPl z p) (kFs c) 0 0 []).2.2 (aCs z) 0 < 0
      · rw [if_pos y, if_pos y]; exact don _ _ rfl
      · rw [if_neg y, if_neg y]; exact don _ _ rfl
    · rw [if_pos (bI_eq (by simpa using q2)), if_neg (fun w => q2 w.2.1)]; exact cPo_same hz rfl
  · rw [decide_eq_false q1, if_pos bIf, if_neg (fun w => q1 w.1)]; exact cPo_same hz rfl
