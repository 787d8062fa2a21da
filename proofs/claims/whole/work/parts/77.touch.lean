-- ==== touches on both sides
theorem srt_sub : ∀ (ys xs : List gF), tSrt xs → tSrt ys → (∀ x ∈ xs, x ∈ ys) → xs.length ≤ ys.length ∧ (ys.length ≤ xs.length → xs = ys)
  | [], xs, _, _, h => by
    cases xs with
    | nil => exact ⟨Nat.le_refl _, fun _ => rfl⟩
    | cons x t => exact absurd (h x List.mem_cons_self) List.not_mem_nil
  | y :: r, [], _, _, _ => ⟨Nat.zero_le _, fun h => by rw [List.length_cons, List.length_nil] at h; omega⟩
  | y :: r, x :: t, hx, hy, h => by
    have hx2 := List.pairwise_cons.mp hx
    have hy2 := List.pairwise_cons.mp hy
    by_cases e : x = y
    · subst e
      have ih := srt_sub r t hx2.2 hy2.2 (fun g hg => by
        rcases List.mem_cons.mp (h g (List.mem_cons_of_mem _ hg)) with w | w
        · have := hx2.1 g hg
          rw [w] at this; omega
        · exact w)
      refine ⟨by rw [List.length_cons, List.length_cons]; omega, fun w => ?_⟩
      rw [List.length_cons, List.length_cons] at w
      rw [ih.2 (by omega)]
    · have hxr : x ∈ r := by
        rcases List.mem_cons.mp (h x List.mem_cons_self) with w | w
        · exact absurd w e
        · exact w
      have hlt := hy2.1 x hxr
      have ih := srt_sub r (x :: t) hx hy2.2 (fun g hg => by
        rcases List.mem_cons.mp (h g hg) with w | w
        · exfalso
          rcases List.mem_cons.mp hg with u | u
          · exact e (u.symm.trans w)
          · have := hx2.1 g u
            rw [w] at this; omega
        · exact w)
      refine ⟨by rw [List.length_cons] at ih ⊢; rw [List.length_cons]; omega, fun w => ?_⟩
      rw [List.length_cons] at ih w
      rw [List.length_cons] at w
      omega
theorem tCnt_len (w : Int) : ∀ fs : List gF, tCnt w fs = ((fs.filter (fun f => pCov w f.1)).length : Int)
  | [] => rfl
  | f :: r => by
    rw [tCnt, tCnt_len w r]
    cases hc : pCov w f.1 with
    | true => rw [List.filter_cons_of_pos (by exact hc), List.length_cons]; show 1 + _ = _; omega
    | false => rw [List.filter_cons_of_neg (by rw [hc]; decide)]; show 0 + _ = _; omega
theorem tLkGo_iff {w : Int} {gs : List gF} : ∀ {fs : List gF}, tLkGo w gs fs = true ↔ ∀ f ∈ fs, pCov w f.1 = true → tCont f.1 gs = f.2
  | [] => ⟨fun _ f hf => (by cases hf), fun _ => rfl⟩
  | f :: r => by
    have ih := tLkGo_iff (w := w) (gs := gs) (fs := r)
    rw [tLkGo]
    by_cases hc : pCov w f.1 = true
    · rw [if_pos hc]
      by_cases e : tCont f.1 gs = f.2
      · rw [if_pos e, ih]
        exact ⟨fun h g hg => by
          rcases List.mem_cons.mp hg with u | u
          · rw [u]; exact fun _ => e
          · exact h g u, fun h g hg => h g (List.mem_cons_of_mem _ hg)⟩
      · rw [if_neg e]
        exact ⟨fun h => (by cases h), fun h => absurd (h f List.mem_cons_self hc) e⟩
    · rw [if_neg hc, ih]
      exact ⟨fun h g hg => by
        rcases List.mem_cons.mp hg with u | u
        · rw [u]; exact fun z => absurd z hc
        · exact h g u, fun h g hg => h g (List.mem_cons_of_mem _ hg)⟩
theorem tCont_mem {w : Int} {gs : List gF} (h : tCont w gs ≠ 0) : (w, tCont w gs) ∈ gs := by
  rcases tFind_spec w gs 0 (by decide) with ⟨-, a, -⟩ | ⟨j, g, a, b, -, c⟩
  · exact absurd a h
  · have := List.mem_of_getElem? a
    rw [c, ← b]; exact this
theorem tCont_of {gs : List gF} (hS : tSrt gs) {g : gF} (h : g ∈ gs) : tCont g.1 gs = g.2 := by
  rcases tFind_spec g.1 gs 0 (by decide) with ⟨-, -, a⟩ | ⟨j, x, a, b, -, c⟩
  · exact absurd rfl (a g h)
  · have hx := List.mem_of_getElem? a
    have : x = g := by
      obtain ⟨i, hi, e⟩ := List.mem_iff_getElem.mp h
      obtain ⟨j2, hj, e2⟩ := List.mem_iff_getElem.mp hx
      have hp := List.pairwise_iff_getElem.mp hS
      rcases Nat.lt_trichotomy i j2 with y | y | y
      · have := hp i j2 hi hj y
        rw [e, e2] at this; omega
      · subst y; rw [← e, ← e2]
      · have := hp j2 i hj hi y
        rw [e, e2] at this; omega
    rw [c, this]
theorem tLkAt_iff {w : Int} {fs gs : List gF} (hF : tSrt fs) (hG : tSrt gs) (hW : tW fs) : tLkAt w fs gs = true ↔ fs.filter (fun f => pCov w f.1) = gs.filter (fun f => pCov w f.1) := by
  unfold tLkAt
  rw [tCnt_len, tCnt_len]
  constructor
  · intro h
    by_cases e : ((fs.filter (fun f => pCov w f.1)).length : Int) = ((gs.filter (fun f => pCov w f.1)).length : Int)
    · rw [if_pos e] at h
      have h2 := tLkGo_iff.mp h
      refine (srt_sub _ _ (hF.sublist List.filter_sublist) (hG.sublist List.filter_sublist) (fun x hx => ?_)).2 (by omega)
      obtain ⟨x1, x2⟩ := List.mem_filter.mp hx
      have e3 := h2 x x1 x2
      have := tCont_mem (w := x.1) (gs := gs) (by rw [e3]; have := (hW x x1).2; omega)
      rw [e3] at this
      exact List.mem_filter.mpr ⟨this, x2⟩
    · rw [if_neg e] at h; cases h
  · intro h
    rw [if_pos (by rw [h]), tLkGo_iff]
    intro f hf hc
    have : f ∈ gs.filter (fun f => pCov w f.1) := by rw [← h]; exact List.mem_filter.mpr ⟨hf, hc⟩
    exact tCont_of hG (List.mem_filter.mp this).1
theorem tLkAt_sym {w : Int} {fs gs : List gF} (hF : tGd fs) (hG : tGd gs) : tLkAt w fs gs = tLkAt w gs fs := by
  rw [Bool.eq_iff_iff, tLkAt_iff hF.1 hG.1 hF.2.2, tLkAt_iff hG.1 hF.1 hG.2.2]
  exact ⟨Eq.symm, Eq.symm⟩
theorem s_isSameThere {M : gM} {t u w : Int} {fs gs : List gF} (hT : uT M t fs) (hU : uT M u gs) (hF : tW fs) (hG : tW gs) (hw : pW w) : F_isSameThere M t u w = some (bI (tLkAt w fs gs)) := by
  have h32 := uT_32 hT
  rw [eq_isSameThere, gI_bb (s_filesBelow hT hF hw), gI_bb (s_filesBelow hU hG hw), tLkAt]
  by_cases e : tCnt w fs = tCnt w gs
  · rw [if_pos e, if_pos e]
    have lp : ∀ (suf pre : List gF), fs = pre ++ suf → F_isSameThere_20 M t u w (pre.length : Int) = some (bI (tLkGo w gs suf)) := by
      intro suf
      induction suf with
      | nil =>
        intro pre e1
        have hlen := congrArg List.length e1
        rw [List.append_nil] at hlen
        rw [eq_isSameThere_20, if_pos hT.1, hT.2.1, if_neg (by omega)]; rfl
      | cons f r ih =>
        intro pre e1
        have hlen := congrArg List.length e1
        rw [List.length_append, List.length_cons] at hlen
        have hpf := (tW_mid hF e1).1
        have nx := ih (pre ++ [f]) (by rw [e1]; simp)
        rw [List.length_append] at nx
        rw [eq_isSameThere_20, if_pos hT.1, hT.2.1, if_pos (by omega), gI_bb (s_pathAt hT (at_mid e1)), gI_bb (s_isAtOrBelow hpf hw), gw32_id (by omega) (by omega), tLkGo]
        cases hc : pCov w f.1 with
        | false => rw [if_pos bIf, if_neg (by decide)]; simpa using nx
        | true =>
          rw [if_neg bIt, if_pos rfl, gI_bb (s_pathAt hT (at_mid e1)), gI_bb (s_contentBy hU), gI_bb (s_contentAt hT (at_mid e1))]
          by_cases y : tCont f.1 gs = f.2
          · rw [if_pos y, if_pos y]; simpa using nx
          · rw [if_neg y, if_neg y]; rfl
    exact lp fs [] rfl
  · rw [if_neg e, if_neg e]; rfl
/-- whether COMMIT k touches PATH w -/
def tchB (cs : List kC) (w : Int) (k : Nat) : Bool := if (fPs cs k).length = 0 then decide (0 < tCnt w (fFs cs k)) else (fPs cs k).all (fun p => !tLkAt w (fFs cs k) (fFs cs p.toNat))
theorem s_isTouching {M : gM} {cs : List kC} {w : Int} {k : Nat} (hC : uC M cs) (hG : kGd cs) (hw : pW w) (hk : k < cs.length) : F_isTouching M (k : Int) w = some (bI (tchB cs w k)) := by
  have hl9 := hC.2.1
  have hc := List.getElem?_eq_getElem hk
  generalize cs[k] = c at hc
  have hf : fPs cs k = kPs c := by unfold fPs; rw [hc]
  have hwf := (hG.1 k c hc).1
  have hn := (hC.2.2 k c hc).1
  have hT := (hC.2.2 k c hc).2.2.2.2.2.2
  have gc := hG.2 c (List.mem_of_getElem? hc)
  unfold tchB
  rw [hf, fFs_at hc]
  have lp : ∀ (suf pre : List Int), kPs c = pre ++ suf → F_isTouching_2 M (k : Int) w (pre.length : Int) = some (bI (if (kPs c).length = 0 then decide (0 < tCnt w (kFs c)) else suf.all (fun p => !tLkAt w (kFs c) (fFs cs p.toNat)))) := by
    intro suf
    induction suf with
    | nil =>
      intro pre e
      have hlen := congrArg List.length e
      rw [List.append_nil] at hlen
      rw [eq_isTouching_2, if_pos (by omega), hn, if_neg (by omega)]
      by_cases q : (kPs c).length = 0
      · rw [if_neg (by omega), if_pos q, gI_bb (s_filesBelow hT gc.2.2 hw)]
        by_cases y : 0 < tCnt w (kFs c)
        · rw [if_pos y, decide_eq_true y]; rfl
        · rw [if_neg y, decide_eq_false y]; rfl
      · rw [if_pos (by omega), if_neg q]; rfl
    | cons p r ih =>
      intro pre e
      have hlen := congrArg List.length e
      rw [List.length_append, List.length_cons] at hlen
      have hp := hwf.2.1 p (by rw [e]; simp)
      have h3 := hwf.1
      have hd := List.getElem?_eq_getElem (show p.toNat < cs.length by omega)
      generalize cs[p.toNat] = d at hd
      have hTd := (hC.2.2 p.toNat d hd).2.2.2.2.2.2
      rw [show ((p.toNat : Nat) : Int) = p by omega] at hTd
      have gd := hG.2 d (List.mem_of_getElem? hd)
      have nx := ih (pre ++ [p]) (by rw [e]; simp)
      rw [List.length_append, if_neg (by omega)] at nx
      rw [eq_isTouching_2, if_pos (by omega), hn, if_pos (by omega), gI_bb (s_parentAt hC hc hwf.1 (at_mid e)), gI_bb (s_isSameThere hTd hT gd.2.2 gc.2.2 hw), gw32_id (by omega) (by omega), if_neg (show ¬ (kPs c).length = 0 by omega), List.all_cons, fFs_at hd, tLkAt_sym gc gd]
      cases tLkAt w (kFs d) (kFs c) with
      | false => rw [if_pos bIf]; simpa using nx
      | true => rw [if_neg bIt]; rfl
  rw [eq_isTouching]
  exact lp (kPs c) [] rfl
def tcQ (cs : List kC) (S : Nat → Bool) (w : Int) (k : Nat) : Bool := S k && tchB cs w k
theorem s_touches_54 {M : gM} {cs : List kC} {S : Nat → Bool} {w h n : Int} (hC : uC M cs) (hG : kGd cs) (hS : uS M 724 S) (hw : pW w) (h23 : M 711 23 = w) : F_touches_54 M h n 0 0 = some (cnt (tcQ cs S w) cs.length, M) := by
  have hl9 := hC.2.1
  have lp : ∀ (m k : Nat), k + m = cs.length → F_touches_54 M h n (cnt (tcQ cs S w) k) (k : Int) = some (cnt (tcQ cs S w) cs.length, M) := by
    intro m
    induction m with
    | zero => intro k hk; rw [eq_touches_54, hC.1, if_neg (by omega), show k = cs.length by omega]
    | succ m ih =>
      intro k hk
      have ih1 := ih (k + 1) (by omega)
      have hr := cnt_rng (tcQ cs S w) k
      rw [eq_touches_54, hC.1, if_pos (by omega), if_pos (by omega), hS k (by omega), h23]
      simp (disch := omega) only [gw32_id]
      have hq : tcQ cs S w k = (S k && tchB cs w k) := rfl
      cases hs : S k with
      | false => rw [if_pos bIf]; rw [hs] at hq; rw [cnt_F hq] at ih1; exact ih1
      | true =>
        rw [if_neg bIt, gI_bb (s_isTouching hC hG hw (by omega))]
        rw [hs, Bool.true_and] at hq
        cases hb : tchB cs w k with
        | false => rw [if_pos bIf]; rw [hb] at hq; rw [cnt_F hq] at ih1; exact ih1
        | true => rw [if_neg bIt]; rw [hb] at hq; rw [cnt_T hq] at ih1; exact ih1
  exact lp cs.length 0 (by omega)
def aTouches (z : aS) (h n : Int) : Int × List Int :=
  if (0 ≤ h ∧ h ≤ 3) ∧ (1 ≤ n ∧ n ≤ 11) ∧ n ≤ ((aTp z).length : Int) then
    ((if (wpR ((aTp z).take n.toNat)).1 = 0 then cnt (tcQ (aCs z) (hMark (aCs z) (aRs z h)) (wpR ((aTp z).take n.toNat)).2) (aCs z).length else (wpR ((aTp z).take n.toNat)).1), [])
  else (-1, aTp z)
theorem s_touches {M : gM} {z : aS} {h n : Int} (hz : uSt M z) (hG : kGd (aCs z)) (hR : ∀ h : Int, 0 ≤ h → h < 4 → rGd ((aCs z).length : Int) (aRs z h) ∧ (aRs z h).length ≤ 8) : ∃ M1, F_touches M h n = some ((aTouches z h n).1, M1) ∧ uSt M1 ((aTouches z h n).2, z.2) := by
  unfold aTouches
  rw [eq_touches, gI_bb s_isHistory]
  have no : ∀ y : Int × List Int, ¬ ((0 ≤ h ∧ h ≤ 3) ∧ (1 ≤ n ∧ n ≤ 11) ∧ n ≤ ((aTp z).length : Int)) → ∃ M1, some ((-1 : Int), M) = some ((if (0 ≤ h ∧ h ≤ 3) ∧ (1 ≤ n ∧ n ≤ 11) ∧ n ≤ ((aTp z).length : Int) then y else (-1, aTp z)).1, M1) ∧ uSt M1 ((if (0 ≤ h ∧ h ≤ 3) ∧ (1 ≤ n ∧ n ≤ 11) ∧ n ≤ ((aTp z).length : Int) then y else (-1, aTp z)).2, z.2) := fun y q => by
    rw [if_neg q]; exact ⟨M, rfl, hz⟩
  by_cases q1 : 0 ≤ h ∧ h ≤ 3
  · rw [decide_eq_true q1, if_neg bIt, gI_bb s_in]
    by_cases q2 : 1 ≤ n ∧ n ≤ 11
    · rw [decide_eq_true q2, if_neg bIt, hz.2.1.1]
      by_cases q4 : ((aTp z).length : Int) < n
      · rw [if_pos q4]; exact no _ (fun w => by omega)
      · rw [if_neg q4, if_pos (show (0 ≤ h ∧ h ≤ 3) ∧ (1 ≤ n ∧ n ≤ 11) ∧ n ≤ ((aTp z).length : Int) from ⟨q1, q2, by omega⟩)]
        clear no
        obtain ⟨m, rfl⟩ : ∃ m : Nat, n = (m : Int) := ⟨n.toNat, by omega⟩
        rw [Int.toNat_natCast]
        obtain ⟨M1, e1, z1, h23, h21⟩ := s_readsWholePath hz (show m ≤ (aTp z).length by omega)
        rw [gI_bb e1]
        by_cases a : (wpR ((aTp z).take m)).1 = 0
        · rw [if_pos a, if_neg (show ¬ (1 : Int) = 0 by decide), if_pos a]
          have hW := (wpR_W a (wpR_rng _)).1
          obtain ⟨M2, e2, s2, f2⟩ := s_marksHistory (a := 724) (h := h) (R := aRs z) z1.1 hG.1 (fun i i0 i1 => ⟨z1.2.2.1 i i0 i1, hR i i0 i1⟩) (by decide) ⟨q1.1, by omega⟩
          have hC2 : uC M2 (aCs z) := uC_but z1.1 (by decide) f2
          rw [gI_bb e2]
          exact ⟨M2, s_touches_54 hC2 hG s2 hW (by rw [f2 711 (by decide)]; exact h23 a), uSt_keep (A := [724]) (F := []) z1 ⟨fun b hb _ => f2 b (fun w => hb (by rw [w]; simp)), fun i _ => by rw [f2 711 (by decide)]⟩ (fun b hb => by rw [List.mem_singleton.mp hb]; omega) (by decide)⟩
        · rw [if_neg a, if_pos (show (0 : Int) = 0 from rfl), if_neg a]
          exact ⟨M1, by show some (M1 711 21, M1) = _; rw [h21 a], z1⟩
    · rw [decide_eq_false q2, if_pos bIf]; exact no _ (fun w => q2 w.2.1)
  · rw [decide_eq_false q1, if_pos bIf]; exact no _ (fun w => q1 w.1)
-- the class
theorem sp_X11_isTouched {sh : gS} {M : gM} {cs : List kC} {w : Int} {k : Nat} (hOK : gOK sh M) (hC : cOk sh M cs) (hw : pW w) (hk : k < cs.length) : gC (gr 3 69) yX11_isTouched cX11_isTouched 4 (some (.boolean)) [(4, 0), (0, (k : Int)), (0, w)] sh M (gPp sh M (0, bI (tchB cs w k))) := by
  have hl9 := hC.2.1
  have hc := List.getElem?_eq_getElem hk
  generalize cs[k] = c at hc
  have hf : fPs cs k = kPs c := by unfold fPs; rw [hc]
  obtain ⟨⟨o1, o2, -⟩, hwf, -⟩ := hC.2.2.2 k c hc
  obtain ⟨t0, t1, t2⟩ := cT_rng hC hc
  have hsh : gsh sh (cT M (k : Int)) = some (0, 11) ∧ cT M (k : Int) < 758 := ⟨t2.1.1, t2.1.2.2.2⟩
  unfold tchB
  rw [hf, fFs_at hc]
  refine w_X11_isTouched hOK ⟨by omega, ?_⟩
  rw [o1]
  by_cases q : (kPs c).length = 0
  · rw [if_pos (by omega), if_pos q]
    refine ⟨_, sp_X1_tree hOK hC hc, hsh, _, sp_X10_filesAt hOK t2 ⟨hw.1, hw.2.1⟩, ?_⟩
    by_cases y : 0 < tCnt w (kFs c)
    · rw [if_pos y, decide_eq_true y]; exact ⟨rfl, rfl, rfl⟩
    · rw [if_neg y, decide_eq_false y]; exact ⟨rfl, rfl, rfl⟩
  · rw [if_neg (by omega), if_neg q]
    have lp : ∀ (suf pre : List Int), kPs c = pre ++ suf → P_X11_isTouched_35 sh (gPp sh M (0, bI (suf.all (fun p => !tLkAt w (kFs c) (fFs cs p.toNat))))) (k : Int) w (pre.length : Int) M := by
      intro suf
      induction suf with
      | nil =>
        intro pre e
        have hlen := congrArg List.length e
        rw [List.append_nil] at hlen
        refine w_X11_isTouched_35 hOK ⟨by omega, ?_⟩
        rw [o1, if_neg (by omega)]
        exact ⟨rfl, rfl, rfl⟩
      | cons p r ih =>
        intro pre e
        have hlen := congrArg List.length e
        rw [List.length_append, List.length_cons] at hlen
        have hp := hwf.2.1 p (by rw [e]; simp)
        have h3 := hwf.1
        have hv := o2 pre.length p (at_mid e)
        have hd := List.getElem?_eq_getElem (show p.toNat < cs.length by omega)
        generalize cs[p.toNat] = d at hd
        have td := (cT_rng hC hd).2.2
        have hspt := sp_X1_tree hOK hC hd
        rw [show ((p.toNat : Nat) : Int) = p by omega] at td hspt
        have nx := ih (pre ++ [p]) (by rw [e]; simp)
        rw [List.length_append] at nx
        refine w_X11_isTouched_35 hOK ⟨by omega, ?_⟩
        rw [o1, if_pos (by omega)]
        refine ⟨_, sp_X1_tree hOK hC hc, _, sp_X1_parent hOK (by omega) (by omega), ?_⟩
        rw [hv]
        refine ⟨_, hspt, hsh, _, sp_X10_isLikeAt hOK t2 td ⟨hw.1, hw.2.1⟩, ?_⟩
        rw [gw32_id (by omega) (by omega), List.all_cons, fFs_at hd]
        cases tLkAt w (kFs c) (kFs d) with
        | false => rw [if_pos bIf]; simpa using nx
        | true => rw [if_neg bIt]; exact ⟨rfl, rfl, rfl⟩
    exact lp (kPs c) [] rfl
theorem sp_X11_touches {sh : gS} {M : gM} {z : aS} {h n : Int} (hz : cS sh M z) (hG : ∀ h : Int, 0 ≤ h → h < 4 → rGd ((aCs z).length : Int) (aRs z h)) : gC (gr 4 92) yX11_touches cX11_touches 6 (some (.int)) [(4, 0), (0, h), (0, n)] sh M (cPo sh M 0 (aTouches z h n).1 ((aTouches z h n).2, z.2)) := by
  obtain ⟨hOK, hC, ⟨hB, hL⟩, hRs, -⟩ := id hz
  have hl9 := hC.2.1
  refine w_X11_touches hOK ⟨_, sp_X11_isHistory hOK, ?_⟩
  unfold aTouches
  have no : ∀ y : Int × List Int, ¬ ((0 ≤ h ∧ h ≤ 3) ∧ (1 ≤ n ∧ n ≤ 11) ∧ n ≤ ((aTp z).length : Int)) → cPo sh M 0 (if (0 ≤ h ∧ h ≤ 3) ∧ (1 ≤ n ∧ n ≤ 11) ∧ n ≤ ((aTp z).length : Int) then y else (-1, aTp z)).1 ((if (0 ≤ h ∧ h ≤ 3) ∧ (1 ≤ n ∧ n ≤ 11) ∧ n ≤ ((aTp z).length : Int) then y else (-1, aTp z)).2, z.2) (some (0, -1)) sh M := fun y q => by
    rw [if_neg q]; exact cPo_same (z := (aTp z, z.2)) hz rfl
  by_cases q1 : 0 ≤ h ∧ h ≤ 3
  · rw [decide_eq_true q1, if_neg bIt]
    by_cases q4 : n < 1
    · rw [if_pos q4]; exact no _ (fun w => by omega)
    rw [if_neg q4]
    by_cases q5 : (11 : Int) < n
    · rw [if_pos q5]; exact no _ (fun w => by omega)
    rw [if_neg q5, hL]
    by_cases q6 : ((aTp z).length : Int) < n
    · rw [if_pos q6]; exact no _ (fun w => by omega)
    rw [if_neg q6, if_pos (show (0 ≤ h ∧ h ≤ 3) ∧ (1 ≤ n ∧ n ≤ 11) ∧ n ≤ ((aTp z).length : Int) from ⟨q1, by omega, by omega⟩)]
    clear no
    obtain ⟨m, rfl⟩ : ∃ m : Nat, n = (m : Int) := ⟨n.toNat, by omega⟩
    rw [Int.toNat_natCast]
    refine ⟨_, sp_X11_readWholePath hz (by omega), fun r1 M1 hP1 => ?_⟩
    obtain ⟨rfl, z1, g4, fr⟩ := hP1
    refine ⟨_, rfl, z1.1, ?_⟩
    rw [g4]
    by_cases a : (wpR ((aTp z).take m)).1 = 0
    · rw [if_pos a, if_pos a]
      have hW := (wpR_W a (wpR_rng _)).1
      generalize (wpR ((aTp z).take m)).2 = p at hW ⊢
      have hC1 : cOk sh M1 (aCs z) := z1.2.1
      have rA := (z1.2.2.2.1 h q1.1 (by omega)).1
      have gA := hG h q1.1 (by omega)
      refine ⟨⟨q1.1, by omega⟩, _, sp_X1_markHistory z1.1 hC1 rA (fun x hx => (gA.2 x hx).2.1) (mSh470 z1.1) (by decide) (by decide) (by omega), fun r2 M2 hP2 => ?_⟩
      obtain ⟨rfl, s2, p2, p3, p4⟩ := hP2
      have z2 : cS sh M2 ([], z.2) := cS_keep z1 p2 (fun b hb => p3 b (by omega) (by omega))
      have hC2 : cOk sh M2 (aCs z) := z2.2.1
      have s2' : mIs M2 470 0 (hMark (aCs z) (aRs z h)) := s2
      generalize hMark (aCs z) (aRs z h) = S at s2'
      refine ⟨rfl, p2, ?_⟩
      have lp : ∀ (n k : Nat), k + n = (aCs z).length → P_X11_touches_79 sh (cPo sh M 0 (cnt (tcQ (aCs z) S p) (aCs z).length) ([], z.2)) h (m : Int) p (cnt (tcQ (aCs z) S p) k) (k : Int) M2 := by
        intro n
        induction n with
        | zero =>
          intro k hk
          refine w_X11_touches_79 p2 ?_
          rw [hC2.1, if_neg (by omega), show k = (aCs z).length by omega]
          exact ⟨rfl, rfl, z2, fun b hb => by rw [p3 b (by omega) (by omega)]; exact fr b (by omega)⟩
        | succ n ih =>
          intro k hk
          have ih1 := ih (k + 1) (by omega)
          have hr := cnt_rng (tcQ (aCs z) S p) k
          refine w_X11_touches_79 p2 ?_
          rw [hC2.1, if_pos (by omega)]
          refine ⟨_, sp_X3_has p2 (mSh470 p2) (by decide), ?_⟩
          rw [mHas_of s2' k (by omega)]
          simp (disch := omega) only [gw32_id]
          have hq : tcQ (aCs z) S p k = (S k && tchB (aCs z) p k) := rfl
          cases hs : S k with
          | false => rw [if_pos bIf]; rw [hs] at hq; rw [cnt_F hq] at ih1; exact ih1
          | true =>
            rw [if_neg bIt]
            refine ⟨_, sp_X11_isTouched p2 hC2 hW (by omega), ?_⟩
            rw [hs, Bool.true_and] at hq
            cases hb : tchB (aCs z) p k with
            | false => rw [if_pos bIf]; rw [hb] at hq; rw [cnt_F hq] at ih1; exact ih1
            | true => rw [if_neg bIt]; rw [hb] at hq; rw [cnt_T hq] at ih1; exact ih1
      exact lp (aCs z).length 0 (by omega)
    · rw [if_neg a, if_neg a]
      exact ⟨rfl, rfl, z1, fun b hb => fr b (by omega)⟩
  · rw [decide_eq_false q1, if_pos bIf]; exact no _ (fun w => q1 w.1)
