-- ==== THE INVARIANT of the state: every call keeps it
def zI (z : aS) : Prop := kGd (aCs z) ∧ (aCs z).length ≤ 120 ∧ (∀ h : Int, 0 ≤ h → h < 4 → rGd ((aCs z).length : Int) (aRs z h) ∧ (aRs z h).length ≤ 8) ∧ (∀ p : Int, 0 ≤ p → p < 4 → plInv (aCs z) (aPl z p)) ∧ aSv z ≤ ((aCs z).length : Int) ∧
  (0 ≤ aSv z → (∀ h : Int, 0 ≤ h → h < 4 → rGd (aSv z) (aSR z h) ∧ (aSR z h).length ≤ 8) ∧ ∀ p : Int, 0 ≤ p → p < 4 → ∀ cs : List kC, (cs.length : Int) = aSv z → plInv cs (aSP z p))
theorem plInv_len {cs ds : List kC} {pl : kP} (e : cs.length = ds.length) (h : plInv cs pl) : plInv ds pl := by
  unfold plInv at h ⊢
  rw [← e]; exact h
theorem plInv_up {cs ds : List kC} {pl : kP} (h : plInv cs pl) : plInv (cs ++ ds) pl := by
  have hl : (cs.length : Int) ≤ ((cs ++ ds).length : Int) := by rw [List.length_append]; omega
  refine ⟨h.1, fun h1 => ?_⟩
  obtain ⟨a, b, c, d, e⟩ := h.2 h1
  refine ⟨fun i hi x hx => pX_up hl (a i hi x hx), b, c, d, fun k k0 k1 => ?_⟩
  obtain ⟨e1, e2, e3, e4⟩ := e k k0 k1
  exact ⟨e1, ⟨e2.1, by omega⟩, e3, fun w => e4 (by omega)⟩
theorem kGd_take {cs : List kC} (h : kGd cs) (n : Nat) : kGd (cs.take n) := by
  refine ⟨fun k c hk => h.1 k c ?_, fun c hc => h.2 c (List.mem_of_mem_take hc)⟩
  rw [List.getElem?_take] at hk
  split at hk
  · exact hk
  · cases hk
theorem kSet_pre (cs : List kC) (d : kC) : (∃ ds, (kSet cs d).2 = cs ++ ds) ∧ (cs.length ≤ 120 → (kSet cs d).2.length ≤ 120) ∧ ((kSet cs d).1 < 0 → (kSet cs d).2 = cs) := by
  unfold kSet
  split
  · exact ⟨⟨[], (List.append_nil _).symm⟩, fun h => h, fun _ => rfl⟩
  · split
    · exact ⟨⟨[], (List.append_nil _).symm⟩, fun h => h, fun _ => rfl⟩
    · refine ⟨⟨[d], rfl⟩, fun h => ?_, fun h => ?_⟩
      · rw [List.length_append, List.length_singleton]; omega
      · exact absurd h (by show ¬ ((cs.length : Int) < 0); omega)
theorem zI_tape {z : aS} (h : zI z) (t : List Int) : zI (t, z.2) := h
theorem zI_new {z z' : aS} (h : zI z) (hcs : ∃ ds, aCs z' = aCs z ++ ds) (hg : kGd (aCs z')) (hl : (aCs z').length ≤ 120) (hr : ∀ h : Int, 0 ≤ h → h < 4 → rGd ((aCs z').length : Int) (aRs z' h) ∧ (aRs z' h).length ≤ 8) (hp : ∀ p : Int, 0 ≤ p → p < 4 → plInv (aCs z') (aPl z' p)) (hs : z'.2.2.2.2 = z.2.2.2.2) : zI z' := by
  have e1 : aSv z' = aSv z := congrArg (fun x => x.1) hs
  have e2 : aSR z' = aSR z := congrArg (fun x => x.2.1) hs
  have e3 : aSP z' = aSP z := congrArg (fun x => x.2.2) hs
  obtain ⟨ds, e⟩ := hcs
  obtain ⟨-, -, -, -, h5, h6⟩ := h
  refine ⟨hg, hl, hr, hp, ?_, ?_⟩
  · rw [e1, e, List.length_append]; omega
  · rw [e1, e2, e3]; exact h6
theorem zI_r {z : aS} (h : zI z) {cs : List kC} (hcs : ∃ ds, cs = aCs z ++ ds) : ∀ i : Int, 0 ≤ i → i < 4 → rGd (cs.length : Int) (aRs z i) ∧ (aRs z i).length ≤ 8 := fun i i0 i1 => by
  obtain ⟨ds, rfl⟩ := hcs
  obtain ⟨a, b⟩ := h.2.2.1 i i0 i1
  exact ⟨rGd_up (by rw [List.length_append]; omega) a, b⟩
theorem zI_p {z : aS} (h : zI z) {cs : List kC} (hcs : ∃ ds, cs = aCs z ++ ds) : ∀ i : Int, 0 ≤ i → i < 4 → plInv cs (aPl z i) := fun i i0 i1 => by
  obtain ⟨ds, rfl⟩ := hcs
  exact plInv_up (h.2.2.2.1 i i0 i1)
theorem zI_commit {z : aS} (h : zI z) (n who hour : Int) : zI ((aCommit (aCs z) (aTp z) n who hour).2.1, (aCommit (aCs z) (aTp z) n who hour).2.2, z.2.2) := by
  have hp : (∃ ds, (aCommit (aCs z) (aTp z) n who hour).2.2 = aCs z ++ ds) ∧ (aCommit (aCs z) (aTp z) n who hour).2.2.length ≤ 120 := by
    have no : (∃ ds, aCs z = aCs z ++ ds) ∧ (aCs z).length ≤ 120 := ⟨⟨[], (List.append_nil _).symm⟩, h.2.1⟩
    unfold aCommit
    split
    · split
      · obtain ⟨a, b, -⟩ := kSet_pre (aCs z) (kPs (pText (aCs z) ((aTp z).take n.toNat)).2.2.2, kFs (pText (aCs z) ((aTp z).take n.toNat)).2.2.2, kMs (pText (aCs z) ((aTp z).take n.toNat)).2.2.2, who, hour)
        exact ⟨a, b h.2.1⟩
      · exact no
    · exact no
  exact zI_new h hp.1 (aCommit_gd h.1 _ _ _ _) hp.2 (zI_r h hp.1) (zI_p h hp.1) rfl
theorem zI_self {z z' : aS} (h : zI z) (e : aCs z' = aCs z) (hr : ∀ h : Int, 0 ≤ h → h < 4 → rGd ((aCs z).length : Int) (aRs z' h) ∧ (aRs z' h).length ≤ 8) (hp : ∀ p : Int, 0 ≤ p → p < 4 → plInv (aCs z) (aPl z' p)) (hs : z'.2.2.2.2 = z.2.2.2.2) : zI z' :=
  zI_new h ⟨[], by rw [e, List.append_nil]⟩ (by rw [e]; exact h.1) (by rw [e]; exact h.2.1) (by rw [e]; exact hr) (by rw [e]; exact hp) hs
theorem rPut_gd {n : Int} {R : Int → List rF} {h : Int} {rs : List rF} (hR : ∀ i : Int, 0 ≤ i → i < 4 → rGd n (R i) ∧ (R i).length ≤ 8) (h1 : rGd n rs) (h2 : rs.length ≤ 8) : ∀ i : Int, 0 ≤ i → i < 4 → rGd n (rPut R h rs i) ∧ (rPut R h rs i).length ≤ 8 := fun i i0 i1 => by
  unfold rPut
  split
  · exact ⟨h1, h2⟩
  · exact hR i i0 i1
theorem zI_ref {z : aS} (hz : zI z) (h kind letter k : Int) : zI (z.1, z.2.1, (aRef ((aCs z).length : Int) (aRs z) h kind letter k).2, z.2.2.2) := by
  refine zI_self hz rfl ?_ hz.2.2.2.1 rfl
  show ∀ i : Int, 0 ≤ i → i < 4 → rGd ((aCs z).length : Int) ((aRef ((aCs z).length : Int) (aRs z) h kind letter k).2 i) ∧ ((aRef ((aCs z).length : Int) (aRs z) h kind letter k).2 i).length ≤ 8
  have hR := hz.2.2.1
  unfold aRef
  by_cases q : (0 ≤ h ∧ h ≤ 3) ∧ (0 ≤ kind ∧ kind ≤ 1) ∧ (0 ≤ letter ∧ letter ≤ 25) ∧ -1 ≤ k ∧ k < ((aCs z).length : Int)
  · rw [if_pos q]
    obtain ⟨q1, q2, q3, q4, q5⟩ := q
    obtain ⟨r1, r2⟩ := hR h q1.1 (by omega)
    by_cases e : k = -1
    · rw [if_pos e]
      by_cases g : rGet kind letter (aRs z h) = none
      · rw [if_pos g]; exact hR
      · rw [if_neg g]
        obtain ⟨-, -, l⟩ := rRem_is r1 q2 q3
        refine rPut_gd hR (rRem_gd r1 q2 q3) ?_
        rw [l, if_neg g]; omega
    · rw [if_neg e]
      by_cases g : rGet kind letter (aRs z h) = none ∧ 8 ≤ (aRs z h).length
      · rw [if_pos g]; exact hR
      · rw [if_neg g]
        obtain ⟨-, -, l⟩ := rLay_is (c := k) (p := -1) r1 q2 q3
        refine rPut_gd hR (rLay_gd r1 q2 q3 ⟨by omega, q5⟩ ⟨by decide, by decide⟩) ?_
        rw [l]
        by_cases g2 : rGet kind letter (aRs z h) = none
        · rw [if_pos g2]
          have : ¬ 8 ≤ (aRs z h).length := fun w => g ⟨g2, w⟩
          omega
        · rw [if_neg g2]; exact r2
  · rw [if_neg q]; exact hR
theorem zI_set {z : aS} (hz : zI z) {h a : Int} {d : kC} (hh : 0 ≤ h ∧ h ≤ 3) (ha : 0 ≤ a ∧ a ≤ 25) (hw : kWf ((aCs z).length : Int) d) (ht : tGd (kFs d)) (hgn : rGet 0 a (aRs z h) ≠ none) : zI (aSet z h a d).2 := by
  unfold aSet
  by_cases q : (kSet (aCs z) d).1 < 0
  · rw [if_pos q]
    have e := (kSet_pre (aCs z) d).2.2 q
    exact zI_self hz e hz.2.2.1 hz.2.2.2.1 rfl
  · rw [if_neg q]
    obtain ⟨p1, p2, p3, p4, p5⟩ := kSet_is hz.1 hz.2.1 hw ht q
    refine zI_new hz p1 p2 p3 (rPut_gd (zI_r hz p1) ?_ ?_) (zI_p hz p1) rfl
    · exact rLay_gd (zI_r hz p1 h hh.1 (by omega)).1 ⟨by decide, by decide⟩ ha ⟨p4, p5⟩ ⟨by decide, by decide⟩
    · obtain ⟨-, -, l⟩ := rLay_is (c := (kSet (aCs z) d).1) (p := -1) (hz.2.2.1 h hh.1 (by omega)).1 (show (0 : Int) ≤ 0 ∧ (0 : Int) ≤ 1 from ⟨by decide, by decide⟩) ha
      rw [l, if_neg hgn]
      exact (hz.2.2.1 h hh.1 (by omega)).2
theorem fFs_gd {cs : List kC} (h : kGd cs) {k : Nat} (hk : k < cs.length) : tGd (fFs cs k) := by
  have e := List.getElem?_eq_getElem hk
  rw [fFs_at e]
  exact h.2 _ (List.mem_of_getElem? e)
theorem zI_br {n : Int} {rs : List rF} {a : Int} (hG : rGd n rs) (ha : 0 ≤ a ∧ a ≤ 25) (h : ¬ (rGet 0 a rs).getD (-1) < 0) : rGet 0 a rs ≠ none ∧ 0 ≤ (rGet 0 a rs).getD (-1) ∧ (rGet 0 a rs).getD (-1) < n := by
  rcases (branch_is hG ha).2 with e | ⟨c, e, e2, e3⟩
  · rw [e] at h; exact absurd (show ((none : Option Int).getD (-1)) < 0 by decide) h
  · rw [e] at h ⊢; exact ⟨(fun w => by cases w), e2, e3⟩
theorem zI_join {z : aS} (hz : zI z) (h a b wh hr : Int) : zI (aJoin z h a b wh hr).2 := by
  unfold aJoin
  by_cases q : (0 ≤ h ∧ h ≤ 3) ∧ (0 ≤ a ∧ a ≤ 25) ∧ (0 ≤ b ∧ b ≤ 25) ∧ a ≠ b ∧ (0 ≤ wh ∧ wh ≤ 9) ∧ (0 ≤ hr ∧ hr ≤ 999)
  · rw [if_pos q]
    obtain ⟨q1, q2, q3, q4, q5, q6⟩ := q
    have hR := (hz.2.2.1 h q1.1 (by omega)).1
    have ba := zI_br hR q2
    have bb := zI_br hR q3
    generalize (rGet 0 a (aRs z h)).getD (-1) = p at ba ⊢
    generalize (rGet 0 b (aRs z h)).getD (-1) = r at bb ⊢
    unfold jnV
    by_cases c1 : p < 0 ∨ r < 0
    · rw [if_pos c1]; exact hz
    rw [if_neg c1]
    by_cases c2 : p = r ∨ kAnc (aCs z) r.toNat p.toNat = true ∨ kAnc (aCs z) p.toNat r.toNat = true
    · rw [if_pos c2]; exact hz
    rw [if_neg c2]
    by_cases c3 : ((tTakeAll (fFs (aCs z) r.toNat) (fFs (aCs z) p.toNat)).1 && !tClash0 (tTakeAll (fFs (aCs z) r.toNat) (fFs (aCs z) p.toNat)).2) = false
    · rw [if_pos c3]; exact hz
    rw [if_neg c3]
    by_cases c4 : 16 < (tTakeAll (fFs (aCs z) r.toNat) (fFs (aCs z) p.toNat)).2.length
    · rw [if_pos c4]; exact hz
    rw [if_neg c4]
    obtain ⟨g1, p0, p1⟩ := ba (fun w => c1 (Or.inl w))
    obtain ⟨-, r0, r1⟩ := bb (fun w => c1 (Or.inr w))
    have gp := fFs_gd hz.1 (show p.toNat < (aCs z).length by omega)
    have gr := fFs_gd hz.1 (show r.toNat < (aCs z).length by omega)
    obtain ⟨t1, t2, -⟩ := tTakeAll_is (fFs (aCs z) r.toNat) (fFs (aCs z) p.toNat) gp.1 gp.2.2 gr.2.2
    refine zI_set hz q1 q2 ⟨(show 2 ≤ 3 by decide), (fun x hx => ?_), (show 0 ≤ 24 by decide), (fun x hx => (by cases hx)), q5, q6, (show (tTakeAll (fFs (aCs z) r.toNat) (fFs (aCs z) p.toNat)).2.length ≤ 16 by omega)⟩ (tClash_gd t1 t2 ?_) g1
    · rcases List.mem_cons.mp hx with w | w
      · rw [w]; exact ⟨p0, p1⟩
      · rw [List.mem_singleton.mp w]; exact ⟨r0, r1⟩
    · cases hcl : tClash0 (tTakeAll (fFs (aCs z) r.toNat) (fFs (aCs z) p.toNat)).2 with
      | false => exact hcl
      | true => rw [hcl] at c3; exact absurd (Bool.and_false _) c3
  · rw [if_neg q]; exact hz
theorem zI_replay {z : aS} (hz : zI z) (h a k : Int) : zI (aReplay z h a k).2 := by
  unfold aReplay
  by_cases q : (0 ≤ h ∧ h ≤ 3) ∧ (0 ≤ a ∧ a ≤ 25) ∧ bC (aCs z) k = true
  · rw [if_pos q]
    obtain ⟨q1, q2, q3⟩ := q
    obtain ⟨n, c, rfl, hk, hl⟩ := bC_at q3
    rw [Int.toNat_natCast, rpC_at hk]
    have hR := (hz.2.2.1 h q1.1 (by omega)).1
    have ba := zI_br hR q2
    generalize (rGet 0 a (aRs z h)).getD (-1) = p at ba ⊢
    unfold rpV
    by_cases c1 : p < 0
    · rw [if_pos c1]; exact hz
    rw [if_neg c1]
    obtain ⟨g1, p0, p1⟩ := ba c1
    have gp := fFs_gd hz.1 (show p.toNat < (aCs z).length by omega)
    obtain ⟨E1, E2, E3, E4, E5⟩ := eL_is hz.1 hk
    have hwc := (hz.1.1 n c hk).1
    have E4' : tW (((mg 32 (kFF (aCs z) c) (kFs c) 0 0).filter eN).map eC) := fun x hx => by
      obtain ⟨e, he, rfl⟩ := List.mem_map.mp hx
      have hm2 : e3 e ∈ eL (mg 32 (kFF (aCs z) c) (kFs c) 0 0) := List.mem_append.mpr (Or.inl (List.mem_map_of_mem he))
      exact E4 _ hm2 (fun w => by
        have h2 := (List.mem_filter.mp he).2
        have h3 : (!decide (e.2.2.1 = 0)) = true := h2
        rw [decide_eq_true (show e.2.2.1 = 0 from w)] at h3; cases h3)
    generalize mg 32 (kFF (aCs z) c) (kFs c) 0 0 = ds at E4' ⊢
    by_cases c2 : (rpF ds (fFs (aCs z) p.toNat) && !tClash0 (rpT ds (fFs (aCs z) p.toNat))) = false
    · rw [if_pos c2]; exact hz
    rw [if_neg c2]
    by_cases c3 : 16 < (rpT ds (fFs (aCs z) p.toNat)).length
    · rw [if_pos c3]; exact hz
    rw [if_neg c3]
    by_cases c4 : rpT ds (fFs (aCs z) p.toNat) = fFs (aCs z) p.toNat
    · rw [if_pos c4]; exact hz
    rw [if_neg c4]
    have rg := rpRm_gd ((ds.filter eP0).map (fun e => e.1)) (fFs (aCs z) p.toNat) gp
    obtain ⟨t1, t2, -⟩ := rpPt_is ((ds.filter eN).map eC) _ rg.1.1 rg.1.2.2 E4'
    refine zI_set hz q1 q2 ⟨(show 1 ≤ 3 by decide), (fun x hx => by rw [List.mem_singleton.mp hx]; exact ⟨p0, p1⟩), hwc.2.2.1, hwc.2.2.2.1, hwc.2.2.2.2.1, hwc.2.2.2.2.2.1, (show (rpT ds (fFs (aCs z) p.toNat)).length ≤ 16 by omega)⟩ (tClash_gd t1 t2 ?_) g1
    cases hcl : tClash0 (rpT ds (fFs (aCs z) p.toNat)) with
    | false => exact hcl
    | true => rw [hcl] at c2; exact absurd (Bool.and_false _) c2
  · rw [if_neg q]; exact hz
theorem zI_plan {z : aS} (hz : zI z) (p N : Int) : zI (aPlan z p N).2 := by
  unfold aPlan
  split
  · split
    · rename_i h0
      obtain ⟨i1, i2, i3, i4, i5, i6⟩ := aText_I h0
      refine zI_self hz rfl hz.2.2.1 (fun i i0 i1' => ?_) rfl
      show plInv (aCs z) (plPut (aPl z) p (aText ((aCs z).length : Int) ((aTp z).take N.toNat)).2 i)
      unfold plPut
      split
      · refine ⟨Or.inr i1, fun _ => ⟨i3, i4, i5, i6, fun k k0 k1 => ?_⟩⟩
        rw [i2]
        exact ⟨⟨show (-1 : Int) ≤ -1 by decide, show (-1 : Int) ≤ 2 by decide⟩, ⟨show (-1 : Int) ≤ -1 by decide, show (-1 : Int) < ((aCs z).length : Int) by omega⟩, fun w => absurd (show (-1 : Int) = 0 from w) (by decide), fun _ => rfl⟩
      · exact hz.2.2.2.1 i i0 i1'
    · exact hz
  · exact hz
theorem zI_carry {z : aS} (hz : zI z) {p : Int} (hp : 0 ≤ p ∧ p ≤ 3) (b : Bool) : zI (aCarry z p b).2 := by
  unfold aCarry
  by_cases q0 : (aPl z p).2.1 0 = 0
  · rw [if_pos q0]; exact hz
  rw [if_neg q0]
  have hI := hz.2.2.2.1 p hp.1 (by omega)
  have h1 : (aPl z p).2.1 0 = 1 := by rcases hI.1 with w | w; exact absurd w q0; exact w
  have hK := plInv_K hI h1
  have hY := rcY_li (b := b) hz.1 hz.2.1 hI h1
  obtain ⟨hf, ht⟩ := plInv_ft hI h1
  cases hw : aLoop (kEld (aCs z) (aPl z p)) (eMark (aCs z) (aPl z p) (aRs z ((aPl z p).2.1 2))) (aPl z p) (aCs z).length 0 (rcY z (aPl z p) b) with
  | none => exact hz
  | some w =>
    show zI (rcV z p (some w)).2
    unfold rcV
    dsimp only
    split
    · exact hz
    · rename_i h8
      obtain ⟨l1, l2, l3, l4⟩ := aLoop_li hK hz.1.1 _ 0 _ w (by omega) hY hw
      have hr := zI_r hz l1
      have hrf := hz.2.2.1 ((aPl z p).2.1 2) hf.1 hf.2
      have hrt := hr ((aPl z p).2.1 3) ht.1 ht.2
      have hL := lrGo_gd (tags := (aPl z p).2.1 14) (fa := w.2.2.2) hp (n := (w.2.1.length : Int)) (im := w.2.2.1) (fun q q0 q1 => (l4 q q0 q1).2.1.2) (aRs z ((aPl z p).2.1 2)) ((aRs z ((aPl z p).2.1 3)).filter (fun x => decide (x.2.2.2 ≠ p))) (fun x hx => by
        obtain ⟨a, b, -⟩ := hrf.1.2 x hx
        exact ⟨a, b.1, by have := hz.2.1; omega⟩) (rGd_fil hrt.1 _)
      refine zI_new hz l1 l2 l3 (rPut_gd hr hL.1 (by have : ¬ 8 < (rcL z p (aPl z p) w).length := h8; unfold rcL at this; omega)) (fun i i0 i1 => ?_) rfl
      show plInv w.2.1 (plPut (aPl z) p ((aPl z p).1, (aPl z p).2.1, w.2.2.1, w.2.2.2) i)
      unfold plPut
      split
      · obtain ⟨ds, e⟩ := l1
        have hI2 := plInv_up (ds := ds) hI
        rw [← e] at hI2
        obtain ⟨a1, a2, a3, a4, -⟩ := hI2.2 h1
        refine ⟨hI.1, fun _ => ⟨a1, a2, a3, a4, fun k k0 k1 => ?_⟩⟩
        obtain ⟨b1, b2, b3, b4⟩ := l4 k k0 k1
        exact ⟨b1, b2, b3, fun hk => b4 (by rw [e, List.length_append] at hk; omega)⟩
      · exact zI_p hz l1 i i0 i1
theorem zI_run {z : aS} (hz : zI z) (p : Int) : zI (aRun z p).2 := by
  unfold aRun
  split
  · rename_i hp; exact zI_carry hz hp false
  · exact hz
theorem zI_again {z : aS} (hz : zI z) (p : Int) : zI (aAgain z p).2 := by
  unfold aAgain
  split
  · rename_i hp
    split
    · exact zI_carry hz hp true
    · exact zI_carry hz hp true
  · exact hz
theorem zI_keep {z : aS} (hz : zI z) : zI (aKeep z) := by
  obtain ⟨h1, h2, h3, h4, h5, h6⟩ := hz
  refine ⟨h1, h2, h3, h4, Int.le_refl _, fun _ => ⟨h3, fun p p0 p1 cs e => ?_⟩⟩
  have e' : (cs.length : Int) = ((aCs z).length : Int) := e
  exact plInv_len (by omega) (h4 p p0 p1)
theorem zI_undo {z : aS} (hz : zI z) : zI (aUndo z) := by
  unfold aUndo
  by_cases q : aSv z < 0
  · rw [if_pos q]; exact hz
  · rw [if_neg q]
    obtain ⟨h1, h2, h3, h4, h5, h6⟩ := hz
    obtain ⟨a, b⟩ := h6 (by omega)
    have hl : (((aCs z).take (aSv z).toNat).length : Int) = aSv z := by rw [List.length_take]; omega
    refine ⟨kGd_take h1 _, ?_, fun i i0 i1 => ?_, fun i i0 i1 => b i i0 i1 _ hl, ?_, fun _ => ⟨a, b⟩⟩
    · show ((aCs z).take (aSv z).toNat).length ≤ 120
      rw [List.length_take]; omega
    · show rGd (((aCs z).take (aSv z).toNat).length : Int) (aSR z i) ∧ _
      rw [hl]
      exact a i i0 i1
    · show aSv z ≤ (((aCs z).take (aSv z).toNat).length : Int)
      rw [hl]; exact Int.le_refl _
theorem zI_check {z : aS} (hz : zI z) (n : Int) : zI (aCheck z n).2 := by
  unfold aCheck
  split
  · exact hz
  · exact hz
theorem zI_ten {z : aS} (hz : zI z) : kTen (aCs z) := fun c hc f hf => (hz.1.2 c hc).2.2 f hf |>.2
