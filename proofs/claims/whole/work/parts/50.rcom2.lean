-- ==== the reference: commit as a whole; what a text that is well told leaves
theorem dAddP_len {d : kC} {k : Int} (h : (kPs d).length ≤ 3) : (kPs (dAddP d k)).length ≤ 3 := by
  unfold dAddP
  split
  · show (kPs d ++ [k]).length ≤ 3; simp; omega
  · exact h
theorem pParGo_len (n : Int) : ∀ (k : Nat) (s : List Int) (p : Int) (d : kC), (kPs d).length ≤ 3 → (kPs (pParGo n k s p d).2.2.2).length ≤ 3
  | 0, s, p, d, h => by rw [pParGo]; split <;> exact h
  | k + 1, s, p, d, h => by
    rw [pParGo]
    split
    · exact h
    · split
      · exact dAddP_len h
      · split
        · exact dAddP_len h
        · split
          · exact pParGo_len n k _ _ _ (dAddP_len h)
          · exact dAddP_len h
theorem pMsgGo_keep : ∀ (k : Nat) (s : List Int) (p : Int) (d : kC), kPs (pMsgGo k s p d).2.2.2 = kPs d ∧ kFs (pMsgGo k s p d).2.2.2 = kFs d
  | k, [], p, d => by cases k <;> exact ⟨rfl, rfl⟩
  | 0, c :: r, p, d => ⟨rfl, rfl⟩
  | k + 1, c :: r, p, d => by
    rw [pMsgGo]
    split
    · have := pMsgGo_keep k r (p + 1) (dAddM d c)
      have h2 : kPs (dAddM d c) = kPs d ∧ kFs (dAddM d c) = kFs d := by unfold dAddM; split <;> exact ⟨rfl, rfl⟩
      exact ⟨this.1.trans h2.1, this.2.trans h2.2⟩
    · exact ⟨rfl, rfl⟩
theorem pMsgGo_ms : ∀ (k : Nat) (s : List Int) (p : Int) (d : kC), (kMs d).length ≤ 24 → (∀ b ∈ kMs d, 0 ≤ b ∧ b < 128) → (kMs (pMsgGo k s p d).2.2.2).length ≤ 24 ∧ ∀ b ∈ kMs (pMsgGo k s p d).2.2.2, 0 ≤ b ∧ b < 128
  | k, [], p, d, h, hb => by cases k <;> exact ⟨h, hb⟩
  | 0, c :: r, p, d, h, hb => ⟨h, hb⟩
  | k + 1, c :: r, p, d, h, hb => by
    rw [pMsgGo]
    split
    · rename_i hc
      refine pMsgGo_ms k r (p + 1) (dAddM d c) ?_ ?_
      · unfold dAddM
        split
        · show (kMs d ++ [c]).length ≤ 24; simp; omega
        · exact h
      · unfold dAddM
        split
        · intro b hb2
          have hb2 : b ∈ kMs d ++ [c] := hb2
          rcases List.mem_append.mp hb2 with z | z
          · exact hb b z
          · rw [List.mem_singleton.mp z]; omega
        · exact hb
    · exact ⟨h, hb⟩
/-- COMMITS as they can be -/
def kGd (cs : List kC) : Prop := kOk cs ∧ ∀ c ∈ cs, tGd (kFs c)
theorem pEdits_gd {cs : List kC} (hO2 : ∀ c ∈ cs, tGd (kFs c)) : ∀ (k : Nat) (s : List Int) (p : Int) (d : kC), 0 ≤ p → tGd (kFs d) → (pEdits cs k s p d).1 = 0 → tGd (kFs (pEdits cs k s p d).2.2.2) := by
  intro k
  induction k with
  | zero => intro s p d _ hG _; exact hG
  | succ k ih =>
    intro s p d hp hG h
    have hpl := pEdit_pl cs s p d
    rw [pEdits] at h ⊢
    by_cases hy : (pEdit cs s p d).1 ≠ 0
    · rw [if_pos hy] at h; exact absurd h hy
    · rw [if_neg hy] at h ⊢
      have hy0 : (pEdit cs s p d).1 = 0 := by
        rcases Classical.em ((pEdit cs s p d).1 = 0) with z | z
        · exact z
        · exact absurd z hy
      have hg := pEdit_gd hp hG hO2 hy0
      by_cases h59 : hd (pEdit cs s p d).2.2.1 = 59
      · rw [if_pos h59] at h ⊢
        exact ih _ _ _ (by omega) hg h
      · rw [if_neg h59]; exact hg
theorem kFF_gd {cs : List kC} (hO2 : ∀ c ∈ cs, tGd (kFs c)) (d : kC) : tGd (kFF cs d) := by
  unfold kFF
  split
  · exact tGd_nil
  · split
    · rename_i c hc; exact hO2 c (List.mem_of_getElem? hc)
    · exact tGd_nil
theorem kFF_16 {cs : List kC} (hO : kOk cs) (d : kC) : (kFF cs d).length ≤ 16 := by
  unfold kFF
  split
  · decide
  · split
    · rename_i c hc; exact (hO _ c hc).1.2.2.2.2.2.2
    · decide
def dIs (cs : List kC) (d : kC) : Prop := (kPs d).length ≤ 3 ∧ (∀ p ∈ kPs d, 0 ≤ p ∧ p < (cs.length : Int)) ∧ (kMs d).length ≤ 24 ∧ (∀ b ∈ kMs d, 0 ≤ b ∧ b < 128) ∧ (kFs d).length ≤ 16 ∧ tGd (kFs d)
theorem dIs_wf {cs : List kC} {ps ms : List Int} {fs : List gF} {wh hr w2 h2 : Int} (h : dIs cs (ps, fs, ms, w2, h2)) (hw : 0 ≤ wh ∧ wh ≤ 9) (hh : 0 ≤ hr ∧ hr ≤ 999) : kWf (cs.length : Int) (ps, fs, ms, wh, hr) := ⟨h.1, h.2.1, h.2.2.1, h.2.2.2.1, hw, hh, h.2.2.2.2.1⟩
theorem kGd_add {cs : List kC} {d : kC} (h : kGd cs) (hw : kWf (cs.length : Int) d) (hg : tGd (kFs d)) : kGd (kSet cs d).2 := by
  unfold kSet
  split
  · exact h
  · split
    · exact h
    · refine ⟨fun k c hk => ?_, fun c hc => ?_⟩
      · by_cases hl : k < cs.length
        · rw [List.getElem?_append_left hl] at hk; exact h.1 k c hk
        · have := (List.getElem?_eq_some_iff.mp hk).1
          simp at this
          have e : k = cs.length := by omega
          subst e
          rw [List.getElem?_append_right (Nat.le_refl _), Nat.sub_self] at hk
          cases hk
          exact ⟨hw, hg.2.2, hg.1⟩
      · rcases List.mem_append.mp hc with z | z
        · exact h.2 c z
        · rw [List.mem_singleton.mp z]; exact hg
def pT2d (cs : List kC) (y : pE) : pE := if y.2.2.1.tail ≠ [] ∧ hd y.2.2.1.tail ≠ 58 then pEdits cs 160 y.2.2.1.tail (y.2.1 + 1) (dFs y.2.2.2 (kFF cs y.2.2.2)) else (0, y.2.1 + 1, y.2.2.1.tail, dFs y.2.2.2 (kFF cs y.2.2.2))
theorem pT2_ok {cs : List kC} {y : pE} (h : y.1 = 0) (h58 : hd y.2.2.1 = 58) : pT2 cs y = pT2d cs y := by unfold pT2; rw [if_pos h, if_pos h58]; rfl
theorem pT1_is {cs : List kC} {s : List Int} : (kPs (pT1 cs s).2.2.2).length ≤ 3 ∧ kFs (pT1 cs s).2.2.2 = [] ∧ kMs (pT1 cs s).2.2.2 = [] ∧ ((pT1 cs s).1 = 0 → ∀ p ∈ kPs (pT1 cs s).2.2.2, 0 ≤ p ∧ p < (cs.length : Int)) := by
  unfold pT1
  split
  · exact ⟨Nat.zero_le _, rfl, rfl, fun _ p hp => by cases hp⟩
  · have h1 := pParGo_fs (cs.length : Int) 3 s 0 pT0
    exact ⟨pParGo_len _ 3 s 0 pT0 (by decide), h1.1, h1.2, fun h => pParGo_ok _ 3 s 0 pT0 (by decide) (fun q hq => by cases hq) h⟩
theorem pT2d_is {cs : List kC} (hG : kGd cs) {y : pE} (hy : 0 ≤ y.2.1) : kPs (pT2d cs y).2.2.2 = kPs y.2.2.2 ∧ kMs (pT2d cs y).2.2.2 = kMs y.2.2.2 ∧ (kFs (pT2d cs y).2.2.2).length ≤ 16 ∧ ((pT2d cs y).1 = 0 → tGd (kFs (pT2d cs y).2.2.2)) := by
  have h16 := kFF_16 hG.1 y.2.2.2
  have hgd := kFF_gd hG.2 y.2.2.2
  unfold pT2d
  split
  · have h1 := pEdits_inv cs 160 y.2.2.1.tail (y.2.1 + 1) (dFs y.2.2.2 (kFF cs y.2.2.2)) ⟨h16, hgd.1⟩
    exact ⟨h1.2.1, h1.2.2, h1.1.1, fun h => pEdits_gd hG.2 160 _ _ _ (by omega) hgd h⟩
  · exact ⟨rfl, rfl, h16, fun _ => hgd⟩
/-- what `commit` answers, the tape then, COMMITS then -/
def aCommit (cs : List kC) (s : List Int) (n who hour : Int) : Int × List Int × List kC :=
  if 1 ≤ n ∧ n ≤ 160 ∧ n ≤ (s.length : Int) ∧ (0 ≤ who ∧ who ≤ 9) ∧ 0 ≤ hour ∧ hour ≤ 999 then
    if (pText cs (s.take n.toNat)).1 = 0 then
      ((kSet cs (kPs (pText cs (s.take n.toNat)).2.2.2, kFs (pText cs (s.take n.toNat)).2.2.2, kMs (pText cs (s.take n.toNat)).2.2.2, who, hour)).1, [], (kSet cs (kPs (pText cs (s.take n.toNat)).2.2.2, kFs (pText cs (s.take n.toNat)).2.2.2, kMs (pText cs (s.take n.toNat)).2.2.2, who, hour)).2)
    else ((pText cs (s.take n.toNat)).1, [], cs)
  else (-1, s, cs)
theorem pParGo_pl (n : Int) : ∀ (k : Nat) (s : List Int) (p : Int) (d : kC), p ≤ (pParGo n k s p d).2.1
  | 0, s, p, d => by
    have := pDigits_pl 3 0 s p
    rw [pParGo]; split
    · exact this
    · exact Int.le_refl _
  | k + 1, s, p, d => by
    have h1 := pDigits_pl 3 0 s p
    rw [pParGo]
    split
    · exact h1
    · split
      · exact h1
      · split
        · exact h1
        · split
          · have := pParGo_pl n k (pDigits 3 0 s p).2.2.2.tail ((pDigits 3 0 s p).2.2.1 + 1) (dAddP d (pDigits 3 0 s p).2.1); omega
          · exact h1
theorem pT1_pl (cs : List kC) (s : List Int) : 0 ≤ (pT1 cs s).2.1 := by
  unfold pT1
  split
  · exact Int.le_refl _
  · exact pParGo_pl _ 3 s 0 pT0
theorem pText_is {cs : List kC} (hG : kGd cs) {s : List Int} (h : (pText cs s).1 = 0) : dIs cs (pText cs s).2.2.2 := by
  obtain ⟨a1, a2, a3, a4⟩ := pT1_is (cs := cs) (s := s)
  have hpl := pT1_pl cs s
  unfold pText at h ⊢
  generalize hy : pT1 cs s = y at *
  have hy0 : y.1 = 0 := by
    rcases Classical.em (y.1 = 0) with z | z
    · exact z
    · exfalso
      have e2 : pT2 cs y = y := by unfold pT2; rw [if_neg z]
      rw [e2] at h
      unfold pT3 at h
      rw [if_neg (fun w => z w.1)] at h
      exact z h
  have h58 : hd y.2.2.1 = 58 := by
    rcases Classical.em (hd y.2.2.1 = 58) with z | z
    · exact z
    · exfalso
      have e2 : pT2 cs y = (-1000 - y.2.1, y.2.1, y.2.2.1, y.2.2.2) := by unfold pT2; rw [if_pos hy0, if_neg z]
      rw [e2] at h
      unfold pT3 at h
      have hne : (-1000 - y.2.1 : Int) ≠ 0 := by omega
      rw [if_neg (fun w => hne w.1)] at h
      exact hne h
  rw [pT2_ok hy0 h58] at h ⊢
  obtain ⟨b1, b2, b3, b4⟩ := pT2d_is hG hpl
  generalize hz : pT2d cs y = z at *
  have hz0 : z.1 = 0 := by
    rcases Classical.em (z.1 = 0) with w | w
    · exact w
    · exfalso
      unfold pT3 at h
      rw [if_neg (fun q => w q.1)] at h
      exact w h
  have hfin : kPs (pT3 z).2.2.2 = kPs z.2.2.2 ∧ kFs (pT3 z).2.2.2 = kFs z.2.2.2 ∧ (kMs (pT3 z).2.2.2).length ≤ 24 ∧ ∀ b ∈ kMs (pT3 z).2.2.2, 0 ≤ b ∧ b < 128 := by
    have hm : kMs z.2.2.2 = [] := b2.trans a3
    unfold pT3
    split
    · split
      · have h1 := pMsgGo_keep 12 z.2.2.1.tail (z.2.1 + 1) z.2.2.2
        have h2 := pMsgGo_ms 12 z.2.2.1.tail (z.2.1 + 1) z.2.2.2 (by rw [hm]; decide) (by rw [hm]; intro b hb; cases hb)
        exact ⟨h1.1, h1.2, h2.1, h2.2⟩
      · exact ⟨rfl, rfl, by show (kMs z.2.2.2).length ≤ 24; rw [hm]; decide, by show ∀ b ∈ kMs z.2.2.2, _; rw [hm]; intro b hb; cases hb⟩
    · exact ⟨rfl, rfl, by rw [hm]; decide, by rw [hm]; intro b hb; cases hb⟩
  refine ⟨by rw [hfin.1, b1]; exact a1, by rw [hfin.1, b1]; exact a4 hy0, hfin.2.2.1, hfin.2.2.2, by rw [hfin.2.1]; exact b3, by rw [hfin.2.1]; exact b4 hz0⟩
theorem aCommit_gd {cs : List kC} (hG : kGd cs) (s : List Int) (n who hour : Int) : kGd (aCommit cs s n who hour).2.2 := by
  unfold aCommit
  split
  · rename_i hc
    split
    · rename_i h0
      have hd := pText_is hG h0
      exact kGd_add hG ⟨hd.1, hd.2.1, hd.2.2.1, hd.2.2.2.1, hc.2.2.2.1, hc.2.2.2.2, hd.2.2.2.2.1⟩ hd.2.2.2.2.2
    · exact hG
  · exact hG
theorem uR_by {M M1 : gM} {s : List Int} {n : Nat} (h : uBy M s) (hn : n ≤ s.length) (h1 : M1 711 19 = 0) (h2 : M1 711 20 = (n : Int)) (h3 : M1 726 = M 726) : uR M1 0 (s.take n) := by
  have hl : (s.take n).length = n := by rw [List.length_take]; omega
  refine ⟨h1, Int.le_refl _, by rw [h2, hl]; omega, by rw [hl]; have := h.2.1; omega, fun j c hj => ?_⟩
  have hjn := (List.getElem?_eq_some_iff.mp hj).1
  rw [hl] at hjn
  rw [List.getElem?_take, if_pos hjn] at hj
  have := h.2.2 j c hj
  rw [Int.zero_add, h3]
  exact this
theorem uBy_nil {M : gM} (h : M 711 18 = 0) : uBy M [] := ⟨h, by decide, fun j c hj => by simp at hj⟩
theorem s_commit {M : gM} {cs : List kC} {s : List Int} {n who hour : Int} (h : uC M cs) (hB : uBy M s) (hG : kGd cs) : ∃ M1, F_commit M n who hour = some ((aCommit cs s n who hour).1, M1) ∧ uC M1 (aCommit cs s n who hour).2.2 ∧ uBy M1 (aCommit cs s n who hour).2.1 := by
  have hl9 := h.2.1
  rw [eq_commit, gI_bb s_in]
  unfold aCommit
  have no : ¬ (1 ≤ n ∧ n ≤ 160 ∧ n ≤ (s.length : Int) ∧ (0 ≤ who ∧ who ≤ 9) ∧ 0 ≤ hour ∧ hour ≤ 999) → ∃ M1, some ((-1 : Int), M) = some ((if 1 ≤ n ∧ n ≤ 160 ∧ n ≤ (s.length : Int) ∧ (0 ≤ who ∧ who ≤ 9) ∧ 0 ≤ hour ∧ hour ≤ 999 then
    if (pText cs (s.take n.toNat)).1 = 0 then
      ((kSet cs (kPs (pText cs (s.take n.toNat)).2.2.2, kFs (pText cs (s.take n.toNat)).2.2.2, kMs (pText cs (s.take n.toNat)).2.2.2, who, hour)).1, ([] : List Int), (kSet cs (kPs (pText cs (s.take n.toNat)).2.2.2, kFs (pText cs (s.take n.toNat)).2.2.2, kMs (pText cs (s.take n.toNat)).2.2.2, who, hour)).2)
    else ((pText cs (s.take n.toNat)).1, [], cs)
  else (-1, s, cs)).1, M1) ∧ uC M1 (if 1 ≤ n ∧ n ≤ 160 ∧ n ≤ (s.length : Int) ∧ (0 ≤ who ∧ who ≤ 9) ∧ 0 ≤ hour ∧ hour ≤ 999 then
    if (pText cs (s.take n.toNat)).1 = 0 then
      ((kSet cs (kPs (pText cs (s.take n.toNat)).2.2.2, kFs (pText cs (s.take n.toNat)).2.2.2, kMs (pText cs (s.take n.toNat)).2.2.2, who, hour)).1, ([] : List Int), (kSet cs (kPs (pText cs (s.take n.toNat)).2.2.2, kFs (pText cs (s.take n.toNat)).2.2.2, kMs (pText cs (s.take n.toNat)).2.2.2, who, hour)).2)
    else ((pText cs (s.take n.toNat)).1, [], cs)
  else (-1, s, cs)).2.2 ∧ uBy M1 (if 1 ≤ n ∧ n ≤ 160 ∧ n ≤ (s.length : Int) ∧ (0 ≤ who ∧ who ≤ 9) ∧ 0 ≤ hour ∧ hour ≤ 999 then
    if (pText cs (s.take n.toNat)).1 = 0 then
      ((kSet cs (kPs (pText cs (s.take n.toNat)).2.2.2, kFs (pText cs (s.take n.toNat)).2.2.2, kMs (pText cs (s.take n.toNat)).2.2.2, who, hour)).1, ([] : List Int), (kSet cs (kPs (pText cs (s.take n.toNat)).2.2.2, kFs (pText cs (s.take n.toNat)).2.2.2, kMs (pText cs (s.take n.toNat)).2.2.2, who, hour)).2)
    else ((pText cs (s.take n.toNat)).1, [], cs)
  else (-1, s, cs)).2.1 := fun q => by rw [if_neg q]; exact ⟨M, rfl, h, hB⟩
  by_cases q1 : 1 ≤ n ∧ n ≤ 160
  · rw [decide_eq_true q1, if_neg (by decide), gI_bb s_in]
    by_cases q2 : 0 ≤ who ∧ who ≤ 9
    · rw [decide_eq_true q2, if_neg (by decide), gI_bb s_in]
      by_cases q3 : 0 ≤ hour ∧ hour ≤ 999
      · rw [decide_eq_true q3, if_neg (by decide), hB.1]
        by_cases q4 : (s.length : Int) < n
        · rw [if_pos q4]; exact no (fun w => by omega)
        · have qa : 1 ≤ n ∧ n ≤ 160 ∧ n ≤ (s.length : Int) ∧ (0 ≤ who ∧ who ≤ 9) ∧ 0 ≤ hour ∧ hour ≤ 999 := ⟨q1.1, q1.2, by omega, q2, q3⟩
          clear no
          rw [if_neg q4, if_pos qa]
          obtain ⟨m, rfl⟩ : ∃ m : Nat, n = (m : Int) := ⟨n.toNat, by omega⟩
          rw [Int.toNat_natCast]
          generalize hs : s.take m = t
          have hlt : t.length = m := by rw [← hs, List.length_take]; omega
          rw [eq_beginsText, gI_bb rfl]
          generalize hM1 : gU (gU (gU (gU M 711 19 0) 711 20 (m : Int)) 711 12 0) 711 13 0 = M1
          have f1 : gFr [] [12, 13, 19, 20] M M1 := by
            rw [← hM1]
            exact gFr_f (gFr_f (gFr_f (gFr_f (gFr_r _ _ _) (.tail _ (.tail _ (.head _)))) (.tail _ (.tail _ (.tail _ (.head _))))) (.head _)) (.tail _ (.head _))
          have hC1 : uC M1 cs := uC_fr h f1 (fun b _ _ => List.not_mem_nil) (by decide)
          have hR1 : uR M1 0 t := by
            rw [← hs]
            exact uR_by hB (by omega) (by rw [← hM1, gU_idx (by decide), gU_idx (by decide), gU_idx (by decide), gU_same]) (by rw [← hM1, gU_idx (by decide), gU_idx (by decide), gU_same]) (f1.1 726 (by simp) (by decide))
          have hP1 : uP M1 cs [] 0 t := ⟨hC1, ⟨by rw [← hM1, gU_idx (by decide), gU_same]; rfl, by decide, rw_nil⟩, hR1⟩
          have h13 : M1 711 13 = 0 := by rw [← hM1, gU_same]
          obtain ⟨r2, M2, e2, o2⟩ := s_readsParents hP1
          have f2 := fr_readsParents e2
          obtain ⟨a1, a2, a3, a4⟩ := pT1_is (cs := cs) (s := t)
          have hpl := pT1_pl cs t
          rw [gI_bb e2]
          have bad : ∀ (v : Int) (Mx : gM), uC Mx cs → (pText cs t).1 ≠ 0 → Mx 711 21 = (pText cs t).1 → ∃ M9, F_commit_91 Mx (m : Int) who hour = some ((if (pText cs t).1 = 0 then
              ((kSet cs (kPs (pText cs t).2.2.2, kFs (pText cs t).2.2.2, kMs (pText cs t).2.2.2, who, hour)).1, ([] : List Int), (kSet cs (kPs (pText cs t).2.2.2, kFs (pText cs t).2.2.2, kMs (pText cs t).2.2.2, who, hour)).2)
              else ((pText cs t).1, [], cs)).1, M9) ∧ uC M9 (if (pText cs t).1 = 0 then
              ((kSet cs (kPs (pText cs t).2.2.2, kFs (pText cs t).2.2.2, kMs (pText cs t).2.2.2, who, hour)).1, ([] : List Int), (kSet cs (kPs (pText cs t).2.2.2, kFs (pText cs t).2.2.2, kMs (pText cs t).2.2.2, who, hour)).2)
              else ((pText cs t).1, [], cs)).2.2 ∧ uBy M9 (if (pText cs t).1 = 0 then
              ((kSet cs (kPs (pText cs t).2.2.2, kFs (pText cs t).2.2.2, kMs (pText cs t).2.2.2, who, hour)).1, ([] : List Int), (kSet cs (kPs (pText cs t).2.2.2, kFs (pText cs t).2.2.2, kMs (pText cs t).2.2.2, who, hour)).2)
              else ((pText cs t).1, [], cs)).2.1 := by
            intro v Mx hCx hne hv
            rw [if_neg hne, eq_commit_91, gU_idx (by decide), hv]
            exact ⟨_, rfl, uC_fr (A := []) (F := [18]) hCx (gFr_f (gFr_r _ _ _) (.head _)) (fun b _ _ => List.not_mem_nil) (by decide), uBy_nil (gU_same _ _ _ _)⟩
          have ept : pText cs t = pT3 (pT2 cs (pT1 cs t)) := rfl
          generalize hT : pText cs t = T at *
          generalize hy : pT1 cs t = y at *
          by_cases hy0 : y.1 = 0
          · obtain ⟨rfl, hP2⟩ := o2.1 hy0
            simp only []
            rw [if_neg (by decide)]
            obtain ⟨r3, M3, e3, o3, o4⟩ := s_takesSign (c := 58) hP2.2.2 (by decide)
            have f3 := fr_takesSign e3
            rw [gI_bb e3]
            by_cases h58 : hd y.2.2.1 = 58
            · obtain ⟨rfl, hR3, -⟩ := o3 h58
              have hP3 : uP M3 cs (kPs y.2.2.2) (y.2.1 + 1) y.2.2.1.tail := ⟨uC_fr hP2.1 f3 (fun b _ _ => List.not_mem_nil) (by decide), ⟨(f3.2 12 (by simp)).trans hP2.2.1.1, hP2.2.1.2.1, by rw [show M3 721 = M2 721 from f3.1 721 (by simp) (by decide)]; exact hP2.2.1.2.2⟩, hR3⟩
              have hlen : y.2.2.1.tail.length < 160 := by
                have q20 : M3 711 20 = (m : Int) := by
                  rw [show M3 711 20 = M2 711 20 from f3.2 20 (by decide), show M2 711 20 = M1 711 20 from f2.2 20 (by decide), hR1.2.2.1, hlt]; omega
                have := hR3.2.2.1
                omega
              obtain ⟨r4, M4, z, e4, ez, o5, o6⟩ := s_readsEdits (d := y.2.2.2) hP3 hG.1 hG.2 (a4 hy0) hlen
              have f4 := fr_readsEdits e4
              have ez2 : z = pT2d cs y := ez
              rw [pT2_ok hy0 h58, ← ez2] at ept
              obtain ⟨b1, b2, b3, b4⟩ := pT2d_is hG (y := y) hpl
              rw [← ez2] at b1 b2 b3 b4
              simp only []
              rw [if_neg (by decide), gI_bb e4]
              by_cases hz0 : z.1 = 0
              · obtain ⟨rfl, hE4⟩ := o5.1 hz0
                simp only []
                rw [if_neg (by decide)]
                have h13' : M4 711 13 = 0 := by
                  rw [show M4 711 13 = M3 711 13 from f4.2 13 (by decide), show M3 711 13 = M2 711 13 from f3.2 13 (by decide), show M2 711 13 = M1 711 13 from f2.2 13 (by decide), h13]
                have hzm : kMs z.2.2.2 = [] := b2.trans a3
                obtain ⟨r5, M5, e5, o7, o8⟩ := s_readsSaid hE4.2.2.2 h13' hzm
                have f5 := fr_readsSaid e5
                have eta : ((0 : Int), z.2.1, z.2.2.1, z.2.2.2) = z := by rw [← hz0]
                rw [eta, ← ept] at o7 o8
                rw [gI_bb e5]
                have hC5 : uC M5 cs := uC_fr hE4.1 f5 (fun b b0 b1 w => by simp at w; omega) (by decide)
                by_cases hT0 : T.1 = 0
                · obtain ⟨rfl, m1, m2, m3, m4⟩ := o7 hT0
                  simp only []
                  rw [if_neg (by decide), if_pos hT0]
                  have hkeep : kPs T.2.2.2 = kPs z.2.2.2 ∧ kFs T.2.2.2 = kFs z.2.2.2 := by
                    rw [ept]
                    unfold pT3
                    split
                    · split
                      · exact pMsgGo_keep _ _ _ _
                      · exact ⟨rfl, rfl⟩
                    · exact ⟨rfl, rfl⟩
                  have f6 : gFr [] [18] M5 (gU M5 711 18 0) := gFr_f (gFr_r _ _ _) (.head _)
                  have hC6 : uC (gU M5 711 18 0) cs := uC_fr hC5 f6 (fun b _ _ => List.not_mem_nil) (by decide)
                  have hT5 : uT M5 120 (kFs z.2.2.2) := uT_of hE4.2.2.1 (by rw [show M5 718 = M4 718 from f5.1 718 (by decide) (by decide)]) (fun q _ _ => by unfold uG; rw [show M5 719 = M4 719 from f5.1 719 (by decide) (by decide), show M5 720 = M4 720 from f5.1 720 (by decide) (by decide)])
                  have hT6 : uT (gU M5 711 18 0) 120 (kFs T.2.2.2) := by
                    rw [hkeep.2]
                    exact uT_of hT5 (gU_cel (by decide)) (fun q _ _ => by unfold uG; rw [gU_cel (by decide), gU_cel (by decide)])
                  have hN6 : uN (gU M5 711 18 0) (kPs T.2.2.2) (kMs T.2.2.2) := by
                    rw [hkeep.1]
                    refine ⟨?_, hE4.2.1.2.1, ?_, ?_, by omega, ?_⟩
                    · rw [gU_idx (by decide), show M5 711 12 = M4 711 12 from f5.2 12 (by decide)]; exact hE4.2.1.1
                    · rw [gU_cell _ _ _ (by decide), show M5 721 = M4 721 from f5.1 721 (by decide) (by decide)]; exact hE4.2.1.2.2
                    · rw [gU_idx (by decide)]; exact m1
                    · rw [gU_cell _ _ _ (by decide)]; exact m2
                  obtain ⟨M7, e7, hC7, hP7⟩ := s_comes (wh := who) (hr := hour) hC6 hG.1 (by decide) hT6 hN6 (fun _ => by rw [hkeep.2]; exact b3)
                  rw [gI_bb e7]
                  refine ⟨M7, rfl, hC7, uBy_nil ?_⟩
                  rw [hP7.2.2 18 (by decide), gU_same]
                · obtain ⟨rfl, v5⟩ := o8 hT0
                  simp only [if_true]
                  exact bad 0 M5 hC5 hT0 v5
              · obtain ⟨rfl, v4, hC4⟩ := o5.2 hz0
                simp only [if_true]
                have hTz : T = z := by rw [ept]; unfold pT3; rw [if_neg (fun w => hz0 w.1)]
                exact bad 0 M4 hC4 (by rw [hTz]; exact hz0) (by rw [hTz]; exact v4)
            · obtain ⟨rfl, v3⟩ := o4 h58
              simp only [if_true]
              have e2' : pT2 cs y = (-1000 - y.2.1, y.2.1, y.2.2.1, y.2.2.2) := by unfold pT2; rw [if_pos hy0, if_neg h58]
              have hne : (-1000 - y.2.1 : Int) ≠ 0 := by omega
              have hTz : T = (-1000 - y.2.1, y.2.1, y.2.2.1, y.2.2.2) := by rw [ept, e2']; unfold pT3; rw [if_neg (fun w => hne w.1)]
              exact bad 0 M3 (uC_fr hP2.1 f3 (fun b _ _ => List.not_mem_nil) (by decide)) (by rw [hTz]; exact hne) (by rw [hTz]; exact v3)
          · obtain ⟨rfl, v2⟩ := o2.2 hy0
            simp only [if_true]
            have e2' : pT2 cs y = y := by unfold pT2; rw [if_neg hy0]
            have hTz : T = y := by rw [ept, e2']; unfold pT3; rw [if_neg (fun w => hy0 w.1)]
            have hC2 : uC M2 cs := uC_fr hC1 f2 (fun b b0 b1 w => by simp at w; omega) (by decide)
            exact bad 0 M2 hC2 (by rw [hTz]; exact hy0) (by rw [hTz]; exact v2)
      · rw [decide_eq_false q3, if_pos (by decide)]; exact no (fun w => q3 w.2.2.2.2)
    · rw [decide_eq_false q2, if_pos (by decide)]; exact no (fun w => q2 w.2.2.2.1)
  · rw [decide_eq_false q1, if_pos (by decide)]; exact no (fun w => q1 ⟨w.1, w.2.1⟩)
