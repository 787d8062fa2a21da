-- ==== the reference: the text of a COMMIT
theorem pPathGo_pl : ∀ (k : Nat) (w v : Int) (s : List Int) (p : Int), p ≤ (pPathGo k w v s p).2.2.1
  | k, w, v, [], p => by cases k <;> exact Int.le_refl _
  | 0, w, v, c :: r, p => by rw [pPathGo]; split <;> exact Int.le_refl _
  | k + 1, w, v, c :: r, p => by
    rw [pPathGo]
    split
    · split
      · have := pPathGo_pl k (w / 32) (v + (c - 96) * w) r.tail (p + 2); omega
      · show p ≤ p + 1; omega
    · exact Int.le_refl _
theorem pEd3_pl (sg : Int) (y : pR) : y.2.2.1 ≤ (pEd3 sg y).2.2.1 := by
  unfold pEd3
  split
  · split
    · have := pDigits_pl 6 1 y.2.2.2.tail (y.2.2.1 + 1); omega
    · exact Int.le_refl _
  · split
    · split
      · have := pPathGo_pl 4 33554432 0 y.2.2.2.tail (y.2.2.1 + 1); show _ ≤ (pPathGo 4 33554432 0 y.2.2.2.tail (y.2.2.1 + 1)).2.2.1; omega
      · exact Int.le_refl _
    · exact Int.le_refl _
theorem pEditEnd_pl {cs : List kC} {sg v5 v6 p : Int} {d : kC} {y : pR} : (pEditEnd cs sg v5 v6 p d y).2.1 = y.2.2.1 := by unfold pEditEnd; split <;> rfl
theorem pEdit_pl (cs : List kC) (s : List Int) (p : Int) (d : kC) : p ≤ (pEdit cs s p d).2.1 := by
  by_cases h : hd s = 43 ∨ hd s = 45 ∨ hd s = 42 ∨ hd s = 94
  · have hpp : ∀ sg : Int, p ≤ (pEd3 sg (pPath 4 s.tail (p + 1))).2.2.1 := fun sg => by
      have h1 := pEd3_pl sg (pPath 4 s.tail (p + 1))
      have h2 : p + 1 ≤ (pPath 4 s.tail (p + 1)).2.2.1 := pPathGo_pl 4 33554432 0 s.tail (p + 1)
      omega
    rcases h with e | e | e | e
    · rw [pEdit_43 e, pEditEnd_pl]; exact hpp 43
    · rw [pEdit_45 e, pEditEnd_pl]; exact hpp 45
    · rw [pEdit_42 e, pEditEnd_pl]; exact hpp 42
    · rw [pEdit_94 e, pEditEnd_pl]
      refine Int.le_trans ?_ (pEd3_pl 94 _)
      have h1 : p + 1 ≤ (pDigit 0 ((kPs d).length - 1) s.tail (p + 1)).2.2.1 := by
        rcases pDigit_cases (lo := 0) (hi := (kPs d).length - 1) (p := p + 1) (s := s.tail) with ⟨c, r, -, -, -, -, -, ep⟩ | ⟨-, -, -, ep⟩ | ⟨-, ep⟩ <;> rw [ep]
        · show p + 1 ≤ p + 1 + 1; omega
        · exact Int.le_refl _
        · exact Int.le_refl _
      unfold pEd2
      split
      · have := pPathGo_pl 4 33554432 0 (pDigit 0 ((kPs d).length - 1) s.tail (p + 1)).2.2.2 (pDigit 0 ((kPs d).length - 1) s.tail (p + 1)).2.2.1
        show p ≤ (pPathGo 4 33554432 0 _ _).2.2.1
        omega
      · show p ≤ (pDigit 0 ((kPs d).length - 1) s.tail (p + 1)).2.2.1; omega
  · unfold pEdit; rw [if_neg h]; exact Int.le_refl _
theorem pDigits_rng {k : Nat} {v p : Int} {s : List Int} (hp : 0 ≤ p) (hv : 0 ≤ v) (h : (pDigits k v s p).1 = 0) : v ≤ (pDigits k v s p).2.1 ∧ (pDigits k v s p).2.1 < (v + 1) * (10 ^ k : Nat) := by
  unfold pDigits at h ⊢
  by_cases hdg : 48 ≤ hd s ∧ hd s ≤ 57
  · rw [if_pos hdg] at h ⊢
    exact pDigGo_rng k v s p hp hv h
  · rw [if_neg hdg] at h
    have h : -1000 - p = 0 := h
    omega
/-- an EDIT leaves a TREE as it can be -/
theorem pEdit_gd {cs : List kC} {s : List Int} {p : Int} {d : kC} (hp : 0 ≤ p) (hG : tGd (kFs d)) (hO2 : ∀ c ∈ cs, tGd (kFs c)) (h : (pEdit cs s p d).1 = 0) : tGd (kFs (pEdit cs s p d).2.2.2) := by
  by_cases hs : hd s = 43 ∨ hd s = 45 ∨ hd s = 42 ∨ hd s = 94
  · have key : ∀ (sg v5 : Int) (y : pR), pEdit cs s p d = pEditEnd cs sg v5 y.2.1 p d (pEd3 sg y) → (pEd3 sg y).1 = 0 ∧ pEdit cs s p d = (if (pEditDo cs sg v5 y.2.1 (pEd3 sg y).2.1 d).1 = 0 then 0 else -1000 * (pEditDo cs sg v5 y.2.1 (pEd3 sg y).2.1 d).1 - p, (pEd3 sg y).2.2.1, (pEd3 sg y).2.2.2, dFs d (pEditDo cs sg v5 y.2.1 (pEd3 sg y).2.1 d).2) := fun sg v5 y e => by
      have h0 : (pEd3 sg y).1 = 0 := by
        rcases Classical.em ((pEd3 sg y).1 = 0) with z | z
        · exact z
        · rw [e, pEditEnd_bad z] at h; exact h
      exact ⟨h0, by rw [e, pEditEnd_ok h0]⟩
    have hP1 : 0 ≤ p + 1 := by omega
    rcases hs with e | e | e | e
    · obtain ⟨h0, e2⟩ := key 43 0 _ (pEdit_43 e)
      rw [e2]
      show tGd (pEditDo cs 43 0 _ _ d).2
      generalize hy : pPath 4 s.tail (p + 1) = y at *
      have hy0 : y.1 = 0 := by
        rcases Classical.em (y.1 = 0) with z | z
        · exact z
        · unfold pEd3 at h0; rw [if_neg (fun w => z w.2), if_neg (fun w => z w.2)] at h0; exact absurd h0 z
      have hW := (pPath_W (most := 4) (s := s.tail) (p := p + 1) (by decide) hP1 (by rw [hy]; exact hy0)).1
      rw [hy] at hW
      have hpl : p + 1 ≤ y.2.2.1 := by rw [← hy]; exact pPathGo_pl 4 33554432 0 s.tail (p + 1)
      unfold pEditDo
      rw [if_pos rfl]
      unfold pEd3 at h0 ⊢
      rw [if_pos ⟨rfl, hy0⟩] at h0 ⊢
      by_cases h61 : hd y.2.2.2 = 61
      · rw [if_pos h61] at h0 ⊢
        exact dPutF_gd hG hW (pDig_ten (show 0 ≤ y.2.2.1 + 1 by omega) h0)
      · rw [if_neg h61] at h0
        have h0 : -1000 - y.2.2.1 = 0 := h0
        omega
    · obtain ⟨h0, e2⟩ := key 45 0 _ (pEdit_45 e)
      rw [e2]
      show tGd (pEditDo cs 45 0 _ _ d).2
      rw [pEditDo_45]
      split
      · exact hG
      · exact tGd_fil hG _
    · obtain ⟨h0, e2⟩ := key 42 0 _ (pEdit_42 e)
      rw [e2]
      show tGd (pEditDo cs 42 0 _ _ d).2
      generalize hy : pPath 4 s.tail (p + 1) = y at *
      have hy0 : y.1 = 0 := by
        rcases Classical.em (y.1 = 0) with z | z
        · exact z
        · unfold pEd3 at h0; rw [if_neg (fun w => z w.2), if_neg (fun w => z w.2)] at h0; exact absurd h0 z
      have hW := (pPath_W (most := 4) (s := s.tail) (p := p + 1) (by decide) hP1 (by rw [hy]; exact hy0)).1
      rw [hy] at hW
      have hpl : p + 1 ≤ y.2.2.1 := by rw [← hy]; exact pPathGo_pl 4 33554432 0 s.tail (p + 1)
      rw [pEditDo_42]
      split
      · exact hG
      · unfold pEd3 at h0 ⊢
        rw [if_neg (fun w => absurd w.1 (by decide)), if_pos ⟨rfl, hy0⟩] at h0 ⊢
        by_cases h62 : hd y.2.2.2 = 62
        · rw [if_pos h62] at h0 ⊢
          exact dMov_gd hG hW (pPath_W (by decide) (by omega) h0).1
        · rw [if_neg h62] at h0
          have h0 : -1000 - y.2.2.1 = 0 := h0
          omega
    · have e3 := pEdit_94 (cs := cs) (p := p) (d := d) e
      generalize hz : pDigit 0 ((kPs d).length - 1) s.tail (p + 1) = z at *
      obtain ⟨h0, e2⟩ := key 94 z.2.1 (pEd2 z) e3
      rw [e2]
      show tGd (pEditDo cs 94 z.2.1 _ _ d).2
      have hy0 : (pEd2 z).1 = 0 := by
        unfold pEd3 at h0
        rw [if_neg (fun w => absurd w.1 (by decide)), if_neg (fun w => absurd w.1 (by decide))] at h0
        exact h0
      have hz0 : z.1 = 0 := by
        rcases Classical.em (z.1 = 0) with w | w
        · exact w
        · unfold pEd2 at hy0; rw [if_neg w] at hy0; exact absurd hy0 w
      have hzp : p + 1 ≤ z.2.2.1 := by
        rw [← hz]
        rcases pDigit_cases (lo := 0) (hi := (kPs d).length - 1) (p := p + 1) (s := s.tail) with ⟨c, r, -, -, -, -, -, ep⟩ | ⟨-, -, -, ep⟩ | ⟨-, ep⟩ <;> rw [ep]
        · show p + 1 ≤ p + 1 + 1; omega
        · exact Int.le_refl _
        · exact Int.le_refl _
      have eE : pEd2 z = pPath 4 z.2.2.2 z.2.2.1 := by unfold pEd2; rw [if_pos hz0]
      rw [eE] at hy0 ⊢
      have hW := (pPath_W (most := 4) (by decide) (by omega) hy0).1
      unfold pEditDo
      rw [if_neg (by decide), if_pos rfl]
      split
      · split
        · rename_i c hc
          exact dFetch_gd hG (hO2 c (List.mem_of_getElem? hc)) hW
        · exact hG
      · exact hG
  · unfold pEdit at h
    rw [if_neg hs] at h
    have h : -1000 - p = 0 := h
    omega
theorem s_readsEdit {M : gM} {cs : List kC} {d : kC} {p : Int} {s : List Int} (h : uE M cs (kPs d) (kFs d) p s) (hO : kOk cs) (hO2 : ∀ c ∈ cs, tGd (kFs c)) (hps : ∀ x ∈ kPs d, 0 ≤ x ∧ x < (cs.length : Int)) (hG : tGd (kFs d)) (h16 : (kFs d).length ≤ 16) :
    ∃ r M1, F_readsEdit M = some (r, M1) ∧ uEO M1 cs r (pEdit cs s p d) := by
  have hR := h.2.2.2
  have hl := uR_len hR
  have hp : 0 ≤ p ∧ p ≤ 260 := by omega
  rw [eq_readsEdit, gI_bb (s_here hR), hR.1]
  have adv : ∀ c : Int, 0 ≤ c → hd s = c → uE (gU M 711 19 (gw32 (M 711 19 + 1))) cs (kPs d) (kFs d) (p + 1) s.tail ∧ p + 1 ≤ 260 := by
    intro c c0 hc
    cases s with
    | nil => rw [← hc] at c0; exact absurd c0 (by decide)
    | cons x r =>
      simp only [List.length_cons] at hl
      rw [hR.1, gw32_id (by omega) (by omega)]
      exact ⟨uE_fr (A := []) (F := [19]) h (gFr_f (gFr_r _ _ _) (.head _)) (fun b _ _ => List.not_mem_nil) (by decide) (uR_tl hR rfl (gU_same _ _ _ _) (gU_idx (by decide)) (gU_cell _ _ _ (by decide))), by omega⟩
  by_cases h43 : hd s = 43
  · obtain ⟨hE, -⟩ := adv 43 (by decide) h43
    rw [if_pos h43, eq_readsEdit_44, if_pos h43, pEdit_43 h43]
    obtain ⟨r, M1, e1, o1⟩ := s_setsFile (p := p) hE hG h16 hp
    rw [gI_bb e1]
    exact ⟨r, M1, rfl, o1⟩
  · rw [if_neg h43]
    by_cases h45 : hd s = 45
    · obtain ⟨hE, -⟩ := adv 45 (by decide) h45
      rw [if_pos h45, eq_readsEdit_44, if_neg h43, if_pos h45, pEdit_45 h45]
      obtain ⟨r, M1, e1, o1⟩ := s_takesAway (p := p) hE hG hp
      rw [gI_bb e1]
      exact ⟨r, M1, rfl, o1⟩
    · rw [if_neg h45]
      by_cases h42 : hd s = 42
      · obtain ⟨hE, -⟩ := adv 42 (by decide) h42
        rw [if_pos h42, eq_readsEdit_44, if_neg h43, if_neg h45, if_pos h42, pEdit_42 h42]
        obtain ⟨r, M1, e1, o1⟩ := s_movesThere (p := p) hE hG h16 hp
        rw [gI_bb e1]
        exact ⟨r, M1, rfl, o1⟩
      · rw [if_neg h42]
        by_cases h94 : hd s = 94
        · obtain ⟨hE, -⟩ := adv 94 (by decide) h94
          rw [if_pos h94, eq_readsEdit_44, if_neg h43, if_neg h45, if_neg h42, pEdit_94 h94]
          obtain ⟨r, M1, e1, o1⟩ := s_fetches (p := p) hE hO hO2 hps hG h16 hp
          rw [gI_bb e1]
          exact ⟨r, M1, rfl, o1⟩
        · rw [if_neg h94, gI_bb (s_wrongAt (by decide) hp)]
          have : pEdit cs s p d = (-1000 - p, p, s, d) := by unfold pEdit; rw [if_neg (by omega)]
          rw [this]
          exact ⟨0, _, rfl, uEO_bad h.1 rfl (by decide) hp.1⟩
theorem uEO_len {M M1 : gM} {cs : List kC} {ps : List Int} {fs : List gF} {p : Int} {s : List Int} {y : pE} {F A : List Int} (h : uE M cs ps fs p s) (hf : gFr A F M M1) (hF : (20 : Int) ∉ F) (h1 : uE M1 cs (kPs y.2.2.2) (kFs y.2.2.2) y.2.1 y.2.2.1) : y.2.1 + (y.2.2.1.length : Int) = p + (s.length : Int) := by
  have a := h1.2.2.2.2.2.1
  rw [hf.2 20 hF, h.2.2.2.2.2.1] at a
  omega
theorem s_readsEditsLoop {cs : List kC} (hO : kOk cs) (hO2 : ∀ c ∈ cs, tGd (kFs c)) : ∀ (k : Nat) (M : gM) (d : kC) (p : Int) (s : List Int), s.length < k → uE M cs (kPs d) (kFs d) p s → (∀ x ∈ kPs d, 0 ≤ x ∧ x < (cs.length : Int)) → tGd (kFs d) → (kFs d).length ≤ 16 →
    ∃ r M1, (Option.bind (F_readsEdit M) fun p75 => if p75.1 = 0 then some (0, p75.2) else F_readsEdits_55 p75.2) = some (r, M1) ∧ uEO M1 cs r (pEdits cs k s p d) ∧ ((pEdits cs k s p d).1 = 0 → tGd (kFs (pEdits cs k s p d).2.2.2) ∧ (kFs (pEdits cs k s p d).2.2.2).length ≤ 16) := by
  intro k
  induction k with
  | zero => intro M d p s hk; omega
  | succ k ih =>
    intro M d p s hk hE hps hG h16
    obtain ⟨r, M1, e1, o1⟩ := s_readsEdit hE hO hO2 hps hG h16
    have f1 := fr_readsEdit e1
    have hp0 := hE.2.2.2.2.1
    have hpl := pEdit_pl cs s p d
    have hinv := pEdit_inv cs s p (d := d) ⟨h16, hG.1⟩
    have hgd := fun z => pEdit_gd (s := s) hp0 hG hO2 z
    rw [gI_bb e1, pEdits]
    generalize hy : pEdit cs s p d = y at *
    by_cases hy0 : y.1 = 0
    · obtain ⟨rfl, hE1⟩ := o1.1 hy0
      have hlen := uEO_len hE f1 (by decide) hE1
      have hR1 := hE1.2.2.2
      simp only []
      rw [if_neg (by decide), eq_readsEdits_55, gI_bb (s_here hR1), if_neg (show ¬ y.1 ≠ 0 from fun w => w hy0)]
      by_cases h59 : hd y.2.2.1 = 59
      · rw [if_pos h59, if_pos h59, hR1.1]
        have hl1 := uR_len hR1
        cases hs : y.2.2.1 with
        | nil => rw [hs] at h59; exact absurd h59 (by decide)
        | cons x t =>
          rw [hs] at hR1 hlen hl1
          simp only [List.length_cons] at hlen hl1
          have hE2 : uE (gU M1 711 19 (y.2.1 + 1)) cs (kPs y.2.2.2) (kFs y.2.2.2) (y.2.1 + 1) t := uE_fr (A := []) (F := [19]) hE1 (gFr_f (gFr_r _ _ _) (.head _)) (fun b _ _ => List.not_mem_nil) (by decide) (uR_tl hR1 rfl (gU_same _ _ _ _) (gU_idx (by decide)) (gU_cell _ _ _ (by decide)))
          rw [gw32_id (by omega) (by omega), List.tail_cons]
          exact ih _ y.2.2.2 (y.2.1 + 1) t (by omega) hE2 (by rw [hinv.2.1]; exact hps) (hgd hy0) hinv.1.1
      · rw [if_neg h59, if_neg h59]
        exact ⟨1, M1, rfl, ⟨fun _ => ⟨rfl, hE1⟩, fun w => absurd rfl w⟩, fun _ => ⟨hgd hy0, hinv.1.1⟩⟩
    · obtain ⟨rfl, v1⟩ := o1.2 hy0
      simp only [if_true]
      rw [if_pos hy0]
      exact ⟨0, M1, rfl, o1, fun w => absurd w hy0⟩
-- ---- PARENTS
def uP (M : gM) (cs : List kC) (ps : List Int) (p : Int) (s : List Int) : Prop := uC M cs ∧ (M 711 12 = (ps.length : Int) ∧ ps.length ≤ 3 ∧ rw_ (M 721) 0 ps) ∧ uR M p s
theorem s_isTold {M : gM} {ps : List Int} {k : Int} (h : M 711 12 = (ps.length : Int) ∧ ps.length ≤ 3 ∧ rw_ (M 721) 0 ps) : F_isTold M k = some (bI (decide (k ∈ ps))) := by
  have lp : ∀ (suf pre : List Int), ps = pre ++ suf → k ∉ pre → F_isTold_2 M k (pre.length : Int) = some (bI (decide (k ∈ ps))) := by
    intro suf
    induction suf with
    | nil =>
      intro pre e hn
      rw [eq_isTold_2, if_neg (by rw [h.1, e]; simp), decide_eq_false (by rw [e]; simpa using hn)]; rfl
    | cons x r ih =>
      intro pre e hn
      have hl := len_mid e
      have hx := h.2.2 _ x (at_mid e)
      rw [Int.zero_add] at hx
      rw [eq_isTold_2, if_pos (by rw [h.1]; omega), if_pos (by omega), hx]
      by_cases hk : x = k
      · rw [if_pos hk, decide_eq_true (by rw [e, hk]; simp)]; rfl
      · rw [if_neg hk, gw32_id (by omega) (by omega)]
        have := ih (pre ++ [x]) (app_mid e) (by simp only [List.mem_append, List.mem_singleton, not_or]; exact ⟨hn, fun z => hk z.symm⟩)
        simpa using this
  exact lp ps [] rfl (by simp)
def uPO (M1 : gM) (cs : List kC) (r : Int) (y : pE) : Prop := (y.1 = 0 → r = 1 ∧ uP M1 cs (kPs y.2.2.2) y.2.1 y.2.2.1) ∧ (y.1 ≠ 0 → r = 0 ∧ M1 711 21 = y.1)
theorem uPO_bad {M : gM} {cs : List kC} {a p : Int} {y : pE} (hy : y.1 = -1000 * a - p) (ha : 1 ≤ a) (hp : 0 ≤ p) : uPO (gU M 711 21 (-1000 * a - p)) cs 0 y :=
  ⟨fun z => by omega, fun _ => ⟨rfl, by rw [gU_same]; exact hy.symm⟩⟩
theorem s_readsParentsLoop {cs : List kC} : ∀ (k : Nat) (M : gM) (d : kC) (p : Int) (s : List Int), uP M cs (kPs d) p s → (kPs d).length + k = 3 →
    ∃ r M1, (Option.bind (F_readsParent M) fun p40 => if p40.1 = 0 then some (0, p40.2) else F_readsParents_20 p40.2) = some (r, M1) ∧ uPO M1 cs r (pParGo (cs.length : Int) k s p d) := by
  intro k
  induction k with
  | zero =>
    intro M d p s h hk
    have hR := h.2.2
    have hl := uR_len hR
    rw [eq_readsParent, gI_bb (s_here hR), gI_bb s_isDigit, pParGo, h.2.1.1, hR.1]
    by_cases hdg : 48 ≤ hd s ∧ hd s ≤ 57
    · rw [decide_eq_true hdg, if_neg (by decide), if_pos (by omega), gI_bb (s_wrongAt (by decide) (by omega)), if_pos hdg]
      exact ⟨0, _, rfl, uPO_bad rfl (by decide) hl.1⟩
    · rw [decide_eq_false hdg, if_pos (by decide), if_neg hdg, eq_readsParent_33]
      have : F_readsNumber M = some (0, gU M 711 21 (-1000 * 1 - p)) := by
        rw [eq_readsNumber, gI_bb (s_here hR), gI_bb s_isDigit, decide_eq_false hdg, if_pos (by decide), hR.1, gI_bb (s_wrongAt (by decide) (by omega))]
      rw [gI_bb this]
      exact ⟨0, _, rfl, uPO_bad (by show -1000 - p = _; omega) (by decide) hl.1⟩
  | succ k ih =>
    intro M d p s h hk
    have hR := h.2.2
    have hl := uR_len hR
    have hl9 := h.1.2.1
    obtain ⟨r1, M1, e1, o1⟩ := s_readsNumber hR
    have f1 := fr_readsNumber e1
    have key : ∃ r M1, (Option.bind (F_readsParent_33 M p) fun p40 => if p40.1 = 0 then some (0, p40.2) else F_readsParents_20 p40.2) = some (r, M1) ∧ uPO M1 cs r (pParGo (cs.length : Int) (k + 1) s p d) := by
      rw [eq_readsParent_33, gI_bb e1, pParGo]
      have hrg := fun z => pDigits_rng (k := 3) (v := 0) (s := s) hl.1 (by decide) z
      generalize hy : pDigits 3 0 s p = y at *
      by_cases hy0 : y.1 = 0
      · obtain ⟨rfl, hR1, v1⟩ := o1.1 hy0
        have hC1 : uC M1 cs := uC_fr h.1 f1 (fun b _ _ => List.not_mem_nil) (by decide)
        have hN1 : M1 711 12 = ((kPs d).length : Int) ∧ (kPs d).length ≤ 3 ∧ rw_ (M1 721) 0 (kPs d) := ⟨(f1.2 12 (by simp)).trans h.2.1.1, h.2.1.2.1, by rw [show M1 721 = M 721 from f1.1 721 (by simp) (by decide)]; exact h.2.1.2.2⟩
        have hv0 := (hrg hy0).1
        simp only []
        rw [if_neg (show ¬ y.1 ≠ 0 from fun w => w hy0), if_neg (by decide), v1, gI_bb (s_isCommit hC1 y.2.1)]
        by_cases hn : (cs.length : Int) ≤ y.2.1
        · rw [if_pos hn, (decide_eq_false (by omega) : decide (0 ≤ y.2.1 ∧ y.2.1 < (cs.length : Int)) = false), if_pos (by decide), gI_bb (s_wrongAt (by decide) (by omega))]
          exact ⟨0, _, rfl, uPO_bad rfl (by decide) hl.1⟩
        · rw [if_neg hn, (decide_eq_true (by omega) : decide (0 ≤ y.2.1 ∧ y.2.1 < (cs.length : Int)) = true), if_neg (by decide), gI_bb (s_isTold hN1)]
          by_cases ht : y.2.1 ∈ kPs d
          · rw [if_pos ht, decide_eq_true ht, if_neg (by decide), gI_bb (s_wrongAt (by decide) (by omega))]
            exact ⟨0, _, rfl, uPO_bad rfl (by decide) hl.1⟩
          · rw [if_neg ht, decide_eq_false ht, if_pos (by decide), hN1.1, if_pos (by omega), gI_bb rfl]
            simp only []
            rw [if_neg (by decide), gU_cel (by decide), hN1.1, gw32_id (by omega) (by omega)]
            generalize hM2 : gU (gU M1 721 ((kPs d).length : Int) y.2.1) 711 12 (((kPs d).length : Int) + 1) = M2
            have hfr2 : gFr [721] [12] M1 M2 := by rw [← hM2]; exact gFr_f (gFr_a (gFr_r _ _ _) (.head _) (by decide)) (.head _)
            have hd2 : kPs (dAddP d y.2.1) = kPs d ++ [y.2.1] := by unfold dAddP; rw [if_pos (by omega)]; rfl
            have hP2 : uP M2 cs (kPs (dAddP d y.2.1)) y.2.2.1 y.2.2.2 := by
              refine ⟨uC_fr hC1 hfr2 (fun b b0 b1 w => by simp at w; omega) (by decide), ⟨?_, ?_, ?_⟩, uR_of hR1 (hfr2.2 19 (by decide)) (hfr2.2 20 (by decide)) (hfr2.1 726 (by decide) (by decide))⟩
              · rw [← hM2, gU_same, hd2]; simp
              · rw [hd2]; simp; omega
              · rw [hd2, ← hM2]
                refine rw_snoc (rw_congr hN1.2.2 (fun q q0 q1 => ?_)) ?_
                · rw [gU_cel (by decide), gU_idx (by omega)]
                · rw [gU_cel (by decide), Int.zero_add, gU_same]
            rw [eq_readsParents_20, gI_bb (s_here hP2.2.2)]
            by_cases h44 : hd y.2.2.2 = 44
            · rw [if_pos h44, if_pos h44, hP2.2.2.1]
              have hl2 := uR_len hP2.2.2
              cases hs : y.2.2.2 with
              | nil => rw [hs] at h44; exact absurd h44 (by decide)
              | cons x t =>
                rw [hs] at hP2 hl2
                simp only [List.length_cons] at hl2
                rw [gw32_id (by omega) (by omega), List.tail_cons]
                refine ih _ (dAddP d y.2.1) (y.2.2.1 + 1) t ?_ (by rw [hd2]; simp; omega)
                have hfr3 : gFr [] [19] M2 (gU M2 711 19 (y.2.2.1 + 1)) := gFr_f (gFr_r _ _ _) (.head _)
                exact ⟨uC_fr hP2.1 hfr3 (fun b _ _ => List.not_mem_nil) (by decide), ⟨(hfr3.2 12 (by decide)).trans hP2.2.1.1, hP2.2.1.2.1, by rw [gU_cell _ _ _ (by decide)]; exact hP2.2.1.2.2⟩, uR_tl hP2.2.2 rfl (gU_same _ _ _ _) (gU_idx (by decide)) (gU_cell _ _ _ (by decide))⟩
            · rw [if_neg h44, if_neg h44]
              exact ⟨1, M2, rfl, fun _ => ⟨rfl, hP2⟩, fun w => absurd rfl w⟩
      · obtain ⟨rfl, v1⟩ := o1.2 hy0
        simp only [if_true]
        rw [if_pos hy0]
        exact ⟨0, M1, rfl, fun w => absurd w hy0, fun _ => ⟨rfl, v1⟩⟩
    rw [eq_readsParent, gI_bb (s_here hR), gI_bb s_isDigit, h.2.1.1, hR.1]
    by_cases hdg : 48 ≤ hd s ∧ hd s ≤ 57
    · rw [decide_eq_true hdg, if_neg (by decide), if_neg (by omega)]; exact key
    · rw [decide_eq_false hdg, if_pos (by decide)]; exact key
