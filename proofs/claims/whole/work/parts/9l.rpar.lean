-- ==== the reference: PARENTS'
def uKp (M : gM) (ps : List Int) : Prop := M 711 37 = (ps.length : Int) ∧ ps.length ≤ 3 ∧ rw_ (M 733) 0 ps
def uK (M : gM) (ps ca : List Int) : Prop := uKp M ps ∧ ca.length = ps.length ∧ rw_ (M 734) 0 ca
theorem uKp_fr {M M1 : gM} {ps : List Int} (h : uKp M ps) (h7 : M1 711 37 = M 711 37) (h3 : M1 733 = M 733) : uKp M1 ps := by
  unfold uKp; rw [h7, h3]; exact h
theorem uK_fr {M M1 : gM} {ps ca : List Int} (h : uK M ps ca) (h7 : M1 711 37 = M 711 37) (h3 : M1 733 = M 733) (h4 : M1 734 = M 734) : uK M1 ps ca := ⟨uKp_fr h.1 h7 h3, h.2.1, by rw [h4]; exact h.2.2⟩
theorem uKp_at {M : gM} {ps pre r : List Int} {x : Int} (h : uKp M ps) (e : ps = pre ++ x :: r) : M 733 (pre.length : Int) = x := by
  have := h.2.2
  rw [e] at this
  have := (rw_cons (rw_app this).2).1
  rwa [Int.zero_add] at this
theorem uK_ca {M : gM} {ps ca pre r : List Int} {x : Int} (h : uK M ps ca) (e : ca = pre ++ x :: r) : M 734 (pre.length : Int) = x := by
  have := h.2.2
  rw [e] at this
  have := (rw_cons (rw_app this).2).1
  rwa [Int.zero_add] at this
theorem s_isCarried {M : gM} {ps : List Int} {x : Int} (h : uKp M ps) : F_isCarried M x = some (bI (decide (x ∈ ps))) := by
  have h3 := h.2.1
  have lp : ∀ (suf pre : List Int), ps = pre ++ suf → x ∉ pre → F_isCarried_2 M x (pre.length : Int) = some (bI (decide (x ∈ ps))) := by
    intro suf
    induction suf with
    | nil =>
      intro pre e hx
      rw [List.append_nil] at e
      rw [eq_isCarried_2, h.1, e, if_neg (by omega), decide_eq_false hx]; rfl
    | cons y r ih =>
      intro pre e hx
      have hl := len_mid e
      rw [eq_isCarried_2, h.1, if_pos (by omega), if_pos (by omega), uKp_at h e]
      by_cases q : y = x
      · rw [if_pos q, decide_eq_true (by rw [e, ← q]; simp)]; rfl
      · rw [if_neg q, gw32_id (by omega) (by omega)]
        have := ih (pre ++ [y]) (app_mid e) (fun w => by
          rcases List.mem_append.mp w with w | w
          · exact hx w
          · exact q (List.mem_singleton.mp w).symm)
        rw [List.length_append, List.length_singleton] at this
        rw [show (pre.length : Int) + 1 = ((pre.length + 1 : Nat) : Int) by omega]
        exact this
  rw [eq_isCarried]
  exact lp ps [] rfl (fun w => by cases w)
theorem s_carriesAll {M : gM} {cs : List kC} {p : Int} {pl : kP} {k : Nat} {c d0 : kC} {im : Int → Int} (hC : uC M cs) (hO : kOk cs) (hP : uPq M p pl) (hp : 0 ≤ p ∧ p ≤ 3) (hg : plGr pl) (hF : kForeOk cs pl) (hk : cs[k]? = some c) (hI : ∀ e ∈ kForeL c pl (k : Int), M 731 (120 * p + e) = im e ∧ -1 ≤ im e) (h0 : kPs d0 = []) :
    ∃ M1, F_carriesAll M p (k : Int) = some M1 ∧ uK M1 (kPs (rGa im (kForeL c pl (k : Int)) d0 []).1) (rGa im (kForeL c pl (k : Int)) d0 []).2 := by
  have hl := uC_len hC hk
  have hfo := hF k c hk
  have hfl : (kForeL c pl (k : Int)).length ≤ 3 := by
    unfold kForeL
    split
    · split <;> simp
    · exact (hO k c hk).1.1
  generalize hX : rGa im (kForeL c pl (k : Int)) d0 [] = X
  have hf0 : gFr [] [37] M (gU M 711 37 0) := gFr_f (gFr_r _ _ _) (by decide)
  have lp : ∀ (suf pre : List Int) (d : kC) (ca : List Int) (M1 : gM), kForeL c pl (k : Int) = pre ++ suf → uK M1 (kPs d) ca → (kPs d).length ≤ pre.length → gFr [733, 734] [37] M M1 → rGa im suf d ca = X → ∃ M2, F_carriesAll_15 M1 p (k : Int) ((kForeL c pl (k : Int)).length : Int) (pre.length : Int) = some M2 ∧ uK M2 (kPs X.1) X.2 := by
    intro suf
    induction suf with
    | nil =>
      intro pre d ca M1 e hK hlen hf hx
      rw [List.append_nil] at e
      have hx : (d, ca) = X := hx
      rw [eq_carriesAll_15, e, if_neg (by omega), ← hx]
      exact ⟨M1, rfl, hK⟩
    | cons y r ih =>
      intro pre d ca M1 e hK hlen hf hx
      have hln := len_mid e
      have o : ∀ b : Int, b ≠ 711 → b ≠ 733 → b ≠ 734 → M1 b = M b := fun b b0 b1 b2 => hf.1 b (by simp; omega) b0
      have hC1 : uC M1 cs := uC_fr hC hf (by simp; omega) (by decide)
      have hP1 : uPq M1 p pl := uPq_of hP (o 729 (by decide) (by decide) (by decide)) (o 730 (by decide) (by decide) (by decide)) (o 731 (by decide) (by decide) (by decide))
      have hy := hfo y (by rw [e]; simp)
      obtain ⟨i1, i2⟩ := hI y (by rw [e]; simp)
      have hat : (kForeL c pl (k : Int))[pre.length]? = some y := by rw [e, List.getElem?_append_right (Nat.le_refl _), Nat.sub_self]; rfl
      have nx : gw32 ((pre.length : Int) + 1) = ((pre ++ [y]).length : Int) := by rw [gw32_id (by omega) (by omega), List.length_append, List.length_singleton]; omega
      rw [eq_carriesAll_15, if_pos (by omega), gI_bb (s_foreAt hC1 hO hP1 hp hk hat), gI_bb (s_imageAt hp ⟨hy.1, by omega⟩), o 731 (by decide) (by decide) (by decide), i1, nx]
      have un : rGa im (y :: r) d ca = if 0 ≤ im y ∧ im y ∉ kPs d ∧ (kPs d).length < 3 then rGa im r (dAddP d (im y)) (ca ++ [y]) else rGa im r d ca := rfl
      rw [un] at hx
      have skip : ¬ (0 ≤ im y ∧ im y ∉ kPs d ∧ (kPs d).length < 3) → ∃ M2, F_carriesAll_15 M1 p (k : Int) ((kForeL c pl (k : Int)).length : Int) ((pre ++ [y]).length : Int) = some M2 ∧ uK M2 (kPs X.1) X.2 := fun hno => by
        rw [if_neg hno] at hx
        exact ih (pre ++ [y]) d ca M1 (app_mid e) hK (by rw [List.length_append]; omega) hf hx
      by_cases q1 : im y = -1
      · rw [if_pos q1]; exact skip (fun w => by omega)
      · rw [if_neg q1, gI_bb (s_isCarried hK.1)]
        by_cases q2 : im y ∈ kPs d
        · rw [decide_eq_true q2, if_neg bIt]; exact skip (fun w => w.2.1 q2)
        · have h37 := hK.1.1
          rw [decide_eq_false q2, if_pos bIf, h37, if_pos (by omega)]
          rw [if_pos (show 0 ≤ im y ∧ im y ∉ kPs d ∧ (kPs d).length < 3 from ⟨by omega, q2, by omega⟩)] at hx
          generalize hM2 : gU M1 733 ((kPs d).length : Int) (im y) = M2
          have o2 : ∀ b : Int, b ≠ 733 → M2 b = M1 b := fun b hb => by rw [← hM2, gU_cell _ _ _ hb]
          have f2 : gFr [733, 734] [37] M M2 := by rw [← hM2]; exact gFr_a hf (by decide) (by decide)
          have hC2 : uC M2 cs := uC_fr hC f2 (by simp; omega) (by decide)
          have hP2 : uPq M2 p pl := uPq_of hP1 (o2 729 (by decide)) (o2 730 (by decide)) (o2 731 (by decide))
          rw [gI_bb (s_foreAt hC2 hO hP2 hp hk hat), o2 711 (by decide), h37, if_pos (by omega), gU_cell _ _ _ (show (711 : Int) ≠ 734 by decide), o2 711 (by decide), h37, gw32_id (by omega) (by omega)]
          have ea : dAddP d (im y) = dPs d (kPs d ++ [im y]) := by rw [dAddP, if_pos (by omega)]
          rw [ea] at hx
          refine ih (pre ++ [y]) (dPs d (kPs d ++ [im y])) (ca ++ [y]) _ (app_mid e) ⟨⟨?_, ?_, ?_⟩, ?_, ?_⟩ ?_ (gFr_f (gFr_a f2 (by decide) (by decide)) (by decide)) hx
          · rw [gU_same]
            show ((kPs d).length : Int) + 1 = ((kPs d ++ [im y]).length : Int)
            rw [List.length_append, List.length_singleton]; omega
          · show (kPs d ++ [im y]).length ≤ 3
            rw [List.length_append, List.length_singleton]; omega
          · show rw_ _ 0 (kPs d ++ [im y])
            rw [gU_cell _ _ _ (by decide), gU_cell _ _ _ (by decide), ← hM2]
            refine rw_snoc (rw_congr hK.1.2.2 (fun q q0 q1 => gU_idx (by omega))) ?_
            rw [Int.zero_add, gU_same]
          · show (ca ++ [y]).length = (kPs d ++ [im y]).length
            rw [List.length_append, List.length_append, hK.2.1]; rfl
          · rw [gU_cell _ _ _ (by decide)]
            refine rw_snoc (rw_congr hK.2.2 (fun q q0 q1 => ?_)) ?_
            · rw [gU_idx (by have := hK.2.1; omega), o2 734 (by decide)]
            · rw [Int.zero_add, hK.2.1, gU_same]
          · show (kPs d ++ [im y]).length ≤ (pre ++ [y]).length
            rw [List.length_append, List.length_append, List.length_singleton, List.length_singleton]; omega
  have hC0 : uC (gU M 711 37 0) cs := uC_fr hC hf0 (fun b _ _ w => by cases w) (by decide)
  have hP0 : uPq (gU M 711 37 0) p pl := uPq_of hP (gU_cell _ _ _ (by decide)) (gU_cell _ _ _ (by decide)) (gU_cell _ _ _ (by decide))
  rw [eq_carriesAll, gI_bb (s_foreMany hC0 hP0 hp hg hk)]
  exact lp (kForeL c pl (k : Int)) [] d0 [] _ rfl ⟨⟨by rw [gU_same, h0]; rfl, by rw [h0]; exact Nat.zero_le _, by rw [h0]; exact rw_nil⟩, by rw [h0], rw_nil⟩ (by rw [h0]; exact Nat.le_refl _) (gFr_f (gFr_r _ _ _) (by decide)) hX
theorem s_goesFor {M : gM} {cs : List kC} {p m : Int} {pl : kP} {ps ca p1 p2 q1 q2 c1 c2 r1 r2 : List Int} {pi pj ci cj : Nat} (hC : uC M cs) (hO : kOk cs) (hP : uPq M p pl) (hp : 0 ≤ p ∧ p ≤ 3) (hg : plGr pl) (hF : kForeOk cs pl) (hK : uK M ps ca) (hm : pl.2.1 12 = m) (h1 : 1 ≤ m) (e1 : ps = p1 ++ (pi : Int) :: p2) (e2 : ca = c1 ++ (ci : Int) :: c2) (e3 : c1.length = p1.length) (e4 : ps = q1 ++ (pj : Int) :: q2) (e5 : ca = r1 ++ (cj : Int) :: r2) (e6 : r1.length = q1.length) (hps : ∀ x ∈ ps, 0 ≤ x ∧ x < (cs.length : Int)) (hcs : ∀ x ∈ ca, 0 ≤ x ∧ x < (cs.length : Int)) :
    ∃ M1, F_goesFor M p (p1.length : Int) (q1.length : Int) = some (bI (kAnc cs pj pi && !(decide (m = 1) && kEld cs pl cj ci)), M1) := by
  have hpi := hps (pi : Int) (by rw [e1]; simp)
  have hpj := hps (pj : Int) (by rw [e4]; simp)
  have hci := hcs (ci : Int) (by rw [e2]; simp)
  have hcj := hcs (cj : Int) (by rw [e5]; simp)
  have l1 := len_mid e1
  have l4 := len_mid e4
  have h3 := hK.1.2.1
  rw [eq_goesFor]
  by_cases q : (p1.length : Int) = (q1.length : Int)
  · rw [if_pos q]
    have hpq : (pi : Int) = (pj : Int) := by
      have a := uKp_at hK.1 e1
      have b := uKp_at hK.1 e4
      rw [← q] at b
      omega
    have hz : kAnc cs pj pi = false := by
      cases hh : kAnc cs pj pi with
      | false => rfl
      | true => have := kAnc_lt hO (by omega) hh; omega
    rw [hz, Bool.false_and]
    exact ⟨M, rfl⟩
  · rw [if_neg q, if_pos (by omega), if_pos (by omega), uKp_at hK.1 e1, uKp_at hK.1 e4]
    obtain ⟨M1, a1, b1⟩ := s_isAncestor (j := pi) (k := pj) hC hO (by omega) (by omega)
    rw [gI_bb a1]
    cases ha : kAnc cs pj pi with
    | false =>
      rw [Bool.false_and]
      show ∃ M9, (if bI false = 0 then _ else _) = some (_, M9)
      rw [if_pos bIf]; exact ⟨M1, rfl⟩
    | true =>
      rw [Bool.true_and]
      show ∃ M9, (if bI true = 0 then _ else _) = some (_, M9)
      rw [if_neg bIt]
      have hP1 : uPq M1 p pl := uPq_of hP (b1 729 (by decide)) (b1 730 (by decide)) (b1 731 (by decide))
      have hC1 : uC M1 cs := uC_same hC (by rw [b1 711 (by decide)]) (fun b b0 b2 => b1 b (by omega))
      have h11 : M1 729 (68 * p + 11) = m := by rw [← hm]; exact hP1.1.2.2.2.2.1
      show ∃ M9, (Option.bind (F_ofPlan M1 p 11) _) = some (_, M9)
      rw [gI_bb (s_ofPlan hp (by decide)), h11]
      by_cases qm : 1 < m
      · rw [if_pos qm, decide_eq_false (by omega)]; exact ⟨M1, rfl⟩
      · rw [if_neg qm, decide_eq_true (show m = 1 by omega), Bool.true_and]
        have hK1 := uK_fr hK (by rw [b1 711 (by decide)]) (b1 733 (by decide)) (b1 734 (by decide))
        have x1 : M1 734 (p1.length : Int) = (ci : Int) := by rw [← e3]; exact uK_ca hK1 e2
        have x2 : M1 734 (q1.length : Int) = (cj : Int) := by rw [← e6]; exact uK_ca hK1 e5
        show ∃ M9, (Option.bind (F_isElder M1 p (M1 734 (p1.length : Int)) (M1 734 (q1.length : Int))) _) = some (_, M9)
        rw [x1, x2]
        obtain ⟨M2, a2, -⟩ := s_isElder (j := ci) (k := cj) hC1 hO hP1 hp hg hF (by omega)
        rw [gI_bb a2]
        cases kEld cs pl cj ci with
        | false => exact ⟨M2, rfl⟩
        | true => exact ⟨M2, rfl⟩
