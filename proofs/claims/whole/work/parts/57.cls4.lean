-- ==== refIs, image on both sides
theorem gdiv26_all : ∀ n : Nat, n < 52 → gdiv (n : Int) 26 = (n : Int) / 26 ∧ grem (n : Int) 26 = (n : Int) % 26 := by decide +kernel
theorem s_isPlan (h : Int) : F_isPlan h = some (bI (decide (0 ≤ h ∧ h ≤ 3))) := by rw [eq_isPlan, s_in]; rfl
def rFld (f : rF) (w : Int) : Int := if w = 0 then f.1 else if w = 1 then f.2.1 else if w = 2 then f.2.2.1 else if f.2.2.2 < 0 then -2 else f.2.2.2
def rNth (rs : List rF) (i : Nat) (w : Int) : Int := match rs[i]? with
  | some f => rFld f w
  | none => -4
def aRefIs (fA : Int → List rF) (h i w : Int) : Int := if (0 ≤ h ∧ h ≤ 3) ∧ (0 ≤ i ∧ i ≤ 7) ∧ (0 ≤ w ∧ w ≤ 3) then rNth (fA h) i.toNat w else -1
theorem s_refIs {M : gM} {fA : Int → List rF} {h i w n : Int} (hR : ∀ h : Int, 0 ≤ h → h < 4 → uRf M h (fA h)) (hG : ∀ h : Int, 0 ≤ h → h < 4 → rGd n (fA h)) : F_refIs M h i w = some (aRefIs fA h i w) := by
  unfold aRefIs
  rw [eq_refIs, gI_bb s_isHistory]
  by_cases q1 : 0 ≤ h ∧ h ≤ 3
  · rw [decide_eq_true q1, if_neg bIt, gI_bb s_in]
    by_cases q2 : 0 ≤ i ∧ i ≤ 7
    · rw [decide_eq_true q2, if_neg bIt, gI_bb s_in]
      by_cases q3 : 0 ≤ w ∧ w ≤ 3
      · rw [decide_eq_true q3, if_neg bIt, if_pos ⟨q1, q2, q3⟩]
        have hr := hR h q1.1 (by omega)
        have hg := hG h q1.1 (by omega)
        have lp : ∀ (m : Nat) (s : Int) (x4 : Nat) (pre suf : List rF), s + (m : Int) = 52 → 0 ≤ s → x4 < 8 → fA h = pre ++ suf → (∀ x ∈ pre, rOrd x < s) → (∀ x ∈ suf, s ≤ rOrd x) → F_refIs_34 M h i w (x4 : Int) s = some (rNth suf x4 w) := by
          intro m
          induction m with
          | zero =>
            intro s x4 pre suf hm h0 hx e h1 h2
            rw [eq_refIs_34, if_neg (by omega)]
            cases suf with
            | nil => rfl
            | cons y r =>
              have hy := h2 y List.mem_cons_self
              have hy2 := (hg.2 y (by rw [e]; simp)).1
              unfold rRng at hy2; unfold rOrd at hy
              omega
          | succ m ih =>
            intro s x4 pre suf hm h0 hx e h1 h2
            rw [eq_refIs_34, if_pos (by omega)]
            simp (disch := omega) only [gw32_id]
            rw [if_pos (by omega), (hr s h0 (by omega)).1, (hr s h0 (by omega)).2]
            rcases sAt_next hg e h1 h2 with ⟨a, b⟩ | ⟨y, r, e2, ho, a, a2, a3, b⟩
            · rw [if_pos a]
              exact ih (s + 1) x4 pre suf (by omega) (by omega) hx e (fun x hx => by have := h1 x hx; omega) b
            · rw [a, a2, if_neg (by omega)]
              have hy2 := (hg.2 y (by rw [e, e2]; simp))
              cases x4 with
              | zero =>
                rw [if_pos (by rfl), e2]
                show _ = some (rFld y w)
                unfold rFld
                have h26 := gdiv26_all s.toNat (by omega)
                rw [show ((s.toNat : Nat) : Int) = s by omega] at h26
                have hy3 := hy2.1
                unfold rRng at hy3; unfold rOrd at ho
                by_cases w0 : w = 0
                · rw [if_pos w0, if_pos w0, h26.1]; congr 1; omega
                · rw [if_neg w0, if_neg w0]
                  by_cases w1 : w = 1
                  · rw [if_pos w1, if_pos w1, h26.2]; congr 1; omega
                  · rw [if_neg w1, if_neg w1]
                    by_cases w2 : w = 2
                    · rw [if_pos w2, if_pos w2]
                    · rw [if_neg w2, if_neg w2]
                      by_cases p : y.2.2.2 < 0
                      · rw [if_pos (by omega), if_pos p]
                      · rw [if_neg (by omega), if_neg p]
              | succ x =>
                rw [if_neg (by omega), show ((x + 1 : Nat) : Int) - 1 = (x : Int) by omega, e2, ih (s + 1) x (pre ++ [y]) r (by omega) (by omega) (by omega) (by rw [e, e2]; simp) (fun z hz => ?_) b]
                · rfl
                · rcases List.mem_append.mp hz with q | q
                  · have := h1 z q; omega
                  · rw [List.mem_singleton.mp q]; omega
        have := lp 52 0 i.toNat [] (fA h) (by omega) (by omega) (by omega) rfl (fun x hx => by cases hx) (fun x hx => by have := (hg.2 x hx).1; unfold rRng at this; unfold rOrd; omega)
        rw [show ((i.toNat : Nat) : Int) = i by omega] at this
        exact this
      · rw [decide_eq_false q3, if_pos bIf, if_neg (fun z => q3 z.2.2)]
    · rw [decide_eq_false q2, if_pos bIf, if_neg (fun z => q2 z.2.1)]
  · rw [decide_eq_false q1, if_pos bIf, if_neg (fun z => q1 z.1)]
theorem sp_X11_refIs {sh : gS} {M : gM} {z : aS} {h i w : Int} (hz : cS sh M z) : gC (gr 1 20) yX11_refIs cX11_refIs 5 (some (.int)) [(4, 0), (0, h), (0, i), (0, w)] sh M (cPo sh M 0 (aRefIs (aRs z) h i w) z) := by
  obtain ⟨hOK, hC, -, hRs, -⟩ := id hz
  unfold aRefIs
  refine w_X11_refIs hOK ⟨_, sp_X11_isHistory hOK, ?_⟩
  by_cases q1 : 0 ≤ h ∧ h ≤ 3
  · rw [decide_eq_true q1, if_neg bIt]
    by_cases q2 : i < 0
    · rw [if_pos q2, if_neg (fun z => by omega)]; exact cPo_same hz rfl
    · rw [if_neg q2]
      by_cases q3 : i < 8
      · rw [if_pos q3]
        by_cases q4 : w < 0
        · rw [if_pos q4, if_neg (fun z => by omega)]; exact cPo_same hz rfl
        · rw [if_neg q4]
          by_cases q5 : (3 : Int) < w
          · rw [if_pos q5, if_neg (fun z => by omega)]; exact cPo_same hz rfl
          · rw [if_neg q5, if_pos (show (0 ≤ h ∧ h ≤ 3) ∧ (0 ≤ i ∧ i ≤ 7) ∧ (0 ≤ w ∧ w ≤ 3) from ⟨q1, by omega, by omega⟩)]
            obtain ⟨hSh, h16, hc, hRw⟩ := (hRs h q1.1 (by omega)).1
            refine ⟨⟨q1.1, by omega⟩, ⟨hSh.1, by omega⟩, ?_⟩
            rw [hc]
            by_cases q6 : i < ((aRs z h).length : Int)
            · rw [if_pos q6]
              have hlt : i.toNat < (aRs z h).length := by omega
              have hrow := hRw i.toNat _ (List.getElem?_eq_getElem hlt)
              rw [show (0 : Int) + ((i.toNat : Nat) : Int) = i by omega] at hrow
              have hn : rNth (aRs z h) i.toNat w = rFld (rG M (479 + 10 * h) i) w := by
                unfold rNth; rw [List.getElem?_eq_getElem hlt, hrow]
              rw [hn]
              unfold rFld rG
              by_cases w0 : w = 0
              · rw [if_pos w0, if_pos w0]; exact ⟨_, hSh.2.1, by omega, cPo_same hz rfl⟩
              · rw [if_neg w0, if_neg w0]
                by_cases w1 : w = 1
                · rw [if_pos w1, if_pos w1]; exact ⟨_, hSh.2.2.1, by omega, cPo_same hz rfl⟩
                · rw [if_neg w1, if_neg w1]
                  by_cases w2 : w = 2
                  · rw [if_pos w2, if_pos w2]; exact ⟨_, hSh.2.2.2.1, by omega, cPo_same hz rfl⟩
                  · rw [if_neg w2, if_neg w2]
                    refine ⟨_, hSh.2.2.2.2.1, by omega, ?_⟩
                    by_cases p : M ((479 + 10 * h) + 4) i < 0
                    · rw [if_pos p]; exact cPo_same hz (if_pos p).symm
                    · rw [if_neg p]; exact cPo_same hz (if_neg p).symm
            · rw [if_neg q6]
              refine cPo_same hz ?_
              unfold rNth; rw [List.getElem?_eq_none (by omega)]
      · rw [if_neg q3, if_neg (fun z => by omega)]; exact cPo_same hz rfl
  · rw [decide_eq_false q1, if_pos bIf, if_neg (fun z => q1 z.1)]; exact cPo_same hz rfl
/-- the image of a COMMIT in a PLAN -/
def plIm (pl : kP) (k w : Int) : Int := if pl.2.1 0 = 0 then -3 else if pl.2.2.2 k < 0 then -4 else if w = 1 then pl.2.2.2 k else if pl.2.2.1 k < 0 then -2 else pl.2.2.1 k
def aImage (cs : List kC) (fA : Int → kP) (p k w : Int) : Int := if (0 ≤ p ∧ p ≤ 3) ∧ bC cs k = true ∧ (0 ≤ w ∧ w ≤ 1) then plIm (fA p) k w else -1
theorem s_isToldPlan {M : gM} {p : Int} {pl : kP} (h : uPl 729 730 731 M p pl) (hp : 0 ≤ p ∧ p ≤ 3) : F_isToldPlan M p = some (pl.2.1 0) := by
  rw [eq_isToldPlan]
  simp (disch := omega) only [gw32_id]
  rw [if_pos (by omega), Int.add_zero, h.1]
  rcases h.2.1 with e | e <;> rw [e] <;> rfl
theorem s_image {M : gM} {cs : List kC} {fA : Int → kP} {p k w : Int} (hC : uC M cs) (hP : ∀ p : Int, 0 ≤ p → p < 4 → uPl 729 730 731 M p (fA p)) (hG : ∀ p : Int, 0 ≤ p → p < 4 → plGd (fA p)) : F_image M p k w = some (aImage cs fA p k w) := by
  unfold aImage
  have hl9 := hC.2.1
  rw [eq_image, gI_bb (s_isPlan p)]
  by_cases q1 : 0 ≤ p ∧ p ≤ 3
  · rw [decide_eq_true q1, if_neg bIt, gI_bb (s_isCommit hC k)]
    by_cases q2 : 0 ≤ k ∧ k < (cs.length : Int)
    · rw [decide_eq_true q2, if_neg bIt, gI_bb s_in]
      by_cases q3 : 0 ≤ w ∧ w ≤ 1
      · have hp := hP p q1.1 (by omega)
        have hg := hG p q1.1 (by omega)
        rw [decide_eq_true q3, if_neg bIt, gI_bb (s_isToldPlan hp q1), if_pos (show (0 ≤ p ∧ p ≤ 3) ∧ bC cs k = true ∧ (0 ≤ w ∧ w ≤ 1) from ⟨q1, decide_eq_true q2, q3⟩)]
        unfold plIm
        by_cases q4 : (fA p).2.1 0 = 0
        · rw [if_pos q4, if_pos q4]
        · rw [if_neg q4, if_neg q4]
          have h1 : (fA p).2.1 0 = 1 := by rcases hg.1 with e | e <;> omega
          obtain ⟨g1, g2⟩ := hg.2 h1 k q2.1 (by omega)
          obtain ⟨t1, t2⟩ := (hp.2.2 h1).2.2.2 k q2.1 (by omega)
          have him : F_imageAt M p k = some (M 731 (120 * p + k)) := by
            rw [eq_imageAt]
            simp (disch := omega) only [gw32_id]
            rw [if_pos (by omega)]
          simp (disch := omega) only [gw32_id]
          rw [if_pos (by omega), t1]
          by_cases q5 : (fA p).2.2.2 k < 0
          · rw [if_pos (by omega), if_pos q5]
          · rw [if_neg (by omega), if_neg q5]
            by_cases q6 : w = 1
            · rw [if_pos q6, if_pos q6]
            · rw [if_neg q6, if_neg q6, gI_bb him, gI_bb him, t2 (by omega)]
              by_cases q7 : (fA p).2.2.1 k < 0
              · rw [if_pos (by omega), if_pos q7]
              · rw [if_neg (by omega), if_neg q7]
      · rw [decide_eq_false q3, if_pos bIf, if_neg (fun z => q3 z.2.2)]
    · rw [decide_eq_false q2, if_pos bIf, if_neg (fun z => q2 (of_decide_eq_true z.2.1))]
  · rw [decide_eq_false q1, if_pos bIf, if_neg (fun z => q1 z.1)]
theorem sp_X11_image {sh : gS} {M : gM} {z : aS} {p k w : Int} (hz : cS sh M z) : gC (gr 1 21) yX11_image cX11_image 5 (some (.int)) [(4, 0), (0, p), (0, k), (0, w)] sh M (cPo sh M 0 (aImage (aCs z) (aPl z) p k w) z) := by
  obtain ⟨hOK, hC, -, -, hPl, -⟩ := id hz
  have hl9 := hC.2.1
  unfold aImage
  refine w_X11_image hOK ⟨_, sp_X11_isPlan hOK, ?_⟩
  by_cases q1 : 0 ≤ p ∧ p ≤ 3
  · rw [decide_eq_true q1, if_neg bIt]
    refine ⟨_, sp_X1_has hOK hC, ?_⟩
    rw [hasI]
    by_cases q2 : bC (aCs z) k = true
    · rw [if_neg (bI_ne q2)]
      have q2' := of_decide_eq_true q2
      by_cases q4 : w < 0
      · rw [if_pos q4, if_neg (fun z => by omega)]; exact cPo_same hz rfl
      · rw [if_neg q4]
        by_cases q5 : (1 : Int) < w
        · rw [if_pos q5, if_neg (fun z => by omega)]; exact cPo_same hz rfl
        · rw [if_neg q5, if_pos (show (0 ≤ p ∧ p ≤ 3) ∧ bC (aCs z) k = true ∧ (0 ≤ w ∧ w ≤ 1) from ⟨q1, q2, by omega, by omega⟩)]
          have hp := (hPl p q1.1 (by omega)).1
          obtain ⟨hSh, -, -, hF, hT⟩ := id hp
          obtain ⟨t1, t2⟩ := hT k q2'.1 (by omega)
          refine ⟨⟨q1.1, by omega⟩, ⟨hSh.1, by omega⟩, ?_⟩
          have h0 := hF 0 (Or.inl (by decide))
          rw [show M (519 + 48 * p) 0 = (aPl z p).2.1 0 from h0]
          unfold plIm
          by_cases q6 : (aPl z p).2.1 0 = 0
          · rw [if_pos q6]; exact cPo_same hz (if_pos q6).symm
          · rw [if_neg q6, if_neg q6]
            refine ⟨_, sp_X5_isMapped hOK hp (by omega), ?_⟩
            by_cases q7 : 0 ≤ (aPl z p).2.2.2 k
            · rw [if_pos q7, if_neg (by decide), if_neg (show ¬ (aPl z p).2.2.2 k < 0 by omega)]
              by_cases q8 : w = 1
              · rw [if_pos q8, if_pos q8, t2]; exact ⟨_, hSh.2.2.2.2.2.2.2.2.2.1, by omega, cPo_same hz rfl⟩
              · rw [if_neg q8, if_neg q8, t1]
                refine ⟨_, hSh.2.2.2.2.2.2.2.2.1, by omega, ?_⟩
                by_cases q9 : (aPl z p).2.2.1 k < 0
                · rw [if_pos q9]; exact cPo_same hz (if_pos q9).symm
                · rw [if_neg q9]; exact cPo_same hz (if_neg q9).symm
            · rw [if_neg q7, if_pos rfl, if_pos (by omega)]
              exact cPo_same hz rfl
    · rw [if_pos (bI_eq (by simpa using q2)), if_neg (fun w => q2 w.2.1)]; exact cPo_same hz rfl
  · rw [decide_eq_false q1, if_pos bIf, if_neg (fun z => q1 z.1)]; exact cPo_same hz rfl
