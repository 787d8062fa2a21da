-- ==== the reference: plan
theorem s_beginsPlan (M : gM) : ∃ M1, F_beginsPlan M = some M1 ∧ vPt M1 (plB0 0 0) 0 ∧ M1 729 288 = 2 ∧ ∀ q : Int, q < 272 → M1 729 q = M 729 q := by
  have lp1 : ∀ (m i : Nat) (M1 : gM), i + m = 68 → (∀ q : Int, 272 ≤ q → q < 272 + (i : Int) → M1 729 q = 0) → (∀ q : Int, q < 272 → M1 729 q = M 729 q) → ∃ M2, F_beginsPlan_2 M1 (i : Int) = F_beginsPlan_27 M2 0 ∧ (∀ q : Int, 272 ≤ q → q < 340 → M2 729 q = 0) ∧ (∀ q : Int, q < 272 → M2 729 q = M 729 q) := by
    intro m
    induction m with
    | zero =>
      intro i M1 hi h1 h2
      rw [eq_beginsPlan_2, if_neg (by omega)]
      exact ⟨M1, rfl, fun q q0 q1 => h1 q q0 (by omega), h2⟩
    | succ m ih =>
      intro i M1 hi h1 h2
      rw [eq_beginsPlan_2, if_pos (by omega), gw32_id (z := 272 + (i : Int)) (by omega) (by omega), if_pos (by omega), gw32_id (by omega) (by omega)]
      refine ih (i + 1) _ (by omega) (fun q q0 q1 => ?_) (fun q hq => by rw [gU_idx (by omega)]; exact h2 q hq)
      by_cases e : q = 272 + (i : Int)
      · rw [e, gU_same]
      · rw [gU_idx e]; exact h1 q q0 (by omega)
  have lp2 : ∀ (m i : Nat) (M1 : gM), i + m = 10 → (∀ q : Int, 272 ≤ q → q < 330 → M1 729 q = 0) → (∀ q : Int, 0 ≤ q → q < (i : Int) → M1 729 (330 + q) = -1) → (∀ q : Int, q < 272 → M1 729 q = M 729 q) → ∃ M2, F_beginsPlan_27 M1 (i : Int) = some (gU (gU (gU (gU (gU (gU M2 729 272 1) 729 283 1) 729 284 2) 729 285 2) 729 287 6) 729 288 2) ∧ (∀ q : Int, 272 ≤ q → q < 330 → M2 729 q = 0) ∧ (∀ q : Int, 0 ≤ q → q < 10 → M2 729 (330 + q) = -1) ∧ (∀ q : Int, q < 272 → M2 729 q = M 729 q) := by
    intro m
    induction m with
    | zero =>
      intro i M1 hi h1 h2 h3
      rw [eq_beginsPlan_27, if_neg (by omega)]
      exact ⟨M1, rfl, h1, fun q q0 q1 => h2 q q0 (by omega), h3⟩
    | succ m ih =>
      intro i M1 hi h1 h2 h3
      rw [eq_beginsPlan_27, if_pos (by omega), gw32_id (z := 330 + (i : Int)) (by omega) (by omega), if_pos (by omega), gw32_id (by omega) (by omega)]
      refine ih (i + 1) _ (by omega) (fun q q0 q1 => by rw [gU_idx (by omega)]; exact h1 q q0 q1) (fun q q0 q1 => ?_) (fun q hq => by rw [gU_idx (by omega)]; exact h3 q hq)
      by_cases e : q = (i : Int)
      · rw [e, gU_same]
      · rw [gU_idx (by omega)]; exact h2 q q0 (by omega)
  rw [eq_beginsPlan]
  obtain ⟨M2, e2, a1, a2⟩ := lp1 68 0 M (by omega) (fun q q0 q1 => by omega) (fun _ _ => rfl)
  have e2 : F_beginsPlan_2 M 0 = F_beginsPlan_27 M2 0 := e2
  obtain ⟨M3, e3, b1, b2, b3⟩ := lp2 10 0 M2 (by omega) (fun q q0 q1 => a1 q q0 (by omega)) (fun q q0 q1 => by omega) a2
  have e3 : F_beginsPlan_27 M2 0 = _ := e3
  rw [e2, e3]
  generalize hM4 : gU (gU (gU (gU (gU (gU M3 729 272 1) 729 283 1) 729 284 2) 729 285 2) 729 287 6) 729 288 2 = M4
  have o : ∀ q : Int, q ≠ 272 → q ≠ 283 → q ≠ 284 → q ≠ 285 → q ≠ 287 → q ≠ 288 → M4 729 q = M3 729 q := fun q q1 q2 q3 q4 q5 q6 => by rw [← hM4, gU_idx q6, gU_idx q5, gU_idx q4, gU_idx q3, gU_idx q2, gU_idx q1]
  have z : ∀ q : Int, 272 < q → q < 330 → q ≠ 283 → q ≠ 284 → q ≠ 285 → q ≠ 287 → q ≠ 288 → M4 729 q = 0 := fun q q0 q1 q2 q3 q4 q5 q6 => by rw [o q (by omega) q2 q3 q4 q5 q6]; exact b1 q (by omega) q1
  refine ⟨M4, rfl, ⟨⟨?_, z _ (by decide) (by decide) (by decide) (by decide) (by decide) (by decide) (by decide), z _ (by decide) (by decide) (by decide) (by decide) (by decide) (by decide) (by decide), z _ (by decide) (by decide) (by decide) (by decide) (by decide) (by decide) (by decide), z _ (by decide) (by decide) (by decide) (by decide) (by decide) (by decide) (by decide), ?_, ?_, ?_, z _ (by decide) (by decide) (by decide) (by decide) (by decide) (by decide) (by decide), ?_, z _ (by decide) (by decide) (by decide) (by decide) (by decide) (by decide) (by decide)⟩, fun i hi => ⟨z _ (by omega) (by omega) (by omega) (by omega) (by omega) (by omega) (by omega), Nat.zero_le _, rw_nil, fun _ => rw_nil⟩, fun w w0 w1 => ?_⟩, ?_, fun q hq => ?_⟩
  · rw [← hM4]; simp [gU]
  · rw [← hM4]; simp [gU]; rfl
  · rw [← hM4]; simp [gU]; rfl
  · rw [← hM4]; simp [gU]; rfl
  · rw [← hM4]; simp [gU]; rfl
  · rw [o _ (by omega) (by omega) (by omega) (by omega) (by omega) (by omega)]; exact b2 w w0 w1
  · rw [← hM4, gU_same]
  · rw [o q (by omega) (by omega) (by omega) (by omega) (by omega) (by omega)]; exact b3 q hq
theorem s_forgets {M : gM} {p : Int} (hp : 0 ≤ p ∧ p ≤ 3) : ∃ M1, F_forgets M p = some M1 ∧ (∀ k : Int, 0 ≤ k → k < 120 → M1 730 (120 * p + k) = -1) ∧ (∀ q : Int, (q < 120 * p ∨ 120 * p + 120 ≤ q) → M1 730 q = M 730 q) ∧ ∀ b : Int, b ≠ 730 → M1 b = M b := by
  have lp : ∀ (m i : Nat) (M1 : gM), i + m = 120 → (∀ k : Int, 0 ≤ k → k < (i : Int) → M1 730 (120 * p + k) = -1) → (∀ q : Int, (q < 120 * p ∨ 120 * p + 120 ≤ q) → M1 730 q = M 730 q) → (∀ b : Int, b ≠ 730 → M1 b = M b) → ∃ M2, F_forgets_2 M1 p (i : Int) = some M2 ∧ (∀ k : Int, 0 ≤ k → k < 120 → M2 730 (120 * p + k) = -1) ∧ (∀ q : Int, (q < 120 * p ∨ 120 * p + 120 ≤ q) → M2 730 q = M 730 q) ∧ ∀ b : Int, b ≠ 730 → M2 b = M b := by
    intro m
    induction m with
    | zero =>
      intro i M1 hi h1 h2 h3
      rw [eq_forgets_2, if_neg (by omega)]
      exact ⟨M1, rfl, fun k k0 k1 => h1 k k0 (by omega), h2, h3⟩
    | succ m ih =>
      intro i M1 hi h1 h2 h3
      rw [eq_forgets_2, if_pos (by omega), gw32_id (z := 120 * p) (by omega) (by omega), gw32_id (z := 120 * p + (i : Int)) (by omega) (by omega), if_pos (by omega), gw32_id (by omega) (by omega)]
      refine ih (i + 1) _ (by omega) (fun k k0 k1 => ?_) (fun q hq => by rw [gU_idx (by omega)]; exact h2 q hq) (fun b hb => by rw [gU_cell _ _ _ hb]; exact h3 b hb)
      by_cases e : k = (i : Int)
      · rw [e, gU_same]
      · rw [gU_idx (by omega)]; exact h1 k k0 (by omega)
  rw [eq_forgets]
  exact lp 120 0 M (by omega) (fun k k0 k1 => by omega) (fun _ _ => rfl) (fun _ _ => rfl)
theorem s_plan131 {M : gM} {p n : Int} (hp : 0 ≤ p ∧ p ≤ 3) : ∃ M1, F_plan_131 M p n 1 0 = some (M 729 288, M1) ∧ (∀ k : Int, 0 ≤ k → k < 68 → M1 729 (68 * p + k) = M 729 (272 + k)) ∧ (∀ q : Int, (q < 68 * p ∨ 68 * p + 68 ≤ q) → M1 729 q = M 729 q) ∧ (∀ k : Int, 0 ≤ k → k < 120 → M1 730 (120 * p + k) = -1) ∧ (∀ q : Int, (q < 120 * p ∨ 120 * p + 120 ≤ q) → M1 730 q = M 730 q) ∧ ∀ b : Int, b ≠ 729 → b ≠ 730 → M1 b = M b := by
  have lp : ∀ (m i : Nat) (M1 : gM), i + m = 68 → (∀ k : Int, 0 ≤ k → k < (i : Int) → M1 729 (68 * p + k) = M 729 (272 + k)) → (∀ q : Int, (q < 68 * p ∨ 68 * p + 68 ≤ q) → M1 729 q = M 729 q) → (∀ b : Int, b ≠ 729 → M1 b = M b) → ∃ M2, F_plan_131 M1 p n 1 (i : Int) = (Option.bind (F_forgets M2 p) (fun m169 => some ((m169 729 288), m169))) ∧ (∀ k : Int, 0 ≤ k → k < 68 → M2 729 (68 * p + k) = M 729 (272 + k)) ∧ (∀ q : Int, (q < 68 * p ∨ 68 * p + 68 ≤ q) → M2 729 q = M 729 q) ∧ ∀ b : Int, b ≠ 729 → M2 b = M b := by
    intro m
    induction m with
    | zero =>
      intro i M1 hi h1 h2 h3
      rw [eq_plan_131, if_neg (by omega)]
      exact ⟨M1, rfl, fun k k0 k1 => h1 k k0 (by omega), h2, h3⟩
    | succ m ih =>
      intro i M1 hi h1 h2 h3
      rw [eq_plan_131, if_pos (by omega), gw32_id (z := 272 + (i : Int)) (by omega) (by omega), if_pos (by omega), gw32_id (z := 68 * p) (by omega) (by omega), gw32_id (z := 68 * p + (i : Int)) (by omega) (by omega), if_pos (by omega), gw32_id (by omega) (by omega)]
      refine ih (i + 1) _ (by omega) (fun k k0 k1 => ?_) (fun q hq => by rw [gU_idx (by omega)]; exact h2 q hq) (fun b hb => by rw [gU_cell _ _ _ hb]; exact h3 b hb)
      by_cases e : k = (i : Int)
      · rw [e, gU_same]; exact h2 _ (by omega)
      · rw [gU_idx (by omega)]; exact h1 k k0 (by omega)
  obtain ⟨M2, e2, a1, a2, a3⟩ := lp 68 0 M (by omega) (fun k k0 k1 => by omega) (fun _ _ => rfl) (fun _ _ => rfl)
  have e2 : F_plan_131 M p n 1 0 = _ := e2
  obtain ⟨M3, e3, b1, b2, b3⟩ := s_forgets (M := M2) hp
  rw [e2, gI_bb e3]
  have e9 : M3 729 = M2 729 := b3 729 (by decide)
  exact ⟨M3, by rw [e9, a2 288 (by omega)], fun k k0 k1 => by rw [e9]; exact a1 k k0 k1, fun q hq => by rw [e9]; exact a2 q hq, b1, fun q hq => by rw [b2 q hq, a3 730 (by decide)], fun b h1 h2 => by rw [b3 b h2, a3 b h1]⟩
def lnEnd (n : Int) (k : Nat) (y : pL) : Int × kP :=
  if y.1 ≠ 0 then (y.1, y.2.2.2.1) else if y.2.2.1 = [] ∧ 2 ≤ y.2.2.2.1.2.1 1 then (0, y.2.2.2.1) else if hd y.2.2.1 ≠ 59 then (-1000 - y.2.1, y.2.2.2.1) else lnGo n k y.2.2.2.1 y.2.2.2.2 y.2.2.1.tail (y.2.1 + 1)
theorem lnGo_end {n : Int} {k : Nat} {pl : kP} {T : Nat} {s : List Int} {p : Int} (hp : 0 ≤ p) : (lnGo n (k + 1) pl T s p).1 = (lnEnd n k (lnLine n pl T s p)).1 ∧ ((lnGo n (k + 1) pl T s p).1 = 0 → (lnGo n (k + 1) pl T s p).2 = (lnEnd n k (lnLine n pl T s p)).2) := by
  have hG := lnLine_G (n := n) (pl := pl) (T := T) (s := s) hp
  have un : lnGo n (k + 1) pl T s p = if (lnLine n pl T s p).1 ≠ 0 then ((lnLine n pl T s p).1, pl) else if (lnLine n pl T s p).2.2.1 = [] ∧ 2 ≤ (lnLine n pl T s p).2.2.2.1.2.1 1 then (0, (lnLine n pl T s p).2.2.2.1) else if hd (lnLine n pl T s p).2.2.1 ≠ 59 then (-1000 - (lnLine n pl T s p).2.1, pl) else lnGo n k (lnLine n pl T s p).2.2.2.1 (lnLine n pl T s p).2.2.2.2 (lnLine n pl T s p).2.2.1.tail ((lnLine n pl T s p).2.1 + 1) := rfl
  rw [un]
  clear un
  unfold lnEnd
  generalize lnLine n pl T s p = y at hG ⊢
  by_cases q : y.1 = 0
  · obtain ⟨⟨g1, g2⟩, -⟩ := hG q
    rw [if_neg (show ¬ y.1 ≠ 0 from fun z => z q), if_neg (show ¬ y.1 ≠ 0 from fun z => z q)]
    by_cases q2 : y.2.2.1 = [] ∧ 2 ≤ y.2.2.2.1.2.1 1
    · rw [if_pos q2, if_pos q2]; exact ⟨rfl, fun _ => rfl⟩
    · rw [if_neg q2, if_neg q2]
      by_cases q3 : hd y.2.2.1 ≠ 59
      · rw [if_pos q3, if_pos q3]
        refine ⟨rfl, fun w => ?_⟩
        have w' : -1000 - y.2.1 = 0 := w
        omega
      · rw [if_neg q3, if_neg q3]; exact ⟨rfl, fun _ => rfl⟩
  · rw [if_pos (show y.1 ≠ 0 from q), if_pos (show y.1 ≠ 0 from q)]
    exact ⟨rfl, fun w => absurd w q⟩
def pFs : List Int := [19, 20, 21, 22, 23, 29, 30]
def pEnd (M0 : gM) (D : Int → Int) (a N : Int) (b : Int × gM) (Y : Int × kP) : Prop :=
  (Y.1 = 0 → ∃ (M1 : gM) (T : Nat), gFr [729] pFs M0 M1 ∧ vPt M1 Y.2 T ∧ M1 729 288 = Y.2.2.1 1 ∧ (∀ q : Int, q < 272 → M1 729 q = D q) ∧ F_plan_131 (gU M1 711 18 0) a N 1 0 = some b) ∧
  (Y.1 ≠ 0 → b.1 = Y.1 ∧ ∃ M1 : gM, gFr [729] pFs M0 M1 ∧ (∀ q : Int, q < 272 → M1 729 q = D q) ∧ b.2 = gU M1 711 18 0)
theorem pEnd_of {M0 : gM} {D : Int → Int} {a N : Int} {b : Int × gM} {Y Z : Int × kP} (h : pEnd M0 D a N b Y) (e : Z.1 = Y.1) (e2 : Z.1 = 0 → Z.2 = Y.2) : pEnd M0 D a N b Z :=
  ⟨fun w => by rw [e2 w]; exact h.1 (by rw [← e]; exact w), fun w => by rw [e]; exact h.2 (by rw [← e]; exact w)⟩
theorem pEnd_bad {M0 M1 : gM} {D : Int → Int} {a N x1 x2 f : Int} {pl : kP} (h : gFr [729] pFs M0 M1) (hD : ∀ q : Int, q < 272 → M1 729 q = D q) (hf : f ≠ 0) (e : M1 711 21 = f) : ∃ b, F_plan_74 M1 x1 x2 0 = some b ∧ pEnd M0 D a N b (f, pl) := by
  rw [eq_plan_74, if_pos (show (0 : Int) = 0 from rfl), if_pos (show (0 : Int) = 0 from rfl)]
  exact ⟨_, rfl, fun w => absurd w hf, fun _ => ⟨by show gU M1 711 18 0 711 21 = f; rw [gU_idx (by decide)]; exact e, M1, h, hD, rfl⟩⟩
theorem gFr_g {A F : List Int} {M M1 M2 : gM} {F1 : List Int} (h : gFr A F M M1) (h1 : gFr [] F1 M1 M2) (hF : ∀ f ∈ F1, f ∈ F) : gFr A F M M2 := gFr_t h h1 (fun a ha => by cases ha) hF
theorem s_planNil {cs : List kC} {M0 M1 : gM} {D l : Int → Int} {a N st : Int} {k : Nat} {y : pL} (ha : 0 ≤ a ∧ a ≤ 3) (h : vS cs M1 st l y.2.1 y.2.2.1 y.2.2.2.1 y.2.2.2.2) (q0 : y.1 = 0) (hl : l 288 = y.2.2.2.1.2.1 1) (hL : 2 ≤ y.2.2.2.1.2.1 1) (e0 : y.2.2.1 = []) (hD : ∀ q : Int, q < 272 → l q = D q) (hf : gFr [729] pFs M0 M1) : ∃ b, F_plan_74 M1 a N 1 = some b ∧ pEnd M0 D a N b (lnEnd (cs.length : Int) k y) := by
  have hR := h.2.1
  rw [e0] at hR
  have r3 : M1 711 20 = y.2.1 + ((0 : Nat) : Int) := hR.2.2.1
  unfold lnEnd
  rw [eq_plan_74, if_neg (show ¬ (1 : Int) = 0 by decide), hR.1, r3, if_neg (by omega), if_neg (show ¬ (1 : Int) = 0 by decide), if_neg (show ¬ y.1 ≠ 0 from fun z => z q0), if_pos ⟨e0, hL⟩]
  obtain ⟨M2, e2, -⟩ := s_plan131 (M := gU M1 711 18 0) (n := N) ha
  exact ⟨_, e2, fun _ => ⟨M1, y.2.2.2.2, hf, h.2.2.1, (h.2.2.2.2 288 (Or.inr rfl)).trans hl, fun q hq => (h.2.2.2.2 q (Or.inl hq)).trans (hD q hq), e2⟩, fun w => absurd rfl w⟩
theorem s_planEnd {cs : List kC} {M0 : gM} {D : Int → Int} {a N : Int} (ha : 0 ≤ a ∧ a ≤ 3) : ∀ (k : Nat) (y : pL) (M1 : gM) (l : Int → Int) (st : Int), vS cs M1 st l y.2.1 y.2.2.1 y.2.2.2.1 y.2.2.2.2 → y.1 = 0 → plI (cs.length : Int) y.2.2.2.1 → y.2.2.2.2 < 32 → l 288 = y.2.2.2.1.2.1 1 → 2 ≤ y.2.2.2.1.2.1 1 → y.2.2.2.1.2.1 1 + (y.2.2.1.length : Int) ≤ 1000 → y.2.2.1.length ≤ k → (∀ q : Int, q < 272 → l q = D q) → gFr [729] pFs M0 M1 → ∃ b, F_plan_74 M1 a N 1 = some b ∧ pEnd M0 D a N b (lnEnd (cs.length : Int) k y) := by
  intro k
  induction k with
  | zero =>
    intro y M1 l st h q0 hI hT hl hL hB hk hD hf
    exact s_planNil ha h q0 hl hL (List.length_eq_zero_iff.mp (by omega)) hD hf
  | succ k ih =>
    intro y M1 l st h q0 hI hT hl hL hB hk hD hf
    by_cases e0 : y.2.2.1 = []
    · exact s_planNil ha h q0 hl hL e0 hD hf
    have hlen : 1 ≤ y.2.2.1.length := by
      cases hh : y.2.2.1 with
      | nil => exact absurd hh e0
      | cons c r => simp
    have hu := uR_len h.2.1
    rw [eq_plan_74, if_neg (show ¬ (1 : Int) = 0 by decide), h.2.1.1, h.2.1.2.2.1, if_pos (by omega)]
    obtain ⟨r2, M2, e2, g1, g2⟩ := s_gt (c := 59) h (by decide)
    have f2 : gFr [729] pFs M0 M2 := gFr_g hf (fr_takesSign e2) (by decide)
    rw [gI_bb e2]
    have un : lnEnd (cs.length : Int) (k + 1) y = if hd y.2.2.1 ≠ 59 then (-1000 - y.2.1, y.2.2.2.1) else lnGo (cs.length : Int) (k + 1) y.2.2.2.1 y.2.2.2.2 y.2.2.1.tail (y.2.1 + 1) := by
      unfold lnEnd
      rw [if_neg (show ¬ y.1 ≠ 0 from fun z => z q0), if_neg (show ¬ (y.2.2.1 = [] ∧ 2 ≤ y.2.2.2.1.2.1 1) from fun z => e0 z.1)]
    rw [un]
    by_cases q3 : hd y.2.2.1 = 59
    · obtain ⟨rfl, h2, -, -⟩ := g1 q3
      rw [if_neg (show ¬ hd y.2.2.1 ≠ 59 from fun z => z q3)]
      show ∃ b, (if (1 : Int) = 0 then _ else (F_readsLine M2).bind _) = some b ∧ _
      rw [if_neg (show ¬ (1 : Int) = 0 by decide)]
      have htl : y.2.2.1.tail.length + 1 = y.2.2.1.length := by
        cases hh : y.2.2.1 with
        | nil => exact absurd hh e0
        | cons c r => rfl
      obtain ⟨r3, M3, e3, o⟩ := s_readsLine h2 hT (by omega) hL hI
      have hp : 0 ≤ y.2.1 + 1 := by omega
      have hGo := lnGo_end (n := (cs.length : Int)) (k := k) (pl := y.2.2.2.1) (T := y.2.2.2.2) (s := y.2.2.1.tail) hp
      have hG := lnLine_G (n := (cs.length : Int)) (pl := y.2.2.2.1) (T := y.2.2.2.2) (s := y.2.2.1.tail) hp
      have hK := lnLine_K (T := y.2.2.2.2) (s := y.2.2.1.tail) hp hI
      have f3 : gFr [729] pFs M0 M3 := gFr_t f2 (fr_readsLine e3) (fun a ha => ha) (by decide)
      rw [gI_bb e3]
      generalize lnLine (cs.length : Int) y.2.2.2.1 y.2.2.2.2 y.2.2.1.tail (y.2.1 + 1) = w at o hGo hG hK ⊢
      have dD : ∀ q : Int, q < 272 → dUp l q = D q := fun q hq => by unfold dUp; rw [if_neg (by omega)]; exact hD q hq
      by_cases q' : w.1 = 0
      · obtain ⟨rfl, h3⟩ := o.1 q'
        obtain ⟨⟨c1, c2⟩, c3, c4, -⟩ := hG q'
        show ∃ b, (if (1 : Int) = 0 then _ else _) = some b ∧ _
        rw [if_neg (show ¬ (1 : Int) = 0 by decide)]
        have dl : dUp l 288 = w.2.2.2.1.2.1 1 := by unfold dUp; rw [if_pos rfl, c3, hl]
        obtain ⟨b, eb, pb⟩ := ih w M3 (dUp l) _ h3 q' (hK q') (c4 hT) dl (by omega) (by omega) (by omega) dD f3
        exact ⟨b, eb, pEnd_of pb hGo.1 hGo.2⟩
      · obtain ⟨rfl, k1, k9⟩ := o.2 q'
        show ∃ b, (if (0 : Int) = 0 then _ else _) = some b ∧ _
        rw [if_pos (show (0 : Int) = 0 from rfl)]
        obtain ⟨b, eb, pb⟩ := pEnd_bad (D := D) (a := a) (N := N) (x1 := a) (x2 := N) (pl := w.2.2.2.1) f3 (fun q hq => (k9 q hq).trans (dD q hq)) q' k1
        have un2 : lnEnd (cs.length : Int) k w = (w.1, w.2.2.2.1) := by unfold lnEnd; rw [if_pos (show w.1 ≠ 0 from q')]
        rw [un2] at hGo
        exact ⟨b, eb, pEnd_of pb hGo.1 hGo.2⟩
    · obtain ⟨rfl, k1, k9⟩ := g2 q3
      rw [if_pos (show hd y.2.2.1 ≠ 59 from q3)]
      show ∃ b, (if (0 : Int) = 0 then _ else _) = some b ∧ _
      rw [if_pos (show (0 : Int) = 0 from rfl)]
      exact pEnd_bad f2 (fun q hq => by show M2 729 q = D q; rw [k9]; exact (h.2.2.2.2 q (Or.inl hq)).trans (hD q hq)) (by omega) k1
theorem vPt_uPt {M M1 : gM} {pl : kP} {T : Nat} {a : Int} {n : Int} (h : vPt M pl T) (hl : M 729 288 = pl.2.1 1) (hI : plI n pl) (c : ∀ k : Int, 0 ≤ k → k < 68 → M1 729 (68 * a + k) = M 729 (272 + k)) (f : ∀ k : Int, 0 ≤ k → k < 120 → M1 730 (120 * a + k) = -1) : uPl 729 730 731 M1 a pl := by
  obtain ⟨⟨a1, a2, a3, a4, a5, a6, a7, a8, a9, a10, a11⟩, b, d⟩ := h
  have c0 := c 0 (by decide) (by decide)
  rw [Int.add_zero] at c0
  refine ⟨by rw [c0, hI.1]; exact a1, Or.inr hI.1, fun _ => ⟨⟨(c 1 (by decide) (by decide)).trans a2, (c 2 (by decide) (by decide)).trans a3, (c 9 (by decide) (by decide)).trans a4, (c 10 (by decide) (by decide)).trans a5, (c 11 (by decide) (by decide)).trans a6, (c 12 (by decide) (by decide)).trans a7, (c 13 (by decide) (by decide)).trans a8, (c 14 (by decide) (by decide)).trans a9, (c 15 (by decide) (by decide)).trans a10, (c 16 (by decide) (by decide)).trans hl⟩, fun i hi => ?_, fun w w0 w1 => ?_, fun k k0 k1 => ?_⟩⟩
  · obtain ⟨b1, b2, b3, b4⟩ := b i hi
    have hu := uL1_rng hi
    refine ⟨?_, b2, ?_, fun h2 => ?_⟩
    · have := c (3 + (i : Int)) (by omega) (by omega)
      rw [show 68 * a + (3 + (i : Int)) = 68 * a + 3 + (i : Int) by omega, show 272 + (3 + (i : Int)) = 275 + (i : Int) by omega] at this
      rw [this]; exact b1
    · have := rw_shift (d := 68 * a - 272) (g2 := M1 729) b3 (fun q q0 q1 => by
        rw [List.length_map] at q1
        have := c (q - 272) (by omega) (by omega)
        rw [show 68 * a + (q - 272) = q + (68 * a - 272) by omega, show 272 + (q - 272) = q by omega] at this
        exact this)
      rwa [show 272 + uL1 i + (68 * a - 272) = 68 * a + uL1 i by omega] at this
    · have h4 := hu.2.2 h2
      have := rw_shift (d := 68 * a - 272) (g2 := M1 729) (b4 h2) (fun q q0 q1 => by
        rw [List.length_map] at q1
        have := c (q - 272) (by omega) (by omega)
        rw [show 68 * a + (q - 272) = q + (68 * a - 272) by omega, show 272 + (q - 272) = q by omega] at this
        exact this)
      rwa [show 272 + uL1 i + 4 + (68 * a - 272) = 68 * a + uL1 i + 4 by omega] at this
  · have := c (58 + w) (by omega) (by omega)
    rw [show 68 * a + (58 + w) = 68 * a + 58 + w by omega, show 272 + (58 + w) = 330 + w by omega] at this
    rw [this]; exact d w w0 w1
  · have e : pl.2.2.2 k = -1 := by rw [hI.2.1]
    rw [e]
    exact ⟨f k k0 k1, fun w => absurd w (by decide)⟩
theorem s_plan {M : gM} {z : aS} {a N : Int} (h : uSt M z) : ∃ M1, F_plan M a N = some ((aPlan z a N).1, M1) ∧ uSt M1 (aPlan z a N).2 := by
  obtain ⟨h1, h2, h3, h4, h5⟩ := id h
  unfold aPlan
  rw [eq_plan, gI_bb (s_isPlan a)]
  by_cases q1 : 0 ≤ a ∧ a ≤ 3
  · rw [decide_eq_true q1, if_neg bIt, gI_bb s_in]
    by_cases q2 : 1 ≤ N ∧ N ≤ 240
    · rw [decide_eq_true q2, if_neg bIt, h2.1]
      by_cases q3 : ((aTp z).length : Int) < N
      · rw [if_pos q3, if_neg (fun w => by have := w.2.2; omega)]; exact ⟨M, rfl, h⟩
      rw [if_neg q3, if_pos (show (0 ≤ a ∧ a ≤ 3) ∧ (1 ≤ N ∧ N ≤ 240) ∧ N ≤ ((aTp z).length : Int) from ⟨q1, q2, by omega⟩), eq_beginsText]
      show ∃ M1, (Option.bind (F_beginsPlan (gU (gU M 711 19 0) 711 20 N)) _) = some (_, M1) ∧ _
      generalize hMa : gU (gU M 711 19 0) 711 20 N = Ma
      have fa : gFr [729] pFs M Ma := by rw [← hMa]; exact gFr_f (gFr_f (gFr_r _ _ _) (by decide)) (by decide)
      obtain ⟨M2, e2, v2, l2, k2⟩ := s_beginsPlan Ma
      have fb : gFr [729] [] Ma M2 := fr_beginsPlan e2
      rw [gI_bb e2]
      have f2 : gFr [729] pFs M M2 := gFr_t fa fb (fun a ha => ha) (fun a ha => by cases ha)
      have e9 : Ma 729 = M 729 := by rw [← hMa, gU_cell _ _ _ (by decide), gU_cell _ _ _ (by decide)]
      have hlen : ((aTp z).take N.toNat).length = N.toNat := by rw [List.length_take]; omega
      have hR : uR M2 0 ((aTp z).take N.toNat) := uR_by h2 (by omega) (by rw [fb.2 19 (by decide), ← hMa, gU_idx (by decide), gU_same]) (by rw [fb.2 20 (by decide), ← hMa, gU_same]; omega) (by rw [fb.1 726 (by decide) (by decide), ← hMa, gU_cell _ _ _ (by decide), gU_cell _ _ _ (by decide)])
      have hS : vS (aCs z) M2 (M2 711 30) (M2 729) 0 ((aTp z).take N.toNat) (plB0 0 0) 0 := ⟨uC_same h1 (f2.2 0 (by decide)) (fun b b0 b1 => f2.1 b (by simp; omega) (by omega)), hR, v2, rfl, fun q hq => rfl⟩
      have hD : ∀ q : Int, q < 272 → M2 729 q = M 729 q := fun q hq => by rw [k2 q hq, e9]
      -- what is read
      have key : ∃ b, (Option.bind (F_readsHistory M2 215533 1) (fun p42 =>
                  (if p42.1 = 0 then
                    F_plan_74 p42.2 a N 0
                  else
                    (Option.bind (F_takesSign p42.2 59) (fun p51 =>
                      (if p51.1 = 0 then
                        F_plan_74 p51.2 a N 0
                      else
                        (Option.bind (F_readsHistory p51.2 655 2) (fun p62 =>
                          (if p62.1 = 0 then
                            F_plan_74 p62.2 a N 0
                          else
                            F_plan_74 p62.2 a N 1))))))))) = some b ∧ pEnd M (M 729) a N b (aText ((aCs z).length : Int) ((aTp z).take N.toNat)) := by
        unfold aText
        generalize (aTp z).take N.toNat = s at hlen hR hS ⊢
        obtain ⟨r3, M3, e3, o3⟩ := s_hist0 hS rfl
        have f3 : gFr [729] pFs M M3 := gFr_t f2 (fr_readsHistory e3) (fun a ha => ha) (by decide)
        rw [gI_bb e3]
        have hGo := lnGo_end (n := ((aCs z).length : Int)) (k := s.length) (pl := plB0 0 0) (T := 0) (s := s) (p := 0) (by decide)
        have hG := lnLine_G (n := ((aCs z).length : Int)) (pl := plB0 0 0) (T := 0) (s := s) (p := 0) (by decide)
        have hK := lnLine_K (n := ((aCs z).length : Int)) (T := 0) (s := s) (p := 0) (by decide) (plI_b0 _)
        generalize lnLine ((aCs z).length : Int) (plB0 0 0) 0 s 0 = y at o3 hGo hG hK
        by_cases q : y.1 = 0
        · obtain ⟨rfl, h3⟩ := o3.1 q
          obtain ⟨⟨c1, c2⟩, c3, c4, -⟩ := hG q
          have c3' : y.2.2.2.1.2.1 1 = 1 := c3
          show ∃ b, (if (1 : Int) = 0 then _ else (Option.bind (F_takesSign M3 59) _)) = some b ∧ _
          rw [if_neg (show ¬ (1 : Int) = 0 by decide)]
          obtain ⟨r4, M4, e4, g1, g2⟩ := s_gt (c := 59) h3 (by decide)
          have f4 : gFr [729] pFs M M4 := gFr_g f3 (fr_takesSign e4) (by decide)
          rw [gI_bb e4]
          have un : lnEnd ((aCs z).length : Int) s.length y = if hd y.2.2.1 ≠ 59 then (-1000 - y.2.1, y.2.2.2.1) else lnGo ((aCs z).length : Int) s.length y.2.2.2.1 y.2.2.2.2 y.2.2.1.tail (y.2.1 + 1) := by
            unfold lnEnd
            rw [if_neg (show ¬ y.1 ≠ 0 from fun z => z q), if_neg (show ¬ (y.2.2.1 = [] ∧ 2 ≤ y.2.2.2.1.2.1 1) from fun z => by have := z.2; omega)]
          rw [un] at hGo
          by_cases q3 : hd y.2.2.1 = 59
          · obtain ⟨rfl, h4', -, -⟩ := g1 q3
            rw [if_neg (show ¬ hd y.2.2.1 ≠ 59 from fun z => z q3)] at hGo
            show ∃ b, (if (1 : Int) = 0 then _ else (Option.bind (F_readsHistory M4 655 2) _)) = some b ∧ _
            rw [if_neg (show ¬ (1 : Int) = 0 by decide)]
            have htl : y.2.2.1.tail.length + 1 = y.2.2.1.length := by
              cases hh : y.2.2.1 with
              | nil => rw [hh] at q3; exact absurd q3 (by decide)
              | cons c r => rfl
            have hp : 0 ≤ y.2.1 + 1 := by omega
            obtain ⟨r5, M5, e5, o5⟩ := s_hist1 h4' c3'
            have f5 : gFr [729] pFs M M5 := gFr_t f4 (fr_readsHistory e5) (fun a ha => ha) (by decide)
            rw [gI_bb e5]
            obtain ⟨k, hk⟩ : ∃ k, s.length = k + 1 := ⟨s.length - 1, by omega⟩
            rw [hk] at hGo
            have hGo2 := lnGo_end (n := ((aCs z).length : Int)) (k := k) (pl := y.2.2.2.1) (T := y.2.2.2.2) (s := y.2.2.1.tail) hp
            have hG2 := lnLine_G (n := ((aCs z).length : Int)) (pl := y.2.2.2.1) (T := y.2.2.2.2) (s := y.2.2.1.tail) hp
            have hK2 := lnLine_K (T := y.2.2.2.2) (s := y.2.2.1.tail) hp (hK q)
            generalize lnLine ((aCs z).length : Int) y.2.2.2.1 y.2.2.2.2 y.2.2.1.tail (y.2.1 + 1) = w at o5 hGo2 hG2 hK2
            rw [hk]
            have fin : ∀ b, pEnd M (M 729) a N b (lnEnd ((aCs z).length : Int) k w) → pEnd M (M 729) a N b (lnGo ((aCs z).length : Int) (k + 1 + 1) (plB0 0 0) 0 s 0) := fun b pb => pEnd_of (pEnd_of pb hGo2.1 hGo2.2) hGo.1 hGo.2
            by_cases q' : w.1 = 0
            · obtain ⟨rfl, h5'⟩ := o5.1 q'
              obtain ⟨⟨d1, d2⟩, d3, d4, -⟩ := hG2 q'
              show ∃ b, (if (1 : Int) = 0 then _ else _) = some b ∧ _
              rw [if_neg (show ¬ (1 : Int) = 0 by decide)]
              have hw2 : w.2.2.2.1.2.1 1 = 2 := by rw [d3, c3']; rfl
              obtain ⟨b, eb, pb⟩ := s_planEnd (D := M 729) (a := a) (N := N) q1 k w M5 (M2 729) _ h5' q' (hK2 q') (d4 (c4 (by decide))) (by rw [hw2]; exact l2) (by omega) (by omega) (by omega) hD f5
              exact ⟨b, eb, fin b pb⟩
            · obtain ⟨rfl, k1, k9⟩ := o5.2 q'
              show ∃ b, (if (0 : Int) = 0 then _ else _) = some b ∧ _
              rw [if_pos (show (0 : Int) = 0 from rfl)]
              obtain ⟨b, eb, pb⟩ := pEnd_bad (D := M 729) (a := a) (N := N) (x1 := a) (x2 := N) (pl := w.2.2.2.1) f5 (fun q hq => (k9 q hq).trans (hD q hq)) q' k1
              have un2 : lnEnd ((aCs z).length : Int) k w = (w.1, w.2.2.2.1) := by unfold lnEnd; rw [if_pos (show w.1 ≠ 0 from q')]
              rw [un2] at fin
              exact ⟨b, eb, fin b pb⟩
          · obtain ⟨rfl, k1, k9⟩ := g2 q3
            rw [if_pos (show hd y.2.2.1 ≠ 59 from q3)] at hGo
            show ∃ b, (if (0 : Int) = 0 then _ else _) = some b ∧ _
            rw [if_pos (show (0 : Int) = 0 from rfl)]
            obtain ⟨b, eb, pb⟩ := pEnd_bad (D := M 729) (a := a) (N := N) (x1 := a) (x2 := N) (pl := y.2.2.2.1) f4 (fun q hq => by rw [k9]; exact (h3.2.2.2.2 q (Or.inl hq)).trans (hD q hq)) (show (-1000 - y.2.1 : Int) ≠ 0 by omega) k1
            exact ⟨b, eb, pEnd_of pb hGo.1 hGo.2⟩
        · obtain ⟨rfl, k1, k9⟩ := o3.2 q
          show ∃ b, (if (0 : Int) = 0 then _ else _) = some b ∧ _
          rw [if_pos (show (0 : Int) = 0 from rfl)]
          obtain ⟨b, eb, pb⟩ := pEnd_bad (D := M 729) (a := a) (N := N) (x1 := a) (x2 := N) (pl := y.2.2.2.1) f3 (fun q hq => (k9 q hq).trans (hD q hq)) q k1
          have un2 : lnEnd ((aCs z).length : Int) s.length y = (y.1, y.2.2.2.1) := by unfold lnEnd; rw [if_pos (show y.1 ≠ 0 from q)]
          rw [un2] at hGo
          exact ⟨b, eb, pEnd_of pb hGo.1 hGo.2⟩
      obtain ⟨b, eb, pb⟩ := key
      rw [eb]
      have hI := aText_I (n := ((aCs z).length : Int)) (s := (aTp z).take N.toNat)
      generalize aText ((aCs z).length : Int) ((aTp z).take N.toNat) = Y at pb hI ⊢
      have hF : (0 : Int) ∉ pFs ∧ (18 : Int) ∉ pFs ∧ (70 : Int) ∉ pFs ∧ (71 : Int) ∉ pFs := by decide
      by_cases q : Y.1 = 0
      · obtain ⟨M9, T, f9, v9, e288, eD, e131⟩ := pb.1 q
        obtain ⟨M10, e10, c1, c2, c3, c4, c5⟩ := s_plan131 (M := gU M9 711 18 0) (n := N) q1
        have eb' : b = ((gU M9 711 18 0) 729 288, M10) := Option.some.inj (e131.symm.trans e10)
        have g9 : ∀ x : Int, x ≠ 711 → gU M9 711 18 0 x = M9 x := fun x hx => gU_cell _ _ _ hx
        rw [if_pos q, eb']
        refine ⟨M10, ?_, ?_⟩
        · show some ((gU M9 711 18 0) 729 288, M10) = some (Y.2.2.1 1, M10)
          rw [g9 729 (by decide), e288]
        · have o : ∀ x : Int, x ≠ 711 → x ≠ 729 → x ≠ 730 → M10 x = M x := fun x h7 h9 h0 => by rw [c5 x h9 h0, g9 x h7, f9.1 x (by simp; omega) h7]
          have o7 : ∀ f : Int, f ∉ pFs → f ≠ 18 → M10 711 f = M 711 f := fun f hf hf8 => by rw [c5 711 (by decide) (by decide), gU_idx hf8, f9.2 f hf]
          refine ⟨uC_same h1 (o7 0 hF.1 (by decide)) (fun b b0 b1 => o b (by omega) (by omega) (by omega)), uBy_nil (by rw [c5 711 (by decide) (by decide), gU_same]), fun i i0 i1 => ?_, fun p p0 p1 => ?_, ?_⟩
          · exact uRfX_of (A := 727) (B := 728) (h3 i i0 i1) (fun q _ _ => by rw [o 727 (by decide) (by decide) (by decide)]) (fun q _ _ => by rw [o 728 (by decide) (by decide) (by decide)])
          · show uPl 729 730 731 M10 p (if p = a then Y.2 else aPl z p)
            by_cases ep : p = a
            · rw [if_pos ep, ep]
              exact vPt_uPt v9 e288 (hI q) (fun k k0 k1 => by rw [c1 k k0 k1, g9 729 (by decide)]) c3
            · rw [if_neg ep]
              exact uPl_of (h4 p p0 p1) (fun q q0 q1 => by rw [c2 q (by omega), g9 729 (by decide), eD q (by omega)]) (fun q q0 q1 => by rw [c4 q (by omega), g9 730 (by decide), f9.1 730 (by decide) (by decide)]) (fun q _ _ => by rw [o 731 (by decide) (by decide) (by decide)])
          · rcases h5 with ⟨a1, b1⟩ | ⟨a1, b1, cc, d1, ff⟩
            · exact Or.inl ⟨a1, by rw [o7 71 hF.2.2.2 (by decide)]; exact b1⟩
            · refine Or.inr ⟨a1, by rw [o7 71 hF.2.2.2 (by decide)]; exact b1, by rw [o7 70 hF.2.2.1 (by decide)]; exact cc, fun i i0 i1 => ?_, fun p p0 p1 => ?_⟩
              · exact uRfX_of (d1 i i0 i1) (fun q _ _ => by rw [o 753 (by decide) (by decide) (by decide)]) (fun q _ _ => by rw [o 754 (by decide) (by decide) (by decide)])
              · exact uPl_of (ff p p0 p1) (fun q _ _ => by rw [o 755 (by decide) (by decide) (by decide)]) (fun q _ _ => by rw [o 756 (by decide) (by decide) (by decide)]) (fun q _ _ => by rw [o 757 (by decide) (by decide) (by decide)])
      · obtain ⟨eb1, M9, f9, eD, eb2⟩ := pb.2 q
        rw [if_neg q]
        refine ⟨b.2, by rw [← eb1], ?_⟩
        rw [eb2]
        have o : ∀ x : Int, x ≠ 711 → x ≠ 729 → gU M9 711 18 0 x = M x := fun x h7 h9 => by rw [gU_cell _ _ _ h7, f9.1 x (by simp; omega) h7]
        have o7 : ∀ f : Int, f ∉ pFs → f ≠ 18 → gU M9 711 18 0 711 f = M 711 f := fun f hf hf8 => by rw [gU_idx hf8, f9.2 f hf]
        have o9 : ∀ q : Int, q < 272 → gU M9 711 18 0 729 q = M 729 q := fun q hq => by rw [gU_cell _ _ _ (show (729 : Int) ≠ 711 by decide)]; exact eD q hq
        refine ⟨uC_same h1 (o7 0 hF.1 (by decide)) (fun b b0 b1 => o b (by omega) (by omega)), uBy_nil (gU_same _ _ _ _), fun i i0 i1 => ?_, fun p p0 p1 => ?_, ?_⟩
        · exact uRfX_of (A := 727) (B := 728) (h3 i i0 i1) (fun q _ _ => by rw [o 727 (by decide) (by decide)]) (fun q _ _ => by rw [o 728 (by decide) (by decide)])
        · exact uPl_of (h4 p p0 p1) (fun q q0 q1 => o9 q (by omega)) (fun q q0 q1 => by rw [o 730 (by decide) (by decide)]) (fun q _ _ => by rw [o 731 (by decide) (by decide)])
        · rcases h5 with ⟨a1, b1⟩ | ⟨a1, b1, cc, d1, ff⟩
          · exact Or.inl ⟨a1, by rw [o7 71 hF.2.2.2 (by decide)]; exact b1⟩
          · refine Or.inr ⟨a1, by rw [o7 71 hF.2.2.2 (by decide)]; exact b1, by rw [o7 70 hF.2.2.1 (by decide)]; exact cc, fun i i0 i1 => ?_, fun p p0 p1 => ?_⟩
            · exact uRfX_of (d1 i i0 i1) (fun q _ _ => by rw [o 753 (by decide) (by decide)]) (fun q _ _ => by rw [o 754 (by decide) (by decide)])
            · exact uPl_of (ff p p0 p1) (fun q _ _ => by rw [o 755 (by decide) (by decide)]) (fun q _ _ => by rw [o 756 (by decide) (by decide)]) (fun q _ _ => by rw [o 757 (by decide) (by decide)])
    · rw [decide_eq_false q2, if_pos bIf, if_neg (fun w => q2 w.2.1)]; exact ⟨M, rfl, h⟩
  · rw [decide_eq_false q1, if_pos bIf, if_neg (fun w => q1 w.1)]; exact ⟨M, rfl, h⟩
