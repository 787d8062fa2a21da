-- ==== planIs on both sides
theorem cnt_T {f : Nat → Bool} {n : Nat} (h : f n = true) : cnt f (n + 1) = cnt f n + 1 := by rw [cnt, h]; rfl
theorem cnt_F {f : Nat → Bool} {n : Nat} (h : f n = false) : cnt f (n + 1) = cnt f n := by rw [cnt, h]; exact Int.add_zero _
theorem cnt_top {f : Nat → Bool} {n : Nat} : ∀ m : Nat, (∀ k, n ≤ k → k < n + m → f k = false) → cnt f (n + m) = cnt f n
  | 0, _ => rfl
  | m + 1, h => by rw [← Nat.add_assoc, cnt_F (h (n + m) (by omega) (by omega))]; exact cnt_top m (fun k a b => h k a (by omega))
/-- which COMMITS of a PLAN are counted -/
def plS (pl : kP) (i : Int) (k : Nat) : Bool := decide (0 ≤ pl.2.2.2 (k : Int) ∧ (i = 8 ∨ (i = 9 ∧ pl.2.2.2 (k : Int) = 0) ∨ (i = 10 ∧ pl.2.2.2 (k : Int) = 1) ∨ (i = 11 ∧ pl.2.2.2 (k : Int) = 2) ∨ (i = 12 ∧ pl.2.2.1 (k : Int) < 0)))
def plTop (n : Nat) (pl : kP) : Prop := pl.2.1 0 = 1 → ∀ k : Int, (n : Int) ≤ k → k < 120 → pl.2.2.2 k = -1
def plIs (pl : kP) (n : Nat) (i : Int) : Int :=
  if pl.2.1 0 = 0 then -2 else if i = 0 then pl.2.1 2 else if i = 1 then pl.2.1 3 else if i = 2 then ((pl.1 0).length : Int) else if i = 3 then ((pl.1 1).length : Int) else if i = 4 then ((pl.1 2).length : Int) else if i = 5 then pl.2.1 12 else if i = 6 then pl.2.1 13 else if i = 7 then pl.2.1 14 else if i = 8 then cnt (plS pl 8) n else if i = 9 then cnt (plS pl 9) n else if i = 10 then cnt (plS pl 10) n else if i = 11 then cnt (plS pl 11) n else if i = 12 then cnt (plS pl 12) n else if i = 13 then pl.2.1 1 else if i = 14 then pl.2.1 11 else if i = 15 then pl.2.1 15 else if i = 16 then pl.2.1 16 else if i = 17 then ((pl.1 3).length : Int) else if i = 18 then ((pl.1 4).length : Int) else if i = 19 then ((pl.1 5).length : Int) else ((pl.1 6).length : Int)
def aPlanIs (fA : Int → kP) (n : Nat) (p i : Int) : Int := if (0 ≤ p ∧ p ≤ 3) ∧ (0 ≤ i ∧ i ≤ 20) then plIs (fA p) n i else -1
theorem s_mapped {M : gM} {p w : Int} {pl : kP} {n : Nat} (h : uPl 729 730 731 M p pl) (hp : 0 ≤ p ∧ p ≤ 3) (h1 : pl.2.1 0 = 1) (hG : plGd pl) (hT : plTop n pl) (hn : n ≤ 120) (hw : -1 ≤ w ∧ w ≤ 2) : F_mapped M p w = some (cnt (plS pl (w + 9)) n) := by
  have hg := hG.2 h1
  have ht := (h.2.2 h1).2.2.2
  have e120 : cnt (plS pl (w + 9)) 120 = cnt (plS pl (w + 9)) n := by
    have := cnt_top (f := plS pl (w + 9)) (n := n) (120 - n) (fun k a b => by
      unfold plS
      rw [hT h1 k (by omega) (by omega)]
      exact decide_eq_false (fun z => by omega))
    rw [show n + (120 - n) = 120 by omega] at this; exact this
  have lp : ∀ (m i : Nat), i + m = 120 → F_mapped_5 M p w (cnt (plS pl (w + 9)) i) (i : Int) = some (cnt (plS pl (w + 9)) 120) := by
    intro m
    induction m with
    | zero => intro i hi; rw [eq_mapped_5, if_neg (by omega), show i = 120 by omega]
    | succ m ih =>
      intro i hi
      have hr := cnt_rng (plS pl (w + 9)) i
      rw [eq_mapped_5, if_pos (by omega)]
      simp (disch := omega) only [gw32_id]
      have t1 := (ht (i : Int) (by omega) (by omega)).1
      have g1 := (hg (i : Int) (by omega) (by omega)).1
      have hs : plS pl (w + 9) i = decide (0 ≤ pl.2.2.2 (i : Int) ∧ (w = -1 ∨ pl.2.2.2 (i : Int) = w)) := by
        unfold plS
        by_cases z : 0 ≤ pl.2.2.2 (i : Int) ∧ (w = -1 ∨ pl.2.2.2 (i : Int) = w)
        · rw [decide_eq_true z]; exact decide_eq_true (by omega)
        · rw [decide_eq_false z]; exact decide_eq_false (by omega)
      have ih1 := ih (i + 1) (by omega)
      by_cases w1 : w = -1
      · rw [if_pos w1, if_pos (by omega), t1]
        by_cases e : pl.2.2.2 (i : Int) = -1
        · rw [if_pos e]; rw [cnt_F (by rw [hs]; exact decide_eq_false (by omega))] at ih1; exact ih1
        · rw [if_neg e]; rw [cnt_T (by rw [hs]; exact decide_eq_true (by omega))] at ih1; exact ih1
      · rw [if_neg w1, if_pos (by omega), t1]
        by_cases e : pl.2.2.2 (i : Int) = w
        · rw [if_pos e]; rw [cnt_T (by rw [hs]; exact decide_eq_true (by omega))] at ih1; exact ih1
        · rw [if_neg e]; rw [cnt_F (by rw [hs]; exact decide_eq_false (by omega))] at ih1; exact ih1
  rw [eq_mapped, ← e120]
  exact lp 120 0 (by omega)
theorem s_withoutImage {M : gM} {p : Int} {pl : kP} {n : Nat} (h : uPl 729 730 731 M p pl) (hp : 0 ≤ p ∧ p ≤ 3) (h1 : pl.2.1 0 = 1) (hG : plGd pl) (hT : plTop n pl) (hn : n ≤ 120) : F_withoutImage M p = some (cnt (plS pl 12) n) := by
  have hg := hG.2 h1
  have ht := (h.2.2 h1).2.2.2
  have e120 : cnt (plS pl 12) 120 = cnt (plS pl 12) n := by
    have := cnt_top (f := plS pl 12) (n := n) (120 - n) (fun k a b => by
      unfold plS
      rw [hT h1 k (by omega) (by omega)]
      exact decide_eq_false (fun z => by omega))
    rw [show n + (120 - n) = 120 by omega] at this; exact this
  have lp : ∀ (m i : Nat), i + m = 120 → F_withoutImage_4 M p (cnt (plS pl 12) i) (i : Int) = some (cnt (plS pl 12) 120) := by
    intro m
    induction m with
    | zero => intro i hi; rw [eq_withoutImage_4, if_neg (by omega), show i = 120 by omega]
    | succ m ih =>
      intro i hi
      have hr := cnt_rng (plS pl 12) i
      rw [eq_withoutImage_4, if_pos (by omega)]
      simp (disch := omega) only [gw32_id]
      obtain ⟨t1, t2⟩ := ht (i : Int) (by omega) (by omega)
      obtain ⟨g1, g2⟩ := hg (i : Int) (by omega) (by omega)
      have hs : plS pl 12 i = decide (0 ≤ pl.2.2.2 (i : Int) ∧ pl.2.2.1 (i : Int) < 0) := by
        unfold plS
        by_cases z : 0 ≤ pl.2.2.2 (i : Int) ∧ pl.2.2.1 (i : Int) < 0
        · rw [decide_eq_true z]; exact decide_eq_true (by omega)
        · rw [decide_eq_false z]; exact decide_eq_false (by omega)
      have ih1 := ih (i + 1) (by omega)
      rw [if_pos (by omega), t1]
      by_cases e : pl.2.2.2 (i : Int) = -1
      · rw [if_pos e]; rw [cnt_F (by rw [hs]; exact decide_eq_false (by omega))] at ih1; exact ih1
      · rw [if_neg e, t2 (by omega)]
        by_cases e2 : pl.2.2.1 (i : Int) = -1
        · rw [if_pos e2]; rw [cnt_T (by rw [hs]; exact decide_eq_true (by omega))] at ih1; exact ih1
        · rw [if_neg e2]; rw [cnt_F (by rw [hs]; exact decide_eq_false (by omega))] at ih1; exact ih1
  rw [eq_withoutImage, ← e120]
  exact lp 120 0 (by omega)
theorem s_planIs {M : gM} {fA : Int → kP} {n : Nat} {p i : Int} (hP : ∀ p : Int, 0 ≤ p → p < 4 → uPl 729 730 731 M p (fA p)) (hG : ∀ p : Int, 0 ≤ p → p < 4 → plGd (fA p)) (hT : ∀ p : Int, 0 ≤ p → p < 4 → plTop n (fA p)) (hn : n ≤ 120) : F_planIs M p i = some (aPlanIs fA n p i) := by
  unfold aPlanIs
  rw [eq_planIs, gI_bb (s_isPlan p)]
  by_cases q1 : 0 ≤ p ∧ p ≤ 3
  · rw [decide_eq_true q1, if_neg bIt, gI_bb s_in]
    by_cases q2 : 0 ≤ i ∧ i ≤ 20
    · have hp := hP p q1.1 (by omega)
      have hg := hG p q1.1 (by omega)
      have ht := hT p q1.1 (by omega)
      rw [decide_eq_true q2, if_neg bIt, gI_bb (s_isToldPlan hp q1), if_pos (show (0 ≤ p ∧ p ≤ 3) ∧ (0 ≤ i ∧ i ≤ 20) from ⟨q1, q2⟩)]
      generalize fA p = pl at hp hg ht ⊢
      unfold plIs
      by_cases q3 : pl.2.1 0 = 0
      · rw [if_pos q3, if_pos q3]
      · rw [if_neg q3, if_neg q3]
        have h1 : pl.2.1 0 = 1 := by rcases hg.1 with e | e <;> omega
        obtain ⟨⟨c1, c2, c3, c4, c5, c6, c7, c8, c9, c10⟩, hl, -, -⟩ := hp.2.2 h1
        have of : ∀ f : Int, 0 ≤ f → f < 68 → F_ofPlan M p f = some (M 729 (68 * p + f)) := fun f f0 f1 => by
          rw [eq_ofPlan]
          simp (disch := omega) only [gw32_id]
          rw [if_pos (by omega)]
        have mo : ∀ f : Nat, f < 6 → F_manyOf M p ((f : Int) + 1) = some ((pl.1 f).length : Int) := fun f f1 => by
          rw [eq_manyOf]
          simp (disch := omega) only [gw32_id]
          rw [if_pos (by omega), show 68 * p + 2 + ((f : Int) + 1) = 68 * p + 3 + (f : Int) by omega, (hl f f1).1]
        by_cases z0 : i = 0
        · rw [if_pos z0, if_pos z0, gI_bb (of 1 (by decide) (by decide)), c1]
        rw [if_neg z0, if_neg z0]
        by_cases z1 : i = 1
        · rw [if_pos z1, if_pos z1, gI_bb (of 2 (by decide) (by decide)), c2]
        rw [if_neg z1, if_neg z1]
        by_cases z2 : i = 2
        · rw [if_pos z2, if_pos z2]; exact gI_bb (mo 0 (by decide))
        rw [if_neg z2, if_neg z2]
        by_cases z3 : i = 3
        · rw [if_pos z3, if_pos z3]; exact gI_bb (mo 1 (by decide))
        rw [if_neg z3, if_neg z3]
        by_cases z4 : i = 4
        · rw [if_pos z4, if_pos z4]; exact gI_bb (mo 2 (by decide))
        rw [if_neg z4, if_neg z4]
        by_cases z5 : i = 5
        · rw [if_pos z5, if_pos z5, gI_bb (of 11 (by decide) (by decide)), c5]
        rw [if_neg z5, if_neg z5]
        by_cases z6 : i = 6
        · rw [if_pos z6, if_pos z6, gI_bb (of 12 (by decide) (by decide)), c6]
        rw [if_neg z6, if_neg z6]
        by_cases z7 : i = 7
        · rw [if_pos z7, if_pos z7, gI_bb (of 13 (by decide) (by decide)), c7]
        rw [if_neg z7, if_neg z7]
        by_cases z8 : i = 8
        · rw [if_pos z8, if_pos z8]; exact gI_bb (s_mapped (w := -1) hp q1 h1 hg ht hn (by decide))
        rw [if_neg z8, if_neg z8]
        by_cases z9 : i = 9
        · rw [if_pos z9, if_pos z9]; exact gI_bb (s_mapped (w := 0) hp q1 h1 hg ht hn (by decide))
        rw [if_neg z9, if_neg z9]
        by_cases z10 : i = 10
        · rw [if_pos z10, if_pos z10]; exact gI_bb (s_mapped (w := 1) hp q1 h1 hg ht hn (by decide))
        rw [if_neg z10, if_neg z10]
        by_cases z11 : i = 11
        · rw [if_pos z11, if_pos z11]; exact gI_bb (s_mapped (w := 2) hp q1 h1 hg ht hn (by decide))
        rw [if_neg z11, if_neg z11]
        by_cases z12 : i = 12
        · rw [if_pos z12, if_pos z12]; exact gI_bb (s_withoutImage hp q1 h1 hg ht hn)
        rw [if_neg z12, if_neg z12]
        by_cases z13 : i = 13
        · rw [if_pos z13, if_pos z13, gI_bb (of 16 (by decide) (by decide)), c10]
        rw [if_neg z13, if_neg z13]
        by_cases z14 : i = 14
        · rw [if_pos z14, if_pos z14, gI_bb (of 10 (by decide) (by decide)), c4]
        rw [if_neg z14, if_neg z14]
        by_cases z15 : i = 15
        · rw [if_pos z15, if_pos z15, gI_bb (of 14 (by decide) (by decide)), c8]
        rw [if_neg z15, if_neg z15]
        by_cases z16 : i = 16
        · rw [if_pos z16, if_pos z16, gI_bb (of 15 (by decide) (by decide)), c9]
        rw [if_neg z16, if_neg z16]
        by_cases z17 : i = 17
        · rw [if_pos z17, if_pos z17]; exact gI_bb (mo 3 (by decide))
        rw [if_neg z17, if_neg z17]
        by_cases z18 : i = 18
        · rw [if_pos z18, if_pos z18]; exact gI_bb (mo 4 (by decide))
        rw [if_neg z18, if_neg z18]
        by_cases z19 : i = 19
        · rw [if_pos z19, if_pos z19]; exact gI_bb (mo 5 (by decide))
        rw [if_neg z19, if_neg z19]
        rw [gI_bb (of 9 (by decide) (by decide)), c3]
    · rw [decide_eq_false q2, if_pos bIf, if_neg (fun z => q2 z.2)]
  · rw [decide_eq_false q1, if_pos bIf, if_neg (fun z => q1 z.1)]
theorem sp_X11_mapIs {sh : gS} {M : gM} {cs : List kC} {a i : Int} {pl : kP} (hOK : gOK sh M) (hC : cOk sh M cs) (hP : plOk sh M a pl) (hi : 8 ≤ i ∧ i ≤ 12) : gC (gr 1 21) yX11_mapIs cX11_mapIs 7 (some (.int)) [(4, 0), (4, a), (0, i)] sh M (gPp sh M (0, cnt (plS pl i) cs.length)) := by
  obtain ⟨hSh, -, -, -, hT⟩ := id hP
  have hl9 := hC.2.1
  have h40 := hC.1
  refine w_X11_mapIs hOK ?_
  have lp : ∀ (m k : Nat), k + m = cs.length → P_X11_mapIs_5 sh (gPp sh M (0, cnt (plS pl i) cs.length)) a i (cnt (plS pl i) k) (k : Int) M := by
    intro m
    induction m with
    | zero =>
      intro k hk
      refine w_X11_mapIs_5 hOK ?_
      rw [if_neg (by omega), show k = cs.length by omega]
      exact ⟨rfl, rfl, rfl⟩
    | succ m ih =>
      intro k hk
      have hr := cnt_rng (plS pl i) k
      obtain ⟨t1, t2⟩ := hT (k : Int) (by omega) (by omega)
      have ih1 := ih (k + 1) (by omega)
      have yes : plS pl i k = true → P_X11_mapIs_5 sh (gPp sh M (0, cnt (plS pl i) cs.length)) a i (gw32 (cnt (plS pl i) k + 1)) (gw32 ((k : Int) + 1)) M := fun hs => by
        rw [gw32_id (by omega) (by omega), gw32_id (by omega) (by omega)]
        rw [cnt_T hs] at ih1; exact ih1
      have no : plS pl i k = false → P_X11_mapIs_5 sh (gPp sh M (0, cnt (plS pl i) cs.length)) a i (cnt (plS pl i) k) (gw32 ((k : Int) + 1)) M := fun hs => by
        rw [gw32_id (z := (k : Int) + 1) (by omega) (by omega)]
        rw [cnt_F hs] at ih1; exact ih1
      refine w_X11_mapIs_5 hOK ?_
      rw [if_pos (by omega)]
      refine ⟨⟨hSh.1, by have := hSh.2.2.2.2.2.2.2.2.2.2; omega⟩, _, sp_X5_isMapped hOK hP (by omega), ?_⟩
      by_cases q : 0 ≤ pl.2.2.2 (k : Int)
      · rw [if_pos q, if_neg (by decide)]
        refine ⟨_, hSh.2.2.2.2.2.2.2.2.2.1, by omega, ?_⟩
        rw [t2]
        have last : (i = 12 → P_X11_mapIs_79 sh (gPp sh M (0, cnt (plS pl i) cs.length)) a i (cnt (plS pl i) k) (k : Int) (pl.2.2.2 (k : Int)) M) ∧ (i ≠ 12 → plS pl i k = false → P_X11_mapIs_79 sh (gPp sh M (0, cnt (plS pl i) cs.length)) a i (cnt (plS pl i) k) (k : Int) (pl.2.2.2 (k : Int)) M) := by
          refine ⟨fun e => w_X11_mapIs_79 hOK ?_, fun e hs => w_X11_mapIs_79 hOK ?_⟩
          · rw [if_pos e]
            refine ⟨⟨hSh.1, by have := hSh.2.2.2.2.2.2.2.2.2.2; omega⟩, _, hSh.2.2.2.2.2.2.2.2.1, by omega, ?_⟩
            rw [t1]
            by_cases z : pl.2.2.1 (k : Int) < 0
            · rw [if_pos z]; exact yes (decide_eq_true (by omega))
            · rw [if_neg z]; exact no (decide_eq_false (by omega))
          · rw [if_neg e]; exact no hs
        by_cases i8 : i = 8
        · rw [if_pos i8]; exact yes (decide_eq_true (by omega))
        · rw [if_neg i8]
          have nx : i ≠ 9 ∨ pl.2.2.2 (k : Int) ≠ 0 → P_X11_mapIs_55 sh (gPp sh M (0, cnt (plS pl i) cs.length)) a i (cnt (plS pl i) k) (k : Int) (pl.2.2.2 (k : Int)) M := fun hne => by
            refine w_X11_mapIs_55 hOK ?_
            by_cases i10 : i = 10
            · rw [if_pos i10]
              by_cases z : pl.2.2.2 (k : Int) = 1
              · rw [if_pos z]; exact yes (decide_eq_true (by omega))
              · rw [if_neg z, if_neg (show ¬ i = 11 by omega)]; exact last.2 (by omega) (decide_eq_false (by omega))
            · rw [if_neg i10]
              by_cases i11 : i = 11
              · rw [if_pos i11]
                by_cases z : pl.2.2.2 (k : Int) = 2
                · rw [if_pos z]; exact yes (decide_eq_true (by omega))
                · rw [if_neg z]; exact last.2 (by omega) (decide_eq_false (by omega))
              · rw [if_neg i11]
                by_cases i12 : i = 12
                · exact last.1 i12
                · exact last.2 i12 (decide_eq_false (by omega))
          by_cases i9 : i = 9
          · rw [if_pos i9]
            by_cases z : pl.2.2.2 (k : Int) = 0
            · rw [if_pos z]; exact yes (decide_eq_true (by omega))
            · rw [if_neg z]; exact nx (Or.inr z)
          · rw [if_neg i9]; exact nx (Or.inl i9)
      · rw [if_neg q, if_pos rfl]
        exact no (decide_eq_false (by omega))
  exact lp cs.length 0 (by omega)
theorem sp_X11_planIs {sh : gS} {M : gM} {z : aS} {p i : Int} (hz : cS sh M z) : gC (gr 2 47) yX11_planIs cX11_planIs 4 (some (.int)) [(4, 0), (0, p), (0, i)] sh M (cPo sh M 0 (aPlanIs (aPl z) (aCs z).length p i) z) := by
  obtain ⟨hOK, hC, -, -, hPl, -⟩ := id hz
  unfold aPlanIs
  refine w_X11_planIs hOK ⟨_, sp_X11_isPlan hOK, ?_⟩
  by_cases q1 : 0 ≤ p ∧ p ≤ 3
  · rw [decide_eq_true q1, if_neg bIt]
    by_cases q2 : i < 0
    · rw [if_pos q2, if_neg (fun w => by omega)]; exact cPo_same hz rfl
    · rw [if_neg q2]
      by_cases q3 : (20 : Int) < i
      · rw [if_pos q3, if_neg (fun w => by omega)]; exact cPo_same hz rfl
      · have hp := (hPl p q1.1 (by omega)).1
        rw [if_neg q3, if_pos (show (0 ≤ p ∧ p ≤ 3) ∧ (0 ≤ i ∧ i ≤ 20) from ⟨q1, by omega, by omega⟩)]
        refine ⟨⟨q1.1, by omega⟩, ⟨hp.1.1, by omega⟩, ?_⟩
        generalize hpl : aPl z p = pl at hp ⊢
        obtain ⟨hSh, hq, hq6, hF, -⟩ := id hp
        rw [show M (519 + 48 * p) 0 = pl.2.1 0 from hF 0 (Or.inl (by decide))]
        have hf : ∀ f : Nat, (f < 4 ∨ (10 < f ∧ f < 17)) → ∀ w : Int, pl.2.1 f = w → cPo sh M 0 w z (some (0, M (519 + 48 * p) (f : Int))) sh M := fun f hf w e => cPo_same hz ((hF f hf).trans e)
        have hql : ∀ (j : Nat) (c : Int), j < 6 → c = 1 + 3 * (j : Int) → (gsh sh (519 + 48 * p + c) = some (0, 5) ∧ 519 + 48 * p + c < 758) ∧ cPo sh M 0 ((pl.1 j).length : Int) z (some (0, M (519 + 48 * p + c) 0)) sh M := fun j c hj hc => by
          have h := hq j hj
          rw [show 519 + 48 * p + 1 + 3 * (j : Int) = 519 + 48 * p + c by omega] at h
          exact ⟨⟨h.1.1, by omega⟩, cPo_same hz h.2.2.1⟩
        unfold plIs
        by_cases q4 : pl.2.1 0 = 0
        · rw [if_pos q4, if_pos q4]; exact cPo_same hz rfl
        · rw [if_neg q4, if_neg q4]
          by_cases z0 : i = 0
          · rw [if_pos z0, if_pos z0]; exact hf 2 (by decide) _ rfl
          rw [if_neg z0, if_neg z0]
          by_cases z1 : i = 1
          · rw [if_pos z1, if_pos z1]; exact hf 3 (by decide) _ rfl
          rw [if_neg z1, if_neg z1]
          by_cases z2 : i = 2
          · rw [if_pos z2, if_pos z2]; exact hql 0 _ (by decide) rfl
          rw [if_neg z2, if_neg z2]
          by_cases z3 : i = 3
          · rw [if_pos z3, if_pos z3]; exact hql 1 _ (by decide) rfl
          rw [if_neg z3, if_neg z3]
          by_cases z4 : i = 4
          · rw [if_pos z4, if_pos z4]; exact hql 2 _ (by decide) rfl
          rw [if_neg z4, if_neg z4]
          by_cases z5 : i = 5
          · rw [if_pos z5, if_pos z5]; exact hf 12 (by decide) _ rfl
          rw [if_neg z5, if_neg z5]
          by_cases z6 : i = 6
          · rw [if_pos z6, if_pos z6]; exact hf 13 (by decide) _ rfl
          rw [if_neg z6, if_neg z6]
          by_cases z7 : i = 7
          · rw [if_pos z7, if_pos z7]; exact hf 14 (by decide) _ rfl
          rw [if_neg z7, if_neg z7]
          by_cases z8 : i = 8
          · rw [if_pos z8, if_pos z8, ← z8]; exact ⟨_, sp_X11_mapIs hOK hC hp (by omega), cPo_same hz rfl⟩
          rw [if_neg z8, if_neg z8]
          by_cases z9 : i = 9
          · rw [if_pos z9, if_pos z9, ← z9]; exact ⟨_, sp_X11_mapIs hOK hC hp (by omega), cPo_same hz rfl⟩
          rw [if_neg z9, if_neg z9]
          by_cases z10 : i = 10
          · rw [if_pos z10, if_pos z10, ← z10]; exact ⟨_, sp_X11_mapIs hOK hC hp (by omega), cPo_same hz rfl⟩
          rw [if_neg z10, if_neg z10]
          by_cases z11 : i = 11
          · rw [if_pos z11, if_pos z11, ← z11]; exact ⟨_, sp_X11_mapIs hOK hC hp (by omega), cPo_same hz rfl⟩
          rw [if_neg z11, if_neg z11]
          by_cases z12 : i = 12
          · rw [if_pos z12, if_pos z12, ← z12]; exact ⟨_, sp_X11_mapIs hOK hC hp (by omega), cPo_same hz rfl⟩
          rw [if_neg z12, if_neg z12]
          by_cases z13 : i = 13
          · rw [if_pos z13, if_pos z13]; exact hf 1 (by decide) _ rfl
          rw [if_neg z13, if_neg z13]
          by_cases z14 : i = 14
          · rw [if_pos z14, if_pos z14]; exact hf 11 (by decide) _ rfl
          rw [if_neg z14, if_neg z14]
          by_cases z15 : i = 15
          · rw [if_pos z15, if_pos z15]; exact hf 15 (by decide) _ rfl
          rw [if_neg z15, if_neg z15]
          by_cases z16 : i = 16
          · rw [if_pos z16, if_pos z16]; exact hf 16 (by decide) _ rfl
          rw [if_neg z16, if_neg z16]
          by_cases z17 : i = 17
          · rw [if_pos z17, if_pos z17]; exact hql 3 _ (by decide) rfl
          rw [if_neg z17, if_neg z17]
          by_cases z18 : i = 18
          · rw [if_pos z18, if_pos z18]; exact hql 4 _ (by decide) rfl
          rw [if_neg z18, if_neg z18]
          by_cases z19 : i = 19
          · rw [if_pos z19, if_pos z19]; exact hql 5 _ (by decide) rfl
          rw [if_neg z19, if_neg z19]
          rw [if_pos (show i = 20 by omega)]; exact ⟨⟨hq6.1.1, by omega⟩, cPo_same hz hq6.2.2.1⟩
  · rw [decide_eq_false q1, if_pos bIf, if_neg (fun z => q1 z.1)]; exact cPo_same hz rfl
