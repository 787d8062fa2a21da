-- ==== the reference: what it holds; keep, undo
def uRfX (A B : Int) (M : gM) (h : Int) (rs : List rF) : Prop := ∀ s : Int, 0 ≤ s → s < 52 → M A (52 * h + s) = sAt rs s ∧ M B (52 * h + s) = sBy rs s
/-- where the first ones of a list of a PLAN lie; the second ones -/
def uL1 (i : Nat) : Int := if i = 0 then 18 else if i = 1 then 22 else 26 + 8 * ((i : Int) - 2)
/-- what a PLAN that is told is -/
def uPt (A K I : Int) (M : gM) (p : Int) (pl : kP) : Prop :=
  (M A (68 * p + 1) = pl.2.1 2 ∧ M A (68 * p + 2) = pl.2.1 3 ∧ M A (68 * p + 9) = ((pl.1 6).length : Int) ∧ M A (68 * p + 10) = pl.2.1 11 ∧ M A (68 * p + 11) = pl.2.1 12 ∧ M A (68 * p + 12) = pl.2.1 13 ∧ M A (68 * p + 13) = pl.2.1 14 ∧ M A (68 * p + 14) = pl.2.1 15 ∧ M A (68 * p + 15) = pl.2.1 16 ∧ M A (68 * p + 16) = pl.2.1 1) ∧
  (∀ i : Nat, i < 6 → M A (68 * p + 3 + (i : Int)) = ((pl.1 i).length : Int) ∧ (pl.1 i).length ≤ 4 ∧ rw_ (M A) (68 * p + uL1 i) ((pl.1 i).map Prod.fst) ∧ (2 ≤ i → rw_ (M A) (68 * p + uL1 i + 4) ((pl.1 i).map Prod.snd))) ∧
  (∀ w : Int, 0 ≤ w → w < 10 → M A (68 * p + 58 + w) = (qGet w (pl.1 6)).getD (-1)) ∧
  (∀ k : Int, 0 ≤ k → k < 120 → M K (120 * p + k) = pl.2.2.2 k ∧ (0 ≤ pl.2.2.2 k → M I (120 * p + k) = pl.2.2.1 k))
def uPl (A K I : Int) (M : gM) (p : Int) (pl : kP) : Prop := M A (68 * p) = pl.2.1 0 ∧ (pl.2.1 0 = 0 ∨ pl.2.1 0 = 1) ∧ (pl.2.1 0 = 1 → uPt A K I M p pl)
/-- the reference holds the state -/
def uSt (M : gM) (z : aS) : Prop := uC M (aCs z) ∧ uBy M (aTp z) ∧ (∀ h : Int, 0 ≤ h → h < 4 → uRf M h (aRs z h)) ∧ (∀ p : Int, 0 ≤ p → p < 4 → uPl 729 730 731 M p (aPl z p)) ∧
  ((aSv z < 0 ∧ M 711 71 = 0) ∨ (0 ≤ aSv z ∧ M 711 71 = 1 ∧ M 711 70 = aSv z ∧ (∀ h : Int, 0 ≤ h → h < 4 → uRfX 753 754 M h (aSR z h)) ∧ ∀ p : Int, 0 ≤ p → p < 4 → uPl 755 756 757 M p (aSP z p)))
theorem uPl_of {A K I A2 K2 I2 : Int} {M M1 : gM} {p : Int} {pl : kP} (h : uPl A K I M p pl) (h1 : ∀ q, 68 * p ≤ q → q < 68 * p + 68 → M1 A2 q = M A q) (h2 : ∀ q, 120 * p ≤ q → q < 120 * p + 120 → M1 K2 q = M K q) (h3 : ∀ q, 120 * p ≤ q → q < 120 * p + 120 → M1 I2 q = M I q) : uPl A2 K2 I2 M1 p pl := by
  obtain ⟨a, b, c⟩ := h
  refine ⟨by rw [h1 _ (by omega) (by omega)]; exact a, b, fun hb => ?_⟩
  obtain ⟨⟨c1, c2, c3, c4, c5, c6, c7, c8, c9, c10⟩, d, e, f⟩ := c hb
  refine ⟨⟨by rw [h1 _ (by omega) (by omega)]; exact c1, by rw [h1 _ (by omega) (by omega)]; exact c2, by rw [h1 _ (by omega) (by omega)]; exact c3, by rw [h1 _ (by omega) (by omega)]; exact c4, by rw [h1 _ (by omega) (by omega)]; exact c5, by rw [h1 _ (by omega) (by omega)]; exact c6, by rw [h1 _ (by omega) (by omega)]; exact c7, by rw [h1 _ (by omega) (by omega)]; exact c8, by rw [h1 _ (by omega) (by omega)]; exact c9, by rw [h1 _ (by omega) (by omega)]; exact c10⟩, fun i hi => ?_, fun w w0 w1 => by rw [h1 _ (by omega) (by omega)]; exact e w w0 w1, fun k k0 k1 => ?_⟩
  · obtain ⟨d1, d2, d3, d4⟩ := d i hi
    have hu : 18 ≤ uL1 i ∧ uL1 i + 4 ≤ 58 ∧ (2 ≤ i → uL1 i + 8 ≤ 58) := by unfold uL1; split <;> (try split) <;> omega
    refine ⟨by rw [h1 _ (by omega) (by omega)]; exact d1, d2, rw_congr d3 (fun q q0 q1 => h1 q (by omega) (by simp at q1; omega)), fun h2i => rw_congr (d4 h2i) (fun q q0 q1 => h1 q (by omega) (by have := hu.2.2 h2i; simp at q1; omega))⟩
  · rw [h2 _ (by omega) (by omega), h3 _ (by omega) (by omega)]
    exact f k k0 k1
theorem uRfX_of {A B A2 B2 : Int} {M M1 : gM} {h : Int} {rs : List rF} (hR : uRfX A B M h rs) (h1 : ∀ q, 52 * h ≤ q → q < 52 * h + 52 → M1 A2 q = M A q) (h2 : ∀ q, 52 * h ≤ q → q < 52 * h + 52 → M1 B2 q = M B q) : uRfX A2 B2 M1 h rs := fun s s0 s1 => by
  rw [h1 _ (by omega) (by omega), h2 _ (by omega) (by omega)]; exact hR s s0 s1
/-- what is no part of the state may change -/
theorem uSt_keep {M M1 : gM} {z : aS} {A F : List Int} (h : uSt M z) (hf : gFr A F M M1) (hA : ∀ b ∈ A, b = 721 ∨ b = 722 ∨ b = 723 ∨ b = 724 ∨ b = 725 ∨ (731 < b ∧ b < 753)) (hF : (0 : Int) ∉ F ∧ (18 : Int) ∉ F ∧ (70 : Int) ∉ F ∧ (71 : Int) ∉ F) : uSt M1 z := by
  obtain ⟨h1, h2, h3, h4, h5⟩ := h
  have e : ∀ b : Int, b ≠ 711 → (b < 721 ∨ (725 < b ∧ b < 732) ∨ 752 < b) → M1 b = M b := fun b b0 b1 => hf.1 b (fun w => by have := hA b w; omega) b0
  refine ⟨uC_same h1 (hf.2 0 hF.1) (fun b b0 b1 => e b (by omega) (by omega)), ⟨by rw [hf.2 18 hF.2.1]; exact h2.1, h2.2.1, fun j c hj => by rw [e 726 (by decide) (by decide)]; exact h2.2.2 j c hj⟩, fun i i0 i1 => ?_, fun p p0 p1 => ?_, ?_⟩
  · exact uRfX_of (A := 727) (B := 728) (h3 i i0 i1) (fun q _ _ => by rw [e 727 (by decide) (by decide)]) (fun q _ _ => by rw [e 728 (by decide) (by decide)])
  · exact uPl_of (h4 p p0 p1) (fun q _ _ => by rw [e 729 (by decide) (by decide)]) (fun q _ _ => by rw [e 730 (by decide) (by decide)]) (fun q _ _ => by rw [e 731 (by decide) (by decide)])
  · rcases h5 with ⟨a, b⟩ | ⟨a, b, c, d, f⟩
    · exact Or.inl ⟨a, by rw [hf.2 71 hF.2.2.2]; exact b⟩
    · refine Or.inr ⟨a, by rw [hf.2 71 hF.2.2.2]; exact b, by rw [hf.2 70 hF.2.2.1]; exact c, fun i i0 i1 => ?_, fun p p0 p1 => ?_⟩
      · exact uRfX_of (d i i0 i1) (fun q _ _ => by rw [e 753 (by decide) (by decide)]) (fun q _ _ => by rw [e 754 (by decide) (by decide)])
      · exact uPl_of (f p p0 p1) (fun q _ _ => by rw [e 755 (by decide) (by decide)]) (fun q _ _ => by rw [e 756 (by decide) (by decide)]) (fun q _ _ => by rw [e 757 (by decide) (by decide)])
theorem s_copies {M : gM} {a b : Int} {n : Nat} (hab : a ≠ b) (ha : ∀ i : Int, 0 ≤ i → i < (n : Int) → gAx a i) (hb : ∀ i : Int, 0 ≤ i → i < (n : Int) → gAx b i) (hn : n ≤ 480) : ∃ M1, F_copies M a b (n : Int) = some M1 ∧ (∀ q : Int, 0 ≤ q → q < (n : Int) → M1 b q = M a q) ∧ ∀ c : Int, c ≠ b → M1 c = M c := by
  have lp : ∀ (m i : Nat) (M1 : gM), i + m = n → (∀ q : Int, 0 ≤ q → q < (i : Int) → M1 b q = M a q) → (∀ c : Int, c ≠ b → M1 c = M c) → ∃ M2, F_copies_2 M1 a b (n : Int) (i : Int) = some M2 ∧ (∀ q : Int, 0 ≤ q → q < (n : Int) → M2 b q = M a q) ∧ ∀ c : Int, c ≠ b → M2 c = M c := by
    intro m
    induction m with
    | zero =>
      intro i M1 hi h1 h2
      rw [eq_copies_2, if_neg (by omega)]
      exact ⟨M1, rfl, fun q q0 q1 => h1 q q0 (by omega), h2⟩
    | succ m ih =>
      intro i M1 hi h1 h2
      rw [eq_copies_2, if_pos (by omega), if_pos (ha i (by omega) (by omega)), if_pos (hb i (by omega) (by omega)), gw32_id (by omega) (by omega), h2 a hab]
      refine ih (i + 1) _ (by omega) (fun q q0 q1 => ?_) (fun c hc => by rw [gU_cell _ _ _ hc]; exact h2 c hc)
      by_cases e : q = (i : Int)
      · rw [e, gU_same]
      · rw [gU_idx e]; exact h1 q q0 (by omega)
  rw [eq_copies]
  exact lp n 0 M (by omega) (fun q q0 q1 => by omega) (fun _ _ => rfl)
def aKeep (z : aS) : aS := (z.1, z.2.1, z.2.2.1, z.2.2.2.1, ((aCs z).length : Int), aRs z, aPl z)
def aUndo (z : aS) : aS := if aSv z < 0 then z else (z.1, (aCs z).take (aSv z).toNat, aSR z, aSP z, aSv z, aSR z, aSP z)
theorem s_keep {M : gM} {z : aS} (h : uSt M z) : ∃ M1, F_keep M = some (((aCs z).length : Int), M1) ∧ uSt M1 (aKeep z) := by
  obtain ⟨h1, h2, h3, h4, h5⟩ := h
  rw [eq_keep, gU_idx (by decide), h1.1]
  generalize hM0 : gU (gU M 711 71 1) 711 70 ((aCs z).length : Int) = M0
  have e0 : ∀ b : Int, b ≠ 711 → M0 b = M b := fun b hb => by rw [← hM0, gU_cell _ _ _ hb, gU_cell _ _ _ hb]
  have e71 : ∀ f : Int, f ≠ 70 → f ≠ 71 → M0 711 f = M 711 f := fun f f0 f1 => by rw [← hM0, gU_idx f0, gU_idx f1]
  obtain ⟨M1, c1, v1, k1⟩ := s_copies (M := M0) (a := 727) (b := 753) (n := 208) (by decide) (fun i i0 i1 => ⟨i0, Or.inr (Or.inl ⟨by decide, i1⟩)⟩) (fun i i0 i1 => ⟨i0, Or.inr (Or.inl ⟨by decide, i1⟩)⟩) (by decide)
  obtain ⟨M2, c2, v2, k2⟩ := s_copies (M := M1) (a := 728) (b := 754) (n := 208) (by decide) (fun i i0 i1 => ⟨i0, Or.inr (Or.inl ⟨by decide, i1⟩)⟩) (fun i i0 i1 => ⟨i0, Or.inr (Or.inl ⟨by decide, i1⟩)⟩) (by decide)
  obtain ⟨M3, c3, v3, k3⟩ := s_copies (M := M2) (a := 729) (b := 755) (n := 272) (by decide) (fun i i0 i1 => by constructor <;> omega) (fun i i0 i1 => by constructor <;> omega) (by decide)
  obtain ⟨M4, c4, v4, k4⟩ := s_copies (M := M3) (a := 730) (b := 756) (n := 480) (by decide) (fun i i0 i1 => by constructor <;> omega) (fun i i0 i1 => by constructor <;> omega) (by decide)
  obtain ⟨M5, c5, v5, k5⟩ := s_copies (M := M4) (a := 731) (b := 757) (n := 480) (by decide) (fun i i0 i1 => by constructor <;> omega) (fun i i0 i1 => by constructor <;> omega) (by decide)
  have c1 : F_copies M0 727 753 208 = some M1 := c1
  have c2 : F_copies M1 728 754 208 = some M2 := c2
  have c3 : F_copies M2 729 755 272 = some M3 := c3
  have c4 : F_copies M3 730 756 480 = some M4 := c4
  have c5 : F_copies M4 731 757 480 = some M5 := c5
  rw [gI_bb c1, gI_bb c2, gI_bb c3, gI_bb c4, gI_bb c5]
  have kk : ∀ b : Int, b < 753 → M5 b = M0 b := fun b hb => by rw [k5 b (by omega), k4 b (by omega), k3 b (by omega), k2 b (by omega), k1 b (by omega)]
  have kb : ∀ b : Int, b < 753 → b ≠ 711 → M5 b = M b := fun b hb h7 => by rw [kk b hb, e0 b h7]
  have w753 : ∀ q : Int, 0 ≤ q → q < 208 → M5 753 q = M 727 q := fun q q0 q1 => by rw [k5 753 (by decide), k4 753 (by decide), k3 753 (by decide), k2 753 (by decide), v1 q q0 q1, e0 727 (by decide)]
  have w754 : ∀ q : Int, 0 ≤ q → q < 208 → M5 754 q = M 728 q := fun q q0 q1 => by rw [k5 754 (by decide), k4 754 (by decide), k3 754 (by decide), v2 q q0 q1, k1 728 (by decide), e0 728 (by decide)]
  have w755 : ∀ q : Int, 0 ≤ q → q < 272 → M5 755 q = M 729 q := fun q q0 q1 => by rw [k5 755 (by decide), k4 755 (by decide), v3 q q0 q1, k2 729 (by decide), k1 729 (by decide), e0 729 (by decide)]
  have w756 : ∀ q : Int, 0 ≤ q → q < 480 → M5 756 q = M 730 q := fun q q0 q1 => by rw [k5 756 (by decide), v4 q q0 q1, k3 730 (by decide), k2 730 (by decide), k1 730 (by decide), e0 730 (by decide)]
  have w757 : ∀ q : Int, 0 ≤ q → q < 480 → M5 757 q = M 731 q := fun q q0 q1 => by rw [v5 q q0 q1, k4 731 (by decide), k3 731 (by decide), k2 731 (by decide), k1 731 (by decide), e0 731 (by decide)]
  have q0c : M5 711 0 = ((aCs z).length : Int) := by rw [kk 711 (by decide), e71 0 (by decide) (by decide), h1.1]
  rw [q0c]
  refine ⟨M5, rfl, uC_same h1 (by rw [q0c, h1.1]) (fun b b0 b1 => kb b (by omega) (by omega)), ⟨by rw [kk 711 (by decide), e71 18 (by decide) (by decide)]; exact h2.1, h2.2.1, fun j c hj => by rw [kb 726 (by decide) (by decide)]; exact h2.2.2 j c hj⟩, fun i i0 i1 => ?_, fun p p0 p1 => ?_, Or.inr ⟨Int.natCast_nonneg _, ?_, ?_, fun i i0 i1 => ?_, fun p p0 p1 => ?_⟩⟩
  · exact uRfX_of (A := 727) (B := 728) (h3 i i0 i1) (fun q _ _ => by rw [kb 727 (by decide) (by decide)]) (fun q _ _ => by rw [kb 728 (by decide) (by decide)])
  · exact uPl_of (h4 p p0 p1) (fun q _ _ => by rw [kb 729 (by decide) (by decide)]) (fun q _ _ => by rw [kb 730 (by decide) (by decide)]) (fun q _ _ => by rw [kb 731 (by decide) (by decide)])
  · rw [kk 711 (by decide), ← hM0, gU_idx (by decide), gU_same]
  · rw [kk 711 (by decide), ← hM0, gU_same]; rfl
  · exact uRfX_of (A := 727) (B := 728) (h3 i i0 i1) (fun q q0 q1 => w753 q (by omega) (by omega)) (fun q q0 q1 => w754 q (by omega) (by omega))
  · exact uPl_of (h4 p p0 p1) (fun q q0 q1 => w755 q (by omega) (by omega)) (fun q q0 q1 => w756 q (by omega) (by omega)) (fun q q0 q1 => w757 q (by omega) (by omega))
theorem s_undo {M : gM} {z : aS} (h : uSt M z) (hv : aSv z ≤ ((aCs z).length : Int)) : ∃ M1, F_undo M = some (bI (decide (0 ≤ aSv z)), M1) ∧ uSt M1 (aUndo z) := by
  obtain ⟨h1, h2, h3, h4, h5⟩ := id h
  rw [eq_undo]
  rcases h5 with ⟨a, b⟩ | ⟨a, b, c, d, f⟩
  · rw [if_pos b, decide_eq_false (by omega)]
    refine ⟨M, rfl, ?_⟩
    unfold aUndo
    rw [if_pos a]; exact h
  · rw [if_neg (by omega), decide_eq_true a, c]
    generalize hM0 : gU M 711 0 (aSv z) = M0
    have e0 : ∀ b : Int, b ≠ 711 → M0 b = M b := fun b hb => by rw [← hM0, gU_cell _ _ _ hb]
    have e71 : ∀ f : Int, f ≠ 0 → M0 711 f = M 711 f := fun f f0 => by rw [← hM0, gU_idx f0]
    obtain ⟨M1, c1, v1, k1⟩ := s_copies (M := M0) (a := 753) (b := 727) (n := 208) (by decide) (fun i i0 i1 => by constructor <;> omega) (fun i i0 i1 => by constructor <;> omega) (by decide)
    obtain ⟨M2, c2, v2, k2⟩ := s_copies (M := M1) (a := 754) (b := 728) (n := 208) (by decide) (fun i i0 i1 => by constructor <;> omega) (fun i i0 i1 => by constructor <;> omega) (by decide)
    obtain ⟨M3, c3, v3, k3⟩ := s_copies (M := M2) (a := 755) (b := 729) (n := 272) (by decide) (fun i i0 i1 => by constructor <;> omega) (fun i i0 i1 => by constructor <;> omega) (by decide)
    obtain ⟨M4, c4, v4, k4⟩ := s_copies (M := M3) (a := 756) (b := 730) (n := 480) (by decide) (fun i i0 i1 => by constructor <;> omega) (fun i i0 i1 => by constructor <;> omega) (by decide)
    obtain ⟨M5, c5, v5, k5⟩ := s_copies (M := M4) (a := 757) (b := 731) (n := 480) (by decide) (fun i i0 i1 => by constructor <;> omega) (fun i i0 i1 => by constructor <;> omega) (by decide)
    have c1 : F_copies M0 753 727 208 = some M1 := c1
    have c2 : F_copies M1 754 728 208 = some M2 := c2
    have c3 : F_copies M2 755 729 272 = some M3 := c3
    have c4 : F_copies M3 756 730 480 = some M4 := c4
    have c5 : F_copies M4 757 731 480 = some M5 := c5
    rw [gI_bb c1, gI_bb c2, gI_bb c3, gI_bb c4, gI_bb c5]
    have kk : ∀ b : Int, (b < 727 ∨ 731 < b) → M5 b = M0 b := fun b hb => by rw [k5 b (by omega), k4 b (by omega), k3 b (by omega), k2 b (by omega), k1 b (by omega)]
    have kb : ∀ b : Int, (b < 727 ∨ 731 < b) → b ≠ 711 → M5 b = M b := fun b hb h7 => by rw [kk b hb, e0 b h7]
    have w727 : ∀ q : Int, 0 ≤ q → q < 208 → M5 727 q = M 753 q := fun q q0 q1 => by rw [k5 727 (by decide), k4 727 (by decide), k3 727 (by decide), k2 727 (by decide), v1 q q0 q1, e0 753 (by decide)]
    have w728 : ∀ q : Int, 0 ≤ q → q < 208 → M5 728 q = M 754 q := fun q q0 q1 => by rw [k5 728 (by decide), k4 728 (by decide), k3 728 (by decide), v2 q q0 q1, k1 754 (by decide), e0 754 (by decide)]
    have w729 : ∀ q : Int, 0 ≤ q → q < 272 → M5 729 q = M 755 q := fun q q0 q1 => by rw [k5 729 (by decide), k4 729 (by decide), v3 q q0 q1, k2 755 (by decide), k1 755 (by decide), e0 755 (by decide)]
    have w730 : ∀ q : Int, 0 ≤ q → q < 480 → M5 730 q = M 756 q := fun q q0 q1 => by rw [k5 730 (by decide), v4 q q0 q1, k3 756 (by decide), k2 756 (by decide), k1 756 (by decide), e0 756 (by decide)]
    have w731 : ∀ q : Int, 0 ≤ q → q < 480 → M5 731 q = M 757 q := fun q q0 q1 => by rw [v5 q q0 q1, k4 757 (by decide), k3 757 (by decide), k2 757 (by decide), k1 757 (by decide), e0 757 (by decide)]
    have hlen : (((aCs z).take (aSv z).toNat).length : Int) = aSv z := by rw [List.length_take]; omega
    have hun : aUndo z = (z.1, (aCs z).take (aSv z).toNat, aSR z, aSP z, aSv z, aSR z, aSP z) := by unfold aUndo; rw [if_neg (by omega)]
    rw [hun]
    have hC5 : uC M5 (aCs z) ∨ True := Or.inr trivial
    refine ⟨M5, rfl, ⟨?_, ?_, fun k cc hk => ?_⟩, ⟨by rw [kk 711 (by decide), e71 18 (by decide)]; exact h2.1, h2.2.1, fun j c hj => by rw [kb 726 (by decide) (by decide)]; exact h2.2.2 j c hj⟩, fun i i0 i1 => ?_, fun p p0 p1 => ?_, Or.inr ⟨a, ?_, ?_, fun i i0 i1 => ?_, fun p p0 p1 => ?_⟩⟩
    · show M5 711 0 = (((aCs z).take (aSv z).toNat).length : Int)
      rw [hlen, kk 711 (by decide), ← hM0, gU_same]
    · show ((aCs z).take (aSv z).toNat).length ≤ 120
      have := h1.2.1; rw [List.length_take]; omega
    · have hk : ((aCs z).take (aSv z).toNat)[k]? = some cc := hk
      rw [List.getElem?_take] at hk
      split at hk
      · have hr := h1.2.2 k cc hk
        refine uRowC_of hr (by omega) (by rw [kb 712 (by decide) (by decide)]) (fun q _ _ => by rw [kb 713 (by decide) (by decide)]) (by rw [kb 716 (by decide) (by decide)]) (fun q _ _ => by rw [kb 717 (by decide) (by decide)]) (by rw [kb 714 (by decide) (by decide)]) (by rw [kb 715 (by decide) (by decide)]) ?_
        exact uT_of hr.2.2.2.2.2.2 (by rw [kb 718 (by decide) (by decide)]) (fun q _ _ => by unfold uG; rw [kb 719 (by decide) (by decide), kb 720 (by decide) (by decide)])
      · cases hk
    · exact uRfX_of (A2 := 727) (B2 := 728) (d i i0 i1) (fun q q0 q1 => w727 q (by omega) (by omega)) (fun q q0 q1 => w728 q (by omega) (by omega))
    · exact uPl_of (f p p0 p1) (fun q q0 q1 => w729 q (by omega) (by omega)) (fun q q0 q1 => w730 q (by omega) (by omega)) (fun q q0 q1 => w731 q (by omega) (by omega))
    · rw [kk 711 (by decide), e71 71 (by decide)]; exact b
    · rw [kk 711 (by decide), e71 70 (by decide)]; exact c
    · exact uRfX_of (d i i0 i1) (fun q _ _ => by rw [kb 753 (by decide) (by decide)]) (fun q _ _ => by rw [kb 754 (by decide) (by decide)])
    · exact uPl_of (f p p0 p1) (fun q _ _ => by rw [kb 755 (by decide) (by decide)]) (fun q _ _ => by rw [kb 756 (by decide) (by decide)]) (fun q _ _ => by rw [kb 757 (by decide) (by decide)])
