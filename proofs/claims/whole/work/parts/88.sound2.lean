-- ==== sound: the reference
def sdU (M : gM) (z : aS) (S : Nat → Bool) : Prop := uSt M z ∧ uS M 736 S
theorem sdU_but {M M1 : gM} {z : aS} {S : Nat → Bool} {a : Int} (h : sdU M z S) (ha : a = 723 ∨ a = 724 ∨ a = 732) (hf : ∀ b : Int, b ≠ a → M1 b = M b) : sdU M1 z S :=
  ⟨uSt_keep (A := [a]) (F := []) h.1 ⟨fun b hb _ => hf b (fun w => hb (by rw [w]; simp)), fun i _ => by rw [hf 711 (by omega)]⟩ (fun b hb => by rw [List.mem_singleton.mp hb]; omega) (by decide), fun k hk => by rw [hf 736 (by omega)]; exact h.2 k hk⟩
def prB (cs : List kC) (pl : kP) (w : Int) (a b : Nat) : Bool := if w = 1 then kEld cs pl a b && !kAnc cs (imN pl a) (imN pl b) else kAnc cs (imN pl a) (imN pl b) && (!kEld cs pl a b && !kEld cs pl b a)
def prG (cs : List kC) (S : Nat → Bool) (pl : kP) (w : Int) (a b : Nat) : Bool := decide (b ≠ a) && (kpB S pl a && (kpB S pl b && prB cs pl w a b))
theorem s_isKept {M : gM} {z : aS} {S : Nat → Bool} {p : Int} {k : Nat} (h : sdU M z S) (hp : 0 ≤ p ∧ p ≤ 3) (h1 : (aPl z p).2.1 0 = 1) (hk : k < 120) : F_isKept M p (k : Int) = some (bI (kpB S (aPl z p) k)) := by
  have hU := (h.1.2.2.2.1 p hp.1 (by omega)).2.2 h1
  have e := (hU.2.2.2 (k : Int) (by omega) (by omega)).1
  rw [eq_isKept, if_pos (by omega), h.2 k hk]
  unfold kpB
  cases S k with
  | false => rw [if_pos bIf]; rfl
  | true =>
    rw [if_neg bIt]
    simp (disch := omega) only [gw32_id]
    rw [if_pos (by omega), e, Bool.true_and]
    by_cases q : (aPl z p).2.2.2 (k : Int) = 0
    · rw [if_pos q, decide_eq_true q]; rfl
    · rw [if_neg q, decide_eq_false q]; rfl
theorem s_imN {M : gM} {z : aS} {S : Nat → Bool} {p : Int} {k : Nat} (h : sdU M z S) (hp : 0 ≤ p ∧ p ≤ 3) (h1 : (aPl z p).2.1 0 = 1) (hF : plFit (aCs z) (aPl z p)) (hk : k < 120) (hq : kpB S (aPl z p) k = true) : F_imageAt M p (k : Int) = some ((imN (aPl z p) k : Nat) : Int) ∧ imN (aPl z p) k < (aCs z).length ∧ (aPl z p).2.2.1 (k : Int) = ((imN (aPl z p) k : Nat) : Int) := by
  have hU := (h.1.2.2.2.1 p hp.1 (by omega)).2.2 h1
  have e := (hU.2.2.2 (k : Int) (by omega) (by omega)).2
  have q0 : (aPl z p).2.2.2 (k : Int) = 0 := by
    unfold kpB at hq
    exact of_decide_eq_true (Bool.and_eq_true _ _ ▸ hq : S k = true ∧ _ = true).2
  obtain ⟨-, -, -, -, -, b6⟩ := hF h1
  have i := b6 (k : Int) (by omega) (by omega) (by omega)
  have i2 := i.2 q0
  have e3 : (aPl z p).2.2.1 (k : Int) = ((imN (aPl z p) k : Nat) : Int) := by unfold imN; omega
  refine ⟨?_, by omega, e3⟩
  rw [s_imageAt hp (by omega), e (by omega), e3]
theorem s_pairs {M : gM} {z : aS} {S : Nat → Bool} {p w : Int} (h : sdU M z S) (hO : kOk (aCs z)) (hp : 0 ≤ p ∧ p ≤ 3) (h1 : (aPl z p).2.1 0 = 1) (hF : plFit (aCs z) (aPl z p)) (hw : w = 0 ∨ w = 1) : ∃ M1, F_pairs M p w = some (sumN (fun a => cnt (prG (aCs z) S (aPl z p) w a) (aCs z).length) (aCs z).length, M1) ∧ sdU M1 z S := by
  have hl9 := h.1.1.2.1
  obtain ⟨b1, b2, b3, b4, b5, b6⟩ := hF h1
  generalize hcs : aCs z = cs at *
  generalize hpl : aPl z p = pl at *
  have big := fun k (hk : k ≤ 120) => sumN_rng (f := fun a => cnt (prG cs S pl w a) cs.length) (b := 120) (by decide) k (fun a _ => by have := cnt_rng (prG cs S pl w a) cs.length; constructor <;> omega)
  have lp : ∀ (n a : Nat) (M1 : gM), a + n = cs.length → sdU M1 z S → ∃ M2, F_pairs_5 M1 p w (sumN (fun a => cnt (prG cs S pl w a) cs.length) a) (a : Int) = some (sumN (fun a => cnt (prG cs S pl w a) cs.length) cs.length, M2) ∧ sdU M2 z S := by
    intro n
    induction n with
    | zero =>
      intro a M1 ha hS
      have hC1 := hS.1.1
      rw [hcs] at hC1
      rw [eq_pairs_5, hC1.1, if_neg (by omega), show a = cs.length by omega]
      exact ⟨M1, rfl, hS⟩
    | succ n ih =>
      intro a M1 ha hS
      have hC1 := hS.1.1
      rw [hcs] at hC1
      have ih1 := ih (a + 1)
      rw [sumN] at ih1
      have bg := big a (by omega)
      have ka := s_isKept (k := a) hS hp (by rw [hpl]; exact h1) (by omega)
      rw [hpl] at ka
      rw [eq_pairs_5, hC1.1, if_pos (by omega), gI_bb ka, gw32_id (by omega) (by omega)]
      cases hk : kpB S pl a with
      | false =>
        rw [if_pos bIf]
        have := ih1 M1 (by omega) hS
        rw [cnt_no cs.length (fun b _ => by unfold prG; rw [hk, Bool.false_and, Bool.and_false]), Int.add_zero] at this
        exact this
      | true =>
        rw [if_neg bIt]
        have hU1 : uPq M1 p pl := by
          have := (hS.1.2.2.2.1 p hp.1 (by omega)).2.2
          rw [hpl] at this
          exact this h1
        obtain ⟨M2, e2, s2, f2⟩ := s_marksElders (k := a) hC1 hO hU1 hp b2 b1 (by omega)
        have hS2 := sdU_but hS (by omega) f2
        rw [gI_bb e2]
        have inn : ∀ (m b : Nat) (M3 : gM), b + m = cs.length → sdU M3 z S → uS M3 732 (fun j => decide (j = a) || kEld cs pl a j) → ∃ M4, F_pairs_37 M3 p w (sumN (fun a => cnt (prG cs S pl w a) cs.length) a + cnt (prG cs S pl w a) b) (a : Int) (b : Int) = some (sumN (fun a => cnt (prG cs S pl w a) cs.length) cs.length, M4) ∧ sdU M4 z S := by
          intro m
          induction m with
          | zero =>
            intro b M3 hb hS3 h3
            have hC3 := hS3.1.1
            rw [hcs] at hC3
            rw [eq_pairs_37, hC3.1, if_neg (by omega), gw32_id (by omega) (by omega), show b = cs.length by omega]
            exact ih1 M3 (by omega) hS3
          | succ m ih2 =>
            intro b M3 hb hS3 h3
            have hC3 := hS3.1.1
            rw [hcs] at hC3
            have cr := cnt_rng (prG cs S pl w a) b
            have hno : prG cs S pl w a b = false → ∀ M4, sdU M4 z S → uS M4 732 (fun j => decide (j = a) || kEld cs pl a j) → ∃ M5, F_pairs_37 M4 p w (sumN (fun a => cnt (prG cs S pl w a) cs.length) a + cnt (prG cs S pl w a) b) (a : Int) ((b : Int) + 1) = some (sumN (fun a => cnt (prG cs S pl w a) cs.length) cs.length, M5) ∧ sdU M5 z S := fun hx M4 hS4 h4 => by
              have := ih2 (b + 1) M4 (by omega) hS4 h4
              rw [cnt_F hx] at this
              exact this
            have hyes : prG cs S pl w a b = true → ∀ M4, sdU M4 z S → uS M4 732 (fun j => decide (j = a) || kEld cs pl a j) → ∃ M5, F_pairs_37 M4 p w (sumN (fun a => cnt (prG cs S pl w a) cs.length) a + cnt (prG cs S pl w a) b + 1) (a : Int) ((b : Int) + 1) = some (sumN (fun a => cnt (prG cs S pl w a) cs.length) cs.length, M5) ∧ sdU M5 z S := fun hx M4 hS4 h4 => by
              have := ih2 (b + 1) M4 (by omega) hS4 h4
              rw [cnt_T hx, ← Int.add_assoc] at this
              exact this
            rw [eq_pairs_37, hC3.1, if_pos (by omega), gw32_id (z := (b : Int) + 1) (by omega) (by omega)]
            by_cases hab : b = a
            · rw [if_pos (by omega)]
              exact hno (by unfold prG; rw [decide_eq_false (fun w => w hab), Bool.false_and]) M3 hS3 h3
            · rw [if_neg (by omega)]
              have kb := s_isKept (k := b) hS3 hp (by rw [hpl]; exact h1) (by omega)
              rw [hpl] at kb
              rw [gI_bb kb]
              cases hkb : kpB S pl b with
              | false =>
                rw [if_pos bIf]
                exact hno (by unfold prG; rw [hkb, Bool.false_and, Bool.and_false, Bool.and_false]) M3 hS3 h3
              | true =>
                rw [if_neg bIt]
                have hG : prG cs S pl w a b = prB cs pl w a b := by
                  unfold prG; rw [decide_eq_true (show b ≠ a from hab), hk, hkb, Bool.true_and, Bool.true_and, Bool.true_and]
                rw [hG] at hno hyes
                have ib := s_imN (k := b) hS3 hp (by rw [hpl]; exact h1) (by rw [hcs, hpl]; exact hF) (by omega) (by rw [hpl]; exact hkb)
                have ia := s_imN (k := a) hS3 hp (by rw [hpl]; exact h1) (by rw [hcs, hpl]; exact hF) (by omega) (by rw [hpl]; exact hk)
                rw [hpl, hcs] at ib ia
                obtain ⟨M4, e4, f4⟩ := s_isAncestor hC3 hO ib.2.1 ia.2.1
                have hS4 := sdU_but hS3 (by omega) f4
                have h4 : uS M4 732 (fun j => decide (j = a) || kEld cs pl a j) := fun q hq => by rw [f4 732 (by decide)]; exact h3 q hq
                rw [gI_bb ib.1, gI_bb ia.1, gI_bb e4]
                have e732 := h4 b (by omega)
                dsimp only at e732
                rw [decide_eq_false hab, Bool.false_or] at e732
                unfold prB at hno hyes
                rcases hw with w0 | w1
                · rw [w0, if_neg (by decide)] at hno hyes
                  rw [if_pos w0, eq_pairs_109, if_pos w0]
                  rw [gw32_id (z := (b : Int) + 1) (by omega) (by omega)]
                  rw [w0]
                  dsimp only
                  cases hA : kAnc cs (imN pl a) (imN pl b) with
                  | false => rw [if_pos bIf]; exact hno (by rw [hA, Bool.false_and]) M4 hS4 h4
                  | true =>
                    rw [if_neg bIt, if_pos (by omega)]
                    rw [hA, Bool.true_and] at hno hyes
                    cases hE : kEld cs pl a b with
                    | true => rw [if_neg (show ¬ M4 732 (b : Int) = 0 by rw [e732, hE]; decide)]; exact hno (by rw [hE]; rfl) M4 hS4 h4
                    | false =>
                      rw [if_pos (show M4 732 (b : Int) = 0 by rw [e732, hE]; rfl)]
                      rw [hE, Bool.not_false, Bool.true_and] at hno hyes
                      have hC4 := hS4.1.1
                      rw [hcs] at hC4
                      have hU4 : uPq M4 p pl := by
                        have := (hS4.1.2.2.2.1 p hp.1 (by omega)).2.2
                        rw [hpl] at this
                        exact this h1
                      obtain ⟨M5, e5, f5⟩ := s_isElderApart (j := a) (k := b) hC4 hO hU4 hp b2 b1 (by omega)
                      have hS5 := sdU_but hS4 (by omega) f5
                      have h5 : uS M5 732 (fun j => decide (j = a) || kEld cs pl a j) := fun q hq => by rw [f5 732 (by decide)]; exact h4 q hq
                      rw [gI_bb e5]
                      dsimp only
                      cases hE2 : kEld cs pl b a with
                      | true => rw [if_neg bIt]; exact hno (by rw [hE2]; rfl) M5 hS5 h5
                      | false =>
                        rw [if_pos bIf, gw32_id (by rw [w0] at bg cr; omega) (by rw [w0] at bg cr; omega)]
                        exact hyes (by rw [hE2]; rfl) M5 hS5 h5
                · rw [w1, if_pos rfl] at hno hyes
                  have tl : ∀ (c x : Int), F_pairs_109 M4 p 1 c (a : Int) (b : Int) x = F_pairs_37 M4 p 1 c (a : Int) ((b : Int) + 1) := fun c x => by
                    rw [eq_pairs_109, if_neg (by decide), gw32_id (by omega) (by omega)]
                  rw [w1]
                  dsimp only
                  rw [if_neg (show ¬ (1 : Int) = 0 by decide), if_pos (by omega)]
                  simp only [tl]
                  cases hE : kEld cs pl a b with
                  | false => rw [if_pos (show M4 732 (b : Int) = 0 by rw [e732, hE]; rfl)]; exact hno (by rw [hE]; rfl) M4 hS4 h4
                  | true =>
                    rw [if_neg (show ¬ M4 732 (b : Int) = 0 by rw [e732, hE]; decide)]
                    rw [hE, Bool.true_and] at hno hyes
                    cases hA : kAnc cs (imN pl a) (imN pl b) with
                    | true => rw [if_neg bIt]; exact hno (by rw [hA]; rfl) M4 hS4 h4
                    | false =>
                      rw [if_pos bIf, gw32_id (by rw [w1] at bg cr; omega) (by rw [w1] at bg cr; omega)]
                      exact hyes (by rw [hA]; rfl) M4 hS4 h4
        have := inn cs.length 0 M2 (by omega) hS2 s2
        rw [show cnt (prG cs S pl w a) 0 = 0 from rfl, Int.add_zero] at this
        exact this
  rw [eq_pairs]
  exact lp cs.length 0 M (by omega) h
theorem s_twins {M : gM} {z : aS} {S : Nat → Bool} {p : Int} (h : sdU M z S) (hp : 0 ≤ p ∧ p ≤ 3) (h1 : (aPl z p).2.1 0 = 1) (hF : plFit (aCs z) (aPl z p)) : F_twins M p = some (sumN (sdF (aCs z) S (aPl z p) 2) (aCs z).length) := by
  have hC := h.1.1
  have hl9 := hC.2.1
  have val : ∀ k, k < (aCs z).length → sdF (aCs z) S (aPl z p) 2 k = if kpB S (aPl z p) k = true ∧ 0 < flC (aCs z) S (aPl z p) 2 k then 1 else 0 := fun k _ => by
    have hr := flC_rng (aCs z) S (aPl z p) 2 k
    unfold sdF flV kpB
    cases hs : S k with
    | false => rw [if_neg (show ¬ false = true by decide), Bool.false_and, if_neg (fun w => by cases w.1)]
    | true =>
      rw [if_pos rfl, if_neg (show ¬ (2 : Int) = 5 by decide), if_neg (show ¬ (2 : Int) = 3 by decide), if_neg (show ¬ (2 : Int) = 4 by decide), if_pos (show (2 : Int) = 2 from rfl), Bool.true_and]
      by_cases q : (aPl z p).2.2.2 (k : Int) = 0
      · rw [if_pos q, decide_eq_true q]
        by_cases y : 1 < flC (aCs z) S (aPl z p) 2 k
        · rw [if_pos y, if_pos ⟨rfl, by omega⟩]
        · rw [if_neg y]
          by_cases y0 : 0 < flC (aCs z) S (aPl z p) 2 k
          · rw [if_pos ⟨rfl, y0⟩]; omega
          · rw [if_neg (fun w => y0 w.2)]; omega
      · rw [if_neg q, decide_eq_false q, if_neg (fun w => by cases w.1)]
  have rng := fun k (hk : k ≤ (aCs z).length) => sumN_rng (f := sdF (aCs z) S (aPl z p) 2) (b := 1) (by decide) k (fun j hj => by rw [val j (by omega)]; split <;> omega)
  have lp : ∀ (n k : Nat), k + n = (aCs z).length → F_twins_4 M p (sumN (sdF (aCs z) S (aPl z p) 2) k) (k : Int) = some (sumN (sdF (aCs z) S (aPl z p) 2) (aCs z).length) := by
    intro n
    induction n with
    | zero => intro k hk; rw [eq_twins_4, hC.1, if_neg (by omega), show k = (aCs z).length by omega]
    | succ n ih =>
      intro k hk
      have ih1 := ih (k + 1) (by omega)
      have rg := rng k (by omega)
      rw [sumN, val k (by omega)] at ih1
      rw [eq_twins_4, hC.1, if_pos (by omega)]
      have fin0 : ¬ (kpB S (aPl z p) k = true ∧ 0 < flC (aCs z) S (aPl z p) 2 k) → F_twins_4 M p (sumN (sdF (aCs z) S (aPl z p) 2) k) ((k : Int) + 1) = some (sumN (sdF (aCs z) S (aPl z p) 2) (aCs z).length) := fun q => by
        rw [if_neg q, Int.add_zero] at ih1; exact ih1
      have fin1 : (kpB S (aPl z p) k = true ∧ 0 < flC (aCs z) S (aPl z p) 2 k) → F_twins_4 M p (sumN (sdF (aCs z) S (aPl z p) 2) k + 1) ((k : Int) + 1) = some (sumN (sdF (aCs z) S (aPl z p) 2) (aCs z).length) := fun q => by
        rw [if_pos q] at ih1; exact ih1
      have kk := s_isKept (k := k) h hp h1 (by omega)
      have inn : ∀ (m j : Nat), j + m = k → F_twins_18 M p (sumN (sdF (aCs z) S (aPl z p) 2) k) (k : Int) (if kpB S (aPl z p) k = true ∧ 0 < cnt (fun j => kpB S (aPl z p) j && flB (aCs z) (aPl z p) 2 k j) j then 1 else 0) (j : Int) = some (sumN (sdF (aCs z) S (aPl z p) 2) (aCs z).length) := by
        intro m
        induction m with
        | zero =>
          intro j hj
          have : j = k := by omega
          subst this
          rw [eq_twins_18, if_neg (by omega)]
          simp (disch := omega) only [gw32_id]
          by_cases y : kpB S (aPl z p) j = true ∧ 0 < flC (aCs z) S (aPl z p) 2 j
          · rw [if_neg (by rw [if_pos (show kpB S (aPl z p) j = true ∧ 0 < cnt (fun i => kpB S (aPl z p) i && flB (aCs z) (aPl z p) 2 j i) j from y)]; decide)]
            exact fin1 y
          · rw [if_pos (by rw [if_neg (show ¬ (kpB S (aPl z p) j = true ∧ 0 < cnt (fun i => kpB S (aPl z p) i && flB (aCs z) (aPl z p) 2 j i) j) from y)])]
            exact fin0 y
        | succ m ih2 =>
          intro j hj
          have nx := ih2 (j + 1) (by omega)
          have cr := cnt_rng (fun j => kpB S (aPl z p) j && flB (aCs z) (aPl z p) 2 k j) j
          rw [eq_twins_18, if_pos (by omega), gI_bb kk]
          simp (disch := omega) only [gw32_id]
          cases hk1 : kpB S (aPl z p) k with
          | false =>
            rw [if_pos bIf, if_neg (show ¬ (false = true ∧ 0 < cnt (fun j => kpB S (aPl z p) j && flB (aCs z) (aPl z p) 2 k j) j) from fun w => by cases w.1), if_pos rfl]
            exact fin0 (fun w => by rw [hk1] at w; cases w.1)
          | true =>
            rw [if_neg bIt]
            rw [hk1] at nx
            by_cases y0 : 0 < cnt (fun j => kpB S (aPl z p) j && flB (aCs z) (aPl z p) 2 k j) j
            · rw [if_pos (show true = true ∧ 0 < cnt (fun j => kpB S (aPl z p) j && flB (aCs z) (aPl z p) 2 k j) j from ⟨rfl, y0⟩), if_neg (show ¬ (1 : Int) = 0 by decide)]
              rw [if_pos ⟨rfl, by
                cases hx : (fun j => kpB S (aPl z p) j && flB (aCs z) (aPl z p) 2 k j) j with
                | true => rw [cnt_T hx]; omega
                | false => rw [cnt_F hx]; exact y0⟩] at nx
              exact nx
            · rw [if_neg (show ¬ (true = true ∧ 0 < cnt (fun j => kpB S (aPl z p) j && flB (aCs z) (aPl z p) 2 k j) j) from fun w => y0 w.2), if_pos rfl, gI_bb (s_isKept (k := j) h hp h1 (by omega))]
              cases hj1 : kpB S (aPl z p) j with
              | false =>
                rw [if_pos bIf]
                rw [cnt_F (f := fun j => kpB S (aPl z p) j && flB (aCs z) (aPl z p) 2 k j) (n := j) (by show (kpB S (aPl z p) j && _) = false; rw [hj1]; rfl), if_neg (fun w => y0 w.2)] at nx
                exact nx
              | true =>
                obtain ⟨a1, -, a2⟩ := s_imN (k := j) h hp h1 hF (by omega) hj1
                obtain ⟨c1, -, c2⟩ := s_imN (k := k) h hp h1 hF (by omega) hk1
                rw [if_neg bIt, gI_bb a1, gI_bb c1]
                have hb : flB (aCs z) (aPl z p) 2 k j = decide (((imN (aPl z p) j : Nat) : Int) = ((imN (aPl z p) k : Nat) : Int)) := by
                  unfold flB; rw [if_pos rfl, a2, c2]
                by_cases e : ((imN (aPl z p) j : Nat) : Int) = ((imN (aPl z p) k : Nat) : Int)
                · rw [if_pos e]
                  rw [cnt_T (f := fun j => kpB S (aPl z p) j && flB (aCs z) (aPl z p) 2 k j) (n := j) (by show (kpB S (aPl z p) j && flB (aCs z) (aPl z p) 2 k j) = true; rw [hj1, hb, decide_eq_true e]; rfl), if_pos ⟨rfl, by omega⟩] at nx
                  exact nx
                · rw [if_neg e]
                  rw [cnt_F (f := fun j => kpB S (aPl z p) j && flB (aCs z) (aPl z p) 2 k j) (n := j) (by show (kpB S (aPl z p) j && flB (aCs z) (aPl z p) 2 k j) = false; rw [hb, decide_eq_false e, Bool.and_false]), if_neg (fun w => y0 w.2)] at nx
                  exact nx
      have := inn k 0 (by omega)
      rw [if_neg (show ¬ (kpB S (aPl z p) k = true ∧ 0 < cnt (fun j => kpB S (aPl z p) j && flB (aCs z) (aPl z p) 2 k j) 0) from fun w => absurd w.2 (by show ¬ (0 : Int) < 0; decide))] at this
      exact this
  rw [eq_twins]
  exact lp (aCs z).length 0 (by omega)
theorem sdU_ct {M M1 : gM} {z : aS} {S : Nat → Bool} {acc : List gF} {tk ls : Int} (h : sdU M z S) (hS : ctS M1 M acc tk ls) : sdU M1 z S := ⟨uSt_ct h.1 hS, fun k hk => by rw [hS.2.2.2.2.1 736 (by decide) (by decide)]; exact h.2 k hk⟩
/-- what is summed over KEPT ones, one by one -/
theorem sdF_kp {cs : List kC} {S : Nat → Bool} {pl : kP} {w : Int} (hw : w ≠ 5) (k : Nat) : sdF cs S pl w k = if kpB S pl k = true then flV cs S pl w k else 0 := by
  unfold sdF kpB
  cases S k with
  | false => rw [if_neg (show ¬ false = true by decide), Bool.false_and, if_neg (show ¬ false = true by decide)]
  | true =>
    rw [if_pos rfl, if_neg hw, Bool.true_and]
    by_cases q : pl.2.2.2 (k : Int) = 0
    · rw [if_pos q, decide_eq_true q, if_pos rfl]
    · rw [if_neg q, decide_eq_false q, if_neg (by decide)]
theorem s_lostByKept {M : gM} {z : aS} {S : Nat → Bool} {p : Int} (h : sdU M z S) (hG : kGd (aCs z)) (hp : 0 ≤ p ∧ p ≤ 3) (h1 : (aPl z p).2.1 0 = 1) (hF : plFit (aCs z) (aPl z p)) : ∃ M1, F_lostByKept M p = some (sumN (sdF (aCs z) S (aPl z p) 3) (aCs z).length, M1) ∧ sdU M1 z S := by
  have hl9 := h.1.1.2.1
  obtain ⟨-, -, b3, -⟩ := hF h1
  have rng := fun k (hk : k ≤ (aCs z).length) => sumN_rng (f := sdF (aCs z) S (aPl z p) 3) (b := 120) (by decide) k (fun j hj => sdF_rng hG.1 S (aPl z p) 3 j (by omega))
  have lp : ∀ (n k : Nat) (M1 : gM), k + n = (aCs z).length → sdU M1 z S → ∃ M2, F_lostByKept_4 M1 p (sumN (sdF (aCs z) S (aPl z p) 3) k) (k : Int) = some (sumN (sdF (aCs z) S (aPl z p) 3) (aCs z).length, M2) ∧ sdU M2 z S := by
    intro n
    induction n with
    | zero =>
      intro k M1 hk hS
      rw [eq_lostByKept_4, hS.1.1.1, if_neg (by omega), show k = (aCs z).length by omega]
      exact ⟨M1, rfl, hS⟩
    | succ n ih =>
      intro k M1 hk hS
      have ih1 := ih (k + 1)
      have rg := rng k (by omega)
      have rg2 := sdF_rng hG.1 S (aPl z p) 3 k (by omega)
      rw [sumN] at ih1
      have hkf := sdF_kp (cs := aCs z) (S := S) (pl := aPl z p) (w := 3) (by decide) k
      rw [eq_lostByKept_4, hS.1.1.1, if_pos (by omega), gI_bb (s_isKept (k := k) hS hp h1 (by omega)), gw32_id (by omega) (by omega)]
      cases hb : kpB S (aPl z p) k with
      | false =>
        rw [if_pos bIf]
        rw [hkf, hb, if_neg (by decide), Int.add_zero] at ih1
        exact ih1 M1 (by omega) hS
      | true =>
        rw [if_neg bIt]
        rw [hb, if_pos rfl] at hkf
        have hkl : k < (aCs z).length := by omega
        have hc := List.getElem?_eq_getElem hkl
        generalize (aCs z)[k] = c at hc
        have hv : flV (aCs z) S (aPl z p) 3 k = (rCt (aPl z p) (kFs c) 0 0 []).2.1 := by unfold flV; rw [if_pos rfl, fFs_at hc]
        have hT := (hS.1.1.2.2 k c hc).2.2.2.2.2.2
        obtain ⟨M2, e2, s2, -⟩ := s_carriesTree ((hS.1.2.2.2.1 p hp.1 (by omega)).2.2 h1) hp b3 (show (k : Int) ≠ 121 by omega) hT (hG.2 c (List.mem_of_getElem? hc)) (hG.1 k c hc).1.2.2.2.2.2.2
        rw [gI_bb e2, s2.2.2.1]
        rw [hkf, hv] at ih1 rg2
        rw [gw32_id (by omega) (by omega)]
        exact ih1 M2 (by omega) (sdU_ct hS s2)
  rw [eq_lostByKept]
  exact lp (aCs z).length 0 M (by omega) h
theorem s_thinned {M : gM} {z : aS} {S : Nat → Bool} {p : Int} (h : sdU M z S) (hO : kOk (aCs z)) (hp : 0 ≤ p ∧ p ≤ 3) (h1 : (aPl z p).2.1 0 = 1) (hF : plFit (aCs z) (aPl z p)) : F_thinned M p = some (sumN (sdF (aCs z) S (aPl z p) 4) (aCs z).length) := by
  have hC := h.1.1
  have hl9 := hC.2.1
  obtain ⟨-, b2, -⟩ := hF h1
  have rng := fun k (hk : k ≤ (aCs z).length) => sumN_rng (f := sdF (aCs z) S (aPl z p) 4) (b := 120) (by decide) k (fun j hj => sdF_rng hO S (aPl z p) 4 j (by omega))
  have lp : ∀ (n k : Nat), k + n = (aCs z).length → F_thinned_4 M p (sumN (sdF (aCs z) S (aPl z p) 4) k) (k : Int) = some (sumN (sdF (aCs z) S (aPl z p) 4) (aCs z).length) := by
    intro n
    induction n with
    | zero => intro k hk; rw [eq_thinned_4, hC.1, if_neg (by omega), show k = (aCs z).length by omega]
    | succ n ih =>
      intro k hk
      have ih1 := ih (k + 1) (by omega)
      have rg := rng k (by omega)
      rw [sumN] at ih1
      have hkf := sdF_kp (cs := aCs z) (S := S) (pl := aPl z p) (w := 4) (by decide) k
      rw [eq_thinned_4, hC.1, if_pos (by omega), gI_bb (s_isKept (k := k) h hp h1 (by omega))]
      simp (disch := omega) only [gw32_id]
      cases hb : kpB S (aPl z p) k with
      | false =>
        rw [if_pos bIf]
        rw [hkf, hb, if_neg (by decide), Int.add_zero] at ih1
        exact ih1
      | true =>
        rw [if_neg bIt]
        rw [hb, if_pos rfl] at hkf
        have hkl : k < (aCs z).length := by omega
        have hc := List.getElem?_eq_getElem hkl
        generalize (aCs z)[k] = c at hc
        have hv : flV (aCs z) S (aPl z p) 4 k = bI (decide (2 ≤ (kForeL c (aPl z p) (k : Int)).length) && decide ((fPs (aCs z) (imN (aPl z p) k)).length < 2)) := by unfold flV; rw [if_neg (by decide), if_pos rfl, fFo_at hc]
        rw [gI_bb (s_foreMany hC ((h.1.2.2.2.1 p hp.1 (by omega)).2.2 h1) hp b2 hc)]
        rw [hkf, hv] at ih1
        by_cases q : (1 : Int) < ((kForeL c (aPl z p) (k : Int)).length : Int)
        · obtain ⟨i1, i2, -⟩ := s_imN (k := k) h hp h1 hF (by omega) hb
          have hd := List.getElem?_eq_getElem i2
          generalize (aCs z)[imN (aPl z p) k] = d at hd
          have hn := (hC.2.2 _ d hd).1
          rw [if_pos q, gI_bb i1, if_pos (by omega), hn]
          rw [decide_eq_true (show 2 ≤ (kForeL c (aPl z p) (k : Int)).length by omega), Bool.true_and, show fPs (aCs z) (imN (aPl z p) k) = kPs d by unfold fPs; rw [hd]] at ih1
          by_cases y : ((kPs d).length : Int) < 2
          · rw [if_pos y]
            rw [decide_eq_true (by omega)] at ih1; exact ih1
          · rw [if_neg y]
            rw [decide_eq_false (by omega), bIf, Int.add_zero] at ih1; exact ih1
        · rw [if_neg q]
          rw [decide_eq_false (show ¬ 2 ≤ (kForeL c (aPl z p) (k : Int)).length by omega), Bool.false_and, bIf, Int.add_zero] at ih1
          exact ih1
  rw [eq_thinned]
  exact lp (aCs z).length 0 (by omega)
theorem s_notMapped {M : gM} {z : aS} {S : Nat → Bool} {p : Int} (h : sdU M z S) (hO : kOk (aCs z)) (hp : 0 ≤ p ∧ p ≤ 3) (h1 : (aPl z p).2.1 0 = 1) (hPg : plGd (aPl z p)) : F_notMapped M p = some (sumN (sdF (aCs z) S (aPl z p) 5) (aCs z).length) := by
  have hC := h.1.1
  have hl9 := hC.2.1
  have rng := fun k (hk : k ≤ (aCs z).length) => sumN_rng (f := sdF (aCs z) S (aPl z p) 5) (b := 120) (by decide) k (fun j hj => sdF_rng hO S (aPl z p) 5 j (by omega))
  have lp : ∀ (n k : Nat), k + n = (aCs z).length → F_notMapped_4 M p (sumN (sdF (aCs z) S (aPl z p) 5) k) (k : Int) = some (sumN (sdF (aCs z) S (aPl z p) 5) (aCs z).length) := by
    intro n
    induction n with
    | zero => intro k hk; rw [eq_notMapped_4, hC.1, if_neg (by omega), show k = (aCs z).length by omega]
    | succ n ih =>
      intro k hk
      have ih1 := ih (k + 1) (by omega)
      have rg := rng k (by omega)
      have hU := (h.1.2.2.2.1 p hp.1 (by omega)).2.2 h1
      have e := (hU.2.2.2 (k : Int) (by omega) (by omega)).1
      have g := (hPg.2 h1 (k : Int) (by omega) (by omega)).1
      rw [sumN, sdF] at ih1
      rw [eq_notMapped_4, hC.1, if_pos (by omega), if_pos (by omega), h.2 k (by omega)]
      simp (disch := omega) only [gw32_id]
      cases hs : S k with
      | false =>
        rw [if_pos bIf]
        rw [hs, if_neg (by decide), Int.add_zero] at ih1
        exact ih1
      | true =>
        rw [if_neg bIt, if_pos (by omega), e]
        rw [hs, if_pos rfl, if_pos rfl] at ih1
        by_cases q : (aPl z p).2.2.2 (k : Int) = -1
        · rw [if_pos q]
          rw [if_neg (by omega)] at ih1; exact ih1
        · rw [if_neg q]
          rw [if_pos (by omega), Int.add_zero] at ih1; exact ih1
  rw [eq_notMapped]
  exact lp (aCs z).length 0 (by omega)
/-- the pairs of both sides are as many -/
theorem prG_is {cs : List kC} {S : Nat → Bool} {pl : kP} {w v : Int} (hO : kOk cs) (hl : cs.length ≤ 120) (h1 : pl.2.1 0 = 1) (hF : plFit cs pl) (hw : (w = 1 ∧ v = 0) ∨ (w = 0 ∧ v = 1)) : sumN (fun a => cnt (prG cs S pl w a) cs.length) cs.length = sumN (sdF cs S pl v) cs.length := by
  obtain ⟨b1, -, -, -, -, b6⟩ := hF h1
  have im : ∀ k : Nat, k < cs.length → kpB S pl k = true → imN pl k < cs.length := fun k hk hq => by
    have q0 : pl.2.2.2 (k : Int) = 0 := by
      unfold kpB at hq
      exact of_decide_eq_true (Bool.and_eq_true _ _ ▸ hq : S k = true ∧ _ = true).2
    have i := b6 (k : Int) (by omega) (by omega) (by omega)
    have i2 := i.2 q0
    unfold imN; omega
  rw [sum_pairs (prG cs S pl w) (fun a => by unfold prG; rw [decide_eq_false (fun w => w rfl), Bool.false_and]) cs.length]
  refine sumN_congr _ (fun k hk => ?_)
  have e : ∀ j, j < k → bI (prG cs S pl w k j) + bI (prG cs S pl w j k) = bI (kpB S pl k && (kpB S pl j && flB cs pl v k j)) := fun j hj => by
    have hne : kEld cs pl j k = false := by
      cases hx : kEld cs pl j k with
      | false => rfl
      | true => have := kEld_lt b1 (by omega) hx; omega
    unfold prG
    rw [decide_eq_true (show j ≠ k by omega), decide_eq_true (show k ≠ j by omega), Bool.true_and, Bool.true_and]
    cases hk1 : kpB S pl k with
    | false => rw [Bool.false_and, Bool.false_and, Bool.false_and, Bool.and_false]; rfl
    | true =>
      cases hj1 : kpB S pl j with
      | false => rw [Bool.false_and, Bool.false_and, Bool.and_false]; rfl
      | true =>
        rw [Bool.true_and, Bool.true_and, Bool.true_and, Bool.true_and, Bool.true_and, Bool.true_and]
        unfold prB flB
        rcases hw with ⟨rfl, rfl⟩ | ⟨rfl, rfl⟩
        · rw [if_pos (show (1 : Int) = 1 from rfl), if_pos (show (1 : Int) = 1 from rfl), if_neg (show ¬ (0 : Int) = 2 by decide), if_pos (show (0 : Int) = 0 from rfl), hne, Bool.false_and]; exact Int.add_zero _
        · rw [if_neg (show ¬ (0 : Int) = 1 by decide), if_neg (show ¬ (0 : Int) = 1 by decide), if_neg (show ¬ (1 : Int) = 2 by decide), if_neg (show ¬ (1 : Int) = 0 by decide), hne]
          have ik := im k hk hk1
          have ij := im j (by omega) hj1
          cases kEld cs pl k j with
          | true => simp [bI]
          | false =>
            rw [Bool.not_false, Bool.true_and, Bool.true_and, Bool.and_true, Bool.and_true]
            cases hA : kAnc cs (imN pl k) (imN pl j) with
            | false => rw [Bool.false_or]; exact Int.zero_add _
            | true =>
              cases hB : kAnc cs (imN pl j) (imN pl k) with
              | false => rfl
              | true =>
                have := kAnc_lt hO ik hA
                have := kAnc_lt hO ij hB
                omega
  rw [cnt_sum (fun j => prG cs S pl w k j) k, cnt_sum (fun j => prG cs S pl w j k) k, ← sumN_add, sumN_congr k e, sdF_kp (by omega) k]
  have fv : flV cs S pl v k = flC cs S pl v k := by
    unfold flV
    rw [if_neg (by omega), if_neg (by omega), if_neg (by omega)]
  rw [fv]
  cases hk1 : kpB S pl k with
  | false =>
    rw [if_neg (by decide), sumN_congr k (g := fun _ => bI false) (fun j _ => by rw [Bool.false_and]), ← cnt_sum (fun _ => false) k]
    exact cnt_no k (fun _ _ => rfl)
  | true =>
    rw [if_pos rfl]
    unfold flC
    rw [cnt_sum]
    exact sumN_congr k (fun j _ => by rw [Bool.true_and])
theorem s_sound {M : gM} {z : aS} {p w : Int} (hz : uSt M z) (hG : kGd (aCs z)) (hR : ∀ h : Int, 0 ≤ h → h < 4 → rGd ((aCs z).length : Int) (aRs z h)) (hPg : ∀ p : Int, 0 ≤ p → p < 4 → plGd (aPl z p)) (hPd : ∀ p : Int, 0 ≤ p → p < 4 → plFit (aCs z) (aPl z p)) : ∃ M1, F_sound M p w = some (aSound z p w, M1) ∧ uSt M1 z := by
  have hl9 := hz.1.2.1
  unfold aSound
  rw [eq_sound, gI_bb (s_isPlan p)]
  by_cases q1 : 0 ≤ p ∧ p ≤ 3
  · rw [decide_eq_true q1, if_neg bIt, gI_bb s_in]
    by_cases q2 : 0 ≤ w ∧ w ≤ 5
    · have hU := hz.2.2.2.1 p q1.1 (by omega)
      rw [decide_eq_true q2, if_neg bIt, gI_bb (s_isToldPlan hU q1), if_pos (show (0 ≤ p ∧ p ≤ 3) ∧ (0 ≤ w ∧ w ≤ 5) from ⟨q1, q2⟩)]
      have hg := hPg p q1.1 (by omega)
      have hd := hPd p q1.1 (by omega)
      by_cases q4 : (aPl z p).2.1 0 = 0
      · rw [if_pos q4, if_pos q4]; exact ⟨M, rfl, hz⟩
      · have h1 : (aPl z p).2.1 0 = 1 := hU.2.1.resolve_left q4
        obtain ⟨b1, b2, b3, b4, b5, b6⟩ := hd h1
        rw [if_neg q4, if_neg q4]
        obtain ⟨M1, e1, s1, f1⟩ := s_marksPlan hz.1 hG.1 (hU.2.2 h1) q1 b2 b1 b4 (hz.2.2.1 _ b4.1 b4.2) (hR _ b4.1 b4.2)
        rw [gI_bb e1]
        have z1 : uSt M1 z := uSt_keep (A := [736]) (F := []) hz ⟨fun b hb _ => f1 b (fun w => hb (by rw [w]; simp)), fun i _ => by rw [f1 711 (by decide)]⟩ (fun b hb => by rw [List.mem_singleton.mp hb]; omega) (by decide)
        generalize eMark (aCs z) (aPl z p) (aRs z ((aPl z p).2.1 2)) = S at s1 ⊢
        have hS : sdU M1 z S := ⟨z1, s1⟩
        by_cases w0 : w = 0
        · obtain ⟨M2, e2, s2⟩ := s_pairs hS hG.1 q1 h1 hd (w := 1) (Or.inr rfl)
          rw [if_pos w0, gI_bb e2, prG_is hG.1 hl9 h1 hd (v := 0) (Or.inl ⟨rfl, rfl⟩), w0]
          exact ⟨M2, rfl, s2.1⟩
        rw [if_neg w0]
        by_cases w1 : w = 1
        · obtain ⟨M2, e2, s2⟩ := s_pairs hS hG.1 q1 h1 hd (w := 0) (Or.inl rfl)
          rw [if_pos w1, gI_bb e2, prG_is hG.1 hl9 h1 hd (v := 1) (Or.inr ⟨rfl, rfl⟩), w1]
          exact ⟨M2, rfl, s2.1⟩
        rw [if_neg w1]
        by_cases w2 : w = 2
        · rw [if_pos w2, gI_bb (s_twins hS q1 h1 hd), w2]; exact ⟨M1, rfl, z1⟩
        rw [if_neg w2]
        by_cases w3 : w = 3
        · obtain ⟨M2, e2, s2⟩ := s_lostByKept hS hG q1 h1 hd
          rw [if_pos w3, gI_bb e2, w3]; exact ⟨M2, rfl, s2.1⟩
        rw [if_neg w3]
        by_cases w4 : w = 4
        · rw [if_pos w4, gI_bb (s_thinned hS hG.1 q1 h1 hd), w4]; exact ⟨M1, rfl, z1⟩
        rw [if_neg w4, gI_bb (s_notMapped hS hG.1 q1 h1 hg), show w = 5 by omega]
        exact ⟨M1, rfl, z1⟩
    · rw [decide_eq_false q2, if_pos bIf, if_neg (fun w => q2 w.2)]; exact ⟨M, rfl, hz⟩
  · rw [decide_eq_false q1, if_pos bIf, if_neg (fun w => q1 w.1)]; exact ⟨M, rfl, hz⟩
