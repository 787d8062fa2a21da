-- ==== halving on both sides
def kU (cs : List kC) (k : Nat) (j : Nat) : Bool := decide (j = k) || kAnc cs k j
def hvX (cs : List kC) (i j : Nat) (q : Nat) : Bool := kU cs j q && !kU cs i q
def hvN (cs : List kC) (X : Nat → Bool) (k : Nat) : Int := cnt (fun q => X q && kAnc cs k q) cs.length + 1
def hvV (N n : Int) : Int := if N - n < n then N - n else n
def hvS (cs : List kC) (X : Nat → Bool) (N : Int) (st : Int × Int × Int) (k : Nat) : Int × Int × Int := if X k = true then (if st.2.2 < hvV N (hvN cs X k) then ((k : Int), hvN cs X k, hvV N (hvN cs X k)) else st) else st
def hvG (cs : List kC) (X : Nat → Bool) (N : Int) : Nat → Int × Int × Int
  | 0 => (-2, -2, -1)
  | k + 1 => hvS cs X N (hvG cs X N k) k
def hvA (cs : List kC) (X : Nat → Bool) (w : Int) : Int := if w = 0 then cnt X cs.length else if w = 1 then (hvG cs X (cnt X cs.length) cs.length).1 else (hvG cs X (cnt X cs.length) cs.length).2.1
def aHalving (cs : List kC) (i j w : Int) : Int := if bC cs i = true ∧ bC cs j = true ∧ (0 ≤ w ∧ w ≤ 2) then hvA cs (hvX cs i.toNat j.toNat) w else -1
theorem kU_top {cs : List kC} (hO : kOk cs) {k j : Nat} (hk : k < cs.length) (hj : cs.length ≤ j) : kU cs k j = false := by
  unfold kU
  rw [decide_eq_false (by omega), Bool.false_or]
  cases hb : kAnc cs k j with
  | false => rfl
  | true => have := kAnc_lt hO hk hb; omega
theorem hvN_at {cs : List kC} (hO : kOk cs) {X : Nat → Bool} {k : Nat} (hk : k < cs.length) (hX : X k = true) : cnt (fun q => kU cs k q && X q) (k + 1) = hvN cs X k := by
  rw [cnt_T (by show ((decide (k = k) || kAnc cs k k) && X k) = true; rw [decide_eq_true rfl, hX]; rfl)]
  unfold hvN
  have e := cnt_top (f := fun q => X q && kAnc cs k q) (n := k) (cs.length - k) (fun q a _ => by
    have : kAnc cs k q = false := by
      cases hb : kAnc cs k q with
      | false => rfl
      | true => have := kAnc_lt hO hk hb; omega
    show (X q && kAnc cs k q) = false
    rw [this, Bool.and_false])
  rw [show k + (cs.length - k) = cs.length by omega] at e
  rw [e]
  congr 1
  refine cnt_congr k (fun q hq => ?_)
  show (kU cs k q && X q) = (X q && kAnc cs k q)
  unfold kU
  rw [decide_eq_false (by omega), Bool.false_or, Bool.and_comm]
theorem s_marksOf {M : gM} {cs : List kC} {i j : Nat} {w : Int} (hC : uC M cs) (hO : kOk cs) (hi : i < cs.length) (hj : j < cs.length) : ∃ M1, F_marksOf M (i : Int) (j : Int) w = some M1 ∧ uS M1 747 (fun q => if w = 0 then hvX cs i j q else kU cs i q && kU cs j q) ∧ ∀ b : Int, b ≠ 747 → b ≠ 748 → M1 b = M b := by
  have hl9 := hC.2.1
  obtain ⟨M1, e1, s1, f1⟩ := s_marksWithAncestors (a := 747) hC hO (by decide) hi
  have hC1 : uC M1 cs := uC_but hC (a := 747) (by decide) f1
  obtain ⟨M2, e2, s2, f2⟩ := s_marksWithAncestors (a := 748) hC1 hO (by decide) hj
  have s1' : uS M2 747 (kU cs i) := fun k hk => by rw [f2 747 (by decide)]; exact s1 k hk
  have s2' : uS M2 748 (kU cs j) := s2
  rw [eq_marksOf, gI_bb e1, gI_bb e2]
  generalize hT : (fun q => if w = 0 then hvX cs i j q else kU cs i q && kU cs j q) = T
  have hTq : ∀ q, T q = if w = 0 then kU cs j q && !kU cs i q else kU cs i q && kU cs j q := fun q => by rw [← hT]; rfl
  have lp : ∀ (m k : Nat) (M3 : gM), k + m = cs.length → (∀ b : Int, b ≠ 747 → b ≠ 748 → M3 b = M b) → (∀ q : Nat, q < 120 → M3 748 (q : Int) = bI (kU cs j q)) → (∀ q : Nat, q < k → M3 747 (q : Int) = bI (T q)) → (∀ q : Nat, k ≤ q → q < 120 → M3 747 (q : Int) = bI (kU cs i q)) → ∃ M4, F_marksOf_21 M3 (i : Int) (j : Int) w (k : Int) = some M4 ∧ uS M4 747 T ∧ ∀ b : Int, b ≠ 747 → b ≠ 748 → M4 b = M b := by
    intro m
    induction m with
    | zero =>
      intro k M3 hk hf h8 h7 h7b
      rw [eq_marksOf_21, hf 711 (by decide) (by decide), hC.1, if_neg (by omega)]
      refine ⟨M3, rfl, fun q hq => ?_, hf⟩
      by_cases z : q < k
      · exact h7 q z
      · rw [h7b q (by omega) hq, hTq, kU_top hO hi (by omega), kU_top hO hj (by omega)]
        split <;> rfl
    | succ m ih =>
      intro k M3 hk hf h8 h7 h7b
      have r1 : (0 : Int) ≤ (k : Int) ∧ (k : Int) < 120 := by omega
      rw [eq_marksOf_21, hf 711 (by decide) (by decide), hC.1, if_pos (by omega), h7b k (by omega) (by omega), h8 k (by omega)]
      simp only [if_pos r1]
      rw [gw32_id (by omega) (by omega)]
      have nx : ∀ v : Int, v = bI (T k) → ∃ M4, F_marksOf_21 (gU M3 747 (k : Int) v) (i : Int) (j : Int) w ((k : Int) + 1) = some M4 ∧ uS M4 747 T ∧ ∀ b : Int, b ≠ 747 → b ≠ 748 → M4 b = M b := fun v hv => by
        refine ih (k + 1) _ (by omega) (fun b b0 b1 => by rw [gU_cell _ _ _ b0]; exact hf b b0 b1) (fun q hq => by rw [gU_cel (by decide)]; exact h8 q hq) (fun q hq => ?_) (fun q q0 q1 => by rw [gU_idx (by omega)]; exact h7b q (by omega) q1)
        by_cases e : q = k
        · rw [e, gU_same, hv]
        · rw [gU_idx (by omega)]; exact h7 q (by omega)
      rw [hTq] at nx
      by_cases w0 : w = 0
      · rw [if_pos w0] at nx ⊢
        cases ha : kU cs i k <;> cases hb : kU cs j k <;> rw [ha, hb] at nx
        · rw [if_pos bIf, if_pos bIf]; exact nx 0 rfl
        · rw [if_pos bIf, if_neg bIt]; exact nx 1 rfl
        · rw [if_neg bIt]; exact nx 0 rfl
        · rw [if_neg bIt]; exact nx 0 rfl
      · rw [if_neg w0] at nx ⊢
        cases ha : kU cs i k <;> cases hb : kU cs j k <;> rw [ha, hb] at nx
        · rw [if_pos bIf]; exact nx 0 rfl
        · rw [if_pos bIf]; exact nx 0 rfl
        · rw [if_neg bIt, if_pos bIf]; exact nx 0 rfl
        · rw [if_neg bIt, if_neg bIt]; exact nx 1 rfl
  exact lp cs.length 0 M2 (by omega) (fun b b0 b1 => by rw [f2 b b1, f1 b b0]) (fun q hq => s2' q hq) (fun q hq => by omega) (fun q _ hq => s1' q hq)
def hvR (st : Int × Int × Int) (x5 x6 x7 : Int) : Prop := (st = (-2, -2, -1) ∧ x5 = -1 ∧ x6 = 0 ∧ x7 = -1) ∨ (0 ≤ st.1 ∧ x5 = st.1 ∧ x6 = st.2.1 ∧ x7 = st.2.2)
theorem s_min (a b : Int) : F_min a b = some (if a < b then a else b) := by rw [eq_min]; split <;> rfl
theorem s_halving {M : gM} {z : aS} {i j w : Int} (h : uSt M z) (hO : kOk (aCs z)) : ∃ M1, F_halving M i j w = some (aHalving (aCs z) i j w, M1) ∧ uSt M1 z := by
  have hC := h.1
  have hl9 := hC.2.1
  unfold aHalving
  rw [eq_halving, gI_bb (s_isCommit hC i)]
  by_cases q1 : 0 ≤ i ∧ i < ((aCs z).length : Int)
  · rw [decide_eq_true q1, if_neg bIt, gI_bb (s_isCommit hC j)]
    by_cases q2 : 0 ≤ j ∧ j < ((aCs z).length : Int)
    · rw [decide_eq_true q2, if_neg bIt, gI_bb s_in]
      by_cases q3 : 0 ≤ w ∧ w ≤ 2
      · rw [decide_eq_true q3, if_neg bIt, if_pos (show bC (aCs z) i = true ∧ bC (aCs z) j = true ∧ (0 ≤ w ∧ w ≤ 2) from ⟨decide_eq_true q1, decide_eq_true q2, q3⟩)]
        obtain ⟨ni, rfl⟩ : ∃ n : Nat, i = (n : Int) := ⟨i.toNat, by omega⟩
        obtain ⟨nj, rfl⟩ : ∃ n : Nat, j = (n : Int) := ⟨j.toNat, by omega⟩
        rw [Int.toNat_natCast, Int.toNat_natCast]
        obtain ⟨M1, e1, s1, f1⟩ := s_marksOf (w := 0) (i := ni) (j := nj) hC hO (by omega) (by omega)
        have s1 : uS M1 747 (hvX (aCs z) ni nj) := s1
        generalize hX : hvX (aCs z) ni nj = X at s1
        have tX : ∀ k, (aCs z).length ≤ k → X k = false := fun k hk => by
          rw [← hX]; unfold hvX; rw [kU_top hO (by omega) hk]; rfl
        have keep : ∀ M2 : gM, (∀ b : Int, b ≠ 747 → b ≠ 748 → b ≠ 723 → M2 b = M b) → uSt M2 z := fun M2 hf => uSt_keep (A := [747, 748, 723]) (F := []) h ⟨fun b hb _ => hf b (fun e => hb (by rw [e]; simp)) (fun e => hb (by rw [e]; simp)) (fun e => hb (by rw [e]; simp)), fun f _ => by rw [hf 711 (by decide) (by decide) (by decide)]⟩ (fun b hb => by simp at hb; omega) (by decide)
        have eN : cnt X 120 = cnt X (aCs z).length := by
          have := cnt_top (f := X) (n := (aCs z).length) (120 - (aCs z).length) (fun k a _ => tX k a)
          rw [show (aCs z).length + (120 - (aCs z).length) = 120 by omega] at this; exact this
        rw [gI_bb e1, gI_bb (s_sizeOf (by decide) s1), eN]
        unfold hvA
        generalize hN : cnt X (aCs z).length = N
        have rN := cnt_rng X (aCs z).length
        rw [hN] at rN
        by_cases w0 : w = 0
        · rw [if_pos w0, if_pos w0]; exact ⟨M1, rfl, keep M1 (fun b a0 a1 _ => f1 b a0 a1)⟩
        · rw [if_neg w0, if_neg w0]
          have lp : ∀ (m k : Nat) (M2 : gM) (x5 x6 x7 : Int), k + m = (aCs z).length → (∀ b : Int, b ≠ 723 → M2 b = M1 b) → hvR (hvG (aCs z) X N k) x5 x6 x7 → ∃ M3, F_halving_62 M2 (ni : Int) (nj : Int) w N x5 x6 x7 (k : Int) = some (if w = 1 then (hvG (aCs z) X N (aCs z).length).1 else (hvG (aCs z) X N (aCs z).length).2.1, M3) ∧ ∀ b : Int, b ≠ 723 → M3 b = M1 b := by
            intro m
            induction m with
            | zero =>
              intro k M2 x5 x6 x7 hk hf hr
              rw [eq_halving_62, hf 711 (by decide), f1 711 (by decide) (by decide), hC.1, if_neg (by omega)]
              refine ⟨M2, ?_, hf⟩
              have hkk : k = (aCs z).length := by omega
              rw [hkk] at hr
              rcases hr with ⟨a, b, -, -⟩ | ⟨a, b, c, -⟩
              · rw [if_pos b, a]
                split <;> rfl
              · rw [if_neg (by omega), b, c]
                by_cases w1 : w = 1
                · rw [if_pos w1, if_pos w1]
                · rw [if_neg w1, if_neg w1]
            | succ m ih =>
              intro k M2 x5 x6 x7 hk hf hr
              have hkl : k < (aCs z).length := by omega
              rw [eq_halving_62, hf 711 (by decide), f1 711 (by decide) (by decide), hC.1, if_pos (by omega), if_pos (by omega), hf 747 (by decide), s1 k (by omega), gw32_id (by omega) (by omega)]
              have hG : hvG (aCs z) X N (k + 1) = hvS (aCs z) X N (hvG (aCs z) X N k) k := rfl
              cases hx : X k with
              | false =>
                rw [if_pos bIf]
                refine ih (k + 1) M2 x5 x6 x7 (by omega) hf ?_
                rw [hG]; unfold hvS; rw [if_neg (by rw [hx]; decide)]; exact hr
              | true =>
                rw [if_neg bIt]
                have hC2 : uC M2 (aCs z) := uC_same hC (by rw [hf 711 (by decide), f1 711 (by decide) (by decide)]) (fun b b0 b1 => by rw [hf b (by omega), f1 b (by omega) (by omega)])
                obtain ⟨M3, e3, s3, f3⟩ := s_marksWithAncestors (a := 723) hC2 hO (by decide) hkl
                have s3 : uS M3 723 (kU (aCs z) k) := s3
                have s7 : uS M3 747 X := fun q hq => by rw [f3 747 (by decide), hf 747 (by decide)]; exact s1 q hq
                have hf3 : ∀ b : Int, b ≠ 723 → M3 b = M1 b := fun b hb => by rw [f3 b hb, hf b hb]
                rw [gI_bb e3]
                generalize hF : (fun q => kU (aCs z) k q && X q) = F
                have eF := hvN_at hO hkl hx
                rw [hF] at eF
                have inn : ∀ (m2 q : Nat), q + m2 = k + 1 → ∃ M4, F_halving_100 M3 (ni : Int) (nj : Int) w N x5 x6 x7 (k : Int) (cnt F q) (q : Int) = some (if w = 1 then (hvG (aCs z) X N (aCs z).length).1 else (hvG (aCs z) X N (aCs z).length).2.1, M4) ∧ ∀ b : Int, b ≠ 723 → M4 b = M1 b := by
                  intro m2
                  induction m2 with
                  | zero =>
                    intro q hq
                    have rF := cnt_rng F (k + 1)
                    rw [eF] at rF
                    rw [show q = k + 1 by omega, eF, eq_halving_100, if_pos (by omega), gw32_id (z := N - hvN (aCs z) X k) (by omega) (by omega), gI_bb (s_min _ _)]
                    have hv : (if hvN (aCs z) X k < N - hvN (aCs z) X k then hvN (aCs z) X k else N - hvN (aCs z) X k) = hvV N (hvN (aCs z) X k) := by
                      unfold hvV
                      split <;> split <;> omega
                    rw [hv, gw32_id (by omega) (by omega)]
                    have h7 : x7 = (hvG (aCs z) X N k).2.2 := by
                      rcases hr with ⟨a, -, -, b⟩ | ⟨-, -, -, b⟩
                      · rw [b, a]
                      · exact b
                    by_cases y : x7 < hvV N (hvN (aCs z) X k)
                    · rw [if_pos y]
                      refine ih (k + 1) M3 _ _ _ (by omega) hf3 (Or.inr ?_)
                      rw [hG]; unfold hvS; rw [if_pos hx, if_pos (by rw [← h7]; exact y)]
                      exact ⟨Int.natCast_nonneg _, rfl, rfl, rfl⟩
                    · rw [if_neg y]
                      refine ih (k + 1) M3 _ _ _ (by omega) hf3 ?_
                      rw [hG]; unfold hvS; rw [if_pos hx, if_neg (by rw [← h7]; exact y)]
                      exact hr
                  | succ m2 ih2 =>
                    intro q hq
                    have rF := cnt_rng F q
                    have ih3 := ih2 (q + 1) (by omega)
                    rw [eq_halving_100, if_neg (by omega), if_pos (by omega), s3 q (by omega), s7 q (by omega)]
                    simp (disch := omega) only [gw32_id]
                    have hFq : F q = (kU (aCs z) k q && X q) := by rw [← hF]
                    cases ha : kU (aCs z) k q <;> cases hb : X q <;> rw [ha, hb] at hFq
                    · rw [if_pos bIf]; rw [cnt_F hFq] at ih3; exact ih3
                    · rw [if_pos bIf]; rw [cnt_F hFq] at ih3; exact ih3
                    · rw [if_neg bIt, if_pos bIf]; rw [cnt_F hFq] at ih3; exact ih3
                    · rw [if_neg bIt, if_neg bIt]; rw [cnt_T hFq] at ih3; exact ih3
                exact inn (k + 1) 0 (by omega)
          obtain ⟨M3, e3, f3⟩ := lp (aCs z).length 0 M1 (-1) 0 (-1) (by omega) (fun _ _ => rfl) (Or.inl ⟨rfl, rfl, rfl, rfl⟩)
          exact ⟨M3, e3, keep M3 (fun b a0 a1 a2 => by rw [f3 b a2, f1 b a0 a1])⟩
      · rw [decide_eq_false q3, if_pos bIf, if_neg (fun w => q3 w.2.2)]; exact ⟨M, rfl, h⟩
    · rw [decide_eq_false q2, if_pos bIf, if_neg (fun w => q2 (of_decide_eq_true w.2.1))]; exact ⟨M, rfl, h⟩
  · rw [decide_eq_false q1, if_pos bIf, if_neg (fun w => q1 (of_decide_eq_true w.1))]; exact ⟨M, rfl, h⟩
