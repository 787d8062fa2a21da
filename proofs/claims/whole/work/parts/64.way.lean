-- ==== way on both sides
def wyP : List Int → Int → (Int → Int) → Int → Int
  | [], _, D => D
  | p :: r, d, D => wyP r d (if D p < 0 ∨ d + 1 < D p then (fun q => if q = p then d + 1 else D q) else D)
def wyS (cs : List kC) (k : Int) (D : Int → Int) : Int → Int := match cs[k.toNat]? with
  | some c => if D k < 0 then D else wyP (kPs c) (D k) D
  | none => D
/-- the COMMITS i + n, .., i + 1 in turn -/
def wyG (cs : List kC) (i : Int) : Nat → (Int → Int) → Int → Int
  | 0, D => D
  | n + 1, D => wyG cs i n (wyS cs (i + ((n : Int) + 1)) D)
def wy0 (j : Int) (q : Int) : Int := if q = j then 0 else -1
def wyV (D : Int → Int) (i : Int) : Int := if D i < 0 then -2 else D i
def aWay (cs : List kC) (i j : Int) : Int := if bC cs i = true ∧ bC cs j = true then wyV (wyG cs i (j - i).toNat (wy0 j)) i else -1
def wyB (D : Int → Int) : Prop := ∀ q : Int, 0 ≤ q → q < 120 → -1 ≤ D q ∧ D q ≤ 120 - q
def wyM (M : gM) (a n : Int) (D : Int → Int) : Prop := ∀ q : Int, 0 ≤ q → q < n → M a q = D q
theorem wy0_B {j : Int} (h : 0 ≤ j ∧ j < 120) : wyB (wy0 j) := fun q q0 q1 => by
  unfold wy0; split <;> omega
theorem wyB_up {D : Int → Int} {p d : Int} (h : wyB D) (hd : 0 ≤ d) (hd2 : d + 1 ≤ 120 - p) : wyB (fun q => if q = p then d + 1 else D q) := fun q q0 q1 => by
  show -1 ≤ (if q = p then d + 1 else D q) ∧ (if q = p then d + 1 else D q) ≤ 120 - q
  by_cases e : q = p
  · rw [if_pos e]; omega
  · rw [if_neg e]; exact h q q0 q1
theorem wyM_up {M : gM} {a n p d : Int} {D : Int → Int} (h : wyM M a n D) : wyM (gU M a p d) a n (fun q => if q = p then d else D q) := fun q q0 q1 => by
  show gU M a p d a q = if q = p then d else D q
  by_cases e : q = p
  · rw [if_pos e, e, gU_same]
  · rw [if_neg e, gU_idx e]; exact h q q0 q1
theorem s_way {M : gM} {z : aS} {i j : Int} (h : uSt M z) (hO : kOk (aCs z)) : ∃ M1, F_way M i j = some (aWay (aCs z) i j, M1) ∧ uSt M1 z := by
  have hC := h.1
  have hl9 := hC.2.1
  unfold aWay
  rw [eq_way, gI_bb (s_isCommit hC i)]
  by_cases q1 : 0 ≤ i ∧ i < ((aCs z).length : Int)
  · rw [decide_eq_true q1, if_neg bIt, gI_bb (s_isCommit hC j)]
    by_cases q2 : 0 ≤ j ∧ j < ((aCs z).length : Int)
    · rw [decide_eq_true q2, if_neg bIt, if_pos (show bC (aCs z) i = true ∧ bC (aCs z) j = true from ⟨decide_eq_true q1, decide_eq_true q2⟩)]
      have keep : ∀ M1 : gM, (∀ b : Int, b ≠ 749 → M1 b = M b) → uSt M1 z := fun M1 hf => uSt_keep (A := [749]) (F := []) h ⟨fun b hb _ => hf b (fun e => hb (by rw [e]; exact List.mem_cons_self)), fun f _ => by rw [hf 711 (by decide)]⟩ (fun b hb => by have := List.mem_singleton.mp hb; omega) (by decide)
      have fin : ∀ (n : Nat) (M1 : gM) (D : Int → Int), (n : Int) = ((j - i).toNat : Int) ∨ i + (n : Int) ≤ j → (∀ b : Int, b ≠ 749 → M1 b = M b) → wyM M1 749 ((aCs z).length : Int) D → wyB D → (j < i → D i = -1 ∧ n = 0) → (i ≤ j → i + (n : Int) ≤ j) → ∃ M2, F_way_50 M1 i j (if j < i then j else i + (n : Int)) = some (wyV (wyG (aCs z) i n D) i, M2) ∧ ∀ b : Int, b ≠ 749 → M2 b = M b := by
        intro n
        induction n with
        | zero =>
          intro M1 D _ hf hM hB hji hij
          refine ⟨M1, ?_, hf⟩
          rw [eq_way_50]
          by_cases w : j < i
          · rw [if_pos w, if_neg (by omega), if_pos w]
            show some (-2, M1) = some (wyV D i, M1)
            unfold wyV; rw [(hji w).1]; rfl
          · rw [if_neg w, if_neg (by omega), if_neg w, if_pos (by omega), hM i (by omega) (by omega)]
            have hb := hB i (by omega) (by omega)
            show _ = some (wyV D i, M1)
            unfold wyV
            by_cases e : D i < 0
            · rw [if_pos (by omega), if_pos e]
            · rw [if_neg (by omega), if_neg e]
        | succ n ih =>
          intro M1 D _ hf hM hB hji hij
          have hij' : i ≤ j := by
            by_cases w : j < i
            · have := (hji w).2; omega
            · omega
          have hin := hij hij'
          have hC1 : uC M1 (aCs z) := uC_same hC (by rw [hf 711 (by decide)]) (fun b b0 b1 => hf b (by omega))
          obtain ⟨k, hk⟩ : ∃ k : Nat, i + ((n + 1 : Nat) : Int) = (k : Int) := ⟨(i + ((n + 1 : Nat) : Int)).toNat, by omega⟩
          have hkl : k < (aCs z).length := by omega
          have hck := List.getElem?_eq_getElem hkl
          generalize (aCs z)[k] = c at hck
          have hw := (hO k c hck).1
          rw [if_neg (by omega), hk, eq_way_50, if_pos (by omega)]
          have nxt : ∀ (M2 : gM) (D2 : Int → Int), (∀ b : Int, b ≠ 749 → M2 b = M b) → wyM M2 749 ((aCs z).length : Int) D2 → wyB D2 → D2 = wyS (aCs z) (k : Int) D → ∃ M3, F_way_50 M2 i j ((k : Int) + -1) = some (wyV (wyG (aCs z) i (n + 1) D) i, M3) ∧ ∀ b : Int, b ≠ 749 → M3 b = M b := by
            intro M2 D2 hf2 hM2 hB2 e
            have := ih M2 D2 (Or.inr (by omega)) hf2 hM2 hB2 (fun w => by omega) (fun _ => by omega)
            rw [if_neg (by omega), show i + (n : Int) = (k : Int) + -1 by omega, e] at this
            show ∃ M3, F_way_50 M2 i j ((k : Int) + -1) = some (wyV (wyG (aCs z) i n (wyS (aCs z) (i + ((n : Int) + 1)) D)) i, M3) ∧ _
            rw [show i + ((n : Int) + 1) = (k : Int) by omega]
            exact this
          have hS : wyS (aCs z) (k : Int) D = if D (k : Int) < 0 then D else wyP (kPs c) (D (k : Int)) D := by
            unfold wyS; rw [show ((k : Int)).toNat = k by omega, hck]
          by_cases hd : D (k : Int) < 0
          · have hbk := hB (k : Int) (by omega) (by omega)
            rw [eq_way_58, if_pos (by omega), (hC1.2.2 k c hck).1, hM (k : Int) (by omega) (by omega), gw32_id (by omega) (by omega)]
            have r := nxt M1 D hf hM hB (by rw [hS, if_pos hd])
            by_cases e : (0 : Int) < ((kPs c).length : Int)
            · rw [if_pos e, if_pos (by omega)]; exact r
            · rw [if_neg e]; exact r
          · have lp : ∀ (suf pre : List Int) (M2 : gM) (D2 : Int → Int), kPs c = pre ++ suf → (∀ b : Int, b ≠ 749 → M2 b = M b) → wyM M2 749 ((aCs z).length : Int) D2 → wyB D2 → D2 (k : Int) = D (k : Int) → wyP suf (D (k : Int)) D2 = wyP (kPs c) (D (k : Int)) D → ∃ M3, F_way_58 M2 i j (k : Int) (pre.length : Int) = some (wyV (wyG (aCs z) i (n + 1) D) i, M3) ∧ ∀ b : Int, b ≠ 749 → M3 b = M b := by
              intro suf
              induction suf with
              | nil =>
                intro pre M2 D2 e hf2 hM2 hB2 hk2 he
                have hlen := congrArg List.length e
                simp only [List.append_nil] at hlen
                have hC2 : uC M2 (aCs z) := uC_same hC (by rw [hf2 711 (by decide)]) (fun b b0 b1 => hf2 b (by omega))
                rw [eq_way_58, if_pos (by omega), (hC2.2.2 k c hck).1, if_neg (by omega), gw32_id (by omega) (by omega)]
                exact nxt M2 D2 hf2 hM2 hB2 (by rw [hS, if_neg hd, ← he]; rfl)
              | cons p r ih2 =>
                intro pre M2 D2 e hf2 hM2 hB2 hk2 he
                have hlen := congrArg List.length e
                rw [List.length_append, List.length_cons] at hlen
                have hC2 : uC M2 (aCs z) := uC_same hC (by rw [hf2 711 (by decide)]) (fun b b0 b1 => hf2 b (by omega))
                have hp := hw.2.1 p (by rw [e]; simp)
                have h3 := hw.1
                have hbk := hB2 (k : Int) (by omega) (by omega)
                rw [hk2] at hbk
                rw [eq_way_58, if_pos (by omega), (hC2.2.2 k c hck).1, if_pos (by omega), hM2 (k : Int) (by omega) (by omega), hk2, if_neg (by omega), gI_bb (s_parentAt hC2 hck hw.1 (at_mid e)), if_pos (by omega), hM2 p (by omega) (by omega)]
                have hbp := hB2 p (by omega) (by omega)
                simp (disch := omega) only [gw32_id]
                have stepY : (D2 p < 0 ∨ D (k : Int) + 1 < D2 p) → ∃ M3, F_way_58 (gU M2 749 p (D (k : Int) + 1)) i j (k : Int) ((pre.length : Int) + 1) = some (wyV (wyG (aCs z) i (n + 1) D) i, M3) ∧ ∀ b : Int, b ≠ 749 → M3 b = M b := fun hy => by
                  have := ih2 (pre ++ [p]) (gU M2 749 p (D (k : Int) + 1)) (fun q => if q = p then D (k : Int) + 1 else D2 q) (by rw [e]; simp) (fun b hb => by rw [gU_cell _ _ _ hb]; exact hf2 b hb) (wyM_up hM2) (wyB_up hB2 (by omega) (by omega)) ((if_neg (by omega)).trans hk2) (by rw [← he]; show _ = wyP r (D (k : Int)) (if D2 p < 0 ∨ D (k : Int) + 1 < D2 p then _ else D2); rw [if_pos hy])
                  rw [List.length_append] at this
                  simpa using this
                have stepN : ¬ (D2 p < 0 ∨ D (k : Int) + 1 < D2 p) → ∃ M3, F_way_58 M2 i j (k : Int) ((pre.length : Int) + 1) = some (wyV (wyG (aCs z) i (n + 1) D) i, M3) ∧ ∀ b : Int, b ≠ 749 → M3 b = M b := fun hy => by
                  have := ih2 (pre ++ [p]) M2 D2 (by rw [e]; simp) hf2 hM2 hB2 hk2 (by rw [← he]; show _ = wyP r (D (k : Int)) (if D2 p < 0 ∨ D (k : Int) + 1 < D2 p then _ else D2); rw [if_neg hy])
                  rw [List.length_append] at this
                  simpa using this
                by_cases u1 : D2 p = -1
                · rw [if_pos u1]; exact stepY (Or.inl (by omega))
                · rw [if_neg u1]
                  by_cases u2 : D (k : Int) + 1 < D2 p
                  · rw [if_pos u2]; exact stepY (Or.inr u2)
                  · rw [if_neg u2]; exact stepN (fun w => by omega)
            exact lp (kPs c) [] M1 D rfl hf hM hB rfl rfl
      have fl : ∀ (m k : Nat) (M1 : gM), k + m = (aCs z).length → (∀ b : Int, b ≠ 749 → M1 b = M b) → (∀ q : Int, 0 ≤ q → q < (k : Int) → M1 749 q = -1) → ∃ M2, F_way_20 M1 i j (k : Int) = some (wyV (wyG (aCs z) i (j - i).toNat (wy0 j)) i, M2) ∧ ∀ b : Int, b ≠ 749 → M2 b = M b := by
        intro m
        induction m with
        | zero =>
          intro k M1 hk hf hM
          rw [eq_way_20, hf 711 (by decide), hC.1, if_neg (by omega), if_pos (by omega)]
          have hM2 : wyM (gU M1 749 j 0) 749 ((aCs z).length : Int) (wy0 j) := fun q q0 q1 => by
            unfold wy0
            by_cases e : q = j
            · rw [if_pos e, e, gU_same]
            · rw [if_neg e, gU_idx e]; exact hM q q0 (by omega)
          have := fin (j - i).toNat (gU M1 749 j 0) (wy0 j) (Or.inl rfl) (fun b hb => by rw [gU_cell _ _ _ hb]; exact hf b hb) hM2 (wy0_B (by omega)) (fun w => ⟨if_neg (by omega), by omega⟩) (fun w => by omega)
          rw [show (if j < i then j else i + (((j - i).toNat : Nat) : Int)) = j by split <;> omega] at this
          exact this
        | succ m ih =>
          intro k M1 hk hf hM
          rw [eq_way_20, hf 711 (by decide), hC.1, if_pos (by omega), if_pos (by omega), gw32_id (by omega) (by omega)]
          exact ih (k + 1) _ (by omega) (fun b hb => by rw [gU_cell _ _ _ hb]; exact hf b hb) (fun q q0 q1 => by
            by_cases e : q = (k : Int)
            · rw [e, gU_same]
            · rw [gU_idx e]; exact hM q q0 (by omega))
      obtain ⟨M2, e1, e2⟩ := fl (aCs z).length 0 M (by omega) (fun _ _ => rfl) (fun q q0 q1 => by omega)
      exact ⟨M2, e1, keep M2 e2⟩
    · rw [decide_eq_false q2, if_pos bIf, if_neg (fun w => q2 (of_decide_eq_true w.2))]; exact ⟨M, rfl, h⟩
  · rw [decide_eq_false q1, if_pos bIf, if_neg (fun w => q1 (of_decide_eq_true w.1))]; exact ⟨M, rfl, h⟩
