-- ==== way: the class
theorem sp_X11_way {sh : gS} {M : gM} {z : aS} {i j : Int} (hz : cS sh M z) : gC (gr 1 23) yX11_way cX11_way 6 (some (.int)) [(4, 0), (0, i), (0, j)] sh M (cPo sh M 0 (aWay (aCs z) i j) z) := by
  obtain ⟨hOK, hC, -⟩ := id hz
  have hl9 := hC.2.1
  have h473 : gsh sh 473 = some (1, 120) := gOK_sh hOK 473 rfl
  unfold aWay
  refine w_X11_way hOK ⟨_, sp_X1_has hOK hC, ?_⟩
  rw [hasI]
  by_cases q1 : bC (aCs z) i = true
  · rw [if_neg (bI_ne q1)]
    refine ⟨_, sp_X1_has hOK hC, ?_⟩
    rw [hasI]
    by_cases q2 : bC (aCs z) j = true
    · rw [if_neg (bI_ne q2), if_pos (show bC (aCs z) i = true ∧ bC (aCs z) j = true from ⟨q1, q2⟩)]
      have w1 := of_decide_eq_true q1
      have w2 := of_decide_eq_true q2
      refine ⟨_, sp_J7_fill (n := 120) hOK h473 (by decide) (by decide), fun r1 M0 hP1 => ?_⟩
      obtain ⟨rfl, f1, f2, f3⟩ := hP1
      refine ⟨rfl, f2, by omega, ?_⟩
      have fr0 : ∀ b : Int, b ≠ 473 → gU M0 473 j 0 b = M b := fun b hb => by rw [gU_cell _ _ _ hb]; exact f3 b hb
      have hM2 : wyM (gU M0 473 j 0) 473 120 (wy0 j) := fun q q0 q1 => by
        unfold wy0
        by_cases e : q = j
        · rw [if_pos e, e, gU_same]
        · rw [if_neg e, gU_idx e]; exact f1 q q0 q1
      have don : ∀ (M1 : gM) (v w : Int), gOK sh M1 → (∀ b : Int, b ≠ 473 → M1 b = M b) → v = w → cPo sh M 0 w z (some (0, v)) sh M1 := fun M1 v w hO1 hf e => ⟨rfl, by rw [e], cS_keep hz hO1 (fun b hb => hf b (by omega)), fun b hb => hf b (by omega)⟩
      have fin : ∀ (n : Nat) (M1 : gM) (D : Int → Int), gOK sh M1 → (∀ b : Int, b ≠ 473 → M1 b = M b) → wyM M1 473 120 D → wyB D → (j < i → D i = -1 ∧ n = 0) → (i ≤ j → i + (n : Int) ≤ j) → P_X11_way_41 sh (cPo sh M 0 (wyV (wyG (aCs z) i n D) i) z) i j (if j < i then j else i + (n : Int)) M1 := by
        intro n
        induction n with
        | zero =>
          intro M1 D hO1 hf hM hB hji hij
          refine w_X11_way_41 hO1 ?_
          rw [if_neg (by split <;> omega), hM i (by omega) (by omega)]
          refine ⟨by omega, ?_⟩
          show if D i < 0 then _ else _
          have hv : wyV (wyG (aCs z) i 0 D) i = if D i < 0 then -2 else D i := rfl
          rw [hv]
          by_cases e : D i < 0
          · rw [if_pos e, if_pos e]; exact don M1 _ _ hO1 hf rfl
          · rw [if_neg e, if_neg e]; exact don M1 _ _ hO1 hf rfl
        | succ n ih =>
          intro M1 D hO1 hf hM hB hji hij
          have hij' : i ≤ j := by
            by_cases w : j < i
            · have := (hji w).2; omega
            · omega
          have hin := hij hij'
          obtain ⟨k, hk⟩ : ∃ k : Nat, i + ((n + 1 : Nat) : Int) = (k : Int) := ⟨(i + ((n + 1 : Nat) : Int)).toNat, by omega⟩
          have hkl : k < (aCs z).length := by omega
          have hck := List.getElem?_eq_getElem hkl
          generalize (aCs z)[k] = c at hck
          obtain ⟨⟨o1, o2, -⟩, hw, -⟩ := hC.2.2.2 k c hck
          rw [if_neg (by omega), hk]
          refine w_X11_way_41 hO1 ?_
          rw [if_pos (by omega)]
          have nxt : ∀ (M2 : gM) (D2 : Int → Int), gOK sh M2 → (∀ b : Int, b ≠ 473 → M2 b = M b) → wyM M2 473 120 D2 → wyB D2 → D2 = wyS (aCs z) (k : Int) D → P_X11_way_41 sh (cPo sh M 0 (wyV (wyG (aCs z) i (n + 1) D) i) z) i j (gw32 ((k : Int) + -1)) M2 := by
            intro M2 D2 hO2 hf2 hM2 hB2 e
            have := ih M2 D2 hO2 hf2 hM2 hB2 (fun w => by omega) (fun _ => by omega)
            rw [if_neg (by omega), show i + (n : Int) = (k : Int) + -1 by omega, e] at this
            rw [gw32_id (by omega) (by omega)]
            show P_X11_way_41 sh (cPo sh M 0 (wyV (wyG (aCs z) i n (wyS (aCs z) (i + ((n : Int) + 1)) D)) i) z) i j ((k : Int) + -1) M2
            rw [show i + ((n : Int) + 1) = (k : Int) by omega]
            exact this
          have hS : wyS (aCs z) (k : Int) D = if D (k : Int) < 0 then D else wyP (kPs c) (D (k : Int)) D := by
            unfold wyS; rw [show ((k : Int)).toNat = k by omega, hck]
          by_cases hd : D (k : Int) < 0
          · refine w_X11_way_49 hO1 ⟨by omega, ?_⟩
            rw [hM (k : Int) (by omega) (by omega), if_pos hd]
            exact nxt M1 D hO1 hf hM hB (by rw [hS, if_pos hd])
          · have lp : ∀ (suf pre : List Int) (M2 : gM) (D2 : Int → Int), kPs c = pre ++ suf → gOK sh M2 → (∀ b : Int, b ≠ 473 → M2 b = M b) → wyM M2 473 120 D2 → wyB D2 → D2 (k : Int) = D (k : Int) → wyP suf (D (k : Int)) D2 = wyP (kPs c) (D (k : Int)) D → P_X11_way_49 sh (cPo sh M 0 (wyV (wyG (aCs z) i (n + 1) D) i) z) i j (k : Int) (pre.length : Int) M2 := by
              intro suf
              induction suf with
              | nil =>
                intro pre M2 D2 e hO2 hf2 hM2 hB2 hk2 he
                have hlen := congrArg List.length e
                simp only [List.append_nil] at hlen
                refine w_X11_way_49 hO2 ⟨by omega, ?_⟩
                rw [hM2 (k : Int) (by omega) (by omega), hk2, if_neg hd, hf2 5 (by decide), o1, if_neg (by omega)]
                exact nxt M2 D2 hO2 hf2 hM2 hB2 (by rw [hS, if_neg hd, ← he]; rfl)
              | cons p r ih2 =>
                intro pre M2 D2 e hO2 hf2 hM2 hB2 hk2 he
                have hlen := congrArg List.length e
                rw [List.length_append, List.length_cons] at hlen
                have hp := hw.2.1 p (by rw [e]; simp)
                have h3 := hw.1
                have hbk := hB2 (k : Int) (by omega) (by omega)
                rw [hk2] at hbk
                have hbp := hB2 p (by omega) (by omega)
                refine w_X11_way_49 hO2 ⟨by omega, ?_⟩
                rw [hM2 (k : Int) (by omega) (by omega), hk2, if_neg hd, hf2 5 (by decide), o1, if_pos (by omega)]
                refine ⟨_, sp_X1_parent hO2 (by omega) (by omega), ?_⟩
                have hv := o2 pre.length p (at_mid e)
                rw [hf2 6 (by decide), hv, hM2 p (by omega) (by omega)]
                simp (disch := omega) only [gw32_id]
                refine ⟨by omega, ?_⟩
                have stepY : (D2 p < 0 ∨ D (k : Int) + 1 < D2 p) → P_X11_way_49 sh (cPo sh M 0 (wyV (wyG (aCs z) i (n + 1) D) i) z) i j (k : Int) ((pre.length : Int) + 1) (gU M2 473 p (D (k : Int) + 1)) := fun hy => by
                  have := ih2 (pre ++ [p]) (gU M2 473 p (D (k : Int) + 1)) (fun q => if q = p then D (k : Int) + 1 else D2 q) (by rw [e]; simp) (gOK_i hO2 h473) (fun b hb => by rw [gU_cell _ _ _ hb]; exact hf2 b hb) (wyM_up hM2) (wyB_up hB2 (by omega) (by omega)) ((if_neg (by omega)).trans hk2) (by rw [← he]; show _ = wyP r (D (k : Int)) (if D2 p < 0 ∨ D (k : Int) + 1 < D2 p then _ else D2); rw [if_pos hy])
                  rw [List.length_append] at this
                  simpa using this
                have stepN : ¬ (D2 p < 0 ∨ D (k : Int) + 1 < D2 p) → P_X11_way_49 sh (cPo sh M 0 (wyV (wyG (aCs z) i (n + 1) D) i) z) i j (k : Int) ((pre.length : Int) + 1) M2 := fun hy => by
                  have := ih2 (pre ++ [p]) M2 D2 (by rw [e]; simp) hO2 hf2 hM2 hB2 hk2 (by rw [← he]; show _ = wyP r (D (k : Int)) (if D2 p < 0 ∨ D (k : Int) + 1 < D2 p then _ else D2); rw [if_neg hy])
                  rw [List.length_append] at this
                  simpa using this
                by_cases u1 : D2 p < 0
                · rw [if_pos u1]; exact stepY (Or.inl u1)
                · rw [if_neg u1]
                  by_cases u2 : D (k : Int) + 1 < D2 p
                  · rw [if_pos u2]; exact stepY (Or.inr u2)
                  · rw [if_neg u2]; exact stepN (fun w => by omega)
            exact lp (kPs c) [] M1 D rfl hO1 hf hM hB rfl rfl
      have := fin (j - i).toNat (gU M0 473 j 0) (wy0 j) (gOK_i f2 h473) fr0 hM2 (wy0_B (by omega)) (fun w => ⟨if_neg (by omega), by omega⟩) (fun w => by omega)
      rw [show (if j < i then j else i + (((j - i).toNat : Nat) : Int)) = j by split <;> omega] at this
      exact this
    · rw [if_pos (bI_eq (by simpa using q2)), if_neg (fun w => q2 w.2)]; exact cPo_same hz rfl
  · rw [if_pos (bI_eq (by simpa using q1)), if_neg (fun w => q1 w.1)]; exact cPo_same hz rfl
