-- ==== the reference: what is said, piece by piece
theorem rR_hd {lo hi : Int} (h0 : 0 ≤ lo) : ∀ s : List Int, ¬ (lo ≤ hd (rR lo hi s) ∧ hd (rR lo hi s) ≤ hi)
  | [] => fun w => by have : lo ≤ -1 := w.1; omega
  | c :: r => by
    unfold rR
    split
    · exact rR_hd h0 r
    · rename_i q; exact q
theorem uY_fr {M M1 : gM} {out : List Int} (h : uY M out) (h7 : M1 711 13 = M 711 13) (h3 : M1 722 = M 722) : uY M1 out := by
  unfold uY; rw [h7, h3]; exact h
/-- a piece is said as it is -/
theorem s_raw181 {M : gM} {k p x3 x5 x6 : Int} {ms pre D rest : List Int} (h : uM M k ms) (e : ms = pre ++ (D ++ rest)) : ∀ (w2 w1 out : List Int) (M1 : gM), D = w1 ++ w2 → gFr [722] [13] M M1 → uY M1 out → out.length + w2.length < 400 → ∃ M2, F_carriesMention_181 M1 p k x3 ((pre.length + D.length : Nat) : Int) x5 x6 0 ((pre.length + w1.length : Nat) : Int) = some M2 ∧ uY M2 (out ++ w2) ∧ M2 711 38 = ((pre.length + D.length : Nat) : Int) := by
  intro w2
  have h24 := h.2.2.2
  have hml : ms.length = pre.length + (D.length + rest.length) := by rw [e]; simp
  induction w2 with
  | nil =>
    intro w1 out M1 e1 hf hy hl
    rw [List.append_nil] at e1
    rw [eq_carriesMention_181, e1, if_neg (by omega), List.append_nil]
    exact ⟨_, rfl, uY_fr hy (gU_idx (by decide)) (gU_cell _ _ _ (by decide)), gU_same _ _ _ _⟩
  | cons c r ih =>
    intro w1 out M1 e1 hf hy hl
    have hl1 := len_mid e1
    rw [List.length_cons] at hl
    have hM1 : uM M1 k ms := uM_fr h (hf.1 716 (by decide) (by decide)) (hf.1 717 (by decide) (by decide))
    have hs := s_saidAt (pre := pre ++ w1) (suf := c :: (r ++ rest)) hM1 (by rw [e, e1]; simp)
    rw [List.length_append] at hs
    obtain ⟨M2, e2, h2⟩ := s_says (c := c) hy (by omega)
    rw [eq_carriesMention_181, if_pos (by omega), if_pos rfl, gI_bb hs]
    show ∃ M9, (Option.bind (F_says M1 c) _) = some M9 ∧ _
    rw [gI_bb e2, gw32_id (by omega) (by omega)]
    have := ih (w1 ++ [c]) (out ++ [c]) M2 (app_mid e1) (gFr_t hf (fr_says e2) (by decide) (by decide)) h2 (by rw [List.length_append, List.length_singleton]; omega)
    rw [List.length_append, List.length_singleton, List.append_assoc] at this
    rw [show ((pre.length + w1.length : Nat) : Int) + 1 = ((pre.length + (w1.length + 1) : Nat) : Int) by omega]
    exact this
theorem s_carriesMention {M : gM} {cs : List kC} {p : Int} {pl : kP} {k : Nat} {ms pre r out : List Int} {im : Int → Int} (hC : uC M cs) (hF : kForeOk cs pl) (hp : 0 ≤ p ∧ p ≤ 3) (hk : k < cs.length) (h : uM M (k : Int) ms) (e : ms = pre ++ 35 :: r) (hS : uS M 732 (fun j => decide (j = k) || kEld cs pl k j)) (hI : ∀ j : Nat, kEld cs pl k j = true → M 731 (120 * p + (j : Int)) = im (j : Int) ∧ -1 ≤ im (j : Int) ∧ im (j : Int) < 120) (hy : uY M out) (h38 : M 711 38 = (pre.length : Int)) (hl : out.length ≤ 4 * pre.length) :
    ∃ M1, F_carriesMention M p (k : Int) = some M1 ∧ uY M1 (out ++ 35 :: (mgM (kEld cs pl k) im (rT 48 57 r)).getD (rT 48 57 r)) ∧ M1 711 38 = ((pre.length + (1 + (rT 48 57 r).length) : Nat) : Int) := by
  have h24 := h.2.2.2
  have h120 := hC.2.1
  have hln := len_mid e
  have hrl := rR_len 48 57 r
  have eD : pre ++ [35] ++ (rT 48 57 r ++ rR 48 57 r) = ms := by rw [rT_app, e]; simp
  have hpl : (pre ++ [35]).length = pre.length + 1 := by simp
  have hin : ∀ c ∈ rT 48 57 r, 48 ≤ c ∧ c ≤ 57 := rT_in r
  have hhd := rR_hd (lo := 48) (hi := 57) (by decide) r
  generalize hD : rT 48 57 r = D at *
  generalize hrest : rR 48 57 r = rest at *
  -- the digits
  have lp : ∀ (w2 w1 : List Int), D = w1 ++ w2 → F_carriesMention_13 M p (k : Int) ((pre.length + 1 : Nat) : Int) ((pre.length + 1 + w1.length : Nat) : Int) (decF 0 (w1.take 3)) = (Option.bind (F_says M 35) (fun m69 =>
          (Option.bind (F_in (D.length : Int) 1 3) (fun r82 =>
            (if r82 = 0 then
              F_carriesMention_135 m69 p (k : Int) ((pre.length + 1 : Nat) : Int) ((pre.length + 1 + D.length : Nat) : Int) (decF 0 (D.take 3)) (D.length : Int) 0
            else
              (if (D.length : Int) = 1 then
                F_carriesMention_105 m69 p (k : Int) ((pre.length + 1 : Nat) : Int) ((pre.length + 1 + D.length : Nat) : Int) (decF 0 (D.take 3)) (D.length : Int)
              else
                (Option.bind (F_saidAt m69 (k : Int) ((pre.length + 1 : Nat) : Int)) (fun r97 =>
                  (if r97 = 48 then
                    F_carriesMention_135 m69 p (k : Int) ((pre.length + 1 : Nat) : Int) ((pre.length + 1 + D.length : Nat) : Int) (decF 0 (D.take 3)) (D.length : Int) 0
                  else
                    F_carriesMention_105 m69 p (k : Int) ((pre.length + 1 : Nat) : Int) ((pre.length + 1 + D.length : Nat) : Int) (decF 0 (D.take 3)) (D.length : Int)))))))))) := by
    intro w2
    induction w2 with
    | nil =>
      intro w1 e1
      rw [List.append_nil] at e1
      subst e1
      have hs := s_saidAt (pre := pre ++ [35] ++ D) (suf := rest) h (by rw [← eD]; simp)
      rw [show (pre ++ [(35 : Int)] ++ D).length = pre.length + 1 + D.length by simp; omega] at hs
      rw [eq_carriesMention_13, gI_bb hs, gI_bb s_isDigit, decide_eq_false hhd, if_pos bIf, gw32_id (z := ((pre.length + 1 + D.length : Nat) : Int) - ((pre.length + 1 : Nat) : Int)) (by omega) (by omega), show ((pre.length + 1 + D.length : Nat) : Int) - ((pre.length + 1 : Nat) : Int) = (D.length : Int) by omega]
    | cons c q ih =>
      intro w1 e1
      have hl1 := len_mid e1
      have hc := hin c (by rw [e1]; simp)
      have hs := s_saidAt (pre := pre ++ [35] ++ w1) (suf := c :: (q ++ rest)) h (by rw [← eD, e1]; simp)
      rw [show (pre ++ [(35 : Int)] ++ w1).length = pre.length + 1 + w1.length by simp; omega] at hs
      have this := ih (w1 ++ [c]) (app_mid e1)
      rw [show (w1 ++ [c]).length = w1.length + 1 by simp] at this
      rw [eq_carriesMention_13, gI_bb hs, gI_bb s_isDigit]
      show (if bI (decide (48 ≤ c ∧ c ≤ 57)) = 0 then _ else _) = _
      rw [decide_eq_true hc, if_neg bIt, gw32_id (z := ((pre.length + 1 + w1.length : Nat) : Int) - ((pre.length + 1 : Nat) : Int)) (by omega) (by omega)]
      rw [gw32_id (z := ((pre.length + 1 + w1.length : Nat) : Int) + 1) (by omega) (by omega), show ((pre.length + 1 + w1.length : Nat) : Int) + 1 = ((pre.length + 1 + (w1.length + 1) : Nat) : Int) by omega]
      by_cases q3 : w1.length < 3
      · rw [if_pos (by omega), gI_bb hs]
        show F_carriesMention_13 M p (k : Int) _ _ (gw32 (gw32 (gw32 (10 * decF 0 (w1.take 3)) + c) - 48)) = _
        have ht : w1.take 3 = w1 := List.take_of_length_le (by omega)
        have rg := decF_rng w1.length w1 rfl (fun x hx => hin x (by rw [e1]; exact List.mem_append_left _ hx))
        have p4 : (10 ^ w1.length : Nat) ≤ 10 ^ 3 := Nat.pow_le_pow_right (by decide) (by omega)
        have p4' : (10 ^ 3 : Nat) = 1000 := by decide
        rw [ht, gw32_id (z := 10 * decF 0 w1) (by omega) (by omega), gw32_id (z := 10 * decF 0 w1 + c) (by omega) (by omega), gw32_id (by omega) (by omega)]
        rw [List.take_of_length_le (by simp; omega), decF_app] at this
        exact this
      · rw [if_neg (by omega)]
        rw [List.take_append_of_le_length (by omega)] at this
        exact this
  have e0 := lp D [] rfl
  rw [List.length_nil, Nat.add_zero] at e0
  have e0 : F_carriesMention_13 M p (k : Int) ((pre.length + 1 : Nat) : Int) ((pre.length + 1 : Nat) : Int) 0 = _ := e0
  rw [eq_carriesMention, h38, gw32_id (by omega) (by omega), show (pre.length : Int) + 1 = ((pre.length + 1 : Nat) : Int) by omega, e0]
  obtain ⟨M1, e1, h1⟩ := s_says (c := 35) hy (by omega)
  have f1 : gFr [722] [13] M M1 := fr_says e1
  have hM1 : uM M1 (k : Int) ms := uM_fr h (f1.1 716 (by decide) (by decide)) (f1.1 717 (by decide) (by decide))
  rw [gI_bb e1, gI_bb s_in]
  have hol : (out ++ [35]).length = out.length + 1 := by simp
  -- as it is
  have raw : mnt (kEld cs pl k) D = false → ∃ M9, F_carriesMention_135 M1 p (k : Int) ((pre.length + 1 : Nat) : Int) ((pre.length + 1 + D.length : Nat) : Int) (decF 0 (D.take 3)) (D.length : Int) 0 = some M9 ∧ uY M9 (out ++ 35 :: (mgM (kEld cs pl k) im D).getD D) ∧ M9 711 38 = ((pre.length + (1 + D.length) : Nat) : Int) := fun hq => by
    rw [eq_carriesMention_135, if_pos rfl, if_pos rfl]
    have hg : mgM (kEld cs pl k) im D = none := by unfold mgM; rw [hq, if_neg (by decide)]
    rw [hg]
    obtain ⟨M2, e2, h2, h3⟩ := s_raw181 (p := p) (x3 := ((pre.length + 1 : Nat) : Int)) (x5 := decF 0 (D.take 3)) (x6 := (D.length : Int)) (pre := pre ++ [35]) (D := D) (rest := rest) hM1 (by rw [← eD]) D [] (out ++ [35]) M1 rfl (gFr_r _ _ _) h1 (by omega)
    rw [hpl, List.length_nil, Nat.add_zero] at e2
    rw [hpl] at h3
    refine ⟨M2, e2, ?_, by rw [h3]; omega⟩
    rw [List.append_assoc] at h2
    exact h2
  -- the number that is named
  have num : 1 ≤ D.length ∧ D.length ≤ 3 ∧ (D.length = 1 ∨ hd D ≠ 48) → ∃ M9, F_carriesMention_105 M1 p (k : Int) ((pre.length + 1 : Nat) : Int) ((pre.length + 1 + D.length : Nat) : Int) (decF 0 (D.take 3)) (D.length : Int) = some M9 ∧ uY M9 (out ++ 35 :: (mgM (kEld cs pl k) im D).getD D) ∧ M9 711 38 = ((pre.length + (1 + D.length) : Nat) : Int) := fun hz => by
    have hm : mnt (kEld cs pl k) D = kEld cs pl k (decF 0 D).toNat := by unfold mnt; rw [decide_eq_true hz, Bool.true_and]
    have ht : D.take 3 = D := List.take_of_length_le hz.2.1
    have rg := decF_rng D.length D rfl hin
    rw [ht] at raw ⊢
    obtain ⟨v, hv⟩ : ∃ v : Nat, decF 0 D = (v : Int) := ⟨(decF 0 D).toNat, by omega⟩
    rw [hv, Int.toNat_natCast] at hm
    rw [hv] at raw ⊢
    rw [eq_carriesMention_105, f1.2 0 (by decide), hC.1]
    by_cases q1 : (v : Int) < (cs.length : Int)
    · rw [if_pos q1]
      by_cases q2 : (v : Int) = (k : Int)
      · rw [if_pos q2]
        refine raw ?_
        rw [hm]
        cases hh : kEld cs pl k v with
        | false => rfl
        | true => have := kEld_lt hF hk hh; omega
      · have hSv : M 732 (v : Int) = bI (decide (v = k) || kEld cs pl k v) := hS v (by omega)
        rw [if_neg q2, if_pos (by omega), f1.1 732 (by decide) (by decide), hSv, decide_eq_false (show ¬ v = k by omega), Bool.false_or]
        cases hh : kEld cs pl k v with
        | false => rw [if_pos bIf]; exact raw (by rw [hm]; exact hh)
        | true =>
          obtain ⟨i1, i2, i3⟩ := hI v hh
          have hg : mgM (kEld cs pl k) im D = some (mntS im D) := by unfold mgM; rw [hm, hh, if_pos rfl]
          have hms : mntS im D = if im (v : Int) < 0 then [63] else numS (im (v : Int)) := by unfold mntS; rw [hv]
          have e7 : M1 731 (120 * p + (v : Int)) = im (v : Int) := by rw [f1.1 731 (by decide) (by decide)]; exact i1
          have fin : ∀ (M2 : gM) (o : List Int), uY M2 o → ∃ M9, F_carriesMention_181 M2 p (k : Int) ((pre.length + 1 : Nat) : Int) ((pre.length + 1 + D.length : Nat) : Int) (v : Int) (D.length : Int) 1 ((pre.length + 1 : Nat) : Int) = some M9 ∧ uY M9 o ∧ M9 711 38 = ((pre.length + (1 + D.length) : Nat) : Int) := fun M2 o ho => by
            rw [eq_carriesMention_181, if_pos (by omega), if_neg (show ¬ (1 : Int) = 0 by decide)]
            exact ⟨_, rfl, uY_fr ho (gU_idx (by decide)) (gU_cell _ _ _ (by decide)), by rw [gU_same]; omega⟩
          rw [if_neg bIt, eq_carriesMention_135, if_neg (show ¬ (1 : Int) = 0 by decide), gI_bb (s_imageAt hp (by omega)), e7, hg, hms]
          by_cases q4 : im (v : Int) = -1
          · rw [if_pos q4]
            obtain ⟨M2, e2, h2⟩ := s_says (c := 63) h1 (by omega)
            rw [gI_bb e2]
            obtain ⟨M9, e9, h9, h9'⟩ := fin M2 _ h2
            refine ⟨M9, e9, ?_, h9'⟩
            rw [if_pos (by omega)]
            rw [List.append_assoc] at h9
            exact h9
          · rw [if_neg q4, if_neg (show ¬ (1 : Int) = 0 by decide), gI_bb (s_imageAt hp (by omega)), e7]
            obtain ⟨M2, e2, h2⟩ := s_saysNumber (v := im (v : Int)) h1 (by omega) ⟨by omega, i3⟩
            rw [gI_bb e2]
            obtain ⟨M9, e9, h9, h9'⟩ := fin M2 _ h2
            refine ⟨M9, e9, ?_, h9'⟩
            rw [if_neg (by omega)]
            rw [List.append_assoc] at h9
            exact h9
    · rw [if_neg q1]
      refine raw ?_
      rw [hm]
      cases hh : kEld cs pl k v with
      | false => rfl
      | true => have := kEld_lt hF hk hh; omega
  by_cases q1 : 1 ≤ (D.length : Int) ∧ (D.length : Int) ≤ 3
  · rw [decide_eq_true q1, if_neg bIt]
    by_cases q2 : (D.length : Int) = 1
    · rw [if_pos q2]; exact num ⟨by omega, by omega, Or.inl (by omega)⟩
    · rw [if_neg q2]
      have hs := s_saidAt (pre := pre ++ [35]) (suf := D ++ rest) hM1 (by rw [← eD])
      rw [hpl] at hs
      rw [gI_bb hs]
      have hhD : hd (D ++ rest) = hd D := by
        cases hDD : D with
        | nil => rw [hDD] at q1; simp at q1
        | cons c q => rfl
      rw [hhD]
      by_cases q3 : hd D = 48
      · rw [if_pos q3]; exact raw (by unfold mnt; rw [decide_eq_false (fun z => z.2.2.elim (fun z => by omega) (fun z => z q3)), Bool.false_and])
      · rw [if_neg q3]; exact num ⟨by omega, by omega, Or.inr q3⟩
  · rw [decide_eq_false q1, if_pos bIf]
    exact raw (by unfold mnt; rw [decide_eq_false (fun z => q1 ⟨by omega, by omega⟩), Bool.false_and])
