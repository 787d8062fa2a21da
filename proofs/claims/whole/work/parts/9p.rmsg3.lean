-- ==== the reference: letters; the whole of what is said
theorem s_wordFor {M : gM} {p w : Int} {pl : kP} (hP : uPq M p pl) (hp : 0 ≤ p ∧ p ≤ 3) : F_wordFor M p w = some ((qGet w (pl.1 4)).getD (-1)) := by
  have h4 := (hP.2.1 4 (by decide)).2.1
  have hm : F_manyOf M p 5 = some ((pl.1 4).length : Int) := s_manyOf hP hp (i := 4) (by decide)
  have lp : ∀ (suf pre : List (Int × Int)), pl.1 4 = pre ++ suf → F_wordFor_2 M p w (pre.length : Int) = some ((qGet w suf).getD (-1)) := by
    intro suf
    induction suf with
    | nil =>
      intro pre e
      rw [List.append_nil] at e
      rw [eq_wordFor_2, gI_bb hm, e, if_neg (by omega)]; rfl
    | cons x r ih =>
      intro pre e
      have hl := len_mid e
      have hat : (pl.1 4)[pre.length]? = some x := by rw [e, List.getElem?_append_right (Nat.le_refl _), Nat.sub_self]; rfl
      have f0 : F_firstOf M p 5 (pre.length : Int) = some x.1 := s_firstOf hP hp (i := 4) (by decide) hat
      have g0 : F_secondOf M p 5 (pre.length : Int) = some x.2 := s_secondOf hP hp (i := 4) (by decide) (by decide) hat
      have un : qGet w (x :: r) = if x.1 = w then some x.2 else qGet w r := rfl
      rw [eq_wordFor_2, gI_bb hm, if_pos (by omega), gI_bb f0, un]
      by_cases q : x.1 = w
      · rw [if_pos q, if_pos q, gI_bb g0]; rfl
      · rw [if_neg q, if_neg q, gw32_id (by omega) (by omega)]
        have := ih (pre ++ [x]) (app_mid e)
        rw [List.length_append, List.length_singleton] at this
        rw [show (pre.length : Int) + 1 = ((pre.length + 1 : Nat) : Int) by omega]
        exact this
  rw [eq_wordFor]
  exact lp (pl.1 4) [] rfl
theorem s_raw110 {M : gM} {k p x3 x4 : Int} {ms pre D rest : List Int} (h : uM M k ms) (e : ms = pre ++ (D ++ rest)) : ∀ (w2 w1 out : List Int) (M1 : gM), D = w1 ++ w2 → gFr [722] [13] M M1 → M 711 38 = ((pre.length + D.length : Nat) : Int) → uY M1 out → out.length + w2.length < 400 → ∃ M2, F_carriesLetters_110 M1 p k x3 x4 (-1) ((pre.length + w1.length : Nat) : Int) = some M2 ∧ uY M2 (out ++ w2) ∧ gFr [722] [13] M M2 := by
  intro w2
  have h24 := h.2.2.2
  have hml : ms.length = pre.length + (D.length + rest.length) := by rw [e]; simp
  induction w2 with
  | nil =>
    intro w1 out M1 e1 hf h38 hy hl
    rw [List.append_nil] at e1
    rw [eq_carriesLetters_110, hf.2 38 (by decide), h38, e1, if_neg (by omega), List.append_nil]
    exact ⟨M1, rfl, hy, hf⟩
  | cons c r ih =>
    intro w1 out M1 e1 hf h38 hy hl
    have hl1 := len_mid e1
    rw [List.length_cons] at hl
    have hM1 : uM M1 k ms := uM_fr h (hf.1 716 (by decide) (by decide)) (hf.1 717 (by decide) (by decide))
    have hs := s_saidAt (pre := pre ++ w1) (suf := c :: (r ++ rest)) hM1 (by rw [e, e1]; simp)
    rw [List.length_append] at hs
    obtain ⟨M2, e2, h2⟩ := s_says (c := c) hy (by omega)
    rw [eq_carriesLetters_110, hf.2 38 (by decide), h38, if_pos (by omega), if_pos rfl, gI_bb hs]
    show ∃ M9, (Option.bind (F_says M1 c) _) = some M9 ∧ _
    rw [gI_bb e2, gw32_id (by omega) (by omega)]
    have := ih (w1 ++ [c]) (out ++ [c]) M2 (app_mid e1) (gFr_t hf (fr_says e2) (by decide) (by decide)) h38 h2 (by rw [List.length_append, List.length_singleton]; omega)
    rw [List.length_append, List.length_singleton, List.append_assoc] at this
    rw [show ((pre.length + w1.length : Nat) : Int) + 1 = ((pre.length + (w1.length + 1) : Nat) : Int) by omega]
    exact this
theorem s_carriesLetters {M : gM} {p : Int} {pl : kP} {k : Int} {ms pre s out : List Int} (hP : uPq M p pl) (hp : 0 ≤ p ∧ p ≤ 3) (hw : ∀ x ∈ pl.1 4, wRg x.2) (h : uM M k ms) (e : ms = pre ++ s) (hy : uY M out) (h38 : M 711 38 = (pre.length : Int)) (hl : out.length ≤ 4 * pre.length) :
    ∃ M1, F_carriesLetters M p k = some M1 ∧ uY M1 (out ++ (mgW pl (rT 97 122 s)).getD (rT 97 122 s)) ∧ M1 711 38 = ((pre.length + (rT 97 122 s).length : Nat) : Int) := by
  have h24 := h.2.2.2
  have hrl := rR_len 97 122 s
  have eW : pre ++ (rT 97 122 s ++ rR 97 122 s) = ms := by rw [rT_app, e]
  have hml : ms.length = pre.length + s.length := by rw [e, List.length_append]
  have hin : ∀ c ∈ rT 97 122 s, 97 ≤ c ∧ c ≤ 122 := rT_in s
  have hhd := rR_hd (lo := 97) (hi := 122) (by decide) s
  generalize hW : rT 97 122 s = W at *
  generalize hrest : rR 97 122 s = rest at *
  -- what follows the letters
  have fin : ∀ M1 : gM, gFr [] [38] M M1 → M1 711 38 = ((pre.length + W.length : Nat) : Int) → ∃ M9, (if (4 : Int) < (gw32 ((M1 711 38) - (pre.length : Int))) then
          F_carriesLetters_110 M1 p k (pre.length : Int) (if W.length ≤ 4 then cdF 0 W else -1) (-1) (pre.length : Int)
        else
          (Option.bind (F_wordFor M1 p (if W.length ≤ 4 then cdF 0 W else -1)) (fun r90 =>
            (if r90 = -1 then
              F_carriesLetters_110 M1 p k (pre.length : Int) (if W.length ≤ 4 then cdF 0 W else -1) r90 (pre.length : Int)
            else
              (Option.bind (F_saysLetters M1 r90) (fun m104 =>
                F_carriesLetters_110 m104 p k (pre.length : Int) (if W.length ≤ 4 then cdF 0 W else -1) r90 (pre.length : Int))))))) = some M9 ∧ uY M9 (out ++ (mgW pl W).getD W) ∧ M9 711 38 = ((pre.length + W.length : Nat) : Int) := fun M1 hf h1 => by
    have hM1 : uM M1 k ms := uM_fr h (hf.1 716 (by decide) (by decide)) (hf.1 717 (by decide) (by decide))
    have hy1 : uY M1 out := uY_fr hy (hf.2 13 (by decide)) (hf.1 722 (by decide) (by decide))
    have hP1 : uPq M1 p pl := uPq_of hP (hf.1 729 (by decide) (by decide)) (hf.1 730 (by decide) (by decide)) (hf.1 731 (by decide) (by decide))
    have raw : ∀ x4 : Int, mgW pl W = none → ∃ M9, F_carriesLetters_110 M1 p k (pre.length : Int) x4 (-1) (pre.length : Int) = some M9 ∧ uY M9 (out ++ (mgW pl W).getD W) ∧ M9 711 38 = ((pre.length + W.length : Nat) : Int) := fun x4 hq => by
      obtain ⟨M2, e2, h2, f2⟩ := s_raw110 (p := p) (x3 := (pre.length : Int)) (x4 := x4) (pre := pre) (D := W) (rest := rest) hM1 eW.symm W [] out M1 rfl (gFr_r _ _ _) h1 hy1 (by omega)
      rw [List.length_nil, Nat.add_zero] at e2
      rw [hq]
      exact ⟨M2, e2, h2, by rw [f2.2 38 (by decide)]; exact h1⟩
    rw [h1, gw32_id (by omega) (by omega)]
    by_cases q4 : W.length ≤ 4
    · rw [if_neg (by omega), if_pos q4, gI_bb (s_wordFor hP1 hp)]
      have hg : mgW pl W = (qGet (cdF 0 W) (pl.1 4)).map (fun v => wBits v 4) := by unfold mgW; rw [if_pos q4]
      cases hq : qGet (cdF 0 W) (pl.1 4) with
      | none =>
        rw [hq] at hg
        show ∃ M9, (if (-1 : Int) = -1 then _ else _) = some M9 ∧ _
        rw [if_pos (show (-1 : Int) = -1 from rfl)]
        exact raw _ hg
      | some v =>
        have hv := hw _ (qGet_mem hq)
        have hvr := wRg_rng hv
        rw [hq] at hg
        show ∃ M9, (if v = -1 then _ else _) = some M9 ∧ _
        rw [if_neg (by have : 0 ≤ v := hvr.1; omega)]
        obtain ⟨M2, e2, h2⟩ := s_saysLetters hy1 (by omega) hv
        have f2 : gFr [722] [13] M1 M2 := fr_saysLetters e2
        show ∃ M9, (Option.bind (F_saysLetters M1 v) _) = some M9 ∧ _
        have last : ∀ x4 : Int, F_carriesLetters_110 M2 p k (pre.length : Int) x4 v (pre.length : Int) = some M2 := fun x4 => by
          rw [eq_carriesLetters_110]
          by_cases ha : (pre.length : Int) < M2 711 38
          · rw [if_pos ha, if_neg (show ¬ v = -1 by have : 0 ≤ v := hvr.1; omega)]
          · rw [if_neg ha]
        rw [gI_bb e2, hg]
        exact ⟨M2, last _, h2, by rw [f2.2 38 (by decide)]; exact h1⟩
    · rw [if_pos (by omega)]
      exact raw _ (by unfold mgW; rw [if_neg q4])
  have lp : ∀ (w2 w1 : List Int) (M1 : gM), W = w1 ++ w2 → gFr [] [38] M M1 → M1 711 38 = ((pre.length + w1.length : Nat) : Int) → ∃ M9, F_carriesLetters_8 M1 p k (pre.length : Int) (if w1.length ≤ 4 then cdF 0 w1 else -1) = some M9 ∧ uY M9 (out ++ (mgW pl W).getD W) ∧ M9 711 38 = ((pre.length + W.length : Nat) : Int) := by
    intro w2
    induction w2 with
    | nil =>
      intro w1 M1 e1 hf h1
      rw [List.append_nil] at e1
      subst e1
      have hM1 : uM M1 k ms := uM_fr h (hf.1 716 (by decide) (by decide)) (hf.1 717 (by decide) (by decide))
      have hs := s_saidAt (pre := pre ++ W) (suf := rest) hM1 (by rw [← eW]; simp)
      rw [List.length_append] at hs
      rw [eq_carriesLetters_8]
      have hs' : F_saidAt M1 k (M1 711 38) = some (hd rest) := by rw [h1]; exact hs
      rw [gI_bb hs', gI_bb s_isSmall, decide_eq_false hhd, if_pos bIf]
      exact fin M1 hf h1
    | cons c q ih =>
      intro w1 M1 e1 hf h1
      have hl1 := len_mid e1
      have hc := hin c (by rw [e1]; simp)
      have hM1 : uM M1 k ms := uM_fr h (hf.1 716 (by decide) (by decide)) (hf.1 717 (by decide) (by decide))
      have hs := s_saidAt (pre := pre ++ w1) (suf := c :: (q ++ rest)) hM1 (by rw [← eW, e1]; simp)
      rw [List.length_append] at hs
      have hs' : F_saidAt M1 k (M1 711 38) = some c := by rw [h1]; exact hs
      have this := ih (w1 ++ [c]) (gU M1 711 38 (((pre.length + (w1 ++ [c]).length : Nat) : Int))) (app_mid e1) (gFr_f hf (by decide)) (gU_same _ _ _ _)
      rw [show (w1 ++ [c]).length = w1.length + 1 by simp] at this
      rw [eq_carriesLetters_8, gI_bb hs', gI_bb s_isSmall, decide_eq_true hc, if_neg bIt, h1, gw32_id (z := ((pre.length + w1.length : Nat) : Int) - (pre.length : Int)) (by omega) (by omega), gw32_id (z := ((pre.length + w1.length : Nat) : Int) + 1) (by omega) (by omega), show ((pre.length + w1.length : Nat) : Int) + 1 = ((pre.length + (w1.length + 1) : Nat) : Int) by omega]
      by_cases q4 : w1.length < 4
      · rw [if_pos (by omega), gI_bb hs]
        have rg := cdF_rng w1.length w1 rfl (fun x hx => hin x (by rw [e1]; exact List.mem_append_left _ hx))
        have p3 : (32 ^ w1.length : Nat) ≤ 32 ^ 3 := Nat.pow_le_pow_right (by decide) (by omega)
        have p3' : (32 ^ 3 : Nat) = 32768 := by decide
        show ∃ M9, F_carriesLetters_8 (gU M1 711 38 _) p k (pre.length : Int) (gw32 (gw32 (gw32 (gw32 (32 * (if w1.length ≤ 4 then cdF 0 w1 else -1)) + c) - 97) + 1)) = some M9 ∧ _
        rw [if_pos (show w1.length ≤ 4 by omega), gw32_id (z := 32 * cdF 0 w1) (by omega) (by omega), gw32_id (z := 32 * cdF 0 w1 + c) (by omega) (by omega), gw32_id (z := 32 * cdF 0 w1 + c - 97) (by omega) (by omega), gw32_id (by omega) (by omega)]
        rw [if_pos (show w1.length + 1 ≤ 4 by omega), cdF_app] at this
        rw [show 32 * cdF 0 w1 + c - 97 + 1 = 32 * cdF 0 w1 + c - 96 by omega]
        exact this
      · rw [if_neg (by omega)]
        rw [if_neg (show ¬ w1.length + 1 ≤ 4 by omega)] at this
        exact this
  rw [eq_carriesLetters, h38]
  exact lp W [] M rfl (gFr_r _ _ _) h38
theorem mgM_len (el : Nat → Bool) (im : Int → Int) (D : List Int) : ((mgM el im D).getD D).length ≤ 3 + D.length := by
  unfold mgM
  split
  · show (mntS im D).length ≤ 3 + D.length
    unfold mntS
    split
    · show 1 ≤ 3 + D.length; omega
    · rw [numS_is]; split
      · show 1 ≤ 3 + D.length; omega
      · split
        · show 2 ≤ 3 + D.length; omega
        · show 3 ≤ 3 + D.length; omega
  · show D.length ≤ 3 + D.length; omega
theorem wBits_len (v : Int) : ∀ n, (wBits v n).length ≤ n
  | 0 => Nat.le_refl _
  | n + 1 => by
    unfold wBits
    split
    · exact Nat.le_succ_of_le (wBits_len v n)
    · exact Nat.succ_le_succ (wBits_len v n)
theorem mgW_len (pl : kP) (D : List Int) (h : 1 ≤ D.length) : ((mgW pl D).getD D).length ≤ 4 * D.length := by
  unfold mgW
  split
  · cases qGet (cdF 0 D) (pl.1 4) with
    | none => show D.length ≤ 4 * D.length; omega
    | some v => have := wBits_len v 4; show (wBits v 4).length ≤ 4 * D.length; omega
  · show D.length ≤ 4 * D.length; omega
theorem s_carriesSaid {M : gM} {cs : List kC} {p : Int} {pl : kP} {k : Nat} {c : kC} {im : Int → Int} (hC : uC M cs) (hO : kOk cs) (hP : uPq M p pl) (hp : 0 ≤ p ∧ p ≤ 3) (hg : plGr pl) (hF : kForeOk cs pl) (hk : cs[k]? = some c) (hw : ∀ x ∈ pl.1 4, wRg x.2) (hI : ∀ j : Nat, kEld cs pl k j = true → M 731 (120 * p + (j : Int)) = im (j : Int) ∧ -1 ≤ im (j : Int) ∧ im (j : Int) < 120) :
    ∃ M1, F_carriesSaid M p (k : Int) = some M1 ∧ M1 711 13 = (((mgGo (mgM (kEld cs pl k) im) (mgW pl) (kMs c).length (kMs c)).take 24).length : Int) ∧ rw_ (M1 722) 0 ((mgGo (mgM (kEld cs pl k) im) (mgW pl) (kMs c).length (kMs c)).take 24) := by
  have hl := uC_len hC hk
  obtain ⟨M1, e1, hS, b1⟩ := s_marksElders hC hO hP hp hg hF hl.1
  rw [eq_carriesSaid, gI_bb e1]
  generalize hM2 : gU (gU M1 711 13 0) 711 38 0 = M2
  have o2 : ∀ b : Int, b ≠ 711 → M2 b = M1 b := fun b hb => by rw [← hM2, gU_cell _ _ _ hb, gU_cell _ _ _ hb]
  have o7 : ∀ f : Int, f ≠ 13 → f ≠ 38 → M2 711 f = M1 711 f := fun f f0 f1 => by rw [← hM2, gU_idx f1, gU_idx f0]
  have oM : ∀ b : Int, b ≠ 711 → b ≠ 732 → M2 b = M b := fun b b0 b2 => by rw [o2 b b0, b1 b b2]
  have hC2 : uC M2 cs := uC_same hC (by rw [o7 0 (by decide) (by decide), b1 711 (by decide)]) (fun b b0 b2 => oM b (by omega) (by omega))
  have hP2 : uPq M2 p pl := uPq_of hP (oM 729 (by decide) (by decide)) (oM 730 (by decide) (by decide)) (oM 731 (by decide) (by decide))
  have hS2 : uS M2 732 (fun j => decide (j = k) || kEld cs pl k j) := fun j hj => by rw [o2 732 (by decide)]; exact hS j hj
  have h2 : uM M2 (k : Int) (kMs c) := uM_C hC2 hO hk
  have hI2 : ∀ j : Nat, kEld cs pl k j = true → M2 731 (120 * p + (j : Int)) = im (j : Int) ∧ -1 ≤ im (j : Int) ∧ im (j : Int) < 120 := fun j hj => by rw [oM 731 (by decide) (by decide)]; exact hI j hj
  have h24 := h2.2.2.2
  generalize hms : kMs c = ms at *
  generalize hT : mgGo (mgM (kEld cs pl k) im) (mgW pl) ms.length ms = T
  have lp : ∀ (f : Nat) (suf pre out : List Int) (M3 : gM), ms = pre ++ suf → suf.length ≤ f → M3 711 38 = (pre.length : Int) → uY M3 out → out.length ≤ 4 * pre.length → gFr [722] [13, 38] M2 M3 → out ++ mgGo (mgM (kEld cs pl k) im) (mgW pl) f suf = T → ∃ M9, F_carriesSaid_16 M3 p (k : Int) = some M9 ∧ M9 711 13 = ((T.take 24).length : Int) ∧ rw_ (M9 722) 0 (T.take 24) := by
    have nil : ∀ (pre : List Int) (M3 : gM), ms = pre → M3 711 38 = (pre.length : Int) → uY M3 T → T.length ≤ 4 * pre.length → gFr [722] [13, 38] M2 M3 → ∃ M9, F_carriesSaid_16 M3 p (k : Int) = some M9 ∧ M9 711 13 = ((T.take 24).length : Int) ∧ rw_ (M9 722) 0 (T.take 24) := fun pre M3 e h38 hy hlo hf => by
      have hM3 : uM M3 (k : Int) ms := uM_fr h2 (hf.1 716 (by decide) (by decide)) (hf.1 717 (by decide) (by decide))
      rw [eq_carriesSaid_16, if_pos (by omega), h38, hM3.2.1, e, if_neg (by omega), hy.1, gI_bb (s_min _ _)]
      refine ⟨_, rfl, ?_, ?_⟩
      · rw [gU_same, List.length_take]
        by_cases q : (24 : Int) < (T.length : Int)
        · rw [if_pos q]; omega
        · rw [if_neg q]; omega
      · rw [gU_cell _ _ _ (by decide)]
        have := hy.2
        rw [← List.take_append_drop 24 T] at this
        exact (rw_app this).1
    intro f
    induction f with
    | zero =>
      intro suf pre out M3 e hsl h38 hy hlo hf hT
      have e0 := List.length_eq_zero_iff.mp (Nat.le_zero.mp hsl)
      subst e0
      rw [List.append_nil] at e
      have hT : out ++ [] = T := hT
      rw [List.append_nil] at hT
      subst hT
      exact nil pre M3 e h38 hy hlo hf
    | succ f ih =>
      intro suf pre out M3 e hsl h38 hy hlo hf hT
      cases suf with
      | nil =>
        rw [List.append_nil] at e
        have hT : out ++ [] = T := hT
        rw [List.append_nil] at hT
        subst hT
        exact nil pre M3 e h38 hy hlo hf
      | cons b r =>
        have hln := len_mid e
        rw [List.length_cons] at hsl
        have hM3 : uM M3 (k : Int) ms := uM_fr h2 (hf.1 716 (by decide) (by decide)) (hf.1 717 (by decide) (by decide))
        have hC3 : uC M3 cs := uC_fr hC2 hf (by simp; omega) (by decide)
        have hP3 : uPq M3 p pl := uPq_of hP2 (hf.1 729 (by decide) (by decide)) (hf.1 730 (by decide) (by decide)) (hf.1 731 (by decide) (by decide))
        have hS3 : uS M3 732 (fun j => decide (j = k) || kEld cs pl k j) := fun j hj => by rw [hf.1 732 (by decide) (by decide)]; exact hS2 j hj
        have hI3 : ∀ j : Nat, kEld cs pl k j = true → M3 731 (120 * p + (j : Int)) = im (j : Int) ∧ -1 ≤ im (j : Int) ∧ im (j : Int) < 120 := fun j hj => by rw [hf.1 731 (by decide) (by decide)]; exact hI2 j hj
        have hs : F_saidAt M3 (k : Int) (pre.length : Int) = some b := s_saidAt hM3 e
        rw [eq_carriesSaid_16, if_pos (by omega), h38, hM3.2.1, if_pos (by omega), gI_bb hs]
        unfold mgGo at hT
        show ∃ M9, (if b = 35 then _ else _) = some M9 ∧ _
        by_cases q1 : b = 35
        · rw [if_pos q1]
          rw [if_pos q1] at hT
          obtain ⟨M4, e4, y4, z4⟩ := s_carriesMention hC3 hF hp hl.1 hM3 (by rw [e, q1]) hS3 hI3 hy h38 hlo
          rw [gI_bb e4]
          have hrl := rR_len 48 57 r
          have hml := mgM_len (kEld cs pl k) im (rT 48 57 r)
          refine ih (rR 48 57 r) (pre ++ 35 :: rT 48 57 r) _ M4 (by rw [List.append_assoc, List.cons_append, rT_app, e, q1]) (by omega) (by rw [z4, List.length_append, List.length_cons]; omega) y4 ?_ (gFr_t hf (fr_carriesMention e4) (by decide) (by decide)) (by rw [← hT, List.append_assoc]; rfl)
          rw [List.length_append, List.length_append, List.length_cons, List.length_cons]; omega
        · rw [if_neg q1, gI_bb s_isSmall]
          rw [if_neg q1] at hT
          by_cases q2 : 97 ≤ b ∧ b ≤ 122
          · rw [decide_eq_true q2, if_neg bIt]
            rw [if_pos q2] at hT
            obtain ⟨M4, e4, y4, z4⟩ := s_carriesLetters hP3 hp hw hM3 e hy h38 hlo
            have et : rT 97 122 (b :: r) = b :: rT 97 122 r := by rw [rT, if_pos q2]
            rw [et] at y4 z4
            rw [gI_bb e4]
            have hrl := rR_len 97 122 r
            have hml := mgW_len pl (b :: rT 97 122 r) (by rw [List.length_cons]; omega)
            rw [List.length_cons] at hml z4
            refine ih (rR 97 122 r) (pre ++ b :: rT 97 122 r) _ M4 (by rw [List.append_assoc, List.cons_append, rT_app, e]) (by omega) (by rw [z4, List.length_append, List.length_cons]) y4 ?_ (gFr_t hf (fr_carriesLetters e4) (by decide) (by decide)) (by rw [← hT, List.append_assoc])
            rw [List.length_append, List.length_append, List.length_cons]; omega
          · rw [decide_eq_false q2, if_pos bIf]
            rw [if_neg q2] at hT
            obtain ⟨M4, e4, y4⟩ := s_says (c := b) hy (by omega)
            have f4 : gFr [722] [13] M3 M4 := fr_says e4
            show ∃ M9, (Option.bind (F_says M3 b) _) = some M9 ∧ _
            rw [gI_bb e4, f4.2 38 (by decide), h38, gw32_id (by omega) (by omega)]
            refine ih r (pre ++ [b]) (out ++ [b]) _ (app_mid e) (by omega) (by rw [gU_same, List.length_append, List.length_singleton]; omega) (uY_fr y4 (gU_idx (by decide)) (gU_cell _ _ _ (by decide))) (by rw [List.length_append, List.length_append, List.length_singleton]; omega) (gFr_f (gFr_t hf f4 (by decide) (by decide)) (by decide)) (by rw [← hT, List.append_assoc]; rfl)
  refine lp ms.length ms [] [] M2 rfl (Nat.le_refl _) ?_ ⟨?_, rw_nil⟩ (Nat.zero_le _) (gFr_r _ _ _) hT
  · rw [← hM2, gU_same]; rfl
  · rw [← hM2, gU_idx (by decide), gU_same]; rfl
