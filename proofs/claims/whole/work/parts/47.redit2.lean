-- ==== the reference: EDITS
def pEN (cs : List kC) (sg : Int) (v5 v6 p : Int) (d : kC) (y : pR) : pE := pEditEnd cs sg v5 v6 p d y
theorem pDig_ten {s : List Int} {p : Int} (hp : 0 ≤ p) (h : (pDigits 6 1 s p).1 = 0) : 10 ≤ (pDigits 6 1 s p).2.1 ∧ (pDigits 6 1 s p).2.1 < 2000000 := by
  unfold pDigits at h ⊢
  by_cases q : 48 ≤ hd s ∧ hd s ≤ 57
  · rw [if_pos q] at h ⊢
    cases s with
    | nil => exact absurd q.1 (by decide)
    | cons c r =>
      have e : pDigGo 6 1 (c :: r) p = pDigGo 5 (1 * 10 + c - 48) r (p + 1) := if_pos q
      have q' : 48 ≤ c ∧ c ≤ 57 := q
      rw [e] at h ⊢
      have h2 := pDigGo_rng 5 (1 * 10 + c - 48) r (p + 1) (by omega) (by omega) h
      simp only [Nat.reducePow] at h2
      omega
  · rw [if_neg q] at h
    have h : -1000 - p = 0 := h
    omega
theorem pEdit_43 {cs : List kC} {s : List Int} {p : Int} {d : kC} (h : hd s = 43) : pEdit cs s p d = pEditEnd cs 43 0 (pPath 4 s.tail (p + 1)).2.1 p d (pEd3 43 (pPath 4 s.tail (p + 1))) := by
  unfold pEdit
  rw [if_pos (Or.inl h), h]; rfl
theorem pEdit_45 {cs : List kC} {s : List Int} {p : Int} {d : kC} (h : hd s = 45) : pEdit cs s p d = pEditEnd cs 45 0 (pPath 4 s.tail (p + 1)).2.1 p d (pEd3 45 (pPath 4 s.tail (p + 1))) := by
  unfold pEdit
  rw [if_pos (Or.inr (Or.inl h)), h]; rfl
theorem pEdit_42 {cs : List kC} {s : List Int} {p : Int} {d : kC} (h : hd s = 42) : pEdit cs s p d = pEditEnd cs 42 0 (pPath 4 s.tail (p + 1)).2.1 p d (pEd3 42 (pPath 4 s.tail (p + 1))) := by
  unfold pEdit
  rw [if_pos (Or.inr (Or.inr (Or.inl h))), h]; rfl
theorem pEdit_94 {cs : List kC} {s : List Int} {p : Int} {d : kC} (h : hd s = 94) : pEdit cs s p d = pEditEnd cs 94 (pDigit 0 ((kPs d).length - 1) s.tail (p + 1)).2.1 (pEd2 (pDigit 0 ((kPs d).length - 1) s.tail (p + 1))).2.1 p d (pEd3 94 (pEd2 (pDigit 0 ((kPs d).length - 1) s.tail (p + 1)))) := by
  unfold pEdit
  rw [if_pos (Or.inr (Or.inr (Or.inr h))), h]; rfl
theorem pEditEnd_bad {cs : List kC} {sg v5 v6 p : Int} {d : kC} {y : pR} (h : y.1 ≠ 0) : (pEditEnd cs sg v5 v6 p d y).1 = y.1 := by unfold pEditEnd; rw [if_pos h]
theorem pEditEnd_ok {cs : List kC} {sg v5 v6 p : Int} {d : kC} {y : pR} (h : y.1 = 0) : pEditEnd cs sg v5 v6 p d y = (if (pEditDo cs sg v5 v6 y.2.1 d).1 = 0 then 0 else -1000 * (pEditDo cs sg v5 v6 y.2.1 d).1 - p, y.2.2.1, y.2.2.2, dFs d (pEditDo cs sg v5 v6 y.2.1 d).2) := by unfold pEditEnd; rw [if_neg (fun z => z h)]
theorem uE_mv {M : gM} {cs : List kC} {ps : List Int} {fs : List gF} {p : Int} {s : List Int} {b : Int × gM} {F : List Int} (h : uE M cs ps fs p s) (hf : gFr [] F M b.2) (hF : (0 : Int) ∉ F ∧ (12 : Int) ∉ F) {q : Int} {s2 : List Int} (hR : uR b.2 q s2) : uE b.2 cs ps fs q s2 := uE_fr h hf (fun b _ _ => List.not_mem_nil) hF hR
theorem dFs_fs (d : kC) (x : List gF) : kFs (dFs d x) = x := rfl
theorem dFs_ps (d : kC) (x : List gF) : kPs (dFs d x) = kPs d := rfl
theorem s_rp4 {M : gM} {p : Int} {s : List Int} (h : uR M p s) : ∃ r M1, F_readsPath M 4 = some (r, M1) ∧ uO M1 r (pPath 4 s p) 23 := s_readsPath (most := 4) h (by decide)
theorem s_rp6 {M : gM} {p : Int} {s : List Int} (h : uR M p s) : ∃ r M1, F_readsPath M 6 = some (r, M1) ∧ uO M1 r (pPath 6 s p) 23 := s_readsPath (most := 6) h (by decide)
theorem s_setsFile {M : gM} {cs : List kC} {d : kC} {q p : Int} {s : List Int} (h : uE M cs (kPs d) (kFs d) q s) (hG : tGd (kFs d)) (h16 : (kFs d).length ≤ 16) (hp : 0 ≤ p ∧ p ≤ 260) :
    ∃ r M1, F_setsFile M p = some (r, M1) ∧ uEO M1 cs r (pEditEnd cs 43 0 (pPath 4 s q).2.1 p d (pEd3 43 (pPath 4 s q))) := by
  rw [eq_setsFile]
  obtain ⟨r1, M1, e1, o1⟩ := s_rp4 h.2.2.2
  have f1 := fr_readsPath e1
  rw [gI_bb e1]
  generalize hy : pPath 4 s q = y at *
  by_cases hy0 : y.1 = 0
  · obtain ⟨rfl, hR1, v1⟩ := o1.1 hy0
    have hE1 := uE_mv (b := (1, M1)) h f1 (by decide) hR1
    have hW := (pPath_W (most := 4) (s := s) (p := q) (by decide) h.2.2.2.2.1 (by rw [hy]; exact hy0)).1
    rw [hy] at hW
    obtain ⟨r2, M2, e2, o2, o3⟩ := s_takesSign (c := 61) hR1 (by decide)
    have f2 := fr_takesSign e2
    simp only [] at v1 ⊢
    rw [if_neg (by decide), gI_bb e2]
    by_cases hq : hd y.2.2.2 = 61
    · obtain ⟨rfl, hR2, -⟩ := o2 hq
      have hE2 := uE_mv (b := (1, M2)) hE1 f2 (by decide) hR2
      obtain ⟨r3, M3, e3, o4⟩ := s_readsContent hR2
      have f3 := fr_readsContent e3
      have ez : pEd3 43 y = pDigits 6 1 y.2.2.2.tail (y.2.2.1 + 1) := by unfold pEd3; rw [if_pos ⟨rfl, hy0⟩, if_pos hq]
      rw [ez]
      simp only []
      rw [if_neg (by decide), gI_bb e3]
      have hplace : 0 ≤ y.2.2.1 + 1 := hR2.2.1
      generalize hz : pDigits 6 1 y.2.2.2.tail (y.2.2.1 + 1) = z at *
      by_cases hz0 : z.1 = 0
      · obtain ⟨rfl, hR3, v3⟩ := o4.1 hz0
        have hE3 := uE_mv (b := (1, M3)) hE2 f3 (by decide) hR3
        simp only [] at v3 ⊢
        rw [if_neg (by decide), v1, pEditEnd_ok hz0, pEditDo, if_pos rfl]
        have hcr : 10 ≤ z.2.1 ∧ z.2.1 < 2000000 := by
          rw [← hz] at hz0 ⊢
          exact pDig_ten hplace hz0
        have hT3 : uT M3 120 (kFs d) := hE3.2.2.1
        rw [gI_bb (s_kindAt hT3 hG.2.2 hW)]
        have bad7 : dPutF y.2.1 z.2.1 (kFs d) = (7, kFs d) → ∃ r M4, (Option.bind (F_wrongAt M3 7 p) fun p60 => some (p60.1, p60.2)) = some (r, M4) ∧ uEO M4 cs r (if (dPutF y.2.1 z.2.1 (kFs d)).1 = 0 then 0 else -1000 * (dPutF y.2.1 z.2.1 (kFs d)).1 - p, z.2.2.1, z.2.2.2, dFs d (dPutF y.2.1 z.2.1 (kFs d)).2) := by
          intro hd7
          rw [gI_bb (s_wrongAt (by decide) hp), hd7]
          exact ⟨0, _, rfl, uEO_bad hE3.1 (by show (if (7 : Int) = 0 then (0 : Int) else -1000 * 7 - p) = _; rw [if_neg (by decide)]) (by decide) hp.1⟩
        have putok : dPutF y.2.1 z.2.1 (kFs d) = (0, tPut y.2.1 z.2.1 (kFs d)) → ((tPut y.2.1 z.2.1 (kFs d)).length : Int) ≤ 16 → ∃ r M4, (Option.bind (F_puts M3 120 y.2.1 (M3 711 22)) fun m95 => some (1, m95)) = some (r, M4) ∧ uEO M4 cs r (if (dPutF y.2.1 z.2.1 (kFs d)).1 = 0 then 0 else -1000 * (dPutF y.2.1 z.2.1 (kFs d)).1 - p, z.2.2.1, z.2.2.2, dFs d (dPutF y.2.1 z.2.1 (kFs d)).2) := by
          intro hd0 hl
          obtain ⟨M4, e4, hP4⟩ := s_puts (w := y.2.1) (c := M3 711 22) hT3 hG.1 (by rw [v3]; exact Int.le_trans hl (by decide))
          have f4 := fr_puts e4
          rw [gI_bb e4, hd0]
          rw [v3] at hP4
          refine ⟨1, M4, rfl, fun _ => ⟨rfl, ?_⟩, fun w => absurd rfl w⟩
          exact uE_post hE3 hP4 f4
        by_cases hfa : tFolder y.2.1 (kFs d) = true ∨ tAhead y.2.1 (kFs d) = true
        · have hd7 : dPutF y.2.1 z.2.1 (kFs d) = (7, kFs d) := by unfold dPutF; rw [if_pos hfa]
          by_cases hk2 : tKind y.2.1 (kFs d) = 2
          · rw [if_pos hk2]; exact bad7 hd7
          · rw [if_neg hk2, gI_bb (s_isBarred hT3 hG.2.2 hW)]
            have hah : tAhead y.2.1 (kFs d) = true := by
              rcases hfa with z1 | z1
              · exfalso
                obtain ⟨f, hf, g1, g2⟩ := tFolder_iff.mp z1
                have hcn : 0 < tCnt y.2.1 (kFs d) := by
                  have := (tCnt_rng y.2.1 (kFs d)).1
                  rcases Int.lt_or_le 0 (tCnt y.2.1 (kFs d)) with w | w
                  · exact w
                  · rw [tCnt_zero.mp (by omega) f hf] at g2; cases g2
                have hno : tFind y.2.1 (kFs d) 0 = -1 := tFind_no.mpr (fun g hg w => g1 (by
                  have := hG.2.1 g hg f hf (by rw [w]; exact g2)
                  rw [← this]; exact w))
                exact hk2 (by unfold tKind; rw [if_pos hno, if_pos hcn])
              · exact z1
            rw [hah, if_neg (by decide)]; exact bad7 hd7
        · have hnf : tFolder y.2.1 (kFs d) = false := by
            cases hx : tFolder y.2.1 (kFs d) with
            | false => rfl
            | true => exact absurd (Or.inl hx) hfa
          have hna : tAhead y.2.1 (kFs d) = false := by
            cases hx : tAhead y.2.1 (kFs d) with
            | false => rfl
            | true => exact absurd (Or.inr hx) hfa
          have hk2 : tKind y.2.1 (kFs d) ≠ 2 := by
            unfold tKind
            by_cases hf0 : tFind y.2.1 (kFs d) 0 = -1
            · rw [if_pos hf0]
              split
              · exfalso
                rename_i hcn
                have : tCnt y.2.1 (kFs d) = 0 := tCnt_zero.mpr (fun f hf => by
                  cases hx : pCov y.2.1 f.1 with
                  | false => rfl
                  | true =>
                    have := tFolder_iff.mpr ⟨f, hf, tFind_no.mp hf0 f hf, hx⟩
                    rw [hnf] at this; cases this)
                omega
              · decide
            · rw [if_neg hf0]; decide
          rw [if_neg hk2, gI_bb (s_isBarred hT3 hG.2.2 hW), hna, if_pos (by decide)]
          by_cases hk0 : tKind y.2.1 (kFs d) = 0
          · rw [if_pos hk0, hT3.2.1]
            have hf0 : tFind y.2.1 (kFs d) 0 = -1 := by
              unfold tKind at hk0
              by_cases hf0 : tFind y.2.1 (kFs d) 0 = -1
              · exact hf0
              · rw [if_neg hf0] at hk0; omega
            by_cases hl : ((kFs d).length : Int) = 16
            · have hd4 : dPutF y.2.1 z.2.1 (kFs d) = (4, kFs d) := by unfold dPutF; rw [if_neg hfa, if_pos ⟨by omega, by omega⟩]
              rw [if_pos hl, gI_bb (s_wrongAt (by decide) hp), hd4]
              exact ⟨0, _, rfl, uEO_bad hE3.1 (by show (if (4 : Int) = 0 then (0 : Int) else -1000 * 4 - p) = _; rw [if_neg (by decide)]) (by decide) hp.1⟩
            · rw [if_neg hl]
              refine putok (by unfold dPutF; rw [if_neg hfa, if_neg (by omega)]) ?_
              have := (tPut_len y.2.1 z.2.1 (kFs d)).1
              omega
          · rw [if_neg hk0]
            have hf0 : 0 ≤ tFind y.2.1 (kFs d) 0 := by
              rcases tFind_spec y.2.1 (kFs d) 0 (by decide) with ⟨a, -, -⟩ | ⟨j, f, a, b, c, -⟩
              · exfalso
                apply hk0
                refine tKind_zero.mpr (tCnt_zero.mpr (fun f hf => ?_))
                cases hx : pCov y.2.1 f.1 with
                | false => rfl
                | true =>
                  have := tFolder_iff.mpr ⟨f, hf, tFind_no.mp a f hf, hx⟩
                  rw [hnf] at this; cases this
              · omega
            refine putok (by unfold dPutF; rw [if_neg hfa, if_neg (by omega)]) ?_
            rw [tPut_old z.2.1 0 hG.1 (by decide) hf0]
            omega
      · obtain ⟨rfl, v3⟩ := o4.2 hz0
        simp only [if_true]
        exact ⟨0, M3, rfl, fun w => absurd ((pEditEnd_bad hz0).symm.trans w) hz0, fun _ => ⟨rfl, by rw [pEditEnd_bad hz0]; exact v3, uC_mv (b := (0, M3)) hE2.1 f3 (by decide)⟩⟩
    · obtain ⟨rfl, v2⟩ := o3 hq
      simp only [if_true]
      have ez : pEd3 43 y = (-1000 - y.2.2.1, 0, y.2.2.1, y.2.2.2) := by unfold pEd3; rw [if_pos ⟨rfl, hy0⟩, if_neg hq]
      have hpl := hR1.2.1
      have hz0 : (pEd3 43 y).1 ≠ 0 := by rw [ez]; show -1000 - y.2.2.1 ≠ 0; omega
      exact ⟨0, M2, rfl, fun w => absurd ((pEditEnd_bad hz0).symm.trans w) hz0, fun _ => ⟨rfl, by rw [pEditEnd_bad hz0, ez]; exact v2, uC_mv (b := (0, M2)) hE1.1 f2 (by decide)⟩⟩
  · obtain ⟨rfl, v1⟩ := o1.2 hy0
    simp only [if_true]
    have hz0 : (pEd3 43 y).1 = y.1 := by unfold pEd3; rw [if_neg (fun w => hy0 w.2), if_neg (fun w => hy0 w.2)]
    have hz1 : (pEd3 43 y).1 ≠ 0 := by rw [hz0]; exact hy0
    exact ⟨0, M1, rfl, fun w => absurd ((pEditEnd_bad hz1).symm.trans w) hz1, fun _ => ⟨rfl, by rw [pEditEnd_bad hz1, hz0]; exact v1, uC_mv (b := (0, M1)) h.1 f1 (by decide)⟩⟩
theorem pEditDo_45 {cs : List kC} {v5 w v7 : Int} {d : kC} : pEditDo cs 45 v5 w v7 d = if tCnt w (kFs d) = 0 then (8, kFs d) else (0, (kFs d).filter (fun f => !pCov w f.1)) := by
  unfold pEditDo
  rw [if_neg (by decide : ¬ (45 : Int) = 43), if_neg (by decide : ¬ (45 : Int) = 94), if_neg (by decide : ¬ (45 : Int) = 42)]
theorem pEditDo_42 {cs : List kC} {v5 w v7 : Int} {d : kC} : pEditDo cs 42 v5 w v7 d = if tCnt w (kFs d) = 0 then (8, kFs d) else dMov w v7 (kFs d) := by
  unfold pEditDo
  rw [if_neg (by decide : ¬ (42 : Int) = 43), if_neg (by decide : ¬ (42 : Int) = 94), if_pos rfl]
theorem pEditDo_94 {cs : List kC} {v5 w v7 pp : Int} {d c : kC} (h1 : (kPs d)[v5.toNat]? = some pp) (h2 : cs[pp.toNat]? = some c) : pEditDo cs 94 v5 w v7 d = dFetch w (kFs c) (kFs d) := by
  unfold pEditDo
  rw [if_neg (by decide : ¬ (94 : Int) = 43), if_pos rfl, h1]
  simp only [h2]
theorem s_takesAway {M : gM} {cs : List kC} {d : kC} {q p : Int} {s : List Int} (h : uE M cs (kPs d) (kFs d) q s) (hG : tGd (kFs d)) (hp : 0 ≤ p ∧ p ≤ 260) :
    ∃ r M1, F_takesAway M p = some (r, M1) ∧ uEO M1 cs r (pEditEnd cs 45 0 (pPath 4 s q).2.1 p d (pEd3 45 (pPath 4 s q))) := by
  rw [eq_takesAway]
  obtain ⟨r1, M1, e1, o1⟩ := s_rp4 h.2.2.2
  have f1 := fr_readsPath e1
  rw [gI_bb e1]
  generalize hy : pPath 4 s q = y at *
  have ez : pEd3 45 y = (y.1, 0, y.2.2.1, y.2.2.2) := by unfold pEd3; rw [if_neg (fun w => absurd w.1 (by decide)), if_neg (fun w => absurd w.1 (by decide))]
  rw [ez]
  by_cases hy0 : y.1 = 0
  · obtain ⟨rfl, hR1, v1⟩ := o1.1 hy0
    have hE1 := uE_mv (b := (1, M1)) h f1 (by decide) hR1
    have hW := (pPath_W (most := 4) (s := s) (p := q) (by decide) h.2.2.2.2.1 (by rw [hy]; exact hy0)).1
    rw [hy] at hW
    simp only [] at v1 ⊢
    have hT1 : uT M1 120 (kFs d) := hE1.2.2.1
    rw [if_neg (by decide), v1, gI_bb (s_kindAt hT1 hG.2.2 hW), pEditEnd_ok (show ((y.1, 0, y.2.2.1, y.2.2.2) : pR).1 = 0 from hy0)]
    simp only []
    rw [pEditDo_45]
    by_cases hk : tKind y.2.1 (kFs d) = 0
    · rw [if_pos hk, if_pos (tKind_zero.mp hk), gI_bb (s_wrongAt (by decide) hp)]
      exact ⟨0, _, rfl, uEO_bad hE1.1 (by show (if (8 : Int) = 0 then (0 : Int) else -1000 * 8 - p) = _; rw [if_neg (by decide)]) (by decide) hp.1⟩
    · rw [if_neg hk, if_neg (fun w => hk (tKind_zero.mpr w))]
      obtain ⟨M2, e2, hP2⟩ := s_takes hT1 hG.2.2 hW
      have f2 := fr_takes e2
      rw [gI_bb e2]
      exact ⟨1, M2, rfl, fun _ => ⟨rfl, uE_post hE1 hP2 f2⟩, fun w => absurd rfl w⟩
  · obtain ⟨rfl, v1⟩ := o1.2 hy0
    simp only [if_true]
    have hz1 : ((y.1, 0, y.2.2.1, y.2.2.2) : pR).1 ≠ 0 := hy0
    exact ⟨0, M1, rfl, fun w => absurd ((pEditEnd_bad hz1).symm.trans w) hz1, fun _ => ⟨rfl, by rw [pEditEnd_bad hz1]; exact v1, uC_mv (b := (0, M1)) h.1 f1 (by decide)⟩⟩
theorem s_isTooLong {M : gM} {f t : Int} {fs : List gF} (hT : uT M 120 fs) (hW : tW fs) (hf : pW f) (ht : pW t) (ht1 : 1 ≤ pNm t) : F_isTooLong M f t = some (bI (tMvBad f t fs)) := by
  have h32 := uT_32 hT
  have lp : ∀ (suf pre : List gF), fs = pre ++ suf → F_isTooLong_2 M f t (pre.length : Int) = some (bI (tMvBad f t suf)) := by
    intro suf
    induction suf with
    | nil => intro pre e; rw [eq_isTooLong_2, if_neg (by rw [hT.2.1, e]; simp)]; rfl
    | cons g r ih =>
      intro pre e
      have hl := len_mid e
      have hgW := (tW_mid hW e).1
      have hi : F_isTooLong_2 M f t (gw32 ((pre.length : Int) + 1)) = some (bI (tMvBad f t r)) := by
        rw [gw32_id (by omega) (by omega)]
        simpa using ih (pre ++ [g]) (app_mid e)
      rw [eq_isTooLong_2, if_pos (by rw [hT.2.1]; omega), gI_bb (s_pathAt hT (at_mid e)), gI_bb (s_isAtOrBelow hgW hf), tMvBad]
      cases hc : pCov f g.1 with
      | false => rw [if_pos (by decide), if_neg (by decide), hi]
      | true =>
        have ng := pNm_rng g.1
        have nf := pNm_rng f
        have nt := pNm_rng t
        have hle := pCov_le hf hgW hc
        rw [if_neg (by decide), if_pos rfl, gI_bb (s_pathAt hT (at_mid e)), gI_bb (s_names hgW), gI_bb (s_names hf), gI_bb (s_names ht)]
        simp (disch := omega) only [gw32_id]
        by_cases h6 : (6 : Int) < pNm g.1 - pNm f + pNm t
        · rw [if_pos h6, if_pos ((pMov_neg hgW hf ht hc).mpr (Or.inr (by omega)))]; rfl
        · rw [if_neg h6, if_neg (fun w => by have := (pMov_neg hgW hf ht hc).mp w; omega), ← gw32_id (z := (pre.length : Int) + 1) (by omega) (by omega), hi]
  exact lp fs [] rfl
theorem s_moved {p f t : Int} (hp : pW p) (hf : pW f) (ht : pW t) (hc : pCov f p = true) (h1 : 1 ≤ pNm t + pNm p - pNm f) (h6 : pNm t + pNm p - pNm f ≤ 6) : F_moved p f t = some (pMov p f t) := by
  have rf := pNm_rng f
  have rt := pNm_rng t
  rw [eq_moved, gI_bb (s_names hf), gI_bb (s_names ht)]
  simp (disch := omega) only [gw32_id]
  rw [(pMov_at hp hf ht hc h1 h6).1]
theorem uE_oth {M M1 : gM} {cs : List kC} {ps : List Int} {fs gs : List gF} {p t : Int} {s : List Int} (h : uE M cs ps fs p s) (ht : 120 < t) (hp : uPost M t gs M1) (hf : gFr [718, 719, 720] [] M M1) : uE M1 cs ps fs p s :=
  ⟨uC_post h.1 (by omega) hp hf, ⟨by rw [hf.2 12 (by simp)]; exact h.2.1.1, h.2.1.2.1, by rw [hf.1 721 (by decide) (by decide)]; exact h.2.1.2.2⟩, uT_keep hp (by omega) h.2.2.1, uR_of h.2.2.2 (hf.2 19 (by simp)) (hf.2 20 (by simp)) (hf.1 726 (by decide) (by decide))⟩
theorem s_movesLoop {cs : List kC} {ps : List Int} {p f t q : Int} {s : List Int} {fs : List gF} (hG : tGd fs) (hf : pW f) (ht : pW t) (hok : ∀ g ∈ fs, pCov f g.1 = true → 1 ≤ pNm t + pNm g.1 - pNm f ∧ pNm t + pNm g.1 - pNm f ≤ 6) :
    ∀ (suf pre acc : List gF) (M : gM), fs = pre ++ suf → uE M cs ps acc q s → uT M 122 fs → tSrt acc → (acc.length : Int) + tCnt f suf ≤ 16 → ∃ M1, F_movesThere_127 M p f t (pre.length : Int) = some (1, M1) ∧ uE M1 cs ps (tMvIn f t suf acc) q s := by
  intro suf
  induction suf with
  | nil =>
    intro pre acc M e h1 h2 h3 h4
    rw [eq_movesThere_127, if_neg (by rw [h2.2.1, e]; simp)]
    exact ⟨M, rfl, h1⟩
  | cons g r ih =>
    intro pre acc M e h1 h2 h3 h4
    have hl := len_mid e
    have h32 := uT_32 h2
    have hgW := tW_mid hG.2.2 e
    rw [eq_movesThere_127, if_pos (by rw [h2.2.1]; omega), gI_bb (s_pathAt h2 (at_mid e)), gI_bb (s_isAtOrBelow hgW.1 hf), tMvIn]
    rw [tCnt] at h4
    have hcr := (tCnt_rng f r).1
    cases hc : pCov f g.1 with
    | false =>
      rw [if_pos (by decide), gw32_id (by omega) (by omega), if_neg (by decide)]
      rw [hc, show bI false = 0 from rfl] at h4
      have := ih (pre ++ [g]) acc M (app_mid e) h1 h2 h3 (by omega)
      simpa using this
    | true =>
      rw [hc, show bI true = 1 from rfl] at h4
      obtain ⟨k1, k6⟩ := hok g (by rw [e]; simp) hc
      rw [if_neg (by decide), gI_bb (s_pathAt h2 (at_mid e)), gI_bb (s_moved hgW.1 hf ht hc k1 k6), gI_bb (s_contentAt h2 (at_mid e)), if_pos rfl]
      have hl2 := (tPut_len (pMov g.1 f t) g.2 acc).1
      obtain ⟨M2, e2, hP2⟩ := s_puts (w := pMov g.1 f t) (c := g.2) h1.2.2.1 h3 (by show _ ≤ (32 : Int); omega)
      have f2 := fr_puts e2
      rw [gI_bb e2, gw32_id (by omega) (by omega)]
      have := ih (pre ++ [g]) _ M2 (app_mid e) (uE_post h1 hP2 f2) (uT_keep hP2 (by decide) h2) (tPut_srt _ _ h3) (by omega)
      simpa using this
theorem tMvIn_step (f t : Int) : ∀ (os : List gF) (g : gF) (acc : List gF), tMvIn f t (g :: os) acc = tMvIn f t os (if pCov f g.1 then tPut (pMov g.1 f t) g.2 acc else acc) := fun _ _ _ => rfl
theorem s_movesThere {M : gM} {cs : List kC} {d : kC} {q p : Int} {s : List Int} (h : uE M cs (kPs d) (kFs d) q s) (hG : tGd (kFs d)) (h16 : (kFs d).length ≤ 16) (hp : 0 ≤ p ∧ p ≤ 260) :
    ∃ r M1, F_movesThere M p = some (r, M1) ∧ uEO M1 cs r (pEditEnd cs 42 0 (pPath 4 s q).2.1 p d (pEd3 42 (pPath 4 s q))) := by
  rw [eq_movesThere]
  obtain ⟨r1, M1, e1, o1⟩ := s_rp4 h.2.2.2
  have f1 := fr_readsPath e1
  have hq0 := h.2.2.2.2.1
  rw [gI_bb e1]
  generalize hy : pPath 4 s q = y at *
  by_cases hy0 : y.1 = 0
  · obtain ⟨rfl, hR1, v1⟩ := o1.1 hy0
    have hE1 := uE_mv (b := (1, M1)) h f1 (by decide) hR1
    have hWW := pPath_W (most := 4) (s := s) (p := q) (by decide) hq0 (by rw [hy]; exact hy0)
    rw [hy] at hWW
    obtain ⟨hW, hW1⟩ := hWW
    obtain ⟨r2, M2, e2, o2, o3⟩ := s_takesSign (c := 62) hR1 (by decide)
    have f2 := fr_takesSign e2
    simp only [] at v1 ⊢
    rw [if_neg (by decide), gI_bb e2]
    by_cases hq : hd y.2.2.2 = 62
    · obtain ⟨rfl, hR2, -⟩ := o2 hq
      have hE2 := uE_mv (b := (1, M2)) hE1 f2 (by decide) hR2
      obtain ⟨r3, M3, e3, o4⟩ := s_rp4 hR2
      have f3 := fr_readsPath e3
      have ez : pEd3 42 y = pPath 4 y.2.2.2.tail (y.2.2.1 + 1) := by unfold pEd3; rw [if_neg (fun w => absurd w.1 (by decide)), if_pos ⟨rfl, hy0⟩, if_pos hq]
      rw [ez]
      simp only []
      rw [if_neg (by decide), gI_bb e3]
      have hplace : 0 ≤ y.2.2.1 + 1 := hR2.2.1
      have hWt := fun z0 => pPath_W (most := 4) (s := y.2.2.2.tail) (p := y.2.2.1 + 1) (by decide) hplace z0
      generalize hz : pPath 4 y.2.2.2.tail (y.2.2.1 + 1) = z at *
      by_cases hz0 : z.1 = 0
      · obtain ⟨rfl, hR3, v3⟩ := o4.1 hz0
        obtain ⟨hWz, hWz1⟩ := hWt hz0
        have hE3 := uE_mv (b := (1, M3)) hE2 f3 (by decide) hR3
        have hT3 : uT M3 120 (kFs d) := hE3.2.2.1
        simp only [] at v3 ⊢
        rw [if_neg (by decide), v1, v3, pEditEnd_ok hz0, pEditDo_42, gI_bb (s_kindAt hT3 hG.2.2 hW)]
        by_cases hk : tKind y.2.1 (kFs d) = 0
        · rw [if_pos hk, if_pos (tKind_zero.mp hk), gI_bb (s_wrongAt (by decide) hp)]
          exact ⟨0, _, rfl, uEO_bad hE3.1 (by show (if (8 : Int) = 0 then (0 : Int) else -1000 * 8 - p) = _; rw [if_neg (by decide)]) (by decide) hp.1⟩
        · rw [if_neg hk, if_neg (fun w => hk (tKind_zero.mpr w)), gI_bb (s_kindAt hT3 hG.2.2 hWz)]
          have bad : ∀ n : Int, n = 7 ∨ n = 5 → dMov y.2.1 z.2.1 (kFs d) = (n, kFs d) → ∃ r M4, (Option.bind (F_wrongAt M3 n p) fun p89 => some (p89.1, p89.2)) = some (r, M4) ∧ uEO M4 cs r (if (dMov y.2.1 z.2.1 (kFs d)).1 = 0 then 0 else -1000 * (dMov y.2.1 z.2.1 (kFs d)).1 - p, z.2.2.1, z.2.2.2, dFs d (dMov y.2.1 z.2.1 (kFs d)).2) := by
            intro n hn hd7
            rw [gI_bb (s_wrongAt (by omega) hp), hd7]
            exact ⟨0, _, rfl, uEO_bad hE3.1 (by show (if n = 0 then (0 : Int) else -1000 * n - p) = _; rw [if_neg (by omega)]) (by omega) hp.1⟩
          have bad7 := bad 7 (Or.inl rfl)
          have hcr := (tCnt_rng z.2.1 (kFs d)).1
          by_cases hk2 : tKind z.2.1 (kFs d) = 0
          · rw [if_pos hk2, gI_bb (s_begins hW hWz)]
            have hct := tKind_zero.mp hk2
            by_cases hcv : pCov y.2.1 z.2.1 = true
            · have hne : y.2.1 ≠ z.2.1 := fun w => hk (by rw [w]; exact hk2)
              rw [decide_eq_true hne, Bool.true_and, hcv, if_neg (by decide)]
              exact bad7 (by unfold dMov; rw [if_pos (Or.inr (Or.inl hcv))])
            · have hcv2 : pCov y.2.1 z.2.1 = false := by
                cases hx : pCov y.2.1 z.2.1 with
                | false => rfl
                | true => exact absurd hx hcv
              rw [hcv2, Bool.and_false, if_pos (by decide), gI_bb (s_isBarred hT3 hG.2.2 hWz)]
              cases hah : tAhead z.2.1 (kFs d) with
              | true =>
                rw [if_neg (by decide)]
                exact bad7 (by unfold dMov; rw [if_pos (Or.inr (Or.inr hah))])
              | false =>
                have h7 : ¬ (0 < tCnt z.2.1 (kFs d) ∨ pCov y.2.1 z.2.1 = true ∨ tAhead z.2.1 (kFs d) = true) := by
                  rintro (w | w | w)
                  · omega
                  · exact hcv w
                  · rw [hah] at w; cases w
                rw [if_pos (by decide), gI_bb (s_isTooLong hT3 hG.2.2 hW hWz hWz1)]
                cases hbd : tMvBad y.2.1 z.2.1 (kFs d) with
                | true =>
                  rw [if_neg (by decide)]
                  exact bad 5 (Or.inr rfl) (by unfold dMov; rw [if_neg h7, if_pos hbd])
                | false =>
                  rw [if_pos (by decide)]
                  have hdm : dMov y.2.1 z.2.1 (kFs d) = (0, tMvIn y.2.1 z.2.1 (kFs d) ((kFs d).filter (fun g => !pCov y.2.1 g.1))) := by unfold dMov; rw [if_neg h7, if_neg (by rw [hbd]; decide)]
                  rw [hdm]
                  obtain ⟨M4, e4, hP4⟩ := s_copyTree (b := 122) hT3 (by decide) (by decide) (by show ((kFs d).length : Int) ≤ 32; omega)
                  have f4 := fr_copyTree e4
                  have hE4 := uE_oth hE3 (by decide) hP4 f4
                  obtain ⟨M5, e5, hP5⟩ := s_takes (w := y.2.1) (show uT M4 120 (kFs d) from hE4.2.2.1) hG.2.2 hW
                  have f5 := fr_takes e5
                  have hE5 := uE_post hE4 hP5 f5
                  have hfil := tCnt_fil y.2.1 (kFs d)
                  obtain ⟨M6, e6, hE6⟩ := s_movesLoop (p := p) hG hW hWz (fun g hg w => by
                    have h1 : ¬ pMov g.1 y.2.1 z.2.1 < 0 := fun w2 => by
                      have := tMvBad_iff.mpr ⟨g, hg, w, w2⟩
                      rw [hbd] at this; cases this
                    rw [pMov_neg (hG.2.2 g hg).1 hW hWz w] at h1
                    omega) (kFs d) [] _ M5 rfl hE5 (uT_keep hP5 (by decide) hP4.1) (tGd_fil hG _).1 (by omega)
                  rw [gI_bb e4, gI_bb e5]
                  exact ⟨1, M6, e6, fun _ => ⟨rfl, hE6⟩, fun w => absurd rfl w⟩
          · rw [if_neg hk2]
            have : 0 < tCnt z.2.1 (kFs d) := by
              rcases Int.lt_or_le 0 (tCnt z.2.1 (kFs d)) with w | w
              · exact w
              · exact absurd (tKind_zero.mpr (by omega)) hk2
            exact bad7 (by unfold dMov; rw [if_pos (Or.inl this)])
      · obtain ⟨rfl, v3⟩ := o4.2 hz0
        simp only [if_true]
        exact ⟨0, M3, rfl, fun w => absurd ((pEditEnd_bad hz0).symm.trans w) hz0, fun _ => ⟨rfl, by rw [pEditEnd_bad hz0]; exact v3, uC_mv (b := (0, M3)) hE2.1 f3 (by decide)⟩⟩
    · obtain ⟨rfl, v2⟩ := o3 hq
      simp only [if_true]
      have ez : pEd3 42 y = (-1000 - y.2.2.1, 0, y.2.2.1, y.2.2.2) := by unfold pEd3; rw [if_neg (fun w => absurd w.1 (by decide)), if_pos ⟨rfl, hy0⟩, if_neg hq]
      have hpl := hR1.2.1
      have hz0 : (pEd3 42 y).1 ≠ 0 := by rw [ez]; show -1000 - y.2.2.1 ≠ 0; omega
      exact ⟨0, M2, rfl, fun w => absurd ((pEditEnd_bad hz0).symm.trans w) hz0, fun _ => ⟨rfl, by rw [pEditEnd_bad hz0, ez]; exact v2, uC_mv (b := (0, M2)) hE1.1 f2 (by decide)⟩⟩
  · obtain ⟨rfl, v1⟩ := o1.2 hy0
    simp only [if_true]
    have hz0 : (pEd3 42 y).1 = y.1 := by unfold pEd3; rw [if_neg (fun w => hy0 w.2), if_neg (fun w => hy0 w.2)]
    have hz1 : (pEd3 42 y).1 ≠ 0 := by rw [hz0]; exact hy0
    exact ⟨0, M1, rfl, fun w => absurd ((pEditEnd_bad hz1).symm.trans w) hz1, fun _ => ⟨rfl, by rw [pEditEnd_bad hz1, hz0]; exact v1, uC_mv (b := (0, M1)) h.1 f1 (by decide)⟩⟩
theorem pDigit_cases {lo hi p : Int} {s : List Int} : (∃ c r, s = c :: r ∧ 48 ≤ c ∧ c ≤ 57 ∧ lo ≤ c - 48 ∧ c - 48 ≤ hi ∧ pDigit lo hi s p = (0, c - 48, p + 1, r)) ∨ (48 ≤ hd s ∧ hd s ≤ 57 ∧ ¬ (lo ≤ hd s - 48 ∧ hd s - 48 ≤ hi) ∧ pDigit lo hi s p = (-3000 - p, -1, p, s)) ∨ (¬ (48 ≤ hd s ∧ hd s ≤ 57) ∧ pDigit lo hi s p = (-1000 - p, -1, p, s)) := by
  cases s with
  | nil => exact Or.inr (Or.inr ⟨by decide, rfl⟩)
  | cons c r =>
    rw [show hd (c :: r) = c from rfl]
    unfold pDigit
    by_cases h : 48 ≤ c ∧ c ≤ 57
    · by_cases h2 : lo ≤ c - 48 ∧ c - 48 ≤ hi
      · exact Or.inl ⟨c, r, rfl, h.1, h.2, h2.1, h2.2, by simp only []; rw [if_pos h, if_pos h2]⟩
      · exact Or.inr (Or.inl ⟨h.1, h.2, h2, by simp only []; rw [if_pos h, if_neg h2]⟩)
    · exact Or.inr (Or.inr ⟨h, by simp only []; rw [if_neg h]⟩)
theorem s_fetchLoop {cs : List kC} {ps : List Int} {p f q e4 e5 k : Int} {s : List Int} {os : List gF} (hW : tW os) (hf : pW f) (hk : 0 ≤ k ∧ k < 120) :
    ∀ (suf pre acc : List gF) (M : gM), os = pre ++ suf → uE M cs ps acc q s → uT M k os → M 711 23 = f → tSrt acc → (acc.length : Int) + tCnt f suf ≤ 16 → ∃ M1, F_fetches_156 M p e4 k e5 (pre.length : Int) = some (1, M1) ∧ uE M1 cs ps (tFet f suf acc) q s := by
  intro suf
  induction suf with
  | nil =>
    intro pre acc M e h1 h2 hv h3 h4
    rw [eq_fetches_156, if_pos h2.1, if_neg (by rw [h2.2.1, e]; simp)]
    exact ⟨M, rfl, h1⟩
  | cons g r ih =>
    intro pre acc M e h1 h2 hv h3 h4
    have hl := len_mid e
    have h32 := uT_32 h2
    have hgW := tW_mid hW e
    rw [eq_fetches_156, if_pos h2.1, if_pos (by rw [h2.2.1]; omega), gI_bb (s_pathAt h2 (at_mid e)), hv, gI_bb (s_isAtOrBelow hgW.1 hf), tFet]
    rw [tCnt] at h4
    have hcr := (tCnt_rng f r).1
    cases hc : pCov f g.1 with
    | false =>
      rw [if_pos (by decide), gw32_id (by omega) (by omega), if_neg (by decide)]
      rw [hc, show bI false = 0 from rfl] at h4
      have := ih (pre ++ [g]) acc M (app_mid e) h1 h2 hv h3 (by omega)
      simpa using this
    | true =>
      rw [hc, show bI true = 1 from rfl] at h4
      rw [if_neg (by decide), gI_bb (s_pathAt h2 (at_mid e)), gI_bb (s_contentAt h2 (at_mid e)), if_pos rfl]
      have hl2 := (tPut_len g.1 g.2 acc).1
      obtain ⟨M2, e2, hP2⟩ := s_puts (w := g.1) (c := g.2) h1.2.2.1 h3 (by show _ ≤ (32 : Int); omega)
      have f2 := fr_puts e2
      rw [gI_bb e2, gw32_id (by omega) (by omega)]
      have := ih (pre ++ [g]) _ M2 (app_mid e) (uE_post h1 hP2 f2) (uT_keep hP2 (by omega) h2) (by rw [f2.2 23 (by simp)]; exact hv) (tPut_srt _ _ h3) (by omega)
      simpa using this
theorem s_fetches {M : gM} {cs : List kC} {d : kC} {q p : Int} {s : List Int} (h : uE M cs (kPs d) (kFs d) q s) (hO : kOk cs) (hO2 : ∀ c ∈ cs, tGd (kFs c)) (hps : ∀ x ∈ kPs d, 0 ≤ x ∧ x < (cs.length : Int)) (hG : tGd (kFs d)) (h16 : (kFs d).length ≤ 16) (hp : 0 ≤ p ∧ p ≤ 260) :
    ∃ r M1, F_fetches M p = some (r, M1) ∧ uEO M1 cs r (pEditEnd cs 94 (pDigit 0 ((kPs d).length - 1) s q).2.1 (pEd2 (pDigit 0 ((kPs d).length - 1) s q)).2.1 p d (pEd3 94 (pEd2 (pDigit 0 ((kPs d).length - 1) s q)))) := by
  have hlq := uR_len h.2.2.2
  have hp3 := h.2.1.2.1
  have hRs := h.2.2.2
  rw [eq_fetches, gI_bb (s_here hRs), gI_bb (s_here hRs), gI_bb s_isDigit]
  have e3 : ∀ y : pR, pEd3 94 y = (y.1, 0, y.2.2.1, y.2.2.2) := fun y => by unfold pEd3; rw [if_neg (fun w => absurd w.1 (by decide)), if_neg (fun w => absurd w.1 (by decide))]
  rw [e3]
  rcases pDigit_cases (lo := 0) (hi := (kPs d).length - 1) (p := q) (s := s) with ⟨c, r, rfl, c0, c1, c2, c3, ep⟩ | ⟨c0, c1, c2, ep⟩ | ⟨c0, ep⟩
  · rw [ep, show hd (c :: r) = c from rfl, decide_eq_true ⟨c0, c1⟩, if_neg (by decide), gw32_id (by omega) (by omega), h.2.1.1, if_pos (by omega), hRs.1, gw32_id (by simp only [List.length_cons] at hlq; omega) (by simp only [List.length_cons] at hlq; omega)]
    have e2 : pEd2 (0, c - 48, q + 1, r) = pPath 4 r (q + 1) := rfl
    rw [e2]
    have hRr : uR (gU M 711 19 (q + 1)) (q + 1) r := uR_tl hRs rfl (gU_same _ _ _ _) (gU_idx (by decide)) (gU_cell _ _ _ (by decide))
    have hEr : uE (gU M 711 19 (q + 1)) cs (kPs d) (kFs d) (q + 1) r := uE_fr (A := []) (F := [19]) h (gFr_f (gFr_r _ _ _) (.head _)) (fun b _ _ => List.not_mem_nil) (by decide) hRr
    obtain ⟨r1, M1, e1, o1⟩ := s_rp4 hRr
    have f1 := fr_readsPath e1
    rw [gI_bb e1]
    have hWW := fun z0 => pPath_W (most := 4) (s := r) (p := q + 1) (by decide) hRr.2.1 z0
    generalize hy : pPath 4 r (q + 1) = y at *
    by_cases hy0 : y.1 = 0
    · obtain ⟨rfl, hR1, v1⟩ := o1.1 hy0
      obtain ⟨hW, hW1⟩ := hWW hy0
      have hE1 := uE_mv (b := (1, M1)) hEr f1 (by decide) hR1
      have hT1 : uT M1 120 (kFs d) := hE1.2.2.1
      have hC1 : uC M1 cs := hE1.1
      obtain ⟨x, hx⟩ : ∃ x, (kPs d)[(c - 48).toNat]? = some x := ⟨_, List.getElem?_eq_getElem (by omega)⟩
      have hxr := hps x (List.mem_of_getElem? hx)
      obtain ⟨cc, hcc⟩ : ∃ cc, cs[x.toNat]? = some cc := ⟨_, List.getElem?_eq_getElem (by omega)⟩
      have hGc := hO2 cc (List.mem_of_getElem? hcc)
      have hpx : M1 721 (c - 48) = x := by
        have := hE1.2.1.2.2 _ x hx
        rwa [show (0 : Int) + (((c - 48).toNat : Nat) : Int) = c - 48 by omega] at this
      have hTx : uT M1 x (kFs cc) := by
        have := (hC1.2.2 _ cc hcc).2.2.2.2.2.2
        rwa [show ((x.toNat : Nat) : Int) = x by omega] at this
      have hl9 := hC1.2.1
      simp only [] at v1 ⊢
      rw [if_neg (by decide), if_pos (by omega), hpx, v1, gI_bb (s_filesBelow hTx hGc.2.2 hW), pEditEnd_ok (show ((y.1, 0, y.2.2.1, y.2.2.2) : pR).1 = 0 from hy0)]
      simp only []
      rw [pEditDo_94 hx hcc]
      have hcc16 := (hO _ cc hcc).1.2.2.2.2.2.2
      have cr1 := tCnt_rng y.2.1 (kFs cc)
      have cr2 := tCnt_rng y.2.1 (kFs d)
      have bad : ∀ n : Int, n = 7 ∨ n = 4 → dFetch y.2.1 (kFs cc) (kFs d) = (n, kFs d) → ∃ r M4, (Option.bind (F_wrongAt M1 n p) fun p89 => some (p89.1, p89.2)) = some (r, M4) ∧ uEO M4 cs r (if (dFetch y.2.1 (kFs cc) (kFs d)).1 = 0 then 0 else -1000 * (dFetch y.2.1 (kFs cc) (kFs d)).1 - p, y.2.2.1, y.2.2.2, dFs d (dFetch y.2.1 (kFs cc) (kFs d)).2) := by
        intro n hn hd7
        rw [gI_bb (s_wrongAt (by omega) hp), hd7]
        exact ⟨0, _, rfl, uEO_bad hE1.1 (by show (if n = 0 then (0 : Int) else -1000 * n - p) = _; rw [if_neg (by omega)]) (by omega) hp.1⟩
      have go : ¬ (0 < tCnt y.2.1 (kFs cc) ∧ tAhead y.2.1 (kFs d) = true) → ∃ r M4, F_fetches_110 M1 p (c - 48) x (tCnt y.2.1 (kFs cc)) = some (r, M4) ∧ uEO M4 cs r (if (dFetch y.2.1 (kFs cc) (kFs d)).1 = 0 then 0 else -1000 * (dFetch y.2.1 (kFs cc) (kFs d)).1 - p, y.2.2.1, y.2.2.2, dFs d (dFetch y.2.1 (kFs cc) (kFs d)).2) := by
        intro h7
        rw [eq_fetches_110, v1, gI_bb (s_filesBelow hT1 hG.2.2 hW), hT1.2.1]
        simp (disch := omega) only [gw32_id]
        by_cases h4 : (16 : Int) < ((kFs d).length : Int) - tCnt y.2.1 (kFs d) + tCnt y.2.1 (kFs cc)
        · rw [if_pos h4]
          exact bad 4 (Or.inr rfl) (by unfold dFetch; rw [if_neg h7, if_pos h4])
        · rw [if_neg h4]
          have hdf : dFetch y.2.1 (kFs cc) (kFs d) = (0, tFet y.2.1 (kFs cc) ((kFs d).filter (fun f => !pCov y.2.1 f.1))) := by unfold dFetch; rw [if_neg h7, if_neg h4]
          rw [hdf]
          obtain ⟨M5, e5, hP5⟩ := s_takes (w := y.2.1) hT1 hG.2.2 hW
          have f5 := fr_takes e5
          have hE5 := uE_post hE1 hP5 f5
          have hfil := tCnt_fil y.2.1 (kFs d)
          obtain ⟨M6, e6, hE6⟩ := s_fetchLoop (p := p) (e4 := c - 48) (e5 := tCnt y.2.1 (kFs cc)) hGc.2.2 hW (by omega) (kFs cc) [] _ M5 rfl hE5 (uT_keep hP5 (by omega) hTx) (by rw [f5.2 23 (by simp)]; exact v1) (tGd_fil hG _).1 (by omega)
          rw [gI_bb e5]
          exact ⟨1, M6, e6, fun _ => ⟨rfl, hE6⟩, fun w => absurd rfl w⟩
      by_cases hpos : 0 < tCnt y.2.1 (kFs cc)
      · rw [if_pos hpos, gI_bb (s_isBarred hT1 hG.2.2 hW)]
        cases hah : tAhead y.2.1 (kFs d) with
        | true =>
          rw [if_neg (by decide)]
          exact bad 7 (Or.inl rfl) (by unfold dFetch; rw [if_pos ⟨hpos, hah⟩])
        | false =>
          rw [if_pos (by decide)]
          exact go (fun w => by rw [hah] at w; cases w.2)
      · rw [if_neg hpos]
        exact go (fun w => hpos w.1)
    · obtain ⟨rfl, v1⟩ := o1.2 hy0
      simp only [if_true]
      have hz1 : ((y.1, 0, y.2.2.1, y.2.2.2) : pR).1 ≠ 0 := hy0
      exact ⟨0, M1, rfl, fun w => absurd ((pEditEnd_bad hz1).symm.trans w) hz1, fun _ => ⟨rfl, by rw [pEditEnd_bad hz1]; exact v1, uC_mv (b := (0, M1)) hEr.1 f1 (by decide)⟩⟩
  · have hs0 : s ≠ [] := fun w => by rw [w] at c0; exact absurd c0 (by decide)
    rw [ep, decide_eq_true ⟨c0, c1⟩, if_neg (by decide), gw32_id (by omega) (by omega), h.2.1.1, if_neg (by omega), hRs.1, gI_bb (s_wrongAt (by decide) (by omega))]
    have hne : (-3000 - q : Int) ≠ 0 := by omega
    have e2 : pEd2 (-3000 - q, -1, q, s) = (-3000 - q, 0, q, s) := by unfold pEd2; rw [if_neg hne]
    rw [e2]
    have hz1 : ((-3000 - q, 0, q, s) : pR).1 ≠ 0 := hne
    exact ⟨0, _, rfl, uEO_bad h.1 (by rw [pEditEnd_bad hz1]; show -3000 - q = _; omega) (by decide) hlq.1⟩
  · rw [ep, decide_eq_false c0, if_pos (by decide), hRs.1, gI_bb (s_wrongAt (by decide) (by omega))]
    have hne : (-1000 - q : Int) ≠ 0 := by omega
    have e2 : pEd2 (-1000 - q, -1, q, s) = (-1000 - q, 0, q, s) := by unfold pEd2; rw [if_neg hne]
    rw [e2]
    have hz1 : ((-1000 - q, 0, q, s) : pR).1 ≠ 0 := hne
    exact ⟨0, _, rfl, uEO_bad h.1 (by rw [pEditEnd_bad hz1]; show -1000 - q = _; omega) (by decide) hlq.1⟩
