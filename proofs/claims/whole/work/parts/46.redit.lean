-- ==== EDITS: what they leave; the reference's
theorem dFetch_gd {w : Int} {os fs : List gF} (h : tGd fs) (ho : tGd os) (hw : pW w) : tGd (dFetch w os fs).2 := by
  unfold dFetch
  split
  · exact h
  · rename_i h7
    split
    · exact h
    · show tGd (tFet w os (fs.filter (fun f => !pCov w f.1)))
      have key : ∀ (suf pre acc : List gF), os = pre ++ suf → tGd acc → (∀ f ∈ acc, (f ∈ fs ∧ pCov w f.1 = false) ∨ (f ∈ pre ∧ pCov w f.1 = true)) → tGd (tFet w suf acc) := by
        intro suf
        induction suf with
        | nil => intro pre acc _ h1 _; exact h1
        | cons m r ih =>
          intro pre acc e h1 h2
          rw [tFet]
          have hmo : m ∈ os := by rw [e]; simp
          have hmW := ho.2.2 m hmo
          cases hc : pCov w m.1 with
          | false =>
            rw [if_neg (by decide)]
            refine ih (pre ++ [m]) acc (app_mid e) h1 (fun f hf => ?_)
            rcases h2 f hf with z | ⟨z1, z2⟩
            · exact Or.inl z
            · exact Or.inr ⟨List.mem_append_left _ z1, z2⟩
          | true =>
            rw [if_pos rfl]
            have hpos : 0 < tCnt w os := by
              have := (tCnt_rng w os).1
              rcases Int.lt_or_le 0 (tCnt w os) with q | q
              · exact q
              · have := tCnt_zero.mp (show tCnt w os = 0 by omega) m hmo
                rw [this] at hc; cases hc
            have hna : ∀ f ∈ fs, pCov f.1 w = true → f.1 = w := fun f hf z => by
              rcases Classical.em (f.1 = w) with q | q
              · exact q
              · exact absurd ⟨hpos, tAhead_iff.mpr ⟨f, hf, q, z⟩⟩ h7
            refine ih (pre ++ [m]) _ (app_mid e) (tGd_put h1 hmW.1 hmW.2 (fun f hf z => ?_) (fun f hf z => ?_)) (fun f hf => ?_)
            · rcases h2 f hf with ⟨a1, a2⟩ | ⟨a1, a2⟩
              · rcases pCov_cmp (h.2.2 f a1).1 hw z hc with q | q
                · have e1 := hna f a1 q
                  rw [e1, pCov_self] at a2; cases a2
                · rw [q] at a2; cases a2
              · exact ho.2.1 f (by rw [e]; exact List.mem_append_left _ a1) m hmo z
            · rcases h2 f hf with ⟨a1, a2⟩ | ⟨a1, a2⟩
              · rw [pCov_trans hw hmW.1 hc z] at a2; cases a2
              · exact (ho.2.1 m hmo f (by rw [e]; exact List.mem_append_left _ a1) z).symm
            · rcases tPut_mem hf with rfl | hf
              · exact Or.inr ⟨by simp, hc⟩
              · rcases h2 f hf with z | ⟨z1, z2⟩
                · exact Or.inl z
                · exact Or.inr ⟨List.mem_append_left _ z1, z2⟩
      refine key os [] _ rfl (tGd_fil h _) (fun f hf => Or.inl ?_)
      have := List.mem_filter.mp hf
      exact ⟨this.1, by simpa using this.2⟩
theorem tMvBad_iff {f t : Int} : ∀ {fs : List gF}, tMvBad f t fs = true ↔ ∃ g ∈ fs, pCov f g.1 = true ∧ pMov g.1 f t < 0
  | [] => by simp [tMvBad]
  | g :: r => by
    have ih := tMvBad_iff (f := f) (t := t) (fs := r)
    rw [tMvBad]
    by_cases hc : pCov f g.1 = true
    · rw [if_pos hc]
      by_cases hm : pMov g.1 f t < 0
      · rw [if_pos hm]; exact ⟨fun _ => ⟨g, List.mem_cons_self, hc, hm⟩, fun _ => rfl⟩
      · rw [if_neg hm, ih]
        constructor
        · rintro ⟨x, hx, z⟩; exact ⟨x, List.mem_cons_of_mem _ hx, z⟩
        · rintro ⟨x, hx, z1, z2⟩
          rcases List.mem_cons.mp hx with e | e
          · rw [e] at z2; exact absurd z2 hm
          · exact ⟨x, e, z1, z2⟩
    · rw [if_neg hc, ih]
      constructor
      · rintro ⟨x, hx, z⟩; exact ⟨x, List.mem_cons_of_mem _ hx, z⟩
      · rintro ⟨x, hx, z1, z2⟩
        rcases List.mem_cons.mp hx with e | e
        · rw [e] at z1; exact absurd z1 hc
        · exact ⟨x, e, z1, z2⟩
/-- it can be moved just if the number of its NAMES can be -/
theorem pMov_neg {p f t : Int} (hp : pW p) (hf : pW f) (ht : pW t) (hc : pCov f p = true) : pMov p f t < 0 ↔ pNm t + pNm p - pNm f < 1 ∨ 6 < pNm t + pNm p - pNm f := by
  constructor
  · intro h
    rcases Classical.em (pNm t + pNm p - pNm f < 1 ∨ 6 < pNm t + pNm p - pNm f) with z | z
    · exact z
    · have := (pMov_at hp hf ht hc (by omega) (by omega)).2.1
      omega
  · intro h
    unfold pMov
    rw [if_pos h]; decide
theorem dMov_gd {f t : Int} {fs : List gF} (h : tGd fs) (hf : pW f) (ht : pW t) : tGd (dMov f t fs).2 := by
  unfold dMov
  split
  · exact h
  · rename_i h7
    split
    · exact h
    · rename_i h5
      show tGd (tMvIn f t fs (fs.filter (fun g => !pCov f g.1)))
      have hct : ∀ g ∈ fs, pCov t g.1 = false := by
        have := (tCnt_rng t fs).1
        exact tCnt_zero.mp (by omega)
      have hft : pCov f t = false := by
        cases hx : pCov f t with
        | false => rfl
        | true => exact absurd (Or.inr (Or.inl hx)) h7
      have hna : ∀ g ∈ fs, pCov g.1 t = true → g.1 = t := fun g hg z => by
        rcases Classical.em (g.1 = t) with q | q
        · exact q
        · exact absurd (Or.inr (Or.inr (tAhead_iff.mpr ⟨g, hg, q, z⟩))) h7
      have hok : ∀ g ∈ fs, pCov f g.1 = true → 1 ≤ pNm t + pNm g.1 - pNm f ∧ pNm t + pNm g.1 - pNm f ≤ 6 := fun g hg z => by
        have h1 : ¬ pMov g.1 f t < 0 := fun q => h5 (tMvBad_iff.mpr ⟨g, hg, z, q⟩)
        rw [pMov_neg (h.2.2 g hg).1 hf ht z] at h1
        omega
      have key : ∀ (suf pre acc : List gF), fs = pre ++ suf → tGd acc → (∀ x ∈ acc, (x ∈ fs ∧ pCov f x.1 = false) ∨ ∃ g ∈ pre, pCov f g.1 = true ∧ x = (pMov g.1 f t, g.2)) → tGd (tMvIn f t suf acc) := by
        intro suf
        induction suf with
        | nil => intro pre acc _ h1 _; exact h1
        | cons m r ih =>
          intro pre acc e h1 h2
          rw [tMvIn]
          have hmo : m ∈ fs := by rw [e]; simp
          have hmW := h.2.2 m hmo
          cases hc : pCov f m.1 with
          | false =>
            rw [if_neg (by decide)]
            refine ih (pre ++ [m]) acc (app_mid e) h1 (fun x hx => ?_)
            rcases h2 x hx with z | ⟨g, g1, g2, g3⟩
            · exact Or.inl z
            · exact Or.inr ⟨g, List.mem_append_left _ g1, g2, g3⟩
          | true =>
            rw [if_pos rfl]
            obtain ⟨k1, k6⟩ := hok m hmo hc
            have hu := pMov_under hmW.1 hf ht hc k1 k6
            have hMW := (pMov_W hmW.1 hf ht hc k1 k6).1
            refine ih (pre ++ [m]) _ (app_mid e) (tGd_put h1 hMW hmW.2 (fun x hx z => ?_) (fun x hx z => ?_)) (fun x hx => ?_)
            · rcases h2 x hx with ⟨a1, a2⟩ | ⟨g, g1, g2, rfl⟩
              · exfalso
                rcases pCov_cmp (h.2.2 x a1).1 ht z hu with q | q
                · have e1 := hna x a1 q
                  have := hct x a1
                  rw [e1, pCov_self] at this; cases this
                · rw [hct x a1] at q; cases q
              · have hgo : g ∈ fs := by rw [e]; exact List.mem_append_left _ g1
                obtain ⟨c1, c6⟩ := hok g hgo g2
                have := (pMov_cov (h.2.2 g hgo).1 hmW.1 hf ht g2 hc c1 c6 k1 k6).mp z
                have := h.2.1 g hgo m hmo this
                show pMov g.1 f t = pMov m.1 f t
                rw [this]
            · rcases h2 x hx with ⟨a1, a2⟩ | ⟨g, g1, g2, rfl⟩
              · have := pCov_trans ht hMW hu z
                rw [hct x a1] at this; cases this
              · have hgo : g ∈ fs := by rw [e]; exact List.mem_append_left _ g1
                obtain ⟨c1, c6⟩ := hok g hgo g2
                have := (pMov_cov hmW.1 (h.2.2 g hgo).1 hf ht hc g2 k1 k6 c1 c6).mp z
                have := h.2.1 m hmo g hgo this
                show pMov g.1 f t = pMov m.1 f t
                rw [this]
            · rcases tPut_mem hx with rfl | hx
              · exact Or.inr ⟨m, by simp, hc, rfl⟩
              · rcases h2 x hx with z | ⟨g, g1, g2, g3⟩
                · exact Or.inl z
                · exact Or.inr ⟨g, List.mem_append_left _ g1, g2, g3⟩
      refine key fs [] _ rfl (tGd_fil h _) (fun x hx => Or.inl ?_)
      have := List.mem_filter.mp hx
      exact ⟨this.1, by simpa using this.2⟩
theorem tMvIn_len {f t : Int} : ∀ (os acc : List gF), (tMvIn f t os acc).length ≤ acc.length + os.length
  | [], acc => Nat.le_refl _
  | g :: r, acc => by
    rw [tMvIn]
    have h1 := tMvIn_len (f := f) (t := t) r (if pCov f g.1 then tPut (pMov g.1 f t) g.2 acc else acc)
    have h2 := (tPut_len (pMov g.1 f t) g.2 acc).1
    simp only [List.length_cons]
    split at h1 <;> split <;> simp_all <;> omega
-- ---- what stands while an EDIT is made: the text, COMMITS, PARENTS told, the TREE in the making
def uE (M : gM) (cs : List kC) (ps : List Int) (fs : List gF) (p : Int) (s : List Int) : Prop := uC M cs ∧ (M 711 12 = (ps.length : Int) ∧ ps.length ≤ 3 ∧ rw_ (M 721) 0 ps) ∧ uT M 120 fs ∧ uR M p s
theorem uE_fr {M M1 : gM} {A F : List Int} {cs : List kC} {ps : List Int} {fs : List gF} {p q : Int} {s s2 : List Int} (h : uE M cs ps fs p s) (hf : gFr A F M M1) (hA : ∀ b : Int, 712 ≤ b → b ≤ 721 → b ∉ A) (hF : (0 : Int) ∉ F ∧ (12 : Int) ∉ F) (hR : uR M1 q s2) : uE M1 cs ps fs q s2 := by
  refine ⟨uC_fr h.1 hf (fun b b0 b1 => hA b b0 (by omega)) hF.1, ⟨by rw [hf.2 12 hF.2]; exact h.2.1.1, h.2.1.2.1, by rw [hf.1 721 (hA 721 (by decide) (by decide)) (by decide)]; exact h.2.1.2.2⟩, ?_, hR⟩
  refine uT_of h.2.2.1 (by rw [hf.1 718 (hA 718 (by decide) (by decide)) (by decide)]) (fun q _ _ => ?_)
  unfold uG
  rw [hf.1 719 (hA 719 (by decide) (by decide)) (by decide), hf.1 720 (hA 720 (by decide) (by decide)) (by decide)]
/-- trees of COMMITS stay when the one in the making is written -/
theorem uC_post {M M1 : gM} {cs : List kC} {t : Int} {fs : List gF} (h : uC M cs) (ht : 120 ≤ t) (hp : uPost M t fs M1) (hf : gFr [718, 719, 720] [] M M1) : uC M1 cs := by
  refine ⟨by rw [hf.2 0 (by simp)]; exact h.1, h.2.1, fun k c hk => ?_⟩
  have hl := uC_len h hk
  have hr := h.2.2 k c hk
  exact uRowC_of hr (by omega) (by rw [hf.1 712 (by decide) (by decide)]) (fun q _ _ => by rw [hf.1 713 (by decide) (by decide)]) (by rw [hf.1 716 (by decide) (by decide)]) (fun q _ _ => by rw [hf.1 717 (by decide) (by decide)]) (by rw [hf.1 714 (by decide) (by decide)]) (by rw [hf.1 715 (by decide) (by decide)]) (uT_keep hp (by omega) hr.2.2.2.2.2.2)
theorem uE_post {M M1 : gM} {cs : List kC} {ps : List Int} {fs gs : List gF} {p : Int} {s : List Int} (h : uE M cs ps fs p s) (hp : uPost M 120 gs M1) (hf : gFr [718, 719, 720] [] M M1) : uE M1 cs ps gs p s :=
  ⟨uC_post h.1 (by decide) hp hf, ⟨by rw [hf.2 12 (by simp)]; exact h.2.1.1, h.2.1.2.1, by rw [hf.1 721 (by decide) (by decide)]; exact h.2.1.2.2⟩, hp.1, uR_of h.2.2.2 (hf.2 19 (by simp)) (hf.2 20 (by simp)) (hf.1 726 (by decide) (by decide))⟩
/-- what an EDIT comes to -/
def uEO (M1 : gM) (cs : List kC) (r : Int) (y : pE) : Prop := (y.1 = 0 → r = 1 ∧ uE M1 cs (kPs y.2.2.2) (kFs y.2.2.2) y.2.1 y.2.2.1) ∧ (y.1 ≠ 0 → r = 0 ∧ M1 711 21 = y.1 ∧ uC M1 cs)
theorem uC_mv {M : gM} {cs : List kC} {b : Int × gM} {F : List Int} (h : uC M cs) (hf : gFr [] F M b.2) (hF : (0 : Int) ∉ F) : uC b.2 cs := uC_fr h hf (fun b _ _ => List.not_mem_nil) hF
theorem uEO_bad {M : gM} {cs : List kC} {a p : Int} {y : pE} (hC : uC M cs) (hy : y.1 = -1000 * a - p) (ha : 1 ≤ a) (hp : 0 ≤ p) : uEO (gU M 711 21 (-1000 * a - p)) cs 0 y :=
  ⟨fun z => by omega, fun _ => ⟨rfl, by rw [gU_same]; exact hy.symm, uC_fr (A := []) (F := [21]) hC (gFr_f (gFr_r _ _ _) (.head _)) (fun b _ _ => List.not_mem_nil) (by decide)⟩⟩
