-- ==== the reference: RUN, ANEW
theorem kEld_same {pl pl2 : kP} (h : pl2.1 = pl.1) (cs : List kC) : kEld cs pl2 = kEld cs pl := by
  have hkf : ∀ (c : kC) (q : Int), kForeL c pl2 q = kForeL c pl q := fun c q => by unfold kForeL; rw [h]
  have : ∀ (l : List kC) (a b : Nat), kEldR pl2 l a b = kEldR pl l a b := by
    intro l
    induction l with
    | nil => intro a b; rfl
    | cons d o ih =>
      intro a b
      rw [kEldR, kEldR, hkf]
      split
      · exact any_congr_mem (fun x _ => by rw [ih])
      · exact ih a b
  funext a b
  exact this cs.reverse a b
theorem eMark_same {pl pl2 : kP} (h : pl2.1 = pl.1) (cs : List kC) (rs : List rF) : eMark cs pl2 rs = eMark cs pl rs := by
  funext j
  unfold eMark
  rw [kEld_same h]
theorem kEld_trans {cs : List kC} {pl : kP} (hF : kForeOk cs pl) {m k j : Nat} (hm : m < cs.length) (h1 : kEld cs pl m k = true) (h2 : kEld cs pl k j = true) : kEld cs pl m j = true := by
  have hd := dag_eld hF
  have hk : k < cs.length := by have := kEld_lt hF hm h1; omega
  exact dag_closed hd (X := kEld cs pl m) (fun q hq hX p hp => dag_up hd hp m hm hX) k hk h1 j h2
theorem eMark_down {cs : List kC} {pl : kP} {rs : List rF} (hF : kForeOk cs pl) (hR : rGd (cs.length : Int) rs) {k j : Nat} (h1 : eMark cs pl rs k = true) (h2 : kEld cs pl k j = true) : eMark cs pl rs j = true := by
  unfold eMark at h1 ⊢
  obtain ⟨x, hx, w⟩ := List.any_eq_true.mp h1
  have hxa := (hR.2 x hx).2.1
  rw [Bool.or_eq_true, decide_eq_true_eq] at w
  refine List.any_eq_true.mpr ⟨x, hx, ?_⟩
  rw [Bool.or_eq_true]
  rcases w with w | w
  · rw [← w]; exact Or.inr h2
  · exact Or.inr (kEld_trans hF (by omega) w h2)
theorem s_remembers {M : gM} {p : Int} (hp : 0 ≤ p ∧ p ≤ 3) : ∃ M1, F_remembers M p = some M1 ∧ (∀ k : Int, 0 ≤ k → k < 120 → M1 739 k = M 730 (120 * p + k) ∧ M1 740 k = M 731 (120 * p + k)) ∧ gFr [739, 740] [] M M1 := by
  have lp : ∀ (m i : Nat) (M1 : gM), i + m = 120 → (∀ k : Int, 0 ≤ k → k < (i : Int) → M1 739 k = M 730 (120 * p + k) ∧ M1 740 k = M 731 (120 * p + k)) → gFr [739, 740] [] M M1 → ∃ M2, F_remembers_2 M1 p (i : Int) = some M2 ∧ (∀ k : Int, 0 ≤ k → k < 120 → M2 739 k = M 730 (120 * p + k) ∧ M2 740 k = M 731 (120 * p + k)) ∧ gFr [739, 740] [] M M2 := by
    intro m
    induction m with
    | zero =>
      intro i M1 hi h1 h2
      rw [eq_remembers_2, if_neg (by omega)]
      exact ⟨M1, rfl, fun k k0 k1 => h1 k k0 (by omega), h2⟩
    | succ m ih =>
      intro i M1 hi h1 h2
      rw [eq_remembers_2, if_pos (by omega), gw32_id (z := 120 * p) (by omega) (by omega), gw32_id (z := 120 * p + (i : Int)) (by omega) (by omega), if_pos (by omega), if_pos (by omega), gw32_id (by omega) (by omega)]
      refine ih (i + 1) _ (by omega) (fun k k0 k1 => ?_) (gFr_a (gFr_a h2 (by decide) (by decide)) (by decide) (by decide))
      have e : ∀ q : Int, gU M1 739 (i : Int) (M1 730 (120 * p + (i : Int))) 731 q = M 731 q := fun q => by rw [gU_cel (by decide), h2.1 731 (by decide) (by decide)]
      by_cases ek : k = (i : Int)
      · rw [ek, gU_same, gU_cel (by decide), gU_same, e, h2.1 730 (by decide) (by decide)]; exact ⟨rfl, rfl⟩
      · rw [gU_idx (show k ≠ (i : Int) from ek), gU_cel (by decide), gU_idx ek, gU_cel (by decide)]; exact h1 k k0 (by omega)
  rw [eq_remembers]
  exact lp 120 0 M (by omega) (fun k k0 k1 => by omega) (gFr_r _ _ _)
theorem s_goesBack {M : gM} {p n : Int} (hp : 0 ≤ p ∧ p ≤ 3) : ∃ M1, F_goesBack M p n = some M1 ∧ M1 711 0 = n ∧ (∀ k : Int, 0 ≤ k → k < 120 → M1 730 (120 * p + k) = M 739 k ∧ M1 731 (120 * p + k) = M 740 k) ∧ (∀ q : Int, (q < 120 * p ∨ 120 * p + 120 ≤ q) → M1 730 q = M 730 q ∧ M1 731 q = M 731 q) ∧ gFr [730, 731] [0] M M1 := by
  have lp : ∀ (m i : Nat) (M1 : gM), i + m = 120 → M1 711 0 = n → (∀ k : Int, 0 ≤ k → k < (i : Int) → M1 730 (120 * p + k) = M 739 k ∧ M1 731 (120 * p + k) = M 740 k) → (∀ q : Int, (q < 120 * p ∨ 120 * p + 120 ≤ q) → M1 730 q = M 730 q ∧ M1 731 q = M 731 q) → gFr [730, 731] [0] M M1 → ∃ M2, F_goesBack_7 M1 p n (i : Int) = some M2 ∧ M2 711 0 = n ∧ (∀ k : Int, 0 ≤ k → k < 120 → M2 730 (120 * p + k) = M 739 k ∧ M2 731 (120 * p + k) = M 740 k) ∧ (∀ q : Int, (q < 120 * p ∨ 120 * p + 120 ≤ q) → M2 730 q = M 730 q ∧ M2 731 q = M 731 q) ∧ gFr [730, 731] [0] M M2 := by
    intro m
    induction m with
    | zero =>
      intro i M1 hi h0 h1 h2 h3
      rw [eq_goesBack_7, if_neg (by omega)]
      exact ⟨M1, rfl, h0, fun k k0 k1 => h1 k k0 (by omega), h2, h3⟩
    | succ m ih =>
      intro i M1 hi h0 h1 h2 h3
      rw [eq_goesBack_7, if_pos (by omega), if_pos (by omega), gw32_id (z := 120 * p) (by omega) (by omega), gw32_id (z := 120 * p + (i : Int)) (by omega) (by omega), if_pos (by omega), gw32_id (by omega) (by omega)]
      have e : ∀ v : Int, gU M1 730 (120 * p + (i : Int)) v 740 (i : Int) = M 740 (i : Int) := fun v => by rw [gU_cel (by decide), h3.1 740 (by decide) (by decide)]
      refine ih (i + 1) _ (by omega) (by rw [gU_cell _ _ _ (by decide), gU_cell _ _ _ (by decide)]; exact h0) (fun k k0 k1 => ?_) (fun q hq => ?_) (gFr_a (gFr_a h3 (by decide) (by decide)) (by decide) (by decide))
      · by_cases ek : k = (i : Int)
        · rw [ek, gU_same, gU_cel (by decide), gU_same, e, h3.1 739 (by decide) (by decide)]; exact ⟨rfl, rfl⟩
        · rw [gU_idx (show 120 * p + k ≠ 120 * p + (i : Int) by omega), gU_cel (by decide), gU_idx (by omega), gU_cel (by decide)]; exact h1 k k0 (by omega)
      · rw [gU_idx (show q ≠ 120 * p + (i : Int) by omega), gU_cel (by decide), gU_idx (by omega), gU_cel (by decide)]; exact h2 q hq
  rw [eq_goesBack]
  exact lp 120 0 (gU M 711 0 n) (by omega) (gU_same _ _ _ _) (fun k k0 k1 => by omega) (fun q _ => by rw [gU_cell _ _ _ (by decide), gU_cell _ _ _ (by decide)]; exact ⟨rfl, rfl⟩) (gFr_f (gFr_r _ _ _) (by decide))
theorem s_runs123 {M : gM} {p x2 x3 x4 x5 h : Int} {L : List rF} {n : Int} (hp : 0 ≤ p ∧ p ≤ 3) (hh : 0 ≤ h ∧ h < 4) (e2 : M 729 (68 * p + 2) = h) (hG : rGd n L) (hd : ∀ s : Int, 0 ≤ s → s < 52 → M 737 s = sAt L s ∧ M 738 s = sBy L s) : ∃ M1, F_runs_123 M p x2 x3 x4 x5 0 = some (x3, M1) ∧ uRf M1 h L ∧ (∀ q : Int, (q < 52 * h ∨ 52 * h + 52 ≤ q) → M1 727 q = M 727 q ∧ M1 728 q = M 728 q) ∧ gFr [727, 728] [] M M1 := by
  have lp : ∀ (m i : Nat) (M1 : gM), i + m = 52 → (∀ s : Int, 0 ≤ s → s < (i : Int) → M1 727 (52 * h + s) = sAt L s ∧ M1 728 (52 * h + s) = sBy L s) → (∀ q : Int, (q < 52 * h ∨ 52 * h + 52 ≤ q) → M1 727 q = M 727 q ∧ M1 728 q = M 728 q) → gFr [727, 728] [] M M1 → ∃ M2, F_runs_123 M1 p x2 x3 x4 x5 (i : Int) = some (x3, M2) ∧ uRf M2 h L ∧ (∀ q : Int, (q < 52 * h ∨ 52 * h + 52 ≤ q) → M2 727 q = M 727 q ∧ M2 728 q = M 728 q) ∧ gFr [727, 728] [] M M2 := by
    intro m
    induction m with
    | zero =>
      intro i M1 hi h1 h2 h3
      rw [eq_runs_123, if_neg (by omega)]
      exact ⟨M1, rfl, fun s s0 s1 => h1 s s0 (by omega), h2, h3⟩
    | succ m ih =>
      intro i M1 hi h1 h2 h3
      obtain ⟨d1, d2⟩ := hd (i : Int) (by omega) (by omega)
      have e9 : M1 729 (68 * p + 2) = h := by rw [h3.1 729 (by decide) (by decide)]; exact e2
      have hlay : F_laysRef M1 h (i : Int) (M1 737 (i : Int)) (M1 738 (i : Int)) = some (gU (gU M1 727 (52 * h + (i : Int)) (sAt L (i : Int))) 728 (52 * h + (i : Int)) (sBy L (i : Int))) := by
        rw [eq_laysRef, gw32_id (z := 52 * h) (by omega) (by omega), gw32_id (z := 52 * h + (i : Int)) (by omega) (by omega), if_pos (by omega), h3.1 737 (by decide) (by decide), h3.1 738 (by decide) (by decide), d1, d2]
        by_cases q : sAt L (i : Int) = -1
        · rw [if_pos q]
          rcases Classical.em (∃ x ∈ L, rOrd x = (i : Int)) with ⟨x, hx, ho⟩ | hn
          · have := (sAt_mem hG.1 hx ho).1
            have := (hG.2 x hx).2.1
            omega
          · rw [(sAt_no (fun x hx ho => hn ⟨x, hx, ho⟩)).2]
        · rw [if_neg q]
      rw [eq_runs_123, if_pos (by omega), gI_bb (s_ofPlan hp (by decide)), if_pos (by omega), e9, gI_bb hlay, gw32_id (by omega) (by omega)]
      refine ih (i + 1) _ (by omega) (fun s s0 s1 => ?_) (fun q hq => ?_) (gFr_a (gFr_a h3 (by decide) (by decide)) (by decide) (by decide))
      · by_cases ek : s = (i : Int)
        · rw [ek, gU_same, gU_cel (by decide), gU_same]; exact ⟨rfl, rfl⟩
        · rw [gU_idx (show 52 * h + s ≠ 52 * h + (i : Int) by omega), gU_cel (by decide), gU_idx (by omega), gU_cel (by decide)]; exact h1 s s0 (by omega)
      · rw [gU_idx (show q ≠ 52 * h + (i : Int) by omega), gU_cel (by decide), gU_idx (by omega), gU_cel (by decide)]; exact h2 q hq
  exact lp 52 0 M (by omega) (fun k k0 k1 => by omega) (fun _ _ => ⟨rfl, rfl⟩) (gFr_r _ _ _)
theorem uC_take {M M1 : gM} {cs ds : List kC} (h : uC M (cs ++ ds)) (h0 : M1 711 0 = (cs.length : Int)) (hf : ∀ b : Int, 712 ≤ b → b ≤ 720 → M1 b = M b) : uC M1 cs := by
  obtain ⟨-, h2, h3⟩ := h
  rw [List.length_append] at h2
  refine ⟨h0, by omega, fun k c hk => ?_⟩
  have hl := (List.getElem?_eq_some_iff.mp hk).1
  have hr := h3 k c (by rw [List.getElem?_append_left hl]; exact hk)
  refine uRowC_of hr (by omega) (by rw [hf 712 (by decide) (by decide)]) (fun q _ _ => by rw [hf 713 (by decide) (by decide)]) (by rw [hf 716 (by decide) (by decide)]) (fun q _ _ => by rw [hf 717 (by decide) (by decide)]) (by rw [hf 714 (by decide) (by decide)]) (by rw [hf 715 (by decide) (by decide)]) ?_
  exact uT_of hr.2.2.2.2.2.2 (by rw [hf 718 (by decide) (by decide)]) (fun q _ _ => by unfold uG; rw [hf 719 (by decide) (by decide), hf 720 (by decide) (by decide)])
/-- all that a RUN may write but REFS and what is MAPPED -/
def ruA : List Int := [712, 713, 714, 715, 716, 717, 718, 719, 720, 721, 722, 723, 727, 728, 730, 731, 732, 733, 734, 735, 736, 737, 738, 739, 740]
theorem uSt_run {M M1 : gM} {z z2 : aS} (h : uSt M z) (hf : gFr ruA rvF M M1) (hC : uC M1 (aCs z2)) (h1 : aTp z2 = aTp z) (h2 : ∀ i : Int, 0 ≤ i → i < 4 → uRf M1 i (aRs z2 i)) (h3 : ∀ q : Int, 0 ≤ q → q < 4 → uPl 729 730 731 M1 q (aPl z2 q)) (h4 : z2.2.2.2.2 = z.2.2.2.2) : uSt M1 z2 := by
  obtain ⟨a1, a2, a3, a4, a5⟩ := h
  have e5 : aSv z2 = aSv z := by show z2.2.2.2.2.1 = z.2.2.2.2.1; rw [h4]
  have e6 : aSR z2 = aSR z := by show z2.2.2.2.2.2.1 = z.2.2.2.2.2.1; rw [h4]
  have e7 : aSP z2 = aSP z := by show z2.2.2.2.2.2.2 = z.2.2.2.2.2.2; rw [h4]
  have o : ∀ b : Int, b = 726 ∨ 740 < b → M1 b = M b := fun b hb => hf.1 b (by unfold ruA; simp; omega) (by omega)
  refine ⟨hC, ?_, h2, h3, ?_⟩
  · rw [h1]; exact ⟨by rw [hf.2 18 (by decide)]; exact a2.1, a2.2.1, fun j c hj => by rw [o 726 (by omega)]; exact a2.2.2 j c hj⟩
  · rw [e5, e6, e7]
    rcases a5 with ⟨x, y⟩ | ⟨x, y, w, v, u⟩
    · exact Or.inl ⟨x, by rw [hf.2 71 (by decide)]; exact y⟩
    · refine Or.inr ⟨x, by rw [hf.2 71 (by decide)]; exact y, by rw [hf.2 70 (by decide)]; exact w, fun i i0 i1 => ?_, fun q q0 q1 => ?_⟩
      · exact uRfX_of (v i i0 i1) (fun q _ _ => by rw [o 753 (by omega)]) (fun q _ _ => by rw [o 754 (by omega)])
      · exact uPl_of (u q q0 q1) (fun q _ _ => by rw [o 755 (by omega)]) (fun q _ _ => by rw [o 756 (by omega)]) (fun q _ _ => by rw [o 757 (by omega)])
theorem s_runs {M0 M : gM} {z : aS} {p : Int} {b : Bool} (hz : uSt M0 z) (hG : kGd (aCs z)) (hR : ∀ h : Int, 0 ≤ h → h < 4 → rGd ((aCs z).length : Int) (aRs z h) ∧ (aRs z h).length ≤ 8) (hI : plInv (aCs z) (aPl z p)) (hp : 0 ≤ p ∧ p ≤ 3) (h1 : (aPl z p).2.1 0 = 1) (hf0 : gFr [730, 739, 740] [] M0 M) (hq0 : ∀ q : Int, (q < 120 * p ∨ 120 * p + 120 ≤ q) → M 730 q = M0 730 q) (hP : uPq M p ((aPl z p).1, (aPl z p).2.1, (rcY z (aPl z p) b).2.2.1, (rcY z (aPl z p) b).2.2.2)) (h39 : ∀ k : Int, 0 ≤ k → k < 120 → M 739 k = M0 730 (120 * p + k) ∧ M 740 k = M0 731 (120 * p + k)) :
    ∃ M9, F_runs M p = some ((rcV z p (aLoop (kEld (aCs z) (aPl z p)) (eMark (aCs z) (aPl z p) (aRs z ((aPl z p).2.1 2))) (aPl z p) (aCs z).length 0 (rcY z (aPl z p) b))).1, M9) ∧ uSt M9 (rcV z p (aLoop (kEld (aCs z) (aPl z p)) (eMark (aCs z) (aPl z p) (aRs z ((aPl z p).2.1 2))) (aPl z p) (aCs z).length 0 (rcY z (aPl z p) b))).2 := by
  obtain ⟨a1, a2, a3, a4, a5⟩ := id hz
  have hl9 := a1.2.1
  obtain ⟨hf, ht⟩ := plInv_ft hI h1
  have hK := plInv_K hI h1
  have hF := plInv_fore hG.1 hI h1
  obtain ⟨hGf, h8f⟩ := hR _ hf.1 hf.2
  obtain ⟨hGt, h8t⟩ := hR _ ht.1 ht.2
  have hli := rcY_li (b := b) hG hl9 hI h1
  have hC : uC M (aCs z) := uC_fr a1 hf0 (by simp; omega) (by decide)
  have o0 : ∀ x : Int, x ≠ 711 → x ≠ 730 → x ≠ 739 → x ≠ 740 → M x = M0 x := fun x x0 x1 x2 x3 => hf0.1 x (by simp; omega) x0
  have hRf0 := a3 _ hf.1 hf.2
  have hRf : uRf M ((aPl z p).2.1 2) (aRs z ((aPl z p).2.1 2)) := uRfX_of (A := 727) (B := 728) hRf0 (fun q _ _ => by rw [o0 727 (by decide) (by decide) (by decide) (by decide)]) (fun q _ _ => by rw [o0 728 (by decide) (by decide) (by decide) (by decide)])
  obtain ⟨M1, e1, hS1, b1⟩ := s_marksPlan (rs := aRs z ((aPl z p).2.1 2)) hC hG.1 hP hp hK.2.2.2.2 (fun k c hk x hx => hF k c hk x hx) hf hRf hGf
  have hS1 : uS M1 736 (eMark (aCs z) (aPl z p) (aRs z ((aPl z p).2.1 2))) := by
    rw [eMark_same (pl := aPl z p) (pl2 := ((aPl z p).1, (aPl z p).2.1, (rcY z (aPl z p) b).2.2.1, (rcY z (aPl z p) b).2.2.2)) rfl] at hS1; exact hS1
  have hdown : ∀ k j : Nat, eMark (aCs z) (aPl z p) (aRs z ((aPl z p).2.1 2)) k = true → kEld (aCs z) (aPl z p) k j = true → eMark (aCs z) (aPl z p) (aRs z ((aPl z p).2.1 2)) j = true := fun k j => eMark_down hF hGf
  have hroot : ∀ x ∈ aRs z ((aPl z p).2.1 2), eMark (aCs z) (aPl z p) (aRs z ((aPl z p).2.1 2)) x.2.2.1.toNat = true := fun x hx => by
    unfold eMark
    exact List.any_eq_true.mpr ⟨x, hx, by rw [decide_eq_true rfl]; rfl⟩
  generalize hSS : eMark (aCs z) (aPl z p) (aRs z ((aPl z p).2.1 2)) = S at *
  rw [eq_runs, gI_bb e1, hC.1]
  have hSt : rvS M1 p (aPl z p) S (rcY z (aPl z p) b).2.1 (rcY z (aPl z p) b).2.2.1 (rcY z (aPl z p) b).2.2.2 M1 := ⟨uC_same hC (by rw [b1 711 (by decide)]) (fun x x0 x1 => b1 x (by omega)), uPq_of hP (b1 729 (by decide)) (b1 730 (by decide)) (b1 731 (by decide)), hS1, gFr_r _ _ _, fun _ _ => ⟨rfl, rfl⟩⟩
  -- what stays between the beginning and now
  have f01 : gFr ruA rvF M0 M1 := gFr_t (gFr_t (gFr_r _ _ _) hf0 (by decide) (fun f hf => by cases hf)) (⟨fun x hx _ => b1 x (by simpa using hx), fun f _ => by rw [b1 711 (by decide)]⟩ : gFr [736] [] M M1) (by decide) (fun f hf => by cases hf)
  have q01 : ∀ q : Int, (q < 120 * p ∨ 120 * p + 120 ≤ q) → M1 730 q = M0 730 q ∧ M1 731 q = M0 731 q := fun q hq => by
    rw [b1 730 (by decide), b1 731 (by decide), o0 731 (by decide) (by decide) (by decide) (by decide)]; exact ⟨hq0 q hq, rfl⟩
  have h39' : ∀ k : Int, 0 ≤ k → k < 120 → M1 739 k = M0 730 (120 * p + k) ∧ M1 740 k = M0 731 (120 * p + k) := fun k k0 k1 => by
    rw [b1 739 (by decide), b1 740 (by decide)]; exact h39 k k0 k1
  have r727 : M1 727 = M0 727 ∧ M1 728 = M0 728 := by
    rw [b1 727 (by decide), b1 728 (by decide), o0 727 (by decide) (by decide) (by decide) (by decide), o0 728 (by decide) (by decide) (by decide) (by decide)]; exact ⟨rfl, rfl⟩
  -- refused: all as it was
  have back : ∀ (x3 x4 x5 : Int) (ds : List kC) (M8 : gM), uC M8 (aCs z ++ ds) → gFr (737 :: 738 :: rvA) rvF M1 M8 → (∀ q : Int, (q < 120 * p ∨ 120 * p + 120 ≤ q) → M8 730 q = M1 730 q ∧ M8 731 q = M1 731 q) → ∃ M9, F_runs_93 M8 p ((aCs z).length : Int) x3 x4 x5 = some (if x4 = 0 then -3 else -5, M9) ∧ uSt M9 z := fun x3 x4 x5 ds M8 hC8 hf8 hq8 => by
    obtain ⟨M9, e9, n9, k9, q9, f9⟩ := s_goesBack (M := M8) (n := ((aCs z).length : Int)) hp
    have f89 : gFr ruA rvF M0 M9 := gFr_t (gFr_t f01 hf8 (by decide) (by decide)) f9 (by decide) (by decide)
    rw [eq_runs_93, gI_bb e9]
    refine ⟨M9, by split <;> rfl, ?_⟩
    have m30 : ∀ q : Int, 0 ≤ q → q < 480 → M9 730 q = M0 730 q ∧ M9 731 q = M0 731 q := fun q q0 q1 => by
      by_cases hq : q < 120 * p ∨ 120 * p + 120 ≤ q
      · obtain ⟨x1, x2⟩ := q9 q hq
        obtain ⟨x3, x4⟩ := hq8 q hq
        obtain ⟨x5, x6⟩ := q01 q hq
        exact ⟨by rw [x1, x3, x5], by rw [x2, x4, x6]⟩
      · obtain ⟨x1, x2⟩ := k9 (q - 120 * p) (by omega) (by omega)
        obtain ⟨x3, x4⟩ := h39' (q - 120 * p) (by omega) (by omega)
        rw [show 120 * p + (q - 120 * p) = q by omega] at x1 x2 x3 x4
        rw [hf8.1 739 (by decide) (by decide), x3] at x1
        rw [hf8.1 740 (by decide) (by decide), x4] at x2
        exact ⟨x1, x2⟩
    refine uSt_run hz f89 (uC_take hC8 n9 (fun x x0 x1 => f9.1 x (by simp; omega) (by omega))) rfl (fun i i0 i1 => ?_) (fun q w0 w1 => ?_) rfl
    · exact uRfX_of (A := 727) (B := 728) (a3 i i0 i1) (fun q _ _ => by rw [f9.1 727 (by decide) (by decide), hf8.1 727 (by decide) (by decide), r727.1]) (fun q _ _ => by rw [f9.1 728 (by decide) (by decide), hf8.1 728 (by decide) (by decide), r727.2])
    · exact uPl_of (a4 q w0 w1) (fun x _ _ => by rw [f89.1 729 (by decide) (by decide)]) (fun x x0 x1 => (m30 x (by omega) (by omega)).1) (fun x x0 x1 => (m30 x (by omega) (by omega)).2)
  generalize hres : aLoop (kEld (aCs z) (aPl z p)) S (aPl z p) (aCs z).length 0 (rcY z (aPl z p) b) = res
  generalize hV : rcV z p res = V
  have lp : ∀ (m k : Nat) (y : aL) (M2 : gM), k + m = (aCs z).length → (0 ≤ y.1 ∧ y.1 ≤ (k : Int)) → liS (aCs z) (aPl z p) y → rvS M1 p (aPl z p) S y.2.1 y.2.2.1 y.2.2.2 M2 → (∀ j : Nat, j < k → S j = true → 0 ≤ y.2.2.2 (j : Int)) → aLoop (kEld (aCs z) (aPl z p)) S (aPl z p) m k y = res → ∃ M9, F_runs_18 M2 p ((aCs z).length : Int) y.1 1 (k : Int) = some (V.1, M9) ∧ uSt M9 V.2 := by
    intro m
    induction m with
    | zero =>
      intro k y M2 hk hy hl h hmp e
      obtain ⟨hC2, hP2, hS2, hf2, ho2⟩ := id h
      obtain ⟨⟨ds, hds⟩, hGy, hly, hmy⟩ := id hl
      have hlen : (aCs z).length ≤ y.2.1.length := by rw [hds, List.length_append]; omega
      have e : some y = res := e
      rw [← e] at hV
      have hV : (if 8 < (rcL z p (aPl z p) y).length then ((-5 : Int), z) else (y.1, (aTp z, y.2.1, rPut (aRs z) ((aPl z p).2.1 3) (rcL z p (aPl z p) y), plPut (aPl z) p ((aPl z p).1, (aPl z p).2.1, y.2.2.1, y.2.2.2), z.2.2.2.2))) = V := hV
      have r2 : M2 727 = M0 727 ∧ M2 728 = M0 728 := by rw [hf2.1 727 (by decide) (by decide), hf2.1 728 (by decide) (by decide)]; exact r727
      have hrf : ∀ x ∈ aRs z ((aPl z p).2.1 2), rRng x ∧ 0 ≤ x.2.2.1 ∧ x.2.2.1 < 120 := fun x hx => by
        obtain ⟨x1, x2, -⟩ := hGf.2 x hx
        exact ⟨x1, x2.1, by omega⟩
      have hgd := lrGo_gd (n := (y.2.1.length : Int)) (tags := (aPl z p).2.1 14) (im := y.2.2.1) (fa := y.2.2.2) hp (fun q q0 q1 => (hmy q q0 q1).2.1.2) _ _ hrf (rGd_fil (rGd_up (show ((aCs z).length : Int) ≤ (y.2.1.length : Int) by omega) hGt) (fun x => decide (x.2.2.2 ≠ p)))
      have hfl := List.length_filter_le (fun x : rF => decide (x.2.2.2 ≠ p)) (aRs z ((aPl z p).2.1 3))
      have hLL : lrGo ((aPl z p).2.1 14) y.2.2.1 y.2.2.2 p (aRs z ((aPl z p).2.1 2)) ((aRs z ((aPl z p).2.1 3)).filter (fun x => decide (x.2.2.2 ≠ p))) = rcL z p (aPl z p) y := rfl
      rw [hLL] at hgd
      have hRf2 : uRf M2 ((aPl z p).2.1 2) (aRs z ((aPl z p).2.1 2)) := uRfX_of (A := 727) (B := 728) (a3 _ hf.1 hf.2) (fun q _ _ => by rw [r2.1]) (fun q _ _ => by rw [r2.2])
      have hRt2 : uRf M2 ((aPl z p).2.1 3) (aRs z ((aPl z p).2.1 3)) := uRfX_of (A := 727) (B := 728) (a3 _ ht.1 ht.2) (fun q _ _ => by rw [r2.1]) (fun q _ _ => by rw [r2.2])
      obtain ⟨M3, e3, d3⟩ := s_laysRefs (n := (y.2.1.length : Int)) (pl := ((aPl z p).1, (aPl z p).2.1, y.2.2.1, y.2.2.2)) (L := rcL z p (aPl z p) y) hP2 hp hf ht hRf2 hRt2 (rGd_up (by omega) hGf) (rGd_up (by omega) hGt) (by omega) (fun x hx => by
        have := hmp x.2.2.1.toNat (by have := (hGf.2 x hx).2.1; omega) (hroot x hx)
        rwa [show ((x.2.2.1.toNat : Nat) : Int) = x.2.2.1 by have := (hGf.2 x hx).2.1; omega] at this) (fun q q0 q1 => (hmy q q0 q1).2.1) rfl (by have := hgd.2; omega)
      have f3 : gFr [737, 738] [] M2 M3 := fr_laysRefs e3
      have f13 : gFr (737 :: 738 :: rvA) rvF M1 M3 := gFr_t (gFr_t (gFr_r _ _ _) hf2 (by decide) (by decide)) f3 (by decide) (fun f hf => by cases hf)
      have hC3 : uC M3 y.2.1 := uC_fr hC2 f3 (by simp; omega) (by decide)
      rw [eq_runs_18, if_neg (by omega), eq_runs_74, if_neg (show ¬ (1 : Int) = 0 by decide), gI_bb e3]
      by_cases q8 : 8 < (rcL z p (aPl z p) y).length
      · rw [if_pos q8] at hV
        show ∃ M9, (if (8 : Int) < ((rcL z p (aPl z p) y).length : Int) then _ else _) = some (V.1, M9) ∧ _
        rw [if_pos (by omega), ← hV]
        exact back y.1 1 (k : Int) ds M3 (by rw [← hds]; exact hC3) f13 (fun q hq => by rw [f3.1 730 (by decide) (by decide), f3.1 731 (by decide) (by decide)]; exact ho2 q hq)
      · rw [if_neg q8] at hV
        show ∃ M9, (if (8 : Int) < ((rcL z p (aPl z p) y).length : Int) then _ else _) = some (V.1, M9) ∧ _
        rw [if_neg (by omega), ← hV]
        obtain ⟨M4, e4, u4, q4, f4⟩ := s_runs123 (x2 := ((aCs z).length : Int)) (x3 := y.1) (x4 := 1) (x5 := 1) hp ht (by rw [f3.1 729 (by decide) (by decide)]; exact hP2.1.2.1) hgd.1 d3
        refine ⟨M4, e4, ?_⟩
        have f14 : gFr ruA rvF M0 M4 := gFr_t (gFr_t f01 f13 (by decide) (by decide)) f4 (by decide) (fun f hf => by cases hf)
        have m3 : M3 730 = M2 730 ∧ M3 731 = M2 731 := ⟨f3.1 730 (by decide) (by decide), f3.1 731 (by decide) (by decide)⟩
        have m4 : M4 730 = M2 730 ∧ M4 731 = M2 731 := ⟨by rw [f4.1 730 (by decide) (by decide), m3.1], by rw [f4.1 731 (by decide) (by decide), m3.2]⟩
        refine uSt_run hz f14 (uC_fr hC3 f4 (by simp; omega) (by decide)) rfl (fun i i0 i1 => ?_) (fun q w0 w1 => ?_) rfl
        · show uRf M4 i (if i = (aPl z p).2.1 3 then rcL z p (aPl z p) y else aRs z i)
          by_cases ei : i = (aPl z p).2.1 3
          · rw [if_pos ei, ei]; exact u4
          · rw [if_neg ei]
            refine uRfX_of (A := 727) (B := 728) (a3 i i0 i1) (fun x x0 x1 => ?_) (fun x x0 x1 => ?_)
            · rw [(q4 x (by omega)).1, f3.1 727 (by decide) (by decide), r2.1]
            · rw [(q4 x (by omega)).2, f3.1 728 (by decide) (by decide), r2.2]
        · show uPl 729 730 731 M4 q (if q = p then ((aPl z p).1, (aPl z p).2.1, y.2.2.1, y.2.2.2) else aPl z q)
          by_cases eq : q = p
          · rw [if_pos eq, eq]
            have hp0 := (a4 p hp.1 (by omega)).1
            refine ⟨?_, Or.inr h1, fun _ => uPq_of hP2 (by rw [f4.1 729 (by decide) (by decide), f3.1 729 (by decide) (by decide)]) m4.1 m4.2⟩
            rw [f14.1 729 (by decide) (by decide)]; exact hp0
          · rw [if_neg eq]
            refine uPl_of (a4 q w0 w1) (fun x _ _ => by rw [f14.1 729 (by decide) (by decide)]) (fun x x0 x1 => ?_) (fun x x0 x1 => ?_)
            · rw [m4.1, (ho2 x (by omega)).1, (q01 x (by omega)).1]
            · rw [m4.2, (ho2 x (by omega)).2, (q01 x (by omega)).2]
    | succ m ih =>
      intro k y M2 hk hy hl h hmp e
      obtain ⟨hC2, hP2, hS2, hf2, ho2⟩ := id h
      obtain ⟨⟨ds, hds⟩, hGy, hly, hmy⟩ := id hl
      have hkl : k < (aCs z).length := by omega
      have nx : gw32 ((k : Int) + 1) = ((k + 1 : Nat) : Int) := by rw [gw32_id (by omega) (by omega)]; omega
      unfold aLoop at e
      rw [eq_runs_18, if_pos (by omega), if_neg (show ¬ (1 : Int) = 0 by decide), if_pos (by omega), hS2 k (by omega), nx]
      have next : (S k = true → 0 ≤ y.2.2.2 (k : Int)) → ∃ M9, F_runs_18 M2 p ((aCs z).length : Int) y.1 1 ((k + 1 : Nat) : Int) = some (V.1, M9) ∧ uSt M9 V.2 := fun hno => by
        rw [if_neg (fun w => by
          rw [Bool.and_eq_true, decide_eq_true_eq] at w
          have := hno w.1; omega)] at e
        refine ih (k + 1) y M2 (by omega) ⟨hy.1, by omega⟩ hl h (fun j hj hSj => ?_) e
        by_cases ej : j = k
        · rw [ej] at hSj ⊢; exact hno hSj
        · exact hmp j (by omega) hSj
      cases hSk : S k with
      | false => rw [if_pos bIf]; exact next (fun w => by rw [hSk] at w; cases w)
      | true =>
        have h30 := (hP2.2.2.2 (k : Int) (by omega) (by omega)).1
        have h30 : M2 730 (120 * p + (k : Int)) = y.2.2.2 (k : Int) := h30
        rw [if_neg bIt, gw32_id (z := 120 * p) (by omega) (by omega), gw32_id (z := 120 * p + (k : Int)) (by omega) (by omega), if_pos (by omega), h30]
        by_cases q : y.2.2.2 (k : Int) = -1
        · rw [if_pos q]
          rw [if_pos (show (S k && decide (y.2.2.2 (k : Int) < 0)) = true by rw [hSk, decide_eq_true (show y.2.2.2 (k : Int) < 0 by omega)]; rfl)] at e
          have hkc : y.2.1[k]? = some (y.2.1[k]'(by rw [hds, List.length_append]; omega)) := List.getElem?_eq_getElem _
          generalize (y.2.1[k]'(by rw [hds, List.length_append]; omega)) = c at hkc
          rw [hkc] at e
          have hY := hI.2 h1
          obtain ⟨b3, e3, r3⟩ := s_rewrites (cs0 := aCs z) (n := y.1) h hp hl hK hG.1 (fun x hx => (show wRg x.2 from (hY.1 4 (by decide) x hx).2)) (hY.2.1 12) (hY.2.1 11) hkc hkl (fun j hj => hmp j (kEld_lt hF hkl hj) (hdown k j hSk hj))
          rw [gI_bb e3]
          cases hx : aRw y.2.1 (kEld (aCs z) (aPl z p)) (aPl z p) y.2.2.1 k c with
          | none =>
            rw [hx] at r3
            obtain ⟨r4, r5, r6, r7⟩ := r3
            have e : (match aRw y.2.1 (kEld (aCs z) (aPl z p)) (aPl z p) y.2.2.1 k c with
              | none => none
              | some x => aLoop (kEld (aCs z) (aPl z p)) S (aPl z p) m (k + 1) (y.1 + 1, x.2.2, fUp y.2.2.1 (k : Int) x.2.1, fUp y.2.2.2 (k : Int) x.1)) = res := e
            rw [hx] at e
            have e : none = res := e
            rw [← e] at hV
            have hV : ((-3 : Int), z) = V := hV
            rw [r4, ← hV]
            obtain ⟨M9, e9, u9⟩ := back (gw32 (y.1 + 1)) 0 ((k + 1 : Nat) : Int) ds b3.2 (by rw [← hds]; exact r5) (gFr_t (gFr_r _ _ _) r6 (by decide) (by decide)) r7
            rw [if_pos (show (0 : Int) = 0 from rfl)] at e9
            refine ⟨M9, ?_, u9⟩
            rw [eq_runs_18]
            by_cases q2 : ((k + 1 : Nat) : Int) < ((aCs z).length : Int)
            · rw [if_pos q2, if_pos (show (0 : Int) = 0 from rfl), eq_runs_74, if_pos (show (0 : Int) = 0 from rfl)]; exact e9
            · rw [if_neg q2, eq_runs_74, if_pos (show (0 : Int) = 0 from rfl)]; exact e9
          | some x =>
            rw [hx] at r3
            obtain ⟨r4, r5⟩ := r3
            have e : (match aRw y.2.1 (kEld (aCs z) (aPl z p)) (aPl z p) y.2.2.1 k c with
              | none => none
              | some x => aLoop (kEld (aCs z) (aPl z p)) S (aPl z p) m (k + 1) (y.1 + 1, x.2.2, fUp y.2.2.1 (k : Int) x.2.1, fUp y.2.2.2 (k : Int) x.1)) = res := e
            rw [hx] at e
            rw [r4, gw32_id (z := y.1 + 1) (by omega) (by omega)]
            have hxi := aRw_is (liS_H hK hl hG.1) hkc hx
            refine ih (k + 1) _ b3.2 (by omega) ⟨by show 0 ≤ y.1 + 1; omega, by show y.1 + 1 ≤ _; omega⟩ (liS_step hK hl hG.1 hkl hkc hx (y.1 + 1)) r5 (fun j hj hSj => ?_) e
            show 0 ≤ fUp y.2.2.2 (k : Int) x.1 (j : Int)
            unfold fUp
            by_cases ej : (j : Int) = (k : Int)
            · rw [if_pos ej]; exact hxi.1.1
            · rw [if_neg ej]; exact hmp j (by omega) hSj
        · rw [if_neg q]
          exact next (fun _ => by have := (hmy (k : Int) (by omega) (by omega)).1.1; omega)
  exact lp (aCs z).length 0 (rcY z (aPl z p) b) M1 (by omega) ⟨by show (0 : Int) ≤ 0; decide, by show (0 : Int) ≤ 0; decide⟩ hli hSt (fun j hj => by omega) hres
theorem s_run {M : gM} {z : aS} {p : Int} (hz : uSt M z) (hG : kGd (aCs z)) (hR : ∀ h : Int, 0 ≤ h → h < 4 → rGd ((aCs z).length : Int) (aRs z h) ∧ (aRs z h).length ≤ 8) (hI : ∀ p : Int, 0 ≤ p → p < 4 → plInv (aCs z) (aPl z p)) : ∃ M1, F_run M p = some ((aRun z p).1, M1) ∧ uSt M1 (aRun z p).2 := by
  unfold aRun
  rw [eq_run, gI_bb (s_isPlan p)]
  by_cases q1 : 0 ≤ p ∧ p ≤ 3
  · have hp4 := hz.2.2.2.1 p q1.1 (by omega)
    rw [decide_eq_true q1, if_neg bIt, if_pos q1, gI_bb (s_isToldPlan hp4 q1)]
    unfold aCarry
    by_cases q0 : (aPl z p).2.1 0 = 0
    · rw [if_pos q0, if_pos q0]; exact ⟨M, rfl, hz⟩
    · have h1 : (aPl z p).2.1 0 = 1 := by rcases hp4.2.1 with w | w; exact absurd w q0; exact w
      rw [if_neg q0, if_neg q0]
      obtain ⟨M1, e1, r1, f1⟩ := s_remembers (M := M) q1
      rw [gI_bb e1]
      obtain ⟨M9, e9, u9⟩ := s_runs (M := M1) (b := false) hz hG hR (hI p q1.1 (by omega)) q1 h1 (gFr_t (gFr_r _ _ _) f1 (by decide) (by decide)) (fun q _ => by rw [f1.1 730 (by decide) (by decide)]) (uPq_of (hp4.2.2 h1) (f1.1 729 (by decide) (by decide)) (f1.1 730 (by decide) (by decide)) (f1.1 731 (by decide) (by decide))) r1
      rw [gI_bb e9]
      exact ⟨M9, rfl, u9⟩
  · rw [decide_eq_false q1, if_pos bIf, if_neg q1]; exact ⟨M, rfl, hz⟩
theorem s_again {M : gM} {z : aS} {p : Int} (hz : uSt M z) (hG : kGd (aCs z)) (hR : ∀ h : Int, 0 ≤ h → h < 4 → rGd ((aCs z).length : Int) (aRs z h) ∧ (aRs z h).length ≤ 8) (hI : ∀ p : Int, 0 ≤ p → p < 4 → plInv (aCs z) (aPl z p)) : ∃ M1, F_again M p = some ((aAgain z p).1, M1) ∧ uSt M1 (aAgain z p).2 := by
  unfold aAgain
  rw [eq_again, gI_bb (s_isPlan p)]
  by_cases q1 : 0 ≤ p ∧ p ≤ 3
  · have hp4 := hz.2.2.2.1 p q1.1 (by omega)
    rw [decide_eq_true q1, if_neg bIt, if_pos q1, gI_bb (s_isToldPlan hp4 q1)]
    by_cases q0 : (aPl z p).2.1 0 = 0
    · have hca : aCarry z p true = (-2, z) := by unfold aCarry; rw [if_pos q0]
      rw [if_pos q0, hca, if_pos (show ((-2 : Int), z).1 < 0 by show (-2 : Int) < 0; decide)]; exact ⟨M, rfl, hz⟩
    · have h1 : (aPl z p).2.1 0 = 1 := by rcases hp4.2.1 with w | w; exact absurd w q0; exact w
      have hca : aCarry z p true = rcV z p (aLoop (kEld (aCs z) (aPl z p)) (eMark (aCs z) (aPl z p) (aRs z ((aPl z p).2.1 2))) (aPl z p) (aCs z).length 0 (rcY z (aPl z p) true)) := by unfold aCarry; rw [if_neg q0]
      rw [if_neg q0, hca]
      obtain ⟨M1, e1, r1, f1⟩ := s_remembers (M := M) q1
      obtain ⟨M2, e2, g1, g2, g3⟩ := s_forgets (M := M1) q1
      have f2 : gFr [730] [] M1 M2 := fr_forgets e2
      rw [gI_bb e1, gI_bb e2]
      have hP2 : uPq M2 p ((aPl z p).1, (aPl z p).2.1, (rcY z (aPl z p) true).2.2.1, (rcY z (aPl z p) true).2.2.2) := by
        have hPq := hp4.2.2 h1
        obtain ⟨x1, x2, x3, x4⟩ := hPq
        have e9 : M2 729 = M 729 := by rw [g3 729 (by decide), f1.1 729 (by decide) (by decide)]
        unfold uPq uPt
        rw [e9]
        exact ⟨x1, x2, x3, fun k k0 k1 => ⟨g1 k k0 k1, fun w => absurd (show (0 : Int) ≤ -1 from w) (by decide)⟩⟩
      obtain ⟨M9, e9, u9⟩ := s_runs (M := M2) (b := true) hz hG hR (hI p q1.1 (by omega)) q1 h1 (gFr_t (gFr_t (gFr_r _ _ _) f1 (by decide) (by decide)) f2 (by decide) (by decide)) (fun q hq => by rw [g2 q hq, f1.1 730 (by decide) (by decide)]) hP2 (fun k k0 k1 => by rw [g3 739 (by decide), g3 740 (by decide)]; exact r1 k k0 k1)
      rw [gI_bb e9]
      generalize rcV z p (aLoop (kEld (aCs z) (aPl z p)) (eMark (aCs z) (aPl z p) (aRs z ((aPl z p).2.1 2))) (aPl z p) (aCs z).length 0 (rcY z (aPl z p) true)) = V at u9 ⊢
      have n0 := hz.1.1
      have n9 := u9.1.1
      have m0 := hz.1.2.1
      have m9 := u9.1.2.1
      show ∃ M1, (if V.1 < 0 then some (V.1, M9) else some (gw32 (M9 711 0 - M 711 0), M9)) = some (_, M1) ∧ _
      by_cases q : V.1 < 0
      · rw [if_pos q, if_pos q]; exact ⟨M9, rfl, u9⟩
      · rw [if_neg q, if_neg q, n9, n0, gw32_id (by omega) (by omega)]; exact ⟨M9, rfl, u9⟩
  · rw [decide_eq_false q1, if_pos bIf, if_neg q1]; exact ⟨M, rfl, hz⟩
