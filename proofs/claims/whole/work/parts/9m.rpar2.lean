-- ==== the reference: PARENTS' are thinned
theorem s_closesUp {M : gM} {cs : List kC} {el : Nat → Nat → Bool} {m : Int} {ps ca : List Int} (h : uKp M ps) (hcl : ca.length = ps.length) (hg : ∀ (j : Nat) (p c : Int), ps[j]? = some p → ca[j]? = some c → M 735 (j : Int) = bI (decide (0 < m) && rNd cs el p.toNat c.toNat (decide (m = 1)) ps ca)) : ∃ M1, F_closesUp M = some M1 ∧ uKp M1 (thG cs el m ps ca ps ca) := by
  have h3 := h.2.1
  have lp : ∀ (p2 c2 p1 c1 kept : List Int) (M1 : gM), ps = p1 ++ p2 → ca = c1 ++ c2 → c1.length = p1.length → kept.length ≤ p1.length → M1 711 37 = (ps.length : Int) → rw_ (M1 733) 0 kept → (∀ q : Int, (p1.length : Int) ≤ q → M1 733 q = M 733 q) → M1 735 = M 735 → kept ++ thG cs el m ps ca p2 c2 = thG cs el m ps ca ps ca → ∃ M2, F_closesUp_4 M1 (kept.length : Int) (p1.length : Int) = some M2 ∧ uKp M2 (thG cs el m ps ca ps ca) := by
    intro p2
    induction p2 with
    | nil =>
      intro c2 p1 c1 kept M1 e1 e2 e3 hk h37 hr ho h5 ek
      rw [List.append_nil] at e1
      have ek' : kept = thG cs el m ps ca ps ca := by rw [← ek]; cases c2 <;> exact (List.append_nil _).symm
      rw [eq_closesUp_4, h37, e1, if_neg (by omega), ← e1, ← ek']
      exact ⟨_, rfl, gU_same _ _ _ _, by rw [e1] at h3; omega, by rw [gU_cell _ _ _ (by decide)]; exact hr⟩
    | cons x r ih =>
      intro c2 p1 c1 kept M1 e1 e2 e3 hk h37 hr ho h5 ek
      have hl := len_mid e1
      cases c2 with
      | nil =>
        rw [List.append_nil] at e2
        rw [e2] at hcl; omega
      | cons y q =>
        have ex : M1 733 (p1.length : Int) = x := by rw [ho _ (Int.le_refl _)]; exact uKp_at h e1
        have g0 := hg p1.length x y (by rw [e1, List.getElem?_append_right (Nat.le_refl _), Nat.sub_self]; rfl) (by rw [e2, ← e3, List.getElem?_append_right (Nat.le_refl _), Nat.sub_self]; rfl)
        have nx : gw32 ((p1.length : Int) + 1) = ((p1 ++ [x]).length : Int) := by rw [gw32_id (by omega) (by omega), List.length_append, List.length_singleton]; omega
        rw [eq_closesUp_4, h37, if_pos (by omega), if_pos (by omega), h5, g0, nx]
        rw [thG_cons] at ek
        cases hb : decide (0 < m) && rNd cs el x.toNat y.toNat (decide (m = 1)) ps ca with
        | true =>
          rw [hb, if_pos rfl] at ek
          rw [if_neg bIt]
          exact ih q (p1 ++ [x]) (c1 ++ [y]) kept M1 (app_mid e1) (app_mid e2) (by rw [List.length_append, List.length_append, e3]; rfl) (by rw [List.length_append]; omega) h37 hr (fun z hz => ho z (by rw [List.length_append, List.length_singleton] at hz; omega)) h5 ek
        | false =>
          rw [hb, if_neg (by decide)] at ek
          rw [if_pos bIf, if_pos (by omega), ex, gw32_id (by omega) (by omega), show (kept.length : Int) + 1 = ((kept ++ [x]).length : Int) by rw [List.length_append, List.length_singleton]; omega]
          refine ih q (p1 ++ [x]) (c1 ++ [y]) (kept ++ [x]) _ (app_mid e1) (app_mid e2) (by rw [List.length_append, List.length_append, e3]; rfl) (by rw [List.length_append, List.length_append, List.length_singleton]; omega) (by rw [gU_cell _ _ _ (by decide)]; exact h37) (rw_snoc (rw_congr hr (fun z z0 z1 => gU_idx (by omega))) (by rw [Int.zero_add, gU_same])) (fun z hz => ?_) (by rw [gU_cell _ _ _ (by decide)]; exact h5) (by rw [List.append_assoc]; exact ek)
          rw [List.length_append, List.length_singleton] at hz
          rw [gU_idx (by omega)]; exact ho z (by omega)
  rw [eq_closesUp]
  exact lp ps ca [] [] [] M rfl rfl rfl (Nat.le_refl _) h.1 rw_nil (fun _ _ => rfl) rfl rfl
theorem s_cp115 {M : gM} {cs : List kC} {acc : List gF} {ps : List Int} {p k : Int} (hC : uC M cs) (hT : uT M 121 acc) (h : uKp M ps) (hps : ∀ x ∈ ps, 0 ≤ x ∧ x < (cs.length : Int)) : ∃ M1, F_carriesParents_115 M p k 0 = some M1 ∧ uKp M1 (match thX cs acc ps with
    | some p => [p]
    | none => ps) := by
  have h3 := h.2.1
  have lp : ∀ (r w : List Int), ps = w ++ r → thX cs acc r = thX cs acc ps → ∃ M1, F_carriesParents_115 M p k (w.length : Int) = some M1 ∧ uKp M1 (match thX cs acc ps with
    | some p => [p]
    | none => ps) := by
    intro r
    induction r with
    | nil =>
      intro w e ex
      rw [List.append_nil] at e
      rw [eq_carriesParents_115, h.1, e, if_neg (by omega), eq_carriesParents_145, h.1, e, if_neg (by omega), ← e, ← ex]
      exact ⟨M, rfl, h⟩
    | cons x r ih =>
      intro w e ex
      have hl := len_mid e
      have hx := hps x (by rw [e]; simp)
      obtain ⟨n, hn⟩ : ∃ n : Nat, x = (n : Int) := ⟨x.toNat, by omega⟩
      subst hn
      have hnc : cs[n]? = some cs[n] := List.getElem?_eq_getElem (by omega)
      have hTn := (hC.2.2 n _ hnc).2.2.2.2.2.2
      have un : thX cs acc ((n : Int) :: r) = if kFs cs[n] = acc then some (n : Int) else thX cs acc r := by
        rw [thX, Int.toNat_natCast, hnc]
      have ea := uKp_at h e
      rw [un] at ex
      rw [eq_carriesParents_115, h.1, if_pos (by omega), if_pos (by omega), ea, gI_bb (s_areLike hTn hT)]
      by_cases q : kFs cs[n] = acc
      · rw [if_pos q] at ex
        rw [decide_eq_true q, if_neg bIt, eq_carriesParents_145, h.1, if_pos (by omega), if_pos (by omega), ← ex, ea]
        exact ⟨_, rfl, gU_same _ _ _ _, (show 1 ≤ 3 by decide), rw_mk (by rw [gU_cell _ _ _ (by decide), gU_same]) rw_nil⟩
      · rw [if_neg q] at ex
        rw [decide_eq_false q, if_pos bIf, gw32_id (by omega) (by omega)]
        have := ih (w ++ [(n : Int)]) (app_mid e) ex
        rw [List.length_append, List.length_singleton] at this
        rw [show (w.length : Int) + 1 = ((w.length + 1 : Nat) : Int) by omega]
        exact this
  exact lp ps [] rfl rfl
theorem rNd_app {cs : List kC} {el : Nat → Nat → Bool} {pi ci : Nat} {u : Bool} {x y : Int} {p2 c2 : List Int} : rNd cs el pi ci u (x :: p2) (y :: c2) = ((kAnc cs x.toNat pi && !(u && el y.toNat ci)) || rNd cs el pi ci u p2 c2) := by
  rw [rNd]
  cases (kAnc cs x.toNat pi && !(u && el y.toNat ci)) with
  | true => rfl
  | false => rfl
theorem s_carriesParents {M : gM} {cs : List kC} {p : Int} {pl : kP} {k : Nat} {c d0 : kC} {im : Int → Int} {acc : List gF} (hC : uC M cs) (hO : kOk cs) (hP : uPq M p pl) (hp : 0 ≤ p ∧ p ≤ 3) (hg : plGr pl) (hF : kForeOk cs pl) (hk : cs[k]? = some c) (hI : ∀ e ∈ kForeL c pl (k : Int), M 731 (120 * p + e) = im e ∧ -1 ≤ im e) (him : ∀ e ∈ kForeL c pl (k : Int), im e < (cs.length : Int)) (h0 : kPs d0 = []) (hT : uT M 121 acc) (h11 : 0 ≤ pl.2.1 12 ∧ pl.2.1 12 ≤ 3) :
    ∃ M1, F_carriesParents M p (k : Int) = some M1 ∧ uKp M1 (thAll cs (kEld cs pl) (pl.2.1 12) acc (kPs (rGa im (kForeL c pl (k : Int)) d0 []).1) (rGa im (kForeL c pl (k : Int)) d0 []).2) := by
  obtain ⟨M1, e1, hK1⟩ := s_carriesAll hC hO hP hp hg hF hk hI h0
  have f1 : gFr [733, 734] [37] M M1 := fr_carriesAll e1
  have hgi := rGa_is im (kForeL c pl (k : Int)) d0 []
  have hps : ∀ x ∈ kPs (rGa im (kForeL c pl (k : Int)) d0 []).1, 0 ≤ x ∧ x < (cs.length : Int) := fun x hx => by
    rcases hgi.2.1 x hx with w | ⟨e, he, z1, z2⟩
    · rw [h0] at w; cases w
    · have := him e he; omega
  have hcs : ∀ x ∈ (rGa im (kForeL c pl (k : Int)) d0 []).2, 0 ≤ x ∧ x < (cs.length : Int) := fun x hx => by
    rcases hgi.2.2.1 x hx with w | w
    · cases w
    · have := hF k c hk x w
      have := (uC_len hC hk).1
      omega
  generalize kPs (rGa im (kForeL c pl (k : Int)) d0 []).1 = ps at hK1 hps ⊢
  generalize (rGa im (kForeL c pl (k : Int)) d0 []).2 = ca at hK1 hcs ⊢
  have o1 : ∀ b : Int, b ≠ 711 → b ≠ 733 → b ≠ 734 → M1 b = M b := fun b b0 b1 b2 => f1.1 b (by simp; omega) b0
  have hm : ∀ M2 : gM, M2 729 = M 729 → M2 729 (68 * p + 11) = pl.2.1 12 := fun M2 h => by rw [h]; exact hP.1.2.2.2.2.1
  generalize hmm : pl.2.1 12 = m at *
  have h3 := hK1.1.2.1
  rw [eq_carriesParents, gI_bb e1, gI_bb (s_ofPlan hp (by decide)), hm M1 (o1 729 (by decide) (by decide) (by decide))]
  by_cases q0 : m = 0
  · rw [if_pos q0]
    have hall : ∀ (p2 c2 : List Int), c2.length = p2.length → thG cs (kEld cs pl) m ps ca p2 c2 = p2 := by
      intro p2
      induction p2 with
      | nil => intro c2 _; cases c2 <;> rfl
      | cons x r ih =>
        intro c2 hc
        cases c2 with
        | nil => cases hc
        | cons y q =>
          rw [thG_cons, decide_eq_false (show ¬ 0 < m by omega), Bool.false_and, if_neg (by decide), ih q (Nat.succ.inj hc)]
    have : thAll cs (kEld cs pl) m acc ps ca = ps := by
      unfold thAll
      rw [if_neg (fun w => by omega)]
      exact hall ps ca hK1.2.1
    rw [this]
    exact ⟨M1, rfl, hK1.1⟩
  rw [if_neg q0]
  -- what follows the flags
  have fin : ∀ M2 : gM, gFr [723, 732, 733, 734, 735] [37] M M2 → uK M2 ps ca → (∀ (j : Nat) (x y : Int), ps[j]? = some x → ca[j]? = some y → M2 735 (j : Int) = bI (decide (0 < m) && rNd cs (kEld cs pl) x.toNat y.toNat (decide (m = 1)) ps ca)) → ∃ M3, (Option.bind (F_closesUp M2) (fun m90 =>
      (Option.bind (F_ofPlan m90 p 11) (fun r97 =>
        (if r97 < 3 then
          some m90
        else
          (if (m90 711 37) < 2 then
            some m90
          else
            F_carriesParents_115 m90 p (k : Int) 0)))))) = some M3 ∧ uKp M3 (thAll cs (kEld cs pl) m acc ps ca) := fun M2 f2 hK2 hfl => by
    obtain ⟨M3, e3, hK3⟩ := s_closesUp (cs := cs) (el := kEld cs pl) (m := m) hK2.1 hK2.2.1 hfl
    have f3 : gFr [723, 732, 733, 734, 735] [37] M M3 := gFr_t f2 (fr_closesUp e3) (by decide) (by decide)
    rw [gI_bb e3, gI_bb (s_ofPlan hp (by decide)), hm M3 (f3.1 729 (by decide) (by decide))]
    unfold thAll
    have hl3 := hK3.1
    by_cases q3 : m < 3
    · rw [if_pos q3, if_neg (fun w => by omega)]; exact ⟨M3, rfl, hK3⟩
    · rw [if_neg q3, hl3]
      by_cases q2 : ((thG cs (kEld cs pl) m ps ca ps ca).length : Int) < 2
      · rw [if_pos q2, if_neg (fun w => by omega)]; exact ⟨M3, rfl, hK3⟩
      · rw [if_neg q2, if_pos (show m = 3 ∧ 2 ≤ (thG cs (kEld cs pl) m ps ca ps ca).length by omega)]
        refine s_cp115 (uC_fr hC f3 (by simp; omega) (by decide)) ?_ hK3 (fun x hx => hps x (thG_mem x hx))
        exact uT_of hT (by rw [f3.1 718 (by decide) (by decide)]) (fun q _ _ => by unfold uG; rw [f3.1 719 (by decide) (by decide), f3.1 720 (by decide) (by decide)])
  have lp19 : ∀ (p2 c2 p1 c1 : List Int) (M2 : gM), ps = p1 ++ p2 → ca = c1 ++ c2 → c1.length = p1.length → gFr [723, 732, 733, 734, 735] [37] M M2 → uK M2 ps ca → (∀ (j : Nat) (x y : Int), j < p1.length → ps[j]? = some x → ca[j]? = some y → M2 735 (j : Int) = bI (decide (0 < m) && rNd cs (kEld cs pl) x.toNat y.toNat (decide (m = 1)) ps ca)) → ∃ M3, F_carriesParents_19 M2 p (k : Int) (p1.length : Int) = some M3 ∧ uKp M3 (thAll cs (kEld cs pl) m acc ps ca) := by
    intro p2
    induction p2 with
    | nil =>
      intro c2 p1 c1 M2 ep ec el f2 hK2 hfl
      rw [List.append_nil] at ep
      rw [eq_carriesParents_19, hK2.1.1, if_neg (by rw [ep]; omega)]
      exact fin M2 f2 hK2 (fun j x y hj hj2 => hfl j x y (by have := (List.getElem?_eq_some_iff.mp hj).1; rw [ep] at this; exact this) hj hj2)
    | cons x r ih =>
      intro c2 p1 c1 M2 ep ec el f2 hK2 hfl
      have hl := len_mid ep
      cases c2 with
      | nil =>
        rw [List.append_nil] at ec
        have := hK2.2.1
        rw [ec] at this; omega
      | cons y q =>
        have hx := hps x (by rw [ep]; simp)
        have hy := hcs y (by rw [ec]; simp)
        obtain ⟨n, hn⟩ : ∃ n : Nat, x = (n : Int) := ⟨x.toNat, by omega⟩
        obtain ⟨w, hw⟩ : ∃ w : Nat, y = (w : Int) := ⟨y.toNat, by omega⟩
        have nx : gw32 ((p1.length : Int) + 1) = ((p1 ++ [x]).length : Int) := by rw [gw32_id (by omega) (by omega), List.length_append, List.length_singleton]; omega
        have lp37 : ∀ (s2 d2 s1 d1 : List Int) (g : Bool) (M4 : gM), ps = s1 ++ s2 → ca = d1 ++ d2 → d1.length = s1.length → gFr [723, 732, 733, 734, 735] [37] M M4 → uK M4 ps ca → (∀ z : Int, z ≠ (p1.length : Int) → M4 735 z = M2 735 z) → M4 735 (p1.length : Int) = bI g → (g || rNd cs (kEld cs pl) n w (decide (m = 1)) s2 d2) = rNd cs (kEld cs pl) n w (decide (m = 1)) ps ca → ∃ M3, F_carriesParents_37 M4 p (k : Int) (p1.length : Int) (s1.length : Int) = some M3 ∧ uKp M3 (thAll cs (kEld cs pl) m acc ps ca) := by
          intro s2
          induction s2 with
          | nil =>
            intro d2 s1 d1 g M4 es ed esd f4 hK4 ho hg4 eg
            rw [List.append_nil] at es
            have eg' : g = rNd cs (kEld cs pl) n w (decide (m = 1)) ps ca := by rw [← eg]; cases d2 <;> exact (Bool.or_false g).symm
            rw [eq_carriesParents_37, hK4.1.1, if_neg (by rw [es]; omega), nx]
            refine ih q (p1 ++ [x]) (c1 ++ [y]) M4 (app_mid ep) (app_mid ec) (by rw [List.length_append, List.length_append, el]; rfl) f4 hK4 (fun j x' y' hj h1 h2 => ?_)
            rw [List.length_append, List.length_singleton] at hj
            by_cases ej : j = p1.length
            · subst ej
              rw [ep, List.getElem?_append_right (Nat.le_refl _), Nat.sub_self] at h1
              rw [ec, ← el, List.getElem?_append_right (Nat.le_refl _), Nat.sub_self] at h2
              cases h1; cases h2
              rw [hg4, eg', hn, hw, Int.toNat_natCast, Int.toNat_natCast, decide_eq_true (show 0 < m by omega), Bool.true_and]
            · rw [ho _ (by omega)]; exact hfl j x' y' (by omega) h1 h2
          | cons s r2 ih2 =>
            intro d2 s1 d1 g M4 es ed esd f4 hK4 ho hg4 eg
            have hl2 := len_mid es
            cases d2 with
            | nil =>
              rw [List.append_nil] at ed
              have := hK4.2.1
              rw [ed] at this; omega
            | cons t q2 =>
              have hs := hps s (by rw [es]; simp)
              have ht := hcs t (by rw [ed]; simp)
              obtain ⟨a, ha⟩ : ∃ a : Nat, s = (a : Int) := ⟨s.toNat, by omega⟩
              obtain ⟨b, hb⟩ : ∃ b : Nat, t = (b : Int) := ⟨t.toNat, by omega⟩
              have nx2 : gw32 ((s1.length : Int) + 1) = ((s1 ++ [s]).length : Int) := by rw [gw32_id (by omega) (by omega), List.length_append, List.length_singleton]; omega
              rw [rNd_app, ha, hb, Int.toNat_natCast, Int.toNat_natCast] at eg
              have step : ∀ (M5 : gM) (g2 : Bool) (v : Int), v = bI g2 → gFr [723, 732, 733, 734, 735] [37] M M5 → uK M5 ps ca → (∀ z : Int, z ≠ (p1.length : Int) → M5 735 z = M2 735 z) → (g2 || rNd cs (kEld cs pl) n w (decide (m = 1)) r2 q2) = rNd cs (kEld cs pl) n w (decide (m = 1)) ps ca → ∃ M3, F_carriesParents_37 (gU M5 735 (p1.length : Int) v) p (k : Int) (p1.length : Int) (gw32 ((s1.length : Int) + 1)) = some M3 ∧ uKp M3 (thAll cs (kEld cs pl) m acc ps ca) := fun M5 g2 v hv f5 hK5 ho5 e5 => by
                rw [nx2]
                exact ih2 q2 (s1 ++ [s]) (d1 ++ [t]) g2 _ (app_mid es) (app_mid ed) (by rw [List.length_append, List.length_append, esd]; rfl) (gFr_a f5 (by decide) (by decide)) (uK_fr hK5 (by rw [gU_cell _ _ _ (by decide)]) (gU_cell _ _ _ (by decide)) (gU_cell _ _ _ (by decide))) (fun z hz => by rw [gU_idx hz]; exact ho5 z hz) (by rw [gU_same]; exact hv) e5
              rw [eq_carriesParents_37, hK4.1.1, if_pos (by omega), if_pos (by omega), hg4]
              cases hgg : g with
              | true =>
                rw [hgg, Bool.true_or] at eg
                rw [if_neg bIt]
                exact step M4 true 1 rfl f4 hK4 ho (by rw [Bool.true_or]; exact eg)
              | false =>
                rw [hgg, Bool.false_or] at eg
                rw [if_pos bIf]
                have o4 : ∀ b : Int, b ≠ 711 → (b < 723 ∨ (723 < b ∧ b < 732) ∨ 735 < b) → M4 b = M b := fun b b0 b1 => f4.1 b (by simp; omega) b0
                obtain ⟨M5, e5⟩ := s_goesFor (ci := w) (cj := b) (uC_fr hC f4 (by simp; omega) (by decide)) hO (uPq_of hP (o4 729 (by decide) (by decide)) (o4 730 (by decide) (by decide)) (o4 731 (by decide) (by decide))) hp hg hF hK4 hmm (by omega) (by rw [← hn]; exact ep) (by rw [← hw]; exact ec) el (by rw [← ha]; exact es) (by rw [← hb]; exact ed) esd hps hcs
                have g5 : gFr [723, 732] [] M4 M5 := fr_goesFor e5
                have f5 : gFr [723, 732, 733, 734, 735] [37] M M5 := gFr_t f4 g5 (by decide) (fun f hf => by cases hf)
                have hK5 : uK M5 ps ca := uK_fr hK4 (g5.2 37 (by decide)) (g5.1 733 (by decide) (by decide)) (g5.1 734 (by decide) (by decide))
                have ho5 : ∀ z : Int, z ≠ (p1.length : Int) → M5 735 z = M2 735 z := fun z hz => by rw [g5.1 735 (by decide) (by decide)]; exact ho z hz
                rw [gI_bb e5]
                cases hv : (kAnc cs a n && !(decide (m = 1) && kEld cs pl b w)) with
                | true =>
                  rw [hv, Bool.true_or] at eg
                  show ∃ M3, (if bI true = 0 then _ else _) = some M3 ∧ _
                  rw [if_neg bIt]
                  exact step M5 true 1 rfl f5 hK5 ho5 (by rw [Bool.true_or]; exact eg)
                | false =>
                  rw [hv, Bool.false_or] at eg
                  show ∃ M3, (if bI false = 0 then _ else _) = some M3 ∧ _
                  rw [if_pos bIf]
                  exact step M5 false 0 rfl f5 hK5 ho5 (by rw [Bool.false_or]; exact eg)
        rw [eq_carriesParents_19, hK2.1.1, if_pos (by omega), if_pos (by omega)]
        exact lp37 ps ca [] [] false (gU M2 735 (p1.length : Int) 0) rfl rfl rfl (gFr_a f2 (by decide) (by decide)) (uK_fr hK2 (by rw [gU_cell _ _ _ (by decide)]) (gU_cell _ _ _ (by decide)) (gU_cell _ _ _ (by decide))) (fun z hz => gU_idx hz) (gU_same _ _ _ _) (Bool.false_or _)
  exact lp19 ps ca [] [] M1 rfl rfl rfl (gFr_t (gFr_r _ _ M) f1 (by decide) (by decide)) hK1 (fun j x y hj => by simp at hj)
