-- ==== the reference: commit
def uBy (M : gM) (s : List Int) : Prop := M 711 18 = (s.length : Int) ∧ s.length ≤ 260 ∧ ∀ (j : Nat) (c : Int), s[j]? = some c → 0 ≤ c ∧ c < 256 ∧ M 726 (j : Int) = sb c
theorem s_readsParents {M : gM} {cs : List kC} {s : List Int} (h : uP M cs [] 0 s) : ∃ r M1, F_readsParents M = some (r, M1) ∧ uPO M1 cs r (pT1 cs s) := by
  rw [eq_readsParents, gI_bb (s_here h.2.2), pT1]
  by_cases h58 : hd s = 58
  · rw [if_pos h58, if_pos h58]
    exact ⟨1, M, rfl, fun _ => ⟨rfl, h⟩, fun w => absurd rfl w⟩
  · rw [if_neg h58, if_neg h58]
    exact s_readsParentsLoop 3 M pT0 0 s h rfl
theorem s_readsEdits {M : gM} {cs : List kC} {d : kC} {p : Int} {s : List Int} (h : uP M cs (kPs d) p s) (hO : kOk cs) (hO2 : ∀ c ∈ cs, tGd (kFs c)) (hps : ∀ x ∈ kPs d, 0 ≤ x ∧ x < (cs.length : Int)) (hl : s.length < 160) :
    ∃ r M1 y, F_readsEdits M = some (r, M1) ∧ y = (if s ≠ [] ∧ hd s ≠ 58 then pEdits cs 160 s p (dFs d (kFF cs d)) else (0, p, s, dFs d (kFF cs d))) ∧ uEO M1 cs r y ∧ (y.1 = 0 → tGd (kFs y.2.2.2) ∧ (kFs y.2.2.2).length ≤ 16) := by
  have hl9 := h.1.2.1
  have go : ∀ M1 : gM, uE M1 cs (kPs d) (kFF cs d) p s → tGd (kFF cs d) → (kFF cs d).length ≤ 16 → ∃ r M2 y, F_readsEdits_27 M1 = some (r, M2) ∧ y = (if s ≠ [] ∧ hd s ≠ 58 then pEdits cs 160 s p (dFs d (kFF cs d)) else (0, p, s, dFs d (kFF cs d))) ∧ uEO M2 cs r y ∧ (y.1 = 0 → tGd (kFs y.2.2.2) ∧ (kFs y.2.2.2).length ≤ 16) := by
    intro M1 hE hG h16
    rw [eq_readsEdits_27, gI_bb (s_here hE.2.2.2)]
    by_cases h58 : hd s = 58
    · rw [if_pos h58]
      exact ⟨1, M1, _, rfl, rfl, by rw [if_neg (fun w => w.2 h58)]; exact ⟨fun _ => ⟨rfl, hE⟩, fun w => absurd rfl w⟩, by rw [if_neg (fun w => w.2 h58)]; exact fun _ => ⟨hG, h16⟩⟩
    · rw [if_neg h58, gI_bb (s_here hE.2.2.2)]
      by_cases hn : s = []
      · rw [if_pos (by rw [hn]; rfl)]
        exact ⟨1, M1, _, rfl, rfl, by rw [if_neg (fun w => w.1 hn)]; exact ⟨fun _ => ⟨rfl, hE⟩, fun w => absurd rfl w⟩, by rw [if_neg (fun w => w.1 hn)]; exact fun _ => ⟨hG, h16⟩⟩
      · have hne : hd s ≠ -1 := by
          cases hs : s with
          | nil => exact absurd hs hn
          | cons x r =>
            have hR := hE.2.2.2
            rw [hs] at hR
            have := uR_c hR
            show x ≠ -1
            omega
        rw [if_neg hne]
        obtain ⟨r, M2, e1, o1, o2⟩ := s_readsEditsLoop hO hO2 160 M1 (dFs d (kFF cs d)) p s hl hE hps hG h16
        exact ⟨r, M2, _, e1, rfl, by rw [if_pos ⟨hn, h58⟩]; exact o1, by rw [if_pos ⟨hn, h58⟩]; exact o2⟩
  have e12 : gU M 718 120 0 711 12 = ((kPs d).length : Int) := by rw [gU_cel (by decide)]; exact h.2.1.1
  have hT0 : uT (gU M 718 120 0) 120 [] := ⟨by decide, gU_same _ _ _ _, by decide, rw_nil⟩
  have hfr0 : gFr [718, 719, 720] [] M (gU M 718 120 0) := gFr_a (gFr_r _ _ _) (.head _) (by decide)
  have hE0 : uE (gU M 718 120 0) cs (kPs d) [] p s := by
    refine ⟨uC_post h.1 (by decide) ⟨hT0, fun u hu => gU_idx hu, fun q _ => uG_0⟩ hfr0, ⟨by rw [e12], h.2.1.2.1, by rw [gU_cell _ _ _ (by decide)]; exact h.2.1.2.2⟩, hT0, uR_of h.2.2 (gU_cel (by decide)) (gU_cel (by decide)) (gU_cell _ _ _ (by decide))⟩
  rw [eq_readsEdits, e12]
  cases hp : kPs d with
  | nil =>
    have hff : kFF cs d = [] := by unfold kFF; rw [hp]
    rw [if_neg (by simp)]
    have := go _ (by rw [hff]; exact hE0) (by rw [hff]; exact tGd_nil) (by rw [hff]; decide)
    exact this
  | cons x r =>
    rw [if_pos (by simp)]
    have hx := hps x (by rw [hp]; simp)
    obtain ⟨c, hc⟩ : ∃ c, cs[x.toNat]? = some c := ⟨_, List.getElem?_eq_getElem (by omega)⟩
    have hff : kFF cs d = kFs c := by unfold kFF; rw [hp]; simp only [hc]
    have e0 : gU M 718 120 0 721 0 = x := by
      rw [gU_cel (by decide)]
      have := h.2.1.2.2
      rw [hp] at this
      exact (rw_cons this).1
    have hTx : uT (gU M 718 120 0) x (kFs c) := by
      have := (hE0.1.2.2 _ c hc).2.2.2.2.2.2
      rwa [show ((x.toNat : Nat) : Int) = x by omega] at this
    have h16 := (hO _ c hc).1.2.2.2.2.2.2
    obtain ⟨M1, e1, hP1⟩ := s_copyTree (b := 120) hTx (by decide) (by omega) (by show _ ≤ (32 : Int); omega)
    have f1 := fr_copyTree e1
    rw [e0, gI_bb e1]
    exact go M1 (by rw [hff]; exact uE_post hE0 hP1 f1) (by rw [hff]; exact hO2 c (List.mem_of_getElem? hc)) (by rw [hff]; exact h16)
-- ---- the MESSAGE
theorem s_readsSaidLoop : ∀ (k : Nat) (M : gM) (d : kC) (p : Int) (s : List Int), uR M p s → M 711 13 = ((kMs d).length : Int) → rw_ (M 722) 0 (kMs d) → (kMs d).length + k = 12 → (∀ b ∈ kMs d, 0 ≤ b ∧ b < 128) →
    ∃ r M1, F_readsSaid_21 M = some (r, M1) ∧ ((pMsgGo k s p d).1 = 0 → r = 1 ∧ M1 711 13 = ((kMs (pMsgGo k s p d).2.2.2).length : Int) ∧ rw_ (M1 722) 0 (kMs (pMsgGo k s p d).2.2.2) ∧ (kMs (pMsgGo k s p d).2.2.2).length ≤ 12 ∧ ∀ b ∈ kMs (pMsgGo k s p d).2.2.2, 0 ≤ b ∧ b < 128) ∧ ((pMsgGo k s p d).1 ≠ 0 → r = 0 ∧ M1 711 21 = (pMsgGo k s p d).1) := by
  intro k
  induction k with
  | zero =>
    intro M d p s hR h1 h2 h3 hb
    have hl := uR_len hR
    rw [eq_readsSaid_21, gI_bb (s_here hR)]
    cases s with
    | nil => rw [if_pos (show hd [] = -1 from rfl)]; exact ⟨1, M, rfl, fun _ => ⟨rfl, h1, h2, by show (kMs d).length ≤ 12; omega, hb⟩, fun w => absurd rfl w⟩
    | cons c r =>
      have hc := uR_c hR
      simp only [List.length_cons] at hl
      rw [if_neg (show hd (c :: r) ≠ -1 by show c ≠ -1; omega), if_pos (by omega), hR.1, gI_bb (s_wrongAt (by decide) (by omega)), pMsgGo]
      have hne : (-2000 - p : Int) ≠ 0 := by omega
      exact ⟨0, _, rfl, fun w => absurd w hne, fun _ => ⟨rfl, by show gU M 711 21 (-1000 * 2 - p) 711 21 = -2000 - p; rw [gU_same]; omega⟩⟩
  | succ k ih =>
    intro M d p s hR h1 h2 h3 hb
    have hl := uR_len hR
    rw [eq_readsSaid_21, gI_bb (s_here hR)]
    cases s with
    | nil => rw [if_pos (show hd [] = -1 from rfl)]; exact ⟨1, M, rfl, fun _ => ⟨rfl, h1, h2, by show (kMs d).length ≤ 12; omega, hb⟩, fun w => absurd rfl w⟩
    | cons c r =>
      have hc := uR_c hR
      simp only [List.length_cons] at hl
      rw [if_neg (show hd (c :: r) ≠ -1 by show c ≠ -1; omega), if_neg (by omega), gI_bb (s_here hR), show hd (c :: r) = c from rfl, gI_bb s_isSmall, pMsgGo]
      have add : ((48 ≤ c ∧ c ≤ 57) ∨ (97 ≤ c ∧ c ≤ 122) ∨ c = 35) → ∃ r1 M1, F_readsSaid_87 M = some (r1, M1) ∧ ((pMsgGo k r (p + 1) (dAddM d c)).1 = 0 → r1 = 1 ∧ M1 711 13 = ((kMs (pMsgGo k r (p + 1) (dAddM d c)).2.2.2).length : Int) ∧ rw_ (M1 722) 0 (kMs (pMsgGo k r (p + 1) (dAddM d c)).2.2.2) ∧ (kMs (pMsgGo k r (p + 1) (dAddM d c)).2.2.2).length ≤ 12 ∧ ∀ b ∈ kMs (pMsgGo k r (p + 1) (dAddM d c)).2.2.2, 0 ≤ b ∧ b < 128) ∧ ((pMsgGo k r (p + 1) (dAddM d c)).1 ≠ 0 → r1 = 0 ∧ M1 711 21 = (pMsgGo k r (p + 1) (dAddM d c)).1) := by
        intro hcc
        have hd2 : kMs (dAddM d c) = kMs d ++ [c] := by unfold dAddM; rw [if_pos (by omega)]; rfl
        rw [eq_readsSaid_87, gI_bb (s_here hR), show hd (c :: r) = c from rfl, h1, if_pos (by omega)]
        rw [gU_cel (by decide), h1, gw32_id (by omega) (by omega), gU_idx (by decide), gU_cel (by decide), hR.1, gw32_id (by omega) (by omega)]
        refine ih _ (dAddM d c) (p + 1) r (uR_tl hR rfl (gU_same _ _ _ _) (by rw [gU_idx (by decide), gU_idx (by decide), gU_cel (by decide)]) (by rw [gU_cell _ _ _ (by decide), gU_cell _ _ _ (by decide), gU_cell _ _ _ (by decide)])) ?_ ?_ (by rw [hd2]; simp; omega) ?_
        · rw [gU_idx (by decide), gU_same, hd2]; simp
        · rw [hd2, gU_cell _ _ _ (by decide), gU_cell _ _ _ (by decide)]
          exact rw_snoc (rw_congr h2 (fun q q0 q1 => gU_idx (by omega))) (by rw [Int.zero_add, gU_same])
        · rw [hd2]
          intro b hb2
          rcases List.mem_append.mp hb2 with z | z
          · exact hb b z
          · rw [List.mem_singleton.mp z]; omega
      by_cases hsm : 97 ≤ c ∧ c ≤ 122
      · rw [decide_eq_true hsm, if_neg (by decide), if_pos (Or.inr (Or.inl hsm))]
        exact add (Or.inr (Or.inl hsm))
      · rw [decide_eq_false hsm, if_pos (by decide), gI_bb (s_here hR), show hd (c :: r) = c from rfl, gI_bb s_isDigit]
        by_cases hdg : 48 ≤ c ∧ c ≤ 57
        · rw [decide_eq_true hdg, if_neg (by decide), if_pos (Or.inl hdg)]
          exact add (Or.inl hdg)
        · rw [decide_eq_false hdg, if_pos (by decide), gI_bb (s_here hR), show hd (c :: r) = c from rfl]
          by_cases h35 : c = 35
          · rw [if_pos h35, if_pos (Or.inr (Or.inr h35))]
            exact add (Or.inr (Or.inr h35))
          · rw [if_neg h35, if_neg (by omega), hR.1, gI_bb (s_wrongAt (by decide) (by omega))]
            have hne : (-1000 - p : Int) ≠ 0 := by omega
            exact ⟨0, _, rfl, fun w => absurd w hne, fun _ => ⟨rfl, by show gU M 711 21 (-1000 * 1 - p) 711 21 = -1000 - p; rw [gU_same]; omega⟩⟩
theorem s_readsSaid {M : gM} {d : kC} {p : Int} {s : List Int} (hR : uR M p s) (h1 : M 711 13 = 0) (hd0 : kMs d = []) : ∃ r M1, F_readsSaid M = some (r, M1) ∧ ((pT3 (0, p, s, d)).1 = 0 → r = 1 ∧ M1 711 13 = ((kMs (pT3 (0, p, s, d)).2.2.2).length : Int) ∧ rw_ (M1 722) 0 (kMs (pT3 (0, p, s, d)).2.2.2) ∧ (kMs (pT3 (0, p, s, d)).2.2.2).length ≤ 12 ∧ ∀ b ∈ kMs (pT3 (0, p, s, d)).2.2.2, 0 ≤ b ∧ b < 128) ∧ ((pT3 (0, p, s, d)).1 ≠ 0 → r = 0 ∧ M1 711 21 = (pT3 (0, p, s, d)).1) := by
  have hl := uR_len hR
  rw [eq_readsSaid, gI_bb (s_here hR)]
  cases s with
  | nil =>
    rw [if_pos (show hd [] = -1 from rfl)]
    have e3 : pT3 (0, p, [], d) = (0, p, [], d) := by unfold pT3; rw [if_neg (fun w => w.2 rfl)]
    rw [e3]
    exact ⟨1, M, rfl, fun _ => ⟨rfl, by show M 711 13 = ((kMs d).length : Int); rw [hd0]; exact h1, by show rw_ (M 722) 0 (kMs d); rw [hd0]; exact rw_nil, by show (kMs d).length ≤ 12; rw [hd0]; decide, by show ∀ b ∈ kMs d, _; rw [hd0]; intro b hb; cases hb⟩, fun w => absurd rfl w⟩
  | cons c r =>
    have hc := uR_c hR
    simp only [List.length_cons] at hl
    rw [if_neg (show hd (c :: r) ≠ -1 by show c ≠ -1; omega)]
    obtain ⟨r1, M1, e1, o1, o2⟩ := s_takesSign (c := 58) hR (by decide)
    have f1 := fr_takesSign e1
    rw [gI_bb e1]
    have e3 : pT3 (0, p, c :: r, d) = if hd (c :: r) = 58 then pMsgGo 12 r (p + 1) d else (-1000 - p, p, c :: r, d) := by
      unfold pT3
      rw [if_pos (show (0 : Int) = 0 ∧ (c :: r) ≠ [] from ⟨rfl, by simp⟩)]; rfl
    rw [e3]
    by_cases h58 : hd (c :: r) = 58
    · obtain ⟨rfl, hR1, eM⟩ := o1 h58
      rw [if_pos h58]
      rw [List.tail_cons] at hR1
      simp only []
      rw [if_neg (by decide)]
      exact s_readsSaidLoop 12 M1 d (p + 1) r hR1 (by rw [hd0, show M1 711 13 = M 711 13 from f1.2 13 (by decide)]; exact h1) (by rw [hd0]; exact rw_nil) (by rw [hd0]; rfl) (by rw [hd0]; intro b hb; cases hb)
    · obtain ⟨rfl, v1⟩ := o2 h58
      rw [if_neg h58]
      simp only [if_true]
      have hne : (-1000 - p : Int) ≠ 0 := by omega
      exact ⟨0, M1, rfl, fun w => absurd w hne, fun _ => ⟨rfl, v1⟩⟩
