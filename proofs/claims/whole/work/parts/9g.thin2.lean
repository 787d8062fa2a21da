-- ==== PARENTS' are thinned
theorem sp_X2_addParent2 {sh : gS} {M : gM} {a k : Int} {d : kC} (hOK : gOK sh M) (hD : dOk sh M a d) :
    gC (gr 0 0) yX2_addParent cX2_addParent 2 none [(4, a), (0, k)] sh M (gPm sh (fun r M1 => r = none ∧ dPost sh M a (dAddP d k) M1 ∧ ∀ q : Int, q ≠ ((kPs d).length : Int) → M1 (a + 1) q = M (a + 1) q)) := by
  have hD0 := hD
  obtain ⟨s0, d1, d2, d3, d4, d5, d6, d7, d8, d9⟩ := hD
  obtain ⟨s1, s2, s3, s4, s5, s6, s7⟩ := id s0
  refine gC_ofA (lv := [_, _]) (by decide +kernel) (Nat.le_of_ble_eq_true rfl) rfl (fun hMw hav => ?_)
  refine g_aload_n (q0 := 1) (j := 0) rfl dX2_addParent_0 rfl ?_
  refine g_getf (q0 := 4) (t := 0) (fi := 1) rfl rfl ff_X2_31 dX2_addParent_1 rfl (by assumption) ?_
  refine g_iconst (q0 := 5) rfl dX2_addParent_4 (k := ?_)
  refine g_icmp_ge (q0 := 8) (tgt := 28) rfl dX2_addParent_5 (by decide) (fun h5 => ?_) (fun h5 => ?_)
  · refine g_return dX2_addParent_28 rfl ⟨Nat.zero_le _, Nat.zero_le _⟩ ?_
    have e : dAddP d k = d := by rw [dAddP, if_neg (by omega)]
    rw [e]
    exact ⟨rfl, rfl, ⟨hD0, hOK, fun _ _ => rfl⟩, fun _ _ => rfl⟩
  · refine g_aload_n (q0 := 9) (j := 0) rfl dX2_addParent_8 rfl ?_
    refine g_getp (q0 := 12) (b := a + 1) rfl ff_X2_9 dX2_addParent_9 rfl hOK (by omega) (by assumption) rfl rfl ?_
    refine g_aload_n (q0 := 13) (j := 0) rfl dX2_addParent_12 rfl ?_
    refine g_getf (q0 := 16) (t := 0) (fi := 1) rfl rfl ff_X2_31 dX2_addParent_13 rfl (by assumption) ?_
    refine g_iload_n (q0 := 17) (j := 1) rfl dX2_addParent_16 rfl ?_
    refine g_iast (q0 := 18) rfl dX2_addParent_17 (by assumption) (by omega) (by omega) ?_
    refine g_aload_n (q0 := 19) (j := 0) rfl dX2_addParent_18 rfl ?_
    refine g_dup (q0 := 20) rfl dX2_addParent_19 (k := ?_)
    refine g_getf (q0 := 23) (t := 0) (fi := 1) rfl rfl ff_X2_31 dX2_addParent_20 rfl (by assumption) ?_
    try simp (disch := omega) only [gU_same, gU_idx, gU_cel]
    refine g_iconst (q0 := 24) rfl dX2_addParent_23 (k := ?_)
    refine g_iadd (q0 := 25) rfl dX2_addParent_24 (by omega) (by omega) ?_
    refine g_put (q0 := 28) (t := 0) (fi := 1) rfl rfl ff_X2_31 dX2_addParent_25 rfl (by assumption) rfl (fun _ => ⟨rfl, rfl⟩) ?_
    refine g_return dX2_addParent_28 rfl ⟨Nat.zero_le _, Nat.zero_le _⟩ ?_
    have e : dAddP d k = dPs d (kPs d ++ [k]) := by rw [dAddP, if_pos (by omega)]
    rw [e]
    refine ⟨rfl, rfl, ⟨⟨s0, ?_, ?_, ?_, ?_, ?_, d6, ?_, ?_, ?_⟩, gOK_o (f := 1) (gOK_i hOK s2) s1 rfl rfl, fun b hb => ?_⟩, fun q hq => ?_⟩
    · simp (disch := omega) only [gU_cel, gU_idx, gU_same]
      rw [d1]; show _ = (((kPs d ++ [k]).length : Nat) : Int); simp
    · show (kPs d ++ [k]).length ≤ 3; simp; omega
    · show rw_ _ 0 (kPs d ++ [k])
      refine rw_snoc (rw_congr d3 (fun q q0 q1 => ?_)) ?_
      · simp (disch := omega) only [gU_cel, gU_idx]
      · rw [Int.zero_add, ← d1]
        simp (disch := omega) only [gU_cel, gU_same]
    · exact tOk_congr d4 (by rw [gU_cell _ _ _ (by omega), gU_cell _ _ _ (by omega)]) (by rw [gU_cell _ _ _ (by omega), gU_cell _ _ _ (by omega)]) (by rw [gU_cell _ _ _ (by omega), gU_cell _ _ _ (by omega)])
    · simp (disch := omega) only [gU_cel, gU_idx]; exact d5
    · refine rw_congr d7 (fun q q0 q1 => ?_)
      simp (disch := omega) only [gU_cel]
    · simp (disch := omega) only [gU_cel, gU_idx]; exact d8
    · simp (disch := omega) only [gU_cel, gU_idx]; exact d9
    · rw [gU_cell _ _ _ (by omega), gU_cell _ _ _ (by omega)]
    · rw [gU_cel (by omega), gU_idx (by omega)]
/-- those of PARENTS' that stay -/
def thG (cs : List kC) (el : Nat → Nat → Bool) (m : Int) (ps ca : List Int) : List Int → List Int → List Int
  | p :: r, c :: q => if decide (0 < m) && rNd cs el p.toNat c.toNat (decide (m = 1)) ps ca then thG cs el m ps ca r q else p :: thG cs el m ps ca r q
  | _, _ => []
/-- the first one with that TREE -/
def thX (cs : List kC) (fs : List gF) : List Int → Option Int
  | [] => none
  | p :: r => match cs[p.toNat]? with
    | some c => if kFs c = fs then some p else thX cs fs r
    | none => thX cs fs r
def thAll (cs : List kC) (el : Nat → Nat → Bool) (m : Int) (fs : List gF) (ps ca : List Int) : List Int :=
  if m = 3 ∧ 2 ≤ (thG cs el m ps ca ps ca).length then (match thX cs fs (thG cs el m ps ca ps ca) with
    | some p => [p]
    | none => thG cs el m ps ca ps ca) else thG cs el m ps ca ps ca
theorem thG_cons {cs : List kC} {el : Nat → Nat → Bool} {m : Int} {ps ca : List Int} {p c : Int} {r q : List Int} : thG cs el m ps ca (p :: r) (c :: q) = if decide (0 < m) && rNd cs el p.toNat c.toNat (decide (m = 1)) ps ca then thG cs el m ps ca r q else p :: thG cs el m ps ca r q := rfl
theorem thG_mem {cs : List kC} {el : Nat → Nat → Bool} {m : Int} {ps ca : List Int} : ∀ {p2 c2 : List Int}, ∀ x ∈ thG cs el m ps ca p2 c2, x ∈ p2
  | [], c2, x, h => by cases c2 <;> cases h
  | p :: r, [], x, h => by cases h
  | p :: r, c :: q, x, h => by
    unfold thG at h
    split at h
    · exact List.mem_cons_of_mem _ (thG_mem x h)
    · rcases List.mem_cons.mp h with e | e
      · rw [e]; exact List.mem_cons_self
      · exact List.mem_cons_of_mem _ (thG_mem x e)
theorem thG_len {cs : List kC} {el : Nat → Nat → Bool} {m : Int} {ps ca : List Int} : ∀ {p2 c2 : List Int}, (thG cs el m ps ca p2 c2).length ≤ p2.length
  | [], c2 => by cases c2 <;> exact Nat.le_refl _
  | p :: r, [] => Nat.zero_le _
  | p :: r, c :: q => by
    unfold thG
    split
    · exact Nat.le_succ_of_le thG_len
    · exact Nat.succ_le_succ thG_len
theorem thX_mem {cs : List kC} {fs : List gF} : ∀ {ps : List Int} {p : Int}, thX cs fs ps = some p → p ∈ ps
  | [], p, h => by cases h
  | q :: r, p, h => by
    unfold thX at h
    split at h
    · split at h
      · cases h; exact List.mem_cons_self
      · exact List.mem_cons_of_mem _ (thX_mem h)
    · exact List.mem_cons_of_mem _ (thX_mem h)
theorem thAll_mem {cs : List kC} {el : Nat → Nat → Bool} {m : Int} {fs : List gF} {ps ca : List Int} : ∀ x ∈ thAll cs el m fs ps ca, x ∈ ps := fun x h => by
  unfold thAll at h
  split at h
  · split at h
    · rename_i e
      rw [List.mem_singleton.mp h]
      exact thG_mem _ (thX_mem e)
    · exact thG_mem _ h
  · exact thG_mem _ h
theorem thAll_len {cs : List kC} {el : Nat → Nat → Bool} {m : Int} {fs : List gF} {ps ca : List Int} : (thAll cs el m fs ps ca).length ≤ ps.length := by
  unfold thAll
  split
  · rename_i q
    split
    · have := thG_len (cs := cs) (el := el) (m := m) (ps := ps) (ca := ca) (p2 := ps) (c2 := ca)
      rw [List.length_singleton]; omega
    · exact thG_len
  · exact thG_len
def thP (sh : gS) (M : gM) (d : kC) (M1 : gM) : Prop := dOk sh M1 380 d ∧ gOK sh M1 ∧ ∀ b : Int, b ≠ 398 → (b < 380 ∨ 388 < b) → M1 b = M b
theorem dOk_ps {sh : gS} {M M1 : gM} {d : kC} {qs : List Int} (h : dOk sh M 380 d) (h1 : M1 380 1 = (qs.length : Int)) (h2 : qs.length ≤ 3) (h3 : rw_ (M1 381) 0 qs) (h4 : ∀ f : Int, f ≠ 1 → M1 380 f = M 380 f) (h5 : ∀ b : Int, 382 ≤ b → b ≤ 388 → M1 b = M b) : dOk sh M1 380 (dPs d qs) := by
  obtain ⟨s0, d1, d2, d3, d4, d5, d6, d7, d8, d9⟩ := h
  exact ⟨s0, h1, h2, h3, tOk_congr d4 (h5 _ (by decide) (by decide)) (h5 _ (by decide) (by decide)) (h5 _ (by decide) (by decide)), by rw [h4 4 (by decide)]; exact d5, d6, by rw [h5 (380 + 5) (by decide) (by decide)]; exact d7, by rw [h4 5 (by decide)]; exact d8, by rw [h4 6 (by decide)]; exact d9⟩
theorem rNd_congr {cs : List kC} {el el2 : Nat → Nat → Bool} {pi ci : Nat} {u : Bool} : ∀ (ps ca : List Int), (∀ c ∈ ca, el2 c.toNat = el c.toNat) → rNd cs el2 pi ci u ps ca = rNd cs el pi ci u ps ca
  | [], ca, _ => by cases ca <;> rfl
  | p :: r, [], _ => rfl
  | p :: r, c :: q, h => by
    unfold rNd
    rw [h c List.mem_cons_self, rNd_congr r q (fun x hx => h x (List.mem_cons_of_mem _ hx))]
theorem sp_X8_thinParents {sh : gS} {M : gM} {cs : List kC} {el : Nat → Nat → Bool} {d : kC} {ca : List Int} {m : Int} (hOK : gOK sh M) (hC : cOk sh M cs) (hD : dOk sh M 380 d) (hca : rw_ (M 397) 0 ca) (hcl : ca.length = (kPs d).length) (hE : ∀ c ∈ ca, mIs M 389 c (el c.toNat)) (hps : ∀ p ∈ kPs d, 0 ≤ p ∧ p < (cs.length : Int)) (hcs : ∀ p ∈ ca, 0 ≤ p ∧ p < (cs.length : Int)) :
    gC (gr 3 68) yX8_thinParents cX8_thinParents 4 none [(4, 3), (0, m)] sh M (gPm sh (fun r M1 => r = none ∧ thP sh M (dPs d (thAll cs el m (kFs d) (kPs d) ca)) M1)) := by
  have d1 := hD.2.1
  have d2 := hD.2.2.1
  have d3 : rw_ (M 381) 0 (kPs d) := hD.2.2.2.1
  generalize hps0 : kPs d = ps at *
  generalize hfs : kFs d = fs
  -- the last loop
  have lp3 : ∀ (r w : List Int) (x2 : Int) (M1 : gM), thP sh M (dPs d (w ++ r)) M1 → (∀ p ∈ w ++ r, 0 ≤ p ∧ p < (cs.length : Int)) → (w ≠ [] → m = 3 → 2 ≤ (w ++ r).length) → P_X8_thinParents_102 sh (gPm sh (fun q M1 => q = none ∧ thP sh M (dPs d (if m = 3 ∧ 2 ≤ (w ++ r).length then (match thX cs fs r with
    | some p => [p]
    | none => w ++ r) else w ++ r)) M1)) m x2 (w.length : Int) M1 := by
    intro r
    induction r with
    | nil =>
      intro w x2 M1 h hr hw
      have e1 : M1 380 1 = ((w ++ []).length : Int) := h.1.2.1
      refine w_X8_thinParents_102 h.2.1 ?_
      rw [List.append_nil] at h e1 hw ⊢
      have en : (if m = 3 ∧ 2 ≤ w.length then (match thX cs fs [] with
        | some p => [p]
        | none => w) else w) = w := by split <;> rfl
      rw [en]
      by_cases q3 : m = 3
      · rw [if_pos q3, e1]
        split
        · exact ⟨rfl, rfl, h⟩
        · rw [if_neg (by omega)]; exact ⟨rfl, rfl, h⟩
      · rw [if_neg q3]; exact ⟨rfl, rfl, h⟩
    | cons p r ih =>
      intro w x2 M1 h hr hw
      have e1 : M1 380 1 = ((w ++ p :: r).length : Int) := h.1.2.1
      have e3 : rw_ (M1 381) 0 (w ++ p :: r) := h.1.2.2.2.1
      have hlen : (w ++ p :: r).length ≤ 3 := h.1.2.2.1
      have hl : (w ++ p :: r).length = w.length + (r.length + 1) := by simp
      have ep := (rw_cons (rw_app e3).2).1
      rw [Int.zero_add] at ep
      have hp := hr p (by simp)
      refine w_X8_thinParents_102 h.2.1 ?_
      by_cases q3 : m = 3
      · rw [if_pos q3, e1]
        by_cases q2 : ((w ++ p :: r).length : Int) < 2
        · rw [if_pos q2, if_neg (fun z => by omega)]; exact ⟨rfl, rfl, h⟩
        · rw [if_neg q2, if_pos (by omega), if_pos (show m = 3 ∧ 2 ≤ (w ++ p :: r).length from ⟨q3, by omega⟩), ep]
          have hC1 : cOk sh M1 cs := cOk_fr hC (fun b b0 b1 => h.2.2 b (by omega) (by omega))
          obtain ⟨n, hn⟩ : ∃ n : Nat, p = (n : Int) := ⟨p.toNat, by omega⟩
          subst hn
          have hnc : cs[n]? = some cs[n] := List.getElem?_eq_getElem (by omega)
          have hct := (cT_rng hC1 hnc).2.2
          obtain ⟨⟨z0, z1, z2, z3⟩, -⟩ := id hct
          have hT : tOk sh M1 382 32 (kFs d) := h.1.2.2.2.2.1
          refine ⟨⟨by omega, by omega⟩, _, sp_X1_tree h.2.1 hC1 hnc, ⟨z0, z3⟩, _, sp_X10_isLike h.2.1 hct hT, ?_⟩
          rw [hfs]
          have ex : thX cs fs ((n : Int) :: r) = if kFs cs[n] = fs then some (n : Int) else thX cs fs r := by
            rw [thX, Int.toNat_natCast, hnc]
          rw [ex]
          by_cases q : kFs cs[n] = fs
          · rw [if_pos q, decide_eq_true q, if_neg bIt, gw32_id (by omega) (by omega)]
            have h9 : thP sh M (dPs d [(n : Int)]) (gU (gU M1 381 0 (n : Int)) 380 1 1) := by
              refine ⟨dOk_ps (qs := [(n : Int)]) (M := M1) (d := dPs d (w ++ (n : Int) :: r)) h.1 (gU_same _ _ _ _) (by show 1 ≤ 3; decide) (rw_mk (by rw [gU_cel (by decide), gU_same]) rw_nil) (fun f hf => by rw [gU_idx hf, gU_cel (by decide)]) (fun b b0 b1 => by rw [gU_cell _ _ _ (by omega), gU_cell _ _ _ (by omega)]), gOK_o (f := 1) (gOK_i h.2.1 (sh_381 h.2.1)) (sh_380 h.2.1) rfl rfl, fun b b0 b1 => by rw [gU_cell _ _ _ (by omega), gU_cell _ _ _ (by omega)]; exact h.2.2 b b0 b1⟩
            refine w_X8_thinParents_102 h9.2.1 ?_
            rw [if_pos q3, gU_same, if_pos (by decide)]
            exact ⟨rfl, rfl, h9⟩
          · rw [if_neg q, decide_eq_false q, if_pos bIf, gw32_id (by omega) (by omega)]
            have := ih (w ++ [(n : Int)]) x2 M1 (by rw [List.append_assoc]; exact h) (by rw [List.append_assoc]; exact hr) (fun _ _ => by rw [List.append_assoc]; show 2 ≤ (w ++ (n : Int) :: r).length; omega)
            rw [List.append_assoc, show (w ++ [(n : Int)]).length = w.length + 1 by simp] at this
            rw [show (w.length : Int) + 1 = ((w.length + 1 : Nat) : Int) by omega]
            have e9 : w ++ ([(n : Int)] ++ r) = w ++ (n : Int) :: r := rfl
            rw [e9, if_pos (show m = 3 ∧ 2 ≤ (w ++ (n : Int) :: r).length from ⟨q3, by omega⟩)] at this
            exact this
      · rw [if_neg q3, if_neg (fun z => q3 z.1)]; exact ⟨rfl, rfl, h⟩
  -- the second loop
  have lp2 : ∀ (p2 c2 p1 kept : List Int) (M1 : gM), ps = p1 ++ p2 → c2.length = p2.length → thP sh M (dPs d kept) M1 → kept.length ≤ p1.length → (∀ q : Int, (p1.length : Int) ≤ q → M1 381 q = M 381 q) →
      (∀ (j : Nat) (p c : Int), p2[j]? = some p → c2[j]? = some c → M1 398 ((p1.length + j : Nat) : Int) = bI (decide (0 < m) && rNd cs el p.toNat c.toNat (decide (m = 1)) ps ca)) → kept ++ thG cs el m ps ca p2 c2 = thG cs el m ps ca ps ca →
      P_X8_thinParents_64 sh (gPm sh (fun r M1 => r = none ∧ thP sh M (dPs d (thAll cs el m fs ps ca)) M1)) m (ps.length : Int) (p1.length : Int) M1 := by
    intro p2
    induction p2 with
    | nil =>
      intro c2 p1 kept M1 e hc h hk h381 h398 ek
      refine w_X8_thinParents_64 h.2.1 ?_
      rw [List.append_nil] at e
      rw [if_neg (by rw [e]; omega)]
      have ek' : kept = thG cs el m ps ca ps ca := by rw [← ek]; cases c2 <;> exact (List.append_nil _).symm
      have := lp3 (thG cs el m ps ca ps ca) [] (ps.length : Int) M1 (by rw [List.nil_append, ← ek']; exact h) (fun x hx => hps x (thG_mem x hx)) (fun z => absurd rfl z)
      exact this
    | cons p r ih =>
      intro c2 p1 kept M1 e hc h hk h381 h398 ek
      have hl := len_mid e
      cases c2 with
      | nil => simp at hc
      | cons c q =>
        rw [List.length_cons, List.length_cons] at hc
        have g0 := h398 0 p c rfl rfl
        rw [Nat.add_zero] at g0
        have ep : M1 381 (p1.length : Int) = p := by
          rw [h381 _ (Int.le_refl _)]
          have := (rw_cons (rw_app (by rw [e] at d3; exact d3)).2).1
          rwa [Int.zero_add] at this
        have nx : (p1.length : Int) + 1 = ((p1 ++ [p]).length : Int) := by rw [List.length_append, List.length_singleton]; omega
        have h398' : ∀ M2 : gM, M2 398 = M1 398 → ∀ (j : Nat) (p' c' : Int), r[j]? = some p' → q[j]? = some c' → M2 398 (((p1 ++ [p]).length + j : Nat) : Int) = bI (decide (0 < m) && rNd cs el p'.toNat c'.toNat (decide (m = 1)) ps ca) := fun M2 e2 j p' c' hj hj2 => by
          rw [e2, List.length_append, List.length_singleton, show p1.length + 1 + j = p1.length + (j + 1) by omega]
          exact h398 (j + 1) p' c' hj hj2
        refine w_X8_thinParents_64 h.2.1 ?_
        rw [if_pos (by omega), g0]
        refine ⟨⟨by omega, by omega⟩, ?_⟩
        rw [thG_cons] at ek
        cases hb : decide (0 < m) && rNd cs el p.toNat c.toNat (decide (m = 1)) ps ca with
        | true =>
          rw [hb, if_pos rfl] at ek
          rw [if_neg bIt, gw32_id (by omega) (by omega), nx]
          exact ih q (p1 ++ [p]) kept M1 (app_mid e) (by omega) h (by rw [List.length_append]; omega) (fun x hx => h381 x (by rw [List.length_append, List.length_singleton] at hx; omega)) (h398' M1 rfl) ek
        | false =>
          rw [hb, if_neg (by decide)] at ek
          rw [if_pos bIf, ep]
          refine ⟨_, sp_X2_addParent2 h.2.1 h.1, fun r2 M2 hP2 => ?_⟩
          obtain ⟨rfl, ⟨a1, a2, a3⟩, a4⟩ := hP2
          have ea : dAddP (dPs d kept) p = dPs d (kept ++ [p]) := by
            rw [dAddP, if_pos (show (kPs (dPs d kept)).length < 3 from (show kept.length < 3 by omega))]; rfl
          rw [ea] at a1
          refine ⟨rfl, a2, ?_⟩
          rw [gw32_id (by omega) (by omega), nx]
          have a4' : ∀ x : Int, x ≠ (kept.length : Int) → M2 381 x = M1 381 x := a4
          exact ih q (p1 ++ [p]) (kept ++ [p]) M2 (app_mid e) (by omega) ⟨a1, a2, fun b b0 b1 => by rw [a3 b (by omega)]; exact h.2.2 b b0 b1⟩ (by rw [List.length_append, List.length_append, List.length_singleton]; omega) (fun x hx => by
            rw [List.length_append, List.length_singleton] at hx
            rw [a4' x (by omega)]; exact h381 x (by omega)) (h398' M2 (a3 398 (by omega))) (by rw [List.append_assoc]; exact ek)
  -- the first loop
  have lp1 : ∀ (p2 c2 p1 c1 : List Int) (M1 : gM), ps = p1 ++ p2 → ca = c1 ++ c2 → c1.length = p1.length → gOK sh M1 → (∀ b : Int, b ≠ 398 → M1 b = M b) →
      (∀ (j : Nat) (p c : Int), j < p1.length → ps[j]? = some p → ca[j]? = some c → M1 398 (j : Int) = bI (decide (0 < m) && rNd cs el p.toNat c.toNat (decide (m = 1)) ps ca)) →
      P_X8_thinParents_10 sh (gPm sh (fun r M1 => r = none ∧ thP sh M (dPs d (thAll cs el m fs ps ca)) M1)) m (ps.length : Int) (p1.length : Int) M1 := by
    intro p2
    induction p2 with
    | nil =>
      intro c2 p1 c1 M1 e ec hcp hO1 hf h398
      refine w_X8_thinParents_10 hO1 ?_
      rw [List.append_nil] at e
      rw [if_neg (by rw [e]; omega)]
      have hO2 : gOK sh (gU M1 380 1 0) := gOK_o (f := 1) hO1 (sh_380 hO1) rfl rfl
      have hd0 : dOk sh M1 380 d := dOk_keep hD (fun b b0 b1 => hf b (by omega))
      refine lp2 ps ca [] [] _ rfl hcl ⟨dOk_ps (qs := []) hd0 (gU_same _ _ _ _) (by decide) rw_nil (fun f hf => gU_idx hf) (fun b b0 b1 => gU_cell _ _ _ (by omega)), hO2, fun b b0 b1 => by rw [gU_cell _ _ _ (by omega)]; exact hf b b0⟩ (Nat.le_refl _) (fun q _ => by rw [gU_cell _ _ _ (by decide), hf 381 (by decide)]) (fun j p c hj hj2 => ?_) rfl
      rw [gU_cell _ _ _ (by decide), List.length_nil, Nat.zero_add]
      exact h398 j p c (by have := (List.getElem?_eq_some_iff.mp hj).1; rw [e] at this; exact this) hj hj2
    | cons p r ih =>
      intro c2 p1 c1 M1 e ec hcp hO1 hf h398
      have hl := len_mid e
      cases c2 with
      | nil =>
        rw [List.append_nil] at ec
        rw [← hcl, ec] at hl; omega
      | cons c q =>
        have nx : (p1.length : Int) + 1 = ((p1 ++ [p]).length : Int) := by rw [List.length_append, List.length_singleton]; omega
        have hp := hps p (by rw [e]; simp)
        have hc := hcs c (by rw [ec]; simp)
        have hpi : (kPs d)[p1.length]? = some ((p.toNat : Nat) : Int) := by
          rw [hps0, e, List.getElem?_append_right (Nat.le_refl _), Nat.sub_self, show ((p.toNat : Nat) : Int) = p by omega]; rfl
        have hci : ca[p1.length]? = some ((c.toNat : Nat) : Int) := by
          rw [ec, ← hcp, List.getElem?_append_right (Nat.le_refl _), Nat.sub_self, show ((c.toNat : Nat) : Int) = c by omega]; rfl
        have nd : ∀ u : Bool, gC (gr 2 44) yX8_isNeedless cX8_isNeedless 5 (some (.boolean)) [(4, 3), (0, (p1.length : Int)), (0, bI u)] sh M1 (gPp sh M1 (0, bI (rNd cs el p.toNat c.toNat u ps ca))) := fun u => by
          have hE1 : eldOk M1 cs (fun k => if (k : Int) ∈ ca then el k else mB M1 389 (k : Int)) := fun k hk j hj => by
            show mB M1 389 (k : Int) j = (if (k : Int) ∈ ca then el k else mB M1 389 (k : Int)) j
            by_cases hz : (k : Int) ∈ ca
            · rw [if_pos hz, mB_row (M := M) ⟨by rw [hf _ (by decide)], by rw [hf _ (by decide)]⟩]
              have := hE (k : Int) hz j hj
              rwa [Int.toNat_natCast] at this
            · rw [if_neg hz]
          have := sp_X8_isNeedless (sh := sh) (M := M1) (cs := cs) (el := fun k => if (k : Int) ∈ ca then el k else mB M1 389 (k : Int)) (d := d) (ca := ca) (i := p1.length) (pi := p.toNat) (ci := c.toNat) (u := u) hO1 (cOk_fr hC (fun b b0 b1 => hf b (by omega))) (dOk_keep hD (fun b b0 b1 => hf b (by omega))) (by rw [hf 397 (by decide)]; exact hca) (by rw [hps0]; exact hcl) hE1 (by rw [hps0]; exact hps) hcs hpi hci
          rw [rNd_congr (el := el) (kPs d) ca (fun x hx => by
            have := hcs x hx
            show (if ((x.toNat : Nat) : Int) ∈ ca then el x.toNat else mB M1 389 ((x.toNat : Nat) : Int)) = el x.toNat
            rw [if_pos (by rw [show ((x.toNat : Nat) : Int) = x by omega]; exact hx)])] at this
          rwa [hps0] at this
        -- one more is laid
        have next : ∀ v : Bool, v = (decide (0 < m) && rNd cs el p.toNat c.toNat (decide (m = 1)) ps ca) → (0 ≤ (p1.length : Int) ∧ (p1.length : Int) < 3) ∧ P_X8_thinParents_10 sh (gPm sh (fun r M1 => r = none ∧ thP sh M (dPs d (thAll cs el m fs ps ca)) M1)) m (ps.length : Int) (gw32 ((p1.length : Int) + 1)) (gU M1 398 (p1.length : Int) (bI v)) := fun v hv => by
          refine ⟨⟨by omega, by omega⟩, ?_⟩
          rw [gw32_id (by omega) (by omega), nx]
          refine ih q (p1 ++ [p]) (c1 ++ [c]) _ (app_mid e) (app_mid ec) (by rw [List.length_append, List.length_append, hcp]; rfl) (gOK_z hO1 (sh_398 hO1)) (fun b hb => by rw [gU_cell _ _ _ hb]; exact hf b hb) (fun j p' c' hj h1 h2 => ?_)
          rw [List.length_append, List.length_singleton] at hj
          by_cases ej : j = p1.length
          · subst ej
            rw [gU_same, hv]
            rw [e, List.getElem?_append_right (Nat.le_refl _), Nat.sub_self] at h1
            rw [ec, ← hcp, List.getElem?_append_right (Nat.le_refl _), Nat.sub_self] at h2
            cases h1; cases h2
            rfl
          · rw [gU_idx (by omega)]
            exact h398 j p' c' (by omega) h1 h2
        refine w_X8_thinParents_10 hO1 ?_
        rw [if_pos (by omega)]
        by_cases q0 : 0 < m
        · rw [if_pos q0]
          rw [decide_eq_true q0, Bool.true_and] at next
          have tail : ∀ v : Bool, v = rNd cs el p.toNat c.toNat (decide (m = 1)) ps ca → (if bI v = 0 then ((0 ≤ (p1.length : Int) ∧ (p1.length : Int) < 3) ∧ (P_X8_thinParents_10 sh (gPm sh (fun r M1 => r = none ∧ thP sh M (dPs d (thAll cs el m fs ps ca)) M1)) m (ps.length : Int) (gw32 ((p1.length : Int) + 1)) (gU M1 398 (p1.length : Int) 0))) else ((0 ≤ (p1.length : Int) ∧ (p1.length : Int) < 3) ∧ (P_X8_thinParents_10 sh (gPm sh (fun r M1 => r = none ∧ thP sh M (dPs d (thAll cs el m fs ps ca)) M1)) m (ps.length : Int) (gw32 ((p1.length : Int) + 1)) (gU M1 398 (p1.length : Int) 1)))) := fun v hv => by
            cases v with
            | false => rw [if_pos bIf]; exact next false hv
            | true => rw [if_neg bIt]; exact next true hv
          by_cases q1 : m = 1
          · rw [if_pos q1]
            rw [decide_eq_true q1] at tail
            exact ⟨_, nd true, tail _ rfl⟩
          · rw [if_neg q1]
            rw [decide_eq_false q1] at tail
            exact ⟨_, nd false, tail _ rfl⟩
        · rw [if_neg q0]
          rw [decide_eq_false q0, Bool.false_and] at next
          exact next false rfl
  refine w_X8_thinParents hOK ?_
  rw [d1]
  exact lp1 ps ca [] [] M rfl rfl rfl hOK (fun _ _ => rfl) (fun j p c hj => by simp at hj)
