-- ==== picked on both sides
def chX (cs : List kC) (k : Nat) : List gF := match cs[k]? with
  | some c => (mg 32 (kFF cs c) (kFs c) 0 0).map eC
  | none => []
theorem chX_at {cs : List kC} {k : Nat} {c : kC} (h : cs[k]? = some c) : chX cs k = (mg 32 (kFF cs c) (kFs c) 0 0).map eC := by unfold chX; rw [h]
def eX (x : Int × Int × Int) : gF := (x.1, x.2.1)
def chR (cs : List kC) (c : kC) : List gF := (chL (kFF cs c) (kFs c)).map eX
theorem chR_is {cs : List kC} (hO : kOk cs) {k : Nat} {c : kC} (hk : cs[k]? = some c) : chR cs c = ((mg 32 (kFF cs c) (kFs c) 0 0).filter eN).map eC ++ ((mg 32 (kFF cs c) (kFs c) 0 0).filter eP0).map eC ∧ ((mg 32 (kFF cs c) (kFs c) 0 0).map eC).Pairwise (fun x y => x.1 < y.1) ∧ (chL (kFF cs c) (kFs c)).length ≤ 32 := by
  obtain ⟨f1, f2, f3⟩ := kFF_hd hO hk
  obtain ⟨g1, g2, g3⟩ := kFs_hd hO hk
  obtain ⟨-, a, b, -, d⟩ := mg_ch 32 (kFF cs c) (kFs c) 0 0 f1 g1 f2 g2 (by omega)
  refine ⟨?_, d, ?_⟩
  · unfold chR chL
    rw [← a, ← b, List.map_append, List.map_map, List.map_map]; rfl
  · unfold chL
    rw [List.length_append, List.length_map, List.length_map]
    have := List.length_filter_le (chU (kFF cs c)) (kFs c)
    have := List.length_filter_le (goP (kFs c)) (kFF cs c)
    omega
theorem chR_iff {cs : List kC} (hO : kOk cs) {i j : Nat} {c d : kC} (hi : cs[i]? = some c) (hj : cs[j]? = some d) : chR cs c = chR cs d ↔ chX cs i = chX cs j := by
  obtain ⟨a1, a2, -⟩ := chR_is hO hi
  obtain ⟨b1, b2, -⟩ := chR_is hO hj
  rw [a1, b1, chX_at hi, chX_at hj]
  exact (ch_same a2 b2).symm
def fnd (Q : Nat → Bool) : Nat → Nat → Int
  | _, 0 => -2
  | j, m + 1 => if Q j = true then (j : Int) else fnd Q (j + 1) m
def pkQ (cs : List kC) (S : Nat → Bool) (k j : Nat) : Bool := !decide (j = k) && (S j && decide (chX cs k = chX cs j))
def aPicked (z : aS) (h k : Int) : Int := if (0 ≤ h ∧ h ≤ 3) ∧ bC (aCs z) k = true then fnd (pkQ (aCs z) (hMark (aCs z) (aRs z h)) k.toNat) 0 (aCs z).length else -1
def pkA : List Int := [724, 741, 742, 743, 744, 745]
theorem uSt_pk {M M1 : gM} {z : aS} (h : uSt M z) (h1 : ∀ b : Int, b ∉ pkA → b ≠ 711 → M1 b = M b) (h2 : ∀ f : Int, f ≠ 49 → M1 711 f = M 711 f) : uSt M1 z :=
  uSt_keep (A := pkA) (F := [49]) h ⟨h1, fun f hf => h2 f (fun w => hf (by rw [w]; simp))⟩ (fun b hb => by unfold pkA at hb; simp at hb; omega) (by decide)
theorem s_picked {M : gM} {z : aS} {h k : Int} (hz : uSt M z) (hO : kOk (aCs z)) (hR : ∀ h : Int, 0 ≤ h → h < 4 → rGd ((aCs z).length : Int) (aRs z h) ∧ (aRs z h).length ≤ 8) : ∃ M1, F_picked M h k = some (aPicked z h k, M1) ∧ uSt M1 z := by
  unfold aPicked
  rw [eq_picked, gI_bb s_isHistory]
  by_cases q1 : 0 ≤ h ∧ h ≤ 3
  · rw [decide_eq_true q1, if_neg bIt, gI_bb (s_isCommit hz.1 k)]
    by_cases q2 : bC (aCs z) k = true
    · rw [bC_t q2, if_neg bIt, if_pos (show (0 ≤ h ∧ h ≤ 3) ∧ bC (aCs z) k = true from ⟨q1, q2⟩)]
      obtain ⟨n, c, rfl, hk, hl⟩ := bC_at q2
      have hl9 := hz.1.2.1
      rw [Int.toNat_natCast]
      obtain ⟨M1, e1, u1, f1⟩ := s_laysChange hz.1 hO hk
      rw [gI_bb e1, u1.1]
      obtain ⟨-, -, L32⟩ := chR_is hO hk
      have hRc : chR (aCs z) c = (chL (kFF (aCs z) c) (kFs c)).map eX := rfl
      obtain ⟨hu0, hu1, hu2, -⟩ := u1
      generalize hL : chL (kFF (aCs z) c) (kFs c) = L at hu0 hu1 hu2 L32 hRc ⊢
      -- what is copied
      have cpy : ∀ (m i : Nat) (M2 : gM), i + m = L.length → (∀ b : Int, b ≠ 744 → b ≠ 745 → M2 b = M1 b) → (∀ (q : Nat) (x : Int × Int × Int), q < i → L[q]? = some x → M2 744 (q : Int) = x.1 ∧ M2 745 (q : Int) = x.2.1) → ∃ M3, F_picked_30 M2 h (n : Int) (L.length : Int) (i : Int) = (F_marksHistory M3 h 724).bind (fun m76 => F_picked_82 m76 h (n : Int) (L.length : Int) 0) ∧ (∀ b : Int, b ≠ 744 → b ≠ 745 → M3 b = M1 b) ∧ ∀ (q : Nat) (x : Int × Int × Int), L[q]? = some x → M3 744 (q : Int) = x.1 ∧ M3 745 (q : Int) = x.2.1 := by
        intro m
        induction m with
        | zero =>
          intro i M2 hi h1 h2
          rw [eq_picked_30, if_neg (by omega)]
          exact ⟨M2, rfl, h1, fun q x hx => h2 q x (by have := (List.getElem?_eq_some_iff.mp hx).1; omega) hx⟩
        | succ m ih =>
          intro i M2 hi h1 h2
          obtain ⟨x, hx⟩ : ∃ x, L[i]? = some x := ⟨_, List.getElem?_eq_getElem (by omega)⟩
          have a1 := hu1 i x.1 (by rw [List.getElem?_map, hx]; rfl)
          have a2 := hu2 i x.2.1 (by rw [List.getElem?_map, hx]; rfl)
          rw [Int.zero_add] at a1 a2
          rw [eq_picked_30, if_pos (by omega), if_pos (by omega), gU_cell _ _ _ (show (742 : Int) ≠ 744 by decide), h1 741 (by decide) (by decide), h1 742 (by decide) (by decide), a1, a2, gw32_id (by omega) (by omega)]
          refine ih (i + 1) _ (by omega) (fun b b0 b1 => by rw [gU_cell _ _ _ b1, gU_cell _ _ _ b0]; exact h1 b b0 b1) (fun q y hq hy => ?_)
          by_cases e : q = i
          · subst e
            rw [hx] at hy; cases hy
            rw [gU_cell _ _ _ (by decide), gU_same, gU_same]; exact ⟨rfl, rfl⟩
          · rw [gU_cell _ _ _ (by decide), gU_idx (by omega), gU_idx (by omega), gU_cell _ _ _ (by decide)]
            exact h2 q y (by omega) hy
      obtain ⟨M3, e3, f3, g3⟩ := cpy L.length 0 M1 (by omega) (fun _ _ _ => rfl) (fun q _ hq => by omega)
      have e3' : F_picked_30 M1 h (n : Int) (L.length : Int) 0 = (F_marksHistory M3 h 724).bind (fun m76 => F_picked_82 m76 h (n : Int) (L.length : Int) 0) := e3
      rw [e3']
      have z3 : uSt M3 z := uSt_pk hz (fun b hb hb2 => by unfold pkA at hb; simp at hb; rw [f3 b hb.2.2.2.2.1 hb.2.2.2.2.2, f1.1 b hb2 hb.2.1 hb.2.2.1 hb.2.2.2.1]) (fun f hf => by rw [f3 711 (by decide) (by decide), f1.2 f hf])
      obtain ⟨M4, e4, s4, f4⟩ := s_marksHistory (a := 724) (h := h) (R := aRs z) z3.1 hO (fun i i0 i1 => ⟨z3.2.2.1 i i0 i1, hR i i0 i1⟩) (by decide) ⟨q1.1, by omega⟩
      rw [gI_bb e4]
      have z4 : uSt M4 z := uSt_pk z3 (fun b hb _ => by unfold pkA at hb; simp at hb; exact f4 b hb.1) (fun f _ => by rw [f4 711 (by decide)])
      generalize hMark (aCs z) (aRs z h) = S at s4 ⊢
      have lp : ∀ (m j : Nat) (M5 : gM), j + m = (aCs z).length → uSt M5 z → uS M5 724 S → (∀ (q : Nat) (x : Int × Int × Int), L[q]? = some x → M5 744 (q : Int) = x.1 ∧ M5 745 (q : Int) = x.2.1) → ∃ M6, F_picked_82 M5 h (n : Int) (L.length : Int) (j : Int) = some (fnd (pkQ (aCs z) S n) j m, M6) ∧ uSt M6 z := by
        intro m
        induction m with
        | zero =>
          intro j M5 hj z5 s5 g5
          rw [eq_picked_82, z5.1.1, if_neg (by omega)]
          exact ⟨M5, rfl, z5⟩
        | succ m ih =>
          intro j M5 hj z5 s5 g5
          have hjl : j < (aCs z).length := by omega
          have hd := List.getElem?_eq_getElem hjl
          generalize (aCs z)[j] = d at hd
          rw [eq_picked_82, z5.1.1, if_pos (by omega), gw32_id (by omega) (by omega), fnd]
          have skip : pkQ (aCs z) S n j = false → ∀ M6, uSt M6 z → uS M6 724 S → (∀ (q : Nat) (x : Int × Int × Int), L[q]? = some x → M6 744 (q : Int) = x.1 ∧ M6 745 (q : Int) = x.2.1) → ∃ M7, F_picked_82 M6 h (n : Int) (L.length : Int) ((j : Int) + 1) = some ((if pkQ (aCs z) S n j = true then (j : Int) else fnd (pkQ (aCs z) S n) (j + 1) m), M7) ∧ uSt M7 z := fun hq M6 z6 s6 g6 => by
            rw [hq, if_neg (by decide)]
            exact ih (j + 1) M6 (by omega) z6 s6 g6
          by_cases c1 : (j : Int) = (n : Int)
          · rw [if_pos c1]
            exact skip (by unfold pkQ; rw [decide_eq_true (show j = n by omega)]; rfl) M5 z5 s5 g5
          · rw [if_neg c1, if_pos (by omega), s5 j (by omega)]
            have hpk : pkQ (aCs z) S n j = (S j && decide (chX (aCs z) n = chX (aCs z) j)) := by unfold pkQ; rw [decide_eq_false (show ¬ j = n by omega)]; rfl
            cases hs : S j with
            | false =>
              rw [if_pos bIf]
              exact skip (by rw [hpk, hs]; rfl) M5 z5 s5 g5
            | true =>
              rw [if_neg bIt]
              rw [hs, Bool.true_and] at hpk
              obtain ⟨M6, e6, u6, f6⟩ := s_laysChange z5.1 hO hd
              have z6 : uSt M6 z := uSt_pk z5 (fun b hb hb2 => by unfold pkA at hb; simp at hb; exact f6.1 b hb2 hb.2.1 hb.2.2.1 hb.2.2.2.1) (fun f hf => f6.2 f hf)
              have s6 : uS M6 724 S := fun q hq => by rw [f6.1 724 (by decide) (by decide) (by decide) (by decide)]; exact s5 q hq
              have g6 : ∀ (q : Nat) (x : Int × Int × Int), L[q]? = some x → M6 744 (q : Int) = x.1 ∧ M6 745 (q : Int) = x.2.1 := fun q x hx => by rw [f6.1 744 (by decide) (by decide) (by decide) (by decide), f6.1 745 (by decide) (by decide) (by decide) (by decide)]; exact g5 q x hx
              rw [gI_bb e6]
              have hki := chR_iff hO hk hd
              rw [hRc] at hki
              unfold chR at hki
              obtain ⟨v0, v1, v2, -⟩ := u6
              generalize chL (kFF (aCs z) d) (kFs d) = K at v0 v1 v2 hki
              -- entry by entry
              have cmp : ∀ (r i : Nat), i + r = L.length → (K.length = L.length → (∀ q : Nat, q < i → K[q]?.map eX = L[q]?.map eX) → ∃ M7, F_picked_134 M6 h (n : Int) (L.length : Int) (j : Int) 1 (i : Int) = some ((if pkQ (aCs z) S n j = true then (j : Int) else fnd (pkQ (aCs z) S n) (j + 1) m), M7) ∧ uSt M7 z) ∧ (L.map eX ≠ K.map eX → ∃ M7, F_picked_134 M6 h (n : Int) (L.length : Int) (j : Int) 0 (i : Int) = some ((if pkQ (aCs z) S n j = true then (j : Int) else fnd (pkQ (aCs z) S n) (j + 1) m), M7) ∧ uSt M7 z) := by
                intro r
                have zero : ∀ i : Nat, L.map eX ≠ K.map eX → ∃ M7, F_picked_134 M6 h (n : Int) (L.length : Int) (j : Int) 0 (i : Int) = some ((if pkQ (aCs z) S n j = true then (j : Int) else fnd (pkQ (aCs z) S n) (j + 1) m), M7) ∧ uSt M7 z := fun i hne => by
                  have := skip (by rw [hpk]; exact decide_eq_false (fun w => hne (hki.mpr w))) M6 z6 s6 g6
                  rw [eq_picked_134, gw32_id (by omega) (by omega)]
                  by_cases c : (i : Int) < (L.length : Int)
                  · rw [if_pos c, if_pos rfl, if_pos rfl]; exact this
                  · rw [if_neg c, if_pos rfl]; exact this
                induction r with
                | zero =>
                  intro i hi
                  refine ⟨fun hlen heq => ?_, zero i⟩
                  rw [eq_picked_134, if_neg (by omega), if_neg (by decide)]
                  have : L.map eX = K.map eX := by
                    refine List.ext_getElem? (fun q => ?_)
                    rw [List.getElem?_map, List.getElem?_map]
                    by_cases c : q < L.length
                    · exact (heq q (by omega)).symm
                    · rw [List.getElem?_eq_none (by omega), List.getElem?_eq_none (by omega)]
                  rw [hpk, decide_eq_true (hki.mp this), if_pos rfl]
                  exact ⟨M6, rfl, z6⟩
                | succ r ihr =>
                  intro i hi
                  refine ⟨fun hlen heq => ?_, zero i⟩
                  obtain ⟨x, hx⟩ : ∃ x, L[i]? = some x := ⟨_, List.getElem?_eq_getElem (by omega)⟩
                  obtain ⟨y, hy⟩ : ∃ y, K[i]? = some y := ⟨_, List.getElem?_eq_getElem (by omega)⟩
                  have b1 := v1 i y.1 (by rw [List.getElem?_map, hy]; rfl)
                  have b2 := v2 i y.2.1 (by rw [List.getElem?_map, hy]; rfl)
                  rw [Int.zero_add] at b1 b2
                  obtain ⟨b3, b4⟩ := g6 i x hx
                  have ne : eX x ≠ eX y → L.map eX ≠ K.map eX := fun hne w => by
                    have := congrArg (fun l => l[i]?) w
                    simp only [List.getElem?_map, hx, hy, Option.map_some] at this
                    exact hne (Option.some.inj this)
                  rw [eq_picked_134, if_pos (by omega), if_neg (by decide), if_pos (by omega), b1, b2, b3, b4, gw32_id (z := (i : Int) + 1) (by omega) (by omega)]
                  by_cases c1 : x.1 = y.1
                  · rw [if_pos c1]
                    by_cases c2 : x.2.1 = y.2.1
                    · rw [if_pos c2]
                      refine (ihr (i + 1) (by omega)).1 hlen (fun q hq => ?_)
                      by_cases c : q = i
                      · subst c
                        rw [hx, hy]; show some (y.1, y.2.1) = some (x.1, x.2.1); rw [c1, c2]
                      · exact heq q (by omega)
                    · rw [if_neg c2]
                      exact (ihr (i + 1) (by omega)).2 (ne (fun w => c2 (congrArg (fun e : gF => e.2) w)))
                  · rw [if_neg c1]
                    exact (ihr (i + 1) (by omega)).2 (ne (fun w => c1 (congrArg (fun e : gF => e.1) w)))
              rw [v0]
              by_cases cl : (K.length : Int) = (L.length : Int)
              · rw [if_pos cl]
                exact (cmp L.length 0 (by omega)).1 (by omega) (fun q hq => by omega)
              · rw [if_neg cl]
                exact (cmp L.length 0 (by omega)).2 (fun w => cl (by have := congrArg List.length w; rw [List.length_map, List.length_map] at this; omega))
      exact lp (aCs z).length 0 M4 (by omega) z4 s4 (fun q x hx => by rw [f4 744 (by decide), f4 745 (by decide)]; exact g3 q x hx)
    · rw [bC_f q2, if_pos bIf, if_neg (fun w => q2 w.2)]; exact ⟨M, rfl, hz⟩
  · rw [decide_eq_false q1, if_pos bIf, if_neg (fun w => q1 w.1)]; exact ⟨M, rfl, hz⟩
-- ---- the class
theorem sp_X0_isLike {sh : gS} {M : gM} {a b : Int} {A B : List hE} (hOK : gOK sh M) (hA : hOk sh M a A) (hB : hOk sh M b B) : gC (gr 0 0) yX0_isLike cX0_isLike 3 (some (.boolean)) [(4, a), (4, b)] sh M (gPp sh M (0, bI (decide (A.map eC = B.map eC)))) := by
  obtain ⟨⟨s0, s1, s2, s3, s4, s5, s6⟩, lA, cA, rA⟩ := hA
  obtain ⟨⟨t0, t1, t2, t3, t4, t5, t6⟩, lB, cB, rB⟩ := hB
  refine w_X0_isLike hOK ⟨⟨s0, s6⟩, ⟨t0, t6⟩, ?_⟩
  rw [cA, cB]
  by_cases c : (A.length : Int) = (B.length : Int)
  · rw [if_pos c]
    have lp : ∀ (m i : Nat), i + m = A.length → (∀ q : Nat, q < i → A[q]?.map eC = B[q]?.map eC) → P_X0_isLike_15 sh (gPp sh M (0, bI (decide (A.map eC = B.map eC)))) a b (i : Int) M := by
      intro m
      induction m with
      | zero =>
        intro i hi heq
        refine w_X0_isLike_15 hOK ⟨⟨s0, s6⟩, ?_⟩
        rw [cA, if_neg (by omega)]
        have : A.map eC = B.map eC := by
          refine List.ext_getElem? (fun q => ?_)
          rw [List.getElem?_map, List.getElem?_map]
          by_cases c2 : q < A.length
          · exact heq q (by omega)
          · rw [List.getElem?_eq_none (by omega), List.getElem?_eq_none (by omega)]
        exact ⟨by rw [decide_eq_true this]; rfl, rfl, rfl⟩
      | succ m ih =>
        intro i hi heq
        obtain ⟨x, hx⟩ : ∃ x, A[i]? = some x := ⟨_, List.getElem?_eq_getElem (by omega)⟩
        obtain ⟨y, hy⟩ : ∃ y, B[i]? = some y := ⟨_, List.getElem?_eq_getElem (by omega)⟩
        have r1 := rA i x hx
        have r2 := rB i y hy
        rw [Int.zero_add] at r1 r2
        have x1 : M (a + 1) (i : Int) = x.1 := congrArg Prod.fst r1
        have x3 : M (a + 3) (i : Int) = x.2.2.1 := congrArg (fun e : hE => e.2.2.1) r1
        have y1 : M (b + 1) (i : Int) = y.1 := congrArg Prod.fst r2
        have y3 : M (b + 3) (i : Int) = y.2.2.1 := congrArg (fun e : hE => e.2.2.1) r2
        have ne : eC x ≠ eC y → decide (A.map eC = B.map eC) = false := fun hne => decide_eq_false (fun w => by
          have := congrArg (fun l => l[i]?) w
          simp only [List.getElem?_map, hx, hy, Option.map_some] at this
          exact hne (Option.some.inj this))
        refine w_X0_isLike_15 hOK ⟨⟨s0, s6⟩, ?_⟩
        rw [cA, if_pos (by omega)]
        refine ⟨32, s1, ⟨by omega, by omega⟩, ⟨t0, t6⟩, 32, t1, ⟨by omega, by omega⟩, ?_⟩
        rw [x1, y1]
        by_cases c1 : x.1 = y.1
        · rw [if_pos c1]
          refine ⟨32, s3, ⟨by omega, by omega⟩, 32, t3, ⟨by omega, by omega⟩, ?_⟩
          rw [x3, y3]
          by_cases c2 : x.2.2.1 = y.2.2.1
          · rw [if_pos c2, gw32_id (by omega) (by omega)]
            refine ih (i + 1) (by omega) (fun q hq => ?_)
            by_cases c3 : q = i
            · subst c3; rw [hx, hy]; show some (x.1, x.2.2.1) = some (y.1, y.2.2.1); rw [c1, c2]
            · exact heq q (by omega)
          · rw [if_neg c2]
            exact ⟨by rw [ne (fun w => c2 (congrArg (fun e : gF => e.2) w))]; rfl, rfl, rfl⟩
        · rw [if_neg c1]
          exact ⟨by rw [ne (fun w => c1 (congrArg (fun e : gF => e.1) w))]; rfl, rfl, rfl⟩
    exact lp A.length 0 (by omega) (fun q hq => by omega)
  · rw [if_neg c]
    exact ⟨by rw [decide_eq_false (fun w => c (by have := congrArg List.length w; rw [List.length_map, List.length_map] at this; omega))]; rfl, rfl, rfl⟩
theorem hOk_keep {sh : gS} {M M1 : gM} {a : Int} {ds : List hE} (h : hOk sh M a ds) (hf : ∀ b : Int, a ≤ b → b ≤ a + 5 → M1 b = M b) : hOk sh M1 a ds := by
  obtain ⟨hS, l, c, r⟩ := h
  refine ⟨hS, l, by rw [hf a (by omega) (by omega)]; exact c, fun j e hj => ?_⟩
  rw [← r j e hj]
  unfold hG
  rw [hf (a + 1) (by omega) (by omega), hf (a + 2) (by omega) (by omega), hf (a + 3) (by omega) (by omega), hf (a + 4) (by omega) (by omega), hf (a + 5) (by omega) (by omega)]
theorem sp_X11_picked {sh : gS} {M : gM} {z : aS} {h k : Int} (hz : cS sh M z) (hO : kOk (aCs z)) (hG : ∀ h : Int, 0 ≤ h → h < 4 → rGd ((aCs z).length : Int) (aRs z h)) : gC (gr 2 54) yX11_picked cX11_picked 4 (some (.int)) [(4, 0), (0, h), (0, k)] sh M (cPo sh M 0 (aPicked z h k) z) := by
  obtain ⟨hOK, hC, -, hRs, -⟩ := id hz
  have hl9 := hC.2.1
  unfold aPicked
  refine w_X11_picked hOK ⟨_, sp_X11_isHistory hOK, ?_⟩
  by_cases q1 : 0 ≤ h ∧ h ≤ 3
  · rw [decide_eq_true q1, if_neg bIt]
    refine ⟨_, sp_X1_has hOK hC, ?_⟩
    rw [hasI]
    by_cases q2 : bC (aCs z) k = true
    · rw [if_neg (bI_ne q2), if_pos (show (0 ≤ h ∧ h ≤ 3) ∧ bC (aCs z) k = true from ⟨q1, q2⟩)]
      obtain ⟨n, c, rfl, hk, hl⟩ := bC_at q2
      rw [Int.toNat_natCast]
      have rA := (hRs h q1.1 (by omega)).1
      have gA := hG h q1.1 (by omega)
      refine ⟨⟨q1.1, by omega⟩, _, sp_X1_markHistory hOK hC rA (fun x hx => (gA.2 x hx).2.1) (mSh470 hOK) (by decide) (by decide) (by omega), fun r1 M1 hP1 => ?_⟩
      obtain ⟨rfl, s1, p2, p3, p4⟩ := hP1
      have z1 : cS sh M1 z := cS_keep hz p2 (fun b hb => p3 b (by omega) (by omega))
      have s1' : mIs M1 470 0 (hMark (aCs z) (aRs z h)) := s1
      generalize hMark (aCs z) (aRs z h) = S at s1' ⊢
      -- what a measure comes to
      have ms : ∀ (M2 : gM) (j : Nat) (d : kC), cS sh M2 z → (aCs z)[j]? = some d → ∃ m, m ≤ 16 ∧ tOk sh M2 (cFT M2 (j : Int) d) m (kFF (aCs z) d) ∧ tOk sh M2 (cT M2 (j : Int)) 16 (kFs d) ∧ cFT M2 (j : Int) d + 2 < 440 ∧ cT M2 (j : Int) + 2 < 440 ∧ (kFF (aCs z) d).length + (kFs d).length ≤ 32 ∧ (∀ f ∈ kFF (aCs z) d, f.2 ≠ 0) ∧ (∀ f ∈ kFs d, f.2 ≠ 0) := fun M2 j d z2 hd => by
        obtain ⟨m, hm, hF⟩ := cFT_ok z2.1 z2.2.1 hd
        obtain ⟨l1, l2⟩ := cFT_lt z2.2.1 hd
        obtain ⟨f1, f2, f3⟩ := kFF_hd hO hd
        obtain ⟨g1, g2, g3⟩ := kFs_hd hO hd
        exact ⟨m, hm, hF, (cT_rng z2.2.1 hd).2.2, l1, l2, by omega, f2, g2⟩
      obtain ⟨m, hm, hF, hT, l1, l2, lt, f2, g2⟩ := ms M1 n c z1 hk
      refine ⟨rfl, p2, _, sp_X1_firstTree p2 z1.2.1 hk, _, sp_X1_tree p2 z1.2.1 hk, _, sp_X0_measure p2 (hSh440 p2) hF hT ⟨Or.inl l1, Or.inl l2⟩ lt f2 g2, fun r2 M2 hP2 => ?_⟩
      obtain ⟨rfl, c1, c2, c3, -⟩ := hP2
      refine ⟨rfl, c2, ?_⟩
      have lp : ∀ (m j : Nat) (M3 : gM), j + m = (aCs z).length → gOK sh M3 → (∀ b : Int, b < 440 ∨ 469 < b → M3 b = M1 b) → hOk sh M3 440 (mg 32 (kFF (aCs z) c) (kFs c) 0 0) → P_X11_picked_63 sh (cPo sh M 0 (fnd (pkQ (aCs z) S n) j m) z) h (n : Int) (j : Int) M3 := by
        intro m
        induction m with
        | zero =>
          intro j M3 hj hO3 hf hD
          have z3 : cS sh M3 z := cS_keep z1 hO3 (fun b hb => hf b (by omega))
          refine w_X11_picked_63 hO3 ?_
          rw [z3.2.1.1, if_neg (by omega)]
          exact ⟨rfl, rfl, z3, fun b hb => by rw [hf b (by omega)]; exact p3 b (by omega) (by omega)⟩
        | succ m ih =>
          intro j M3 hj hO3 hf hD
          have z3 : cS sh M3 z := cS_keep z1 hO3 (fun b hb => hf b (by omega))
          have hjl : j < (aCs z).length := by omega
          have hd := List.getElem?_eq_getElem hjl
          generalize (aCs z)[j] = d at hd
          have s3 : mIs M3 470 0 S := fun q hq => by rw [mB_row ⟨congrFun (hf 471 (by decide)) _, congrFun (hf 472 (by decide)) _⟩]; exact s1' q hq
          refine w_X11_picked_63 hO3 ?_
          rw [z3.2.1.1, if_pos (by omega), gw32_id (by omega) (by omega), fnd]
          have skip : pkQ (aCs z) S n j = false → ∀ M4, gOK sh M4 → (∀ b : Int, b < 440 ∨ 469 < b → M4 b = M1 b) → hOk sh M4 440 (mg 32 (kFF (aCs z) c) (kFs c) 0 0) → P_X11_picked_63 sh (cPo sh M 0 (if pkQ (aCs z) S n j = true then (j : Int) else fnd (pkQ (aCs z) S n) (j + 1) m) z) h (n : Int) ((j : Int) + 1) M4 := fun hq M4 hO4 hf4 hD4 => by
            rw [hq, if_neg (by decide)]
            exact ih (j + 1) M4 (by omega) hO4 hf4 hD4
          by_cases q3 : (j : Int) = (n : Int)
          · rw [if_pos q3]
            exact skip (by unfold pkQ; rw [decide_eq_true (show j = n by omega)]; rfl) M3 hO3 hf hD
          · rw [if_neg q3]
            have hpk : pkQ (aCs z) S n j = (S j && decide (chX (aCs z) n = chX (aCs z) j)) := by unfold pkQ; rw [decide_eq_false (show ¬ j = n by omega)]; rfl
            refine ⟨_, sp_X3_has hO3 (mSh470 hO3) (by decide), ?_⟩
            rw [mHas_of s3 j (by omega)]
            cases hs : S j with
            | false => rw [if_pos bIf]; exact skip (by rw [hpk, hs]; rfl) M3 hO3 hf hD
            | true =>
              rw [if_neg bIt]
              rw [hs, Bool.true_and] at hpk
              obtain ⟨m', hm', hF', hT', l1', l2', lt', f2', g2'⟩ := ms M3 j d z3 hd
              refine ⟨_, sp_X1_firstTree hO3 z3.2.1 hd, _, sp_X1_tree hO3 z3.2.1 hd, _, sp_X0_measure hO3 (hSh455 hO3) hF' hT' ⟨Or.inl (by omega), Or.inl (by omega)⟩ lt' f2' g2', fun r4 M4 hP4 => ?_⟩
              obtain ⟨rfl, d1, d2, d3, -⟩ := hP4
              have hD4 : hOk sh M4 440 (mg 32 (kFF (aCs z) c) (kFs c) 0 0) := hOk_keep hD (fun b b0 b1 => d3 b (by omega))
              have hf4 : ∀ b : Int, b < 440 ∨ 469 < b → M4 b = M1 b := fun b hb => by rw [d3 b (by omega)]; exact hf b hb
              refine ⟨rfl, d2, _, sp_X0_isLike d2 hD4 d1, ?_⟩
              rw [← chX_at hk, ← chX_at hd, ← hpk]
              cases hb : pkQ (aCs z) S n j with
              | false =>
                rw [if_pos bIf]
                rw [hb] at skip
                exact skip rfl M4 d2 hf4 hD4
              | true =>
                rw [if_neg bIt, if_pos rfl]
                exact ⟨rfl, rfl, cS_keep z1 d2 (fun b hb => hf4 b (by omega)), fun b hb => by rw [hf4 b (by omega)]; exact p3 b (by omega) (by omega)⟩
      exact lp (aCs z).length 0 M2 (by omega) c2 (fun b hb => c3 b (by omega)) c1
    · rw [if_pos (bI_eq (by simpa using q2)), if_neg (fun w => q2 w.2)]; exact cPo_same hz rfl
  · rw [decide_eq_false q1, if_pos bIf, if_neg (fun w => q1 w.1)]; exact cPo_same hz rfl
