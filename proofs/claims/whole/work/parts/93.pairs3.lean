-- ==== RENAMED: the class's search
def mtS (M : gM) (a : Int) (gl nl ps : List (Int × Int)) : Prop := ∀ (x y : Nat) (g n : Int × Int), gl[x]? = some g → nl[y]? = some n → M (a + 11) (16 * (x : Int) + (y : Int)) = if (u1 ps g.2 || u2 ps n.2) = true then gfl FP.fconst0 else lkF g.1 n.1
def cpS (M : gM) (a : Int) (gl nl ps : List (Int × Int)) (vs : List Int) : Prop := M a 6 = (ps.length : Int) ∧ ps.length ≤ 16 ∧ rw_ (M (a + 6)) 0 (ps.map Prod.fst) ∧ rw_ (M (a + 7)) 0 (ps.map Prod.snd) ∧ rw_ (M (a + 8)) 0 vs ∧ vs.length = ps.length ∧ ∀ (k : Nat) (p : Int × Int) (v : Int), ps[k]? = some p → vs[k]? = some v → ∃ g ∈ gl, ∃ n ∈ nl, p = (g.2, n.2) ∧ v = lkF g.1 n.1
def upS (sh : gS) (M : gM) (a : Int) (gl nl ps : List (Int × Int)) : Prop := gOK sh M ∧ gaS M a gl nl ∧ mtS M a gl nl ps ∧ ∃ vs, cpS M a gl nl ps vs
def pnR (gl nl ps : List (Int × Int)) (s : Int × Int × Int) (x1 x2 x3 : Int) : Prop := s.2.2 = x3 ∧ ((s.1 = -1 ∧ x1 = -1 ∧ x2 = -1) ∨ ∃ (gi nj : Nat) (g n : Int × Int), gl[gi]? = some g ∧ nl[nj]? = some n ∧ x1 = (gi : Int) ∧ x2 = (nj : Int) ∧ s.1 = g.2 ∧ s.2.1 = n.2 ∧ x3 = lkF g.1 n.1 ∧ u1 ps g.2 = false)
theorem ge60 : (Op.cmpValue (FP.fcmp (gu (gfl FP.fconst0)) (gu (gfl 1058642330))) .l).toInt < 0 := by decide +kernel
theorem fre_pos {ps gl : List (Int × Int)} {g : Int × Int} (h : g ∈ gl) (hu : u1 ps g.2 = false) : 1 ≤ fre ps gl := by
  unfold fre
  exact List.countP_pos_iff.mpr ⟨g, h, by rw [hu]; rfl⟩
def frP (M M1 : gM) (a : Int) : Prop := (∀ b : Int, b ≠ a → b ≠ a + 6 → b ≠ a + 7 → b ≠ a + 8 → b ≠ a + 11 → M1 b = M b) ∧ ∀ f : Int, f ≠ 6 → M1 a f = M a f
theorem sp_X0_pairNext {sh : gS} {M : gM} {a : Int} {gl nl ps : List (Int × Int)} (hS : hSh sh a) (hK : kSh sh a) (hU : upS sh M a gl nl ps) (u1' : plU gl) (u2' : plU nl) (hg0 : ∀ g ∈ gl, 0 ≤ g.2) (hroom : ps.length + fre ps gl ≤ 16) :
    gC (gr 0 0) yX0_pairNext cX0_pairNext 7 (some (.boolean)) [(4, a)] sh M (gPm sh (fun r M1 => r = some (0, if (bcO ps nl gl bc0).1 = -1 then 0 else 1) ∧ gOK sh M1 ∧ frP M M1 a ∧ ((bcO ps nl gl bc0).1 = -1 → upS sh M1 a gl nl ps) ∧ ((bcO ps nl gl bc0).1 ≠ -1 → upS sh M1 a gl nl (ps ++ [((bcO ps nl gl bc0).1, (bcO ps nl gl bc0).2.1)])))) := by
  obtain ⟨hs0, -, -, -, s4, s5, s758⟩ := id hS
  obtain ⟨hOK, hA, hT, vs, hC⟩ := id hU
  obtain ⟨k6, k7, k8, k9, k10, k11, -, -, -, k0, k1⟩ := id hK
  obtain ⟨a1, a2, a3, a4, a5, a6⟩ := id hA
  obtain ⟨c1, c2, c3, c4, c5, c6, c7⟩ := id hC
  refine w_X0_pairNext hOK ?_
  generalize hR : bcO ps nl gl bc0 = R
  generalize hQ : (gPm sh (fun r M1 => r = some (0, if R.1 = -1 then 0 else 1) ∧ gOK sh M1 ∧ frP M M1 a ∧ (R.1 = -1 → upS sh M1 a gl nl ps) ∧ (R.1 ≠ -1 → upS sh M1 a gl nl (ps ++ [(R.1, R.2.1)])))) = Q
  -- what is done with the best one
  have fin : ∀ (gi nj : Nat) (g n : Int × Int) (v : Int), gl[gi]? = some g → nl[nj]? = some n → R.1 = g.2 → R.2.1 = n.2 → v = lkF g.1 n.1 → u1 ps g.2 = false → P_X0_pairNext_103 sh Q a (gi : Int) (nj : Int) v 0 M := by
    intro gi nj g n v hgi hnj r1 r2 hv hu
    have hgl := (List.getElem?_eq_some_iff.mp hgi).1
    have hnl := (List.getElem?_eq_some_iff.mp hnj).1
    have hgm := List.mem_of_getElem? hgi
    have hnm := List.mem_of_getElem? hnj
    have hfr := fre_pos hgm hu
    have q5 := a5 gi g hgi
    have q6 := a6 nj n hnj
    have lp : ∀ (m k : Nat) (M1 : gM), k + m = 16 → gOK sh M1 → (∀ b : Int, b ≠ a + 11 → M1 b = M b) → (∀ x y : Nat, x < 16 → y < 16 → M1 (a + 11) (16 * (x : Int) + (y : Int)) = if (x = gi ∧ y < k) ∨ (y = nj ∧ x < k) then gfl FP.fconst0 else M (a + 11) (16 * (x : Int) + (y : Int))) → P_X0_pairNext_103 sh Q a (gi : Int) (nj : Int) v (k : Int) M1 := by
      intro m
      induction m with
      | zero =>
        intro k M1 hk hO1 hf hx
        have hk16 : k = 16 := by omega
        refine w_X0_pairNext_103 hO1 ?_
        rw [if_neg (by omega)]
        simp (disch := omega) only [gU_cel]
        rw [hf a (by omega), hf (a + 9) (by omega), hf (a + 4) (by omega), hf (a + 5) (by omega), hf (a + 10) (by omega), c1, q5.2.2.2, q6.2.2.2, gw32_id (z := (ps.length : Int) + 1) (by omega) (by omega)]
        refine ⟨⟨hs0, s758⟩, 16, k9, ⟨by omega, by omega⟩, 32, s4, ⟨q5.1, by have := q5.2.1; omega⟩, 16, k6, ⟨by omega, by omega⟩, 16, k10, ⟨by omega, by omega⟩, 32, s5, ⟨q6.1, by have := q6.2.1; omega⟩, 16, k7, ⟨by omega, by omega⟩, 16, k8, ⟨by omega, by omega⟩, ?_⟩
        have hrm : R.1 ≠ -1 := by have := hg0 g hgm; omega
        rw [← hQ]
        have hO2 : gOK sh (gU (gU (gU (gU M1 (a + 6) (ps.length : Int) g.2) (a + 7) (ps.length : Int) n.2) (a + 8) (ps.length : Int) v) a 6 ((ps.length : Int) + 1)) := gOK_o (f := 6) (gOK_5 (gOK_i (gOK_i hO1 k6) k7) k8) hs0 rfl rfl
        generalize hM2 : gU (gU (gU (gU M1 (a + 6) (ps.length : Int) g.2) (a + 7) (ps.length : Int) n.2) (a + 8) (ps.length : Int) v) a 6 ((ps.length : Int) + 1) = M2 at hO2 ⊢
        have fr : ∀ b : Int, b ≠ a → b ≠ a + 6 → b ≠ a + 7 → b ≠ a + 8 → b ≠ a + 11 → M2 b = M b := fun b b0 b1 b2 b3 b4 => by rw [← hM2, gU_cell _ _ _ b0, gU_cell _ _ _ b3, gU_cell _ _ _ b2, gU_cell _ _ _ b1]; exact hf b b4
        have f6 : ∀ f : Int, f ≠ 6 → M2 a f = M a f := fun f hf6 => by rw [← hM2, gU_idx hf6, gU_cell _ _ _ (by omega), gU_cell _ _ _ (by omega), gU_cell _ _ _ (by omega), hf a (by omega)]
        have e11 : M2 (a + 11) = M1 (a + 11) := by rw [← hM2, gU_cell _ _ _ (by omega), gU_cell _ _ _ (by omega), gU_cell _ _ _ (by omega), gU_cell _ _ _ (by omega)]
        refine ⟨rfl, by rw [if_neg hrm], hO2, ⟨fr, f6⟩, fun w => absurd w hrm, fun _ => ⟨hO2, gaS_keep hA (f6 10 (by decide)) (f6 11 (by decide)) (fun b hb => fr b (by omega) (by omega) (by omega) (by omega) (by omega)), fun x y g' n' hx' hy' => ?_, vs ++ [v], ?_⟩⟩
        · have lx := (List.getElem?_eq_some_iff.mp hx').1
          have ly := (List.getElem?_eq_some_iff.mp hy').1
          rw [e11, hx x y (by omega) (by omega), hT x y g' n' hx' hy', u1_app, u2_app, r1, r2]
          show _ = if ((u1 ps g'.2 || decide (g.2 = g'.2)) || (u2 ps n'.2 || decide (n.2 = n'.2))) = true then _ else _
          by_cases cx : x = gi
          · subst cx
            rw [hx'] at hgi; cases hgi
            rw [if_pos (by omega), decide_eq_true rfl, Bool.or_true, Bool.true_or, if_pos rfl]
          · have nx : ¬ g.2 = g'.2 := fun w => cx (u1' x gi g' g hx' hgi w.symm)
            rw [decide_eq_false nx, Bool.or_false]
            by_cases cy : y = nj
            · subst cy
              rw [hy'] at hnj; cases hnj
              rw [if_pos (by omega), decide_eq_true rfl, Bool.or_true, Bool.or_true, if_pos rfl]
            · have ny : ¬ n.2 = n'.2 := fun w => cy (u2' y nj n' n hy' hnj w.symm)
              rw [decide_eq_false ny, Bool.or_false, if_neg (by omega)]
        · refine ⟨by rw [← hM2, gU_same, List.length_append]; rfl, by rw [List.length_append]; show ps.length + 1 ≤ 16; omega, ?_, ?_, ?_, by rw [List.length_append, List.length_append, c6]; rfl, fun k p w hp hw => ?_⟩
          · rw [List.map_append, r1]
            refine rw_end (fun j u hj => ?_) ?_
            · have := (List.getElem?_eq_some_iff.mp hj).1
              rw [List.length_map] at this
              rw [← hM2, gU_cell _ _ _ (by omega), gU_cell _ _ _ (by omega), gU_cell _ _ _ (by omega), gU_idx (by omega), hf (a + 6) (by omega)]
              exact c3 j u hj
            · rw [List.length_map, Int.zero_add, ← hM2, gU_cell _ _ _ (by omega), gU_cell _ _ _ (by omega), gU_cell _ _ _ (by omega), gU_same]
          · rw [List.map_append, r2]
            refine rw_end (fun j u hj => ?_) ?_
            · have := (List.getElem?_eq_some_iff.mp hj).1
              rw [List.length_map] at this
              rw [← hM2, gU_cell _ _ _ (by omega), gU_cell _ _ _ (by omega), gU_idx (by omega), gU_cell _ _ _ (by omega), hf (a + 7) (by omega)]
              exact c4 j u hj
            · rw [List.length_map, Int.zero_add, ← hM2, gU_cell _ _ _ (by omega), gU_cell _ _ _ (by omega), gU_same]
          · refine rw_end (fun j u hj => ?_) ?_
            · have := (List.getElem?_eq_some_iff.mp hj).1
              rw [← hM2, gU_cell _ _ _ (by omega), gU_idx (by omega), gU_cell _ _ _ (by omega), gU_cell _ _ _ (by omega), hf (a + 8) (by omega)]
              exact c5 j u hj
            · rw [c6, Int.zero_add, ← hM2, gU_cell _ _ _ (by omega), gU_same]
          · by_cases ck : k < ps.length
            · rw [List.getElem?_append_left ck] at hp
              rw [List.getElem?_append_left (by omega)] at hw
              exact c7 k p w hp hw
            · rw [List.getElem?_append_right (by omega)] at hp
              rw [List.getElem?_append_right (by omega)] at hw
              have hkl := (List.getElem?_eq_some_iff.mp hp).1
              rw [List.length_singleton] at hkl
              rw [show k - ps.length = 0 by omega] at hp
              rw [show k - vs.length = 0 by omega] at hw
              cases hp; cases hw
              exact ⟨g, hgm, n, hnm, by rw [r1, r2], hv⟩
      | succ m ih =>
        intro k M1 hk hO1 hf hx
        refine w_X0_pairNext_103 hO1 ?_
        rw [if_pos (by omega)]
        refine ⟨⟨hs0, s758⟩, 256, k11, ?_⟩
        simp (disch := omega) only [gw32_id]
        refine ⟨⟨by omega, by omega⟩, ⟨by omega, by omega⟩, ih (k + 1) _ (by omega) (gOK_5 (gOK_5 hO1 k11) k11) (fun b hb => by rw [gU_cell _ _ _ hb, gU_cell _ _ _ hb]; exact hf b hb) (fun x y x0 y0 => ?_)⟩
        by_cases e1 : 16 * (x : Int) + (y : Int) = (k : Int) * 16 + (nj : Int)
        · rw [e1, gU_same, if_pos (by omega)]
        · rw [gU_idx e1]
          by_cases e2 : 16 * (x : Int) + (y : Int) = (gi : Int) * 16 + (k : Int)
          · rw [e2, gU_same, if_pos (by omega)]
          · rw [gU_idx e2, hx x y x0 y0]
            by_cases c : (x = gi ∧ y < k) ∨ (y = nj ∧ x < k)
            · rw [if_pos c, if_pos (by omega)]
            · rw [if_neg c, if_neg (by omega)]
    exact lp 16 0 M rfl hOK (fun _ _ => rfl) (fun x y _ _ => by rw [if_neg (by omega)])
  have out : ∀ (suf pre : List (Int × Int)) (s : Int × Int × Int) (x1 x2 x3 : Int), gl = pre ++ suf → pnR gl nl ps s x1 x2 x3 → bcO ps nl suf s = R → P_X0_pairNext_9 sh Q a x1 x2 x3 (pre.length : Int) M := by
    intro suf
    induction suf with
    | nil =>
      intro pre s x1 x2 x3 e hs hb
      have hlen := congrArg List.length e
      rw [List.append_nil] at hlen
      refine w_X0_pairNext_9 hOK ⟨⟨hs0, s758⟩, ?_⟩
      rw [a1, if_neg (by omega)]
      have hb : s = R := hb
      subst hb
      rcases hs with ⟨h3, ⟨b1, b2, b3⟩ | ⟨gi, nj, g, n, d1, d2, d3, d4, d5, d6, d7, d8⟩⟩
      · rw [if_pos (by omega), ← hQ]
        exact ⟨rfl, by rw [if_pos b1], hOK, ⟨fun _ _ _ _ _ _ => rfl, fun _ _ => rfl⟩, fun _ => hU, fun w => absurd b1 w⟩
      · have hfr := fre_pos (List.mem_of_getElem? d1) d8
        rw [d3, d4, if_neg (by omega), if_neg (by omega), c1, if_pos (by omega)]
        exact fin gi nj g n x3 d1 d2 d5 d6 d7 d8
    | cons g r ih =>
      intro pre s x1 x2 x3 e hs hb
      have hlen := congrArg List.length e
      rw [List.length_append, List.length_cons] at hlen
      have hg : gl[pre.length]? = some g := at_mid e
      refine w_X0_pairNext_9 hOK ⟨⟨hs0, s758⟩, ?_⟩
      rw [a1, if_pos (by omega)]
      rw [bcO] at hb
      have nx := ih (pre ++ [g])
      rw [List.length_append] at nx
      have nx : ∀ (s : Int × Int × Int) (x1 x2 x3 : Int), _ := nx
      have inn : ∀ (suf2 pre2 : List (Int × Int)) (s : Int × Int × Int) (x1 x2 x3 : Int), nl = pre2 ++ suf2 → pnR gl nl ps s x1 x2 x3 → bcO ps nl r (if u1 ps g.2 = true then s else bcI ps g suf2 s) = R → P_X0_pairNext_21 sh Q a x1 x2 x3 (pre.length : Int) (pre2.length : Int) M := by
        intro suf2
        induction suf2 with
        | nil =>
          intro pre2 s x1 x2 x3 e2 hs hb
          have hlen2 := congrArg List.length e2
          rw [List.append_nil] at hlen2
          refine w_X0_pairNext_21 hOK ⟨⟨hs0, s758⟩, ?_⟩
          rw [a2, if_neg (by omega), gw32_id (by omega) (by omega)]
          refine nx s x1 x2 x3 (by rw [e]; simp) hs ?_
          rw [← hb]
          show bcO ps nl r s = bcO ps nl r (if u1 ps g.2 = true then s else s)
          rw [ite_self]
        | cons n w ih2 =>
          intro pre2 s x1 x2 x3 e2 hs hb
          have hlen2 := congrArg List.length e2
          rw [List.length_append, List.length_cons] at hlen2
          have hn : nl[pre2.length]? = some n := at_mid e2
          have nx2 := ih2 (pre2 ++ [n])
          rw [List.length_append] at nx2
          have nx2 : ∀ (s : Int × Int × Int) (x1 x2 x3 : Int), _ := nx2
          have cell := hT pre.length pre2.length g n hg hn
          refine w_X0_pairNext_21 hOK ⟨⟨hs0, s758⟩, ?_⟩
          rw [a2, if_pos (by omega)]
          simp (disch := omega) only [gw32_id]
          refine ⟨256, k11, ⟨by omega, by omega⟩, ?_⟩
          rw [show (pre.length : Int) * 16 + (pre2.length : Int) = 16 * (pre.length : Int) + (pre2.length : Int) by omega, cell]
          rw [bcI] at hb
          have skip : (if u1 ps g.2 = true then s else bcI ps g w (if bcC ps g n s = true then (g.2, n.2, lkF g.1 n.1) else s)) = (if u1 ps g.2 = true then s else bcI ps g w s) → P_X0_pairNext_21 sh Q a x1 x2 x3 (pre.length : Int) ((pre2.length : Int) + 1) M := fun hk => by
            rw [hk] at hb
            exact nx2 s x1 x2 x3 (by rw [e2]; simp) hs hb
          cases hu1 : u1 ps g.2 with
          | true =>
            rw [Bool.true_or, if_pos rfl, if_pos ge60]
            exact skip (by rw [hu1, if_pos rfl, if_pos rfl])
          | false =>
            rw [hu1, if_neg (show ¬ false = true by decide)] at hb
            rw [hu1, if_neg (show ¬ false = true by decide), if_neg (show ¬ false = true by decide)] at skip
            cases hu2 : u2 ps n.2 with
            | true =>
              rw [Bool.or_true, if_pos rfl, if_pos ge60]
              exact skip (by rw [if_neg (show ¬ bcC ps g n s = true by unfold bcC; rw [hu2]; simp)])
            | false =>
              rw [Bool.or_false, if_neg (show ¬ false = true by decide)]
              have hc : bcC ps g n s = (ge6 (lkF g.1 n.1) && gtF (lkF g.1 n.1) s.2.2) := by unfold bcC; rw [hu2, Bool.not_false, Bool.true_and]
              rw [hc] at hb skip
              by_cases q1 : (Op.cmpValue (FP.fcmp (gu (lkF g.1 n.1)) (gu (gfl 1058642330))) .l).toInt < 0
              · rw [if_pos q1]
                exact skip (by rw [if_neg (by unfold ge6; rw [decide_eq_true q1]; simp)])
              · rw [if_neg q1]
                have hg6 : ge6 (lkF g.1 n.1) = true := by unfold ge6; rw [decide_eq_false q1]; rfl
                rw [hg6, Bool.true_and] at hb skip
                by_cases q2 : (0 : Int) < (Op.cmpValue (FP.fcmp (gu (lkF g.1 n.1)) (gu x3)) .l).toInt
                · rw [if_pos q2]
                  rw [if_pos (show gtF (lkF g.1 n.1) s.2.2 = true by rw [hs.1]; exact decide_eq_true q2)] at hb
                  refine nx2 (g.2, n.2, lkF g.1 n.1) (pre.length : Int) (pre2.length : Int) (lkF g.1 n.1) (by rw [e2]; simp) ⟨rfl, Or.inr ⟨pre.length, pre2.length, g, n, hg, hn, rfl, rfl, rfl, rfl, rfl, hu1⟩⟩ ?_
                  rw [if_neg (by rw [hu1]; decide)]; exact hb
                · rw [if_neg q2]
                  exact skip (by rw [if_neg (show ¬ gtF (lkF g.1 n.1) s.2.2 = true by rw [hs.1]; unfold gtF; rw [decide_eq_false q2]; decide)])
      exact inn nl [] s x1 x2 x3 rfl hs hb
  exact out gl [] bc0 (-1) (-1) (gfl FP.fconst0) rfl ⟨rfl, Or.inl ⟨rfl, rfl, rfl⟩⟩ hR
