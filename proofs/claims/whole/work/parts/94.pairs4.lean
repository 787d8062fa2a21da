-- ==== RENAMED: pairUp of the class
theorem prs_none {gl nl ps : List (Int × Int)} (h : fre ps gl = 0) : ∀ n : Nat, prs gl nl n ps = ps
  | 0 => rfl
  | n + 1 => by
    rw [prs]
    rcases bcO_at ps nl gl bc0 with e | ⟨x, a, b, -⟩
    · rw [e]; exact if_pos rfl
    · have := fre_pos a b; omega
theorem sp_X0_pairUp {sh : gS} {M : gM} {a : Int} {fs gs : List gF} (hOK : gOK sh M) (hD : hOk sh M a (mg 32 fs gs 0 0)) (hK : kSh sh a) (tF : tSrt fs) (tG : tSrt gs) (cF : ∀ f ∈ fs, cRg f.2) (cG : ∀ g ∈ gs, cRg g.2) (lF : fs.length ≤ 16) (lG : gs.length ≤ 16) :
    gC (gr 3 73) yX0_pairUp cX0_pairUp 3 none [(4, a)] sh M (gPm sh (fun r M1 => r = none ∧ gOK sh M1 ∧ (∃ vs, cpS M1 a (goL gs fs 0) (goL fs gs 0) (prF fs gs) vs) ∧ ∀ b : Int, b < a ∨ a + 14 < b → M1 b = M b)) := by
  obtain ⟨hS, hl, hc, hr⟩ := id hD
  obtain ⟨s0, s1, s2, s3, s4, s5, s758⟩ := id hS
  obtain ⟨k6, k7, k8, k9, k10, k11, -, -, -, k0, k1⟩ := id hK
  have z1 : ∀ f ∈ fs, f.2 ≠ 0 := fun f hf => by have := (cF f hf).1; omega
  have z2 : ∀ f ∈ gs, f.2 ≠ 0 := fun f hf => by have := (cG f hf).1; omega
  obtain ⟨m1, m2, m3⟩ := mg_go 32 fs gs 0 0 tF tG z1 z2 (by omega)
  have l1 := goL_len gs fs 0
  have l2 := goL_len fs gs 0
  have hO1 : gOK sh (gU M a 6 0) := gOK_o (f := 6) hOK s0 rfl rfl
  have hD1 : hOk sh (gU M a 6 0) a (mg 32 fs gs 0 0) := ⟨hS, hl, by rw [gU_idx (by decide)]; exact hc, fun j e hj => by
    have := hr j e hj
    rw [← this]
    unfold hG
    rw [gU_cell _ _ _ (by omega), gU_cell _ _ _ (by omega), gU_cell _ _ _ (by omega), gU_cell _ _ _ (by omega), gU_cell _ _ _ (by omega)]⟩
  refine w_X0_pairUp hOK ⟨⟨s0, s758⟩, _, sp_X0_gather hO1 hD1 hK (by
    have := congrArg List.length m1
    rw [List.length_map] at this; omega) (by
    have := congrArg List.length m2
    rw [List.length_map] at this; omega) m3, fun r1 M1 hP1 => ?_⟩
  obtain ⟨rfl, g1, g2, g3, g4⟩ := hP1
  rw [m1, m2] at g2
  refine ⟨rfl, g1, ?_⟩
  have f1 : ∀ b : Int, b < a ∨ a + 14 < b → M1 b = M b := fun b hb => by rw [g3 b (by omega) (by omega) (by omega), gU_cell _ _ _ (by omega)]
  have f6 : M1 a 6 = 0 := by rw [g4 6 (by decide) (by decide), gU_same]
  have cgl : ∀ g ∈ goL gs fs 0, cRg g.1 := fun g hg => by
    obtain ⟨k, f, a, b, -⟩ := goL_mem hg
    rw [b]; exact cF f (List.mem_of_getElem? a)
  have cnl : ∀ g ∈ goL fs gs 0, cRg g.1 := fun g hg => by
    obtain ⟨k, f, a, b, -⟩ := goL_mem hg
    rw [b]; exact cG f (List.mem_of_getElem? a)
  have p1 := goL_srt gs fs 0
  have p2 := goL_srt fs gs 0
  unfold prF
  generalize goL gs fs 0 = gl at *
  generalize goL fs gs 0 = nl at *
  have pair : ∀ (m k : Nat) (ps : List (Int × Int)) (M1 : gM), k + m = 16 → fre ps gl ≤ m → ps.length + fre ps gl ≤ 16 → upS sh M1 a gl nl ps → (∀ b : Int, b < a ∨ a + 14 < b → M1 b = M b) → P_X0_pairUp_80 sh (gPm sh (fun r M1 => r = none ∧ gOK sh M1 ∧ (∃ vs, cpS M1 a gl nl (prs gl nl (m + 1) ps) vs) ∧ ∀ b : Int, b < a ∨ a + 14 < b → M1 b = M b)) a (k : Int) M1 := by
    intro m
    induction m with
    | zero =>
      intro k ps M1 hk h1 h2 hU hf
      refine w_X0_pairUp_80 hU.1 ?_
      rw [if_neg (by omega), prs_none (by omega)]
      exact ⟨rfl, rfl, hU.1, hU.2.2.2, hf⟩
    | succ m ih =>
      intro k ps M1 hk h1 h2 hU hf
      refine w_X0_pairUp_80 hU.1 ?_
      rw [if_pos (by omega)]
      refine ⟨⟨s0, s758⟩, _, sp_X0_pairNext hS hK hU (plU_of p1.1) (plU_of p2.1) (fun g hg => p1.2 g hg) h2, fun r2 M2 hP2 => ?_⟩
      obtain ⟨rfl, b1, b2, b3, b4⟩ := hP2
      have hf2 : ∀ b : Int, b < a ∨ a + 14 < b → M2 b = M b := fun b hb => by rw [b2.1 b (by omega) (by omega) (by omega) (by omega) (by omega)]; exact hf b hb
      refine ⟨_, rfl, b1, ?_⟩
      rw [prs]
      by_cases c : (bcO ps nl gl bc0).1 = -1
      · rw [if_pos c, if_pos rfl, if_pos c]
        exact ⟨rfl, rfl, b1, (b3 c).2.2.2, hf2⟩
      · rw [if_neg c, if_neg (by decide), if_neg c, gw32_id (by omega) (by omega)]
        have hd : fre (ps ++ [((bcO ps nl gl bc0).1, (bcO ps nl gl bc0).2.1)]) gl + 1 ≤ fre ps gl := by
          refine fre_dec ?_
          rcases bcO_at ps nl gl bc0 with e | ⟨x, a, b, d, -⟩
          · rw [e] at c; exact absurd rfl c
          · exact ⟨x, a, b, d⟩
        exact ih (k + 1) _ M2 (by omega) (by omega) (by rw [List.length_append]; show ps.length + 1 + _ ≤ 16; omega) (b4 c) hf2
  have row : ∀ (m x : Nat) (M1 : gM), x + m = gl.length → gOK sh M1 → gaS M1 a gl nl → M1 a 6 = 0 → (∀ b : Int, b < a ∨ a + 14 < b → M1 b = M b) → (∀ (x' y : Nat) (g n : Int × Int), x' < x → gl[x']? = some g → nl[y]? = some n → M1 (a + 11) (16 * (x' : Int) + (y : Int)) = lkF g.1 n.1) → P_X0_pairUp_11 sh (gPm sh (fun r M1 => r = none ∧ gOK sh M1 ∧ (∃ vs, cpS M1 a gl nl (prs gl nl 17 []) vs) ∧ ∀ b : Int, b < a ∨ a + 14 < b → M1 b = M b)) a (x : Int) M1 := by
    intro m
    induction m with
    | zero =>
      intro x M1 hx hO hA h6 hf hcell
      refine w_X0_pairUp_11 hO ⟨⟨s0, s758⟩, ?_⟩
      rw [hA.1, if_neg (by omega)]
      have hfr : fre [] gl ≤ 16 := Nat.le_trans List.countP_le_length hA.2.2.1
      exact pair 16 0 [] M1 rfl hfr (by show 0 + _ ≤ 16; omega) ⟨hO, hA, fun x' y g n hx' hy => by
        have hl := (List.getElem?_eq_some_iff.mp hx').1
        rw [hcell x' y g n (by omega) hx' hy]; rfl, [], h6, by decide, rw_nil, rw_nil, rw_nil, rfl, fun k p v hp => by cases hp⟩ hf
    | succ m ih =>
      intro x M1 hx hO hA h6 hf hcell
      obtain ⟨g, hg⟩ : ∃ g, gl[x]? = some g := ⟨_, List.getElem?_eq_getElem (by omega)⟩
      refine w_X0_pairUp_11 hO ⟨⟨s0, s758⟩, ?_⟩
      rw [hA.1, if_pos (by omega)]
      have l16 := hA.2.2.1
      have n16 := hA.2.2.2.1
      have col : ∀ (q y : Nat) (M2 : gM), y + q = nl.length → gOK sh M2 → gaS M2 a gl nl → M2 a 6 = 0 → (∀ b : Int, b < a ∨ a + 14 < b → M2 b = M b) → (∀ (x' y' : Nat) (g n : Int × Int), x' < x ∨ (x' = x ∧ y' < y) → gl[x']? = some g → nl[y']? = some n → M2 (a + 11) (16 * (x' : Int) + (y' : Int)) = lkF g.1 n.1) → P_X0_pairUp_21 sh (gPm sh (fun r M1 => r = none ∧ gOK sh M1 ∧ (∃ vs, cpS M1 a gl nl (prs gl nl 17 []) vs) ∧ ∀ b : Int, b < a ∨ a + 14 < b → M1 b = M b)) a (x : Int) (y : Int) M2 := by
        intro q
        induction q with
        | zero =>
          intro y M2 hy hO2 hA2 h62 hf2 hc2
          refine w_X0_pairUp_21 hO2 ⟨⟨s0, s758⟩, ?_⟩
          rw [hA2.2.1, if_neg (by omega), gw32_id (by omega) (by omega)]
          exact ih (x + 1) M2 (by omega) hO2 hA2 h62 hf2 (fun x' y' g n hx' hg' hn' => by
            have := (List.getElem?_eq_some_iff.mp hn').1
            exact hc2 x' y' g n (by omega) hg' hn')
        | succ q ih2 =>
          intro y M2 hy hO2 hA2 h62 hf2 hc2
          obtain ⟨n, hn⟩ : ∃ n, nl[y]? = some n := ⟨_, List.getElem?_eq_getElem (by omega)⟩
          have q5 := hA2.2.2.2.2.1 x g hg
          have q6 := hA2.2.2.2.2.2 y n hn
          refine w_X0_pairUp_21 hO2 ⟨⟨s0, s758⟩, ?_⟩
          rw [hA2.2.1, if_pos (by omega)]
          refine ⟨16, k9, ⟨by omega, by omega⟩, 32, s2, ⟨q5.1, by have := q5.2.1; omega⟩, 16, k10, ⟨by omega, by omega⟩, 32, s3, ⟨q6.1, by have := q6.2.1; omega⟩, ?_⟩
          rw [q5.2.2.1, q6.2.2.1]
          refine ⟨_, sp_X0_alike hO2 s0 hK (cgl g (List.mem_of_getElem? hg)) (cnl n (List.mem_of_getElem? hn)), fun r3 M3 hP3 => ?_⟩
          obtain ⟨rfl, c1, c2⟩ := hP3
          refine ⟨_, rfl, c1, 256, k11, ?_⟩
          simp (disch := omega) only [gw32_id]
          refine ⟨⟨by omega, by omega⟩, ih2 (y + 1) _ (by omega) (gOK_5 c1 k11) (gaS_keep hA2 (by rw [gU_cell _ _ _ (by omega), c2 a (by omega)]) (by rw [gU_cell _ _ _ (by omega), c2 a (by omega)]) (fun b hb => by rw [gU_cell _ _ _ (by omega), c2 b (by omega)])) (by rw [gU_cell _ _ _ (by omega), c2 a (by omega)]; exact h62) (fun b hb => by rw [gU_cell _ _ _ (by omega), c2 b (by omega)]; exact hf2 b hb) (fun x' y' g' n' hx' hg' hn' => ?_)⟩
          have lx := (List.getElem?_eq_some_iff.mp hg').1
          have ly := (List.getElem?_eq_some_iff.mp hn').1
          by_cases e : x' = x ∧ y' = y
          · obtain ⟨rfl, rfl⟩ := e
            rw [hg] at hg'; rw [hn] at hn'
            cases hg'; cases hn'
            rw [show 16 * (x' : Int) + (y' : Int) = (x' : Int) * 16 + (y' : Int) by omega, gU_same]
          · rw [gU_idx (by omega), c2 (a + 11) (by omega)]
            exact hc2 x' y' g' n' (by omega) hg' hn'
      exact col nl.length 0 M1 (by omega) hO hA h6 hf (fun x' y' g n hx' => hcell x' y' g n (by omega))
  exact row gl.length 0 M1 (by omega) g1 g2 f6 f1 (fun x' _ _ _ hx' => by omega)
