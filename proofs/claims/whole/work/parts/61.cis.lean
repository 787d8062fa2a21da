-- ==== commitIs on both sides
def cUnl (cs : List kC) (c : kC) : Int := ((mg 32 (kFF cs c) (kFs c) 0 0).length : Int)
def cIs (cs : List kC) (k : Nat) (c : kC) (i : Int) : Int :=
  if i = 0 then ((kPs c).length : Int) else if i = 1 then kWh c else if i = 2 then kHr c else if i = 3 then ((kFs c).length : Int) else if i = 4 then ((kMs c).length : Int) else if i = 5 then kGen cs (k : Int) else if i = 6 then cnt (kAnc cs k) 120 else if i = 7 then kChl (k : Int) (cs.drop (k + 1)) else if i = 8 then cUnl cs c else if 10 ≤ i ∧ i ≤ 12 then ((kPs c)[(i - 10).toNat]?).getD (-2) else -1
theorem cIs_par {cs : List kC} {k : Nat} {c : kC} {i : Int} (h : 10 ≤ i ∧ i ≤ 12) : cIs cs k c i = ((kPs c)[(i - 10).toNat]?).getD (-2) := by
  unfold cIs
  rw [if_neg (by omega), if_neg (by omega), if_neg (by omega), if_neg (by omega), if_neg (by omega), if_neg (by omega), if_neg (by omega), if_neg (by omega), if_neg (by omega), if_pos h]
def aCIs (cs : List kC) (k i : Int) : Int := if bC cs k = true then (match cs[k.toNat]? with | some c => cIs cs k.toNat c i | none => -1) else -1
theorem aCIs_at {cs : List kC} {n : Nat} {c : kC} (h : cs[n]? = some c) (i : Int) : aCIs cs (n : Int) i = cIs cs n c i := by
  have hl := (List.getElem?_eq_some_iff.mp h).1
  unfold aCIs
  rw [if_pos (show bC cs (n : Int) = true from decide_eq_true (by omega)), show ((n : Int)).toNat = n by omega, h]
theorem kFF_hd {cs : List kC} (hO : kOk cs) {k : Nat} {c : kC} (hk : cs[k]? = some c) : tSrt (kFF cs c) ∧ (∀ f ∈ kFF cs c, f.2 ≠ 0) ∧ (kFF cs c).length ≤ 16 := by
  unfold kFF
  cases hp : kPs c with
  | nil => exact ⟨List.Pairwise.nil, (fun f hf => by cases hf), Nat.zero_le _⟩
  | cons p r =>
    have h1 := (hO k c hk).1.2.1 p (by rw [hp]; exact List.mem_cons_self)
    have hl := (List.getElem?_eq_some_iff.mp hk).1
    have hd := List.getElem?_eq_getElem (l := cs) (i := p.toNat) (by omega)
    simp only [hd]
    have hw := hO _ _ hd
    exact ⟨hw.2.2, fun f hf => by have := hw.2.1 f hf; omega, hw.1.2.2.2.2.2.2⟩
theorem kFs_hd {cs : List kC} (hO : kOk cs) {k : Nat} {c : kC} (hk : cs[k]? = some c) : tSrt (kFs c) ∧ (∀ f ∈ kFs c, f.2 ≠ 0) ∧ (kFs c).length ≤ 16 := by
  have hw := hO _ _ hk
  exact ⟨hw.2.2, fun f hf => by have := hw.2.1 f hf; omega, hw.1.2.2.2.2.2.2⟩
theorem s_unlike {M : gM} {cs : List kC} {k : Nat} {c : kC} (h : uC M cs) (hO : kOk cs) (hk : cs[k]? = some c) : F_unlikeParent M (k : Int) = some (cUnl cs c) := by
  obtain ⟨f1, f2, f3⟩ := kFF_hd hO hk
  obtain ⟨g1, g2, g3⟩ := kFs_hd hO hk
  obtain ⟨c1, c2, c3⟩ := mg_cnt 32 (kFF cs c) (kFs c) 0 0 f1 g1 f2 g2 (by omega)
  have ca := hK_all (mg 32 (kFF cs c) (kFs c) 0 0)
  have hl := uC_len h hk
  have hr := h.2.2 k c hk
  have hT := hr.2.2.2.2.2.2
  rw [eq_unlikeParent, if_pos (by omega), hr.1]
  unfold cUnl
  rw [← ca, c1, c2, c3]
  cases hp : kPs c with
  | nil =>
    rw [if_pos (show ((([] : List Int).length : Int)) = 0 from rfl), if_pos (by omega), hT.2.1]
    have e : kFF cs c = [] := by unfold kFF; rw [hp]
    rw [e]
    have : ∀ xs : List gF, xs.countP (goP []) = xs.length := fun xs => List.countP_eq_length.mpr (fun x _ => rfl)
    rw [this]
    simp
  | cons p r =>
    have h1 := (hO k c hk).1.2.1 p (by rw [hp]; exact List.mem_cons_self)
    have hd := List.getElem?_eq_getElem (l := cs) (i := p.toNat) (by omega)
    have e : kFF cs c = kFs cs[p.toNat] := by unfold kFF; rw [hp]; simp only [hd]
    have hTp := (h.2.2 _ _ hd).2.2.2.2.2.2
    rw [show ((p.toNat : Nat) : Int) = p by omega] at hTp
    have hpa : F_parentAt M (k : Int) 0 = some p := s_parentAt (i := 0) h hk (hO k c hk).1.1 (by rw [hp]; rfl)
    rw [if_neg (by rw [List.length_cons]; omega), gI_bb hpa, gI_bb (s_gone hTp hT), gI_bb (s_newOnes hTp hT), gI_bb (s_changed hTp hT), ← e]
    have q1 := List.countP_le_length (p := goP (kFs c)) (l := kFF cs c)
    have q2 := List.countP_le_length (p := goP (kFF cs c)) (l := kFs c)
    have q3 := List.countP_le_length (p := chP (kFs c)) (l := kFF cs c)
    simp (disch := omega) only [gw32_id]
    congr 1
theorem cnt_with {S : Nat → Bool} {k : Nat} (h : S k = false) : ∀ n : Nat, cnt (fun j => decide (j = k) || S j) n = cnt S n + (if k < n then 1 else 0)
  | 0 => rfl
  | n + 1 => by
    rw [cnt, cnt, cnt_with h n]
    by_cases e : n = k
    · rw [e, if_neg (by omega), if_pos (by omega), h, decide_eq_true rfl]; rfl
    · rw [decide_eq_false e, Bool.false_or]
      by_cases q : k < n
      · rw [if_pos q, if_pos (by omega)]; omega
      · rw [if_neg q, if_neg (by omega)]; omega
theorem s_commitIs {M : gM} {z : aS} {k i : Int} (h : uSt M z) (hO : kOk (aCs z)) : ∃ M1, F_commitIs M k i = some (aCIs (aCs z) k i, M1) ∧ uSt M1 z := by
  have hC := h.1
  have hl9 := hC.2.1
  rw [eq_commitIs, gI_bb (s_isCommit hC k)]
  by_cases q : 0 ≤ k ∧ k < ((aCs z).length : Int)
  · rw [decide_eq_true q, if_neg bIt, gI_bb s_in]
    obtain ⟨n, rfl⟩ : ∃ n : Nat, k = (n : Int) := ⟨k.toNat, by omega⟩
    have hk : (aCs z)[n]? = some (aCs z)[n] := List.getElem?_eq_getElem (by omega)
    generalize (aCs z)[n] = c at hk
    rw [aCIs_at hk]
    have hr := hC.2.2 n c hk
    have hw := (hO n c hk).1
    by_cases q1 : 10 ≤ i ∧ i ≤ 12
    · rw [decide_eq_true q1, if_neg bIt, if_pos (by omega), hr.1, cIs_par q1, gw32_id (by omega) (by omega)]
      by_cases q2 : i - 10 < ((kPs c).length : Int)
      · rw [if_pos q2]
        have hp := List.getElem?_eq_getElem (l := kPs c) (i := (i - 10).toNat) (by omega)
        have hpa := s_parentAt hC hk hw.1 hp
        rw [show (((i - 10).toNat : Nat) : Int) = i - 10 by omega] at hpa
        rw [gI_bb hpa, hp]
        exact ⟨M, rfl, h⟩
      · rw [if_neg q2, List.getElem?_eq_none (by omega)]
        exact ⟨M, rfl, h⟩
    · rw [decide_eq_false q1, if_pos bIf]
      unfold cIs
      have r1 : (0 : Int) ≤ (n : Int) ∧ (n : Int) < 120 := by omega
      by_cases z0 : i = 0
      · rw [if_pos z0, if_pos z0, if_pos r1, hr.1]; exact ⟨M, rfl, h⟩
      rw [if_neg z0, if_neg z0]
      by_cases z1 : i = 1
      · rw [if_pos z1, if_pos z1, if_pos r1, hr.2.2.2.2.1]; exact ⟨M, rfl, h⟩
      rw [if_neg z1, if_neg z1]
      by_cases z2 : i = 2
      · rw [if_pos z2, if_pos z2, if_pos r1, hr.2.2.2.2.2.1]; exact ⟨M, rfl, h⟩
      rw [if_neg z2, if_neg z2]
      by_cases z3 : i = 3
      · rw [if_pos z3, if_pos z3, if_pos (by omega), hr.2.2.2.2.2.2.2.1]; exact ⟨M, rfl, h⟩
      rw [if_neg z3, if_neg z3]
      by_cases z4 : i = 4
      · rw [if_pos z4, if_pos z4, if_pos r1, hr.2.2.1]; exact ⟨M, rfl, h⟩
      rw [if_neg z4, if_neg z4]
      by_cases z5 : i = 5
      · obtain ⟨M1, e1, e2, e3⟩ := s_laysHeights hC hO
        rw [if_pos z5, if_pos z5, gI_bb e1, if_pos r1, e2 n (by omega)]
        exact ⟨M1, rfl, uSt_keep (A := [725]) (F := []) h ⟨fun b hb _ => e3 b (fun e => hb (by rw [e]; exact List.mem_cons_self)), fun f _ => by rw [e3 711 (by decide)]⟩ (fun b hb => by have := List.mem_singleton.mp hb; omega) (by decide)⟩
      rw [if_neg z5, if_neg z5]
      by_cases z6 : i = 6
      · obtain ⟨M1, e1, e2, e3⟩ := s_marksWithAncestors (a := 723) (k := n) hC hO (by decide) (by omega)
        have hnk : kAnc (aCs z) n n = false := by
          cases hb : kAnc (aCs z) n n with
          | false => rfl
          | true => have := kAnc_lt hO (by omega) hb; omega
        have hcr := cnt_rng (kAnc (aCs z) n) 120
        rw [if_pos z6, if_pos z6, gI_bb e1, gI_bb (s_sizeOf (by decide) e2), cnt_with hnk, if_pos (by omega), gw32_id (by omega) (by omega)]
        exact ⟨M1, by rw [show cnt (kAnc (aCs z) n) 120 + 1 - 1 = cnt (kAnc (aCs z) n) 120 by omega], uSt_keep (A := [723]) (F := []) h ⟨fun b hb _ => e3 b (fun e => hb (by rw [e]; exact List.mem_cons_self)), fun f _ => by rw [e3 711 (by decide)]⟩ (fun b hb => by have := List.mem_singleton.mp hb; omega) (by decide)⟩
      rw [if_neg z6, if_neg z6]
      by_cases z7 : i = 7
      · rw [if_pos z7, if_pos z7, gI_bb (s_children hC hO (by omega))]; exact ⟨M, rfl, h⟩
      rw [if_neg z7, if_neg z7]
      by_cases z8 : i = 8
      · rw [if_pos z8, if_pos z8, gI_bb (s_unlike hC hO hk)]; exact ⟨M, rfl, h⟩
      rw [if_neg z8, if_neg z8, if_neg q1]
      exact ⟨M, rfl, h⟩
  · rw [decide_eq_false q, if_pos bIf]
    unfold aCIs
    rw [if_neg (show ¬ bC (aCs z) k = true from fun w => q (of_decide_eq_true w))]
    exact ⟨M, rfl, h⟩
theorem cFT_lt {sh : gS} {M : gM} {cs : List kC} (hC : cOk sh M cs) {k : Nat} {c : kC} (hk : cs[k]? = some c) : cFT M (k : Int) c + 2 < 440 ∧ cT M (k : Int) + 2 < 440 := by
  have h9 := hC.2.1
  have hl := (List.getElem?_eq_some_iff.mp hk).1
  obtain ⟨r1, r2, -⟩ := cT_rng hC hk
  refine ⟨?_, by unfold cT; omega⟩
  unfold cFT
  cases hp : kPs c with
  | nil => exact (show (17 : Int) + 2 < 440 by decide)
  | cons p r =>
    obtain ⟨-, -, h1, h2, d, hd⟩ := cPar hC hk (pre := []) (suf := r) (p := p) (by rw [hp]; rfl)
    obtain ⟨r3, r4, -⟩ := cT_rng hC hd
    rw [show ((p.toNat : Nat) : Int) = p by omega] at r3 r4
    show cT M p + 2 < 440
    unfold cT; omega
theorem sp_X11_commitIs {sh : gS} {M : gM} {z : aS} {k i : Int} (hz : cS sh M z) (hO : kOk (aCs z)) : gC (gr 2 54) yX11_commitIs cX11_commitIs 3 (some (.int)) [(4, 0), (0, k), (0, i)] sh M (cPo sh M 0 (aCIs (aCs z) k i) z) := by
  obtain ⟨hOK, hC, -⟩ := id hz
  have h9 := hC.2.1
  refine w_X11_commitIs hOK ⟨_, sp_X1_has hOK hC, ?_⟩
  rw [hasI]
  by_cases q : bC (aCs z) k = true
  · rw [if_neg (bI_ne q)]
    obtain ⟨n, c, rfl, hk, hln⟩ := bC_at q
    rw [aCIs_at hk]
    obtain ⟨⟨o1, o2, o3, o4, o5, o6⟩, o7, o8, o9, o10, o11⟩ := hC.2.2.2 n c hk
    have r1 : (0 : Int) ≤ (n : Int) ∧ (n : Int) < 120 := by omega
    unfold cIs
    by_cases z0 : i = 0
    · rw [if_pos z0, if_pos z0]; exact ⟨r1, cPo_same hz o1⟩
    rw [if_neg z0, if_neg z0]
    by_cases z1 : i = 1
    · rw [if_pos z1, if_pos z1]; exact ⟨r1, cPo_same hz o5⟩
    rw [if_neg z1, if_neg z1]
    by_cases z2 : i = 2
    · rw [if_pos z2, if_pos z2]; exact ⟨r1, cPo_same hz o6⟩
    rw [if_neg z2, if_neg z2]
    by_cases z3 : i = 3
    · rw [if_pos z3, if_pos z3]
      obtain ⟨-, -, hT⟩ := cT_rng hC hk
      exact ⟨_, sp_X1_tree hOK hC hk, ⟨hT.1.1, hT.1.2.2.2⟩, cPo_same hz (tOk_c hT).1⟩
    rw [if_neg z3, if_neg z3]
    by_cases z4 : i = 4
    · rw [if_pos z4, if_pos z4]; exact ⟨r1, cPo_same hz o3⟩
    rw [if_neg z4, if_neg z4]
    by_cases z5 : i = 5
    · rw [if_pos z5, if_pos z5]; exact ⟨r1, cPo_same hz o10⟩
    rw [if_neg z5, if_neg z5]
    by_cases z6 : i = 6
    · rw [if_pos z6, if_pos z6]
      refine ⟨_, sp_X3_size hOK (mSh14 hOK) r1, cPo_same hz ?_⟩
      rw [cnt_congr 128 (fun j hj => o11 j hj)]
      exact cnt_top (n := 120) 8 (fun j j0 j1 => by
        cases hb : kAnc (aCs z) n j with
        | false => rfl
        | true => have := kAnc_lt hO (by omega) hb; omega)
    rw [if_neg z6, if_neg z6]
    by_cases z7 : i = 7
    · rw [if_pos z7, if_pos z7]; exact ⟨_, sp_X1_childrenOf hOK hC (by omega), cPo_same hz rfl⟩
    rw [if_neg z7, if_neg z7]
    by_cases z8 : i = 8
    · rw [if_pos z8, if_pos z8]
      obtain ⟨l1, l2⟩ := cFT_lt hC hk
      obtain ⟨m, hm, hF⟩ := cFT_ok hOK hC hk
      obtain ⟨-, -, hT⟩ := cT_rng hC hk
      obtain ⟨f1, f2, f3⟩ := kFF_hd hO hk
      obtain ⟨g1, g2, g3⟩ := kFs_hd hO hk
      refine ⟨_, sp_X1_firstTree hOK hC hk, _, sp_X1_tree hOK hC hk, _, sp_X0_measure hOK (hSh440 hOK) hF hT ⟨Or.inl l1, Or.inl l2⟩ (by omega) f2 g2, fun r1 M1 hP1 => ?_⟩
      obtain ⟨rfl, p1, p2, p3, p4, p5⟩ := hP1
      exact ⟨rfl, p2, rfl, by rw [p1.2.2.1]; rfl, cS_keep hz p2 (fun b hb => p3 b (by omega)), fun b hb => p3 b (by omega)⟩
    rw [if_neg z8, if_neg z8]
    by_cases z9 : i = 9
    · rw [if_pos z9, if_neg (by omega)]; exact cPo_same hz rfl
    rw [if_neg z9]
    have par : (10 ≤ i ∧ i ≤ 12) → ((0 : Int) ≤ (n : Int) ∧ (n : Int) < 120) ∧ (if gw32 (i - 10) < M 5 (n : Int) then ∃ v219 : Int, gC (gr 0 0) yX1_parent cX1_parent 3 (some (.int)) [(4, 4), (0, (n : Int)), (0, gw32 (i - 10))] sh M (gPp sh M (0, v219)) ∧ cPo sh M 0 (((kPs c)[(i - 10).toNat]?).getD (-2)) z (some (0, v219)) sh M else cPo sh M 0 (((kPs c)[(i - 10).toNat]?).getD (-2)) z (some (0, -2)) sh M) := fun hi => by
      refine ⟨r1, ?_⟩
      rw [gw32_id (by omega) (by omega), o1]
      by_cases w : i - 10 < ((kPs c).length : Int)
      · rw [if_pos w]
        have hp := List.getElem?_eq_getElem (l := kPs c) (i := (i - 10).toNat) (by omega)
        refine ⟨_, sp_X1_parent hOK r1 (by omega), cPo_same hz ?_⟩
        have := o2 _ _ hp
        rw [show (((i - 10).toNat : Nat) : Int) = i - 10 by omega] at this
        rw [this, hp]; rfl
      · rw [if_neg w, List.getElem?_eq_none (by omega)]
        exact cPo_same hz rfl
    by_cases z10 : i = 10
    · rw [if_pos z10, if_pos (show 10 ≤ i ∧ i ≤ 12 by omega)]; exact par (by omega)
    rw [if_neg z10]
    by_cases z11 : i = 11
    · rw [if_pos z11, if_pos (show 10 ≤ i ∧ i ≤ 12 by omega)]; exact par (by omega)
    rw [if_neg z11]
    by_cases z12 : i = 12
    · rw [if_pos z12, if_pos (show 10 ≤ i ∧ i ≤ 12 by omega)]; exact par (by omega)
    rw [if_neg z12, if_neg (by omega)]
    exact cPo_same hz rfl
  · rw [if_pos (bI_eq (by simpa using q))]
    refine cPo_same hz ?_
    unfold aCIs
    rw [if_neg q]
