-- ==== diff, renamed, likeness on both sides
/-- CONTENTS are told with a digit at least -/
def kTen (cs : List kC) : Prop := ∀ c ∈ cs, ∀ f ∈ kFs c, cRg f.2
def tC (fs : List gF) (i : Int) : Int := match fs[i.toNat]? with
  | some f => f.2
  | none => 0
def hundV (v : Int) : Int := (FP.f2i (gu (gfl (FP.fmul (gu (gfl 1120403456)) (gu v))))).toInt
def bitV (v : Int) : Int := ((gu v).toNat : Int)
theorem f01_bit {v : Int} {n : Nat} (h : f01 v n) : bitV v = (n : Int) := by unfold bitV; rw [h.1]
theorem prs_mem {gl nl : List (Int × Int)} : ∀ (n : Nat) (ps : List (Int × Int)), (∀ p ∈ ps, ∃ g ∈ gl, ∃ m ∈ nl, p = (g.2, m.2)) → ∀ p ∈ prs gl nl n ps, ∃ g ∈ gl, ∃ m ∈ nl, p = (g.2, m.2)
  | 0, _, h => h
  | n + 1, ps, h => by
    rw [prs]
    by_cases c : (bcO ps nl gl bc0).1 = -1
    · rw [if_pos c]; exact h
    · rw [if_neg c]
      refine prs_mem n _ (fun p hp => ?_)
      rcases List.mem_append.mp hp with w | w
      · exact h p w
      · rcases bcO_at ps nl gl bc0 with e | ⟨x, a, -, d, y, b, f⟩
        · rw [e] at c; exact absurd rfl c
        · rw [List.mem_singleton.mp w]
          exact ⟨x, a, y, b, by rw [d, f]⟩
/-- one of the PAIRS: where its FILES stand -/
theorem prF_at {fs gs : List gF} {p : Int × Int} (h : p ∈ prF fs gs) : ∃ (i j : Nat) (f g : gF), fs[i]? = some f ∧ gs[j]? = some g ∧ p = ((i : Int), (j : Int)) := by
  obtain ⟨x, a, y, b, e⟩ := prs_mem 17 [] (fun p hp => by cases hp) p h
  obtain ⟨i, f, a1, a2, -⟩ := goL_mem a
  obtain ⟨j, g, b1, b2, -⟩ := goL_mem b
  refine ⟨i, j, f, g, a1, b1, ?_⟩
  rw [e, a2, b2, Int.zero_add, Int.zero_add]
theorem tC_at {fs : List gF} {i : Nat} {f : gF} (h : fs[i]? = some f) : tC fs (i : Int) = f.2 := by unfold tC; rw [Int.toNat_natCast, h]
def rnV (fs gs : List gF) (p : Int × Int) (w : Int) : Int := if w = 0 then p.1 else if w = 1 then p.2 else if w = 2 then bitV (lkF (tC fs p.1) (tC gs p.2)) else hundV (lkF (tC fs p.1) (tC gs p.2))
def rnN (fs gs : List gF) (n : Nat) (w : Int) : Int := match (prF fs gs)[n]? with
  | some p => rnV fs gs p w
  | none => -4
theorem rnN_at {fs gs : List gF} {n : Nat} {w : Int} {p : Int × Int} (h : (prF fs gs)[n]? = some p) : rnN fs gs n w = rnV fs gs p w := by unfold rnN; rw [h]
theorem rnN_no {fs gs : List gF} {n : Nat} {w : Int} (h : (prF fs gs)[n]? = none) : rnN fs gs n w = -4 := by unfold rnN; rw [h]
def dfV (fs gs : List gF) (k : Int) : Int := if k = 0 then (fs.countP (goP gs) : Int) else if k = 1 then (gs.countP (goP fs) : Int) else if k = 2 then (fs.countP (chP gs) : Int) else ((prF fs gs).length : Int)
def aDiff (z : aS) (i j k : Int) : Int := if bC (aCs z) i = true ∧ bC (aCs z) j = true ∧ (0 ≤ k ∧ k ≤ 3) then dfV (fFs (aCs z) i.toNat) (fFs (aCs z) j.toNat) k else -1
def aRenamed (z : aS) (i j n w : Int) : Int := if bC (aCs z) i = true ∧ bC (aCs z) j = true ∧ (0 ≤ n ∧ n ≤ 15) ∧ (0 ≤ w ∧ w ≤ 3) then rnN (fFs (aCs z) i.toNat) (fFs (aCs z) j.toNat) n.toNat w else -1
def lkV2 (fs gs : List gF) (a b w : Int) : Int := if a < (fs.length : Int) ∧ b < (gs.length : Int) then (if w = 0 then bitV (lkF (tC fs a) (tC gs b)) else hundV (lkF (tC fs a) (tC gs b))) else -4
def aLike (z : aS) (i a j b w : Int) : Int := if bC (aCs z) i = true ∧ bC (aCs z) j = true ∧ (0 ≤ a ∧ a ≤ 15) ∧ (0 ≤ b ∧ b ≤ 15) ∧ (0 ≤ w ∧ w ≤ 1) then lkV2 (fFs (aCs z) i.toNat) (fFs (aCs z) j.toNat) a b w else -1
theorem bC_f {cs : List kC} {k : Int} (h : ¬ bC cs k = true) : decide (0 ≤ k ∧ k < (cs.length : Int)) = false := by
  have : bC cs k = false := by simpa using h
  exact this
theorem bC_t {cs : List kC} {k : Int} (h : bC cs k = true) : decide (0 ≤ k ∧ k < (cs.length : Int)) = true := h
theorem uSt_pr {M M1 : gM} {z : aS} (h : uSt M z) (h1 : ∀ b : Int, b ≠ 711 → b ≠ 750 → b ≠ 751 → b ≠ 752 → M1 b = M b) (h2 : ∀ f : Int, f ≠ 59 → M1 711 f = M 711 f) : uSt M1 z :=
  uSt_keep (A := [750, 751, 752]) (F := [59]) h ⟨fun b hb hb2 => h1 b hb2 (fun w => hb (by rw [w]; simp)) (fun w => hb (by rw [w]; simp)) (fun w => hb (by rw [w]; simp)), fun f hf => h2 f (fun w => hf (by rw [w]; simp))⟩ (fun b hb => by
    rcases List.mem_cons.mp hb with e | hb
    · omega
    · rcases List.mem_cons.mp hb with e | hb
      · omega
      · rw [List.mem_singleton.mp hb]; omega) (by decide)
theorem uSt_b {M M1 : gM} {z : aS} (h : uSt M z) (h1 : ∀ b : Int, b ≠ 750 → M1 b = M b) : uSt M1 z := uSt_pr h (fun b _ b1 _ _ => h1 b b1) (fun f _ => by rw [h1 711 (by decide)])
theorem s_hund {v : Int} (h : FP.fmul (gu (gfl 1120403456)) (gu v) &&& 0x7fffffff ≤ (0x7f800000 : UInt32)) : F_hundredths v = some (hundV v) := by rw [eq_hundredths, if_pos h]; rfl
theorem s_diff {M : gM} {z : aS} {i j k : Int} (hz : uSt M z) (hO : kOk (aCs z)) (hT : kTen (aCs z)) : ∃ M1, F_diff M i j k = some (aDiff z i j k, M1) ∧ uSt M1 z := by
  unfold aDiff
  rw [eq_diff, gI_bb (s_isCommit hz.1 i)]
  by_cases q1 : bC (aCs z) i = true
  · rw [bC_t q1, if_neg bIt, gI_bb (s_isCommit hz.1 j)]
    by_cases q2 : bC (aCs z) j = true
    · rw [bC_t q2, if_neg bIt, gI_bb s_in]
      by_cases q3 : 0 ≤ k ∧ k ≤ 3
      · rw [decide_eq_true q3, if_neg bIt, if_pos (show bC (aCs z) i = true ∧ bC (aCs z) j = true ∧ (0 ≤ k ∧ k ≤ 3) from ⟨q1, q2, q3⟩)]
        obtain ⟨n, c, rfl, hk, hl⟩ := bC_at q1
        obtain ⟨m, d, rfl, hm, hlm⟩ := bC_at q2
        have hTn := (hz.1.2.2 n c hk).2.2.2.2.2.2
        have hTm := (hz.1.2.2 m d hm).2.2.2.2.2.2
        rw [Int.toNat_natCast, Int.toNat_natCast, fFs_at hk, fFs_at hm]
        unfold dfV
        by_cases k0 : k = 0
        · rw [if_pos (by omega), if_pos k0, if_pos k0, gI_bb (s_gone hTn hTm)]; exact ⟨M, rfl, hz⟩
        by_cases k1 : k = 1
        · rw [if_pos (by omega), if_neg k0, if_pos k1, if_neg k0, if_pos k1, gI_bb (s_newOnes hTn hTm)]; exact ⟨M, rfl, hz⟩
        by_cases k2 : k = 2
        · rw [if_pos (by omega), if_neg k0, if_neg k1, if_neg k0, if_neg k1, if_pos k2, gI_bb (s_changed hTn hTm)]; exact ⟨M, rfl, hz⟩
        rw [if_neg (by omega), if_neg k0, if_neg k1, if_neg k2]
        obtain ⟨M1, e1, p1, f1, f2⟩ := s_laysPairs hTn hTm (hT c (List.mem_of_getElem? hk)) (hT d (List.mem_of_getElem? hm)) (hO n c hk).1.2.2.2.2.2.2
        rw [gI_bb e1, p1.1]
        exact ⟨M1, rfl, uSt_pr hz f1 f2⟩
      · rw [decide_eq_false q3, if_pos bIf, if_neg (fun w => q3 w.2.2)]; exact ⟨M, rfl, hz⟩
    · rw [bC_f q2, if_pos bIf, if_neg (fun w => q2 w.2.1)]; exact ⟨M, rfl, hz⟩
  · rw [bC_f q1, if_pos bIf, if_neg (fun w => q1 w.1)]; exact ⟨M, rfl, hz⟩
theorem s_renamed {M : gM} {z : aS} {i j n w : Int} (hz : uSt M z) (hO : kOk (aCs z)) (hT : kTen (aCs z)) : ∃ M1, F_renamed M i j n w = some (aRenamed z i j n w, M1) ∧ uSt M1 z := by
  unfold aRenamed
  rw [eq_renamed, gI_bb (s_isCommit hz.1 i)]
  by_cases q1 : bC (aCs z) i = true
  · rw [bC_t q1, if_neg bIt, gI_bb (s_isCommit hz.1 j)]
    by_cases q2 : bC (aCs z) j = true
    · rw [bC_t q2, if_neg bIt, gI_bb s_in]
      by_cases q3 : 0 ≤ n ∧ n ≤ 15
      · rw [decide_eq_true q3, if_neg bIt, gI_bb s_in]
        by_cases q4 : 0 ≤ w ∧ w ≤ 3
        · rw [decide_eq_true q4, if_neg bIt, if_pos (show bC (aCs z) i = true ∧ bC (aCs z) j = true ∧ (0 ≤ n ∧ n ≤ 15) ∧ (0 ≤ w ∧ w ≤ 3) from ⟨q1, q2, q3, q4⟩)]
          obtain ⟨x, c, rfl, hk, hl⟩ := bC_at q1
          obtain ⟨y, d, rfl, hm, hlm⟩ := bC_at q2
          have hTn := (hz.1.2.2 x c hk).2.2.2.2.2.2
          have hTm := (hz.1.2.2 y d hm).2.2.2.2.2.2
          have tc := hT c (List.mem_of_getElem? hk)
          have td := hT d (List.mem_of_getElem? hm)
          rw [Int.toNat_natCast, Int.toNat_natCast, fFs_at hk, fFs_at hm]
          obtain ⟨M1, e1, p1, f1, f2⟩ := s_laysPairs hTn hTm tc td (hO x c hk).1.2.2.2.2.2.2
          have z1 := uSt_pr hz f1 f2
          rw [gI_bb e1, p1.1]
          unfold rnN
          obtain ⟨a, rfl⟩ : ∃ a : Nat, n = (a : Int) := ⟨n.toNat, by omega⟩
          rw [Int.toNat_natCast]
          by_cases q5 : (a : Int) < ((prF (kFs c) (kFs d)).length : Int)
          · have hp := List.getElem?_eq_getElem (show a < (prF (kFs c) (kFs d)).length by omega)
            generalize (prF (kFs c) (kFs d))[a] = p at hp
            rw [if_pos q5, if_pos (by omega), hp]
            obtain ⟨u, v, f, g, a1, a2, rfl⟩ := prF_at (List.mem_of_getElem? hp)
            have r1 := p1.2.2.1 a _ (by rw [List.getElem?_map, hp]; rfl)
            have r2 := p1.2.2.2 a _ (by rw [List.getElem?_map, hp]; rfl)
            rw [Int.zero_add] at r1 r2
            rw [r1, r2]
            have hT1 := (z1.1.2.2 x c hk).2.2.2.2.2.2
            have hT2 := (z1.1.2.2 y d hm).2.2.2.2.2.2
            have cf := tc f (List.mem_of_getElem? a1)
            have cg := td g (List.mem_of_getElem? a2)
            obtain ⟨M2, e2, g2⟩ := s_likenessOf (M := M1) cf cg
            have s1 : F_contentAt M1 (x : Int) ((u : Int), (v : Int)).1 = some f.2 := s_contentAt hT1 a1
            have s2 : F_contentAt M1 (y : Int) ((u : Int), (v : Int)).2 = some g.2 := s_contentAt hT2 a2
            rw [gI_bb s1, gI_bb s2, gI_bb e2]
            have z2 := uSt_b z1 g2
            have b1 : M2 751 (a : Int) = (u : Int) := by rw [g2 751 (by decide), r1]
            have b2 : M2 752 (a : Int) = (v : Int) := by rw [g2 752 (by decide), r2]
            obtain ⟨⟨nn, hf⟩, hh⟩ := lk_01 cf cg
            show ∃ M3, (if w = 0 then some (M2 751 (a : Int), M2) else if w = 1 then some (M2 752 (a : Int), M2) else if w = 2 then (F_fbits (lkF f.2 g.2)).bind _ else (F_hundredths (lkF f.2 g.2)).bind _) = some (rnV (kFs c) (kFs d) ((u : Int), (v : Int)) w, M3) ∧ _
            unfold rnV
            rw [b1, b2, tC_at a1, tC_at a2]
            by_cases w0 : w = 0
            · rw [if_pos w0, if_pos w0]; exact ⟨M2, rfl, z2⟩
            rw [if_neg w0, if_neg w0]
            by_cases w1 : w = 1
            · rw [if_pos w1, if_pos w1]; exact ⟨M2, rfl, z2⟩
            rw [if_neg w1, if_neg w1]
            by_cases w2 : w = 2
            · rw [if_pos w2, if_pos w2, gI_bb (s_fbits hf), f01_bit hf]; exact ⟨M2, rfl, z2⟩
            rw [if_neg w2, if_neg w2, gI_bb (s_hund hh)]; exact ⟨M2, rfl, z2⟩
          · rw [if_neg q5, List.getElem?_eq_none (by omega)]
            exact ⟨M1, rfl, z1⟩
        · rw [decide_eq_false q4, if_pos bIf, if_neg (fun w => q4 w.2.2.2)]; exact ⟨M, rfl, hz⟩
      · rw [decide_eq_false q3, if_pos bIf, if_neg (fun w => q3 w.2.2.1)]; exact ⟨M, rfl, hz⟩
    · rw [bC_f q2, if_pos bIf, if_neg (fun w => q2 w.2.1)]; exact ⟨M, rfl, hz⟩
  · rw [bC_f q1, if_pos bIf, if_neg (fun w => q1 w.1)]; exact ⟨M, rfl, hz⟩
theorem s_likeness {M : gM} {z : aS} {i a j b w : Int} (hz : uSt M z) (hT : kTen (aCs z)) : ∃ M1, F_likeness M i a j b w = some (aLike z i a j b w, M1) ∧ uSt M1 z := by
  unfold aLike
  rw [eq_likeness, gI_bb (s_isCommit hz.1 i)]
  by_cases q1 : bC (aCs z) i = true
  · rw [bC_t q1, if_neg bIt, gI_bb (s_isCommit hz.1 j)]
    by_cases q2 : bC (aCs z) j = true
    · rw [bC_t q2, if_neg bIt, gI_bb s_in]
      by_cases q3 : 0 ≤ a ∧ a ≤ 15
      · rw [decide_eq_true q3, if_neg bIt, gI_bb s_in]
        by_cases q4 : 0 ≤ b ∧ b ≤ 15
        · rw [decide_eq_true q4, if_neg bIt, gI_bb s_in]
          by_cases q5 : 0 ≤ w ∧ w ≤ 1
          · rw [decide_eq_true q5, if_neg bIt, if_pos (show bC (aCs z) i = true ∧ bC (aCs z) j = true ∧ (0 ≤ a ∧ a ≤ 15) ∧ (0 ≤ b ∧ b ≤ 15) ∧ (0 ≤ w ∧ w ≤ 1) from ⟨q1, q2, q3, q4, q5⟩)]
            obtain ⟨x, c, rfl, hk, hl⟩ := bC_at q1
            obtain ⟨y, d, rfl, hm, hlm⟩ := bC_at q2
            have hl9 := hz.1.2.1
            have hTn := (hz.1.2.2 x c hk).2.2.2.2.2.2
            have hTm := (hz.1.2.2 y d hm).2.2.2.2.2.2
            obtain ⟨u, rfl⟩ : ∃ u : Nat, a = (u : Int) := ⟨a.toNat, by omega⟩
            obtain ⟨v, rfl⟩ : ∃ v : Nat, b = (v : Int) := ⟨b.toNat, by omega⟩
            rw [Int.toNat_natCast, Int.toNat_natCast, fFs_at hk, fFs_at hm, if_pos (by omega), hTn.2.1]
            unfold lkV2
            by_cases l1 : (u : Int) < ((kFs c).length : Int)
            · rw [if_pos l1, if_pos (by omega), hTm.2.1]
              by_cases l2 : (v : Int) < ((kFs d).length : Int)
              · have a1 := List.getElem?_eq_getElem (show u < (kFs c).length by omega)
                have a2 := List.getElem?_eq_getElem (show v < (kFs d).length by omega)
                generalize (kFs c)[u] = f at a1
                generalize (kFs d)[v] = g at a2
                have cf := hT c (List.mem_of_getElem? hk) f (List.mem_of_getElem? a1)
                have cg := hT d (List.mem_of_getElem? hm) g (List.mem_of_getElem? a2)
                obtain ⟨M2, e2, g2⟩ := s_likenessOf (M := M) cf cg
                obtain ⟨⟨nn, hf⟩, hh⟩ := lk_01 cf cg
                rw [if_pos l2, if_pos ⟨l1, l2⟩, gI_bb (s_contentAt hTn a1), gI_bb (s_contentAt hTm a2), gI_bb e2, tC_at a1, tC_at a2]
                show ∃ M3, (if w = 0 then (F_fbits (lkF f.2 g.2)).bind _ else (F_hundredths (lkF f.2 g.2)).bind _) = _ ∧ _
                by_cases w0 : w = 0
                · rw [if_pos w0, if_pos w0, gI_bb (s_fbits hf), f01_bit hf]; exact ⟨M2, rfl, uSt_b hz g2⟩
                · rw [if_neg w0, if_neg w0, gI_bb (s_hund hh)]; exact ⟨M2, rfl, uSt_b hz g2⟩
              · rw [if_neg l2, if_neg (fun w => l2 w.2)]; exact ⟨M, rfl, hz⟩
            · rw [if_neg l1, if_neg (fun w => l1 w.1)]; exact ⟨M, rfl, hz⟩
          · rw [decide_eq_false q5, if_pos bIf, if_neg (fun w => q5 w.2.2.2.2)]; exact ⟨M, rfl, hz⟩
        · rw [decide_eq_false q4, if_pos bIf, if_neg (fun w => q4 w.2.2.2.1)]; exact ⟨M, rfl, hz⟩
      · rw [decide_eq_false q3, if_pos bIf, if_neg (fun w => q3 w.2.2.1)]; exact ⟨M, rfl, hz⟩
    · rw [bC_f q2, if_pos bIf, if_neg (fun w => q2 w.2.1)]; exact ⟨M, rfl, hz⟩
  · rw [bC_f q1, if_pos bIf, if_neg (fun w => q1 w.1)]; exact ⟨M, rfl, hz⟩
-- ---- the class
theorem sp_X11_hundredths {sh : gS} {M : gM} {v : Int} (hOK : gOK sh M) (h : FP.fmul (gu (gfl 1120403456)) (gu v) &&& 0x7fffffff ≤ (0x7f800000 : UInt32)) : gC (gr 0 0) yX11_hundredths cX11_hundredths 1 (some (.int)) [(2, v)] sh M (gPp sh M (0, hundV v)) := w_X11_hundredths hOK ⟨h, rfl, rfl, rfl⟩
/-- two TREES are measured, what is RENAMED is paired -/
theorem cT_lt {sh : gS} {M : gM} {cs : List kC} (hC : cOk sh M cs) {k : Nat} {c : kC} (hk : cs[k]? = some c) : 20 ≤ cT M (k : Int) ∧ cT M (k : Int) + 2 < 380 := by
  obtain ⟨t0, t1, -⟩ := cT_rng hC hk
  have := cOk_len hC hk
  unfold cT; omega
theorem sp_X11_diff {sh : gS} {M : gM} {z : aS} {i j k : Int} (hz : cS sh M z) (hO : kOk (aCs z)) (hT : kTen (aCs z)) : gC (gr 4 95) yX11_diff cX11_diff 4 (some (.int)) [(4, 0), (0, i), (0, j), (0, k)] sh M (cPo sh M 0 (aDiff z i j k) z) := by
  obtain ⟨hOK, hC, -⟩ := id hz
  have hl9 := hC.2.1
  unfold aDiff
  refine w_X11_diff hOK ⟨_, sp_X1_has hOK hC, ?_⟩
  rw [hasI]
  by_cases q1 : bC (aCs z) i = true
  · rw [if_neg (bI_ne q1)]
    refine ⟨_, sp_X1_has hOK hC, ?_⟩
    rw [hasI]
    by_cases q2 : bC (aCs z) j = true
    · rw [if_neg (bI_ne q2)]
      by_cases q3 : k < 0
      · rw [if_pos q3, if_neg (fun w => by omega)]; exact cPo_same hz rfl
      rw [if_neg q3]
      by_cases q4 : (3 : Int) < k
      · rw [if_pos q4, if_neg (fun w => by omega)]; exact cPo_same hz rfl
      rw [if_neg q4, if_pos (show bC (aCs z) i = true ∧ bC (aCs z) j = true ∧ (0 ≤ k ∧ k ≤ 3) from ⟨q1, q2, by omega, by omega⟩)]
      obtain ⟨n, c, rfl, hk, hl⟩ := bC_at q1
      obtain ⟨m, d, rfl, hm, hlm⟩ := bC_at q2
      rw [Int.toNat_natCast, Int.toNat_natCast, fFs_at hk, fFs_at hm]
      obtain ⟨-, -, t1⟩ := cT_rng hC hk
      obtain ⟨-, -, t2⟩ := cT_rng hC hm
      have b1 := cT_lt hC hk
      have b2 := cT_lt hC hm
      have l1 := (hO n c hk).1.2.2.2.2.2.2
      have l2 := (hO m d hm).1.2.2.2.2.2.2
      have tc := hT c (List.mem_of_getElem? hk)
      have td := hT d (List.mem_of_getElem? hm)
      have z1 : ∀ f ∈ kFs c, f.2 ≠ 0 := fun f hf => by have := (tc f hf).1; omega
      have z2 : ∀ f ∈ kFs d, f.2 ≠ 0 := fun f hf => by have := (td f hf).1; omega
      have s1 := (hO n c hk).2.2
      have s2 := (hO m d hm).2.2
      refine ⟨_, sp_X1_tree hOK hC hk, _, sp_X1_tree hOK hC hm, _, sp_X0_measure hOK (hSh440 hOK) t1 t2 ⟨Or.inl (by omega), Or.inl (by omega)⟩ (by omega) z1 z2, fun r1 M1 hP1 => ?_⟩
      obtain ⟨rfl, p1, p2, p3, p4, p5⟩ := hP1
      refine ⟨rfl, p2, ?_⟩
      unfold dfV
      have hm3 := mg_cnt 32 (kFs c) (kFs d) 0 0 s1 s2 z1 z2 (by omega)
      by_cases k3 : k = 3
      · rw [if_pos k3, if_neg (show ¬ k = 0 by omega), if_neg (show ¬ k = 1 by omega), if_neg (show ¬ k = 2 by omega)]
        refine ⟨_, sp_X0_pairUp p2 p1 (kSh440 p2) s1 s2 tc td l1 l2, fun r2 M2 hP2 => ?_⟩
        obtain ⟨rfl, g1, ⟨vs, g2⟩, g3⟩ := hP2
        exact ⟨rfl, g1, rfl, by rw [g2.1], cS_keep hz g1 (fun b hb => by rw [g3 b (by omega)]; exact p3 b (by omega)), fun b hb => by rw [g3 b (by omega)]; exact p3 b (by omega)⟩
      · rw [if_neg k3]
        refine ⟨_, sp_X0_countOf p2 p1 (by omega), rfl, ?_, cS_keep hz p2 (fun b hb => p3 b (by omega)), fun b hb => p3 b (by omega)⟩
        by_cases k0 : k = 0
        · rw [if_pos k0, k0, hm3.1]
        by_cases k1 : k = 1
        · rw [if_neg k0, if_pos k1, k1, hm3.2.1]
        rw [if_neg k0, if_neg k1, if_pos (show k = 2 by omega), show k = 2 by omega, hm3.2.2]
    · rw [if_pos (bI_eq (by simpa using q2)), if_neg (fun w => q2 w.2.1)]; exact cPo_same hz rfl
  · rw [if_pos (bI_eq (by simpa using q1)), if_neg (fun w => q1 w.1)]; exact cPo_same hz rfl
theorem sp_X11_renamed {sh : gS} {M : gM} {z : aS} {i j n w : Int} (hz : cS sh M z) (hO : kOk (aCs z)) (hT : kTen (aCs z)) : gC (gr 4 95) yX11_renamed cX11_renamed 5 (some (.int)) [(4, 0), (0, i), (0, j), (0, n), (0, w)] sh M (cPo sh M 0 (aRenamed z i j n w) z) := by
  obtain ⟨hOK, hC, -⟩ := id hz
  have hl9 := hC.2.1
  unfold aRenamed
  refine w_X11_renamed hOK ⟨_, sp_X1_has hOK hC, ?_⟩
  rw [hasI]
  by_cases q1 : bC (aCs z) i = true
  · rw [if_neg (bI_ne q1)]
    refine ⟨_, sp_X1_has hOK hC, ?_⟩
    rw [hasI]
    by_cases q2 : bC (aCs z) j = true
    · rw [if_neg (bI_ne q2)]
      by_cases q3 : n < 0
      · rw [if_pos q3, if_neg (fun w => by omega)]; exact cPo_same hz rfl
      rw [if_neg q3]
      by_cases q4 : n < 16
      · rw [if_pos q4]
        by_cases q5 : w < 0
        · rw [if_pos q5, if_neg (fun w => by omega)]; exact cPo_same hz rfl
        rw [if_neg q5]
        by_cases q6 : (3 : Int) < w
        · rw [if_pos q6, if_neg (fun w => by omega)]; exact cPo_same hz rfl
        rw [if_neg q6, if_pos (show bC (aCs z) i = true ∧ bC (aCs z) j = true ∧ (0 ≤ n ∧ n ≤ 15) ∧ (0 ≤ w ∧ w ≤ 3) from ⟨q1, q2, ⟨by omega, by omega⟩, by omega, by omega⟩)]
        obtain ⟨x, c, rfl, hk, hl⟩ := bC_at q1
        obtain ⟨y, d, rfl, hm, hlm⟩ := bC_at q2
        rw [Int.toNat_natCast, Int.toNat_natCast, fFs_at hk, fFs_at hm]
        obtain ⟨-, -, t1⟩ := cT_rng hC hk
        obtain ⟨-, -, t2⟩ := cT_rng hC hm
        have b1 := cT_lt hC hk
        have b2 := cT_lt hC hm
        have l1 := (hO x c hk).1.2.2.2.2.2.2
        have l2 := (hO y d hm).1.2.2.2.2.2.2
        have tc := hT c (List.mem_of_getElem? hk)
        have td := hT d (List.mem_of_getElem? hm)
        have z1 : ∀ f ∈ kFs c, f.2 ≠ 0 := fun f hf => by have := (tc f hf).1; omega
        have z2 : ∀ f ∈ kFs d, f.2 ≠ 0 := fun f hf => by have := (td f hf).1; omega
        have s1 := (hO x c hk).2.2
        have s2 := (hO y d hm).2.2
        refine ⟨_, sp_X1_tree hOK hC hk, _, sp_X1_tree hOK hC hm, _, sp_X0_measure hOK (hSh440 hOK) t1 t2 ⟨Or.inl (by omega), Or.inl (by omega)⟩ (by omega) z1 z2, fun r1 M1 hP1 => ?_⟩
        obtain ⟨rfl, p1, p2, p3, p4, p5⟩ := hP1
        refine ⟨rfl, p2, _, sp_X0_pairUp p2 p1 (kSh440 p2) s1 s2 tc td l1 l2, fun r2 M2 hP2 => ?_⟩
        obtain ⟨rfl, g1, ⟨vs, g2⟩, g3⟩ := hP2
        refine ⟨rfl, g1, ?_⟩
        have zz : cS sh M2 z := cS_keep hz g1 (fun b hb => by rw [g3 b (by omega)]; exact p3 b (by omega))
        have don : ∀ u v : Int, u = v → cPo sh M 0 v z (some (0, u)) sh M2 := fun u v e => ⟨rfl, by rw [e], zz, fun b hb => by rw [g3 b (by omega)]; exact p3 b (by omega)⟩
        obtain ⟨c1, c2, c3, c4, c5, c6, c7⟩ := g2
        obtain ⟨a, rfl⟩ : ∃ a : Nat, n = (a : Int) := ⟨n.toNat, by omega⟩
        rw [Int.toNat_natCast, c1]
        by_cases q7 : (a : Int) < ((prF (kFs c) (kFs d)).length : Int)
        · have hp := List.getElem?_eq_getElem (show a < (prF (kFs c) (kFs d)).length by omega)
          generalize (prF (kFs c) (kFs d))[a] = p at hp
          have hv := List.getElem?_eq_getElem (show a < vs.length by omega)
          generalize vs[a] = v at hv
          rw [if_pos q7, rnN_at hp]
          have r1 := c3 a _ (by rw [List.getElem?_map, hp]; rfl)
          have r2 := c4 a _ (by rw [List.getElem?_map, hp]; rfl)
          have r3 := c5 a _ hv
          rw [Int.zero_add] at r1 r2 r3
          have ev : v = lkF (tC (kFs c) p.1) (tC (kFs d) p.2) ∧ cRg (tC (kFs c) p.1) ∧ cRg (tC (kFs d) p.2) := by
            obtain ⟨g, hg, k, hk2, e1, e2⟩ := c7 a p v hp hv
            obtain ⟨u1, f, a1, a2, -⟩ := goL_mem hg
            obtain ⟨u2, f2, a3, a4, -⟩ := goL_mem hk2
            rw [Int.zero_add] at a2 a4
            rw [e2, e1, a2, a4]
            show lkF f.2 f2.2 = lkF (tC (kFs c) (u1 : Int)) (tC (kFs d) (u2 : Int)) ∧ cRg (tC (kFs c) (u1 : Int)) ∧ cRg (tC (kFs d) (u2 : Int))
            rw [tC_at a1, tC_at a3]
            exact ⟨rfl, tc f (List.mem_of_getElem? a1), td f2 (List.mem_of_getElem? a3)⟩
          obtain ⟨⟨nn, hf⟩, hh⟩ := lk_01 ev.2.1 ev.2.2
          show (if w = 0 then _ else _)
          have r1' : M2 446 (a : Int) = p.1 := r1
          have r2' : M2 447 (a : Int) = p.2 := r2
          have r3' : M2 448 (a : Int) = lkF (tC (kFs c) p.1) (tC (kFs d) p.2) := by rw [← ev.1]; exact r3
          rw [r1', r2', r3']
          unfold rnV
          by_cases w0 : w = 0
          · rw [if_pos w0, if_pos w0]; exact ⟨⟨by omega, by omega⟩, don _ _ rfl⟩
          rw [if_neg w0, if_neg w0]
          by_cases w1 : w = 1
          · rw [if_pos w1, if_pos w1]; exact ⟨⟨by omega, by omega⟩, don _ _ rfl⟩
          rw [if_neg w1, if_neg w1]
          by_cases w2 : w = 2
          · rw [if_pos w2, if_pos w2]; exact ⟨⟨by omega, by omega⟩, _, sp_X11_floatBits g1 hf, don _ _ (f01_bit hf).symm⟩
          rw [if_neg w2, if_neg w2]
          exact ⟨⟨by omega, by omega⟩, _, sp_X11_hundredths g1 hh, don _ _ rfl⟩
        · rw [if_neg q7, rnN_no (List.getElem?_eq_none (by omega))]
          exact don _ _ rfl
      · rw [if_neg q4, if_neg (fun w => by omega)]; exact cPo_same hz rfl
    · rw [if_pos (bI_eq (by simpa using q2)), if_neg (fun w => q2 w.2.1)]; exact cPo_same hz rfl
  · rw [if_pos (bI_eq (by simpa using q1)), if_neg (fun w => q1 w.1)]; exact cPo_same hz rfl
theorem sp_X11_likeness {sh : gS} {M : gM} {z : aS} {i a j b w : Int} (hz : cS sh M z) (hT : kTen (aCs z)) : gC (gr 3 73) yX11_likeness cX11_likeness 9 (some (.int)) [(4, 0), (0, i), (0, a), (0, j), (0, b), (0, w)] sh M (cPo sh M 0 (aLike z i a j b w) z) := by
  obtain ⟨hOK, hC, -⟩ := id hz
  have hl9 := hC.2.1
  unfold aLike
  refine w_X11_likeness hOK ⟨_, sp_X1_has hOK hC, ?_⟩
  rw [hasI]
  by_cases q1 : bC (aCs z) i = true
  · rw [if_neg (bI_ne q1)]
    refine ⟨_, sp_X1_has hOK hC, ?_⟩
    rw [hasI]
    by_cases q2 : bC (aCs z) j = true
    · rw [if_neg (bI_ne q2)]
      refine ⟨_, sp_X11_isFile hOK, ?_⟩
      by_cases q3 : 0 ≤ a ∧ a ≤ 15
      · rw [decide_eq_true q3, if_neg bIt]
        refine ⟨_, sp_X11_isFile hOK, ?_⟩
        by_cases q4 : 0 ≤ b ∧ b ≤ 15
        · rw [decide_eq_true q4, if_neg bIt]
          by_cases q5 : w < 0
          · rw [if_pos q5, if_neg (fun w => by omega)]; exact cPo_same hz rfl
          rw [if_neg q5]
          by_cases q6 : (1 : Int) < w
          · rw [if_pos q6, if_neg (fun w => by omega)]; exact cPo_same hz rfl
          rw [if_neg q6, if_pos (show bC (aCs z) i = true ∧ bC (aCs z) j = true ∧ (0 ≤ a ∧ a ≤ 15) ∧ (0 ≤ b ∧ b ≤ 15) ∧ (0 ≤ w ∧ w ≤ 1) from ⟨q1, q2, q3, q4, by omega, by omega⟩)]
          obtain ⟨x, c, rfl, hk, hl⟩ := bC_at q1
          obtain ⟨y, d, rfl, hm, hlm⟩ := bC_at q2
          obtain ⟨u, rfl⟩ : ∃ u : Nat, a = (u : Int) := ⟨a.toNat, by omega⟩
          obtain ⟨v, rfl⟩ : ∃ v : Nat, b = (v : Int) := ⟨b.toNat, by omega⟩
          rw [Int.toNat_natCast, Int.toNat_natCast, fFs_at hk, fFs_at hm]
          obtain ⟨-, -, t1⟩ := cT_rng hC hk
          obtain ⟨-, -, t2⟩ := cT_rng hC hm
          refine ⟨_, sp_X1_tree hOK hC hk, _, sp_X1_tree hOK hC hm, ⟨t1.1.1, t1.1.2.2.2⟩, ?_⟩
          rw [(tOk_c t1).1]
          unfold lkV2
          by_cases l1 : (u : Int) < ((kFs c).length : Int)
          · rw [if_pos l1]
            refine ⟨⟨t2.1.1, t2.1.2.2.2⟩, ?_⟩
            rw [(tOk_c t2).1]
            by_cases l2 : (v : Int) < ((kFs d).length : Int)
            · rw [if_pos l2, if_pos ⟨l1, l2⟩]
              have a1 := List.getElem?_eq_getElem (show u < (kFs c).length by omega)
              have a2 := List.getElem?_eq_getElem (show v < (kFs d).length by omega)
              generalize (kFs c)[u] = f at a1
              generalize (kFs d)[v] = g at a2
              have cf := hT c (List.mem_of_getElem? hk) f (List.mem_of_getElem? a1)
              have cg := hT d (List.mem_of_getElem? hm) g (List.mem_of_getElem? a2)
              obtain ⟨⟨nn, hf⟩, hh⟩ := lk_01 cf cg
              have v1 := (t1.2.2.1.2.2 u f a1).2.1
              have v2 := (t2.2.2.1.2.2 v g a2).2.1
              rw [Int.zero_add] at v1 v2
              refine ⟨16, t1.1.2.2.1, ⟨by omega, by omega⟩, 16, t2.1.2.2.1, ⟨by omega, by omega⟩, ?_⟩
              rw [v1, v2, tC_at a1, tC_at a2]
              refine ⟨_, sp_X0_alike hOK (hSh440 hOK).1 (kSh440 hOK) cf cg, fun r1 M1 hP1 => ?_⟩
              obtain ⟨rfl, p1, p2⟩ := hP1
              refine ⟨_, rfl, p1, ?_⟩
              have don : ∀ u v : Int, u = v → cPo sh M 0 v z (some (0, u)) sh M1 := fun u v e => ⟨rfl, by rw [e], cS_keep hz p1 (fun b hb => p2 b (by omega)), fun b hb => p2 b (by omega)⟩
              by_cases w0 : w = 0
              · rw [if_pos w0, if_pos w0]; exact ⟨_, sp_X11_floatBits p1 hf, don _ _ (f01_bit hf).symm⟩
              · rw [if_neg w0, if_neg w0]; exact ⟨_, sp_X11_hundredths p1 hh, don _ _ rfl⟩
            · rw [if_neg l2, if_neg (fun w => l2 w.2)]; exact cPo_same hz rfl
          · rw [if_neg l1, if_neg (fun w => l1 w.1)]; exact cPo_same hz rfl
        · rw [decide_eq_false q4, if_pos bIf, if_neg (fun w => q4 w.2.2.2.1)]; exact cPo_same hz rfl
      · rw [decide_eq_false q3, if_pos bIf, if_neg (fun w => q3 w.2.2.1)]; exact cPo_same hz rfl
    · rw [if_pos (bI_eq (by simpa using q2)), if_neg (fun w => q2 w.2.1)]; exact cPo_same hz rfl
  · rw [if_pos (bI_eq (by simpa using q1)), if_neg (fun w => q1 w.1)]; exact cPo_same hz rfl
