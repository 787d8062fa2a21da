-- ==== look, touches on both sides
theorem cov_pq {w p : Int} {n : Nat} (hw : pW w) (hp : pW p) (hn : pNm w = (n : Int)) : n ≤ 6 ∧ (pCov w p = true ↔ pq p n = pq w n) := by
  obtain ⟨m, hm, hmn, q⟩ := pW_nm hw
  have : m = n := by omega
  subst this
  exact ⟨hm, by rw [pCov_iff hm q, pq_eq ⟨hw.1, hw.2.1⟩ ⟨hp.1, hp.2.1⟩ m hm]⟩
theorem pq_le {a b : Int} (h : a ≤ b) (n : Nat) : pq a n ≤ pq b n := Int.ediv_le_ediv (by exact_mod_cast Nat.two_pow_pos _) h
theorem pq_nn {a : Int} (h : 0 ≤ a) (n : Nat) : 0 ≤ pq a n := Int.ediv_nonneg h (Int.natCast_nonneg _)
theorem cov_mid {w p q r : Int} (hw : pW w) (hp : pW p) (hq : pW q) (hr : pW r) (h1 : p ≤ q) (h2 : q ≤ r) (c1 : pCov w p = true) (c2 : pCov w r = true) : pCov w q = true := by
  obtain ⟨m, hm, hmn, -⟩ := pW_nm hw
  have e1 := (cov_pq hw hp hmn).2.mp c1
  have e2 := (cov_pq hw hr hmn).2.mp c2
  refine (cov_pq hw hq hmn).2.mpr ?_
  have := pq_le h1 m
  have := pq_le h2 m
  omega
theorem pq_up {a b : Int} {n : Nat} (hn : n < 6) (h : pq a (n + 1) = pq b (n + 1)) : pq a n = pq b n := by
  rw [pq_succ a hn, pq_succ b hn] at h
  have := pg_rng a n
  have := pg_rng b n
  omega
theorem cov_lt {w p : Int} (hw : pW w) (hp : pW p) (h : pCov w p = true) (hne : p ≠ w) : pNm w + 1 ≤ pNm p := by
  have h1 := pCov_le hw hp h
  by_cases e : pNm p = pNm w
  · exact absurd (pCov_anti hw hp h ((pCov_dg hp).mpr (fun i hi => ((pCov_dg hw).mp h i (by omega)).symm))).symm hne
  · omega
/-- what `look` tells of a TREE -/
def lkV (w : Int) (fs : List gF) (k : Int) : Int := if k = 0 then tKind w fs else if k = 1 then tCnt w fs else if k = 2 then bI (tFolder w fs && tAlone w fs) else if pNm w = 6 then 0 else tEnt w fs (-1)
theorem noFold {w : Int} : ∀ {fs : List gF}, (∀ f ∈ fs, f.1 ≠ w → pCov w f.1 = false) → tFolder w fs = false ∧ ∀ last, tEnt w fs last = 0
  | [], _ => ⟨rfl, fun _ => rfl⟩
  | f :: r, h => by
    have ih := noFold (w := w) (fs := r) (fun g hg => h g (List.mem_cons_of_mem _ hg))
    by_cases e : f.1 = w
    · rw [tFolder, if_pos e]; exact ⟨ih.1, fun last => by rw [tEnt, if_pos e]; exact ih.2 last⟩
    · have hc := h f List.mem_cons_self e
      rw [tFolder, if_neg e, hc]; exact ⟨ih.1, fun last => by rw [tEnt, if_neg e, hc]; exact ih.2 last⟩
theorem fold_no {w : Int} : ∀ {fs : List gF}, (∀ f ∈ fs, f.1 ≠ w) → tFolder w fs = decide (0 < tCnt w fs)
  | [], _ => rfl
  | f :: r, h => by
    have ih := fold_no (w := w) (fs := r) (fun g hg => h g (List.mem_cons_of_mem _ hg))
    have hr := tCnt_rng w r
    rw [tFolder, if_neg (h f List.mem_cons_self), tCnt]
    cases hc : pCov w f.1 with
    | true => exact (decide_eq_true (show 0 < bI true + tCnt w r by rw [show bI true = 1 from rfl]; omega)).symm
    | false => rw [bIf, Int.zero_add]; exact ih
def lkP (n : Nat) (pre : List gF) : Int := match pre.getLast? with
  | none => -1
  | some g => pq g.1 (n + 1)
def lkC (w : Int) (n : Nat) : List gF → Int → Int
  | [], _ => 0
  | f :: r, p => (if f.1 ≠ w ∧ pCov w f.1 = true then (if p = pq f.1 (n + 1) then 0 else 1) else 0) + lkC w n r (pq f.1 (n + 1))
def lkA (w : Int) (n : Nat) : List gF → Bool
  | [] => true
  | f :: r => (if f.1 ≠ w ∧ pCov w f.1 = true then decide (pNm f.1 = (n : Int) + 1) else true) && lkA w n r
theorem lkC_rng (w : Int) (n : Nat) : ∀ (fs : List gF) (p : Int), 0 ≤ lkC w n fs p ∧ lkC w n fs p ≤ (fs.length : Int)
  | [], _ => ⟨Int.le_refl _, Int.le_refl _⟩
  | f :: r, p => by
    have := lkC_rng w n r (pq f.1 (n + 1))
    rw [lkC, List.length_cons]
    split
    · split <;> omega
    · omega
theorem lkA_is {w : Int} {n : Nat} (hw : pW w) (hn : pNm w = (n : Int)) : ∀ {fs : List gF}, tW fs → (∀ f ∈ fs, f.1 ≠ w) → tAlone w fs = lkA w n fs
  | [], _, _ => rfl
  | f :: r, hW, h => by
    have ih := lkA_is hw hn (fs := r) (tW_cons hW).2 (fun g hg => h g (List.mem_cons_of_mem _ hg))
    have hf := h f List.mem_cons_self
    rw [tAlone, lkA]
    by_cases hc : pCov w f.1 = true
    · have := cov_lt hw (tW_cons hW).1 hc hf
      rw [if_pos hc, if_pos (show f.1 ≠ w ∧ pCov w f.1 = true from ⟨hf, hc⟩)]
      by_cases q : pNm w + 1 < pNm f.1
      · rw [if_pos q, decide_eq_false (by omega)]; rfl
      · rw [if_neg q, decide_eq_true (by omega), ih]; rfl
    · rw [if_neg hc, if_neg (show ¬ (f.1 ≠ w ∧ pCov w f.1 = true) from fun w => hc w.2), ih]; rfl
theorem gushr_pq {p : Int} {n : Nat} (hp : pW p) (hn : n < 6) : gushr p (25 - 5 * (n : Int)) = pq p (n + 1) := by
  rw [gushr_div hp.1 (by have := hp.2.1; omega) _ (25 - 5 * n) (us_all n hn)]
  unfold pq
  rw [show 30 - 5 * (n + 1) = 25 - 5 * n by omega]
theorem gshr_pq {p : Int} {n : Nat} (hp : pW p) (hn : n < 6) : gshr p (25 - 5 * (n : Int)) = pq p (n + 1) := by
  have := pq_of hp.1 hp.2.1 (show n + 1 ≤ 6 by omega)
  rw [← this]
  congr 1
  omega
theorem ent_is {w : Int} {n : Nat} (hw : pW w) (hn : pNm w = (n : Int)) (hn6 : n < 6) : ∀ (fs : List gF) (last p : Int), tW fs → tSrt fs → (∀ f ∈ fs, f.1 ≠ w) → (∀ f ∈ fs, pCov w f.1 = true → (last = pq f.1 (n + 1) ↔ p = pq f.1 (n + 1))) → (last = -1 ∨ ∃ q, pW q ∧ pCov w q = true ∧ last = pq q (n + 1) ∧ ∀ f ∈ fs, q < f.1) → tEnt w fs last = lkC w n fs p
  | [], _, _, _, _, _, _, _ => rfl
  | f :: r, last, p, hW, hS, hno, h1, h2 => by
    obtain ⟨hpf, hWr⟩ := tW_cons hW
    have hS2 := List.pairwise_cons.mp hS
    have hf := hno f List.mem_cons_self
    have hnor : ∀ g ∈ r, g.1 ≠ w := fun g hg => hno g (List.mem_cons_of_mem _ hg)
    rw [tEnt, if_neg hf, lkC, hn, gushr_pq hpf hn6]
    by_cases hc : pCov w f.1 = true
    · rw [if_pos hc, if_pos (show f.1 ≠ w ∧ pCov w f.1 = true from ⟨hf, hc⟩)]
      have h1f := h1 f List.mem_cons_self hc
      have ih := ent_is hw hn hn6 r (pq f.1 (n + 1)) (pq f.1 (n + 1)) hWr hS2.2 hnor (fun _ _ _ => Iff.rfl) (Or.inr ⟨f.1, hpf, hc, rfl, hS2.1⟩)
      by_cases e : pq f.1 (n + 1) = last
      · rw [if_pos e, if_pos (h1f.mp e.symm), ← e, ih, Int.zero_add]
      · rw [if_neg e, if_neg (fun z => e (h1f.mpr z).symm), ih]
    · rw [if_neg hc, if_neg (show ¬ (f.1 ≠ w ∧ pCov w f.1 = true) from fun w => hc w.2), Int.zero_add]
      refine ent_is hw hn hn6 r last _ hWr hS2.2 hnor (fun g hg cg => ⟨fun e => ?_, fun e => ?_⟩) ?_
      · exfalso
        have hpg := (hWr g hg).1
        rcases h2 with e2 | ⟨q, a, b, c, d⟩
        · have := pq_nn hpg.1 (n + 1); omega
        · exact hc (cov_mid hw a hpf hpg (Int.le_of_lt (d f List.mem_cons_self)) (Int.le_of_lt (hS2.1 g hg)) b cg)
      · exfalso
        have hpg := (hWr g hg).1
        have := (cov_pq hw hpg hn).2.mp cg
        exact hc ((cov_pq hw hpf hn).2.mpr ((pq_up hn6 e).trans this))
      · rcases h2 with e2 | ⟨q, a, b, c, d⟩
        · exact Or.inl e2
        · exact Or.inr ⟨q, a, b, c, fun g hg => d g (List.mem_cons_of_mem _ hg)⟩
theorem s_isNewEntry {M : gM} {t : Int} {fs pre suf : List gF} {f : gF} {n : Nat} (hT : uT M t fs) (hW : tW fs) (e : fs = pre ++ f :: suf) (hn : n < 6) : F_isNewEntry M t (pre.length : Int) (n : Int) = some (if lkP n pre = pq f.1 (n + 1) then 0 else 1) := by
  have h32 := uT_32 hT
  have hlen := congrArg List.length e
  rw [List.length_append, List.length_cons] at hlen
  have hpf := (tW_mid hW e).1
  rw [eq_isNewEntry]
  rcases List.eq_nil_or_concat pre with rfl | ⟨p2, g, rfl⟩
  · rw [if_pos (by rfl), show lkP n [] = -1 from rfl, if_neg (by have := pq_nn hpf.1 (n + 1); omega)]
  · have hl2 : (p2.concat g).length = p2.length + 1 := by simp
    have hpg := (tW_mid (pre := p2) (f := g) (r := f :: suf) hW (by rw [e]; simp)).1
    rw [if_neg (by omega), gw32_id (by omega) (by omega), show ((p2.concat g).length : Int) - 1 = (p2.length : Int) by omega]
    rw [gI_bb (s_pathAt hT (j := p2.length) (f := g) (by rw [e]; simp)), gI_bb (s_pathAt hT (at_mid e))]
    simp (disch := omega) only [gw32_id]
    rw [gshr_pq hpg hn, gshr_pq hpf hn, show lkP n (p2.concat g) = pq g.1 (n + 1) by unfold lkP; simp]
    split <;> rfl
theorem s_lookAt {M : gM} {t w k : Int} {fs : List gF} (hT : uT M t fs) (hG : tGd fs) (hw : pW w) (hk : 0 ≤ k ∧ k ≤ 3) : F_lookAt M t w k = some (lkV w fs k) := by
  obtain ⟨hS, hP, hW⟩ := hG
  have h32 := uT_32 hT
  obtain ⟨n, hn6, hn, -⟩ := pW_nm hw
  unfold lkV
  rw [eq_lookAt, gI_bb (s_kindAt hT hW hw)]
  by_cases k0 : k = 0
  · rw [if_pos k0, if_pos k0]
  rw [if_neg k0, if_neg k0]
  by_cases k1 : k = 1
  · rw [if_pos k1, if_pos k1, gI_bb (s_filesBelow hT hW hw)]
  rw [if_neg k1, if_neg k1]
  by_cases q : tKind w fs = 2
  · rw [if_pos q, gI_bb (s_names hw), hn]
    have hq : tFind w fs 0 = -1 ∧ 0 < tCnt w fs := by
      unfold tKind at q
      by_cases a : tFind w fs 0 = -1
      · rw [if_pos a] at q
        by_cases b : 0 < tCnt w fs
        · exact ⟨a, b⟩
        · rw [if_neg b] at q; omega
      · rw [if_neg a] at q; omega
    have hno := tFind_no.mp hq.1
    have lp : ∀ (suf pre : List gF) (c : Int) (al : Bool), fs = pre ++ suf → 0 ≤ c → c ≤ (pre.length : Int) → F_lookAt_50 M t w k (tKind w fs) (n : Int) c (bI al) (pre.length : Int) = some (if k = 2 then bI (al && lkA w n suf) else c + lkC w n suf (lkP n pre)) := by
      intro suf
      induction suf with
      | nil =>
        intro pre c al e c0 c1
        have hlen := congrArg List.length e
        rw [List.append_nil] at hlen
        rw [eq_lookAt_50, if_pos hT.1, hT.2.1, if_neg (by omega)]
        by_cases k2 : k = 2
        · rw [if_pos k2, if_pos k2]
          cases al <;> rfl
        · rw [if_neg k2, if_neg k2, lkC, Int.add_zero]
      | cons f r ih =>
        intro pre c al e c0 c1
        have hlen := congrArg List.length e
        rw [List.length_append, List.length_cons] at hlen
        have hpf := (tW_mid hW e).1
        have nx : ∀ (c2 : Int) (al2 : Bool), 0 ≤ c2 → c2 ≤ c + 1 → F_lookAt_50 M t w k (tKind w fs) (n : Int) c2 (bI al2) ((pre.length : Int) + 1) = some (if k = 2 then bI (al2 && lkA w n r) else c2 + lkC w n r (pq f.1 (n + 1))) := fun c2 al2 d0 d1 => by
          have := ih (pre ++ [f]) c2 al2 (by rw [e]; simp) d0 (by rw [List.length_append, List.length_singleton]; omega)
          rw [List.length_append, show lkP n (pre ++ [f]) = pq f.1 (n + 1) by unfold lkP; simp] at this
          simpa using this
        rw [eq_lookAt_50, if_pos hT.1, hT.2.1, if_pos (by omega), gI_bb (s_pathAt hT (at_mid e)), gI_bb (s_begins hw hpf)]
        rw [gw32_id (z := (pre.length : Int) + 1) (by omega) (by omega), lkA, lkC]
        by_cases hc : f.1 ≠ w ∧ pCov w f.1 = true
        · have hlt := cov_lt hw hpf hc.2 hc.1
          have h6 := pNm_rng f.1
          rw [show (decide (w ≠ f.1) && pCov w f.1) = true by rw [decide_eq_true (show w ≠ f.1 from fun z => hc.1 z.symm), hc.2]; rfl, if_neg bIt, gI_bb (s_isNewEntry hT hW e (by omega)), if_pos hc, if_pos hc]
          have tail : ∀ c2 : Int, 0 ≤ c2 → c2 ≤ c + 1 → F_lookAt_96 M t w k (tKind w fs) (n : Int) c2 (bI al) (pre.length : Int) = some (if k = 2 then bI (al && (decide (pNm f.1 = (n : Int) + 1) && lkA w n r)) else c2 + lkC w n r (pq f.1 (n + 1))) := fun c2 d0 d1 => by
            rw [eq_lookAt_96]
            rw [gw32_id (z := (pre.length : Int) + 1) (by omega) (by omega)]
            cases al with
            | false =>
              rw [if_pos bIf]
              have := nx c2 false d0 d1
              rw [Bool.false_and] at this ⊢
              exact this
            | true =>
              rw [if_neg bIt, gI_bb (s_pathAt hT (at_mid e)), gI_bb (s_names hpf), gw32_id (by omega) (by omega)]
              by_cases y : pNm f.1 = (n : Int) + 1
              · rw [if_pos y, decide_eq_true y]
                have := nx c2 true d0 d1
                rw [Bool.true_and] at this ⊢
                exact this
              · rw [if_neg y, decide_eq_false y]
                have := nx c2 false d0 d1
                rw [Bool.false_and] at this ⊢
                exact this
          by_cases y : lkP n pre = pq f.1 (n + 1)
          · rw [if_pos y, if_pos rfl, tail c c0 (by omega), Int.zero_add]
          · rw [if_neg y, if_neg (by decide), gw32_id (by omega) (by omega), tail (c + 1) (by omega) (by omega), ← Int.add_assoc]
        · rw [show (decide (w ≠ f.1) && pCov w f.1) = false by
            cases hx : pCov w f.1 with
            | false => rw [Bool.and_false]
            | true => rw [decide_eq_false (show ¬ w ≠ f.1 from fun z => hc ⟨fun e => z e.symm, hx⟩)]; rfl, if_pos bIf, if_neg hc, if_neg hc, Bool.true_and, Int.zero_add]
          exact nx c al c0 (by omega)
    have := lp fs [] 0 true rfl (by decide) (by decide)
    rw [show bI true = 1 from rfl] at this
    refine Eq.trans this ?_
    rw [Bool.true_and, Int.zero_add]
    by_cases k2 : k = 2
    · rw [if_pos k2, if_pos k2, fold_no hno, decide_eq_true hq.2, lkA_is hw hn hW hno]; rfl
    · rw [if_neg k2, if_neg k2]
      have hn5 : n < 6 := by
        refine Classical.byContradiction (fun z => ?_)
        have h0 : tCnt w fs = 0 := tCnt_zero.mpr (fun f hf => by
          cases hc : pCov w f.1 with
          | false => rfl
          | true =>
            have := cov_lt hw (hW f hf).1 hc (hno f hf)
            have := pNm_rng f.1
            omega)
        omega
      rw [if_neg (by omega), ent_is hw hn hn5 fs (-1) (-1) hW hS hno (fun _ _ _ => Iff.rfl) (Or.inl rfl)]
      rfl
  · rw [if_neg q]
    have hno : ∀ f ∈ fs, f.1 ≠ w → pCov w f.1 = false := fun f hf hne => by
      cases hc : pCov w f.1 with
      | false => rfl
      | true =>
        rcases tFind_spec w fs 0 (by decide) with ⟨a, -, c⟩ | ⟨j, g, a, b, c, -⟩
        · have hr := tCnt_rng w fs
          have : tCnt w fs ≠ 0 := fun z => by rw [tCnt_zero.mp z f hf] at hc; cases hc
          exact absurd (show tKind w fs = 2 by unfold tKind; rw [if_pos a, if_pos (by omega)]) q
        · have := hP g (List.mem_of_getElem? a) f hf (by rw [b]; exact hc)
          exact absurd (this.symm.trans b) hne
    have h := noFold hno
    by_cases k2 : k = 2
    · rw [if_pos k2, h.1]; rfl
    · rw [if_neg k2, h.2]; split <;> rfl
-- a PATH that is the whole text
def wpR (s : List Int) : Int × Int := if (pPath 6 s 0).1 = 0 then (if (pPath 6 s 0).2.2.2 = [] then (0, (pPath 6 s 0).2.1) else (-1000 - (pPath 6 s 0).2.2.1, (pPath 6 s 0).2.1)) else ((pPath 6 s 0).1, (pPath 6 s 0).2.1)
theorem wpR_rng (s : List Int) : 0 ≤ (pPath 6 s 0).2.2.1 := by
  have go : ∀ (k : Nat) (w v : Int) (s : List Int) (p : Int), 0 ≤ p → 0 ≤ (pPathGo k w v s p).2.2.1 := fun k => by
    induction k with
    | zero =>
      intro w v s p hp
      cases s with
      | nil => rw [pPathGo]; exact hp
      | cons c r =>
        rw [pPathGo]
        split
        · exact hp
        · exact hp
    | succ k ih =>
      intro w v s p hp
      cases s with
      | nil => rw [pPathGo]; exact hp
      | cons c r =>
        rw [pPathGo]
        split
        · split
          · exact ih _ _ _ _ (by omega)
          · show 0 ≤ p + 1; omega
        · exact hp
  exact go 6 _ _ s 0 (Int.le_refl _)
theorem wpR_W {s : List Int} (h : (wpR s).1 = 0) (h2 : 0 ≤ (pPath 6 s 0).2.2.1) : pW (wpR s).2 ∧ 1 ≤ pNm (wpR s).2 := by
  unfold wpR at h ⊢
  by_cases a : (pPath 6 s 0).1 = 0
  · rw [if_pos a] at h ⊢
    by_cases b : (pPath 6 s 0).2.2.2 = []
    · rw [if_pos b]; exact pPath_W (by decide) (by decide) a
    · rw [if_neg b] at h
      have : -1000 - (pPath 6 s 0).2.2.1 = 0 := h
      omega
  · rw [if_neg a] at h; exact absurd h a
theorem uSt_tape {M M1 : gM} {z : aS} {s : List Int} {F : List Int} (h : uSt M z) (hf : gFr [] F M M1) (hF : (0 : Int) ∉ F ∧ (70 : Int) ∉ F ∧ (71 : Int) ∉ F) (hs : uBy M1 s) : uSt M1 (s, z.2) := by
  obtain ⟨h1, h2, h3, h4, h5⟩ := h
  have e : ∀ b : Int, b ≠ 711 → M1 b = M b := fun b b0 => hf.1 b (fun w => by cases w) b0
  refine ⟨uC_same h1 (hf.2 0 hF.1) (fun b b0 b1 => e b (by omega)), hs, fun i i0 i1 => ?_, fun p p0 p1 => ?_, ?_⟩
  · exact uRfX_of (A := 727) (B := 728) (h3 i i0 i1) (fun q _ _ => by rw [e 727 (by decide)]) (fun q _ _ => by rw [e 728 (by decide)])
  · exact uPl_of (h4 p p0 p1) (fun q _ _ => by rw [e 729 (by decide)]) (fun q _ _ => by rw [e 730 (by decide)]) (fun q _ _ => by rw [e 731 (by decide)])
  · rcases h5 with ⟨a, b⟩ | ⟨a, b, c, d, f⟩
    · exact Or.inl ⟨a, by rw [hf.2 71 hF.2.2]; exact b⟩
    · refine Or.inr ⟨a, by rw [hf.2 71 hF.2.2]; exact b, by rw [hf.2 70 hF.2.1]; exact c, fun i i0 i1 => ?_, fun p p0 p1 => ?_⟩
      · exact uRfX_of (d i i0 i1) (fun q _ _ => by rw [e 753 (by decide)]) (fun q _ _ => by rw [e 754 (by decide)])
      · exact uPl_of (f p p0 p1) (fun q _ _ => by rw [e 755 (by decide)]) (fun q _ _ => by rw [e 756 (by decide)]) (fun q _ _ => by rw [e 757 (by decide)])
theorem s_readsWholePath {M : gM} {z : aS} {n : Nat} (hz : uSt M z) (hn : n ≤ (aTp z).length) : ∃ M1, F_readsWholePath M (n : Int) = some ((if (wpR ((aTp z).take n)).1 = 0 then 1 else 0), M1) ∧ uSt M1 ([], z.2) ∧ ((wpR ((aTp z).take n)).1 = 0 → M1 711 23 = (wpR ((aTp z).take n)).2) ∧ ((wpR ((aTp z).take n)).1 ≠ 0 → M1 711 21 = (wpR ((aTp z).take n)).1) := by
  have hB := hz.2.1
  have h260 := hB.2.1
  generalize hs : (aTp z).take n = t
  have key : ∃ M1, F_readsWholePath M (n : Int) = some ((if (wpR t).1 = 0 then 1 else 0), M1) ∧ M1 711 18 = 0 ∧ ((wpR t).1 = 0 → M1 711 23 = (wpR t).2) ∧ ((wpR t).1 ≠ 0 → M1 711 21 = (wpR t).1) := by
    rw [eq_readsWholePath]
    have e0 : F_beginsText M (n : Int) = some (gU (gU M 711 19 0) 711 20 (n : Int)) := by rw [eq_beginsText]
    rw [gI_bb e0]
    have hR1 : uR (gU (gU M 711 19 0) 711 20 (n : Int)) 0 t := by
      rw [← hs]
      exact uR_by hB hn (by rw [gU_idx (by decide), gU_same]) (gU_same _ _ _ _) (by rw [gU_cell _ _ _ (by decide), gU_cell _ _ _ (by decide)])
    obtain ⟨r, M2, e2, o1, o2⟩ := s_readsPath hR1 (show (6 : Nat) ≤ 6 by decide)
    rw [show ((6 : Nat) : Int) = 6 from rfl] at e2
    rw [gI_bb e2]
    unfold wpR
    by_cases a : (pPath 6 t 0).1 = 0
    · obtain ⟨rfl, hR2, h23⟩ := o1 a
      have hl := uR_len hR2
      rw [if_neg (show ¬ (1 : Int) = 0 by decide), if_pos a]
      show ∃ M1, (if M2 711 19 = M2 711 20 then _ else _) = _ ∧ _
      rw [hR2.1, hR2.2.2.1]
      by_cases b : (pPath 6 t 0).2.2.2 = []
      · rw [if_pos b, b, if_pos (by simp)]
        exact ⟨_, rfl, gU_same _ _ _ _, fun _ => by rw [gU_idx (by decide)]; exact h23, fun z => absurd rfl z⟩
      · have hb : (pPath 6 t 0).2.2.2.length ≠ 0 := fun z => b (List.length_eq_zero_iff.mp z)
        rw [if_neg b, if_neg (by omega), gI_bb (s_wrongAt (by decide) (show 0 ≤ M2 711 19 ∧ M2 711 19 ≤ 260 by rw [hR2.1]; omega))]
        rw [if_pos rfl]
        refine ⟨gU (gU M2 711 21 (-1000 * 1 - M2 711 19)) 711 18 0, ?_, gU_same _ _ _ _, fun z => ?_, fun _ => ?_⟩
        · rw [if_neg (show ¬ -1000 - (pPath 6 t 0).2.2.1 = 0 by omega)]
        · have : -1000 - (pPath 6 t 0).2.2.1 = 0 := z
          omega
        · rw [gU_idx (by decide), gU_same, hR2.1]; show -1000 * 1 - _ = -1000 - _; omega
    · obtain ⟨rfl, h21⟩ := o2 a
      rw [if_pos (show (0 : Int) = 0 from rfl), if_neg a]
      exact ⟨_, by rw [if_neg (show ¬ (pPath 6 t 0).1 = 0 from a)], gU_same _ _ _ _, fun z => absurd z a, fun _ => by rw [gU_idx (by decide)]; exact h21⟩
  obtain ⟨M1, e1, h18, h23, h21⟩ := key
  refine ⟨M1, e1, uSt_tape hz (fr_readsWholePath e1) (by decide) ⟨h18, by decide, fun j c hj => by cases hj⟩, h23, h21⟩
def aLook (z : aS) (k n w : Int) : Int × List Int :=
  if bC (aCs z) k = true ∧ (1 ≤ n ∧ n ≤ 11) ∧ (0 ≤ w ∧ w ≤ 3) ∧ n ≤ ((aTp z).length : Int) then
    ((if (wpR ((aTp z).take n.toNat)).1 = 0 then lkV (wpR ((aTp z).take n.toNat)).2 (fFs (aCs z) k.toNat) w else (wpR ((aTp z).take n.toNat)).1), [])
  else (-1, aTp z)
theorem s_look {M : gM} {z : aS} {k n w : Int} (hz : uSt M z) (hG : kGd (aCs z)) : ∃ M1, F_look M k n w = some ((aLook z k n w).1, M1) ∧ uSt M1 ((aLook z k n w).2, z.2) := by
  unfold aLook
  rw [eq_look, gI_bb (s_isCommit hz.1 k)]
  have no : ¬ (bC (aCs z) k = true ∧ (1 ≤ n ∧ n ≤ 11) ∧ (0 ≤ w ∧ w ≤ 3) ∧ n ≤ ((aTp z).length : Int)) → ∀ y : Int × List Int, ∃ M1, some ((-1 : Int), M) = some ((if bC (aCs z) k = true ∧ (1 ≤ n ∧ n ≤ 11) ∧ (0 ≤ w ∧ w ≤ 3) ∧ n ≤ ((aTp z).length : Int) then y else (-1, aTp z)).1, M1) ∧ uSt M1 ((if bC (aCs z) k = true ∧ (1 ≤ n ∧ n ≤ 11) ∧ (0 ≤ w ∧ w ≤ 3) ∧ n ≤ ((aTp z).length : Int) then y else (-1, aTp z)).2, z.2) := fun q y => by
    rw [if_neg q]; exact ⟨M, rfl, hz⟩
  by_cases q1 : bC (aCs z) k = true
  · have q1' := of_decide_eq_true q1
    rw [decide_eq_true q1', if_neg bIt, gI_bb s_in]
    by_cases q2 : 1 ≤ n ∧ n ≤ 11
    · rw [decide_eq_true q2, if_neg bIt, gI_bb s_in]
      by_cases q3 : 0 ≤ w ∧ w ≤ 3
      · rw [decide_eq_true q3, if_neg bIt, hz.2.1.1]
        by_cases q4 : ((aTp z).length : Int) < n
        · rw [if_pos q4]; exact no (fun w => by omega) _
        · rw [if_neg q4, if_pos (show bC (aCs z) k = true ∧ (1 ≤ n ∧ n ≤ 11) ∧ (0 ≤ w ∧ w ≤ 3) ∧ n ≤ ((aTp z).length : Int) from ⟨q1, q2, q3, by omega⟩)]
          clear no
          obtain ⟨m, rfl⟩ : ∃ m : Nat, n = (m : Int) := ⟨n.toNat, by omega⟩
          rw [Int.toNat_natCast]
          obtain ⟨M1, e1, z1, h23, h21⟩ := s_readsWholePath hz (show m ≤ (aTp z).length by omega)
          rw [gI_bb e1]
          by_cases a : (wpR ((aTp z).take m)).1 = 0
          · rw [if_pos a, if_neg (show ¬ (1 : Int) = 0 by decide), if_pos a]
            obtain ⟨nk, c, rfl, hk, hl⟩ := bC_at q1
            have hT := (z1.1.2.2 nk c hk).2.2.2.2.2.2
            have hW := (wpR_W a (wpR_rng _)).1
            rw [Int.toNat_natCast, fFs_at hk]
            show ∃ M9, Option.bind (F_lookAt M1 (nk : Int) (M1 711 23) w) _ = _ ∧ _
            rw [h23 a, gI_bb (s_lookAt hT (hG.2 c (List.mem_of_getElem? hk)) hW q3)]
            exact ⟨M1, rfl, z1⟩
          · rw [if_neg a, if_pos (show (0 : Int) = 0 from rfl), if_neg a]
            exact ⟨M1, by show some (M1 711 21, M1) = _; rw [h21 a], z1⟩
      · rw [decide_eq_false q3, if_pos bIf]; exact no (fun w => q3 w.2.2.1) _
    · rw [decide_eq_false q2, if_pos bIf]; exact no (fun w => q2 w.2.1) _
  · rw [show decide (0 ≤ k ∧ k < ((aCs z).length : Int)) = false from by
      have : bC (aCs z) k = false := by simpa using q1
      exact this, if_pos bIf]; exact no (fun w => q1 w.1) _
