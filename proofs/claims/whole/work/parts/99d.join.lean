-- ==== join on both sides
/-- in a list in order, neighbours tell whether one PATH is a BEGINNING of another -/
theorem clash_iff : ∀ {fs : List gF}, tSrt fs → tW fs → (tClash0 fs = true ↔ ∃ f ∈ fs, ∃ g ∈ fs, f.1 ≠ g.1 ∧ pCov f.1 g.1 = true)
  | [], _, _ => ⟨fun h => (by cases h), fun ⟨f, hf, _⟩ => (by cases hf)⟩
  | f :: r, hS, hW => by
    have h2 := List.pairwise_cons.mp hS
    have w2 := tW_cons hW
    cases r with
    | nil =>
      exact ⟨fun h => (by cases h), fun ⟨a, ha, b, hb, hne, _⟩ => by
        rw [List.mem_singleton.mp ha, List.mem_singleton.mp hb] at hne; exact absurd rfl hne⟩
    | cons g s =>
      have ih := clash_iff (fs := g :: s) h2.2 w2.2
      have hu : tClash0 (f :: g :: s) = if pCov f.1 g.1 then true else tClash0 (g :: s) := rfl
      rw [hu]
      cases hc : pCov f.1 g.1 with
      | true =>
        refine ⟨fun _ => ⟨f, List.mem_cons_self, g, List.mem_cons_of_mem _ List.mem_cons_self, ?_, hc⟩, fun _ => rfl⟩
        have := h2.1 g List.mem_cons_self; omega
      | false =>
        rw [if_neg (by decide), ih]
        constructor
        · rintro ⟨a, ha, b, hb, w⟩
          exact ⟨a, List.mem_cons_of_mem _ ha, b, List.mem_cons_of_mem _ hb, w⟩
        · rintro ⟨a, ha, b, hb, hne, hcov⟩
          rcases List.mem_cons.mp ha with e | ha'
          · subst e
            rcases List.mem_cons.mp hb with e | hb'
            · rw [e] at hne; exact absurd rfl hne
            · have hgb : g.1 ≤ b.1 := by
                rcases List.mem_cons.mp hb' with e | hb2
                · rw [e]; exact Int.le_refl _
                · exact Int.le_of_lt ((List.pairwise_cons.mp h2.2).1 b hb2)
              have := cov_mid w2.1 w2.1 (w2.2 g List.mem_cons_self).1 (w2.2 b hb').1 (Int.le_of_lt (h2.1 g List.mem_cons_self)) hgb (pCov_self _) hcov
              rw [hc] at this; cases this
          · rcases List.mem_cons.mp hb with e | hb'
            · -- a later one can't be a BEGINNING of an earlier one
              subst e
              have hlt := h2.1 a ha'
              obtain ⟨n, hn6, hn, -⟩ := pW_nm (w2.2 a ha').1
              have e1 := (cov_pq (w2.2 a ha').1 w2.1 hn).2.mp hcov
              have hle : pNm a.1 ≤ pNm b.1 := pCov_le (w2.2 a ha').1 w2.1 hcov
              exfalso
              -- what is a BEGINNING is not greater
              have key : a.1 ≤ b.1 := by
                have ha0 := (w2.2 a ha').1
                obtain ⟨m, hm6, hmn, hz⟩ := pW_nm ha0
                have hm : m = n := by omega
                subst hm
                -- all its other NAMES are none
                have hdiv : a.1 % (2 ^ (30 - 5 * m) : Nat) = 0 := pW_low ha0 hn hn6
                have hq : a.1 = pq a.1 m * (2 ^ (30 - 5 * m) : Nat) := by
                  unfold pq
                  have := Int.mul_ediv_add_emod a.1 ((2 ^ (30 - 5 * m) : Nat) : Int)
                  rw [Int.mul_comm] at this
                  omega
                have hqb : pq b.1 m * (2 ^ (30 - 5 * m) : Nat) ≤ b.1 := by
                  unfold pq
                  have := Int.mul_ediv_add_emod b.1 ((2 ^ (30 - 5 * m) : Nat) : Int)
                  have h0 := Int.emod_nonneg b.1 (show ((2 ^ (30 - 5 * m) : Nat) : Int) ≠ 0 by have := Nat.two_pow_pos (30 - 5 * m); omega)
                  rw [Int.mul_comm] at this
                  omega
                rw [hq, ← e1]; exact hqb
              omega
            · exact ⟨a, ha', b, hb', hne, hcov⟩
theorem s_isTree {M : gM} {t : Int} {fs : List gF} (hT : uT M t fs) (hS : tSrt fs) (hW : tW fs) : F_isTree M t = some (bI (!tClash0 fs)) := by
  have h32 := uT_32 hT
  have lp : ∀ (suf pre : List gF), fs = pre ++ suf → F_isTree_2 M t (pre.length : Int) = some (bI (suf.all (fun f => !tAhead f.1 fs))) := by
    intro suf
    induction suf with
    | nil =>
      intro pre e
      have hlen := congrArg List.length e
      rw [List.append_nil] at hlen
      rw [eq_isTree_2, if_pos hT.1, hT.2.1, if_neg (by omega)]; rfl
    | cons f r ih =>
      intro pre e
      have hlen := congrArg List.length e
      rw [List.length_append, List.length_cons] at hlen
      have nx := ih (pre ++ [f]) (by rw [e]; simp)
      rw [List.length_append] at nx
      rw [eq_isTree_2, if_pos hT.1, hT.2.1, if_pos (by omega), gI_bb (s_pathAt hT (at_mid e)), gI_bb (s_isBarred hT hW (tW_mid hW e).1), gw32_id (by omega) (by omega), List.all_cons]
      cases tAhead f.1 fs with
      | false => rw [if_pos bIf, Bool.not_false, Bool.true_and]; exact nx
      | true => rw [if_neg bIt]; rfl
  rw [eq_isTree]
  have := lp fs [] rfl
  have e : fs.all (fun f => !tAhead f.1 fs) = !tClash0 fs := by
    rw [Bool.eq_iff_iff, List.all_eq_true, Bool.not_eq_true', ← Bool.not_eq_true, clash_iff hS hW]
    constructor
    · intro h ⟨f, hf, g, hg, hne, hc⟩
      have := h g hg
      rw [tAhead_iff.mpr ⟨f, hf, hne, hc⟩] at this
      cases this
    · intro h f hf
      cases hx : tAhead f.1 fs with
      | false => rfl
      | true =>
        obtain ⟨g, hg, hne, hc⟩ := tAhead_iff.mp hx
        exact absurd ⟨g, hg, f, hf, hne, hc⟩ h
  rw [e] at this
  exact this
theorem tTakeAll_is : ∀ (gs fs : List gF), tSrt fs → tW fs → tW gs → tSrt (tTakeAll gs fs).2 ∧ tW (tTakeAll gs fs).2 ∧ (tTakeAll gs fs).2.length ≤ fs.length + gs.length
  | [], fs, hS, hW, _ => ⟨hS, hW, Nat.le_refl _⟩
  | g :: r, fs, hS, hW, hG => by
    rw [tTakeAll]
    have hg := hG g List.mem_cons_self
    split
    · exact ⟨hS, hW, by rw [List.length_cons]; show fs.length ≤ _; omega⟩
    · have hl := tPut_len g.1 g.2 fs
      have := tTakeAll_is r (tPut g.1 g.2 fs) (tPut_srt _ _ hS) (fun x hx => by
        rcases tPut_mem hx with e | e
        · rw [e]; exact hg
        · exact hW x e) (tW_cons hG).2
      rw [List.length_cons]
      exact ⟨this.1, this.2.1, by omega⟩
theorem tClash_gd {fs : List gF} (hS : tSrt fs) (hW : tW fs) (h : tClash0 fs = false) : tGd fs := by
  refine ⟨hS, fun f hf g hg hc => ?_, hW⟩
  refine Classical.byContradiction (fun hne => ?_)
  rw [(clash_iff hS hW).mpr ⟨f, hf, g, hg, hne, hc⟩] at h
  cases h
theorem s_putsTogether {M : gM} {t u : Int} {fs gs : List gF} (hT : uT M t fs) (hU : uT M u gs) (ht : t ≠ 122) (hu : u ≠ 122) (hS : tSrt fs) (hW : tW fs) (hG : tW gs) (hl : fs.length + gs.length ≤ 32) :
    ∃ M1, F_putsTogether M t u = some (bI ((tTakeAll gs fs).1 && !tClash0 (tTakeAll gs fs).2), M1) ∧ ((tTakeAll gs fs).1 = true → uT M1 122 (tTakeAll gs fs).2) ∧ (∀ (v : Int) (hs : List gF), v ≠ 122 → uT M v hs → uT M1 v hs) := by
  obtain ⟨M1, e1, p1⟩ := s_copyTree (b := 122) hT (by decide) (fun w => ht w.symm) (by show _ ≤ (32 : Int); omega)
  rw [eq_putsTogether, gI_bb e1]
  have lp : ∀ (suf pre cur : List gF) (M2 : gM), gs = pre ++ suf → uT M2 122 cur → tSrt cur → tW cur → cur.length + suf.length ≤ 32 → (∀ (v : Int) (hs : List gF), v ≠ 122 → uT M v hs → uT M2 v hs) → ∃ M3, F_putsTogether_9 M2 t u (pre.length : Int) = some (bI ((tTakeAll suf cur).1 && !tClash0 (tTakeAll suf cur).2), M3) ∧ ((tTakeAll suf cur).1 = true → uT M3 122 (tTakeAll suf cur).2) ∧ (∀ (v : Int) (hs : List gF), v ≠ 122 → uT M v hs → uT M3 v hs) := by
    intro suf
    induction suf with
    | nil =>
      intro pre cur M2 e hc h1 h2 h3 h4
      have hlen := congrArg List.length e
      rw [List.append_nil] at hlen
      have hU2 := h4 u gs hu hU
      rw [eq_putsTogether_9, if_pos hU2.1, hU2.2.1, if_neg (by omega), gI_bb (s_isTree hc h1 h2)]
      exact ⟨M2, rfl, fun _ => hc, h4⟩
    | cons g r ih =>
      intro pre cur M2 e hc h1 h2 h3 h4
      have hlen := congrArg List.length e
      rw [List.length_append, List.length_cons] at hlen
      rw [List.length_cons] at h3
      have hU2 := h4 u gs hu hU
      have hg := tW_mid hG e
      have hpl := tPut_len g.1 g.2 cur
      rw [eq_putsTogether_9, if_pos hU2.1, hU2.2.1, if_pos (by omega), gI_bb (s_pathAt hU2 (at_mid e)), gI_bb (s_contentBy hc), gw32_id (by omega) (by omega), tTakeAll]
      have put : ¬ (tCont g.1 cur ≠ 0 ∧ tCont g.1 cur ≠ g.2) → ∃ M3, (F_contentAt M2 u (pre.length : Int)).bind (fun r63 => (F_puts M2 122 g.1 r63).bind (fun m66 => F_putsTogether_9 m66 t u ((pre.length : Int) + 1))) = some (bI ((if tCont g.1 cur ≠ 0 ∧ tCont g.1 cur ≠ g.2 then (false, cur) else tTakeAll r (tPut g.1 g.2 cur)).1 && !tClash0 (if tCont g.1 cur ≠ 0 ∧ tCont g.1 cur ≠ g.2 then (false, cur) else tTakeAll r (tPut g.1 g.2 cur)).2), M3) ∧ ((if tCont g.1 cur ≠ 0 ∧ tCont g.1 cur ≠ g.2 then (false, cur) else tTakeAll r (tPut g.1 g.2 cur)).1 = true → uT M3 122 (if tCont g.1 cur ≠ 0 ∧ tCont g.1 cur ≠ g.2 then (false, cur) else tTakeAll r (tPut g.1 g.2 cur)).2) ∧ (∀ (v : Int) (hs : List gF), v ≠ 122 → uT M v hs → uT M3 v hs) := fun hx => by
        obtain ⟨M3, e3, p3⟩ := s_puts (w := g.1) (c := g.2) hc h1 (by show _ ≤ (32 : Int); omega)
        rw [gI_bb (s_contentAt hU2 (at_mid e)), gI_bb e3, if_neg hx]
        have := ih (pre ++ [g]) (tPut g.1 g.2 cur) M3 (by rw [e]; simp) p3.1 (tPut_srt _ _ h1) (fun x hx => by
          rcases tPut_mem hx with e | e
          · rw [e]; exact hg
          · exact h2 x e) (by omega) (fun v hs hv hh => uT_keep p3 hv (h4 v hs hv hh))
        rw [List.length_append] at this
        exact this
      by_cases c0 : tCont g.1 cur = 0
      · rw [if_pos c0]; exact put (fun w => w.1 c0)
      · rw [if_neg c0, gI_bb (s_contentAt hU2 (at_mid e))]
        by_cases c1 : tCont g.1 cur = g.2
        · rw [if_pos c1]; exact put (fun w => w.2 c1)
        · rw [if_neg c1, if_pos ⟨c0, c1⟩]
          exact ⟨M2, rfl, fun w => (by cases w), h4⟩
  exact lp gs [] fs M1 rfl p1.1 hS hW (by omega) (fun v hs hv hh => uT_keep p1 hv hh)
/-- what comes of a draft: it is there, its BRANCH is at it -/
def aSet (z : aS) (h a : Int) (d : kC) : Int × aS := if (kSet (aCs z) d).1 < 0 then ((kSet (aCs z) d).1, (z.1, (kSet (aCs z) d).2, z.2.2)) else ((kSet (aCs z) d).1, (z.1, (kSet (aCs z) d).2, rPut (aRs z) h (rLay 0 a (kSet (aCs z) d).1 (-1) (aRs z h)), z.2.2.2))
def jnV (z : aS) (h a wh hr : Int) (p q : Int) : Int × aS :=
  if p < 0 ∨ q < 0 then (-4, z) else if p = q ∨ kAnc (aCs z) q.toNat p.toNat = true ∨ kAnc (aCs z) p.toNat q.toNat = true then (-7, z)
  else if ((tTakeAll (fFs (aCs z) q.toNat) (fFs (aCs z) p.toNat)).1 && !tClash0 (tTakeAll (fFs (aCs z) q.toNat) (fFs (aCs z) p.toNat)).2) = false then (-6, z)
  else if 16 < (tTakeAll (fFs (aCs z) q.toNat) (fFs (aCs z) p.toNat)).2.length then (-5, z)
  else aSet z h a ([p, q], (tTakeAll (fFs (aCs z) q.toNat) (fFs (aCs z) p.toNat)).2, [], wh, hr)
def aJoin (z : aS) (h a b wh hr : Int) : Int × aS :=
  if (0 ≤ h ∧ h ≤ 3) ∧ (0 ≤ a ∧ a ≤ 25) ∧ (0 ≤ b ∧ b ≤ 25) ∧ a ≠ b ∧ (0 ≤ wh ∧ wh ≤ 9) ∧ (0 ≤ hr ∧ hr ≤ 999) then
    jnV z h a wh hr ((rGet 0 a (aRs z h)).getD (-1)) ((rGet 0 b (aRs z h)).getD (-1))
  else (-1, z)
/-- the reference's state anew, where COMMITS and REFS of a HISTORY came -/
theorem uSt_new {M M1 : gM} {z : aS} {cs : List kC} {R : Int → List rF} {A F : List Int} (hz : uSt M z) (hC : uC M1 cs) (hR : ∀ h : Int, 0 ≤ h → h < 4 → uRf M1 h (R h)) (hf : gFr A F M M1) (hA : ∀ b ∈ A, (711 < b ∧ b < 726) ∨ b = 727 ∨ b = 728 ∨ (731 < b ∧ b < 753)) (hF : (18 : Int) ∉ F ∧ (70 : Int) ∉ F ∧ (71 : Int) ∉ F) : uSt M1 (z.1, cs, R, z.2.2.2) := by
  obtain ⟨-, h2, -, h4, h5⟩ := hz
  have f : ∀ x : Int, x = 726 ∨ (728 < x ∧ x < 732) ∨ 752 < x → M1 x = M x := fun x hx => hf.1 x (fun w => by have := hA x w; omega) (by omega)
  refine ⟨hC, ⟨by rw [hf.2 18 hF.1]; exact h2.1, h2.2.1, fun j c hj => by rw [f 726 (Or.inl rfl)]; exact h2.2.2 j c hj⟩, hR, fun p p0 p1 => ?_, ?_⟩
  · exact uPl_of (h4 p p0 p1) (fun q _ _ => by rw [f 729 (by decide)]) (fun q _ _ => by rw [f 730 (by decide)]) (fun q _ _ => by rw [f 731 (by decide)])
  · rcases h5 with ⟨a, b⟩ | ⟨a, b, c, d, g⟩
    · exact Or.inl ⟨a, by rw [hf.2 71 hF.2.2]; exact b⟩
    · refine Or.inr ⟨a, by rw [hf.2 71 hF.2.2]; exact b, by rw [hf.2 70 hF.2.1]; exact c, fun i i0 i1 => ?_, fun p p0 p1 => ?_⟩
      · exact uRfX_of (d i i0 i1) (fun q _ _ => by rw [f 753 (by decide)]) (fun q _ _ => by rw [f 754 (by decide)])
      · exact uPl_of (g p p0 p1) (fun q _ _ => by rw [f 755 (by decide)]) (fun q _ _ => by rw [f 756 (by decide)]) (fun q _ _ => by rw [f 757 (by decide)])
theorem branch_is {n : Int} {rs : List rF} {a : Int} (hG : rGd n rs) (ha : 0 ≤ a ∧ a ≤ 25) : sAt rs a = (rGet 0 a rs).getD (-1) ∧ (rGet 0 a rs = none ∨ ∃ c : Int, rGet 0 a rs = some c ∧ 0 ≤ c ∧ c < n) := by
  rcases rGet_at (k := 0) (l := a) hG (by decide) ha with ⟨h1, h2, -⟩ | ⟨c, p, pre, suf, h1, h2, h3, -, h5, h6⟩
  · rw [show (0 : Int) * 26 + a = a by omega] at h2
    rw [h1, h2]; exact ⟨rfl, Or.inl rfl⟩
  · rw [show (0 : Int) * 26 + a = a by omega] at h3
    rw [h2, h3]; exact ⟨rfl, Or.inr ⟨c, rfl, h5, h6⟩⟩
theorem s_branchAt {M : gM} {h a n : Int} {rs : List rF} (hR : uRf M h rs) (hG : rGd n rs) (hh : 0 ≤ h ∧ h ≤ 3) (ha : 0 ≤ a ∧ a ≤ 25) : F_branchAt M h a = some ((rGet 0 a rs).getD (-1)) := by
  rw [eq_branchAt]
  simp (disch := omega) only [gw32_id]
  rw [if_pos (by omega), (hR a (by omega) (by omega)).1, (branch_is hG ha).1]
/-- the end of join and replay in the reference -/
theorem s_sets {M : gM} {z : aS} {h a wh hr : Int} {fs : List gF} {ps ms : List Int} {A F : List Int} {M0 : gM} (hz0 : uSt M0 z) (hC : uC M (aCs z)) (hO : kOk (aCs z)) (hT : uT M 122 fs) (hN : uN M ps ms) (h16 : fs.length ≤ 16) (hR : ∀ h : Int, 0 ≤ h → h < 4 → uRf M h (aRs z h) ∧ rGd ((aCs z).length : Int) (aRs z h)) (hh : 0 ≤ h ∧ h ≤ 3) (ha : 0 ≤ a ∧ a ≤ 25) (hf : gFr A F M0 M) (hA : ∀ b ∈ A, (711 < b ∧ b < 726) ∨ b = 727 ∨ b = 728 ∨ (731 < b ∧ b < 753)) (hF : (18 : Int) ∉ F ∧ (70 : Int) ∉ F ∧ (71 : Int) ∉ F) :
    ∃ M1, (F_comes M 122 wh hr).bind (fun p => if p.1 < 0 then some (p.1, p.2) else (F_laysRef p.2 h a p.1 (-1)).bind (fun m => some (p.1, m))) = some ((aSet z h a (ps, fs, ms, wh, hr)).1, M1) ∧ uSt M1 (aSet z h a (ps, fs, ms, wh, hr)).2 := by
  obtain ⟨M1, e1, c1, c2⟩ := s_comes (wh := wh) (hr := hr) hC hO (show (120 : Int) ≤ 122 by decide) hT hN (fun _ => h16)
  rw [gI_bb e1]
  have f1 : gFr (A ++ [712, 713, 714, 715, 716, 717, 718, 719, 720]) (F ++ [0]) M0 M1 := ⟨fun b hb hb2 => by
    rw [List.mem_append] at hb
    rw [c2.2.1 b (fun w => hb (Or.inr w)) hb2, hf.1 b (fun w => hb (Or.inl w)) hb2], fun g hg => by
    rw [List.mem_append] at hg
    rw [c2.2.2 g (fun w => hg (Or.inr w)), hf.2 g (fun w => hg (Or.inl w))]⟩
  have hA1 : ∀ b ∈ A ++ [712, 713, 714, 715, 716, 717, 718, 719, 720], (711 < b ∧ b < 726) ∨ b = 727 ∨ b = 728 ∨ (731 < b ∧ b < 753) := fun b hb => by
    rcases List.mem_append.mp hb with w | w
    · exact hA b w
    · simp at w; omega
  have no0 : ∀ x : Int, x ≠ 0 → x ∉ F → x ∉ F ++ [0] := fun x x0 hx w => by
    rcases List.mem_append.mp w with w | w
    · exact hx w
    · exact x0 (List.mem_singleton.mp w)
  have hF1 : (18 : Int) ∉ F ++ [0] ∧ (70 : Int) ∉ F ++ [0] ∧ (71 : Int) ∉ F ++ [0] := ⟨no0 18 (by decide) hF.1, no0 70 (by decide) hF.2.1, no0 71 (by decide) hF.2.2⟩
  have r1 : ∀ h : Int, 0 ≤ h → h < 4 → uRf M1 h (aRs z h) := fun i i0 i1 => by
    have := (hR i i0 i1).1
    unfold uRf at *
    rw [c2.2.1 727 (by decide) (by decide), c2.2.1 728 (by decide) (by decide)]; exact this
  unfold aSet
  show ∃ M2, (if (kSet (aCs z) (ps, fs, ms, wh, hr)).1 < 0 then some ((kSet (aCs z) (ps, fs, ms, wh, hr)).1, M1) else (F_laysRef M1 h a (kSet (aCs z) (ps, fs, ms, wh, hr)).1 (-1)).bind (fun m => some ((kSet (aCs z) (ps, fs, ms, wh, hr)).1, m))) = _ ∧ _
  by_cases q : (kSet (aCs z) (ps, fs, ms, wh, hr)).1 < 0
  · rw [if_pos q, if_pos q]
    exact ⟨M1, rfl, uSt_new hz0 c1 r1 f1 hA1 hF1⟩
  · rw [if_neg q, if_neg q]
    obtain ⟨M2, e2, d1, d2⟩ := s_laysRef (k := 0) (l := a) (c := (kSet (aCs z) (ps, fs, ms, wh, hr)).1) (p := -1) (r1 h hh.1 (by omega)) (hR h hh.1 (by omega)).2 ⟨hh.1, by omega⟩ (by decide) ha (by omega)
    rw [show (0 : Int) * 26 + a = a by omega] at e2
    rw [gI_bb e2]
    have f2 := fr_laysRef e2
    refine ⟨M2, rfl, uSt_new (A := (A ++ [712, 713, 714, 715, 716, 717, 718, 719, 720]) ++ [727, 728]) (F := F ++ [0]) hz0 (uC_same c1 (by rw [f2.2 0 (by decide)]) (fun b b0 b1 => f2.1 b (by simp; omega) (by omega))) (fun i i0 i1 => ?_) ⟨fun b hb hb2 => ?_, fun g hg => ?_⟩ (fun b hb => ?_) hF1⟩
    · unfold rPut
      by_cases e : i = h
      · rw [if_pos e, e]; exact d1
      · rw [if_neg e]
        intro s s0 s1
        have := d2 (52 * i + s) (by omega)
        rw [this.1, this.2]
        exact r1 i i0 i1 s s0 s1
    · rw [List.mem_append] at hb
      rw [f2.1 b (fun w => hb (Or.inr w)) hb2, f1.1 b (fun w => hb (Or.inl w)) hb2]
    · rw [f2.2 g (by simp), f1.2 g hg]
    · rcases List.mem_append.mp hb with w | w
      · exact hA1 b w
      · simp at w; omega
