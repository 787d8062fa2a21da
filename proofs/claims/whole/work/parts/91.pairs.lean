-- ==== RENAMED: as a function; the reference
def ge6 (v : Int) : Bool := !decide ((Op.cmpValue (FP.fcmp (gu v) (gu (gfl 1058642330))) .l).toInt < 0)
def gtF (v b : Int) : Bool := decide ((0 : Int) < (Op.cmpValue (FP.fcmp (gu v) (gu b)) .l).toInt)
/-- CONTENTS and places of those that have no PATH in another TREE -/
def goL (gs : List gF) : List gF → Int → List (Int × Int)
  | [], _ => []
  | f :: r, i => if goP gs f = true then (f.2, i) :: goL gs r (i + 1) else goL gs r (i + 1)
def u1 (ps : List (Int × Int)) (i : Int) : Bool := ps.any (fun p => decide (p.1 = i))
def u2 (ps : List (Int × Int)) (j : Int) : Bool := ps.any (fun p => decide (p.2 = j))
def bcC (ps : List (Int × Int)) (x y : Int × Int) (s : Int × Int × Int) : Bool := !u2 ps y.2 && (ge6 (lkF x.1 y.1) && gtF (lkF x.1 y.1) s.2.2)
def bcI (ps : List (Int × Int)) (x : Int × Int) : List (Int × Int) → Int × Int × Int → Int × Int × Int
  | [], s => s
  | y :: r, s => bcI ps x r (if bcC ps x y s = true then (x.2, y.2, lkF x.1 y.1) else s)
def bcO (ps : List (Int × Int)) (nl : List (Int × Int)) : List (Int × Int) → Int × Int × Int → Int × Int × Int
  | [], s => s
  | x :: r, s => bcO ps nl r (if u1 ps x.2 = true then s else bcI ps x nl s)
def bc0 : Int × Int × Int := (-1, -1, gfl FP.fconst0)
/-- the PAIRS, one after the other -/
def prs (gl nl : List (Int × Int)) : Nat → List (Int × Int) → List (Int × Int)
  | 0, ps => ps
  | n + 1, ps => if (bcO ps nl gl bc0).1 = -1 then ps else prs gl nl n (ps ++ [((bcO ps nl gl bc0).1, (bcO ps nl gl bc0).2.1)])
theorem bcI_at (ps : List (Int × Int)) (x : Int × Int) : ∀ (nl : List (Int × Int)) (s : Int × Int × Int), bcI ps x nl s = s ∨ ((bcI ps x nl s).1 = x.2 ∧ ∃ y ∈ nl, (bcI ps x nl s).2.1 = y.2)
  | [], s => Or.inl rfl
  | y :: r, s => by
    rw [bcI]
    by_cases h : bcC ps x y s = true
    · rw [if_pos h]
      rcases bcI_at ps x r (x.2, y.2, lkF x.1 y.1) with e | ⟨a, z, b, c⟩
      · rw [e]; exact Or.inr ⟨rfl, y, List.mem_cons_self, rfl⟩
      · exact Or.inr ⟨a, z, List.mem_cons_of_mem _ b, c⟩
    · rw [if_neg h]
      rcases bcI_at ps x r s with e | ⟨a, z, b, c⟩
      · exact Or.inl e
      · exact Or.inr ⟨a, z, List.mem_cons_of_mem _ b, c⟩
theorem bcO_at (ps nl : List (Int × Int)) : ∀ (gl : List (Int × Int)) (s : Int × Int × Int), bcO ps nl gl s = s ∨ ∃ x ∈ gl, u1 ps x.2 = false ∧ (bcO ps nl gl s).1 = x.2 ∧ ∃ y ∈ nl, (bcO ps nl gl s).2.1 = y.2
  | [], s => Or.inl rfl
  | x :: r, s => by
    rw [bcO]
    cases hu : u1 ps x.2 with
    | true =>
      rw [if_pos rfl]
      rcases bcO_at ps nl r s with e | ⟨z, a, b⟩
      · exact Or.inl e
      · exact Or.inr ⟨z, List.mem_cons_of_mem _ a, b⟩
    | false =>
      rw [if_neg (by decide)]
      rcases bcO_at ps nl r (bcI ps x nl s) with e | ⟨z, a, b⟩
      · rw [e]
        rcases bcI_at ps x nl s with e2 | ⟨a, b⟩
        · exact Or.inl e2
        · exact Or.inr ⟨x, List.mem_cons_self, hu, a, b⟩
      · exact Or.inr ⟨z, List.mem_cons_of_mem _ a, b⟩
/-- those of a list that are not taken yet -/
def fre (ps gl : List (Int × Int)) : Nat := gl.countP (fun x => !u1 ps x.2)
theorem u1_app (ps : List (Int × Int)) (q : Int × Int) (i : Int) : u1 (ps ++ [q]) i = (u1 ps i || decide (q.1 = i)) := by unfold u1; rw [List.any_append]; simp
theorem u2_app (ps : List (Int × Int)) (q : Int × Int) (i : Int) : u2 (ps ++ [q]) i = (u2 ps i || decide (q.2 = i)) := by unfold u2; rw [List.any_append]; simp
theorem fre_dec {ps : List (Int × Int)} {q : Int × Int} : ∀ {gl : List (Int × Int)}, (∃ x ∈ gl, u1 ps x.2 = false ∧ q.1 = x.2) → fre (ps ++ [q]) gl + 1 ≤ fre ps gl
  | [], h => by obtain ⟨x, h1, -⟩ := h; cases h1
  | y :: r, h => by
    have mono : ∀ zs : List (Int × Int), fre (ps ++ [q]) zs ≤ fre ps zs := fun zs => by
      unfold fre
      refine List.countP_mono_left (fun x _ hx => ?_)
      rw [u1_app] at hx
      cases hu : u1 ps x.2 with
      | true => rw [hu] at hx; cases hx
      | false => rfl
    obtain ⟨x, h1, h2, h3⟩ := h
    unfold fre at *
    rw [List.countP_cons, List.countP_cons]
    rcases List.mem_cons.mp h1 with e | e
    · subst e
      have := mono r
      rw [u1_app, h2, decide_eq_true h3, if_neg (by decide), if_pos (by decide)]
      omega
    · have := fre_dec (ps := ps) (q := q) (gl := r) ⟨x, e, h2, h3⟩
      unfold fre at this
      rw [u1_app]
      cases hu : u1 ps y.2 with
      | true => rw [Bool.true_or, if_neg (by decide)]; omega
      | false =>
        rw [Bool.false_or, if_pos (show (!false) = true from rfl)]
        split <;> omega
theorem goL_len (gs : List gF) : ∀ (fs : List gF) (i : Int), (goL gs fs i).length ≤ fs.length
  | [], _ => Nat.le_refl _
  | f :: r, i => by
    have := goL_len gs r (i + 1)
    rw [goL, List.length_cons]
    split
    · rw [List.length_cons]; omega
    · omega
/-- each one told in such a list stands in the TREE there -/
theorem goL_mem {gs : List gF} : ∀ {fs : List gF} {i : Int} {x : Int × Int}, x ∈ goL gs fs i → ∃ (k : Nat) (f : gF), fs[k]? = some f ∧ x = (f.2, i + (k : Int)) ∧ goP gs f = true
  | [], _, _, h => by cases h
  | f :: r, i, x, h => by
    rw [goL] at h
    have go : x ∈ goL gs r (i + 1) → ∃ (k : Nat) (g : gF), (f :: r)[k]? = some g ∧ x = (g.2, i + (k : Int)) ∧ goP gs g = true := fun w => by
      obtain ⟨k, g, a, b, c⟩ := goL_mem w
      exact ⟨k + 1, g, a, by rw [b]; congr 1; omega, c⟩
    by_cases e : goP gs f = true
    · rw [if_pos e] at h
      rcases List.mem_cons.mp h with w | w
      · exact ⟨0, f, rfl, by rw [w]; congr 1; omega, e⟩
      · exact go w
    · rw [if_neg e] at h; exact go h
/-- the reference holds these PAIRS -/
def uPr (M : gM) (ps : List (Int × Int)) : Prop := M 711 59 = (ps.length : Int) ∧ ps.length ≤ 16 ∧ rw_ (M 751) 0 (ps.map Prod.fst) ∧ rw_ (M 752) 0 (ps.map Prod.snd)
theorem s_isPaired {M : gM} {a w : Int} {xs : List Int} (h1 : M 711 59 = (xs.length : Int)) (h2 : xs.length ≤ 16) (h3 : rw_ (M a) 0 xs) (ha : a = 751 ∨ a = 752) : F_isPaired M a w = some (bI (xs.any (fun x => decide (x = w)))) := by
  have lp : ∀ (suf pre : List Int), xs = pre ++ suf → F_isPaired_2 M a w (pre.length : Int) = some (bI (suf.any (fun x => decide (x = w)))) := by
    intro suf
    induction suf with
    | nil =>
      intro pre e
      have hlen := congrArg List.length e
      rw [List.append_nil] at hlen
      rw [eq_isPaired_2, h1, if_neg (by omega)]; rfl
    | cons x r ih =>
      intro pre e
      have hlen := congrArg List.length e
      rw [List.length_append, List.length_cons] at hlen
      have hv := h3 pre.length x (at_mid e)
      rw [Int.zero_add] at hv
      have nx := ih (pre ++ [x]) (by rw [e]; simp)
      rw [List.length_append] at nx
      rw [eq_isPaired_2, h1, if_pos (by omega), if_pos (show gAx a (pre.length : Int) from ⟨by omega, Or.inl ⟨ha, by omega⟩⟩), hv, List.any_cons, gw32_id (by omega) (by omega)]
      by_cases q : x = w
      · rw [if_pos q, decide_eq_true q]; rfl
      · rw [if_neg q, decide_eq_false q, Bool.false_or]; exact nx
  rw [eq_isPaired]
  exact lp xs [] rfl
theorem s_pair1 {M : gM} {ps : List (Int × Int)} {w : Int} (h : uPr M ps) : F_isPaired M 751 w = some (bI (u1 ps w)) := by
  rw [s_isPaired (xs := ps.map Prod.fst) (by rw [List.length_map]; exact h.1) (by rw [List.length_map]; exact h.2.1) h.2.2.1 (Or.inl rfl), List.any_map]; rfl
theorem s_pair2 {M : gM} {ps : List (Int × Int)} {w : Int} (h : uPr M ps) : F_isPaired M 752 w = some (bI (u2 ps w)) := by
  rw [s_isPaired (xs := ps.map Prod.snd) (by rw [List.length_map]; exact h.1) (by rw [List.length_map]; exact h.2.1) h.2.2.2 (Or.inr rfl), List.any_map]; rfl
/-- what LIKENESS leaves as it was -/
theorem uT_b {M M1 : gM} {t : Int} {fs : List gF} {a : Int} (h : uT M t fs) (ha : 720 < a) (hf : ∀ b : Int, b ≠ a → M1 b = M b) : uT M1 t fs := uT_of h (by rw [hf 718 (by omega)]) (fun q _ _ => by unfold uG; rw [hf 719 (by omega), hf 720 (by omega)])
theorem uPr_b {M M1 : gM} {ps : List (Int × Int)} (h : uPr M ps) (hf : ∀ b : Int, b ≠ 750 → M1 b = M b) : uPr M1 ps := by
  unfold uPr at *
  rw [hf 711 (by decide), hf 751 (by decide), hf 752 (by decide)]
  exact h
theorem goP_fnd {gs : List gF} {f : gF} : goP gs f = true ↔ tFind f.1 gs 0 = -1 := by
  rw [tFind_no]
  unfold goP
  rw [Bool.not_eq_true', List.any_eq_false]
  exact ⟨fun h g hg e => h g hg (decide_eq_true e), fun h g hg e => h g hg (of_decide_eq_true e)⟩
/-- what one search comes to -/
def pnX (M0 M1 : gM) (r : Int) (ps : List (Int × Int)) (s : Int × Int × Int) : Prop := (s.1 = -1 ∧ r = 0 ∧ uPr M1 ps ∨ s.1 ≠ -1 ∧ r = 1 ∧ uPr M1 (ps ++ [(s.1, s.2.1)])) ∧ (∀ b : Int, b ≠ 711 → b ≠ 750 → b ≠ 751 → b ≠ 752 → M1 b = M0 b) ∧ ∀ f : Int, f ≠ 59 → M1 711 f = M0 711 f
theorem rw_end {g : Int → Int} {i v : Int} {xs : List Int} (h : rw_ g i xs) (hv : g (i + (xs.length : Int)) = v) : rw_ g i (xs ++ [v]) := by
  intro j w hj
  by_cases e : j < xs.length
  · rw [List.getElem?_append_left e] at hj; exact h j w hj
  · rw [List.getElem?_append_right (by omega)] at hj
    obtain ⟨d, hd⟩ : ∃ d, j - xs.length = d := ⟨_, rfl⟩
    rw [hd] at hj
    cases d with
    | zero =>
      have : j = xs.length := by omega
      subst this
      cases hj; exact hv
    | succ d => cases hj
theorem s_pairsNext {M : gM} {t u : Int} {fs gs : List gF} {ps : List (Int × Int)} (hT : uT M t fs) (hU : uT M u gs) (hF : ∀ f ∈ fs, cRg f.2) (hG : ∀ g ∈ gs, cRg g.2) (hp : uPr M ps) (hroom : ps.length + fre ps (goL gs fs 0) ≤ 16) : ∃ r M1, F_pairsNext M t u = some (r, M1) ∧ pnX M M1 r ps (bcO ps (goL fs gs 0) (goL gs fs 0) bc0) := by
  have lf := uT_32 hT
  have lg := uT_32 hU
  have ht := hT.1
  have hu := hU.1
  have out : ∀ (suf pre : List gF) (s : Int × Int × Int) (M1 : gM), fs = pre ++ suf → (∀ b : Int, b ≠ 750 → M1 b = M b) → (s = bc0 ∨ ∃ x ∈ goL gs fs 0, u1 ps x.2 = false ∧ s.1 = x.2) → bcO ps (goL fs gs 0) (goL gs suf (pre.length : Int)) s = bcO ps (goL fs gs 0) (goL gs fs 0) bc0 → ∃ r M2, F_pairsNext_11 M1 t u s.2.2 s.1 s.2.1 (pre.length : Int) = some (r, M2) ∧ pnX M M2 r ps (bcO ps (goL fs gs 0) (goL gs fs 0) bc0) := by
    intro suf
    induction suf with
    | nil =>
      intro pre s M1 e hf hs hb
      have hlen := congrArg List.length e
      rw [List.append_nil] at hlen
      have hT1 := uT_b hT (by decide) hf
      have hp1 := uPr_b hp hf
      rw [eq_pairsNext_11, if_pos hT1.1, hT1.2.1, if_neg (by omega)]
      rw [goL, bcO] at hb
      rw [← hb]
      by_cases q : s.1 = -1
      · rw [if_pos q]
        exact ⟨0, M1, rfl, Or.inl ⟨q, rfl, hp1⟩, fun b _ b1 _ _ => hf b b1, fun f _ => by rw [hf 711 (by decide)]⟩
      · rw [if_neg q]
        have hlt : ps.length < 16 := by
          rcases hs with rfl | ⟨x, a, b, c⟩
          · exact absurd rfl q
          · have := fre_dec (q := (s.1, 0)) ⟨x, a, b, c⟩; omega
        rw [hp1.1, if_pos (by omega), gU_cell _ _ _ (show (711 : Int) ≠ 751 by decide), hp1.1, if_pos (by omega)]
        rw [gU_cell _ _ _ (show (711 : Int) ≠ 752 by decide), gU_cell _ _ _ (show (711 : Int) ≠ 751 by decide), hp1.1, gw32_id (by omega) (by omega)]
        refine ⟨1, _, rfl, Or.inr ⟨q, rfl, ?_⟩, fun b b0 b1 b2 b3 => by rw [gU_cell _ _ _ b0, gU_cell _ _ _ b3, gU_cell _ _ _ b2]; exact hf b b1, fun f hf2 => by rw [gU_idx hf2, gU_cell _ _ _ (by decide), gU_cell _ _ _ (by decide), hf 711 (by decide)]⟩
        refine ⟨by rw [gU_same, List.length_append]; rfl, by rw [List.length_append]; show ps.length + 1 ≤ 16; omega, ?_, ?_⟩
        · rw [List.map_append]
          refine rw_end (fun j v hj => ?_) ?_
          · have := (List.getElem?_eq_some_iff.mp hj).1
            rw [List.length_map] at this
            rw [gU_cell _ _ _ (by decide), gU_cell _ _ _ (by decide), gU_idx (by omega)]
            exact hp1.2.2.1 j v hj
          · rw [List.length_map, Int.zero_add, gU_cell _ _ _ (by decide), gU_cell _ _ _ (by decide), gU_same]
        · rw [List.map_append]
          refine rw_end (fun j v hj => ?_) ?_
          · have := (List.getElem?_eq_some_iff.mp hj).1
            rw [List.length_map] at this
            rw [gU_cell _ _ _ (by decide), gU_idx (by omega), gU_cell _ _ _ (by decide)]
            exact hp1.2.2.2 j v hj
          · rw [List.length_map, Int.zero_add, gU_cell _ _ _ (by decide), gU_same]
    | cons f r ih =>
      intro pre s M1 e hf hs hb
      have hlen := congrArg List.length e
      rw [List.length_append, List.length_cons] at hlen
      have hT1 := uT_b hT (by decide) hf
      have hU1 := uT_b hU (by decide) hf
      have hp1 := uPr_b hp hf
      have nx := ih (pre ++ [f])
      rw [List.length_append] at nx
      have nx : ∀ (s : Int × Int × Int) (M1 : gM), _ := nx
      rw [eq_pairsNext_11, if_pos hT1.1, hT1.2.1, if_pos (by omega), gI_bb (s_pathAt hT1 (at_mid e)), gI_bb (s_fileAt hU1), gw32_id (z := (pre.length : Int) + 1) (by omega) (by omega)]
      rw [goL] at hb
      by_cases q : tFind f.1 gs 0 = -1
      · rw [if_pos q, gI_bb (s_pair1 hp1)]
        rw [if_pos (goP_fnd.mpr q), bcO] at hb
        cases hu1 : u1 ps (pre.length : Int) with
        | true =>
          rw [if_neg bIt]
          rw [if_pos (show u1 ps ((f.2, (pre.length : Int)) : Int × Int).2 = true from hu1)] at hb
          exact nx s M1 (by rw [e]; simp) hf hs hb
        | false =>
          rw [if_pos bIf]
          rw [if_neg (show ¬ u1 ps ((f.2, (pre.length : Int)) : Int × Int).2 = true by show ¬ u1 ps (pre.length : Int) = true; rw [hu1]; decide)] at hb
          have hxm : ((f.2, (pre.length : Int)) : Int × Int) ∈ goL gs fs 0 := by
            have key : ∀ (zs ws : List gF) (i : Int), goP gs f = true → ((f.2, i + (zs.length : Int)) : Int × Int) ∈ goL gs (zs ++ f :: ws) i := fun zs => by
              induction zs with
              | nil => intro ws i hgo; rw [List.nil_append, goL, if_pos hgo]; simp
              | cons z zs ihz =>
                intro ws i hgo
                rw [List.cons_append, goL, List.length_cons]
                have := ihz ws (i + 1) hgo
                rw [show i + 1 + (zs.length : Int) = i + ((zs.length + 1 : Nat) : Int) by omega] at this
                split
                · exact List.mem_cons_of_mem _ this
                · exact this
            have := key pre r 0 (goP_fnd.mpr q)
            rw [Int.zero_add, ← e] at this
            exact this
          have inn : ∀ (suf2 pre2 : List gF) (s2 : Int × Int × Int) (M2 : gM), gs = pre2 ++ suf2 → (∀ b : Int, b ≠ 750 → M2 b = M b) → (s2 = bc0 ∨ ∃ x ∈ goL gs fs 0, u1 ps x.2 = false ∧ s2.1 = x.2) → bcO ps (goL fs gs 0) (goL gs r ((pre.length : Int) + 1)) (bcI ps (f.2, (pre.length : Int)) (goL fs suf2 (pre2.length : Int)) s2) = bcO ps (goL fs gs 0) (goL gs fs 0) bc0 → ∃ r M3, F_pairsNext_57 M2 t u s2.2.2 s2.1 s2.2.1 (pre.length : Int) (pre2.length : Int) = some (r, M3) ∧ pnX M M3 r ps (bcO ps (goL fs gs 0) (goL gs fs 0) bc0) := by
            intro suf2
            induction suf2 with
            | nil =>
              intro pre2 s2 M2 e2 hf2 hs2 hb2
              have hlen2 := congrArg List.length e2
              rw [List.append_nil] at hlen2
              have hU2 := uT_b hU (by decide) hf2
              rw [eq_pairsNext_57, if_pos hU2.1, hU2.2.1, if_neg (by omega), gw32_id (by omega) (by omega)]
              rw [goL, bcI] at hb2
              exact nx s2 M2 (by rw [e]; simp) hf2 hs2 hb2
            | cons g w ih2 =>
              intro pre2 s2 M2 e2 hf2 hs2 hb2
              have hlen2 := congrArg List.length e2
              rw [List.length_append, List.length_cons] at hlen2
              have hT2 := uT_b hT (by decide) hf2
              have hU2 := uT_b hU (by decide) hf2
              have hp2 := uPr_b hp hf2
              have nx2 := ih2 (pre2 ++ [g])
              rw [List.length_append] at nx2
              have nx2 : ∀ (s2 : Int × Int × Int) (M2 : gM), _ := nx2
              rw [eq_pairsNext_57, if_pos hU2.1, hU2.2.1, if_pos (by omega), gI_bb (s_pathAt hU2 (at_mid e2)), gI_bb (s_fileAt hT2), gw32_id (z := (pre2.length : Int) + 1) (by omega) (by omega)]
              rw [goL] at hb2
              by_cases q2 : tFind g.1 fs 0 = -1
              · rw [if_pos q2, gI_bb (s_pair2 hp2)]
                rw [if_pos (goP_fnd.mpr q2), bcI] at hb2
                cases hu2 : u2 ps (pre2.length : Int) with
                | true =>
                  rw [if_neg bIt]
                  rw [if_neg (show ¬ bcC ps (f.2, (pre.length : Int)) (g.2, (pre2.length : Int)) s2 = true by unfold bcC; rw [hu2]; simp)] at hb2
                  exact nx2 s2 M2 (by rw [e2]; simp) hf2 hs2 hb2
                | false =>
                  obtain ⟨M3, e3, f3⟩ := s_likenessOf (M := M2) (hF f (by rw [e]; simp)) (hG g (by rw [e2]; simp))
                  have hf3 : ∀ b : Int, b ≠ 750 → M3 b = M b := fun b hb => by rw [f3 b hb]; exact hf2 b hb
                  rw [if_pos bIf, gI_bb (s_contentAt hT2 (at_mid e)), gI_bb (s_contentAt hU2 (at_mid e2)), gI_bb e3]
                  have hc : bcC ps (f.2, (pre.length : Int)) (g.2, (pre2.length : Int)) s2 = (ge6 (lkF f.2 g.2) && gtF (lkF f.2 g.2) s2.2.2) := by unfold bcC; rw [hu2, Bool.not_false, Bool.true_and]
                  rw [hc] at hb2
                  show ∃ r M4, (if (Op.cmpValue (FP.fcmp (gu (lkF f.2 g.2)) (gu (gfl 1058642330))) .l).toInt < 0 then _ else _) = some (r, M4) ∧ _
                  by_cases c1 : (Op.cmpValue (FP.fcmp (gu (lkF f.2 g.2)) (gu (gfl 1058642330))) .l).toInt < 0
                  · rw [if_pos c1]
                    rw [if_neg (by unfold ge6; rw [decide_eq_true c1]; simp)] at hb2
                    exact nx2 s2 M3 (by rw [e2]; simp) hf3 hs2 hb2
                  · rw [if_neg c1]
                    have hg6 : ge6 (lkF f.2 g.2) = true := by unfold ge6; rw [decide_eq_false c1]; rfl
                    rw [hg6, Bool.true_and] at hb2
                    by_cases c2 : (0 : Int) < (Op.cmpValue (FP.fcmp (gu (lkF f.2 g.2)) (gu s2.2.2)) .l).toInt
                    · rw [if_pos c2]
                      rw [if_pos (show gtF (lkF f.2 g.2) s2.2.2 = true from decide_eq_true c2)] at hb2
                      exact nx2 ((pre.length : Int), (pre2.length : Int), lkF f.2 g.2) M3 (by rw [e2]; simp) hf3 (Or.inr ⟨_, hxm, hu1, rfl⟩) hb2
                    · rw [if_neg c2]
                      rw [if_neg (show ¬ gtF (lkF f.2 g.2) s2.2.2 = true by unfold gtF; rw [decide_eq_false c2]; decide)] at hb2
                      exact nx2 s2 M3 (by rw [e2]; simp) hf3 hs2 hb2
              · rw [if_neg q2]
                rw [if_neg (fun w => q2 (goP_fnd.mp w))] at hb2
                exact nx2 s2 M2 (by rw [e2]; simp) hf2 hs2 hb2
          exact inn gs [] s M1 rfl hf hs hb
      · rw [if_neg q]
        rw [if_neg (fun w => q (goP_fnd.mp w))] at hb
        exact nx s M1 (by rw [e]; simp) hf hs hb
  rw [eq_pairsNext]
  exact out fs [] bc0 M rfl (fun _ _ => rfl) (Or.inl rfl) rfl
def prF (fs gs : List gF) : List (Int × Int) := prs (goL gs fs 0) (goL fs gs 0) 17 []
theorem s_laysPairs {M : gM} {t u : Int} {fs gs : List gF} (hT : uT M t fs) (hU : uT M u gs) (hF : ∀ f ∈ fs, cRg f.2) (hG : ∀ g ∈ gs, cRg g.2) (hl : fs.length ≤ 16) : ∃ M1, F_laysPairs M t u = some M1 ∧ uPr M1 (prF fs gs) ∧ (∀ b : Int, b ≠ 711 → b ≠ 750 → b ≠ 751 → b ≠ 752 → M1 b = M b) ∧ ∀ f : Int, f ≠ 59 → M1 711 f = M 711 f := by
  have lp : ∀ (n : Nat) (ps : List (Int × Int)) (M1 : gM), uPr M1 ps → ps.length + fre ps (goL gs fs 0) ≤ 16 → fre ps (goL gs fs 0) < n → (∀ b : Int, b ≠ 711 → b ≠ 750 → b ≠ 751 → b ≠ 752 → M1 b = M b) → (∀ f : Int, f ≠ 59 → M1 711 f = M 711 f) → ∃ M2, F_laysPairs_7 M1 t u 1 = some M2 ∧ uPr M2 (prs (goL gs fs 0) (goL fs gs 0) n ps) ∧ (∀ b : Int, b ≠ 711 → b ≠ 750 → b ≠ 751 → b ≠ 752 → M2 b = M b) ∧ ∀ f : Int, f ≠ 59 → M2 711 f = M 711 f := by
    intro n
    induction n with
    | zero => intro ps M1 _ _ h; omega
    | succ n ih =>
      intro ps M1 hp hr hn h1 h2
      have hT1 : uT M1 t fs := uT_of hT (by rw [h1 718 (by decide) (by decide) (by decide) (by decide)]) (fun q _ _ => by unfold uG; rw [h1 719 (by decide) (by decide) (by decide) (by decide), h1 720 (by decide) (by decide) (by decide) (by decide)])
      have hU1 : uT M1 u gs := uT_of hU (by rw [h1 718 (by decide) (by decide) (by decide) (by decide)]) (fun q _ _ => by unfold uG; rw [h1 719 (by decide) (by decide) (by decide) (by decide), h1 720 (by decide) (by decide) (by decide) (by decide)])
      obtain ⟨r, M2, e2, c, f3, f4⟩ := s_pairsNext hT1 hU1 hF hG hp hr
      have g1 : ∀ b : Int, b ≠ 711 → b ≠ 750 → b ≠ 751 → b ≠ 752 → M2 b = M b := fun b b0 b1 b2 b3 => by rw [f3 b b0 b1 b2 b3, h1 b b0 b1 b2 b3]
      have g2 : ∀ f : Int, f ≠ 59 → M2 711 f = M 711 f := fun f hf => by rw [f4 f hf, h2 f hf]
      rw [eq_laysPairs_7, if_neg (by decide), gI_bb e2, prs]
      rcases c with ⟨c1, rfl, c3⟩ | ⟨c1, rfl, c3⟩
      · rw [if_pos c1]
        show ∃ M3, F_laysPairs_7 M2 t u 0 = some M3 ∧ _
        rw [eq_laysPairs_7, if_pos rfl]
        exact ⟨M2, rfl, c3, g1, g2⟩
      · rw [if_neg c1]
        have hd : fre (ps ++ [((bcO ps (goL fs gs 0) (goL gs fs 0) bc0).1, (bcO ps (goL fs gs 0) (goL gs fs 0) bc0).2.1)]) (goL gs fs 0) + 1 ≤ fre ps (goL gs fs 0) := by
          refine fre_dec ?_
          rcases bcO_at ps (goL fs gs 0) (goL gs fs 0) bc0 with e | ⟨x, a, b, d, -⟩
          · rw [e] at c1; exact absurd rfl c1
          · exact ⟨x, a, b, d⟩
        exact ih _ M2 c3 (by rw [List.length_append]; show ps.length + 1 + _ ≤ 16; omega) (by omega) g1 g2
  have h0 : fre [] (goL gs fs 0) ≤ 16 := Nat.le_trans List.countP_le_length (Nat.le_trans (goL_len gs fs 0) hl)
  rw [eq_laysPairs]
  exact lp 17 [] _ ⟨gU_same _ _ _ _, by decide, rw_nil, rw_nil⟩ (by show 0 + _ ≤ 16; omega) (by omega) (fun b b0 _ _ _ => gU_cell _ _ _ b0) (fun f hf => gU_idx hf)
