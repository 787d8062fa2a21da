-- ==== the reference: REFS are laid
theorem sAt_lay {n : Int} {rs : List rF} {k l c p s : Int} (h : rGd n rs) (hk : 0 ≤ k ∧ k ≤ 1) (hl : 0 ≤ l ∧ l ≤ 25) : sAt (rLay k l c p rs) s = (if s = k * 26 + l then c else sAt rs s) ∧ sBy (rLay k l c p rs) s = (if s = k * 26 + l then p else sBy rs s) := by
  obtain ⟨a, b, -⟩ := rLay_is (c := c) (p := p) h hk hl
  by_cases q : s = k * 26 + l
  · rw [if_pos q, if_pos q]
    exact sAt_mem a ((b (k, l, c, p)).mpr (Or.inl rfl)) (show rOrd (k, l, c, p) = s from q.symm)
  · rw [if_neg q, if_neg q]
    refine sAt_eq a h.1 (fun x hx => ?_)
    rw [b]
    constructor
    · rintro (w | w)
      · rw [w] at hx
        exact absurd hx.symm q
      · exact w.1
    · intro w
      exact Or.inr ⟨w, fun z => q (by rw [← hx, z])⟩
/-- whether a REF goes to the other HISTORY -/
def lrB (tags : Int) (im fa : Int → Int) (s k : Int) : Bool := decide (k ≠ -1) && (decide (im k ≠ -1) && (decide (s < 26) || (decide (tags = 2) || (decide (tags = 1) && decide (fa k = 0)))))
theorem lrB_no (tags : Int) (im fa : Int → Int) (s : Int) : lrB tags im fa s (-1) = false := rfl
theorem lrGo_at {n tags p : Int} {im fa : Int → Int} (hp : 0 ≤ p ∧ p ≤ 3) (him : ∀ q : Int, 0 ≤ q → q < 120 → -1 ≤ im q ∧ im q < n) (s : Int) : ∀ (r acc : List rF), rSrt r → (∀ x ∈ r, rRng x ∧ 0 ≤ x.2.2.1 ∧ x.2.2.1 < 120) → rGd n acc → sAt (lrGo tags im fa p r acc) s = (if lrB tags im fa s (sAt r s) = true then im (sAt r s) else sAt acc s) ∧ sBy (lrGo tags im fa p r acc) s = (if lrB tags im fa s (sAt r s) = true then p else sBy acc s)
  | [], acc, _, _, _ => by
    have e : sAt [] s = -1 := rfl
    rw [e, lrB_no, if_neg (by decide), if_neg (by decide)]; exact ⟨rfl, rfl⟩
  | x :: r, acc, hs, hx, h => by
    obtain ⟨hs1, hs2⟩ := List.pairwise_cons.mp hs
    have hx1 := hx x List.mem_cons_self
    have hr : ∀ y ∈ r, rRng y ∧ 0 ≤ y.2.2.1 ∧ y.2.2.1 < 120 := fun y hy => hx y (List.mem_cons_of_mem _ hy)
    obtain ⟨r1, r2, r3, r4⟩ := hx1.1
    have hi := him x.2.2.1 hx1.2.1 hx1.2.2
    have ho : rOrd x = x.1 * 26 + x.2.1 := rfl
    have un : sAt (x :: r) s = if rOrd x = s then x.2.2.1 else sAt r s := rfl
    rw [un]
    unfold lrGo
    -- whether it goes
    have hgo : rOrd x = s → (((x.1 = 0 ∨ tags = 2 ∨ (tags = 1 ∧ fa x.2.2.1 = 0)) ∧ 0 ≤ im x.2.2.1) ↔ lrB tags im fa s x.2.2.1 = true) := fun hos => by
      unfold lrB
      simp only [Bool.and_eq_true, Bool.or_eq_true, decide_eq_true_eq]
      constructor
      · rintro ⟨a, b⟩
        refine ⟨by omega, by omega, ?_⟩
        rcases a with a | a | a
        · exact Or.inl (by omega)
        · exact Or.inr (Or.inl a)
        · exact Or.inr (Or.inr a)
      · rintro ⟨a, b, c⟩
        refine ⟨?_, by omega⟩
        rcases c with c | c | c
        · exact Or.inl (by omega)
        · exact Or.inr (Or.inl c)
        · exact Or.inr (Or.inr c)
    by_cases q : (x.1 = 0 ∨ tags = 2 ∨ (tags = 1 ∧ fa x.2.2.1 = 0)) ∧ 0 ≤ im x.2.2.1
    · rw [if_pos q]
      have hg := rLay_gd (c := im x.2.2.1) (p := p) h ⟨r1, r2⟩ ⟨r3, r4⟩ ⟨q.2, hi.2⟩ ⟨by omega, hp.2⟩
      obtain ⟨a, b⟩ := lrGo_at (tags := tags) (fa := fa) hp him s r _ hs2 hr hg
      obtain ⟨c, d⟩ := sAt_lay (c := im x.2.2.1) (p := p) (s := s) h ⟨r1, r2⟩ ⟨r3, r4⟩
      rw [a, b, c, d]
      by_cases e : rOrd x = s
      · have hno : sAt r s = -1 := (sAt_no (fun y hy w => by have := hs1 y hy; omega)).1
        rw [if_pos e, hno, lrB_no, if_neg (show ¬ false = true by decide), if_neg (show ¬ false = true by decide), if_pos (show s = x.1 * 26 + x.2.1 by omega), if_pos (show s = x.1 * 26 + x.2.1 by omega), if_pos ((hgo e).mp q), if_pos ((hgo e).mp q)]
        exact ⟨rfl, rfl⟩
      · rw [if_neg e, if_neg (show ¬ s = x.1 * 26 + x.2.1 by omega), if_neg (show ¬ s = x.1 * 26 + x.2.1 by omega)]
        exact ⟨rfl, rfl⟩
    · rw [if_neg q]
      obtain ⟨a, b⟩ := lrGo_at (tags := tags) (fa := fa) hp him s r acc hs2 hr h
      rw [a, b]
      by_cases e : rOrd x = s
      · have hno : sAt r s = -1 := (sAt_no (fun y hy w => by have := hs1 y hy; omega)).1
        rw [if_pos e, hno, lrB_no, if_neg (show ¬ false = true by decide), if_neg (show ¬ false = true by decide), if_neg (fun w => q ((hgo e).mpr w)), if_neg (fun w => q ((hgo e).mpr w))]
        exact ⟨rfl, rfl⟩
      · rw [if_neg e]; exact ⟨rfl, rfl⟩
theorem sAt_fil {n : Int} {rs : List rF} {p s : Int} (h : rGd n rs) (hp : 0 ≤ p) : sAt (rs.filter (fun x => decide (x.2.2.2 ≠ p))) s = (if sBy rs s = p then -1 else sAt rs s) ∧ sBy (rs.filter (fun x => decide (x.2.2.2 ≠ p))) s = (if sBy rs s = p then -1 else sBy rs s) := by
  have hf := rGd_fil h (fun x => decide (x.2.2.2 ≠ p))
  rcases Classical.em (∃ x ∈ rs, rOrd x = s) with ⟨x, hx, ho⟩ | hn
  · obtain ⟨a, b⟩ := sAt_mem h.1 hx ho
    by_cases q : x.2.2.2 = p
    · rw [b, if_pos q, if_pos q]
      refine sAt_no (fun y hy w => ?_)
      obtain ⟨y1, y2⟩ := List.mem_filter.mp hy
      have := (sAt_mem h.1 y1 w).2
      exact (of_decide_eq_true y2) (by rw [← this, b, q])
    · rw [b, if_neg q, if_neg q, a]
      exact sAt_mem hf.1 (List.mem_filter.mpr ⟨hx, decide_eq_true q⟩) ho
  · obtain ⟨a, b⟩ := sAt_no (rs := rs) (s := s) (fun x hx ho => hn ⟨x, hx, ho⟩)
    rw [b, if_neg (by omega), if_neg (by omega), a]
    exact sAt_no (fun x hx ho => hn ⟨x, (List.mem_filter.mp hx).1, ho⟩)
theorem s_isLaid {M : gM} {p s k : Int} {pl : kP} (hP : uPq M p pl) (hp : 0 ≤ p ∧ p ≤ 3) (hk : k = -1 ∨ (0 ≤ k ∧ k < 120 ∧ 0 ≤ pl.2.2.2 k)) : F_isLaid M p s k = some (bI (lrB (pl.2.1 14) pl.2.2.1 pl.2.2.2 s k)) := by
  rw [eq_isLaid]
  have h13 : M 729 (68 * p + 13) = pl.2.1 14 := hP.1.2.2.2.2.2.2.1
  rcases hk with rfl | ⟨k0, k1, k2⟩
  · rw [if_pos rfl]; rfl
  · obtain ⟨d1, d2⟩ := hP.2.2.2 k k0 k1
    have d2 := d2 k2
    unfold lrB
    rw [if_neg (by omega), decide_eq_true (show k ≠ -1 by omega), Bool.true_and, gI_bb (s_imageAt hp ⟨k0, k1⟩), d2]
    by_cases q1 : pl.2.2.1 k = -1
    · rw [if_pos q1, decide_eq_false (fun w => w q1)]; rfl
    · rw [if_neg q1, decide_eq_true (show pl.2.2.1 k ≠ -1 from q1), Bool.true_and, gI_bb (s_ofPlan hp (by decide)), h13]
      by_cases q2 : s < 26
      · rw [if_pos q2, decide_eq_true q2]; rfl
      · rw [if_neg q2, decide_eq_false q2, Bool.false_or]
        by_cases q3 : pl.2.1 14 = 2
        · rw [if_pos q3, decide_eq_true q3]; rfl
        · rw [if_neg q3, decide_eq_false q3, Bool.false_or]
          by_cases q4 : pl.2.1 14 = 1
          · rw [if_pos q4, decide_eq_true q4, Bool.true_and, gw32_id (z := 120 * p) (by omega) (by omega), gw32_id (by omega) (by omega), if_pos (by omega), d1]
            by_cases q5 : pl.2.2.2 k = 0
            · rw [if_pos q5, decide_eq_true q5]; rfl
            · rw [if_neg q5, decide_eq_false q5]; rfl
          · rw [if_neg q4, decide_eq_false q4]; rfl
theorem s_laysRefs {M : gM} {p n : Int} {pl : kP} {rf rt L : List rF} (hP : uPq M p pl) (hp : 0 ≤ p ∧ p ≤ 3) (hf : 0 ≤ pl.2.1 2 ∧ pl.2.1 2 < 4) (ht : 0 ≤ pl.2.1 3 ∧ pl.2.1 3 < 4) (hRf : uRf M (pl.2.1 2) rf) (hRt : uRf M (pl.2.1 3) rt) (hGf : rGd n rf) (hGt : rGd n rt) (hn : n ≤ 120) (hmp : ∀ x ∈ rf, 0 ≤ pl.2.2.2 x.2.2.1) (him : ∀ q : Int, 0 ≤ q → q < 120 → -1 ≤ pl.2.2.1 q ∧ pl.2.2.1 q < n) (hL : L = lrGo (pl.2.1 14) pl.2.2.1 pl.2.2.2 p rf (rt.filter (fun x => decide (x.2.2.2 ≠ p)))) (hl : L.length ≤ 60) :
    ∃ M1, F_laysRefs M p = some ((L.length : Int), M1) ∧ ∀ s : Int, 0 ≤ s → s < 52 → M1 737 s = sAt L s ∧ M1 738 s = sBy L s := by
  have hrf : ∀ x ∈ rf, rRng x ∧ 0 ≤ x.2.2.1 ∧ x.2.2.1 < 120 := fun x hx => by
    obtain ⟨a, b, -⟩ := hGf.2 x hx
    exact ⟨a, b.1, by omega⟩
  have hGL : rGd n L := by
    rw [hL]; exact (lrGo_gd hp (fun q q0 q1 => (him q q0 q1).2) rf _ hrf (rGd_fil hGt _)).1
  have e2 : M 729 (68 * p + 1) = pl.2.1 2 := hP.1.1
  have e3 : M 729 (68 * p + 2) = pl.2.1 3 := hP.1.2.1
  have lp : ∀ (m : Nat) (s : Int) (suf pre : List rF) (M2 : gM), s + (m : Int) = 52 → 0 ≤ s → L = pre ++ suf → (∀ x ∈ pre, rOrd x < s) → (∀ x ∈ suf, s ≤ rOrd x) → gFr [737, 738] [] M M2 → (∀ t : Int, 0 ≤ t → t < s → M2 737 t = sAt L t ∧ M2 738 t = sBy L t) →
      ∃ M3, F_laysRefs_4 M2 p (pre.length : Int) s = some ((L.length : Int), M3) ∧ ∀ t : Int, 0 ≤ t → t < 52 → M3 737 t = sAt L t ∧ M3 738 t = sBy L t := by
    intro m
    induction m with
    | zero =>
      intro s suf pre M2 hm s0 e h1 h2 hfr hd
      rw [eq_laysRefs_4, if_neg (by omega)]
      have hsuf : suf = [] := by
        cases suf with
        | nil => rfl
        | cons y r =>
          have a1 := h2 y List.mem_cons_self
          have b1 := rOrd_rng (hGL.2 y (by rw [e]; simp)).1
          omega
      rw [hsuf, List.append_nil] at e
      rw [e]
      exact ⟨M2, rfl, fun t t0 t1 => by rw [← e]; exact hd t t0 (by omega)⟩
    | succ m ih =>
      intro s suf pre M2 hm s0 e h1 h2 hfr hd
      have o : ∀ b : Int, b ≠ 711 → b ≠ 737 → b ≠ 738 → M2 b = M b := fun b b0 b1 b2 => hfr.1 b (by simp; omega) b0
      obtain ⟨f1, f2⟩ := hRf s s0 (by omega)
      obtain ⟨t1, t2⟩ := hRt s s0 (by omega)
      have hlen : L.length = pre.length + suf.length := by rw [e, List.length_append]
      -- what is laid there
      obtain ⟨g1, g2⟩ := lrGo_at (tags := pl.2.1 14) (im := pl.2.2.1) (fa := pl.2.2.2) hp him s rf _ hGf.1 hrf (rGd_fil hGt (fun x => decide (x.2.2.2 ≠ p)))
      rw [← hL] at g1 g2
      obtain ⟨a1, a2⟩ := sAt_fil (s := s) hGt hp.1
      rw [a1] at g1
      rw [a2] at g2
      have hk : sAt rf s = -1 ∨ (0 ≤ sAt rf s ∧ sAt rf s < 120 ∧ 0 ≤ pl.2.2.2 (sAt rf s)) := by
        rcases Classical.em (∃ x ∈ rf, rOrd x = s) with ⟨x, hx, ho⟩ | hno
        · rw [(sAt_mem hGf.1 hx ho).1]
          exact Or.inr ⟨(hrf x hx).2.1, (hrf x hx).2.2, hmp x hx⟩
        · exact Or.inl (sAt_no (fun x hx ho => hno ⟨x, hx, ho⟩)).1
      -- what follows
      have fin : ∀ (M3 : gM), gFr [737, 738] [] M M3 → (∀ t : Int, 0 ≤ t → t < s → M3 737 t = sAt L t ∧ M3 738 t = sBy L t) → M3 737 s = sAt L s → M3 738 s = sBy L s → ∃ M9, (if 0 ≤ s ∧ s < 52 then
              (if (M3 737 s) = -1 then
                F_laysRefs_4 M3 p (pre.length : Int) (gw32 (s + 1))
              else
                F_laysRefs_4 M3 p (gw32 ((pre.length : Int) + (1 : Int))) (gw32 (s + 1)))
            else none) = some ((L.length : Int), M9) ∧ ∀ t : Int, 0 ≤ t → t < 52 → M9 737 t = sAt L t ∧ M9 738 t = sBy L t := fun M3 hf3 hd3 d1 d2 => by
        have hd4 : ∀ t : Int, 0 ≤ t → t < s + 1 → M3 737 t = sAt L t ∧ M3 738 t = sBy L t := fun t t0 t1 => by
          by_cases q : t = s
          · rw [q]; exact ⟨d1, d2⟩
          · exact hd3 t t0 (by omega)
        rw [if_pos (by omega), d1, gw32_id (z := s + 1) (by omega) (by omega)]
        rcases sAt_next hGL e h1 h2 with ⟨b1, b2⟩ | ⟨y, r, rfl, ho, b1, -, c1, c2⟩
        · rw [if_pos b1]
          exact ih (s + 1) suf pre M3 (by omega) (by omega) e (fun x hx => by have := h1 x hx; omega) b2 hf3 hd4
        · rw [List.length_cons] at hlen
          rw [b1, if_neg (by omega), gw32_id (by omega) (by omega)]
          have := ih (s + 1) r (pre ++ [y]) M3 (by omega) (by omega) (app_mid e) (fun x hx => by
            rcases List.mem_append.mp hx with z | z
            · have := h1 x z; omega
            · rw [List.mem_singleton.mp z]; omega) c2 hf3 hd4
          rw [List.length_append, List.length_singleton] at this
          rw [show (pre.length : Int) + 1 = ((pre.length + 1 : Nat) : Int) by omega]
          exact this
      have b84 : ∀ (M4 : gM) (x4 x5 v : Int), gFr [737, 738] [] M M4 → (∀ t : Int, t ≠ s → M4 737 t = M2 737 t ∧ M4 738 t = M2 738 t) → M4 737 s = (if sBy rt s = p then -1 else sAt rt s) → v = (if sBy rt s = p then -1 else sBy rt s) → ∃ M9, F_laysRefs_84 M4 p (pre.length : Int) s x4 x5 s v = some ((L.length : Int), M9) ∧ ∀ t : Int, 0 ≤ t → t < 52 → M9 737 t = sAt L t ∧ M9 738 t = sBy L t := fun M4 x4 x5 v hf4 hd4 d1 hv => by
        rw [eq_laysRefs_84, if_pos (by omega)]
        generalize hM5 : gU M4 738 s v = M5
        have hf5 : gFr [737, 738] [] M M5 := by rw [← hM5]; exact gFr_a hf4 (by decide) (by decide)
        have o5 : ∀ b : Int, b ≠ 711 → b ≠ 737 → b ≠ 738 → M5 b = M b := fun b b0 b1 b2 => hf5.1 b (by simp; omega) b0
        have h737 : M5 737 = M4 737 := by rw [← hM5, gU_cell _ _ _ (by decide)]
        have h738 : ∀ t : Int, M5 738 t = if t = s then v else M4 738 t := fun t => by
          rw [← hM5]
          by_cases q : t = s
          · rw [if_pos q, q, gU_same]
          · rw [if_neg q, gU_idx q]
        have hP5 : uPq M5 p pl := uPq_of hP (o5 729 (by decide) (by decide) (by decide)) (o5 730 (by decide) (by decide) (by decide)) (o5 731 (by decide) (by decide) (by decide))
        rw [gI_bb (s_ofPlan hp (by decide)), o5 729 (by decide) (by decide) (by decide), e2, gw32_id (z := 52 * pl.2.1 2) (by omega) (by omega), gw32_id (z := 52 * pl.2.1 2 + s) (by omega) (by omega), if_pos (by omega), o5 727 (by decide) (by decide) (by decide), f1, gI_bb (s_isLaid hP5 hp hk)]
        have hd5 : ∀ t : Int, 0 ≤ t → t < s → M5 737 t = sAt L t ∧ M5 738 t = sBy L t := fun t t0 t1 => by
          rw [h737, h738, if_neg (by omega), (hd4 t (by omega)).1, (hd4 t (by omega)).2]; exact hd t t0 t1
        cases hb : lrB (pl.2.1 14) pl.2.2.1 pl.2.2.2 s (sAt rf s) with
        | false =>
          rw [hb, if_neg (by decide)] at g1 g2
          rw [if_pos bIf]
          exact fin M5 hf5 hd5 (by rw [h737, d1, g1]) (by rw [h738, if_pos rfl, hv, g2])
        | true =>
          rw [hb, if_pos rfl] at g1 g2
          have hkk : 0 ≤ sAt rf s ∧ sAt rf s < 120 ∧ 0 ≤ pl.2.2.2 (sAt rf s) := by
            rcases hk with w | w
            · rw [w, lrB_no] at hb; cases hb
            · exact w
          have hi := (hP5.2.2.2 _ hkk.1 hkk.2.1).2 hkk.2.2
          rw [if_neg bIt, gI_bb (s_imageAt hp ⟨hkk.1, hkk.2.1⟩), hi]
          exact fin _ (gFr_a (gFr_a hf5 (by decide) (by decide)) (by decide) (by decide)) (fun t t0 t1 => by
            rw [gU_cel (by decide), gU_idx (by omega), gU_idx (by omega), gU_cel (by decide)]; exact hd5 t t0 t1) (by rw [gU_cel (by decide), gU_same, g1]) (by rw [gU_same, g2])
      rw [eq_laysRefs_4, if_pos (by omega), gI_bb (s_ofPlan hp (by decide)), o 729 (by decide) (by decide) (by decide), e3, gw32_id (z := 52 * pl.2.1 3) (by omega) (by omega), gw32_id (z := 52 * pl.2.1 3 + s) (by omega) (by omega), if_pos (by omega), o 728 (by decide) (by decide) (by decide), t2]
      by_cases q : sBy rt s = p
      · rw [if_pos q, eq_laysRefs_39, if_neg (show ¬ (1 : Int) = 0 by decide), if_pos (by omega), if_neg (show ¬ (1 : Int) = 0 by decide)]
        exact b84 _ _ _ _ (gFr_a hfr (by decide) (by decide)) (fun t ht => ⟨gU_idx ht, gU_cel (by decide)⟩) (by rw [gU_same, if_pos q]) (by rw [if_pos q])
      · rw [if_neg q, eq_laysRefs_39, if_pos (show (0 : Int) = 0 from rfl), if_pos (by omega), if_pos (by omega), if_pos (show (0 : Int) = 0 from rfl), o 727 (by decide) (by decide) (by decide), t1, gU_cel (show (728 : Int) ≠ 737 by decide), o 728 (by decide) (by decide) (by decide), t2]
        exact b84 _ _ _ _ (gFr_a hfr (by decide) (by decide)) (fun t ht => ⟨gU_idx ht, gU_cel (by decide)⟩) (by rw [gU_same, if_neg q]) (by rw [if_neg q])
  rw [eq_laysRefs]
  exact lp 52 0 L [] M (by omega) (by decide) rfl (fun x hx => by cases hx) (fun x hx => (rOrd_rng (hGL.2 x hx).1).1) (gFr_r _ _ _) (fun t t0 t1 => by omega)
