-- ==== RUN, ANEW: as functions, and what they keep
def plInv (cs : List kC) (pl : kP) : Prop := (pl.2.1 0 = 0 ∨ pl.2.1 0 = 1) ∧ (pl.2.1 0 = 1 → (∀ i : Nat, i < 7 → ∀ x ∈ pl.1 i, pX (cs.length : Int) i x) ∧ (∀ f : Nat, pY f (pl.2.1 f)) ∧ (∀ i : Nat, i < 6 → (pl.1 i).length ≤ 4) ∧ sgOk pl ∧ ∀ k : Int, 0 ≤ k → k < 120 → (-1 ≤ pl.2.2.2 k ∧ pl.2.2.2 k ≤ 2) ∧ (-1 ≤ pl.2.2.1 k ∧ pl.2.2.1 k < (cs.length : Int)) ∧ (pl.2.2.2 k = 0 → 0 ≤ pl.2.2.1 k) ∧ ((cs.length : Int) ≤ k → pl.2.2.2 k = -1))
theorem pX_up {n m : Int} (h : n ≤ m) {i : Nat} {x : Int × Int} (hx : pX n i x) : pX m i x := by
  unfold pX at hx ⊢
  split at hx <;> first | exact hx | (obtain ⟨⟨a, b⟩, c⟩ := hx; exact ⟨⟨a, by omega⟩, c⟩)
theorem fore_ok {cs : List kC} {pl : kP} (hO : kOk cs) (hg : ∀ x ∈ pl.1 5, 0 ≤ x.1 ∧ x.2 < x.1) : kForeOk cs pl := fun k c hk p hp => by
  unfold kForeL at hp
  split at hp
  · rename_i v hv
    have := hg _ (qGet_mem hv)
    split at hp
    · cases hp
    · rename_i q
      rw [List.mem_singleton.mp hp]
      exact ⟨by omega, this.2⟩
  · exact (hO k c hk).1.2.1 p hp
theorem plInv_gd {cs : List kC} {pl : kP} (h : plInv cs pl) : plGd pl := ⟨h.1, fun h1 k k0 k1 => ⟨((h.2 h1).2.2.2.2 k k0 k1).1.1, ((h.2 h1).2.2.2.2 k k0 k1).2.1.1⟩⟩
theorem plInv_top {cs : List kC} {pl : kP} (h : plInv cs pl) : plTop cs.length pl := fun h1 k k0 k1 => ((h.2 h1).2.2.2.2 k (by omega) k1).2.2.2 k0
theorem plInv_W {cs : List kC} {pl : kP} (h : plInv cs pl) (h1 : pl.2.1 0 = 1) : plW pl := by
  obtain ⟨a, -⟩ := h.2 h1
  refine ⟨fun x hx => (a 0 (by decide) x hx).1, fun x hx => (a 1 (by decide) x hx).1, fun x hx => a 2 (by decide) x hx, fun x hx => ?_⟩
  have hc : cRg x.1 ∧ cRg x.2 := a 3 (by decide) x hx
  unfold cRg at hc
  omega
theorem plInv_fore {cs : List kC} {pl : kP} (hO : kOk cs) (h : plInv cs pl) (h1 : pl.2.1 0 = 1) : kForeOk cs pl := fore_ok hO (fun x hx => by
  have : (0 ≤ x.1 ∧ x.1 < (cs.length : Int)) ∧ -1 ≤ x.2 ∧ x.2 < x.1 := (h.2 h1).1 5 (by decide) x hx
  exact ⟨this.1.1, this.2.2⟩)
theorem plInv_ft {cs : List kC} {pl : kP} (h : plInv cs pl) (h1 : pl.2.1 0 = 1) : (0 ≤ pl.2.1 2 ∧ pl.2.1 2 < 4) ∧ (0 ≤ pl.2.1 3 ∧ pl.2.1 3 < 4) := by
  have a : 0 ≤ pl.2.1 2 ∧ pl.2.1 2 ≤ 3 := (h.2 h1).2.1 2
  have b : 0 ≤ pl.2.1 3 ∧ pl.2.1 3 ≤ 3 := (h.2 h1).2.1 3
  omega
theorem plInv_fit {cs : List kC} {pl : kP} (hO : kOk cs) (h : plInv cs pl) : plFit cs pl := fun h1 => by
  refine ⟨plInv_fore hO h h1, fun x hx => ?_, plInv_W h h1, (plInv_ft h h1).1, (plInv_ft h h1).2, fun k k0 k1 _ => ⟨((h.2 h1).2.2.2.2 k k0 k1).2.1, ((h.2 h1).2.2.2.2 k k0 k1).2.2.1⟩⟩
  have : (0 ≤ x.1 ∧ x.1 < (cs.length : Int)) ∧ -1 ≤ x.2 ∧ x.2 < x.1 := (h.2 h1).1 5 (by decide) x hx
  exact this.2.1
theorem wRg_rng {v : Int} (h : wRg v) : 0 ≤ v ∧ v < 1048576 := by
  obtain ⟨w, h1, h2, h3, rfl⟩ := h
  have := cdF_rng w.length w rfl h1
  have p4 : (32 ^ w.length : Nat) ≤ 32 ^ 4 := Nat.pow_le_pow_right (by decide) h3
  have p4' : (32 ^ 4 : Nat) = 1048576 := by decide
  omega
theorem kSet_is {cs : List kC} {d : kC} (hG : kGd cs) (hl : cs.length ≤ 120) (hw : kWf (cs.length : Int) d) (ht : tGd (kFs d)) (h0 : ¬ (kSet cs d).1 < 0) : (∃ ds, (kSet cs d).2 = cs ++ ds) ∧ kGd (kSet cs d).2 ∧ (kSet cs d).2.length ≤ 120 ∧ 0 ≤ (kSet cs d).1 ∧ (kSet cs d).1 < ((kSet cs d).2.length : Int) := by
  have hg := kGd_add hG hw ht
  have hm := kFind_m1 (d := d) cs 0 (by decide)
  refine ⟨?_, hg, ?_, by omega, ?_⟩
  · unfold kSet
    split
    · exact ⟨[], (List.append_nil _).symm⟩
    · split
      · exact ⟨[], (List.append_nil _).symm⟩
      · exact ⟨[d], rfl⟩
  · unfold kSet
    split
    · exact hl
    · split
      · exact hl
      · show (cs ++ [d]).length ≤ 120
        rw [List.length_append, List.length_singleton]; omega
  · unfold kSet at h0 ⊢
    split
    · rename_i q
      show kFind d cs 0 < (cs.length : Int)
      omega
    · rename_i q
      rw [if_neg q] at h0
      split
      · rename_i q2
        rw [if_pos q2] at h0
        exact absurd (show (-3 : Int) < 0 by decide) h0
      · show (cs.length : Int) < ((cs ++ [d]).length : Int)
        rw [List.length_append, List.length_singleton]; omega
theorem aRw_is {n0 : Nat} {el : Nat → Nat → Bool} {pl : kP} {cs : List kC} {im : Int → Int} {k : Nat} {c : kC} {x : Int × Int × List kC} (H : rwH n0 el pl cs im) (hk : cs[k]? = some c) (h : aRw cs el pl im k c = some x) : (0 ≤ x.1 ∧ x.1 ≤ 2) ∧ (-1 ≤ x.2.1 ∧ x.2.1 < (x.2.2.length : Int)) ∧ (x.1 = 0 → 0 ≤ x.2.1) ∧ (∃ ds, x.2.2 = cs ++ ds) ∧ kGd x.2.2 ∧ x.2.2.length ≤ 120 := by
  obtain ⟨D1, D2, D3⟩ := rwD_dIs H hk
  unfold aRw at h
  split at h
  · cases h
    refine ⟨?_, ?_, ?_, ⟨[], (List.append_nil _).symm⟩, H.1, H.2.2.2.2.2.2.2.2⟩
    · show 0 ≤ (if rwE cs el pl im k c = true then (1 : Int) else 2) ∧ (if rwE cs el pl im k c = true then (1 : Int) else 2) ≤ 2
      split <;> decide
    · show -1 ≤ ((kPs (rwD cs el pl im k c)).head?).getD (-1) ∧ ((kPs (rwD cs el pl im k c)).head?).getD (-1) < (cs.length : Int)
      cases hp : kPs (rwD cs el pl im k c) with
      | nil => exact ⟨by decide, by show (-1 : Int) < (cs.length : Int); omega⟩
      | cons p r =>
        have := D3 p (by rw [hp]; exact List.mem_cons_self)
        exact ⟨by show -1 ≤ p; omega, this.2⟩
    · intro w
      have w : (if rwE cs el pl im k c = true then (1 : Int) else 2) = 0 := w
      split at w <;> exact absurd w (by decide)
  · split at h
    · cases h
    · rename_i q
      cases h
      have hd : kFs (dAdds (rwD cs el pl im k c) (mgGo (mgM (el k) im) (mgW pl) (kMs c).length (kMs c))) = kFs (rwD cs el pl im k c) := by
        have hdm : kMs (rwD cs el pl im k c) = [] := by
          have := (rGa_is im (kForeL c pl (k : Int)) ([], (rCt pl (kFs c) 0 0 []).2.2, [], rwW pl c, kHr c) []).1
          show (rwG pl im k c).1.2.2.1 = []
          unfold rwG
          rw [this]
        rw [dAdds_is _ _ (by rw [hdm]; exact Nat.zero_le _)]; rfl
      obtain ⟨a, b, c', d, e⟩ := kSet_is H.1 H.2.2.2.2.2.2.2.2 D1 (by rw [hd]; exact D2) q
      exact ⟨⟨by show (0 : Int) ≤ 0; decide, by show (0 : Int) ≤ 2; decide⟩, ⟨by show -1 ≤ (kSet cs _).1; omega, e⟩, fun _ => d, a, b, c'⟩
abbrev aL : Type := Int × List kC × (Int → Int) × (Int → Int)
/-- COMMITS of the PLAN are REWRITTEN, rising; none: no room -/
def aLoop (el : Nat → Nat → Bool) (S : Nat → Bool) (pl : kP) : Nat → Nat → aL → Option aL
  | 0, _, y => some y
  | m + 1, k, y => if (S k && decide (y.2.2.2 (k : Int) < 0)) = true then (match y.2.1[k]? with
      | none => none
      | some c => match aRw y.2.1 el pl y.2.2.1 k c with
        | none => none
        | some x => aLoop el S pl m (k + 1) (y.1 + 1, x.2.2, fUp y.2.2.1 (k : Int) x.2.1, fUp y.2.2.2 (k : Int) x.1))
    else aLoop el S pl m (k + 1) y
/-- what holds in the midst of a RUN -/
def liS (cs0 : List kC) (pl : kP) (y : aL) : Prop := (∃ ds, y.2.1 = cs0 ++ ds) ∧ kGd y.2.1 ∧ y.2.1.length ≤ 120 ∧ ∀ q : Int, 0 ≤ q → q < 120 → (-1 ≤ y.2.2.2 q ∧ y.2.2.2 q ≤ 2) ∧ (-1 ≤ y.2.2.1 q ∧ y.2.2.1 q < (y.2.1.length : Int)) ∧ (y.2.2.2 q = 0 → 0 ≤ y.2.2.1 q) ∧ ((cs0.length : Int) ≤ q → y.2.2.2 q = -1)
/-- a PLAN that is good -/
def plK (cs0 : List kC) (pl : kP) : Prop := (∀ x ∈ pl.1 5, 0 ≤ x.1 ∧ x.2 < x.1) ∧ plW pl ∧ (∀ x ∈ pl.1 6, 0 ≤ x.2 ∧ x.2 ≤ 9) ∧ (∀ x ∈ pl.1 4, 0 ≤ x.2 ∧ x.2 < 2147483648) ∧ plGr pl
theorem plInv_K {cs : List kC} {pl : kP} (h : plInv cs pl) (h1 : pl.2.1 0 = 1) : plK cs pl := by
  obtain ⟨a, -⟩ := h.2 h1
  refine ⟨fun x hx => ?_, plInv_W h h1, fun x hx => ?_, fun x hx => ?_, fun x hx => ?_⟩
  · have : (0 ≤ x.1 ∧ x.1 < (cs.length : Int)) ∧ -1 ≤ x.2 ∧ x.2 < x.1 := a 5 (by decide) x hx
    exact ⟨this.1.1, this.2.2⟩
  · have : (0 ≤ x.1 ∧ x.1 ≤ 9) ∧ 0 ≤ x.2 ∧ x.2 ≤ 9 := a 6 (by decide) x hx
    exact this.2
  · have : wRg x.1 ∧ wRg x.2 := a 4 (by decide) x hx
    have := wRg_rng this.2
    omega
  · have : (0 ≤ x.1 ∧ x.1 < (cs.length : Int)) ∧ -1 ≤ x.2 ∧ x.2 < x.1 := a 5 (by decide) x hx
    exact this.2.1
theorem liS_H {cs0 : List kC} {pl : kP} {y : aL} (hK : plK cs0 pl) (h : liS cs0 pl y) (h0 : kOk cs0) : rwH cs0.length (kEld cs0 pl) pl y.2.1 y.2.2.1 := by
  obtain ⟨⟨ds, e⟩, h1, h2, h3⟩ := h
  have hF0 := fore_ok (pl := pl) h0 hK.1
  exact ⟨h1, fore_ok h1.1 hK.1, hK.2.1, hK.2.2.1, hK.2.2.2.1, fun q q0 q1 => (h3 q q0 q1).2.1, by rw [e, List.length_append]; omega, fun k hk j hj => kEld_lt hF0 hk hj, h2⟩
theorem liS_step {cs0 : List kC} {pl : kP} {y : aL} {k : Nat} {c : kC} {x : Int × Int × List kC} (hK : plK cs0 pl) (h : liS cs0 pl y) (h0 : kOk cs0) (hk : k < cs0.length) (hc : y.2.1[k]? = some c) (hx : aRw y.2.1 (kEld cs0 pl) pl y.2.2.1 k c = some x) (n : Int) : liS cs0 pl (n, x.2.2, fUp y.2.2.1 (k : Int) x.2.1, fUp y.2.2.2 (k : Int) x.1) := by
  obtain ⟨a, b, c', ⟨ds2, e2⟩, g, l⟩ := aRw_is (liS_H hK h h0) hc hx
  obtain ⟨⟨ds, e⟩, h1, h2, h3⟩ := h
  refine ⟨⟨ds ++ ds2, by show x.2.2 = _; rw [e2, e, List.append_assoc]⟩, g, l, fun q q0 q1 => ?_⟩
  have hlen : y.2.1.length ≤ x.2.2.length := by rw [e2, List.length_append]; omega
  obtain ⟨i1, i2, i3, i4⟩ := h3 q q0 q1
  show (-1 ≤ fUp y.2.2.2 (k : Int) x.1 q ∧ fUp y.2.2.2 (k : Int) x.1 q ≤ 2) ∧ (-1 ≤ fUp y.2.2.1 (k : Int) x.2.1 q ∧ fUp y.2.2.1 (k : Int) x.2.1 q < (x.2.2.length : Int)) ∧ (fUp y.2.2.2 (k : Int) x.1 q = 0 → 0 ≤ fUp y.2.2.1 (k : Int) x.2.1 q) ∧ ((cs0.length : Int) ≤ q → fUp y.2.2.2 (k : Int) x.1 q = -1)
  unfold fUp
  by_cases eq : q = (k : Int)
  · rw [if_pos eq, if_pos eq]
    exact ⟨by omega, b, c', fun w => by omega⟩
  · rw [if_neg eq, if_neg eq]
    exact ⟨i1, by omega, i3, i4⟩
/-- where it ends -/
theorem aLoop_li {cs0 : List kC} {pl : kP} {S : Nat → Bool} (hK : plK cs0 pl) (h0 : kOk cs0) : ∀ (m k : Nat) (y w : aL), k + m ≤ cs0.length → liS cs0 pl y → aLoop (kEld cs0 pl) S pl m k y = some w → liS cs0 pl w
  | 0, k, y, w, _, h, e => by cases e; exact h
  | m + 1, k, y, w, hm, h, e => by
    unfold aLoop at e
    split at e
    · split at e
      · cases e
      · rename_i c hc
        split at e
        · cases e
        · rename_i x hx
          exact aLoop_li hK h0 m (k + 1) _ w (by omega) (liS_step hK h h0 (by omega) hc hx _) e
    · exact aLoop_li hK h0 m (k + 1) y w (by omega) h e
/-- REFS are laid -/
def lrGo (tags : Int) (im fa : Int → Int) (p : Int) : List rF → List rF → List rF
  | [], acc => acc
  | x :: r, acc => if (x.1 = 0 ∨ tags = 2 ∨ (tags = 1 ∧ fa x.2.2.1 = 0)) ∧ 0 ≤ im x.2.2.1 then lrGo tags im fa p r (rLay x.1 x.2.1 (im x.2.2.1) p acc) else lrGo tags im fa p r acc
theorem rLay_len {n : Int} {rs : List rF} {k l c p : Int} (h : rGd n rs) (hk : 0 ≤ k ∧ k ≤ 1) (hl : 0 ≤ l ∧ l ≤ 25) : (rLay k l c p rs).length ≤ rs.length + 1 := by
  obtain ⟨-, -, e⟩ := rLay_is (c := c) (p := p) h hk hl
  rw [e]; split <;> omega
theorem rGd_up {n m : Int} (h : n ≤ m) {rs : List rF} (hr : rGd n rs) : rGd m rs := ⟨hr.1, fun x hx => by obtain ⟨a, b, c⟩ := hr.2 x hx; exact ⟨a, by omega, c⟩⟩
theorem rGd_fil {n : Int} {rs : List rF} (h : rGd n rs) (f : rF → Bool) : rGd n (rs.filter f) := ⟨List.Pairwise.filter _ h.1, fun x hx => h.2 x (List.mem_filter.mp hx).1⟩
theorem lrGo_gd {n tags p : Int} {im fa : Int → Int} (hp : 0 ≤ p ∧ p ≤ 3) (him : ∀ q : Int, 0 ≤ q → q < 120 → im q < n) : ∀ (r acc : List rF), (∀ x ∈ r, rRng x ∧ 0 ≤ x.2.2.1 ∧ x.2.2.1 < 120) → rGd n acc → rGd n (lrGo tags im fa p r acc) ∧ (lrGo tags im fa p r acc).length ≤ acc.length + r.length
  | [], acc, _, h => ⟨h, Nat.le_refl _⟩
  | x :: r, acc, hx, h => by
    have hx1 := hx x List.mem_cons_self
    have hr : ∀ y ∈ r, rRng y ∧ 0 ≤ y.2.2.1 ∧ y.2.2.1 < 120 := fun y hy => hx y (List.mem_cons_of_mem _ hy)
    obtain ⟨r1, r2, r3, r4⟩ := hx1.1
    unfold lrGo
    rw [List.length_cons]
    split
    · rename_i q
      obtain ⟨a, b⟩ := lrGo_gd (tags := tags) (fa := fa) hp him r _ hr (rLay_gd h ⟨r1, r2⟩ ⟨r3, r4⟩ ⟨q.2, him _ hx1.2.1 hx1.2.2⟩ ⟨by omega, hp.2⟩)
      have := rLay_len (c := im x.2.2.1) (p := p) h ⟨r1, r2⟩ ⟨r3, r4⟩
      exact ⟨a, by omega⟩
    · obtain ⟨a, b⟩ := lrGo_gd (tags := tags) (fa := fa) hp him r acc hr h
      exact ⟨a, by omega⟩
def rcL (z : aS) (p : Int) (pl : kP) (w : aL) : List rF := lrGo (pl.2.1 14) w.2.2.1 w.2.2.2 p (aRs z (pl.2.1 2)) ((aRs z (pl.2.1 3)).filter (fun x => decide (x.2.2.2 ≠ p)))
def rcY (z : aS) (pl : kP) (anew : Bool) : aL := (0, aCs z, if anew then (fun _ => -1) else pl.2.2.1, if anew then (fun _ => -1) else pl.2.2.2)
def rcV (z : aS) (p : Int) (res : Option aL) : Int × aS := match res with
  | none => (-3, z)
  | some w => if 8 < (rcL z p (aPl z p) w).length then (-5, z) else (w.1, (aTp z, w.2.1, rPut (aRs z) ((aPl z p).2.1 3) (rcL z p (aPl z p) w), plPut (aPl z) p ((aPl z p).1, (aPl z p).2.1, w.2.2.1, w.2.2.2), z.2.2.2.2))
/-- a RUN, or ANEW: how many were REWRITTEN, or why not; the state then -/
def aCarry (z : aS) (p : Int) (anew : Bool) : Int × aS :=
  if (aPl z p).2.1 0 = 0 then (-2, z)
  else rcV z p (aLoop (kEld (aCs z) (aPl z p)) (eMark (aCs z) (aPl z p) (aRs z ((aPl z p).2.1 2))) (aPl z p) (aCs z).length 0 (rcY z (aPl z p) anew))
def aRun (z : aS) (p : Int) : Int × aS := if 0 ≤ p ∧ p ≤ 3 then aCarry z p false else (-1, z)
def aAgain (z : aS) (p : Int) : Int × aS := if 0 ≤ p ∧ p ≤ 3 then (if (aCarry z p true).1 < 0 then aCarry z p true else (((aCs (aCarry z p true).2).length : Int) - ((aCs z).length : Int), (aCarry z p true).2)) else (-1, z)
theorem rcY_li {z : aS} {pl : kP} {b : Bool} (hG : kGd (aCs z)) (hl : (aCs z).length ≤ 120) (hI : plInv (aCs z) pl) (h1 : pl.2.1 0 = 1) : liS (aCs z) pl (rcY z pl b) := by
  refine ⟨⟨[], (List.append_nil _).symm⟩, hG, hl, fun q q0 q1 => ?_⟩
  cases b with
  | true => exact ⟨⟨show (-1 : Int) ≤ -1 by decide, show (-1 : Int) ≤ 2 by decide⟩, ⟨show (-1 : Int) ≤ -1 by decide, by show (-1 : Int) < ((aCs z).length : Int); omega⟩, fun w => absurd (show (-1 : Int) = 0 from w) (by decide), fun _ => rfl⟩
  | false => exact (hI.2 h1).2.2.2.2 q q0 q1
