-- ==== the reference: a COMMIT is REWRITTEN
theorem kEld_ext (pl : kP) (k : Nat) : ∀ (ds cs : List kC), k < cs.length → kEld (cs ++ ds) pl k = kEld cs pl k
  | [], cs, _ => by rw [List.append_nil]
  | d :: r, cs, h => by
    have := kEld_ext pl k r (cs ++ [d]) (by rw [List.length_append]; omega)
    rw [List.append_assoc] at this
    rw [show cs ++ d :: r = cs ++ ([d] ++ r) from rfl, this]
    funext j
    rw [kEld_app, if_neg (by omega)]
theorem thG_congr {cs : List kC} {el el2 : Nat → Nat → Bool} {m : Int} {ps ca : List Int} (h : ∀ c ∈ ca, el2 c.toNat = el c.toNat) : ∀ (p2 c2 : List Int), thG cs el2 m ps ca p2 c2 = thG cs el m ps ca p2 c2
  | [], c2 => by cases c2 <;> rfl
  | p :: r, [] => rfl
  | p :: r, c :: q => by rw [thG_cons, thG_cons, rNd_congr ps ca h, thG_congr h r q]
theorem aRw_el {cs : List kC} {el el2 : Nat → Nat → Bool} {pl : kP} {im : Int → Int} {k n0 : Nat} {c : kC} (hF : kForeOk cs pl) (hk : cs[k]? = some c) (hn : k < n0) (h : ∀ q : Nat, q < n0 → el2 q = el q) : aRw cs el2 pl im k c = aRw cs el pl im k c := by
  have hca : ∀ x ∈ (rwG pl im k c).2, el2 x.toNat = el x.toNat := fun x hx => by
    rcases (rGa_is im (kForeL c pl (k : Int)) ([], (rCt pl (kFs c) 0 0 []).2.2, [], rwW pl c, kHr c) []).2.2.1 x hx with z | z
    · cases z
    · have := hF k c hk x z
      exact h _ (by omega)
  have hD : rwD cs el2 pl im k c = rwD cs el pl im k c := by
    unfold rwD thAll
    rw [thG_congr hca]
  have hE : rwE cs el2 pl im k c = rwE cs el pl im k c := by unfold rwE; rw [hD]
  unfold aRw
  rw [hD, hE, h k hn]
def rvA : List Int := [712, 713, 714, 715, 716, 717, 718, 719, 720, 721, 722, 723, 730, 731, 732, 733, 734, 735]
def rvF : List Int := [0, 12, 13, 32, 33, 37, 38]
/-- the reference in the midst of a RUN -/
def rvS (M0 : gM) (p : Int) (pl : kP) (S : Nat → Bool) (cs : List kC) (im fa : Int → Int) (M : gM) : Prop :=
  uC M cs ∧ uPq M p (pl.1, pl.2.1, im, fa) ∧ uS M 736 S ∧ gFr rvA rvF M0 M ∧ ∀ q : Int, (q < 120 * p ∨ 120 * p + 120 ≤ q) → M 730 q = M0 730 q ∧ M 731 q = M0 731 q
theorem s_maps {M : gM} {p k f v : Int} (hp : 0 ≤ p ∧ p ≤ 3) (hk : 0 ≤ k ∧ k < 120) : F_maps M p k f v = some (gU (gU M 730 (120 * p + k) f) 731 (120 * p + k) v) := by
  rw [eq_maps, gw32_id (z := 120 * p) (by omega) (by omega), gw32_id (by omega) (by omega), if_pos (by omega)]
theorem rvS_map {M0 M M1 : gM} {p : Int} {pl : kP} {S : Nat → Bool} {cs cs2 : List kC} {im fa : Int → Int} {k f v : Int} (h : rvS M0 p pl S cs im fa M) (hp : 0 ≤ p ∧ p ≤ 3) (hk : 0 ≤ k ∧ k < 120) (hC : uC M1 cs2) (hf : gFr [712, 713, 714, 715, 716, 717, 718, 719, 720, 721, 722, 723, 732, 733, 734, 735] rvF M M1) : rvS M0 p pl S cs2 (fUp im k v) (fUp fa k f) (gU (gU M1 730 (120 * p + k) f) 731 (120 * p + k) v) := by
  obtain ⟨h1, h2, h3, h4, h5⟩ := h
  have o : ∀ b : Int, b ≠ 711 → (b = 729 ∨ b = 730 ∨ b = 731 ∨ b = 736) → M1 b = M b := fun b b0 b1 => hf.1 b (by simp; omega) b0
  have e : ∀ b : Int, b ≠ 730 → b ≠ 731 → gU (gU M1 730 (120 * p + k) f) 731 (120 * p + k) v b = M1 b := fun b b0 b1 => by rw [gU_cell _ _ _ b1, gU_cell _ _ _ b0]
  have e730 : ∀ q : Int, gU (gU M1 730 (120 * p + k) f) 731 (120 * p + k) v 730 q = gU M1 730 (120 * p + k) f 730 q := fun q => gU_cel (by decide)
  have e731 : ∀ q : Int, q ≠ 120 * p + k → gU (gU M1 730 (120 * p + k) f) 731 (120 * p + k) v 731 q = M1 731 q := fun q hq => by rw [gU_idx hq, gU_cel (by decide)]
  refine ⟨uC_same hC (by rw [e 711 (by decide) (by decide)]) (fun b b0 b1 => e b (by omega) (by omega)), ?_, fun j hj => by rw [e 736 (by decide) (by decide), o 736 (by decide) (by decide)]; exact h3 j hj, ?_, fun q hq => ?_⟩
  · obtain ⟨a, b, c, d⟩ := h2
    have e9 : gU (gU M1 730 (120 * p + k) f) 731 (120 * p + k) v 729 = M 729 := by rw [e 729 (by decide) (by decide), o 729 (by decide) (by decide)]
    unfold uPq uPt
    rw [e9]
    refine ⟨a, b, c, fun q q0 q1 => ?_⟩
    show _ = fUp fa k f q ∧ (0 ≤ fUp fa k f q → _ = fUp im k v q)
    unfold fUp
    by_cases ek : q = k
    · rw [if_pos ek, if_pos ek, ek, e730, gU_same, gU_same]; exact ⟨rfl, fun _ => rfl⟩
    · rw [if_neg ek, if_neg ek, e730, gU_idx (by omega), e731 _ (by omega), o 730 (by decide) (by decide), o 731 (by decide) (by decide)]; exact d q q0 q1
  · exact gFr_a (gFr_a (gFr_t h4 hf (by decide) (by decide)) (by decide) (by decide)) (by decide) (by decide)
  · rw [e730, gU_idx (by omega), e731 _ (by omega), o 730 (by decide) (by decide), o 731 (by decide) (by decide)]; exact h5 q hq
def rvR (M0 : gM) (p : Int) (pl : kP) (S : Nat → Bool) (cs : List kC) (im fa : Int → Int) (k : Int) (y : Option (Int × Int × List kC)) (b : Int × gM) : Prop := match y with
  | none => b.1 = 0 ∧ uC b.2 cs ∧ gFr rvA rvF M0 b.2 ∧ ∀ q : Int, (q < 120 * p ∨ 120 * p + 120 ≤ q) → b.2 730 q = M0 730 q ∧ b.2 731 q = M0 731 q
  | some x => b.1 = 1 ∧ rvS M0 p pl S x.2.2 (fUp im k x.2.1) (fUp fa k x.1) b.2
theorem s_rewrites {M0 M : gM} {p : Int} {pl : kP} {S : Nat → Bool} {cs0 cs : List kC} {im fa : Int → Int} {k : Nat} {c : kC} {n : Int} (h : rvS M0 p pl S cs im fa M) (hp : 0 ≤ p ∧ p ≤ 3) (hL : liS cs0 pl (n, cs, im, fa)) (hK : plK cs0 pl) (h0 : kOk cs0) (hw : ∀ x ∈ pl.1 4, wRg x.2) (h12 : 0 ≤ pl.2.1 12 ∧ pl.2.1 12 ≤ 3) (h11 : 0 ≤ pl.2.1 11 ∧ pl.2.1 11 < 1024) (hk : cs[k]? = some c) (hkn : k < cs0.length) (hm : ∀ j : Nat, kEld cs0 pl k j = true → 0 ≤ fa (j : Int)) :
    ∃ b, F_rewrites M p (k : Int) = some b ∧ rvR M0 p pl S cs im fa (k : Int) (aRw cs (kEld cs0 pl) pl im k c) b := by
  obtain ⟨hC, hP, hS, hfr, ho⟩ := id h
  have hH := liS_H hK hL h0
  obtain ⟨⟨ds, hds⟩, hG, h120, hmap⟩ := id hL
  have hds : cs = cs0 ++ ds := hds
  have hG : kGd cs := hG
  have h120 : cs.length ≤ 120 := h120
  have hmap : ∀ q : Int, 0 ≤ q → q < 120 → (-1 ≤ fa q ∧ fa q ≤ 2) ∧ (-1 ≤ im q ∧ im q < (cs.length : Int)) ∧ (fa q = 0 → 0 ≤ im q) ∧ ((cs0.length : Int) ≤ q → fa q = -1) := hmap
  have hO := hG.1
  have hF : kForeOk cs pl := fore_ok hO hK.1
  have hF0 : kForeOk cs0 pl := fore_ok h0 hK.1
  have hl := uC_len hC hk
  have hkc0 : cs0[k]? = some c := by rw [hds, List.getElem?_append_left hkn] at hk; exact hk
  have hel : ∀ q : Nat, q < cs0.length → kEld cs pl q = kEld cs0 pl q := fun q hq => by rw [hds]; exact kEld_ext pl q ds cs0 hq
  have hP' : uPq M p pl → True := fun _ => trivial
  have hfore : ∀ e ∈ kForeL c pl (k : Int), 0 ≤ fa e := fun e he => by
    have hr := hF k c hk e he
    have := hm e.toNat (by rw [kEld_eq hF0 hkc0]; exact List.any_eq_true.mpr ⟨e, he, by simp⟩)
    rwa [show ((e.toNat : Nat) : Int) = e by omega] at this
  rw [← aRw_el (el2 := kEld cs pl) hF hk hkn (fun q hq => hel q hq)]
  -- for the reference's own functions a PLAN with another map is the same PLAN
  generalize hpl2 : ((pl.1, pl.2.1, im, fa) : kP) = pl2 at hP
  have p1 : pl2.1 = pl.1 := by rw [← hpl2]
  have p2 : pl2.2.1 = pl.2.1 := by rw [← hpl2]
  have p3 : pl2.2.2.1 = im ∧ pl2.2.2.2 = fa := by rw [← hpl2]; exact ⟨rfl, rfl⟩
  have hkf : ∀ (c : kC) (q : Int), kForeL c pl2 q = kForeL c pl q := fun c q => by unfold kForeL; rw [p1]
  have hF2 : kForeOk cs pl2 := fun k c hk x hx => hF k c hk x (by rw [← hkf]; exact hx)
  have hke : kEld cs pl2 = kEld cs pl := by
    have : ∀ (l : List kC) (a b : Nat), kEldR pl2 l a b = kEldR pl l a b := by
      intro l
      induction l with
      | nil => intro a b; rfl
      | cons d o ih =>
        intro a b
        rw [kEldR, kEldR, hkf]
        split
        · exact any_congr_mem (fun x _ => by rw [ih])
        · exact ih a b
    funext a b
    exact this cs.reverse a b
  have hct : rCt pl2 (kFs c) 0 0 [] = rCt pl (kFs c) 0 0 [] := by
    have : ∀ (l : List gF) (a b : Int) (o : List gF), rCt pl2 l a b o = rCt pl l a b o := by
      intro l
      induction l with
      | nil => intro a b o; rfl
      | cons f r ih =>
        intro a b o
        have ht : rTk pl2 f = rTk pl f := by unfold rTk; rw [p1, p2]
        rw [rCt, rCt, ht, p1]
        split
        · split
          · exact ih _ _ _
          · exact ih _ _ _
        · exact ih _ _ _
    exact this _ _ _ _
  have hW2 : plW pl2 := by unfold plW; rw [p1]; exact hK.2.1
  have hg2 : plGr pl2 := by unfold plGr; rw [p1]; exact hK.2.2.2.2
  obtain ⟨w1, w2, w3, w4, w5, w6, w7⟩ := (hO k c hk).1
  have hT := (hC.2.2 k c hk).2.2.2.2.2.2
  obtain ⟨M1, e1, hct1, t1, t2, -⟩ := s_carriesTree hP hp hW2 (by omega) hT (hG.2 c (List.mem_of_getElem? hk)) w7
  rw [hct] at hct1 t1 t2
  have f1 : gFr [718, 719, 720] [32, 33] M M1 := hct1.2.2.2.2
  have hC1 : uC M1 cs := uC_ct hC hct1
  have o1 : ∀ b : Int, b ≠ 711 → (b < 718 ∨ 720 < b) → M1 b = M b := fun b b0 b1 => f1.1 b (by simp; omega) b0
  have hP1 : uPq M1 p pl2 := uPq_of hP (o1 729 (by decide) (by decide)) (o1 730 (by decide) (by decide)) (o1 731 (by decide) (by decide))
  have hI1 : ∀ e ∈ kForeL c pl2 (k : Int), M1 731 (120 * p + e) = im e ∧ -1 ≤ im e := fun e he => by
    rw [hkf] at he
    have hr := hF k c hk e he
    have := hP1.2.2.2 e hr.1 (by omega)
    rw [p3.1, p3.2] at this
    exact ⟨this.2 (hfore e he), (hmap e hr.1 (by omega)).2.1.1⟩
  obtain ⟨M2, e2, hK2⟩ := s_carriesParents (d0 := ([], (rCt pl (kFs c) 0 0 []).2.2, [], rwW pl c, kHr c)) hC1 hO hP1 hp hg2 hF2 hk hI1 (fun e he => by
    rw [hkf] at he
    have hr := hF k c hk e he
    exact (hmap e hr.1 (by omega)).2.1.2) rfl hct1.1 (by rw [p2]; exact h12)
  rw [hkf, p2, hke] at hK2
  have f2 : gFr [723, 732, 733, 734, 735] [37] M1 M2 := fr_carriesParents e2
  have o2 : ∀ b : Int, b ≠ 711 → (b < 723 ∨ (723 < b ∧ b < 732) ∨ 735 < b) → M2 b = M1 b := fun b b0 b1 => f2.1 b (by simp; omega) b0
  have hC2 : uC M2 cs := uC_fr hC1 f2 (by simp; omega) (by decide)
  have hP2 : uPq M2 p pl2 := uPq_of hP1 (o2 729 (by decide) (by decide)) (o2 730 (by decide) (by decide)) (o2 731 (by decide) (by decide))
  have hT2 : uT M2 121 (rCt pl (kFs c) 0 0 []).2.2 := uT_of hct1.1 (by rw [o2 718 (by decide) (by decide)]) (fun q _ _ => by unfold uG; rw [o2 719 (by decide) (by decide), o2 720 (by decide) (by decide)])
  have hx : (rwG pl im k c).1.2 = ((rCt pl (kFs c) 0 0 []).2.2, [], rwW pl c, kHr c) := (rGa_is im (kForeL c pl (k : Int)) ([], (rCt pl (kFs c) 0 0 []).2.2, [], rwW pl c, kHr c) []).1
  have hdfs : kFs (rwG pl im k c).1 = (rCt pl (kFs c) 0 0 []).2.2 := by
    show (rwG pl im k c).1.2.1 = _
    rw [hx]
  have hK2 : uKp M2 (kPs (rwD cs (kEld cs pl) pl im k c)) := by
    show uKp M2 (thAll cs (kEld cs pl) (pl.2.1 12) (kFs (rwG pl im k c).1) (kPs (rwG pl im k c).1) (rwG pl im k c).2)
    rw [hdfs]; exact hK2
  have hdt : rwD cs (kEld cs pl) pl im k c = (kPs (rwD cs (kEld cs pl) pl im k c), (rCt pl (kFs c) 0 0 []).2.2, [], rwW pl c, kHr c) := by
    show (thAll cs (kEld cs pl) (pl.2.1 12) (kFs (rwG pl im k c).1) (kPs (rwG pl im k c).1) (rwG pl im k c).2, (rwG pl im k c).1.2) = _
    rw [hx]; rfl
  have hH2 : rwH cs0.length (kEld cs pl) pl cs im := ⟨hG, hF, hK.2.1, hK.2.2.1, hK.2.2.2.1, fun q q0 q1 => (hmap q q0 q1).2.1, by rw [hds, List.length_append]; omega, fun q hq j hj => kEld_lt hF (by rw [hds, List.length_append]; omega) hj, h120⟩
  obtain ⟨D1, D2, D3⟩ := rwD_dIs hH2 hk
  have hrE : rEb cs pl2 k c = rEb cs pl k c := by unfold rEb; rw [hkf]
  have hrS : ∀ d : kC, rSk pl2 c d = rSk pl c d := fun d => by unfold rSk; rw [p2]
  have hmw : mgW pl2 = mgW pl := by funext W; unfold mgW; rw [p1]
  unfold aRw
  have hEd : rwE cs (kEld cs pl) pl im k c = (decide (0 < pl.2.1 13) && rBn cs (rwD cs (kEld cs pl) pl im k c) && (decide (pl.2.1 13 = 2) || !rEb cs pl k c)) := rfl
  generalize rwD cs (kEld cs pl) pl im k c = d at *
  have hdfs2 : kFs d = (rCt pl (kFs c) 0 0 []).2.2 := by rw [hdt]; rfl
  have hE2 := s_isEmpty (d := d) hC2 hO hP2 hp hg2 hF2 hk hK2 (by rw [hdfs2]; exact hT2) D3
  rw [p2, hrE, ← hEd] at hE2
  have hS2 := s_rSk (d := d) hC2 hO hP2 hp hk hK2 (by rw [p2]; exact h11)
  rw [hrS] at hS2
  have f02 : gFr [712, 713, 714, 715, 716, 717, 718, 719, 720, 721, 722, 723, 732, 733, 734, 735] rvF M M2 := gFr_t (gFr_t (gFr_r _ _ _) f1 (by decide) (by decide)) f2 (by decide) (by decide)
  rw [eq_rewrites, gI_bb e1, gI_bb e2, gI_bb hE2]
  generalize rwE cs (kEld cs pl) pl im k c = ee at *
  -- EMPTY or SKIPPED
  have done : (ee || rSk pl c d) = true → ∃ b, F_rewrites_32 M2 p (k : Int) (bI ee) = some b ∧ rvR M0 p pl S cs im fa (k : Int) (some (if ee = true then 1 else 2, ((kPs d).head?).getD (-1), cs)) b := fun hz => by
    have hmp : ∀ f v : Int, v = ((kPs d).head?).getD (-1) → f = (if ee = true then 1 else 2) → ∃ b, (Option.bind (F_maps M2 p (k : Int) f v) (fun m61 => some ((1 : Int), m61))) = some b ∧ rvR M0 p pl S cs im fa (k : Int) (some (if ee = true then 1 else 2, ((kPs d).head?).getD (-1), cs)) b := fun f v hv hf => by
      rw [gI_bb (s_maps hp ⟨by omega, by omega⟩), hv, hf]
      exact ⟨_, rfl, rfl, rvS_map h hp ⟨by omega, by omega⟩ hC2 f02⟩
    rw [eq_rewrites_32, hK2.1]
    have hv : (kPs d = [] → ((kPs d).head?).getD (-1) = -1) ∧ (kPs d ≠ [] → M2 733 0 = ((kPs d).head?).getD (-1)) := by
      cases hpd : kPs d with
      | nil => exact ⟨fun _ => rfl, fun w => absurd rfl w⟩
      | cons x r =>
        refine ⟨(fun w => by cases w), fun _ => ?_⟩
        rw [hpd] at hK2
        exact uKp_at (pre := []) hK2 rfl
    by_cases q : kPs d = []
    · have q0 : ((kPs d).length : Int) = 0 := by rw [q]; rfl
      cases hee : ee with
      | true => rw [hee] at hmp; rw [if_neg bIt, if_pos q0]; exact hmp 1 (-1) (hv.1 q).symm (if_pos rfl).symm
      | false => rw [hee] at hmp; rw [if_pos bIf, if_pos q0]; exact hmp 2 (-1) (hv.1 q).symm (if_neg (by decide)).symm
    · have q0 : ¬ ((kPs d).length : Int) = 0 := fun z => q (List.length_eq_zero_iff.mp (by omega))
      cases hee : ee with
      | true => rw [hee] at hmp; rw [if_neg bIt, if_neg q0]; exact hmp 1 _ (hv.2 q) (if_pos rfl).symm
      | false => rw [hee] at hmp; rw [if_pos bIf, if_neg q0]; exact hmp 2 _ (hv.2 q) (if_neg (by decide)).symm
  cases hee : ee with
  | true =>
    rw [hee] at done
    rw [if_neg bIt, if_pos (show (true || rSk pl c d) = true from rfl)]
    exact done rfl
  | false =>
    rw [hee] at done
    rw [if_pos bIf, gI_bb hS2]
    cases hsk : rSk pl c d with
    | true =>
      rw [hsk] at done
      rw [if_neg bIt, if_pos (show (false || true) = true from rfl)]
      exact done rfl
    | false =>
      rw [if_pos bIf, if_neg (show ¬ (false || false) = true by decide)]
      have hI2 : ∀ j : Nat, kEld cs pl2 k j = true → M2 731 (120 * p + (j : Int)) = im (j : Int) ∧ -1 ≤ im (j : Int) ∧ im (j : Int) < 120 := fun j hj => by
        rw [hke] at hj
        have hjl := kEld_lt hF hl.1 hj
        rw [hel k hkn] at hj
        have hq := hP2.2.2.2 (j : Int) (by omega) (by omega)
        rw [p3.1, p3.2] at hq
        have := hmap (j : Int) (by omega) (by omega)
        exact ⟨hq.2 (hm j hj), by omega, by omega⟩
      obtain ⟨M3, e3, y1, y2⟩ := s_carriesSaid (im := im) hC2 hO hP2 hp hg2 hF2 hk (by rw [p1]; exact hw) hI2
      have f3 : gFr [722, 732] [13, 38] M2 M3 := fr_carriesSaid e3
      rw [hke, hmw] at y1 y2
      generalize hms : (mgGo (mgM (kEld cs pl k) im) (mgW pl) (kMs c).length (kMs c)) = msg at *
      rw [gI_bb e3]
      have hK3 : uKp M3 (kPs d) := uKp_fr hK2 (f3.2 37 (by decide)) (f3.1 733 (by decide) (by decide))
      rw [hK3.1]
      -- PARENTS'
      have lp : ∀ (r w : List Int) (M4 : gM), kPs d = w ++ r → gFr [721] [12] M3 M4 → M4 711 12 = ((kPs d).length : Int) → rw_ (M4 721) 0 w → ∃ M5, F_rewrites_83 M4 p (k : Int) 0 (w.length : Int) = F_rewrites_83 M5 p (k : Int) 0 ((kPs d).length : Int) ∧ gFr [721] [12] M3 M5 ∧ M5 711 12 = ((kPs d).length : Int) ∧ rw_ (M5 721) 0 (kPs d) := by
        intro r
        induction r with
        | nil =>
          intro w M4 ew hf h12' hr
          rw [List.append_nil] at ew
          rw [ew] at h12' ⊢
          exact ⟨M4, rfl, hf, h12', hr⟩
        | cons x r ih =>
          intro w M4 ew hf h12' hr
          have hln := len_mid ew
          have hK4 : uKp M4 (kPs d) := uKp_fr hK3 (hf.2 37 (by decide)) (hf.1 733 (by decide) (by decide))
          have h3 := hK4.2.1
          rw [eq_rewrites_83, hK4.1, if_pos (by omega), if_pos (by omega), uKp_at hK4 ew, gw32_id (by omega) (by omega)]
          have := ih (w ++ [x]) (gU M4 721 (w.length : Int) x) (app_mid ew) (gFr_a hf (by decide) (by decide)) (by rw [gU_cell _ _ _ (by decide)]; exact h12') (rw_snoc (rw_congr hr (fun q q0 q1 => gU_idx (by omega))) (by rw [Int.zero_add, gU_same]))
          rw [List.length_append, List.length_singleton] at this
          rw [show (w.length : Int) + 1 = ((w.length + 1 : Nat) : Int) by omega]
          exact this
      obtain ⟨M5, e5, f5, g5, r5⟩ := lp (kPs d) [] (gU M3 711 12 ((kPs d).length : Int)) rfl (gFr_f (gFr_r _ _ _) (by decide)) (gU_same _ _ _ _) rw_nil
      have e5 : F_rewrites_83 (gU M3 711 12 ((kPs d).length : Int)) p (k : Int) 0 0 = _ := e5
      rw [bIf, e5]
      have f25 : gFr [721, 722, 732] [12, 13, 38] M2 M5 := gFr_t (gFr_t (gFr_r _ _ _) f3 (by decide) (by decide)) f5 (by decide) (by decide)
      have hC5 : uC M5 cs := uC_fr hC2 f25 (by simp; omega) (by decide)
      have hK5 : uKp M5 (kPs d) := uKp_fr hK3 (f5.2 37 (by decide)) (f5.1 733 (by decide) (by decide))
      have hP5 : uPq M5 p pl2 := uPq_of hP2 (f25.1 729 (by decide) (by decide)) (f25.1 730 (by decide) (by decide)) (f25.1 731 (by decide) (by decide))
      obtain ⟨-, -, -, -, r5w, r5h, -⟩ := hC5.2.2 k c hk
      have hT5 : uT M5 121 (rCt pl (kFs c) 0 0 []).2.2 := uT_of hT2 (by rw [f25.1 718 (by decide) (by decide)]) (fun q _ _ => by unfold uG; rw [f25.1 719 (by decide) (by decide), f25.1 720 (by decide) (by decide)])
      have hN5 : uN M5 (kPs d) (msg.take 24) := ⟨g5, hK5.2.1, r5, by rw [f5.2 13 (by decide)]; exact y1, by rw [List.length_take]; omega, by rw [f5.1 722 (by decide) (by decide)]; exact y2⟩
      have hsg := hP5.2.2.1 (kWh c) w5.1 (by omega)
      rw [p1] at hsg
      have hk2 : dAdds d msg = (kPs d, (rCt pl (kFs c) 0 0 []).2.2, msg.take 24, rwW pl c, kHr c) := by
        have hm0 : kMs d = [] := by rw [hdt]; rfl
        rw [dAdds_is _ _ (by rw [hm0]; exact Nat.zero_le _), hm0, List.nil_append]
        rw [hdt]; rfl
      rw [hk2]
      have hct16 : (rCt pl (kFs c) 0 0 []).2.2.length ≤ 16 := t2
      obtain ⟨M6, e6, hC6, hu6⟩ := s_comes (t := 121) (wh := rwW pl c) (hr := kHr c) hC5 hO (by decide) hT5 hN5 (fun _ => hct16)
      -- the COMMIT comes
      have fin : ∃ b, F_rewrites_153 M5 p (k : Int) 0 (M5 729 (68 * p + 58 + kWh c)) 121 (rwW pl c) = some b ∧ rvR M0 p pl S cs im fa (k : Int) (if (kSet cs (kPs d, (rCt pl (kFs c) 0 0 []).2.2, msg.take 24, rwW pl c, kHr c)).1 < 0 then none else some (0, kSet cs (kPs d, (rCt pl (kFs c) 0 0 []).2.2, msg.take 24, rwW pl c, kHr c))) b := by
        rw [eq_rewrites_153, if_pos (by omega), r5h, gI_bb e6]
        show ∃ b, (Option.bind (F_maps M6 p (k : Int) 0 (kSet cs (kPs d, (rCt pl (kFs c) 0 0 []).2.2, msg.take 24, rwW pl c, kHr c)).1) _) = some b ∧ _
        rw [gI_bb (s_maps hp ⟨by omega, by omega⟩)]
        have f06 : gFr [712, 713, 714, 715, 716, 717, 718, 719, 720, 721, 722, 723, 732, 733, 734, 735] rvF M M6 := gFr_t (gFr_t f02 f25 (by decide) (by decide)) hu6.2 (by decide) (by decide)
        generalize hy : kSet cs (kPs d, (rCt pl (kFs c) 0 0 []).2.2, msg.take 24, rwW pl c, kHr c) = y at hC6 ⊢
        have hmp := rvS_map (f := 0) (v := y.1) h hp (show 0 ≤ (k : Int) ∧ (k : Int) < 120 by omega) hC6 f06
        by_cases q : y.1 < 0
        · have hy2 : y.2 = cs := by
            rw [← hy] at q ⊢
            unfold kSet at q ⊢
            split
            · rfl
            · rename_i q1
              rw [if_neg q1] at q
              split
              · rfl
              · rename_i q2
                rw [if_neg q2] at q
                have q' : (cs.length : Int) < 0 := q
                omega
          rw [if_pos q, if_pos q]
          rw [hy2] at hmp
          exact ⟨_, rfl, rfl, hmp.1, hmp.2.2.2.1, hmp.2.2.2.2⟩
        · rw [if_neg q, if_neg q]
          exact ⟨_, rfl, rfl, hmp⟩
      rw [eq_rewrites_83, hK5.1, if_neg (by omega), if_pos (by omega), r5w, gw32_id (z := 68 * p) (by omega) (by omega), gw32_id (z := 68 * p + 58) (by omega) (by omega), gw32_id (z := 68 * p + 58 + kWh c) (by omega) (by omega), if_pos (by omega)]
      have hrw : rwW pl c = (qGet (kWh c) (pl.1 6)).getD (kWh c) := rfl
      cases hq : qGet (kWh c) (pl.1 6) with
      | none =>
        rw [hq] at hsg hrw
        have hsg : M5 729 (68 * p + 58 + kWh c) = -1 := hsg
        have hrw : rwW pl c = kWh c := hrw
        rw [if_pos hsg]
        rw [hrw] at fin
        rw [hrw]
        exact fin
      | some v =>
        have hv := hK.2.2.1 _ (qGet_mem hq)
        rw [hq] at hsg hrw
        have hsg : M5 729 (68 * p + 58 + kWh c) = v := hsg
        have hrw : rwW pl c = v := hrw
        rw [if_neg (by rw [hsg]; have : 0 ≤ v := hv.1; omega)]
        rw [hsg, hrw] at fin
        rw [hsg, hrw]
        exact fin
