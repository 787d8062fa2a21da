-- ==== a COMMIT is REWRITTEN, in the class: the whole
theorem plBest_cov (p : Int) : ∀ (ms : List (Int × Int)) (b : Option (Int × Int)) (x : Int × Int), plBest p b ms = some x → (∀ y, b = some y → pCov y.1 p = true) → pCov x.1 p = true
  | [], b, x, h, hb => by
    cases b with
    | none => cases h
    | some y => cases h; exact hb _ rfl
  | f :: r, none, x, h, hb => by
    rw [plBest] at h
    split at h
    · rename_i q
      exact plBest_cov p r _ x h (fun y e => by cases e; exact q)
    · exact plBest_cov p r _ x h (fun y e => by cases e)
  | f :: r, some b, x, h, hb => by
    rw [plBest] at h
    split at h
    · rename_i q
      split at h
      · exact plBest_cov p r _ x h (fun y e => by cases e; exact q)
      · exact plBest_cov p r _ x h hb
    · exact plBest_cov p r _ x h hb
theorem plPlace_W {pl : kP} {w : Int} (hw : plW pl) (hW : pW w) : plPlace w (pl.1 2) = -1 ∨ pW (plPlace w (pl.1 2)) := by
  unfold plPlace
  cases h : plBest w none (pl.1 2) with
  | none => exact Or.inr hW
  | some x =>
    have hc := plBest_cov w (pl.1 2) none x h (fun y e => by cases e)
    rcases plPlace_mem w (pl.1 2) none x h with z | z
    · cases z
    · obtain ⟨hf, ht⟩ := hw.2.2.1 x z
      have n1 := pNm_rng w
      have n2 := pNm_rng x.1
      have n3 := pNm_rng x.2
      show pMov w x.1 x.2 = -1 ∨ pW (pMov w x.1 x.2)
      by_cases q : 1 ≤ pNm w - pNm x.1 + pNm x.2 ∧ pNm w - pNm x.1 + pNm x.2 ≤ 6
      · exact Or.inr (pMov_W hW hf ht hc (by omega) (by omega)).1
      · exact Or.inl (by unfold pMov; rw [if_pos (by omega)])
theorem rCt_gd {pl : kP} (hw : plW pl) : ∀ (fs : List gF) (tk ls : Int) (acc : List gF), tW fs → tGd acc → tGd (rCt pl fs tk ls acc).2.2 ∧ (rCt pl fs tk ls acc).2.2.length ≤ acc.length + fs.length
  | [], tk, ls, acc, _, h => ⟨h, Nat.le_refl _⟩
  | f :: r, tk, ls, acc, hW, h => by
    have hf := hW f List.mem_cons_self
    have hr : tW r := fun x hx => hW x (List.mem_cons_of_mem _ hx)
    rw [List.length_cons]
    unfold rCt
    split
    · split
      · obtain ⟨a, b⟩ := rCt_gd hw r (tk + 1) (ls + 1) acc hr h
        exact ⟨a, by omega⟩
      · rename_i q
        have hno := tTaken_no (w := plPlace f.1 (pl.1 2)) (fs := acc) (by
          cases hz : tTaken (plPlace f.1 (pl.1 2)) acc with
          | false => rfl
          | true => exact absurd (Or.inr hz) q)
        have hp : pW (plPlace f.1 (pl.1 2)) := by
          rcases plPlace_W hw hf.1 with z | z
          · exact absurd (Or.inl (by omega)) q
          · exact z
        have hA := tGd_put h hp (swp_rng hw hf.2) (fun g hg w => by rw [(hno g hg).1] at w; cases w) (fun g hg w => by rw [(hno g hg).2] at w; cases w)
        obtain ⟨a, b⟩ := rCt_gd hw r (tk + 1) ls _ hr hA
        have hpl := tPut_len (plPlace f.1 (pl.1 2)) ((qGet f.2 (pl.1 3)).getD f.2) acc
        exact ⟨a, by omega⟩
    · obtain ⟨a, b⟩ := rCt_gd hw r tk ls acc hr h
      exact ⟨a, by omega⟩
def byL (l : List Int) : Prop := ∀ b ∈ l, 0 ≤ b ∧ b < 128
theorem byt_app {a b : List Int} (ha : byL a) (hb : byL b) : byL (a ++ b) := fun x hx => by
  rcases List.mem_append.mp hx with z | z
  · exact ha x z
  · exact hb x z
theorem byt_cons {c : Int} {b : List Int} (ha : 0 ≤ c ∧ c < 128) (hb : byL b) : byL (c :: b) := fun x hx => by
  rcases List.mem_cons.mp hx with z | z
  · rw [z]; exact ha
  · exact hb x z
theorem byt_nil : byL [] := fun x hx => by cases hx
theorem byt_rT {lo hi : Int} (s : List Int) (h : byL s) : byL (rT lo hi s) ∧ byL (rR lo hi s) := by
  have e := rT_app lo hi s
  exact ⟨fun x hx => h x (by rw [← e]; exact List.mem_append_left _ hx), fun x hx => h x (by rw [← e]; exact List.mem_append_right _ hx)⟩
theorem byt_get {o : Option (List Int)} {l : List Int} (h : ∀ x, o = some x → byL x) (hl : byL l) : byL (o.getD l) := by
  cases o with
  | none => exact hl
  | some x => exact h x rfl
theorem mgGo_byt {mn wd : List Int → Option (List Int)} (hm : ∀ D l, mn D = some l → byL l) (hw : ∀ D l, wd D = some l → byL l) : ∀ (f : Nat) (s : List Int), byL s → byL (mgGo mn wd f s)
  | 0, _, _ => byt_nil
  | _ + 1, [], _ => byt_nil
  | f + 1, c :: r, h => by
    have hc := h c List.mem_cons_self
    have hr : byL r := fun x hx => h x (List.mem_cons_of_mem _ hx)
    unfold mgGo
    split
    · obtain ⟨a, b⟩ := byt_rT (lo := 48) (hi := 57) r hr
      exact byt_cons (by decide) (byt_app (byt_get (hm _) a) (mgGo_byt hm hw f _ b))
    · split
      · obtain ⟨a, b⟩ := byt_rT (lo := 97) (hi := 122) r hr
        exact byt_app (byt_get (hw _) (byt_cons hc a)) (mgGo_byt hm hw f _ b)
      · exact byt_cons hc (mgGo_byt hm hw f r hr)
theorem dgS_byt (x : Int) : ∀ n, byL (dgS x n)
  | 0 => byt_nil
  | n + 1 => byt_cons (by have := dgB_rng n x; omega) (dgS_byt x n)
theorem wBits_byt (v : Int) : ∀ n, byL (wBits v n)
  | 0 => byt_nil
  | n + 1 => by
    unfold wBits
    split
    · exact wBits_byt v n
    · exact byt_cons (by omega) (wBits_byt v n)
theorem mgM_byt (el : Nat → Bool) (im : Int → Int) (D l : List Int) (h : mgM el im D = some l) : byL l := by
  unfold mgM at h
  split at h
  · cases h
    unfold mntS
    split
    · exact byt_cons (by decide) byt_nil
    · exact dgS_byt _ _
  · cases h
theorem mgW_byt (pl : kP) (D l : List Int) (h : mgW pl D = some l) : byL l := by
  unfold mgW at h
  split at h
  · cases hq : qGet (cdF 0 D) (pl.1 4) with
    | none => rw [hq] at h; cases h
    | some v => rw [hq] at h; cases h; exact wBits_byt v 4
  · cases h
def fUp (f : Int → Int) (k v : Int) : Int → Int := fun q => if q = k then v else f q
/-- the class in the midst of a RUN -/
def rwS (sh : gS) (M0 : gM) (n0 : Nat) (el : Nat → Nat → Bool) (S : Nat → Bool) (cs : List kC) (im fa : Int → Int) (M : gM) : Prop :=
  gOK sh M ∧ cOk sh M cs ∧ (∀ k : Nat, k < n0 → mIs M 389 (k : Int) (el k)) ∧ mIs M 392 0 S ∧ (∀ q : Int, 0 ≤ q → q < 120 → M 395 q = im q ∧ M 396 q = fa q) ∧ ∀ b : Int, b < 3 ∨ 398 < b → M b = M0 b
/-- what a PLAN and the COMMITS must be for it -/
def rwH (n0 : Nat) (el : Nat → Nat → Bool) (pl : kP) (cs : List kC) (im : Int → Int) : Prop :=
  kGd cs ∧ kForeOk cs pl ∧ plW pl ∧ (∀ x ∈ pl.1 6, 0 ≤ x.2 ∧ x.2 ≤ 9) ∧ (∀ x ∈ pl.1 4, 0 ≤ x.2 ∧ x.2 < 2147483648) ∧ (∀ q : Int, 0 ≤ q → q < 120 → -1 ≤ im q ∧ im q < (cs.length : Int)) ∧ n0 ≤ cs.length ∧ (∀ k : Nat, k < n0 → ∀ j : Nat, el k j = true → j < k) ∧ cs.length ≤ 120
theorem rwD_dIs {n0 : Nat} {el : Nat → Nat → Bool} {pl : kP} {cs : List kC} {im : Int → Int} {k : Nat} {c : kC} (H : rwH n0 el pl cs im) (hk : cs[k]? = some c) : kWf (cs.length : Int) (dAdds (rwD cs el pl im k c) (mgGo (mgM (el k) im) (mgW pl) (kMs c).length (kMs c))) ∧ tGd (kFs (rwD cs el pl im k c)) ∧ (∀ p ∈ kPs (rwD cs el pl im k c), 0 ≤ p ∧ p < (cs.length : Int)) := by
  obtain ⟨hG, hF, hw, h6, h4, him, -, -, h120⟩ := H
  obtain ⟨⟨w1, w2, w3, w4, w5, w6, w7⟩, tw, ts⟩ := hG.1 k c hk
  have hl : k < cs.length := (List.getElem?_eq_some_iff.mp hk).1
  have hl9 : kMs (rwD cs el pl im k c) = [] := by
    have := (rGa_is im (kForeL c pl (k : Int)) ([], (rCt pl (kFs c) 0 0 []).2.2, [], rwW pl c, kHr c) []).1
    show (rwG pl im k c).1.2.2.1 = []
    unfold rwG
    rw [this]
  have hx : (rwG pl im k c).1.2 = ((rCt pl (kFs c) 0 0 []).2.2, [], rwW pl c, kHr c) := (rGa_is im (kForeL c pl (k : Int)) ([], (rCt pl (kFs c) 0 0 []).2.2, [], rwW pl c, kHr c) []).1
  have hfs : kFs (rwD cs el pl im k c) = (rCt pl (kFs c) 0 0 []).2.2 := by
    show (rwG pl im k c).1.2.1 = _
    rw [hx]
  obtain ⟨g1, g2⟩ := rCt_gd hw (kFs c) 0 0 [] tw tGd_nil
  have hps : ∀ p ∈ kPs (rwD cs el pl im k c), 0 ≤ p ∧ p < (cs.length : Int) := fun p hp => by
    have hp1 : p ∈ kPs (rwG pl im k c).1 := thAll_mem p hp
    rcases (rGa_is im (kForeL c pl (k : Int)) ([], (rCt pl (kFs c) 0 0 []).2.2, [], rwW pl c, kHr c) []).2.1 p hp1 with z | ⟨e, he, z1, z2⟩
    · cases z
    · have hfe := hF k c hk e he
      have := him e hfe.1 (by omega)
      omega
  have hpl : (kPs (rwD cs el pl im k c)).length ≤ 3 := by
    have h3 := (rGa_is im (kForeL c pl (k : Int)) ([], (rCt pl (kFs c) 0 0 []).2.2, [], rwW pl c, kHr c) []).2.2.2.2 (Nat.zero_le _)
    exact Nat.le_trans thAll_len h3
  have hmb := mgGo_byt (mgM_byt (el k) im) (mgW_byt pl) (kMs c).length (kMs c) w4
  rw [dAdds_is _ _ (by rw [hl9]; exact Nat.zero_le _), hl9, List.nil_append]
  refine ⟨⟨hpl, hps, ?_, fun b hb => hmb b (List.mem_of_mem_take hb), ?_, ?_, ?_⟩, by rw [hfs]; exact g1, hps⟩
  · show (List.take 24 _).length ≤ 24
    rw [List.length_take]; omega
  · show 0 ≤ (rwG pl im k c).1.2.2.2.1 ∧ (rwG pl im k c).1.2.2.2.1 ≤ 9
    rw [hx]
    show 0 ≤ (qGet (kWh c) (pl.1 6)).getD (kWh c) ∧ (qGet (kWh c) (pl.1 6)).getD (kWh c) ≤ 9
    cases hq : qGet (kWh c) (pl.1 6) with
    | none => exact w5
    | some v => exact h6 _ (qGet_mem hq)
  · show 0 ≤ (rwG pl im k c).1.2.2.2.2 ∧ (rwG pl im k c).1.2.2.2.2 ≤ 999
    rw [hx]; exact w6
  · show (kFs (rwD cs el pl im k c)).length ≤ 16
    rw [hfs]
    rw [List.length_nil] at g2
    omega
theorem dOk_tr {sh : gS} {M M1 : gM} {d : kC} {fs : List gF} (h : dOk sh M 380 d) (hT : tOk sh M1 382 32 fs) (e : ∀ b : Int, b = 380 ∨ b = 381 ∨ (384 < b ∧ b < 389) → M1 b = M b) : dOk sh M1 380 (dFs d fs) := by
  obtain ⟨s0, d1, d2, d3, d4, d5, d6, d7, d8, d9⟩ := h
  exact ⟨s0, by rw [e 380 (by omega)]; exact d1, d2, by rw [e (380 + 1) (by omega)]; exact d3, hT, by rw [e 380 (by omega)]; exact d5, d6, by rw [e (380 + 5) (by omega)]; exact d7, by rw [e 380 (by omega)]; exact d8, by rw [e 380 (by omega)]; exact d9⟩
theorem dSh380 {sh : gS} {M : gM} (h : gOK sh M) : dSh sh 380 := ⟨sh_380 h, sh_381 h, ⟨sh_382 h, sh_383 h, sh_384 h, by decide⟩, sh_385 h, ⟨sh_386 h, sh_387 h, sh_388 h, by decide⟩, by decide, by decide⟩
theorem fUp_same (f : Int → Int) (k v : Int) : fUp f k v k = v := if_pos rfl
/-- what is written of one COMMIT -/
theorem rwS_put {sh : gS} {M0 M M1 : gM} {n0 : Nat} {el : Nat → Nat → Bool} {S : Nat → Bool} {cs cs2 : List kC} {im fa : Int → Int} {k f v : Int} (h : rwS sh M0 n0 el S cs im fa M) (hO : gOK sh M1) (hC : cOk sh M1 cs2) (e : ∀ b : Int, b < 3 ∨ (388 < b ∧ b < 397) ∨ 398 < b → M1 b = M b) : rwS sh M0 n0 el S cs2 (fUp im k v) (fUp fa k f) (gU (gU M1 396 k f) 395 k v) := by
  obtain ⟨h1, h2, h3, h4, h5, h6⟩ := h
  have o : ∀ b : Int, b ≠ 395 → b ≠ 396 → gU (gU M1 396 k f) 395 k v b = M1 b := fun b b0 b1 => by rw [gU_cell _ _ _ b0, gU_cell _ _ _ b1]
  refine ⟨gOK_i (gOK_i hO (sh_396 hO)) (sh_395 hO), cOk_fr hC (fun b b0 b1 => o b (by omega) (by omega)), fun q hq j hj => ?_, fun j hj => ?_, fun q q0 q1 => ?_, fun b hb => by rw [o b (by omega) (by omega), e b (by omega)]; exact h6 b hb⟩
  · rw [mB_row (M := M) ⟨by rw [o _ (by decide) (by decide), e _ (by decide)], by rw [o _ (by decide) (by decide), e _ (by decide)]⟩]
    exact h3 q hq j hj
  · rw [mB_row (M := M) ⟨by rw [o _ (by decide) (by decide), e _ (by decide)], by rw [o _ (by decide) (by decide), e _ (by decide)]⟩]
    exact h4 j hj
  · unfold fUp
    obtain ⟨a, b⟩ := h5 q q0 q1
    by_cases ek : q = k
    · rw [if_pos ek, if_pos ek, ek, gU_same, gU_cel (by decide), gU_same]; exact ⟨rfl, rfl⟩
    · rw [if_neg ek, if_neg ek, gU_idx ek, gU_cel (by decide), gU_cel (by decide), gU_idx ek, e 395 (by decide), e 396 (by decide)]; exact ⟨a, b⟩
def rwR (sh : gS) (M0 : gM) (n0 : Nat) (el : Nat → Nat → Bool) (S : Nat → Bool) (cs : List kC) (im fa : Int → Int) (k : Int) (y : Option (Int × Int × List kC)) : Option gV → gM → Prop := fun r M1 => match y with
  | none => r = some (0, 0) ∧ gOK sh M1 ∧ cOk sh M1 cs ∧ ∀ b : Int, b < 3 ∨ 398 < b → M1 b = M0 b
  | some x => r = some (0, 1) ∧ rwS sh M0 n0 el S x.2.2 (fUp im k x.2.1) (fUp fa k x.1) M1
theorem sp_X8_rewrite {sh : gS} {M0 M : gM} {a : Int} {n0 : Nat} {el : Nat → Nat → Bool} {S : Nat → Bool} {cs : List kC} {pl : kP} {im fa : Int → Int} {k : Nat} {c : kC} (h : rwS sh M0 n0 el S cs im fa M) (H : rwH n0 el pl cs im) (hP : plOk sh M a pl) (ha : 398 < a) (hk : cs[k]? = some c) (hkn : k < n0) :
    gC (gr 4 137) yX8_rewrite cX8_rewrite 6 (some (.boolean)) [(4, 3), (4, a), (0, (k : Int))] sh M (gPm sh (rwR sh M0 n0 el S cs im fa (k : Int) (aRw cs el pl im k c))) := by
  obtain ⟨hOK, hC, hE, hS, hI, hfr⟩ := id h
  obtain ⟨hG, hF, hw, h6, h4, him, hn0, hel, h120⟩ := id H
  have hl := cOk_len hC hk
  have hlt := hP.1.2.2.2.2.2.2.2.2.2.2
  obtain ⟨⟨-, -, -, -, r5, r6⟩, wf, -⟩ := hC.2.2.2 k c hk
  have hq6 := hP.2.2.1
  refine w_X8_rewrite hOK ⟨⟨hP.1.1, by omega⟩, ⟨by omega, by omega⟩, ⟨hq6.1.1, by omega⟩, ?_⟩
  rw [r5, r6]
  refine ⟨_, sp_X4_exchanged hOK hq6, _, sp_X2_begin hOK (dSh380 hOK), fun r1 M1 hP1 => ?_⟩
  obtain ⟨rfl, hD1, hO1, e1⟩ := hP1
  have hC1 : cOk sh M1 cs := cOk_fr hC (fun b b0 b1 => e1 b (by omega))
  have hct := (cT_rng hC1 hk).2.2
  have hcr := cT_rng hC1 hk
  have hPl1 : plOk sh M1 a pl := plOk_keep hP (fun b b0 _ => e1 b (by omega))
  have hu : (3 : Int) < cT M1 (k : Int) ∧ cT M1 (k : Int) + 2 < 380 := by unfold cT; omega
  refine ⟨rfl, hO1, _, sp_X1_tree hO1 hC1 hk, _, sp_X8_carryTree hO1 hPl1 (plW_rng hw) hct wf.2.2.2.2.2.2 (fun f hf => by have := (hG.1 k c hk).2.1 f hf; omega) (by omega) hu, fun r2 M2 hP2 => ?_⟩
  obtain ⟨rfl, c1, c2, c3, hO2, e2⟩ := hP2
  have hD2 : dOk sh M2 380 ([], (rCt pl (kFs c) 0 0 []).2.2, [], rwW pl c, kHr c) := dOk_tr hD1 c1 (fun b hb => e2 b (by omega) (by omega) (by omega) (by omega))
  have hC2 : cOk sh M2 cs := cOk_fr hC1 (fun b b0 b1 => e2 b (by omega) (by omega) (by omega) (by omega))
  have hPl2 : plOk sh M2 a pl := plOk_keep hPl1 (fun b b0 _ => e2 b (by omega) (by omega) (by omega) (by omega))
  refine ⟨rfl, hO2, _, sp_X8_gatherParents (im := im) hO2 hC2 hk hPl2 hF hD2 rfl (fun q q0 q1 => by rw [e2 395 (by decide) (by decide) (by decide) (by decide), e1 395 (by decide)]; exact (hI q q0 q1).1) (fun q q0 q1 => by have := him q q0 q1; omega) (by omega), fun r3 M3 hP3 => ?_⟩
  obtain ⟨rfl, hD3, hca, hcl, hO3, e3⟩ := hP3
  have hG3 : rwG pl im k c = rGa im (kForeL c pl (k : Int)) ([], (rCt pl (kFs c) 0 0 []).2.2, [], rwW pl c, kHr c) [] := rfl
  rw [← hG3] at hD3 hca hcl
  have hC3 : cOk sh M3 cs := cOk_fr hC2 (fun b b0 b1 => e3 b (by omega) (by omega))
  have hPl3 : plOk sh M3 a pl := plOk_keep hPl2 (fun b b0 _ => e3 b (by omega) (by omega))
  have e12 : M3 a 12 = pl.2.1 12 := hPl3.2.2.2.1 12 (by decide)
  have hps3 : ∀ p ∈ kPs (rwG pl im k c).1, 0 ≤ p ∧ p < (cs.length : Int) := fun p hp => by
    rcases (rGa_is im (kForeL c pl (k : Int)) ([], (rCt pl (kFs c) 0 0 []).2.2, [], rwW pl c, kHr c) []).2.1 p hp with z | ⟨e, he, z1, z2⟩
    · cases z
    · have hfe := hF k c hk e he
      have := him e hfe.1 (by omega)
      omega
  have hcs3 : ∀ p ∈ (rwG pl im k c).2, 0 ≤ p ∧ p < (k : Int) := fun p hp => by
    rcases (rGa_is im (kForeL c pl (k : Int)) ([], (rCt pl (kFs c) 0 0 []).2.2, [], rwW pl c, kHr c) []).2.2.1 p hp with z | z
    · cases z
    · exact hF k c hk p z
  have e0 : ∀ b : Int, 388 < b → b ≠ 397 → M3 b = M b := fun b b0 b1 => by rw [e3 b b1 (by omega), e2 b (by omega) (by omega) (by omega) (by omega), e1 b (by omega)]
  rw [e12]
  refine ⟨rfl, hO3, _, sp_X8_thinParents (el := el) hO3 hC3 hD3 hca hcl (fun x hx j hj => by
    have hx3 := hcs3 x hx
    rw [mB_row (M := M) ⟨by rw [e0 _ (by decide) (by decide)], by rw [e0 _ (by decide) (by decide)]⟩]
    have := hE x.toNat (by omega) j hj
    rwa [show ((x.toNat : Nat) : Int) = x by omega] at this) hps3 (fun p hp => by have := hcs3 p hp; omega), fun r4 M4 hP4 => ?_⟩
  obtain ⟨rfl, hD4, hO4, e4⟩ := hP4
  have hD4 : dOk sh M4 380 (rwD cs el pl im k c) := hD4
  have hC4 : cOk sh M4 cs := cOk_fr hC3 (fun b b0 b1 => e4 b (by omega) (by omega))
  have hPl4 : plOk sh M4 a pl := plOk_keep hPl3 (fun b b0 _ => e4 b (by omega) (by omega))
  have e13 : M4 a 13 = pl.2.1 13 := hPl4.2.2.2.1 13 (by decide)
  obtain ⟨D1, D2, D3⟩ := rwD_dIs H hk
  have e5 : ∀ b : Int, b < 3 ∨ (388 < b ∧ b < 397) ∨ 398 < b → M4 b = M b := fun b hb => by rw [e4 b (by omega) (by omega), e3 b (by omega) (by omega), e2 b (by omega) (by omega) (by omega) (by omega), e1 b (by omega)]
  refine ⟨rfl, hO4, ?_⟩
  rw [e13]
  unfold aRw
  have hEd : rwE cs el pl im k c = (decide (0 < pl.2.1 13) && rBn cs (rwD cs el pl im k c) && (decide (pl.2.1 13 = 2) || !rEb cs pl k c)) := rfl
  have hdm : kMs (rwD cs el pl im k c) = [] := by
    have := (rGa_is im (kForeL c pl (k : Int)) ([], (rCt pl (kFs c) 0 0 []).2.2, [], rwW pl c, kHr c) []).1
    show (rwG pl im k c).1.2.2.1 = []
    unfold rwG
    rw [this]
  generalize rwD cs el pl im k c = d at *
  generalize rwE cs el pl im k c = ee at hEd ⊢
  -- EMPTY or SKIPPED
  have done : ∀ (f x3 s0 : Int), (ee || rSk pl c d) = true → f = (if ee = true then 1 else 2) → P_X8_rewrite_128 sh (gPm sh (rwR sh M0 n0 el S cs im fa (k : Int) (if (ee || rSk pl c d) = true then some (if ee = true then 1 else 2, ((kPs d).head?).getD (-1), cs)
      else if (kSet cs (dAdds d (mgGo (mgM (el k) im) (mgW pl) (kMs c).length (kMs c)))).1 < 0 then none
      else some (0, kSet cs (dAdds d (mgGo (mgM (el k) im) (mgW pl) (kMs c).length (kMs c))))))) a (k : Int) x3 s0 (k : Int) f M4 := fun f x3 s0 hz hf => by
    rw [if_pos hz, ← hf]
    refine w_X8_rewrite_128 hO4 ⟨⟨by omega, by omega⟩, ?_⟩
    rw [gU_cell (b := 380) _ _ _ (by decide), gU_cell (b := 381) _ _ _ (by decide), hD4.2.1]
    cases hpd : kPs d with
    | nil =>
      rw [if_pos (show (([] : List Int).length : Int) = 0 from rfl)]
      exact ⟨⟨by omega, by omega⟩, rfl, rfl, rwS_put h hO4 hC4 e5⟩
    | cons p r =>
      have ep := (rw_cons (by have := hD4.2.2.2.1; rw [hpd] at this; exact this)).1
      rw [show (380 : Int) + 1 = 381 from rfl] at ep
      rw [if_neg (show ¬ (((p :: r).length : Nat) : Int) = 0 by rw [List.length_cons]; omega), ep]
      exact ⟨⟨by omega, by omega⟩, rfl, rfl, rwS_put h hO4 hC4 e5⟩
  -- what follows
  have go : ∀ x3 : Int, P_X8_rewrite_97 sh (gPm sh (rwR sh M0 n0 el S cs im fa (k : Int) (if (ee || rSk pl c d) = true then some (if ee = true then 1 else 2, ((kPs d).head?).getD (-1), cs)
      else if (kSet cs (dAdds d (mgGo (mgM (el k) im) (mgW pl) (kMs c).length (kMs c)))).1 < 0 then none
      else some (0, kSet cs (dAdds d (mgGo (mgM (el k) im) (mgW pl) (kMs c).length (kMs c))))))) a (k : Int) x3 (bI ee) M4 := fun x3 => by
    refine w_X8_rewrite_97 hO4 ?_
    cases hz : ee with
    | true =>
      subst hz
      rw [if_neg bIt, if_neg bIt]
      exact done 1 x3 _ rfl rfl
    | false =>
      subst hz
      rw [if_pos bIf]
      refine ⟨_, sp_X8_isSkipped hO4 hC4 hPl4 hk hD4, ?_⟩
      cases hsk : rSk pl c d with
      | true =>
        rw [if_neg bIt, if_pos bIf]
        rw [hsk] at done
        exact done 2 x3 _ rfl rfl
      | false =>
        rw [if_pos bIf, if_neg (show ¬ (false || false) = true by decide)]
        have hms := msgAt_C hC4 hk
        refine ⟨_, sp_X8_carryMessage (el := el k) (im := im) hO4 hPl4 hms hD4 (fun j hj => by
          rw [mB_row (M := M) ⟨by rw [e5 _ (by decide)], by rw [e5 _ (by decide)]⟩]; exact hE k hkn j hj) (fun j hj => by have := hel k hkn j hj; omega) (fun q q0 q1 => by rw [e5 395 (by decide)]; exact (hI q q0 q1).1) (fun j hj => by have h1 := hel k hkn j hj; have := him (j : Int) (by omega) (by omega); omega) h4 (by omega), fun r5 M5 hP5 => ?_⟩
        obtain ⟨rfl, hD5, hO5, e6⟩ := hP5
        have hC5 : cOk sh M5 cs := cOk_fr hC4 (fun b b0 b1 => e6 b (by omega))
        refine ⟨rfl, hO5, _, sp_X1_settle hO5 hC5 hD5 (fun _ => D1), fun r6 M6 hP6 => ?_⟩
        obtain ⟨rfl, hO6, hC6, e7⟩ := hP6
        refine ⟨_, rfl, hO6, ?_⟩
        generalize hy : kSet cs (dAdds d (mgGo (mgM (el k) im) (mgW pl) (kMs c).length (kMs c))) = y at hC6 ⊢
        by_cases q : y.1 < 0
        · rw [if_pos q, if_pos q]
          have hy2 : y.2 = cs := by
            rw [← hy] at q ⊢
            unfold kSet at q ⊢
            split
            · rfl
            · rename_i q1
              rw [if_neg q1] at q
              split
              · rfl
              · rename_i q2
                rw [if_neg q2] at q
                have q' : (cs.length : Int) < 0 := q
                omega
          rw [hy2] at hC6
          exact ⟨rfl, rfl, hO6, hC6, fun b hb => by rw [e7 b (by omega), e6 b (by omega), e5 b (by omega)]; exact hfr b hb⟩
        · rw [if_neg q, if_neg q]
          exact ⟨⟨by omega, by omega⟩, rfl, rfl, rwS_put h hO6 hC6 (fun b hb => by rw [e7 b (by omega), e6 b (by omega), e5 b hb])⟩
  by_cases q0 : 0 < pl.2.1 13
  · rw [if_pos q0]
    rw [decide_eq_true q0, Bool.true_and] at hEd
    refine ⟨_, sp_X8_bringsNothing hO4 hC4 hD4 D3, ?_⟩
    cases hb : rBn cs d with
    | false =>
      rw [hb, Bool.false_and] at hEd
      rw [hEd] at go
      rw [hEd, if_pos bIf]; exact go _
    | true =>
      rw [hb, Bool.true_and] at hEd
      rw [if_neg bIt]
      by_cases q2 : pl.2.1 13 = 2
      · rw [decide_eq_true q2, Bool.true_or] at hEd
        rw [hEd] at go
        rw [hEd, if_pos q2]; exact go _
      · rw [decide_eq_false q2, Bool.false_or] at hEd
        rw [if_neg q2]
        refine ⟨_, sp_X8_isEmptyByItself hO4 hC4 hPl4 hF hk, ?_⟩
        cases hr : rEb cs pl k c with
        | false =>
          rw [hr] at hEd
          have hEd : ee = true := hEd
          rw [hEd] at go
          rw [hEd, if_pos bIf]; exact go _
        | true =>
          rw [hr] at hEd
          have hEd : ee = false := hEd
          rw [hEd] at go
          rw [hEd, if_neg bIt]; exact go _
  · rw [if_neg q0]
    rw [decide_eq_false q0, Bool.false_and, Bool.false_and] at hEd
    rw [hEd] at go
    rw [hEd]; exact go _
