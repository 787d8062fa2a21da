-- ==== sound: what is counted
def sumN (f : Nat → Int) : Nat → Int
  | 0 => 0
  | n + 1 => sumN f n + f n
theorem sumN_congr {f g : Nat → Int} : ∀ n : Nat, (∀ k, k < n → f k = g k) → sumN f n = sumN g n
  | 0, _ => rfl
  | n + 1, h => by rw [sumN, sumN, sumN_congr n (fun k hk => h k (by omega)), h n (by omega)]
theorem sumN_rng {f : Nat → Int} {b : Int} (hb : 0 ≤ b) : ∀ n : Nat, (∀ k, k < n → 0 ≤ f k ∧ f k ≤ b) → 0 ≤ sumN f n ∧ sumN f n ≤ b * (n : Int)
  | 0, _ => ⟨Int.le_refl _, by show (0 : Int) ≤ b * 0; omega⟩
  | n + 1, h => by
    have ih := sumN_rng hb n (fun k hk => h k (by omega))
    have := h n (by omega)
    rw [sumN, show b * ((n + 1 : Nat) : Int) = b * (n : Int) + b by rw [Int.natCast_add, Int.mul_add]; simp]
    omega
theorem cnt_sum (f : Nat → Bool) : ∀ n : Nat, cnt f n = sumN (fun k => bI (f k)) n
  | 0 => rfl
  | n + 1 => by rw [sumN, ← cnt_sum f n]; rfl
theorem sumN_add (f g : Nat → Int) : ∀ n : Nat, sumN (fun k => f k + g k) n = sumN f n + sumN g n
  | 0 => rfl
  | n + 1 => by rw [sumN, sumN, sumN, sumN_add f g n]; omega
/-- all ordered pairs of unlike ones, by the greater one -/
theorem sum_pairs (G : Nat → Nat → Bool) (hG : ∀ a, G a a = false) : ∀ n : Nat, sumN (fun a => cnt (G a) n) n = sumN (fun k => cnt (fun j => G k j) k + cnt (fun j => G j k) k) n
  | 0 => rfl
  | n + 1 => by
    have ih := sum_pairs G hG n
    rw [sumN, sumN, ← ih, cnt_F (hG n)]
    have : sumN (fun a => cnt (G a) (n + 1)) n = sumN (fun a => cnt (G a) n) n + cnt (fun j => G j n) n := by
      rw [cnt_sum (fun j => G j n) n, ← sumN_add]
      exact sumN_congr n (fun k _ => rfl)
    rw [this, show (fun j => G n j) = G n from rfl]
    omega
/-- KEPT COMMITS of a PLAN -/
def kpB (S : Nat → Bool) (pl : kP) (k : Nat) : Bool := S k && decide (pl.2.2.2 (k : Int) = 0)
def imN (pl : kP) (k : Nat) : Nat := (pl.2.2.1 (k : Int)).toNat
def flB (cs : List kC) (pl : kP) (w : Int) (k j : Nat) : Bool := if w = 2 then decide (pl.2.2.1 (j : Int) = pl.2.2.1 (k : Int)) else if w = 0 then kEld cs pl k j && !kAnc cs (imN pl k) (imN pl j) else !kEld cs pl k j && (kAnc cs (imN pl k) (imN pl j) || kAnc cs (imN pl j) (imN pl k))
def flC (cs : List kC) (S : Nat → Bool) (pl : kP) (w : Int) (k : Nat) : Int := cnt (fun j => kpB S pl j && flB cs pl w k j) k
def flV (cs : List kC) (S : Nat → Bool) (pl : kP) (w : Int) (k : Nat) : Int :=
  if w = 3 then (rCt pl (fFs cs k) 0 0 []).2.1 else if w = 4 then bI (decide (2 ≤ (fFo cs pl k).length) && decide ((fPs cs (imN pl k)).length < 2)) else if w = 2 then (if 1 < flC cs S pl w k then 1 else flC cs S pl w k) else flC cs S pl w k
def sdF (cs : List kC) (S : Nat → Bool) (pl : kP) (w : Int) (k : Nat) : Int := if S k = true then (if w = 5 then (if 0 ≤ pl.2.2.2 (k : Int) then 0 else 1) else if pl.2.2.2 (k : Int) = 0 then flV cs S pl w k else 0) else 0
def aSound (z : aS) (p w : Int) : Int := if (0 ≤ p ∧ p ≤ 3) ∧ (0 ≤ w ∧ w ≤ 5) then (if (aPl z p).2.1 0 = 0 then -3 else sumN (sdF (aCs z) (eMark (aCs z) (aPl z p) (aRs z ((aPl z p).2.1 2))) (aPl z p) w) (aCs z).length) else -1
theorem flC_rng (cs : List kC) (S : Nat → Bool) (pl : kP) (w : Int) (k : Nat) : 0 ≤ flC cs S pl w k ∧ flC cs S pl w k ≤ (k : Int) := cnt_rng _ k
theorem rCt_ls (pl : kP) : ∀ (fs : List gF) (tk ls : Int) (acc : List gF), ls ≤ (rCt pl fs tk ls acc).2.1 ∧ (rCt pl fs tk ls acc).2.1 ≤ ls + (fs.length : Int)
  | [], _, ls, _ => ⟨Int.le_refl _, by show ls ≤ ls + 0; omega⟩
  | f :: r, tk, ls, acc => by
    rw [rCt, List.length_cons]
    split
    · split
      · have := rCt_ls pl r (tk + 1) (ls + 1) acc; omega
      · have := rCt_ls pl r (tk + 1) ls (tPut (plPlace f.1 (pl.1 2)) ((qGet f.2 (pl.1 3)).getD f.2) acc); omega
    · have := rCt_ls pl r tk ls acc; omega
theorem sdF_rng {cs : List kC} (hO : kOk cs) (S : Nat → Bool) (pl : kP) (w : Int) (k : Nat) (hk : k < 120) : 0 ≤ sdF cs S pl w k ∧ sdF cs S pl w k ≤ 120 := by
  have h1 := flC_rng cs S pl w k
  have h2 := rCt_ls pl (fFs cs k) 0 0 []
  have h3 : (fFs cs k).length ≤ 16 := by
    unfold fFs
    split
    · rename_i c hc; exact (hO k c hc).1.2.2.2.2.2.2
    · exact Nat.zero_le _
  have h4 := bI_01 (decide (2 ≤ (fFo cs pl k).length) && decide ((fPs cs (imN pl k)).length < 2))
  unfold sdF flV
  split
  · split
    · split <;> omega
    · split
      · split
        · omega
        · split
          · omega
          · split
            · split <;> omega
            · omega
      · omega
  · omega
-- ---- the class
theorem sp_X11_isFlawed {sh : gS} {M : gM} {cs : List kC} {a w : Int} {pl : kP} {j k : Nat} (hOK : gOK sh M) (hC : cOk sh M cs) (hO : kOk cs) (hP : plOk sh M a pl) (hE : ∀ k : Nat, k < cs.length → mIs M 389 (k : Int) (kEld cs pl k)) (hj : j < k) (hk : k < cs.length) (ij : 0 ≤ pl.2.2.1 (j : Int) ∧ pl.2.2.1 (j : Int) < (cs.length : Int)) (ik : 0 ≤ pl.2.2.1 (k : Int) ∧ pl.2.2.1 (k : Int) < (cs.length : Int)) (hw : w = 0 ∨ w = 1 ∨ w = 2) :
    gC (gr 2 44) yX11_isFlawed cX11_isFlawed 7 (some (.boolean)) [(4, 0), (4, a), (0, (j : Int)), (0, (k : Int)), (0, w)] sh M (gPp sh M (0, bI (flB cs pl w k j))) := by
  have hl9 := hC.2.1
  obtain ⟨hSh, -, -, -, hT⟩ := id hP
  obtain ⟨s0, -, -, -, -, -, -, -, s8, s9, -⟩ := hSh
  have ej := (hT (j : Int) (by omega) (by omega)).1
  have ek := (hT (k : Int) (by omega) (by omega)).1
  refine w_X11_isFlawed hOK ⟨⟨s0, by have := hP.1.2.2.2.2.2.2.2.2.2.2; omega⟩, 120, s8, ⟨by omega, by omega⟩, ⟨by omega, by omega⟩, ?_⟩
  rw [ej, ek]
  have nj : pl.2.2.1 (j : Int) = ((imN pl j : Nat) : Int) := by unfold imN; omega
  have nk : pl.2.2.1 (k : Int) = ((imN pl k : Nat) : Int) := by unfold imN; omega
  unfold flB
  by_cases w2 : w = 2
  · rw [if_pos w2, if_pos w2]
    by_cases e : pl.2.2.1 (j : Int) = pl.2.2.1 (k : Int)
    · rw [if_pos e, decide_eq_true e]; exact ⟨rfl, rfl, rfl⟩
    · rw [if_neg e, decide_eq_false e]; exact ⟨rfl, rfl, rfl⟩
  · rw [if_neg w2, if_neg w2]
    have a1 : ∀ x y : Nat, x < cs.length → y < cs.length → gC (gr 1 22) yX1_isAbove cX1_isAbove 3 (some (.boolean)) [(4, 4), (0, (x : Int)), (0, (y : Int))] sh M (gPp sh M (0, bI (kAnc cs y x))) := fun x y hx hy => sp_X1_isAbove hOK hC (List.getElem?_eq_getElem hy) (by omega)
    have lj : imN pl j < cs.length := by omega
    have lk : imN pl k < cs.length := by omega
    rw [nj, nk]
    refine ⟨_, sp_X3_has hOK (mSh389 hOK) (by omega), ?_⟩
    rw [mHas_of (hE k hk) j (by omega)]
    cases he : kEld cs pl k j with
    | false =>
      rw [if_pos bIf]
      by_cases w1 : w = 1
      · rw [if_pos w1, if_neg (show ¬ w = 0 by omega)]
        refine ⟨_, a1 _ _ lj lk, ?_⟩
        cases kAnc cs (imN pl k) (imN pl j) with
        | true => rw [if_neg bIt]; exact ⟨rfl, rfl, rfl⟩
        | false =>
          rw [if_pos bIf]
          refine ⟨_, a1 _ _ lk lj, ?_⟩
          cases kAnc cs (imN pl j) (imN pl k) with
          | true => rw [if_neg bIt]; exact ⟨rfl, rfl, rfl⟩
          | false => rw [if_pos bIf]; exact ⟨rfl, rfl, rfl⟩
      · rw [if_neg w1, if_pos (show w = 0 by omega)]; exact ⟨rfl, rfl, rfl⟩
    | true =>
      rw [if_neg bIt]
      by_cases w0 : w = 0
      · rw [if_pos w0, if_pos w0]
        refine ⟨_, a1 _ _ lj lk, ?_⟩
        cases kAnc cs (imN pl k) (imN pl j) with
        | true => rw [if_neg bIt]; exact ⟨rfl, rfl, rfl⟩
        | false => rw [if_pos bIf]; exact ⟨rfl, rfl, rfl⟩
      · rw [if_neg w0, if_neg w0]; exact ⟨rfl, rfl, rfl⟩
/-- the state while `sound` counts -/
def sdS (sh : gS) (M : gM) (z : aS) (pl : kP) (S : Nat → Bool) (M1 : gM) : Prop := cS sh M1 z ∧ (∀ k : Nat, k < (aCs z).length → mIs M1 389 (k : Int) (kEld (aCs z) pl k)) ∧ mIs M1 392 0 S ∧ ∀ b : Int, (b = 475 ∨ b = 476 ∨ 710 < b) → M1 b = M b
theorem sp_X11_flawsOf {sh : gS} {M M0 : gM} {z : aS} {p w : Int} {S : Nat → Bool} {k : Nat} (hS : sdS sh M0 z (aPl z p) S M) (hG : kGd (aCs z)) (hp : 0 ≤ p ∧ p < 4) (h1 : (aPl z p).2.1 0 = 1) (hF : plFit (aCs z) (aPl z p)) (hk : k < (aCs z).length) (hk0 : (aPl z p).2.2.2 (k : Int) = 0) (hw : 0 ≤ w ∧ w < 5) :
    gC (gr 4 100) yX11_flawsOf cX11_flawsOf 6 (some (.int)) [(4, 0), (4, 519 + 48 * p), (0, (k : Int)), (0, w)] sh M (gPm sh (fun r M1 => r = some (0, flV (aCs z) S (aPl z p) w k) ∧ sdS sh M0 z (aPl z p) S M1)) := by
  obtain ⟨hz, hE, hSS, hf0⟩ := id hS
  obtain ⟨hOK, hC, -, -, hPl, -⟩ := id hz
  have hl9 := hC.2.1
  have hO := hG.1
  have hP := (hPl p hp.1 hp.2).1
  obtain ⟨b1, b2, b3, b4, b5, b6⟩ := hF h1
  have hc := List.getElem?_eq_getElem hk
  generalize (aCs z)[k] = c at hc
  obtain ⟨hSh, -, -, -, hT⟩ := id hP
  obtain ⟨s0, -, -, -, -, -, -, -, s8, s9, -⟩ := hSh
  have ek := (hT (k : Int) (by omega) (by omega)).1
  have ik := b6 (k : Int) (by omega) (by omega) (by omega)
  refine w_X11_flawsOf hOK ?_
  unfold flV
  by_cases w3 : w = 3
  · rw [if_pos w3, if_pos w3, fFs_at hc]
    obtain ⟨t0, t1, t2⟩ := cT_rng hC hc
    have hct : 20 ≤ cT M (k : Int) ∧ cT M (k : Int) + 2 < 380 := by unfold cT; omega
    refine ⟨_, sp_X1_tree hOK hC hc, _, sp_X8_carryTree hOK hP (plW_rng b3) t2 (hO k c hc).1.2.2.2.2.2.2 (fun f hf => by have := (hG.2 c (List.mem_of_getElem? hc)).2.2 f hf; omega) (by omega) (by omega), fun r1 M1 hP1 => ?_⟩
    obtain ⟨rfl, c1, c2, c3, c4, c5⟩ := hP1
    have z1 : cS sh M1 z := cS_keep hz c4 (fun b hb => c5 b (by omega) (by omega) (by omega) (by omega))
    refine ⟨rfl, c4, rfl, by rw [c3], z1, fun q hq => ?_, ?_, fun b hb => by rw [c5 b (by omega) (by omega) (by omega) (by omega)]; exact hf0 b hb⟩
    · intro i hi; rw [mB_row ⟨congrFun (c5 390 (by decide) (by decide) (by decide) (by decide)) _, congrFun (c5 391 (by decide) (by decide) (by decide) (by decide)) _⟩]; exact hE q hq i hi
    · intro i hi; rw [mB_row ⟨congrFun (c5 393 (by decide) (by decide) (by decide) (by decide)) _, congrFun (c5 394 (by decide) (by decide) (by decide) (by decide)) _⟩]; exact hSS i hi
  rw [if_neg w3, if_neg w3]
  by_cases w4 : w = 4
  · rw [if_pos w4, if_pos w4]
    refine ⟨⟨s0, by omega⟩, _, sp_X5_foreCount hOK hC hc hP, ?_⟩
    rw [fFo_at hc]
    by_cases q : ((kForeL c (aPl z p) (k : Int)).length : Int) < 2
    · rw [if_pos q, decide_eq_false (by omega)]; exact ⟨rfl, rfl, hS⟩
    · rw [if_neg q, decide_eq_true (by omega), Bool.true_and]
      refine ⟨120, s8, ⟨by omega, by omega⟩, ?_⟩
      rw [ek]
      have im0 := ik.2 hk0
      refine ⟨by omega, ?_⟩
      have hil : imN (aPl z p) k < (aCs z).length := by unfold imN; omega
      have hd := List.getElem?_eq_getElem hil
      generalize (aCs z)[imN (aPl z p) k] = d at hd
      have h5 := (hC.2.2.2 _ d hd).1.1
      rw [show ((imN (aPl z p) k : Nat) : Int) = (aPl z p).2.2.1 (k : Int) by unfold imN; omega] at h5
      rw [h5, show fPs (aCs z) (imN (aPl z p) k) = kPs d by unfold fPs; rw [hd]]
      by_cases y : (1 : Int) < ((kPs d).length : Int)
      · rw [if_pos y, decide_eq_false (by omega)]; exact ⟨rfl, rfl, hS⟩
      · rw [if_neg y, decide_eq_true (by omega)]; exact ⟨rfl, rfl, hS⟩
  rw [if_neg w4, if_neg w4]
  have lp : ∀ (n j : Nat), j + n = k → P_X11_flawsOf_77 sh (gPm sh (fun r M1 => r = some (0, if w = 2 then (if 1 < flC (aCs z) S (aPl z p) w k then 1 else flC (aCs z) S (aPl z p) w k) else flC (aCs z) S (aPl z p) w k) ∧ sdS sh M0 z (aPl z p) S M1)) (519 + 48 * p) (k : Int) w (cnt (fun j => kpB S (aPl z p) j && flB (aCs z) (aPl z p) w k j) j) (j : Int) M := by
    intro n
    induction n with
    | zero =>
      intro j hj
      have : j = k := by omega
      subst this
      refine w_X11_flawsOf_77 hOK ?_
      rw [if_neg (by omega)]
      show (if w = 2 then (if (1 : Int) < flC (aCs z) S (aPl z p) w j then _ else _) else _)
      by_cases w2 : w = 2
      · rw [if_pos w2, if_pos w2]
        by_cases y : (1 : Int) < flC (aCs z) S (aPl z p) w j
        · rw [if_pos y, if_pos y]; exact ⟨rfl, rfl, hS⟩
        · rw [if_neg y, if_neg y]; exact ⟨rfl, rfl, hS⟩
      · rw [if_neg w2, if_neg w2]; exact ⟨rfl, rfl, hS⟩
    | succ n ih =>
      intro j hj
      have ih1 := ih (j + 1) (by omega)
      have hr := cnt_rng (fun j => kpB S (aPl z p) j && flB (aCs z) (aPl z p) w k j) j
      refine w_X11_flawsOf_77 hOK ?_
      rw [if_pos (by omega)]
      refine ⟨_, sp_X8_isOfPlan hOK, ?_⟩
      rw [mHas_of hSS j (by omega)]
      simp (disch := omega) only [gw32_id]
      have no : (kpB S (aPl z p) j && flB (aCs z) (aPl z p) w k j) = false → P_X11_flawsOf_77 sh (gPm sh (fun r M1 => r = some (0, if w = 2 then (if 1 < flC (aCs z) S (aPl z p) w k then 1 else flC (aCs z) S (aPl z p) w k) else flC (aCs z) S (aPl z p) w k) ∧ sdS sh M0 z (aPl z p) S M1)) (519 + 48 * p) (k : Int) w (cnt (fun j => kpB S (aPl z p) j && flB (aCs z) (aPl z p) w k j) j) ((j : Int) + 1) M := fun hb => by
        rw [cnt_F (f := fun j => kpB S (aPl z p) j && flB (aCs z) (aPl z p) w k j) (n := j) hb] at ih1; exact ih1
      have hq : kpB S (aPl z p) j = (S j && decide ((aPl z p).2.2.2 (j : Int) = 0)) := rfl
      cases hs : S j with
      | false => rw [if_pos bIf]; exact no (by rw [hq, hs]; rfl)
      | true =>
        rw [if_neg bIt]
        refine ⟨⟨s0, by omega⟩, _, sp_X5_isKept hOK hP (by omega), ?_⟩
        by_cases j0 : (aPl z p).2.2.2 (j : Int) = 0
        · rw [if_pos j0, if_neg (by decide)]
          have ij := b6 (j : Int) (by omega) (by omega) (by omega)
          refine ⟨_, sp_X11_isFlawed hOK hC hO hP hE (by omega) hk ⟨ij.2 j0, ij.1.2⟩ ⟨ik.2 hk0, ik.1.2⟩ (by omega), ?_⟩
          cases hb : flB (aCs z) (aPl z p) w k j with
          | false => rw [if_pos bIf]; exact no (by rw [hb, Bool.and_false])
          | true =>
            rw [if_neg bIt]
            rw [cnt_T (f := fun j => kpB S (aPl z p) j && flB (aCs z) (aPl z p) w k j) (n := j) (by show (kpB S (aPl z p) j && _) = true; rw [hq, hs, decide_eq_true j0, hb]; rfl)] at ih1
            exact ih1
        · rw [if_neg j0, if_pos rfl]; exact no (by rw [hq, decide_eq_false j0, Bool.and_false]; rfl)
  exact lp k 0 (by omega)
theorem sp_X11_sound {sh : gS} {M : gM} {z : aS} {p w : Int} (hz : cS sh M z) (hG : kGd (aCs z)) (hR : ∀ h : Int, 0 ≤ h → h < 4 → rGd ((aCs z).length : Int) (aRs z h)) (hPg : ∀ p : Int, 0 ≤ p → p < 4 → plGd (aPl z p)) (hPd : ∀ p : Int, 0 ≤ p → p < 4 → plFit (aCs z) (aPl z p)) : gC (gr 5 125) yX11_sound cX11_sound 6 (some (.int)) [(4, 0), (0, p), (0, w)] sh M (cPo sh M 0 (aSound z p w) z) := by
  obtain ⟨hOK, hC, -, hRs, hPl, -⟩ := id hz
  have hl9 := hC.2.1
  unfold aSound
  refine w_X11_sound hOK ⟨_, sp_X11_isPlan hOK, ?_⟩
  by_cases q1 : 0 ≤ p ∧ p ≤ 3
  · rw [decide_eq_true q1, if_neg bIt]
    by_cases q2 : w < 0
    · rw [if_pos q2, if_neg (fun w => by omega)]; exact cPo_same hz rfl
    rw [if_neg q2]
    by_cases q3 : (5 : Int) < w
    · rw [if_pos q3, if_neg (fun w => by omega)]; exact cPo_same hz rfl
    rw [if_neg q3, if_pos (show (0 ≤ p ∧ p ≤ 3) ∧ (0 ≤ w ∧ w ≤ 5) from ⟨q1, by omega, by omega⟩)]
    have hP := (hPl p q1.1 (by omega)).1
    have e0 : M (519 + 48 * p) 0 = (aPl z p).2.1 0 := hP.2.2.2.1 0 (Or.inl (by decide))
    have e2 : M (519 + 48 * p) 2 = (aPl z p).2.1 2 := hP.2.2.2.1 2 (Or.inl (by decide))
    refine ⟨⟨q1.1, by omega⟩, ⟨hP.1.1, by omega⟩, ?_⟩
    rw [e0, e2]
    by_cases q5 : (aPl z p).2.1 0 = 0
    · rw [if_pos q5, if_pos q5]; exact cPo_same hz rfl
    have h1 : (aPl z p).2.1 0 = 1 := (hPg p q1.1 (by omega)).1.resolve_left q5
    obtain ⟨b1, b2, b3, b4, b5, b6⟩ := hPd p q1.1 (by omega) h1
    rw [if_neg q5, if_neg q5]
    have rA := (hRs _ b4.1 b4.2).1
    have gA := hR _ b4.1 b4.2
    refine ⟨b4, _, sp_X8_markPlan hOK hC hP b1 rA (fun x hx => (gA.2 x hx).2.1) (by omega) (by omega), fun r1 M1 hP1 => ?_⟩
    obtain ⟨rfl, m1, m2, m3, m4⟩ := hP1
    refine ⟨rfl, m3, ?_⟩
    generalize hSd : eMark (aCs z) (aPl z p) (aRs z ((aPl z p).2.1 2)) = S at m2 ⊢
    have sd1 : sdS sh M z (aPl z p) S M1 := ⟨cS_keep hz m3 (fun b hb => m4 b (by omega) (by omega) (by omega) (by omega)), m1, m2, fun b hb => m4 b (by omega) (by omega) (by omega) (by omega)⟩
    have lp : ∀ (n k : Nat) (M1 : gM), k + n = (aCs z).length → sdS sh M z (aPl z p) S M1 → P_X11_sound_58 sh (cPo sh M 0 (sumN (sdF (aCs z) S (aPl z p) w) (aCs z).length) z) p w (519 + 48 * p) (sumN (sdF (aCs z) S (aPl z p) w) k) (k : Int) M1 := by
      intro n
      induction n with
      | zero =>
        intro k M1 hk sd
        refine w_X11_sound_58 sd.1.1 ?_
        rw [sd.1.2.1.1, if_neg (by omega), show k = (aCs z).length by omega]
        exact ⟨rfl, rfl, sd.1, sd.2.2.2⟩
      | succ n ih =>
        intro k M1 hk sd
        have ih1 := ih (k + 1)
        have hr := sumN_rng (f := sdF (aCs z) S (aPl z p) w) (b := 120) (by decide) k (fun j hj => sdF_rng hG.1 S (aPl z p) w j (by omega))
        have hr2 := sdF_rng hG.1 S (aPl z p) w k (by omega)
        have hO1 := sd.1.1
        have hP1 := (sd.1.2.2.2.2.1 p q1.1 (by omega)).1
        refine w_X11_sound_58 hO1 ?_
        rw [sd.1.2.1.1, if_pos (by omega)]
        refine ⟨_, sp_X8_isOfPlan hO1, ?_⟩
        rw [mHas_of sd.2.2.1 k (by omega), gw32_id (z := (k : Int) + 1) (by omega) (by omega)]
        have stp : ∀ (v : Int) (M2 : gM), sdS sh M z (aPl z p) S M2 → sdF (aCs z) S (aPl z p) w k = v → P_X11_sound_58 sh (cPo sh M 0 (sumN (sdF (aCs z) S (aPl z p) w) (aCs z).length) z) p w (519 + 48 * p) (sumN (sdF (aCs z) S (aPl z p) w) k + v) ((k : Int) + 1) M2 := fun v M2 sd2 e => by
          rw [← e]; exact ih1 M2 (by omega) sd2
        have hq : sdF (aCs z) S (aPl z p) w k = if S k = true then (if w = 5 then (if 0 ≤ (aPl z p).2.2.2 (k : Int) then 0 else 1) else if (aPl z p).2.2.2 (k : Int) = 0 then flV (aCs z) S (aPl z p) w k else 0) else 0 := rfl
        cases hs : S k with
        | false =>
          rw [if_pos bIf]
          have := stp 0 M1 sd (by rw [hq, if_neg (by rw [hs]; decide)])
          rw [Int.add_zero] at this
          exact this
        | true =>
          rw [if_neg bIt]
          rw [if_pos hs] at hq
          by_cases w5 : w = 5
          · rw [if_pos w5]
            rw [if_pos w5] at hq
            refine ⟨⟨hP1.1.1, by omega⟩, _, sp_X5_isMapped hO1 hP1 (by omega), ?_⟩
            by_cases y : 0 ≤ (aPl z p).2.2.2 (k : Int)
            · rw [if_pos y, if_neg (by decide), gw32_id (by omega) (by omega)]
              exact stp 0 M1 sd (by rw [hq, if_pos y])
            · rw [if_neg y, if_pos rfl, gw32_id (by omega) (by omega)]
              exact stp 1 M1 sd (by rw [hq, if_neg y])
          · rw [if_neg w5]
            rw [if_neg w5] at hq
            refine ⟨⟨hP1.1.1, by omega⟩, _, sp_X5_isKept hO1 hP1 (by omega), ?_⟩
            by_cases y : (aPl z p).2.2.2 (k : Int) = 0
            · rw [if_pos y, if_neg (by decide)]
              rw [if_pos y] at hq
              refine ⟨_, sp_X11_flawsOf sd hG ⟨q1.1, by omega⟩ h1 (hPd p q1.1 (by omega)) (by omega) y (by omega), fun r2 M2 hP2 => ?_⟩
              obtain ⟨rfl, sd2⟩ := hP2
              rw [hq] at hr2
              refine ⟨_, rfl, sd2.1.1, ?_⟩
              rw [gw32_id (by omega) (by omega)]
              exact stp _ M2 sd2 hq
            · rw [if_neg y, if_pos rfl]
              have := stp 0 M1 sd (by rw [hq, if_neg y])
              rw [Int.add_zero] at this
              exact this
    exact lp (aCs z).length 0 M1 (by omega) sd1
  · rw [decide_eq_false q1, if_pos bIf, if_neg (fun w => q1 w.1)]; exact cPo_same hz rfl
