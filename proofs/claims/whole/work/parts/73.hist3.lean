-- ==== historyIs on both sides
def fFs (cs : List kC) (k : Nat) : List gF := match cs[k]? with
  | some c => kFs c
  | none => []
theorem fFs_at {cs : List kC} {k : Nat} {c : kC} (h : cs[k]? = some c) : fFs cs k = kFs c := by unfold fFs; rw [h]
def chB (cs : List kC) (S : Nat → Bool) (k : Nat) : Bool := (List.range cs.length).any (fun m => S m && decide ((k : Int) ∈ fPs cs m))
theorem chB_iff {cs : List kC} {S : Nat → Bool} {k : Nat} : chB cs S k = true ↔ ∃ m, m < cs.length ∧ S m = true ∧ (k : Int) ∈ fPs cs m := by
  unfold chB
  rw [List.any_eq_true]
  constructor
  · intro ⟨m, hm, e⟩
    have e2 := (Bool.and_eq_true _ _ ▸ e : S m = true ∧ decide ((k : Int) ∈ fPs cs m) = true)
    exact ⟨m, List.mem_range.mp hm, e2.1, of_decide_eq_true e2.2⟩
  · intro ⟨m, h1, h2, h3⟩
    exact ⟨m, List.mem_range.mpr h1, by rw [h2, decide_eq_true h3]; rfl⟩
def ftB (cs : List kC) (S : Nat → Bool) (k : Nat) : Bool := (List.range k).all (fun m => !(S m && decide (fFs cs m = fFs cs k)))
theorem ftB_iff {cs : List kC} {S : Nat → Bool} {k : Nat} : ftB cs S k = true ↔ ∀ m, m < k → ¬ (S m = true ∧ fFs cs m = fFs cs k) := by
  unfold ftB
  rw [List.all_eq_true]
  constructor
  · intro h m hm ⟨e1, e2⟩
    have := h m (List.mem_range.mpr hm)
    rw [e1, decide_eq_true e2] at this
    exact absurd this (by decide)
  · intro h m hm
    have := h m (List.mem_range.mp hm)
    cases h1 : S m with
    | false => rfl
    | true =>
      by_cases e : fFs cs m = fFs cs k
      · exact absurd ⟨h1, e⟩ this
      · rw [decide_eq_false e]; rfl
def hiB (cs : List kC) (S : Nat → Bool) (w : Int) (k : Nat) : Bool := if w = 1 then true else if w = 2 then decide ((fPs cs k).length = 0) else if w = 3 then decide (2 ≤ (fPs cs k).length) else if w = 4 then !chB cs S k else ftB cs S k
def hiQ (cs : List kC) (S : Nat → Bool) (w : Int) (k : Nat) : Bool := S k && hiB cs S w k
theorem s_isFirstTree {M : gM} {cs : List kC} {S : Nat → Bool} {a : Int} {k : Nat} (hC : uC M cs) (ha : gRw a) (hS : uS M a S) (hk : k < cs.length) : F_isFirstTree M (k : Int) a = some (bI (ftB cs S k)) := by
  have hl9 := hC.2.1
  have hc := List.getElem?_eq_getElem hk
  generalize cs[k] = c at hc
  have lp : ∀ (n m : Nat), m + n = k → (∀ q, q < m → ¬ (S q = true ∧ fFs cs q = fFs cs k)) → F_isFirstTree_2 M (k : Int) a (m : Int) = some (bI (ftB cs S k)) := by
    intro n
    induction n with
    | zero =>
      intro m hm hno
      rw [eq_isFirstTree_2, if_pos ha, if_neg (by omega), ftB_iff.mpr (fun q hq => hno q (by omega))]; rfl
    | succ n ih =>
      intro m hm hno
      have hd := List.getElem?_eq_getElem (show m < cs.length by omega)
      generalize cs[m] = d at hd
      rw [eq_isFirstTree_2, if_pos ha, if_pos (by omega), if_pos (by omega), hS m (by omega)]
      have nx : ¬ (S m = true ∧ fFs cs m = fFs cs k) → F_isFirstTree_2 M (k : Int) a (gw32 ((m : Int) + 1)) = some (bI (ftB cs S k)) := fun hq => by
        rw [gw32_id (by omega) (by omega)]
        exact ih (m + 1) (by omega) (fun q q0 => by
          by_cases e : q = m
          · rw [e]; exact hq
          · exact hno q (by omega))
      cases hs : S m with
      | false => rw [if_pos bIf]; exact nx (fun w => by rw [hs] at w; exact absurd w.1 (by decide))
      | true =>
        rw [if_neg bIt, gI_bb (s_areLike (hC.2.2 m d hd).2.2.2.2.2.2 (hC.2.2 k c hc).2.2.2.2.2.2)]
        by_cases e : kFs d = kFs c
        · rw [decide_eq_true e, if_neg bIt]
          have : ftB cs S k = false := by
            cases hb : ftB cs S k with
            | false => rfl
            | true => exact absurd ⟨hs, by rw [fFs_at hd, fFs_at hc]; exact e⟩ (ftB_iff.mp hb m (by omega))
          rw [this]; rfl
        · rw [decide_eq_false e, if_pos bIf]
          exact nx (fun w => e (by have := w.2; rw [fFs_at hd, fFs_at hc] at this; exact this))
  rw [eq_isFirstTree, if_pos ha]
  exact lp k 0 (by omega) (fun q hq => by omega)
theorem s_counts {M : gM} {cs : List kC} {S : Nat → Bool} {w : Int} {k : Nat} (hC : uC M cs) (hO : kOk cs) (hS : uS M 724 S) (hk : k < cs.length) : F_counts M (k : Int) w = some (bI (hiB cs S w k)) := by
  have hl9 := hC.2.1
  have hc := List.getElem?_eq_getElem hk
  generalize cs[k] = c at hc
  have hf : fPs cs k = kPs c := by unfold fPs; rw [hc]
  have hn := (hC.2.2 k c hc).1
  rw [eq_counts]
  unfold hiB
  rw [hf]
  by_cases w1 : w = 1
  · rw [if_pos w1, if_pos w1]; rfl
  · rw [if_neg w1, if_neg w1]
    by_cases w2 : w = 2
    · rw [if_pos w2, if_pos w2, if_pos (by omega), hn]
      by_cases e : (kPs c).length = 0
      · rw [if_pos (by omega), decide_eq_true e]; rfl
      · rw [if_neg (by omega), decide_eq_false e]; rfl
    · rw [if_neg w2, if_neg w2]
      by_cases w3 : w = 3
      · rw [if_pos w3, if_pos w3, if_pos (by omega), hn]
        by_cases e : 2 ≤ (kPs c).length
        · rw [if_pos (by omega), decide_eq_true e]; rfl
        · rw [if_neg (by omega), decide_eq_false e]; rfl
      · rw [if_neg w3, if_neg w3]
        by_cases w4 : w = 4
        · rw [if_pos w4, if_pos w4]
          obtain ⟨b, hb, hb2⟩ := s_hasChild (a := 724) hC hO (by decide) hS hk
          rw [gI_bb hb]
          have : b = chB cs S k := by
            rw [Bool.eq_iff_iff, hb2, chB_iff]
          rw [this]
          cases chB cs S k <;> rfl
        · rw [if_neg w4, if_neg w4, gI_bb (s_isFirstTree hC (by decide) hS hk)]
theorem s_hist {M : gM} {cs : List kC} {S : Nat → Bool} {h w : Int} (hC : uC M cs) (hO : kOk cs) (hS : uS M 724 S) (hw : ¬ w = 5) : F_historyIs_57 M h w 0 0 = some (cnt (hiQ cs S w) cs.length, M) := by
  have hl9 := hC.2.1
  have lp : ∀ (m k : Nat), k + m = cs.length → F_historyIs_57 M h w (cnt (hiQ cs S w) k) (k : Int) = some (cnt (hiQ cs S w) cs.length, M) := by
    intro m
    induction m with
    | zero => intro k hk; rw [eq_historyIs_57, hC.1, if_neg (by omega), show k = cs.length by omega]
    | succ m ih =>
      intro k hk
      have ih1 := ih (k + 1) (by omega)
      have hr := cnt_rng (hiQ cs S w) k
      rw [eq_historyIs_57, hC.1, if_pos (by omega), if_pos (by omega), hS k (by omega)]
      simp (disch := omega) only [gw32_id]
      have hq : hiQ cs S w k = (S k && hiB cs S w k) := rfl
      cases hs : S k with
      | false =>
        rw [if_pos bIf]; rw [hs] at hq; rw [cnt_F hq] at ih1; exact ih1
      | true =>
        rw [if_neg bIt, if_neg hw, gI_bb (s_counts hC hO hS (by omega))]
        rw [hs, Bool.true_and] at hq
        cases hb : hiB cs S w k with
        | false => rw [if_pos bIf]; rw [hb] at hq; rw [cnt_F hq] at ih1; exact ih1
        | true => rw [if_neg bIt]; rw [hb] at hq; rw [cnt_T hq] at ih1; exact ih1
  exact lp cs.length 0 (by omega)
def aHist (z : aS) (h w : Int) : Int := if (0 ≤ h ∧ h ≤ 3) ∧ (0 ≤ w ∧ w ≤ 6) then (if w = 0 then ((aRs z h).length : Int) else if w = 5 then gnG (aCs z) (hMark (aCs z) (aRs z h)) (aCs z).length else cnt (hiQ (aCs z) (hMark (aCs z) (aRs z h)) w) (aCs z).length) else -1
theorem s_historyIs {M : gM} {z : aS} {h w : Int} (hz : uSt M z) (hO : kOk (aCs z)) (hR : uRs M ((aCs z).length : Int) (aRs z)) : ∃ M1, F_historyIs M h w = some (aHist z h w, M1) ∧ uSt M1 z := by
  unfold aHist
  rw [eq_historyIs, gI_bb s_isHistory]
  by_cases q1 : 0 ≤ h ∧ h ≤ 3
  · rw [decide_eq_true q1, if_neg bIt, gI_bb s_in]
    by_cases q2 : 0 ≤ w ∧ w ≤ 6
    · rw [decide_eq_true q2, if_neg bIt, if_pos (show (0 ≤ h ∧ h ≤ 3) ∧ (0 ≤ w ∧ w ≤ 6) from ⟨q1, q2⟩)]
      obtain ⟨r1, r2, -⟩ := hR h q1.1 (by omega)
      by_cases w0 : w = 0
      · rw [if_pos w0, if_pos w0, gI_bb (s_refs r1 r2 ⟨q1.1, by omega⟩)]
        exact ⟨M, rfl, hz⟩
      · rw [if_neg w0, if_neg w0]
        obtain ⟨M1, e1, s1, f1⟩ := s_marksHistory (a := 724) (h := h) hz.1 hO hR (by decide) ⟨q1.1, by omega⟩
        have hC1 := uC_but hz.1 (by decide) f1
        obtain ⟨M2, e2, h2, f2⟩ := s_laysHeights hC1 hO
        have hC2 : uC M2 (aCs z) := uC_same hC1 (by rw [f2 711 (by decide)]) (fun b b0 b1 => f2 b (by omega))
        have s2 : uS M2 724 (hMark (aCs z) (aRs z h)) := fun k hk => by rw [f2 724 (by decide)]; exact s1 k hk
        have k2 : uSt M2 z := uSt_keep (A := [724, 725]) (F := []) hz ⟨fun b hb _ => by
          rw [f2 b (fun w => hb (by rw [w]; simp)), f1 b (fun w => hb (by rw [w]; simp))], fun i _ => by rw [f2 711 (by decide), f1 711 (by decide)]⟩ (fun b hb => by
            rcases List.mem_cons.mp hb with e | hb
            · omega
            · rw [List.mem_singleton.mp hb]; omega) (by decide)
        rw [gI_bb e1, gI_bb e2]
        by_cases w5 : w = 5
        · rw [if_pos w5, if_pos w5, w5]
          exact ⟨M2, s_hist5 hC2 s2 h2, k2⟩
        · rw [if_neg w5, if_neg w5]
          exact ⟨M2, s_hist hC2 hO s2 w5, k2⟩
    · rw [decide_eq_false q2, if_pos bIf, if_neg (fun w => q2 w.2)]; exact ⟨M, rfl, hz⟩
  · rw [decide_eq_false q1, if_pos bIf, if_neg (fun w => q1 w.1)]; exact ⟨M, rfl, hz⟩
-- the class
theorem cnt_put {S : Nat → Bool} {k : Nat} : ∀ n : Nat, cnt (fun j => S j || decide (j = k)) n = cnt S n + (if k < n ∧ S k = false then 1 else 0)
  | 0 => by simp [cnt]
  | n + 1 => by
    rw [cnt, cnt, cnt_put n]
    by_cases e : n = k
    · subst e
      cases hs : S n with
      | false => rw [if_neg (by omega), if_pos (show n < n + 1 ∧ false = false from ⟨by omega, rfl⟩)]; simp [bI]
      | true => rw [if_neg (by omega), if_neg (fun w => by cases w.2)]; simp [bI]
    · by_cases h : S k = false
      · by_cases l : k < n
        · rw [if_pos ⟨l, h⟩, if_pos ⟨by omega, h⟩, decide_eq_false e, Bool.or_false]; omega
        · rw [if_neg (by omega), if_neg (by omega), decide_eq_false e, Bool.or_false]; omega
      · rw [if_neg (fun w => h w.2), if_neg (fun w => h w.2), decide_eq_false e, Bool.or_false]; omega
theorem sp_X11_childless {sh : gS} {M : gM} {z : aS} {S : Nat → Bool} (hz : cS sh M z) (hS : mIs M 470 0 S) (tS : ∀ k, (aCs z).length ≤ k → S k = false) : gC (gr 2 44) yX11_childless cX11_childless 3 (some (.int)) [(4, 0)] sh M (cPo sh M 0 (cnt (hiQ (aCs z) S 4) (aCs z).length) z) := by
  obtain ⟨hOK, hC, -⟩ := id hz
  have hl9 := hC.2.1
  refine w_X11_childless hOK ⟨_, sp_X3_clear hOK (mSh470 hOK) (by decide), fun r1 M1 hP1 => ?_⟩
  obtain ⟨rfl, a1, a2, a3, a4⟩ := hP1
  refine ⟨rfl, a2, ?_⟩
  have lp : ∀ (m k : Nat) (M1 : gM), k + m = (aCs z).length → gOK sh M1 → (∀ b : Int, b < 471 ∨ 472 < b → M1 b = M b) → mIs M1 470 0 S → mIs M1 470 1 (fun j => (List.range k).any (fun m => S m && decide ((j : Int) ∈ fPs (aCs z) m))) → P_X11_childless_10 sh (cPo sh M 0 (cnt (hiQ (aCs z) S 4) (aCs z).length) z) (k : Int) M1 := by
    intro m
    induction m with
    | zero =>
      intro k M1 hk hO1 hf s0 s1
      have hkk : k = (aCs z).length := by omega
      refine w_X11_childless_10 hO1 ?_
      have hz1 : cS sh M1 z := cS_keep hz hO1 (fun b hb => hf b (by omega))
      rw [hz1.2.1.1, if_neg (by omega)]
      refine ⟨_, sp_X3_size hO1 (mSh470 hO1) (by decide), _, sp_X3_sizeInBoth hO1 (mSh470 hO1) (by decide) (mSh470 hO1) (by decide), rfl, ?_, hz1, fun b hb => hf b (by omega)⟩
      rw [cnt_congr 128 (g := S) (fun q hq => s0 q hq), cnt_congr 128 (f := fun j => mB M1 470 0 j && mB M1 470 1 j) (g := fun j => S j && chB (aCs z) S j) (fun q hq => by rw [s0 q hq, s1 q hq, hkk]; rfl), cnt_cut (n := (aCs z).length) (by omega) tS, cnt_cut (n := (aCs z).length) (by omega) (fun q hq => by rw [tS q hq]; rfl), ← cnt_and]
      rw [gw32_id (by have := cnt_rng (fun j => S j && !chB (aCs z) S j) (aCs z).length; omega) (by have := cnt_rng (fun j => S j && !chB (aCs z) S j) (aCs z).length; omega)]
      rfl
    | succ m ih =>
      intro k M1 hk hO1 hf s0 s1
      have hkl : k < (aCs z).length := by omega
      have hc := List.getElem?_eq_getElem hkl
      generalize (aCs z)[k] = c at hc
      have hps : fPs (aCs z) k = kPs c := by unfold fPs; rw [hc]
      refine w_X11_childless_10 hO1 ?_
      rw [hf 4 (by decide), hC.1, if_pos (by omega)]
      obtain ⟨⟨o1, o2, -⟩, hw, -⟩ := hC.2.2.2 k c hc
      have nx : ∀ M2 : gM, gOK sh M2 → (∀ b : Int, b < 471 ∨ 472 < b → M2 b = M b) → mIs M2 470 0 S → mIs M2 470 1 (fun j => (List.range k).any (fun m => S m && decide ((j : Int) ∈ fPs (aCs z) m)) || (S k && decide ((j : Int) ∈ kPs c))) → P_X11_childless_10 sh (cPo sh M 0 (cnt (hiQ (aCs z) S 4) (aCs z).length) z) (gw32 ((k : Int) + 1)) M2 := fun M2 hO2 hf2 t0 t1 => by
        rw [gw32_id (by omega) (by omega)]
        refine ih (k + 1) M2 (by omega) hO2 hf2 t0 (fun j hj => ?_)
        rw [t1 j hj]; dsimp only; rw [List.range_succ, List.any_append]
        simp only [List.any_cons, List.any_nil, Bool.or_false]
        rw [hps]
      have inn : ∀ (suf pre : List Int) (M2 : gM), kPs c = pre ++ suf → gOK sh M2 → (∀ b : Int, b < 471 ∨ 472 < b → M2 b = M b) → mIs M2 470 0 S → mIs M2 470 1 (fun j => (List.range k).any (fun m => S m && decide ((j : Int) ∈ fPs (aCs z) m)) || (S k && decide ((j : Int) ∈ pre))) → P_X11_childless_23 sh (cPo sh M 0 (cnt (hiQ (aCs z) S 4) (aCs z).length) z) (k : Int) (pre.length : Int) M2 := by
        intro suf
        induction suf with
        | nil =>
          intro pre M2 e hO2 hf2 t0 t1
          have hlen := congrArg List.length e
          simp only [List.append_nil] at hlen
          rw [List.append_nil] at e
          refine w_X11_childless_23 hO2 ⟨_, sp_X3_has hO2 (mSh470 hO2) (by decide), ?_⟩
          rw [mHas_of t0 k (by omega)]
          cases hs : S k with
          | false => rw [if_pos bIf]; exact nx M2 hO2 hf2 t0 (fun j hj => by rw [t1 j hj, e])
          | true =>
            rw [if_neg bIt]
            refine ⟨by omega, ?_⟩
            rw [hf2 5 (by decide), o1, if_neg (by omega)]
            exact nx M2 hO2 hf2 t0 (fun j hj => by rw [t1 j hj, e])
        | cons p r ih2 =>
          intro pre M2 e hO2 hf2 t0 t1
          have hlen := congrArg List.length e
          rw [List.length_append, List.length_cons] at hlen
          have hp := hw.2.1 p (by rw [e]; simp)
          have h3 := hw.1
          refine w_X11_childless_23 hO2 ⟨_, sp_X3_has hO2 (mSh470 hO2) (by decide), ?_⟩
          rw [mHas_of t0 k (by omega)]
          cases hs : S k with
          | false => rw [if_pos bIf]; exact nx M2 hO2 hf2 t0 (fun j hj => by rw [t1 j hj, hs]; rfl)
          | true =>
            rw [if_neg bIt]
            refine ⟨by omega, ?_⟩
            rw [hf2 5 (by decide), o1, if_pos (by omega)]
            have hv := o2 pre.length p (at_mid e)
            refine ⟨_, sp_X1_parent hO2 (by omega) (by omega), ?_⟩
            rw [hf2 6 (by decide), hv]
            obtain ⟨pn, hpn⟩ : ∃ pn : Nat, p = (pn : Int) := ⟨p.toNat, by omega⟩
            rw [hpn]
            refine ⟨_, sp_X3_put hO2 (mSh470 hO2) (by decide) (by omega), fun r3 M3 hP3 => ?_⟩
            obtain ⟨rfl, b1, b2, b3, b4⟩ := hP3
            refine ⟨rfl, b2, ?_⟩
            rw [gw32_id (by omega) (by omega)]
            have := ih2 (pre ++ [p]) M3 (by rw [e]; simp) b2 (fun b hb => by rw [b3 b (by omega) (by omega)]; exact hf2 b hb) (fun j hj => by rw [mB_row (b4 0 (by decide))]; exact t0 j hj) (fun j hj => by
              rw [b1 j hj]; dsimp only; rw [t1 j hj]; dsimp only; rw [hs, Bool.true_and, Bool.true_and, Bool.or_assoc]
              congr 1
              rw [Bool.eq_iff_iff, Bool.or_eq_true, decide_eq_true_iff, decide_eq_true_iff, decide_eq_true_iff, List.mem_append, List.mem_singleton, hpn]
              exact or_congr Iff.rfl ⟨fun e => by omega, fun e => by omega⟩)
            rw [List.length_append] at this
            simpa using this
      exact inn (kPs c) [] M1 rfl hO1 hf s0 (fun j hj => by rw [s1 j hj]; simp)
  exact lp (aCs z).length 0 M1 (by omega) a2 (fun b hb => a3 b (by omega) (by omega)) (fun j hj => by rw [mB_row (a4 0 (by decide))]; exact hS j hj) (fun j hj => by rw [a1 j hj]; rfl)
theorem low_inj {cs : List kC} {k m : Nat} {c d : kC} (hc : cs[k]? = some c) (hd : cs[m]? = some d) (e : kLow (kFs c) cs 0 = kLow (kFs d) cs 0) : kFs c = kFs d := by
  rcases kLow_sp (kFs c) cs 0 with ⟨-, a⟩ | ⟨j, x, a, b, e1, -⟩
  · exact absurd rfl (a c (List.mem_of_getElem? hc))
  rcases kLow_sp (kFs d) cs 0 with ⟨-, a2⟩ | ⟨j2, x2, a2, b2, e2, -⟩
  · exact absurd rfl (a2 d (List.mem_of_getElem? hd))
  have : j = j2 := by omega
  subst this
  rw [a] at a2
  cases a2
  rw [← b, b2]
def ulT (cs : List kC) (S : Nat → Bool) (k : Nat) (t : Nat) : Bool := (List.range k).any (fun m => S m && decide (kLow (fFs cs m) cs 0 = (t : Int)))
theorem ulT_succ (cs : List kC) (S : Nat → Bool) (k t : Nat) : ulT cs S (k + 1) t = (ulT cs S k t || (S k && decide (kLow (fFs cs k) cs 0 = (t : Int)))) := by
  unfold ulT
  rw [List.range_succ, List.any_append]
  simp only [List.any_cons, List.any_nil, Bool.or_false]
theorem cnt_no {f : Nat → Bool} : ∀ n : Nat, (∀ k, k < n → f k = false) → cnt f n = 0
  | 0, _ => rfl
  | n + 1, h => by rw [cnt_F (h n (by omega))]; exact cnt_no n (fun k hk => h k (by omega))
theorem ulT_cnt {cs : List kC} {S : Nat → Bool} (hl : cs.length ≤ 120) : ∀ k : Nat, k ≤ cs.length → cnt (ulT cs S k) 128 = cnt (hiQ cs S 6) k
  | 0, _ => by
    exact cnt_no 128 (fun q _ => rfl)
  | k + 1, hk => by
    have ih := ulT_cnt hl (S := S) k (by omega)
    have hc := List.getElem?_eq_getElem (show k < cs.length by omega)
    generalize cs[k] = c at hc
    obtain ⟨t, ht, htk⟩ := kLow_at hc
    have hfc := fFs_at hc
    cases hs : S k with
    | false =>
      rw [cnt_F (f := hiQ cs S 6) (n := k) (by unfold hiQ; rw [hs]; rfl), ← ih]
      refine cnt_congr 128 (fun q _ => ?_)
      rw [ulT_succ, hs, Bool.false_and, Bool.or_false]
    | true =>
      rw [cnt_congr 128 (g := fun j => ulT cs S k j || decide (j = t)) (fun q _ => by
        show ulT cs S (k + 1) q = _
        rw [ulT_succ, hs, Bool.true_and, hfc, ht, show decide ((t : Int) = (q : Int)) = decide (q = t) from decide_eq_decide.mpr (by omega)]), cnt_put, ih]
      have key : ulT cs S k t = false ↔ ftB cs S k = true := by
        rw [ftB_iff]
        constructor
        · intro h m hm ⟨e1, e2⟩
          unfold ulT at h
          rw [List.any_eq_false] at h
          refine h m (List.mem_range.mpr hm) ?_
          rw [e1, e2, hfc, ht]
          simp
        · intro h
          unfold ulT
          rw [List.any_eq_false]
          intro m hm e
          have hm2 := List.mem_range.mp hm
          have e2 := (Bool.and_eq_true _ _ ▸ e : S m = true ∧ decide (kLow (fFs cs m) cs 0 = (t : Int)) = true)
          have hd := List.getElem?_eq_getElem (show m < cs.length by omega)
          refine h m hm2 ⟨e2.1, ?_⟩
          have e3 := of_decide_eq_true e2.2
          rw [fFs_at hd, ← ht] at e3
          rw [fFs_at hd, hfc]
          exact low_inj hd hc e3
      have hq : hiQ cs S 6 k = ftB cs S k := by unfold hiQ; rw [hs]; rfl
      cases hb : ftB cs S k with
      | true => rw [cnt_T (f := hiQ cs S 6) (n := k) (by rw [hq, hb]), if_pos ⟨by omega, key.mpr hb⟩]
      | false => rw [cnt_F (f := hiQ cs S 6) (n := k) (by rw [hq, hb]), if_neg (fun w => by rw [key.mp w.2] at hb; cases hb)]; exact Int.add_zero _
theorem sp_X11_unlikeTrees {sh : gS} {M : gM} {z : aS} {S : Nat → Bool} (hz : cS sh M z) (hS : mIs M 470 0 S) : gC (gr 2 42) yX11_unlikeTrees cX11_unlikeTrees 2 (some (.int)) [(4, 0)] sh M (cPo sh M 0 (cnt (hiQ (aCs z) S 6) (aCs z).length) z) := by
  obtain ⟨hOK, hC, -⟩ := id hz
  have hl9 := hC.2.1
  refine w_X11_unlikeTrees hOK ⟨_, sp_X3_clear hOK (mSh470 hOK) (by decide), fun r1 M1 hP1 => ?_⟩
  obtain ⟨rfl, a1, a2, a3, a4⟩ := hP1
  refine ⟨rfl, a2, ?_⟩
  have lp : ∀ (m k : Nat) (M1 : gM), k + m = (aCs z).length → gOK sh M1 → (∀ b : Int, b < 471 ∨ 472 < b → M1 b = M b) → mIs M1 470 0 S → mIs M1 470 1 (ulT (aCs z) S k) → P_X11_unlikeTrees_10 sh (cPo sh M 0 (cnt (hiQ (aCs z) S 6) (aCs z).length) z) (k : Int) M1 := by
    intro m
    induction m with
    | zero =>
      intro k M1 hk hO1 hf s0 s1
      have hkk : k = (aCs z).length := by omega
      refine w_X11_unlikeTrees_10 hO1 ?_
      have hz1 : cS sh M1 z := cS_keep hz hO1 (fun b hb => hf b (by omega))
      rw [hz1.2.1.1, if_neg (by omega)]
      refine ⟨_, sp_X3_size hO1 (mSh470 hO1) (by decide), rfl, ?_, hz1, fun b hb => hf b (by omega)⟩
      rw [cnt_congr 128 (g := ulT (aCs z) S (aCs z).length) (fun q hq => by rw [s1 q hq, hkk]), ulT_cnt hl9 _ (Nat.le_refl _)]
    | succ m ih =>
      intro k M1 hk hO1 hf s0 s1
      have hkl : k < (aCs z).length := by omega
      have hc := List.getElem?_eq_getElem hkl
      generalize (aCs z)[k] = c at hc
      obtain ⟨-, -, h7, -⟩ := hC.2.2.2 k c hc
      obtain ⟨t, ht, htk⟩ := kLow_at hc
      refine w_X11_unlikeTrees_10 hO1 ?_
      rw [hf 4 (by decide), hC.1, if_pos (by omega), gw32_id (by omega) (by omega)]
      refine ⟨_, sp_X3_has hO1 (mSh470 hO1) (by decide), ?_⟩
      rw [mHas_of s0 k (by omega)]
      cases hs : S k with
      | false =>
        rw [if_pos bIf]
        exact ih (k + 1) M1 (by omega) hO1 hf s0 (fun j hj => by rw [s1 j hj, ulT_succ, hs, Bool.false_and, Bool.or_false])
      | true =>
        rw [if_neg bIt]
        refine ⟨by omega, ?_⟩
        rw [hf 7 (by decide), h7, ht]
        refine ⟨_, sp_X3_put hO1 (mSh470 hO1) (by decide) (by omega), fun r3 M3 hP3 => ?_⟩
        obtain ⟨rfl, b1, b2, b3, b4⟩ := hP3
        refine ⟨rfl, b2, ih (k + 1) M3 (by omega) b2 (fun b hb => by rw [b3 b (by omega) (by omega)]; exact hf b hb) (fun j hj => by rw [mB_row (b4 0 (by decide))]; exact s0 j hj) (fun j hj => ?_)⟩
        rw [b1 j hj]; dsimp only; rw [s1 j hj, ulT_succ, hs, Bool.true_and, fFs_at hc, ht, show decide ((t : Int) = (j : Int)) = decide (j = t) from decide_eq_decide.mpr (by omega)]
  exact lp (aCs z).length 0 M1 (by omega) a2 (fun b hb => a3 b (by omega) (by omega)) (fun j hj => by rw [mB_row (a4 0 (by decide))]; exact hS j hj) (fun j hj => by rw [a1 j hj]; rfl)
theorem sp_X11_historyIs {sh : gS} {M : gM} {z : aS} {h w : Int} (hz : cS sh M z) (hO : kOk (aCs z)) (hG : ∀ h : Int, 0 ≤ h → h < 4 → rGd ((aCs z).length : Int) (aRs z h)) : gC (gr 3 66) yX11_historyIs cX11_historyIs 3 (some (.int)) [(4, 0), (0, h), (0, w)] sh M (cPo sh M 0 (aHist z h w) z) := by
  obtain ⟨hOK, hC, -, hRs, -⟩ := id hz
  have hl9 := hC.2.1
  unfold aHist
  refine w_X11_historyIs hOK ⟨_, sp_X11_isHistory hOK, ?_⟩
  by_cases q1 : 0 ≤ h ∧ h ≤ 3
  · rw [decide_eq_true q1, if_neg bIt]
    by_cases q2 : w < 0
    · rw [if_pos q2, if_neg (fun w => by omega)]; exact cPo_same hz rfl
    · rw [if_neg q2]
      by_cases q3 : (6 : Int) < w
      · rw [if_pos q3, if_neg (fun w => by omega)]; exact cPo_same hz rfl
      · rw [if_neg q3, if_pos (show (0 ≤ h ∧ h ≤ 3) ∧ (0 ≤ w ∧ w ≤ 6) from ⟨q1, by omega, by omega⟩)]
        have rA := (hRs h q1.1 (by omega)).1
        have gA := hG h q1.1 (by omega)
        by_cases w0 : w = 0
        · rw [if_pos w0, if_pos w0]
          exact ⟨⟨q1.1, by omega⟩, ⟨rA.1.1, by omega⟩, cPo_same hz rA.2.2.1⟩
        · rw [if_neg w0, if_neg w0]
          refine ⟨⟨q1.1, by omega⟩, _, sp_X1_markHistory hOK hC rA (fun x hx => (gA.2 x hx).2.1) (mSh470 hOK) (by decide) (by decide) (by omega), fun r1 M1 hP1 => ?_⟩
          obtain ⟨rfl, s1, p2, p3, p4⟩ := hP1
          have hz1 : cS sh M1 z := cS_keep hz p2 (fun b hb => p3 b (by omega) (by omega))
          have tA : ∀ k, (aCs z).length ≤ k → hMark (aCs z) (aRs z h) k = false := fun k hk => hMark_top hO gA (by omega) hk
          generalize hMark (aCs z) (aRs z h) = S at s1 tA
          have f1 : ∀ b : Int, (b = 475 ∨ b = 476 ∨ 710 < b) → M1 b = M b := fun b hb => p3 b (by omega) (by omega)
          have don : ∀ v u : Int, v = u → cPo sh M 0 u z (some (0, v)) sh M1 := fun v u e => ⟨rfl, by rw [e], hz1, f1⟩
          refine ⟨rfl, p2, ?_⟩
          have e1 : ∀ w : Int, hiQ (aCs z) S w = fun k => S k && hiB (aCs z) S w k := fun _ => rfl
          by_cases w1 : w = 1
          · rw [if_pos w1, if_neg (show ¬ w = 5 by omega)]
            refine ⟨_, sp_X3_size p2 (mSh470 p2) (by decide), don _ _ ?_⟩
            rw [cnt_congr 128 (g := S) (fun q hq => s1 q hq), cnt_cut (n := (aCs z).length) (by omega) tA]
            refine cnt_congr _ (fun q hq => ?_)
            unfold hiQ hiB; rw [if_pos w1, Bool.and_true]
          · rw [if_neg w1]
            by_cases w2 : w = 2
            · rw [if_pos w2, if_neg (show ¬ w = 3 by omega), if_neg (show ¬ w = 5 by omega)]
              refine ⟨_, sp_X11_withParents p2 hz1.2.1 s1, don _ _ (cnt_congr _ (fun q hq => ?_))⟩
              unfold hiQ hiB wpQ; rw [if_neg w1, if_pos w2, if_pos rfl]
            · rw [if_neg w2]
              by_cases w3 : w = 3
              · rw [if_pos w3, if_pos w3, if_neg (show ¬ w = 5 by omega)]
                refine ⟨_, sp_X11_withParents p2 hz1.2.1 s1, don _ _ (cnt_congr _ (fun q hq => ?_))⟩
                unfold hiQ hiB wpQ; rw [if_neg w1, if_neg w2, if_pos w3, if_neg (by decide)]
              · rw [if_neg w3]
                by_cases w4 : w = 4
                · rw [if_pos w4, if_neg (show ¬ w = 5 by omega), w4]
                  refine ⟨_, sp_X11_childless hz1 s1 tA, fun r2 M2 hP2 => ?_⟩
                  obtain ⟨rfl, c1, c2⟩ := hP2
                  exact ⟨_, rfl, c1.1, rfl, rfl, c1, fun b hb => by rw [c2 b hb, f1 b hb]⟩
                · rw [if_neg w4]
                  by_cases w5 : w = 5
                  · rw [if_pos w5, if_pos w5]
                    exact ⟨_, sp_X11_greatestGeneration p2 hz1.2.1 s1, don _ _ rfl⟩
                  · rw [if_neg w5, if_pos (show w = 6 by omega), if_neg w5, show w = 6 by omega]
                    refine ⟨_, sp_X11_unlikeTrees hz1 s1, fun r2 M2 hP2 => ?_⟩
                    obtain ⟨rfl, c1, c2⟩ := hP2
                    exact ⟨_, rfl, c1.1, rfl, rfl, c1, fun b hb => by rw [c2 b hb, f1 b hb]⟩
  · rw [decide_eq_false q1, if_pos bIf, if_neg (fun w => q1 w.1)]; exact cPo_same hz rfl
