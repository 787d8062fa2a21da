-- ==== listing on both sides
def fHr (cs : List kC) (k : Nat) : Int := match cs[k]? with
  | some c => kHr c
  | none => 0
def lsN (cs : List kC) (T : Nat → Bool) : Nat → Int
  | 0 => -1
  | k + 1 => if (T k && !chB cs T k) = true then (if lsN cs T k = -1 then (k : Int) else if fHr cs k < fHr cs (lsN cs T k).toNat then lsN cs T k else (k : Int)) else lsN cs T k
theorem lsN_at (cs : List kC) (T : Nat → Bool) : ∀ k : Nat, lsN cs T k = -1 ∨ ∃ m : Nat, m < k ∧ lsN cs T k = (m : Int) ∧ T m = true
  | 0 => Or.inl rfl
  | k + 1 => by
    have ih := lsN_at cs T k
    have up : lsN cs T k = -1 ∨ ∃ m : Nat, m < k + 1 ∧ lsN cs T k = (m : Int) ∧ T m = true := by
      rcases ih with a | ⟨m, a, b, c⟩
      · exact Or.inl a
      · exact Or.inr ⟨m, by omega, b, c⟩
    rw [lsN]
    by_cases h : (T k && !chB cs T k) = true
    · have hT : T k = true := (Bool.and_eq_true _ _ ▸ h : T k = true ∧ _).1
      rw [if_pos h]
      split
      · exact Or.inr ⟨k, by omega, rfl, hT⟩
      · split
        · exact up
        · exact Or.inr ⟨k, by omega, rfl, hT⟩
    · rw [if_neg h]; exact up
theorem lsN_none {cs : List kC} {T : Nat → Bool} : ∀ {k : Nat}, (∀ m, m < k → T m = false) → lsN cs T k = -1
  | 0, _ => rfl
  | k + 1, h => by rw [lsN, h k (by omega), Bool.false_and, if_neg (by decide)]; exact lsN_none (fun m hm => h m (by omega))
def lsM (T : Nat → Bool) (b : Int) : Nat → Bool := fun j => T j && !decide ((j : Int) = b)
def lsG (cs : List kC) (T : Nat → Bool) : Nat → Int
  | 0 => lsN cs T cs.length
  | i + 1 => if lsN cs T cs.length = -1 then -1 else lsG cs (lsM T (lsN cs T cs.length)) i
theorem cnt_less {T : Nat → Bool} {m : Nat} (h : T m = true) : ∀ n : Nat, cnt (lsM T (m : Int)) n = cnt T n - (if m < n then 1 else 0)
  | 0 => by rw [if_neg (by omega)]; rfl
  | n + 1 => by
    rw [cnt, cnt, cnt_less h n]
    unfold lsM
    by_cases e : n = m
    · subst e
      rw [h, decide_eq_true (show ((n : Nat) : Int) = (n : Int) from rfl), if_neg (by omega), if_pos (by omega)]
      simp [bI]
    · rw [decide_eq_false (show ¬ (n : Int) = (m : Int) by omega)]
      by_cases l : m < n
      · rw [if_pos l, if_pos (by omega)]; simp; omega
      · rw [if_neg l, if_neg (by omega)]; simp
theorem lsG_out (cs : List kC) : ∀ (i : Nat) (T : Nat → Bool), cnt T cs.length ≤ (i : Int) → lsG cs T i = -1
  | 0, T, h => by
    have : ∀ (n m : Nat), cnt T n ≤ 0 → m < n → T m = false := fun n => by
      induction n with
      | zero => intro m _ hm; omega
      | succ n ih =>
        intro m h0 hm
        have hr := cnt_rng T n
        cases ht : T n with
        | true => rw [cnt_T ht] at h0; omega
        | false =>
          rw [cnt_F ht] at h0
          by_cases e : m = n
          · rw [e]; exact ht
          · exact ih m h0 (by omega)
    rw [lsG]
    exact lsN_none (fun m hm => this cs.length m h hm)
  | i + 1, T, h => by
    rw [lsG]
    rcases lsN_at cs T cs.length with a | ⟨m, a, b, c⟩
    · rw [if_pos a]
    · rw [if_neg (by omega)]
      refine lsG_out cs i _ ?_
      rw [b, cnt_less c, if_pos a]
      omega
def aListing (z : aS) (h i : Int) : Int := if (0 ≤ h ∧ h ≤ 3) ∧ (0 ≤ i ∧ i ≤ 119) then (if lsG (aCs z) (hMark (aCs z) (aRs z h)) i.toNat = -1 then -4 else lsG (aCs z) (hMark (aCs z) (aRs z h)) i.toNat) else -1
theorem s_nextListed {M : gM} {cs : List kC} {T : Nat → Bool} (hC : uC M cs) (hO : kOk cs) (hT : uS M 746 T) : F_nextListed M = some (lsN cs T cs.length) := by
  have hl9 := hC.2.1
  have lp : ∀ (n k : Nat), k + n = cs.length → F_nextListed_4 M (lsN cs T k) (k : Int) = some (lsN cs T cs.length) := by
    intro n
    induction n with
    | zero => intro k hk; rw [eq_nextListed_4, hC.1, if_neg (by omega), show k = cs.length by omega]
    | succ n ih =>
      intro k hk
      have hkl : k < cs.length := by omega
      have hc := List.getElem?_eq_getElem hkl
      generalize cs[k] = c at hc
      have ih1 := ih (k + 1) (by omega)
      rw [lsN] at ih1
      rw [eq_nextListed_4, hC.1, if_pos (by omega), if_pos (by omega), hT k (by omega), gw32_id (by omega) (by omega)]
      cases ht : T k with
      | false =>
        rw [if_pos bIf]
        rw [ht, Bool.false_and, if_neg (by decide)] at ih1
        exact ih1
      | true =>
        rw [if_neg bIt]
        obtain ⟨b, hb, hb2⟩ := s_hasChild (a := 746) hC hO (by decide) hT hkl
        rw [gI_bb hb]
        have : b = chB cs T k := by rw [Bool.eq_iff_iff, hb2, chB_iff]
        rw [this]
        rw [ht, Bool.true_and] at ih1
        cases hx : chB cs T k with
        | true =>
          rw [if_neg bIt]
          rw [hx, if_neg (by decide)] at ih1
          exact ih1
        | false =>
          rw [if_pos bIf]
          rw [hx, if_pos (by decide)] at ih1
          rcases lsN_at cs T k with a | ⟨m, a, b, -⟩
          · rw [if_pos a]; rw [if_pos a] at ih1; exact ih1
          · rw [b, if_neg (by omega), if_pos (by omega)]
            rw [b, if_neg (by omega)] at ih1
            have hd := List.getElem?_eq_getElem (show m < cs.length by omega)
            generalize cs[m] = d at hd
            have e1 := (hC.2.2 k c hc).2.2.2.2.2.1
            have e2 := (hC.2.2 m d hd).2.2.2.2.2.1
            rw [e1, e2]
            rw [Int.toNat_natCast, show fHr cs k = kHr c by unfold fHr; rw [hc], show fHr cs m = kHr d by unfold fHr; rw [hd]] at ih1
            by_cases y : kHr c < kHr d
            · rw [if_pos y]; rw [if_pos y] at ih1; exact ih1
            · rw [if_neg y]; rw [if_neg y] at ih1; exact ih1
  rw [eq_nextListed]
  exact lp cs.length 0 (by omega)
theorem s_listing {M : gM} {z : aS} {h i : Int} (hz : uSt M z) (hO : kOk (aCs z)) (hR : uRs M ((aCs z).length : Int) (aRs z)) : ∃ M1, F_listing M h i = some (aListing z h i, M1) ∧ uSt M1 z := by
  unfold aListing
  rw [eq_listing, gI_bb s_isHistory]
  by_cases q1 : 0 ≤ h ∧ h ≤ 3
  · rw [decide_eq_true q1, if_neg bIt, gI_bb s_in]
    by_cases q2 : 0 ≤ i ∧ i ≤ 119
    · rw [decide_eq_true q2, if_neg bIt, if_pos (show (0 ≤ h ∧ h ≤ 3) ∧ (0 ≤ i ∧ i ≤ 119) from ⟨q1, q2⟩)]
      obtain ⟨M1, e1, s1, f1⟩ := s_marksHistory (a := 746) (h := h) hz.1 hO hR (by decide) ⟨q1.1, by omega⟩
      rw [gI_bb e1, gI_bb (s_nextListed (uC_but hz.1 (by decide) f1) hO s1)]
      obtain ⟨n, rfl⟩ : ∃ n : Nat, i = (n : Int) := ⟨i.toNat, by omega⟩
      rw [Int.toNat_natCast]
      have lp : ∀ (m j : Nat) (M1 : gM) (T : Nat → Bool), j + m = n → (∀ b : Int, b ≠ 746 → M1 b = M b) → uS M1 746 T → ∃ M2, F_listing_36 M1 h (n : Int) (lsN (aCs z) T (aCs z).length) (j : Int) = some ((if lsG (aCs z) T m = -1 then -4 else lsG (aCs z) T m), M2) ∧ uSt M2 z := by
        intro m
        induction m with
        | zero =>
          intro j M1 T hj f1 s1
          have k1 : uSt M1 z := uSt_keep (A := [746]) (F := []) hz ⟨fun b hb _ => f1 b (fun w => hb (by rw [w]; simp)), fun i _ => by rw [f1 711 (by decide)]⟩ (fun b hb => by rw [List.mem_singleton.mp hb]; omega) (by decide)
          rw [eq_listing_36, if_neg (by omega), lsG]
          by_cases e : lsN (aCs z) T (aCs z).length = -1
          · rw [if_pos e, if_pos e]; exact ⟨M1, rfl, k1⟩
          · rw [if_neg e, if_neg e]; exact ⟨M1, rfl, k1⟩
        | succ m ih =>
          intro j M1 T hj f1 s1
          have k1 : uSt M1 z := uSt_keep (A := [746]) (F := []) hz ⟨fun b hb _ => f1 b (fun w => hb (by rw [w]; simp)), fun i _ => by rw [f1 711 (by decide)]⟩ (fun b hb => by rw [List.mem_singleton.mp hb]; omega) (by decide)
          have hl9 := hz.1.2.1
          rw [eq_listing_36, if_pos (by omega), lsG]
          rcases lsN_at (aCs z) T (aCs z).length with a | ⟨b, a, e, c⟩
          · rw [a, if_pos rfl, if_pos rfl, if_pos rfl, if_pos rfl]; exact ⟨M1, rfl, k1⟩
          · rw [e, if_neg (show ¬ (b : Int) = -1 by omega), if_pos (show 0 ≤ (b : Int) ∧ (b : Int) < 120 by omega), if_neg (show ¬ (b : Int) = -1 by omega)]
            have s2 : uS (gU M1 746 (b : Int) 0) 746 (lsM T (b : Int)) := fun q hq => by
              unfold lsM
              by_cases y : q = b
              · rw [y, gU_same, decide_eq_true rfl, Bool.not_true, Bool.and_false]; rfl
              · rw [gU_idx (show (q : Int) ≠ (b : Int) by omega), s1 q hq, decide_eq_false (show ¬ (q : Int) = (b : Int) by omega), Bool.not_false, Bool.and_true]
            have f2 : ∀ c : Int, c ≠ 746 → gU M1 746 (b : Int) 0 c = M c := fun c hc => by rw [gU_cell _ _ _ hc]; exact f1 c hc
            rw [gI_bb (s_nextListed (uC_but hz.1 (by decide) f2) hO s2), gw32_id (by omega) (by omega)]
            exact ih (j + 1) _ _ (by omega) f2 s2
      exact lp n 0 M1 _ (by omega) f1 s1
    · rw [decide_eq_false q2, if_pos bIf, if_neg (fun w => q2 w.2)]; exact ⟨M, rfl, hz⟩
  · rw [decide_eq_false q1, if_pos bIf, if_neg (fun w => q1 w.1)]; exact ⟨M, rfl, hz⟩
-- the class: how many CHILDREN each has
def chN (cs : List kC) (T : Nat → Bool) (p : Int) : Nat → Int
  | 0 => 0
  | n + 1 => chN cs T p n + (if T n = true then pCnt p (fPs cs n) else 0)
theorem pCnt_app (k : Int) : ∀ xs ys : List Int, pCnt k (xs ++ ys) = pCnt k xs + pCnt k ys
  | [], _ => (Int.zero_add _).symm
  | x :: r, ys => by rw [List.cons_append, pCnt, pCnt, pCnt_app k r ys]; omega
theorem pCnt_zero {k : Int} : ∀ {xs : List Int}, pCnt k xs = 0 ↔ k ∉ xs
  | [] => ⟨fun _ w => (by cases w), fun _ => rfl⟩
  | x :: r => by
    have ih := pCnt_zero (k := k) (xs := r)
    have hr := pCnt_rng k r
    rw [pCnt]
    by_cases e : x = k
    · rw [if_pos e]
      exact ⟨fun h => by omega, fun h => absurd (by rw [e]; exact List.mem_cons_self) h⟩
    · rw [if_neg e, Int.zero_add, ih]
      exact ⟨fun h w => by
        rcases List.mem_cons.mp w with u | u
        · exact e u.symm
        · exact h u, fun h w => h (List.mem_cons_of_mem _ w)⟩
theorem fPs_3 {cs : List kC} (hO : kOk cs) (n : Nat) : (fPs cs n).length ≤ 3 := by
  unfold fPs
  split
  · rename_i c hc; exact (hO n c hc).1.1
  · exact Nat.zero_le _
theorem chN_rng {cs : List kC} (hO : kOk cs) (T : Nat → Bool) (p : Int) : ∀ n : Nat, 0 ≤ chN cs T p n ∧ chN cs T p n ≤ 3 * (n : Int)
  | 0 => ⟨Int.le_refl _, Int.le_refl _⟩
  | n + 1 => by
    have ih := chN_rng hO T p n
    have hr := pCnt_rng p (fPs cs n)
    have h3 := fPs_3 hO n
    rw [chN]
    split <;> omega
theorem chN_zero {cs : List kC} (hO : kOk cs) {T : Nat → Bool} {p : Int} : ∀ {n : Nat}, chN cs T p n = 0 ↔ ∀ m, m < n → ¬ (T m = true ∧ p ∈ fPs cs m)
  | 0 => ⟨fun _ m hm => by omega, fun _ => rfl⟩
  | n + 1 => by
    have ih := chN_zero hO (T := T) (p := p) (n := n)
    have hr := chN_rng hO T p n
    have hq := pCnt_rng p (fPs cs n)
    rw [chN]
    by_cases ht : T n = true
    · rw [if_pos ht]
      constructor
      · intro h m hm ⟨a, b⟩
        by_cases e : m = n
        · rw [e] at b
          exact pCnt_zero.mp (show pCnt p (fPs cs n) = 0 by omega) b
        · exact ih.mp (by omega) m (by omega) ⟨a, b⟩
      · intro h
        rw [ih.mpr (fun m hm => h m (by omega)), pCnt_zero.mpr (fun w => h n (by omega) ⟨ht, w⟩)]
        rfl
    · rw [if_neg ht, Int.add_zero, ih]
      exact ⟨fun h m hm w => by
        by_cases e : m = n
        · rw [e] at w; exact ht w.1
        · exact h m (by omega) w, fun h m hm => h m (by omega)⟩
theorem chN_less {cs : List kC} {T : Nat → Bool} {b : Nat} (h : T b = true) (p : Int) : ∀ n : Nat, chN cs (lsM T (b : Int)) p n = chN cs T p n - (if b < n then pCnt p (fPs cs b) else 0)
  | 0 => by rw [if_neg (by omega)]; rfl
  | n + 1 => by
    rw [chN, chN, chN_less h p n]
    by_cases e : n = b
    · subst e
      rw [show lsM T (n : Int) n = false by unfold lsM; rw [decide_eq_true rfl, Bool.not_true, Bool.and_false], if_neg (show ¬ false = true by decide), if_pos h, if_neg (show ¬ n < n by omega), if_pos (show n < n + 1 by omega)]
      omega
    · rw [show lsM T (b : Int) n = T n by unfold lsM; rw [decide_eq_false (show ¬ (n : Int) = (b : Int) by omega), Bool.not_false, Bool.and_true]]
      generalize (if T n = true then pCnt p (fPs cs n) else 0) = y
      by_cases l : b < n
      · rw [if_pos l, if_pos (show b < n + 1 by omega)]; omega
      · rw [if_neg l, if_neg (show ¬ b < n + 1 by omega)]; omega
def clR (cs : List kC) (T : Nat → Bool) (M : gM) : Prop := ∀ p : Int, 0 ≤ p → p < 120 → M 473 p = chN cs T p cs.length
theorem sp_X11_countChildren {sh : gS} {M : gM} {z : aS} {T : Nat → Bool} (hz : cS sh M z) (hO : kOk (aCs z)) (hT : mIs M 470 0 T) : gC (gr 1 23) yX11_countChildren cX11_countChildren 3 none [(4, 0)] sh M (gPm sh (fun r M1 => r = none ∧ gOK sh M1 ∧ (∀ b : Int, b ≠ 473 → M1 b = M b) ∧ clR (aCs z) T M1)) := by
  obtain ⟨hOK, hC, -⟩ := id hz
  have hl9 := hC.2.1
  have h473 : gsh sh 473 = some (1, 120) := gOK_sh hOK 473 rfl
  refine w_X11_countChildren hOK ⟨_, sp_J7_fill (n := 120) hOK h473 (by decide) (by decide), fun r1 M0 hP1 => ?_⟩
  obtain ⟨rfl, f1, f2, f3⟩ := hP1
  refine ⟨rfl, f2, ?_⟩
  have lp : ∀ (n k : Nat) (M1 : gM), k + n = (aCs z).length → gOK sh M1 → (∀ b : Int, b ≠ 473 → M1 b = M b) → (∀ p : Int, 0 ≤ p → p < 120 → M1 473 p = chN (aCs z) T p k) → P_X11_countChildren_10 sh (gPm sh (fun r M1 => r = none ∧ gOK sh M1 ∧ (∀ b : Int, b ≠ 473 → M1 b = M b) ∧ clR (aCs z) T M1)) (k : Int) M1 := by
    intro n
    induction n with
    | zero =>
      intro k M1 hk hO1 hf h1
      refine w_X11_countChildren_10 hO1 ?_
      rw [hf 4 (by decide), hC.1, if_neg (by omega)]
      exact ⟨rfl, rfl, hO1, hf, fun p p0 p1 => by rw [h1 p p0 p1, show k = (aCs z).length by omega]⟩
    | succ n ih =>
      intro k M1 hk hO1 hf h1
      have hkl : k < (aCs z).length := by omega
      have hc := List.getElem?_eq_getElem hkl
      generalize (aCs z)[k] = c at hc
      have hps : fPs (aCs z) k = kPs c := by unfold fPs; rw [hc]
      obtain ⟨⟨o1, o2, -⟩, hw, -⟩ := hC.2.2.2 k c hc
      refine w_X11_countChildren_10 hO1 ?_
      rw [hf 4 (by decide), hC.1, if_pos (by omega)]
      have inn : ∀ (suf pre : List Int) (M2 : gM), kPs c = pre ++ suf → gOK sh M2 → (∀ b : Int, b ≠ 473 → M2 b = M b) → (∀ p : Int, 0 ≤ p → p < 120 → M2 473 p = chN (aCs z) T p k + (if T k = true then pCnt p pre else 0)) → P_X11_countChildren_23 sh (gPm sh (fun r M1 => r = none ∧ gOK sh M1 ∧ (∀ b : Int, b ≠ 473 → M1 b = M b) ∧ clR (aCs z) T M1)) (k : Int) (pre.length : Int) M2 := by
        intro suf
        induction suf with
        | nil =>
          intro pre M2 e hO2 hf2 h2
          have hlen := congrArg List.length e
          rw [List.append_nil] at hlen e
          refine w_X11_countChildren_23 hO2 ⟨_, sp_X3_has hO2 (mSh470 hO2) (by decide), ?_⟩
          have nx := ih (k + 1) M2 (by omega) hO2 hf2 (fun p p0 p1 => by rw [h2 p p0 p1, chN, hps, e])
          have hT2 : mIs M2 470 0 T := fun q hq => by rw [mB_row ⟨congrFun (hf2 471 (by decide)) _, congrFun (hf2 472 (by decide)) _⟩]; exact hT q hq
          rw [mHas_of hT2 k (by omega), gw32_id (by omega) (by omega)]
          cases ht : T k with
          | false => rw [if_pos bIf]; exact nx
          | true =>
            rw [if_neg bIt]
            refine ⟨by omega, ?_⟩
            rw [hf2 5 (by decide), o1, if_neg (by omega)]
            exact nx
        | cons p r ih2 =>
          intro pre M2 e hO2 hf2 h2
          have hlen := congrArg List.length e
          rw [List.length_append, List.length_cons] at hlen
          have hp := hw.2.1 p (by rw [e]; simp)
          have h3 := hw.1
          have hv := o2 pre.length p (at_mid e)
          refine w_X11_countChildren_23 hO2 ⟨_, sp_X3_has hO2 (mSh470 hO2) (by decide), ?_⟩
          have hT2 : mIs M2 470 0 T := fun q hq => by rw [mB_row ⟨congrFun (hf2 471 (by decide)) _, congrFun (hf2 472 (by decide)) _⟩]; exact hT q hq
          rw [mHas_of hT2 k (by omega)]
          cases ht : T k with
          | false =>
            rw [if_pos bIf, gw32_id (by omega) (by omega)]
            exact ih (k + 1) M2 (by omega) hO2 hf2 (fun p p0 p1 => by rw [h2 p p0 p1, chN, ht]; rfl)
          | true =>
            rw [if_neg bIt]
            refine ⟨by omega, ?_⟩
            rw [hf2 5 (by decide), o1, if_pos (by omega)]
            refine ⟨_, sp_X1_parent hO2 (by omega) (by omega), ?_⟩
            rw [hf2 6 (by decide), hv]
            refine ⟨by omega, ?_⟩
            have hr := chN_rng hO T p k
            have hq := pCnt_rng p pre
            rw [h2 p (by omega) (by omega), ht, if_pos rfl]
            rw [gw32_id (z := (pre.length : Int) + 1) (by omega) (by omega), gw32_id (by omega) (by omega)]
            have nx := ih2 (pre ++ [p]) (gU M2 473 p (chN (aCs z) T p k + pCnt p pre + 1)) (by rw [e]; simp) (gOK_i hO2 h473) (fun b hb => by rw [gU_cell _ _ _ hb]; exact hf2 b hb) (fun q q0 q1 => by
              rw [if_pos ht, pCnt_app]
              by_cases y : q = p
              · rw [y, gU_same, pCnt, if_pos rfl, pCnt]; omega
              · rw [gU_idx y, h2 q q0 q1, if_pos ht, pCnt, if_neg (fun w => y w.symm), pCnt]; omega)
            rw [List.length_append] at nx
            simpa using nx
      exact inn (kPs c) [] M1 rfl hO1 hf (fun p p0 p1 => by rw [h1 p p0 p1, pCnt]; split <;> omega)
  exact lp (aCs z).length 0 M0 (by omega) f2 f3 (fun p p0 p1 => f1 p p0 p1)
theorem sp_X11_nextListed {sh : gS} {M : gM} {cs : List kC} {T : Nat → Bool} (hOK : gOK sh M) (hC : cOk sh M cs) (hO : kOk cs) (hT : mIs M 470 0 T) (hR : clR cs T M) : gC (gr 1 22) yX11_nextListed cX11_nextListed 4 (some (.int)) [(4, 0)] sh M (gPp sh M (0, lsN cs T cs.length)) := by
  have hl9 := hC.2.1
  refine w_X11_nextListed hOK ?_
  have lp : ∀ (n k : Nat), k + n = cs.length → P_X11_nextListed_4 sh (gPp sh M (0, lsN cs T cs.length)) (lsN cs T k) (k : Int) M := by
    intro n
    induction n with
    | zero =>
      intro k hk
      refine w_X11_nextListed_4 hOK ?_
      rw [hC.1, if_neg (by omega), show k = cs.length by omega]
      exact ⟨rfl, rfl, rfl⟩
    | succ n ih =>
      intro k hk
      have hkl : k < cs.length := by omega
      have hc := List.getElem?_eq_getElem hkl
      generalize cs[k] = c at hc
      have ih1 := ih (k + 1) (by omega)
      rw [lsN] at ih1
      have h1 := (hC.2.2.2 k c hc).1
      have zero : (T k && !chB cs T k) = false → P_X11_nextListed_41 sh (gPp sh M (0, lsN cs T cs.length)) (lsN cs T k) (k : Int) 0 M := fun hx => by
        refine w_X11_nextListed_41 hOK ?_
        rw [if_pos rfl, gw32_id (by omega) (by omega)]
        rw [hx, if_neg (by decide)] at ih1
        exact ih1
      refine w_X11_nextListed_4 hOK ?_
      rw [hC.1, if_pos (by omega)]
      refine ⟨_, sp_X3_has hOK (mSh470 hOK) (by decide), ?_⟩
      rw [mHas_of hT k (by omega)]
      cases ht : T k with
      | false => rw [if_pos bIf]; exact zero (by rw [ht]; rfl)
      | true =>
        rw [if_neg bIt]
        refine ⟨by omega, ?_⟩
        rw [hR (k : Int) (by omega) (by omega)]
        by_cases e : chN cs T (k : Int) cs.length = 0
        · rw [if_pos e]
          have hx : chB cs T k = false := by
            cases y : chB cs T k with
            | false => rfl
            | true =>
              obtain ⟨m, a, b, c⟩ := chB_iff.mp y
              exact absurd ⟨b, c⟩ ((chN_zero hO).mp e m a)
          rw [ht, hx, if_pos (by decide)] at ih1
          refine w_X11_nextListed_41 hOK ?_
          rw [if_neg (by decide), gw32_id (by omega) (by omega)]
          rcases lsN_at cs T k with a | ⟨m, a, b, -⟩
          · rw [if_pos (by omega)]; rw [if_pos a] at ih1; exact ih1
          · rw [b, if_neg (by omega)]
            rw [b, if_neg (by omega)] at ih1
            refine ⟨by omega, by omega, ?_⟩
            have hd := List.getElem?_eq_getElem (show m < cs.length by omega)
            generalize cs[m] = d at hd
            have h2 := (hC.2.2.2 m d hd).1
            rw [h1.2.2.2.2.2, h2.2.2.2.2.2]
            rw [Int.toNat_natCast, show fHr cs k = kHr c by unfold fHr; rw [hc], show fHr cs m = kHr d by unfold fHr; rw [hd]] at ih1
            by_cases y : kHr c < kHr d
            · rw [if_pos y]; rw [if_pos y] at ih1; exact ih1
            · rw [if_neg y]; rw [if_neg y] at ih1; exact ih1
        · rw [if_neg e]
          refine zero ?_
          have hx : chB cs T k = true := by
            cases y : chB cs T k with
            | true => rfl
            | false =>
              refine absurd ((chN_zero hO).mpr (fun m hm w => ?_)) e
              rw [chB_iff.mpr ⟨m, hm, w.1, w.2⟩] at y; cases y
          rw [hx]; exact Bool.and_false _
  exact lp cs.length 0 (by omega)
theorem sp_X11_listing {sh : gS} {M : gM} {z : aS} {h i : Int} (hz : cS sh M z) (hO : kOk (aCs z)) (hG : ∀ h : Int, 0 ≤ h → h < 4 → rGd ((aCs z).length : Int) (aRs z h)) : gC (gr 2 47) yX11_listing cX11_listing 6 (some (.int)) [(4, 0), (0, h), (0, i)] sh M (cPo sh M 0 (aListing z h i) z) := by
  obtain ⟨hOK, hC, -, hRs, -⟩ := id hz
  have hl9 := hC.2.1
  have h473 : gsh sh 473 = some (1, 120) := gOK_sh hOK 473 rfl
  unfold aListing
  refine w_X11_listing hOK ⟨_, sp_X11_isHistory hOK, ?_⟩
  by_cases q1 : 0 ≤ h ∧ h ≤ 3
  · rw [decide_eq_true q1, if_neg bIt]
    by_cases q2 : i < 0
    · rw [if_pos q2, if_neg (fun w => by omega)]; exact cPo_same hz rfl
    rw [if_neg q2]
    by_cases q3 : i < 120
    · rw [if_pos q3, if_pos (show (0 ≤ h ∧ h ≤ 3) ∧ (0 ≤ i ∧ i ≤ 119) from ⟨q1, by omega, by omega⟩)]
      have rA := (hRs h q1.1 (by omega)).1
      have gA := hG h q1.1 (by omega)
      obtain ⟨n, rfl⟩ : ∃ n : Nat, i = (n : Int) := ⟨i.toNat, by omega⟩
      rw [Int.toNat_natCast]
      refine ⟨⟨q1.1, by omega⟩, _, sp_X1_markHistory hOK hC rA (fun x hx => (gA.2 x hx).2.1) (mSh470 hOK) (by decide) (by decide) (by omega), fun r1 M1 hP1 => ?_⟩
      obtain ⟨rfl, s1, p2, p3, p4⟩ := hP1
      have hz1 : cS sh M1 z := cS_keep hz p2 (fun b hb => p3 b (by omega) (by omega))
      have tA : ∀ k, (aCs z).length ≤ k → hMark (aCs z) (aRs z h) k = false := fun k hk => hMark_top hO gA (by omega) hk
      generalize hMark (aCs z) (aRs z h) = S at s1 tA
      refine ⟨rfl, p2, _, sp_X3_size p2 (mSh470 p2) (by decide), ?_⟩
      have eS : cnt (mB M1 470 0) 128 = cnt S (aCs z).length := by rw [cnt_congr 128 (fun q hq => s1 q hq)]; exact cnt_cut (by omega) tA
      rw [eS]
      by_cases q4 : (n : Int) < cnt S (aCs z).length
      · rw [if_pos q4]
        refine ⟨_, sp_X11_countChildren hz1 hO s1, fun r2 M2 hP2 => ?_⟩
        obtain ⟨rfl, b1, b2, b3⟩ := hP2
        refine ⟨rfl, b1, ?_⟩
        have lp : ∀ (m j : Nat) (x3 : Int) (T : Nat → Bool) (M2 : gM), j + m = n → gOK sh M2 → (∀ b : Int, b < 470 ∨ 473 < b → M2 b = M b) → mIs M2 470 0 T → clR (aCs z) T M2 → P_X11_listing_61 sh (cPo sh M 0 (if lsG (aCs z) T m = -1 then -4 else lsG (aCs z) T m) z) h (n : Int) x3 (j : Int) M2 := by
          intro m
          induction m with
          | zero =>
            intro j x3 T M2 hj hO2 hf hT hR
            have hz2 : cS sh M2 z := cS_keep hz hO2 (fun b hb => hf b (by omega))
            refine w_X11_listing_61 hO2 ?_
            rw [if_neg (by omega), lsG]
            refine ⟨_, sp_X11_nextListed hO2 hz2.2.1 hO hT hR, ?_⟩
            rcases lsN_at (aCs z) T (aCs z).length with a | ⟨b, a, e, c⟩
            · rw [a, if_pos (by decide), if_pos rfl]; exact ⟨rfl, rfl, hz2, fun b hb => hf b (by omega)⟩
            · have hcb := List.getElem?_eq_getElem a
              generalize (aCs z)[b] = d at hcb
              obtain ⟨⟨o1, o2, -⟩, hw, -⟩ := hC.2.2.2 b d hcb
              rw [e, if_neg (by omega), if_neg (by omega)]
              refine ⟨_, sp_X3_cut hO2 (mSh470 hO2) (by decide) (by omega), fun r3 M3 hP3 => ?_⟩
              obtain ⟨rfl, c1, c2, c3, c4⟩ := hP3
              refine ⟨rfl, c2, ?_⟩
              have inn : ∀ (suf pre : List Int) (M4 : gM), kPs d = pre ++ suf → gOK sh M4 → (∀ b : Int, b < 470 ∨ 473 < b → M4 b = M b) → P_X11_listing_91 sh (cPo sh M 0 (b : Int) z) h (n : Int) (b : Int) (j : Int) (pre.length : Int) M4 := by
                intro suf
                induction suf with
                | nil =>
                  intro pre M4 e1 hO4 hf4
                  have hlen := congrArg List.length e1
                  rw [List.append_nil] at hlen
                  refine w_X11_listing_91 hO4 ⟨by omega, ?_⟩
                  rw [hf4 5 (by decide), o1, if_neg (by omega), gw32_id (by omega) (by omega)]
                  refine w_X11_listing_61 hO4 ?_
                  rw [if_pos (by omega)]
                  exact ⟨rfl, rfl, cS_keep hz hO4 (fun b hb => hf4 b (by omega)), fun b hb => hf4 b (by omega)⟩
                | cons p r ih2 =>
                  intro pre M4 e1 hO4 hf4
                  have hlen := congrArg List.length e1
                  rw [List.length_append, List.length_cons] at hlen
                  have hp := hw.2.1 p (by rw [e1]; simp)
                  have h3 := hw.1
                  have hv := o2 pre.length p (at_mid e1)
                  refine w_X11_listing_91 hO4 ⟨by omega, ?_⟩
                  rw [hf4 5 (by decide), o1, if_pos (by omega)]
                  refine ⟨_, sp_X1_parent hO4 (by omega) (by omega), ?_⟩
                  rw [hf4 6 (by decide), hv]
                  refine ⟨by omega, ?_⟩
                  rw [gw32_id (z := (pre.length : Int) + 1) (by omega) (by omega)]
                  have nx := ih2 (pre ++ [p]) (gU M4 473 p (gw32 (M4 473 p - 1))) (by rw [e1]; simp) (gOK_i hO4 h473) (fun b hb => by rw [gU_cell _ _ _ (by omega)]; exact hf4 b hb)
                  rw [List.length_append] at nx
                  simpa using nx
              exact inn (kPs d) [] M3 rfl c2 (fun b hb => by rw [c3 b (by omega) (by omega)]; exact hf b hb)
          | succ m ih =>
            intro j x3 T M2 hj hO2 hf hT hR
            have hz2 : cS sh M2 z := cS_keep hz hO2 (fun b hb => hf b (by omega))
            refine w_X11_listing_61 hO2 ?_
            rw [if_neg (by omega), lsG]
            refine ⟨_, sp_X11_nextListed hO2 hz2.2.1 hO hT hR, ?_⟩
            rcases lsN_at (aCs z) T (aCs z).length with a | ⟨b, a, e, c⟩
            · rw [a, if_pos (by decide), if_pos rfl, if_pos rfl]; exact ⟨rfl, rfl, hz2, fun b hb => hf b (by omega)⟩
            · have hcb := List.getElem?_eq_getElem a
              generalize (aCs z)[b] = d at hcb
              obtain ⟨⟨o1, o2, -⟩, hw, -⟩ := hC.2.2.2 b d hcb
              have hps : fPs (aCs z) b = kPs d := by unfold fPs; rw [hcb]
              rw [e, if_neg (by omega), if_neg (show ¬ (b : Int) = -1 by omega)]
              refine ⟨_, sp_X3_cut hO2 (mSh470 hO2) (by decide) (by omega), fun r3 M3 hP3 => ?_⟩
              obtain ⟨rfl, c1, c2, c3, c4⟩ := hP3
              refine ⟨rfl, c2, ?_⟩
              have hT3 : mIs M3 470 0 (lsM T (b : Int)) := fun q hq => by
                rw [c1 q hq]; dsimp only; rw [hT q hq]; unfold lsM; rw [show decide (q = b) = decide ((q : Int) = (b : Int)) from decide_eq_decide.mpr (by omega)]
              have inn : ∀ (suf pre : List Int) (M4 : gM), kPs d = pre ++ suf → gOK sh M4 → (∀ b : Int, b < 470 ∨ 473 < b → M4 b = M b) → mIs M4 470 0 (lsM T (b : Int)) → (∀ p : Int, 0 ≤ p → p < 120 → M4 473 p = chN (aCs z) T p (aCs z).length - pCnt p pre) → P_X11_listing_91 sh (cPo sh M 0 (if lsG (aCs z) (lsM T (b : Int)) m = -1 then -4 else lsG (aCs z) (lsM T (b : Int)) m) z) h (n : Int) (b : Int) (j : Int) (pre.length : Int) M4 := by
                intro suf
                induction suf with
                | nil =>
                  intro pre M4 e1 hO4 hf4 hT4 h4
                  have hlen := congrArg List.length e1
                  rw [List.append_nil] at hlen e1
                  refine w_X11_listing_91 hO4 ⟨by omega, ?_⟩
                  rw [hf4 5 (by decide), o1, if_neg (by omega), gw32_id (by omega) (by omega)]
                  exact ih (j + 1) (b : Int) _ M4 (by omega) hO4 hf4 hT4 (fun p p0 p1 => by rw [h4 p p0 p1, chN_less c, if_pos a, hps, e1])
                | cons p r ih2 =>
                  intro pre M4 e1 hO4 hf4 hT4 h4
                  have hlen := congrArg List.length e1
                  rw [List.length_append, List.length_cons] at hlen
                  have hp := hw.2.1 p (by rw [e1]; simp)
                  have h3 := hw.1
                  have hv := o2 pre.length p (at_mid e1)
                  have hr := chN_rng hO T p (aCs z).length
                  have hq := pCnt_rng p pre
                  refine w_X11_listing_91 hO4 ⟨by omega, ?_⟩
                  rw [hf4 5 (by decide), o1, if_pos (by omega)]
                  refine ⟨_, sp_X1_parent hO4 (by omega) (by omega), ?_⟩
                  rw [hf4 6 (by decide), hv]
                  refine ⟨by omega, ?_⟩
                  rw [h4 p (by omega) (by omega), gw32_id (z := (pre.length : Int) + 1) (by omega) (by omega), gw32_id (by omega) (by omega)]
                  have nx := ih2 (pre ++ [p]) (gU M4 473 p (chN (aCs z) T p (aCs z).length - pCnt p pre - 1)) (by rw [e1]; simp) (gOK_i hO4 h473) (fun b hb => by rw [gU_cell _ _ _ (by omega)]; exact hf4 b hb) (fun q hq => by rw [mB_row ⟨congrFun (gU_cell _ _ _ (by decide)) _, congrFun (gU_cell _ _ _ (by decide)) _⟩]; exact hT4 q hq) (fun q q0 q1 => by
                    rw [pCnt_app]
                    by_cases y : q = p
                    · rw [y, gU_same, pCnt, if_pos rfl, pCnt]; omega
                    · rw [gU_idx y, h4 q q0 q1, pCnt, if_neg (fun w => y w.symm), pCnt]; omega)
                  rw [List.length_append] at nx
                  simpa using nx
              exact inn (kPs d) [] M3 rfl c2 (fun b hb => by rw [c3 b (by omega) (by omega)]; exact hf b hb) hT3 (fun p p0 p1 => by rw [c3 473 (by omega) (by omega), hR p p0 p1, pCnt]; omega)
        exact lp n 0 (-1) S M2 (by omega) b1 (fun b hb => by rw [b2 b (by omega), p3 b (by omega) (by omega)]) (fun q hq => by rw [mB_row ⟨congrFun (b2 471 (by decide)) _, congrFun (b2 472 (by decide)) _⟩]; exact s1 q hq) b3
      · rw [if_neg q4, if_pos (lsG_out _ _ _ (by omega))]
        exact ⟨rfl, rfl, hz1, fun b hb => p3 b (by omega) (by omega)⟩
    · rw [if_neg q3, if_neg (fun w => by omega)]; exact cPo_same hz rfl
  · rw [decide_eq_false q1, if_pos bIf, if_neg (fun w => q1 w.1)]; exact cPo_same hz rfl
