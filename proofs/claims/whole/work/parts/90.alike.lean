-- ==== LIKENESS of two CONTENTS on both sides
def lkI (l s : Int) : Int := gfl (FP.fdiv (gu (gfl (FP.i2f (Int32.ofInt l)))) (gu (gfl (FP.i2f (Int32.ofInt s)))))
def lkF (x y : Int) : Int := lkI (2 * lc (dgs x) (dgs y)) (dgN 6 x + dgN 6 y)
theorem lkT : ∀ s : Nat, s < 13 → ∀ l : Nat, l < 7 → s = 0 ∨ FP.fdiv (gu (gfl (FP.i2f (Int32.ofInt (2 * (l : Int)))))) (gu (gfl (FP.i2f (Int32.ofInt (s : Int))))) &&& 0x7fffffff ≤ (0x7f800000 : UInt32) := by decide +kernel
theorem lk1 : ∀ l : Nat, l < 7 → l = 0 ∨ lkI (2 * (l : Int)) ((l : Int) + (l : Int)) = gfl FP.fconst1 := by decide +kernel
def cRg (x : Int) : Prop := 10 ≤ x ∧ x < 2000000
theorem dgN_pos {x : Int} (h : cRg x) : 1 ≤ dgN 6 x := by
  have := dgN_rng 5 (x / 10)
  rw [dgN, if_neg (by have := h.1; omega)]
  omega
theorem lk_ok {x y : Int} (hx : cRg x) (hy : cRg y) : FP.fdiv (gu (gfl (FP.i2f (Int32.ofInt (2 * lc (dgs x) (dgs y)))))) (gu (gfl (FP.i2f (Int32.ofInt (dgN 6 x + dgN 6 y))))) &&& 0x7fffffff ≤ (0x7f800000 : UInt32) := by
  have h1 := dgs_len x
  have h2 := dgs_len y
  have h3 := lc_rng (dgs x) (dgs y)
  have h4 := dgN_pos hx
  obtain ⟨l, hl⟩ : ∃ l : Nat, lc (dgs x) (dgs y) = (l : Int) := ⟨(lc (dgs x) (dgs y)).toNat, by omega⟩
  obtain ⟨s, hs⟩ : ∃ s : Nat, dgN 6 x + dgN 6 y = (s : Int) := ⟨(dgN 6 x + dgN 6 y).toNat, by omega⟩
  rw [hl, hs]
  exact (lkT s (by omega) l (by omega)).resolve_left (by omega)
theorem lk_self {x : Int} (hx : cRg x) : lkF x x = gfl FP.fconst1 := by
  have h1 := dgs_len x
  have h4 := dgN_pos hx
  unfold lkF
  rw [lc_self, ← h1.1]
  exact (lk1 (dgs x).length (by omega)).resolve_left (by omega)
theorem s_likenessOf {M : gM} {x y : Int} (hx : cRg x) (hy : cRg y) : ∃ M1, F_likenessOf M x y = some (lkF x y, M1) ∧ ∀ b : Int, b ≠ 750 → M1 b = M b := by
  obtain ⟨M1, e1, f1⟩ := s_inBoth (M := M) (x := x) (y := y) ⟨by have := hx.1; omega, by have := hx.2; omega⟩ ⟨by have := hy.1; omega, by have := hy.2; omega⟩
  have h1 := dgs_len x
  have h2 := dgs_len y
  have h3 := lc_rng (dgs x) (dgs y)
  rw [eq_likenessOf, gI_bb e1, gI_bb (s_digits (by have := hx.1; omega) (by have := hx.2; omega)), gI_bb (s_digits (by have := hy.1; omega) (by have := hy.2; omega))]
  refine ⟨M1, ?_, f1⟩
  show (if FP.fdiv (gu (gfl (FP.i2f (Int32.ofInt (gw32 (2 * lc (dgs x) (dgs y))))))) (gu (gfl (FP.i2f (Int32.ofInt (gw32 (dgN 6 x + dgN 6 y)))))) &&& 0x7fffffff ≤ (0x7f800000 : UInt32) then _ else _) = _
  rw [gw32_id (z := 2 * lc (dgs x) (dgs y)) (by omega) (by omega), gw32_id (z := dgN 6 x + dgN 6 y) (by omega) (by omega), if_pos (lk_ok hx hy)]
  rfl
-- ---- the class
def kSh (sh : gS) (a : Int) : Prop := gsh sh (a + 6) = some (1, 16) ∧ gsh sh (a + 7) = some (1, 16) ∧ gsh sh (a + 8) = some (5, 16) ∧ gsh sh (a + 9) = some (1, 16) ∧ gsh sh (a + 10) = some (1, 16) ∧ gsh sh (a + 11) = some (5, 256) ∧ gsh sh (a + 12) = some (1, 6) ∧ gsh sh (a + 13) = some (1, 6) ∧ gsh sh (a + 14) = some (1, 7) ∧ 400 < a ∧ a + 14 < 700
theorem kSh440 {sh : gS} {M : gM} (h : gOK sh M) : kSh sh 440 := ⟨gOK_sh h 446 rfl, gOK_sh h 447 rfl, gOK_sh h 448 rfl, gOK_sh h 449 rfl, gOK_sh h 450 rfl, gOK_sh h 451 rfl, gOK_sh h 452 rfl, gOK_sh h 453 rfl, gOK_sh h 454 rfl, by decide, by decide⟩
theorem kSh455 {sh : gS} {M : gM} (h : gOK sh M) : kSh sh 455 := ⟨gOK_sh h 461 rfl, gOK_sh h 462 rfl, gOK_sh h 463 rfl, gOK_sh h 464 rfl, gOK_sh h 465 rfl, gOK_sh h 466 rfl, gOK_sh h 467 rfl, gOK_sh h 468 rfl, gOK_sh h 469 rfl, by decide, by decide⟩
theorem dgs_get {x : Int} {i : Nat} (hi : i < (dgs x).length) : (dgs x)[i]? = some (x / (10 ^ ((dgs x).length - 1 - i) : Nat) % 10) := by
  have h := List.getElem?_eq_getElem hi
  rw [h]
  have := dgL_at _ i x _ h
  rw [this]
  unfold dgs
  rw [dgL_len]
theorem sp_X0_spread {sh : gS} {M : gM} {x t : Int} (hOK : gOK sh M) (hx : 0 ≤ x ∧ x < 10000000) (ht : gsh sh t = some (1, 6)) : gC (gr 1 22) yX0_spread cX0_spread 5 (some (.int)) [(0, x), (4, t)] sh M (gPm sh (fun r M1 => r = some (0, dgN 6 x) ∧ gOK sh M1 ∧ rw_ (M1 t) 0 (dgs x) ∧ ∀ b : Int, b ≠ t → M1 b = M b)) := by
  have hl := dgs_len x
  refine w_X0_spread hOK ⟨_, sp_X0_digitsIn ⟨hx.1, by omega⟩, ?_⟩
  rw [← hl.1, gw32_id (by omega) (by omega)]
  have lp : ∀ (i : Nat) (M1 : gM), i ≤ (dgs x).length → gOK sh M1 → (∀ b : Int, b ≠ t → M1 b = M b) → (∀ (j : Nat) (v : Int), i ≤ j → (dgs x)[j]? = some v → M1 t (j : Int) = v) → P_X0_spread_12 sh (gPm sh (fun r M1 => r = some (0, ((dgs x).length : Int)) ∧ gOK sh M1 ∧ rw_ (M1 t) 0 (dgs x) ∧ ∀ b : Int, b ≠ t → M1 b = M b)) x t ((dgs x).length : Int) (x / (10 ^ ((dgs x).length - i) : Nat)) ((i : Int) - 1) M1 := by
    intro i
    induction i with
    | zero =>
      intro M1 hi hO1 hf h1
      refine w_X0_spread_12 hO1 ?_
      rw [if_pos (by omega)]
      exact ⟨rfl, rfl, hO1, fun j v hj => by rw [Int.zero_add]; exact h1 j v (Nat.zero_le _) hj, hf⟩
    | succ i ih =>
      intro M1 hi hO1 hf h1
      have hq0 : 0 ≤ x / (10 ^ ((dgs x).length - (i + 1)) : Nat) := Int.ediv_nonneg hx.1 (Int.natCast_nonneg _)
      have hq1 : x / (10 ^ ((dgs x).length - (i + 1)) : Nat) ≤ x := Int.ediv_le_self _ hx.1
      refine w_X0_spread_12 hO1 ?_
      rw [if_neg (by omega), show ((i + 1 : Nat) : Int) - 1 = (i : Int) by omega]
      refine ⟨6, ht, ⟨by omega, by omega⟩, ?_⟩
      rw [gdiv_10 hq0 (by omega), grem_10 hq0 (by omega), gw32_id (by omega) (by omega), Int.ediv_ediv_of_nonneg (Int.natCast_nonneg _)]
      rw [show ((10 ^ ((dgs x).length - (i + 1)) : Nat) : Int) * 10 = ((10 ^ ((dgs x).length - i) : Nat) : Int) by rw [show (dgs x).length - i = ((dgs x).length - (i + 1)) + 1 by omega, Nat.pow_succ]; rfl]
      rw [show (i : Int) + -1 = (i : Int) - 1 by omega]
      refine ih _ (by omega) (gOK_i hO1 ht) (fun b hb => by rw [gU_cell _ _ _ hb]; exact hf b hb) (fun j v hj hv => ?_)
      by_cases e : j = i
      · subst e
        rw [gU_same]
        rw [dgs_get (by omega)] at hv
        rw [show (dgs x).length - (j + 1) = (dgs x).length - 1 - j by omega]
        exact Option.some.inj hv
      · rw [gU_idx (by omega)]; exact h1 j v (by omega) hv
  have := lp (dgs x).length M (Nat.le_refl _) hOK (fun _ _ => rfl) (fun j v hj hv => by have := (List.getElem?_eq_some_iff.mp hv).1; omega)
  rw [Nat.sub_self] at this
  simpa using this
theorem take_rev {a : List Int} {i : Nat} {v : Int} (h : a[i]? = some v) : (a.take (i + 1)).reverse = v :: (a.take i).reverse := by
  obtain ⟨h1, h2⟩ := List.getElem?_eq_some_iff.mp h
  rw [List.take_succ_eq_append_getElem h1, List.reverse_append, h2]; rfl
def pf (a b : List Int) (i j : Nat) : Int := lc (a.take i).reverse (b.take j).reverse
theorem sp_X0_longestInBoth {sh : gS} {M : gM} {a : Int} {xs ys : List Int} (hOK : gOK sh M) (hs0 : gsh sh a = some (0, 1)) (hK : kSh sh a) (hx : rw_ (M (a + 12)) 0 xs) (hy : rw_ (M (a + 13)) 0 ys) (lx : xs.length ≤ 6) (ly : ys.length ≤ 6) : gC (gr 1 23) yX0_longestInBoth cX0_longestInBoth 7 (some (.int)) [(4, a), (0, (xs.length : Int)), (0, (ys.length : Int))] sh M (gPm sh (fun r M1 => r = some (0, lc xs ys) ∧ gOK sh M1 ∧ ∀ b : Int, b ≠ a + 14 → M1 b = M b)) := by
  obtain ⟨-, -, -, -, -, -, k12, k13, k14, k0, k1⟩ := id hK
  refine w_X0_longestInBoth hOK ⟨⟨hs0, by omega⟩, _, sp_J7_fill (n := 7) hOK k14 (by decide) (by omega), fun r1 M0 hP1 => ?_⟩
  obtain ⟨rfl, f1, f2, f3⟩ := hP1
  refine ⟨rfl, f2, ?_⟩
  have row : ∀ (m i : Nat) (M1 : gM), i + m = xs.length → gOK sh M1 → (∀ b : Int, b ≠ a + 14 → M1 b = M b) → (∀ q : Nat, q ≤ ys.length → M1 (a + 14) (q : Int) = pf xs ys i q) → P_X0_longestInBoth_10 sh (gPm sh (fun r M1 => r = some (0, lc xs ys) ∧ gOK sh M1 ∧ ∀ b : Int, b ≠ a + 14 → M1 b = M b)) a (xs.length : Int) (ys.length : Int) (i : Int) M1 := by
    intro m
    induction m with
    | zero =>
      intro i M1 hi hO1 hf h1
      refine w_X0_longestInBoth_10 hO1 ?_
      rw [if_neg (by omega)]
      refine ⟨⟨hs0, by omega⟩, 7, k14, ⟨by omega, by omega⟩, rfl, ?_, hO1, hf⟩
      rw [h1 _ (Nat.le_refl _)]
      unfold pf
      rw [show i = xs.length by omega, List.take_length, List.take_length, lc_rev]
    | succ m ih =>
      intro i M1 hi hO1 hf h1
      obtain ⟨v, hv⟩ : ∃ v, xs[i]? = some v := ⟨_, List.getElem?_eq_getElem (by omega)⟩
      refine w_X0_longestInBoth_10 hO1 ?_
      rw [if_pos (by omega)]
      have col : ∀ (n j : Nat) (M2 : gM), j + n = ys.length → gOK sh M2 → (∀ b : Int, b ≠ a + 14 → M2 b = M b) → (∀ q : Nat, q ≤ ys.length → M2 (a + 14) (q : Int) = if q ≤ j then pf xs ys (i + 1) q else pf xs ys i q) → P_X0_longestInBoth_21 sh (gPm sh (fun r M1 => r = some (0, lc xs ys) ∧ gOK sh M1 ∧ ∀ b : Int, b ≠ a + 14 → M1 b = M b)) a (xs.length : Int) (ys.length : Int) (i : Int) (pf xs ys i j) (j : Int) M2 := by
        intro n
        induction n with
        | zero =>
          intro j M2 hj hO2 hf2 h2
          refine w_X0_longestInBoth_21 hO2 ?_
          rw [if_neg (by omega), gw32_id (by omega) (by omega)]
          exact ih (i + 1) M2 (by omega) hO2 hf2 (fun q hq => by rw [h2 q hq, if_pos (by omega)])
        | succ n ih2 =>
          intro j M2 hj hO2 hf2 h2
          obtain ⟨w, hw⟩ : ∃ w, ys[j]? = some w := ⟨_, List.getElem?_eq_getElem (by omega)⟩
          have e1 := h2 (j + 1) (by omega)
          have e0 := h2 j (by omega)
          rw [if_neg (by omega)] at e1
          rw [if_pos (Nat.le_refl _)] at e0
          have hxv := hx i v hv
          have hyw := hy j w hw
          rw [Int.zero_add] at hxv hyw
          refine w_X0_longestInBoth_21 hO2 ?_
          rw [if_pos (by omega), gw32_id (z := (j : Int) + 1) (by omega) (by omega)]
          refine ⟨⟨hs0, by omega⟩, 7, k14, ⟨by omega, by omega⟩, 6, k12, ⟨by omega, by omega⟩, 6, k13, ⟨by omega, by omega⟩, ?_⟩
          rw [hf2 (a + 12) (by omega), hf2 (a + 13) (by omega), hxv, hyw]
          have e1' : M2 (a + 14) ((j : Int) + 1) = pf xs ys i (j + 1) := e1
          rw [e1', e0]
          have hp : pf xs ys (i + 1) (j + 1) = if v = w then 1 + pf xs ys i j else if pf xs ys i (j + 1) < pf xs ys (i + 1) j then pf xs ys (i + 1) j else pf xs ys i (j + 1) := by
            unfold pf
            rw [take_rev hv, take_rev hw, lc_cons]
          have r0 := lc_rng (xs.take i).reverse (ys.take j).reverse
          rw [List.length_reverse, List.length_take] at r0
          have nx : ∀ u : Int, u = pf xs ys (i + 1) (j + 1) → P_X0_longestInBoth_21 sh (gPm sh (fun r M1 => r = some (0, lc xs ys) ∧ gOK sh M1 ∧ ∀ b : Int, b ≠ a + 14 → M1 b = M b)) a (xs.length : Int) (ys.length : Int) (i : Int) (pf xs ys i (j + 1)) ((j : Int) + 1) (gU M2 (a + 14) ((j : Int) + 1) u) := fun u hu =>
            ih2 (j + 1) _ (by omega) (gOK_i hO2 k14) (fun b hb => by rw [gU_cell _ _ _ hb]; exact hf2 b hb) (fun q hq => by
              by_cases e : q = j + 1
              · subst e
                rw [show ((j + 1 : Nat) : Int) = (j : Int) + 1 from rfl, gU_same, if_pos (Nat.le_refl _), hu]
              · rw [gU_idx (by omega), h2 q hq]
                by_cases c : q ≤ j
                · rw [if_pos c, if_pos (by omega)]
                · rw [if_neg c, if_neg (by omega)])
          by_cases c : v = w
          · rw [if_pos c, gw32_id (by unfold pf; omega) (by unfold pf; omega)]
            exact nx _ (by rw [hp, if_pos c]; omega)
          · rw [if_neg c]
            refine ⟨⟨by omega, by omega⟩, nx _ (by rw [hp, if_neg c])⟩
      have := col ys.length 0 M1 (by omega) hO1 hf (fun q hq => by
        rw [h1 q hq]
        by_cases c : q ≤ 0
        · rw [if_pos c, show q = 0 by omega]; unfold pf; rw [List.take_zero, List.reverse_nil, lc_nil2, lc_nil2]
        · rw [if_neg c])
      rw [show pf xs ys i 0 = 0 by unfold pf; rw [List.take_zero, List.reverse_nil, lc_nil2]] at this
      exact this
  exact row xs.length 0 M0 (by omega) f2 f3 (fun q hq => by
    rw [f1 (q : Int) (by omega) (by omega)]; unfold pf; rw [List.take_zero, List.reverse_nil, lc_nil])
theorem sp_X0_alike {sh : gS} {M : gM} {a x y : Int} (hOK : gOK sh M) (hs0 : gsh sh a = some (0, 1)) (hK : kSh sh a) (hx : cRg x) (hy : cRg y) : gC (gr 2 49) yX0_alike cX0_alike 5 (some (.float)) [(4, a), (0, x), (0, y)] sh M (gPm sh (fun r M1 => r = some (2, lkF x y) ∧ gOK sh M1 ∧ ∀ b : Int, b < a + 12 ∨ a + 14 < b → M1 b = M b)) := by
  obtain ⟨-, -, -, -, -, -, k12, k13, k14, k0, k1⟩ := id hK
  have h1 := dgs_len x
  have h2 := dgs_len y
  have h3 := lc_rng (dgs x) (dgs y)
  have h4 := dgN_pos hx
  have h5 := dgN_pos hy
  refine w_X0_alike hOK ?_
  by_cases e : x = y
  · rw [if_pos e, ← e]
    exact ⟨rfl, by rw [lk_self hx], hOK, fun _ _ => rfl⟩
  · rw [if_neg e]
    refine ⟨⟨hs0, by omega⟩, _, sp_X0_spread hOK ⟨by have := hx.1; omega, by have := hx.2; omega⟩ k12, fun r1 M1 hP1 => ?_⟩
    obtain ⟨rfl, a1, a2, a3⟩ := hP1
    refine ⟨_, rfl, a1, _, sp_X0_spread a1 ⟨by have := hy.1; omega, by have := hy.2; omega⟩ k13, fun r2 M2 hP2 => ?_⟩
    obtain ⟨rfl, b1, b2, b3⟩ := hP2
    refine ⟨_, rfl, b1, ?_⟩
    rw [gw32_id (z := dgN 6 x + dgN 6 y) (by omega) (by omega), if_neg (by omega)]
    have hL := sp_X0_longestInBoth b1 hs0 hK (xs := dgs x) (ys := dgs y) (by rw [b3 (a + 12) (by omega)]; exact a2) b2 h1.2 h2.2
    rw [h1.1, h2.1] at hL
    refine ⟨_, hL, fun r3 M3 hP3 => ?_⟩
    obtain ⟨rfl, c1, c2⟩ := hP3
    refine ⟨_, rfl, c1, ?_⟩
    rw [gw32_id (z := 2 * lc (dgs x) (dgs y)) (by omega) (by omega)]
    refine ⟨lk_ok hx hy, rfl, rfl, c1, fun b hb => by rw [c2 b (by omega), b3 b (by omega), a3 b (by omega)]⟩
