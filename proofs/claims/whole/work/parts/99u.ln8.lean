-- ==== PlanText.read, plan
theorem plSh411' {sh : gS} {M : gM} (h : gOK sh M) : plSh sh 411 := by
  have q : ∀ (a : Int) (n : Nat), gsh sh a = some (0, 5) → gsh sh (a + 1) = some (1, n) → gsh sh (a + 2) = some (1, n) → a < 758 → n ≤ 10 → qSh sh a n := fun a n h1 h2 h3 h4 h5 => ⟨h1, h2, h3, h4, h5⟩
  exact ⟨gOK_sh h 411 rfl, q _ _ (gOK_sh h 412 rfl) (gOK_sh h 413 rfl) (gOK_sh h 414 rfl) (by decide) (by decide), q _ _ (gOK_sh h 415 rfl) (gOK_sh h 416 rfl) (gOK_sh h 417 rfl) (by decide) (by decide), q _ _ (gOK_sh h 418 rfl) (gOK_sh h 419 rfl) (gOK_sh h 420 rfl) (by decide) (by decide), q _ _ (gOK_sh h 421 rfl) (gOK_sh h 422 rfl) (gOK_sh h 423 rfl) (by decide) (by decide), q _ _ (gOK_sh h 424 rfl) (gOK_sh h 425 rfl) (gOK_sh h 426 rfl) (by decide) (by decide), q _ _ (gOK_sh h 427 rfl) (gOK_sh h 428 rfl) (gOK_sh h 429 rfl) (by decide) (by decide), q _ _ (gOK_sh h 430 rfl) (gOK_sh h 431 rfl) (gOK_sh h 432 rfl) (by decide) (by decide), gOK_sh h 433 rfl, gOK_sh h 434 rfl, by decide, by decide⟩
def aText (n : Int) (s : List Int) : Int × kP := lnGo n (s.length + 1) (plB0 0 0) 0 s 0
theorem sp_X6_read {sh : gS} {M : gM} {s : List Int} {N : Nat} {n : Int} (hOK : gOK sh M) (hB : tBy M s) (hL : M 1 1 = (s.length : Int)) (hN : N ≤ s.length) (h240 : N ≤ 240) (hn : 0 ≤ n) : gC (gr 9 195) yX6_read cX6_read 6 (some (.int)) [(4, 410), (4, 1), (0, (N : Int)), (0, n)] sh M (gPm sh (fun r M1 => r = some (0, (aText n (s.take N)).1) ∧ lF sh M M1 ∧ ((aText n (s.take N)).1 = 0 → plOk sh M1 411 (aText n (s.take N)).2))) := by
  refine w_X6_read hOK ⟨⟨sh_1 hOK, by decide⟩, ?_⟩
  generalize hMa : gU (gU M 410 1 n) 410 3 0 = Ma
  have ea : ∀ x : Int, x ≠ 410 → Ma x = M x := fun x hx => by rw [← hMa, gU_cell _ _ _ hx, gU_cell _ _ _ hx]
  have hOa : gOK sh Ma := by rw [← hMa]; exact gOK_o (f := 3) (gOK_o (f := 1) hOK (sh_410 hOK) rfl rfl) (sh_410 hOK) rfl rfl
  have hBa : tBy Ma s := tBy_keep hB (ea 2 (by decide))
  have hLa : Ma 1 1 = (s.length : Int) := by rw [ea 1 (by decide)]; exact hL
  refine ⟨_, sp_X9_begin hOa hBa hLa hN, fun r1 M1 hP1 => ?_⟩
  obtain ⟨rfl, rfl⟩ := hP1
  have hO1 : gOK sh (tBeg Ma (N : Int)) := gOK_tBeg hOa
  have hT1 := tBeg_in hBa hN
  have f1 : tBeg Ma (N : Int) 1 4 = 0 := by simp [tBeg, gU]
  have l1 : tBeg Ma (N : Int) 1 1 = Ma 1 1 := by simp [tBeg, gU]
  have e1 : ∀ x : Int, x ≠ 1 → tBeg Ma (N : Int) x = Ma x := fun x hx => by unfold tBeg; rw [gU_cell _ _ _ hx, gU_cell _ _ _ hx, gU_cell _ _ _ hx]
  generalize tBeg Ma (N : Int) = Mb at hO1 hT1 f1 l1 e1 ⊢
  refine ⟨rfl, hO1, _, sp_X5_begin hO1 (plSh411' hO1), fun r2 M2 hP2 => ?_⟩
  obtain ⟨rfl, p1, p2, p3⟩ := hP2
  refine ⟨rfl, p2, ?_⟩
  have hlen : (s.take N).length = N := by rw [List.length_take]; omega
  have hS : lS sh M M2 n (M2 410 2) 0 (s.take N) (plB0 (Mb 411 2) (Mb 411 3)) 0 := by
    have g : ∀ x : Int, x < 411 → M2 x = Mb x := fun x hx => p3 x (Or.inl hx)
    refine ⟨⟨p2, fun x x0 hx => by rw [p3 x (by omega), e1 x x0, ea x (by omega)], by rw [g 1 (by decide), l1, ea 1 (by decide)]⟩, tpIn_keep hT1 (g 1 (by decide)) (g 2 (by decide)), by rw [g 1 (by decide)]; exact f1, p1, ?_, rfl, ?_⟩
    · rw [g 410 (by decide), e1 410 (by decide), ← hMa, gU_idx (by decide), gU_same]
    · rw [g 410 (by decide), e1 410 (by decide), ← hMa, gU_same]; rfl
  obtain ⟨b1, b2⟩ := lnGo_b0 n (Mb 411 2) (Mb 411 3) ((s.take N).length + 1) (s.take N)
  have lp : ∀ (k : Nat) (i st p : Int) (s1 : List Int) (pl : kP) (T : Nat) (M3 : gM), lS sh M M3 n st p s1 pl T → T < 32 → (0 ≤ pl.2.1 1 ∧ pl.2.1 1 ≤ i) → (s1.length : Int) + 2 * i ≤ 240 → sgOk pl → s1.length < k → P_X6_read_25 sh (gPm sh (fun r M1 => r = some (0, (lnGo n k pl T s1 p).1) ∧ lF sh M M1 ∧ ((lnGo n k pl T s1 p).1 = 0 → plOk sh M1 411 (lnGo n k pl T s1 p).2))) 1 (N : Int) n i M3 := by
    intro k
    induction k with
    | zero => intro i st p s1 pl T M3 _ _ _ _ _ h; omega
    | succ k ih =>
      intro i st p s1 pl T M3 h hT hLn hsl hsg hk
      have hl := tpIn_len h.2.1
      refine w_X6_read_25 h.1.1 ?_
      rw [if_pos (by omega)]
      refine ⟨_, sp_X6_readLine h hn hT ⟨hLn.1, by omega⟩ hsg (by omega), fun r4 M4 hP4 => ?_⟩
      obtain ⟨rfl, hQ⟩ := hP4
      refine ⟨rfl, lQ_ok hQ, ⟨sh_1 (lQ_ok hQ), by decide⟩, ?_⟩
      unfold lnGo
      have hG := lnLine_G (n := n) (pl := pl) (T := T) (s := s1) hl.1
      generalize lnLine n pl T s1 p = y at hQ hG ⊢
      by_cases q : y.1 = 0
      · have h4 := hQ.1 q
        obtain ⟨⟨g1, g2⟩, g3, g4, g5, -⟩ := hG q
        rw [if_neg (show ¬ y.1 ≠ 0 from fun w => w q)]
        refine ⟨_, sp_X9_isAtEnd h4.1.1 h4.2.1, ?_⟩
        have e41 : M4 411 1 = pl.2.1 1 + 1 := by rw [← g3]; exact h4.2.2.2.1.2.2.2.1 1 (by decide)
        rw [e41, g3]
        -- the sign between LINES
        have more : ¬ (y.2.2.1 = [] ∧ 2 ≤ pl.2.1 1 + 1) → P_X6_read_61 sh (gPm sh (fun r M1 => r = some (0, (if hd y.2.2.1 ≠ 59 then (-1000 - y.2.1, pl) else lnGo n k y.2.2.2.1 y.2.2.2.2 y.2.2.1.tail (y.2.1 + 1)).1) ∧ lF sh M M1 ∧ ((if hd y.2.2.1 ≠ 59 then (-1000 - y.2.1, pl) else lnGo n k y.2.2.2.1 y.2.2.2.2 y.2.2.1.tail (y.2.1 + 1)).1 = 0 → plOk sh M1 411 (if hd y.2.2.1 ≠ 59 then (-1000 - y.2.1, pl) else lnGo n k y.2.2.2.1 y.2.2.2.2 y.2.2.1.tail (y.2.1 + 1)).2))) 1 (N : Int) n i 0 M4 := fun _ => by
          refine w_X6_read_61 h4.1.1 ⟨⟨sh_1 h4.1.1, by decide⟩, ?_⟩
          rw [h4.2.2.1, if_pos (show (0 : Int) = 0 from rfl), if_pos (show (0 : Int) = 0 from rfl)]
          refine ⟨_, sp_X9_expect h4.1.1 h4.2.1 (by decide), fun r5 M5 hP5 => ?_⟩
          by_cases q5 : hd y.2.2.1 = 59
          · rw [if_pos q5] at hP5
            rw [if_neg (show ¬ hd y.2.2.1 ≠ 59 from fun w => w q5)]
            have hR5 := lR_tP h4 hP5
            obtain ⟨rfl, k1, k2, k3, k4⟩ := hR5
            have h5 := k4 rfl
            refine ⟨_, rfl, k1.1, ?_⟩
            rw [if_neg (show ¬ (1 : Int) = 0 by decide), gw32_id (by omega) (by omega)]
            have htl : y.2.2.1.tail.length + 1 = y.2.2.1.length := by
              cases hh : y.2.2.1 with
              | nil => rw [hh] at q5; exact absurd q5 (by decide)
              | cons c r => rfl
            exact ih (i + 1) _ _ _ _ _ M5 h5 (g4 hT) ⟨by omega, by omega⟩ (by omega) (g5 hsg) (by omega)
          · rw [if_neg q5] at hP5
            rw [if_pos (show hd y.2.2.1 ≠ 59 from q5)]
            have hR5 := lR_tP h4 hP5
            obtain ⟨rfl, k1, k2, k3, k4⟩ := hR5
            refine ⟨_, rfl, k1.1, ?_⟩
            rw [if_pos (show (0 : Int) = 0 from rfl)]
            exact ⟨rfl, by rw [k2], k1, fun w => (by have w' : -1000 - y.2.1 = 0 := w; have := tpIn_len h4.2.1; omega)⟩
        by_cases q1 : y.2.2.1 = []
        · rw [if_pos q1, if_neg (show ¬ (1 : Int) = 0 by decide)]
          by_cases q2 : pl.2.1 1 + 1 < 2
          · rw [if_pos q2, if_neg (show ¬ (y.2.2.1 = [] ∧ 2 ≤ pl.2.1 1 + 1) from fun w => by have := w.2; omega)]
            exact more (fun w => by have := w.2; omega)
          · rw [if_neg q2, if_pos (show y.2.2.1 = [] ∧ 2 ≤ pl.2.1 1 + 1 from ⟨q1, by omega⟩)]
            refine w_X6_read_61 h4.1.1 ⟨⟨sh_1 h4.1.1, by decide⟩, ?_⟩
            rw [h4.2.2.1, if_pos (show (0 : Int) = 0 from rfl), if_neg (show ¬ (1 : Int) = 0 by decide)]
            exact ⟨rfl, rfl, h4.1, fun _ => h4.2.2.2.1⟩
        · rw [if_neg q1, if_pos (show (0 : Int) = 0 from rfl), if_neg (show ¬ (y.2.2.1 = [] ∧ 2 ≤ pl.2.1 1 + 1) from fun w => q1 w.1)]
          exact more (fun w => q1 w.1)
      · obtain ⟨k1, k2⟩ := hQ.2 q
        rw [if_pos (show y.1 ≠ 0 from q)]
        have no : ∀ s0 : Int, P_X6_read_61 sh (gPm sh (fun r M1 => r = some (0, y.1) ∧ lF sh M M1 ∧ (y.1 = 0 → plOk sh M1 411 pl))) 1 (N : Int) n i s0 M4 := fun s0 => by
          refine w_X6_read_61 k1.1 ⟨⟨sh_1 k1.1, by decide⟩, ?_⟩
          rw [k2, if_neg q]
          exact ⟨rfl, rfl, k1, fun w => absurd w q⟩
        refine ⟨_, sp_X9_isAtEnd2 k1.1, ?_⟩
        generalize (if M4 1 2 < M4 1 3 then (0 : Int) else 1) = v
        by_cases v0 : v = 0
        · rw [if_pos v0]; exact no 0
        · rw [if_neg v0]
          by_cases v1 : M4 411 1 < 2
          · rw [if_pos v1]; exact no 0
          · rw [if_neg v1]; exact no 1
  have := lp ((s.take N).length + 1) 0 _ 0 (s.take N) _ 0 M2 hS (by decide) ⟨(show (0 : Int) ≤ 0 by decide), (show (0 : Int) ≤ 0 by decide)⟩ (by rw [hlen]; omega) ⟨List.nodup_nil, fun x hx => (by cases hx)⟩ (Nat.lt_succ_self _)
  rw [b1] at this
  unfold aText
  by_cases q : (lnGo n ((s.take N).length + 1) (plB0 0 0) 0 (s.take N) 0).1 = 0
  · rw [b2 q] at this; exact this
  · have e : (fun (r : Option gV) (M1 : gM) => r = some (0, (lnGo n ((s.take N).length + 1) (plB0 0 0) 0 (s.take N) 0).1) ∧ lF sh M M1 ∧ ((lnGo n ((s.take N).length + 1) (plB0 0 0) 0 (s.take N) 0).1 = 0 → plOk sh M1 411 (lnGo n ((s.take N).length + 1) (plB0 (Mb 411 2) (Mb 411 3)) 0 (s.take N) 0).2)) = (fun r M1 => r = some (0, (lnGo n ((s.take N).length + 1) (plB0 0 0) 0 (s.take N) 0).1) ∧ lF sh M M1 ∧ ((lnGo n ((s.take N).length + 1) (plB0 0 0) 0 (s.take N) 0).1 = 0 → plOk sh M1 411 (lnGo n ((s.take N).length + 1) (plB0 0 0) 0 (s.take N) 0).2)) :=
      funext fun r => funext fun M1 => propext ⟨fun ⟨a, b, _⟩ => ⟨a, b, fun w => absurd w q⟩, fun ⟨a, b, _⟩ => ⟨a, b, fun w => absurd w q⟩⟩
    rw [e] at this
    exact this
def plPut (fA : Int → kP) (p : Int) (pl : kP) : Int → kP := fun i => if i = p then pl else fA i
def aPlan (z : aS) (p N : Int) : Int × aS :=
  if (0 ≤ p ∧ p ≤ 3) ∧ (1 ≤ N ∧ N ≤ 240) ∧ N ≤ ((aTp z).length : Int) then
    (if (aText ((aCs z).length : Int) ((aTp z).take N.toNat)).1 = 0 then ((aText ((aCs z).length : Int) ((aTp z).take N.toNat)).2.2.1 1, ([], z.2.1, z.2.2.1, plPut (aPl z) p (aText ((aCs z).length : Int) ((aTp z).take N.toNat)).2, z.2.2.2.2))
    else ((aText ((aCs z).length : Int) ((aTp z).take N.toNat)).1, ([], z.2)))
  else (-1, z)
theorem cS_lF {sh : gS} {M M1 : gM} {z : aS} (hz : cS sh M z) (f : lF sh M M1) : cS sh M1 z := by
  obtain ⟨hOK, hC, ⟨hB, hL⟩, hRs, hPl, hSv⟩ := hz
  have e : ∀ x : Int, x ≠ 1 → (x < 410 ∨ 434 < x) → M1 x = M x := f.2.1
  exact ⟨f.1, cOk_fr hC (fun b b0 b1 => e b (by omega) (by omega)), ⟨tBy_keep hB (e 2 (by decide) (by decide)), by rw [f.2.2]; exact hL⟩, fun i i0 i1 => ⟨rOk_keep (hRs i i0 i1).1 (fun b b0 b1 => e b (by omega) (by omega)), rOk_keep (hRs i i0 i1).2 (fun b b0 b1 => e b (by omega) (by omega))⟩, fun i i0 i1 => ⟨plOk_keep (hPl i i0 i1).1 (fun b b0 b1 => e b (by omega) (by omega)), plOk_keep (hPl i i0 i1).2 (fun b b0 b1 => e b (by omega) (by omega))⟩, by rw [e 0 (by decide) (by decide)]; exact hSv⟩
theorem sp_X11_plan {sh : gS} {M : gM} {z : aS} {p N : Int} (hz : cS sh M z) (h01 : (aText ((aCs z).length : Int) ((aTp z).take N.toNat)).1 = 0 → (aText ((aCs z).length : Int) ((aTp z).take N.toNat)).2.2.1 0 = 1) : gC (gr 10 220) yX11_plan cX11_plan 4 (some (.int)) [(4, 0), (0, p), (0, N)] sh M (cPo sh M 0 (aPlan z p N).1 (aPlan z p N).2) := by
  obtain ⟨hOK, hC, ⟨hB, hL⟩, hRs, hPl, hSv⟩ := id hz
  unfold aPlan
  refine w_X11_plan hOK ⟨_, sp_X11_isPlan hOK, ?_⟩
  by_cases q1 : 0 ≤ p ∧ p ≤ 3
  · rw [decide_eq_true q1, if_neg bIt]
    by_cases q2 : N < 1
    · rw [if_pos q2, if_neg (fun w => by have := w.2.1.1; omega)]; exact cPo_same hz rfl
    rw [if_neg q2]
    by_cases q3 : 240 < N
    · rw [if_pos q3, if_neg (fun w => by have := w.2.1.2; omega)]; exact cPo_same hz rfl
    rw [if_neg q3, hL]
    by_cases q4 : ((aTp z).length : Int) < N
    · rw [if_pos q4, if_neg (fun w => by have := w.2.2; omega)]; exact cPo_same hz rfl
    rw [if_neg q4, if_pos (show (0 ≤ p ∧ p ≤ 3) ∧ (1 ≤ N ∧ N ≤ 240) ∧ N ≤ ((aTp z).length : Int) from ⟨q1, ⟨by omega, by omega⟩, by omega⟩)]
    have hR := sp_X6_read (N := N.toNat) (n := ((aCs z).length : Int)) hOK hB hL (by omega) (by omega) (by omega)
    rw [show ((N.toNat : Nat) : Int) = N by omega] at hR
    rw [hC.1]
    refine ⟨_, hR, fun r1 M1 hP1 => ?_⟩
    obtain ⟨rfl, f1, f2⟩ := hP1
    refine ⟨_, rfl, f1.1, ?_⟩
    generalize aText ((aCs z).length : Int) ((aTp z).take N.toNat) = y at f2 h01 ⊢
    have hO2 : gOK sh (gU M1 1 1 0) := gOK_o (f := 1) f1.1 (sh_1 f1.1) rfl rfl
    have e2 : ∀ x : Int, x ≠ 1 → (x < 410 ∨ 434 < x) → gU M1 1 1 0 x = M x := fun x x0 hx => by rw [gU_cell _ _ _ x0]; exact f1.2.1 x x0 hx
    by_cases q : y.1 = 0
    · rw [if_pos q, if_pos q]
      have hp2 : plOk sh (gU M1 1 1 0) 411 y.2 := plOk_keep (f2 q) (fun b b0 _ => gU_cell _ _ _ (by omega))
      have hpp := (hPl p q1.1 (by omega)).1.1
      refine ⟨⟨q1.1, by omega⟩, ⟨hpp.1, by omega⟩, _, sp_X5_copy hO2 hpp hp2 (Or.inr (by omega)) (Or.inr (h01 q)), fun r3 M3 hP3 => ?_⟩
      obtain ⟨rfl, k1, k2, k3⟩ := hP3
      refine ⟨rfl, k2, rfl, ?_⟩
      have e3 : ∀ x : Int, x ≠ 1 → (x < 410 ∨ 434 < x) → (x < 519 + 48 * p ∨ 519 + 48 * p + 23 < x) → M3 x = M x := fun x x0 hx hx2 => by rw [k3 x hx2]; exact e2 x x0 hx
      have e31 : M3 (519 + 48 * p) 1 = y.2.2.1 1 := k1.2.2.2.1 1 (by decide)
      refine ⟨by rw [e31], ⟨k2, cOk_fr hC (fun b b0 b1 => e3 b (by omega) (by omega) (by omega)), ⟨tBy_nil M3, by rw [k3 1 (by omega), gU_same]; rfl⟩, fun i i0 i1 => ⟨rOk_keep (hRs i i0 i1).1 (fun b b0 b1 => e3 b (by omega) (by omega) (by omega)), rOk_keep (hRs i i0 i1).2 (fun b b0 b1 => e3 b (by omega) (by omega) (by omega))⟩, fun i i0 i1 => ⟨?_, plOk_keep (hPl i i0 i1).2 (fun b b0 b1 => e3 b (by omega) (by omega) (by omega))⟩, by rw [e3 0 (by decide) (by decide) (by omega)]; exact hSv⟩, fun b hb => e3 b (by omega) (by omega) (by omega)⟩
      show plOk sh M3 (519 + 48 * i) (plPut (aPl z) p y.2 i)
      unfold plPut
      by_cases e : i = p
      · rw [if_pos e, e]; exact k1
      · rw [if_neg e]; exact plOk_keep (hPl i i0 i1).1 (fun b b0 b1 => e3 b (by omega) (by omega) (by omega))
    · rw [if_neg q, if_neg q]
      refine ⟨rfl, rfl, cS_tape (M := M1) (cS_lF hz f1) hO2 (fun b b0 => gU_cell _ _ _ b0) (gU_same _ _ _ _), fun b hb => e2 b (by omega) (by omega)⟩
  · rw [decide_eq_false q1, if_pos bIf, if_neg (fun w => q1 w.1)]; exact cPo_same hz rfl
