-- ==== apart: the class
theorem mSh470 {sh : gS} {M : gM} (h : gOK sh M) : mSh sh 470 2 := ⟨gOK_sh h 470 rfl, gOK_sh h 471 rfl, gOK_sh h 472 rfl, by decide, by decide⟩
theorem cnt_and {A B : Nat → Bool} : ∀ n : Nat, cnt (fun j => A j && !B j) n = cnt A n - cnt (fun j => A j && B j) n
  | 0 => rfl
  | n + 1 => by
    have := cnt_and (A := A) (B := B) n
    rw [cnt, cnt, cnt, this]
    cases A n <;> cases B n <;> simp [bI] <;> omega
theorem cnt_cut {f : Nat → Bool} {n : Nat} (hn : n ≤ 128) (h : ∀ k, n ≤ k → f k = false) : cnt f 128 = cnt f n := by
  have := cnt_top (f := f) (n := n) (128 - n) (fun k a _ => h k a)
  rw [show n + (128 - n) = 128 by omega] at this; exact this
theorem sp_X11_apart {sh : gS} {M : gM} {z : aS} {h1 h2 i : Int} (hz : cS sh M z) (hO : kOk (aCs z)) (hG : ∀ h : Int, 0 ≤ h → h < 4 → rGd ((aCs z).length : Int) (aRs z h)) : gC (gr 2 47) yX11_apart cX11_apart 5 (some (.int)) [(4, 0), (0, h1), (0, h2), (0, i)] sh M (cPo sh M 0 (aApart (aCs z) (aRs z) h1 h2 i) z) := by
  obtain ⟨hOK, hC, -, hRs, -⟩ := id hz
  have hl9 := hC.2.1
  unfold aApart
  refine w_X11_apart hOK ⟨_, sp_X11_isHistory hOK, ?_⟩
  by_cases q1 : 0 ≤ h1 ∧ h1 ≤ 3
  · rw [decide_eq_true q1, if_neg bIt]
    refine ⟨_, sp_X11_isHistory hOK, ?_⟩
    by_cases q2 : 0 ≤ h2 ∧ h2 ≤ 3
    · rw [decide_eq_true q2, if_neg bIt]
      by_cases q3 : i < 0
      · rw [if_pos q3, if_neg (fun w => by omega)]; exact cPo_same hz rfl
      · rw [if_neg q3]
        by_cases q4 : (3 : Int) < i
        · rw [if_pos q4, if_neg (fun w => by omega)]; exact cPo_same hz rfl
        · rw [if_neg q4, if_pos (show (0 ≤ h1 ∧ h1 ≤ 3) ∧ (0 ≤ h2 ∧ h2 ≤ 3) ∧ (0 ≤ i ∧ i ≤ 3) from ⟨q1, q2, by omega, by omega⟩)]
          have rA := (hRs h1 q1.1 (by omega)).1
          have rB := (hRs h2 q2.1 (by omega)).1
          have gA := hG h1 q1.1 (by omega)
          have gB := hG h2 q2.1 (by omega)
          by_cases q5 : i = 3
          · rw [if_pos q5, if_pos q5]
            refine ⟨⟨q1.1, by omega⟩, ⟨q2.1, by omega⟩, ⟨rA.1.1, by omega⟩, _, sp_X7_missesOf hOK rA rB, ⟨rB.1.1, by omega⟩, _, sp_X7_missesOf hOK rB rA, _, sp_X7_movesOf hOK rA rB, cPo_same hz ?_⟩
            have e := apart_refs gA gB
            have c1 := (rMiss_is gB gA).1
            have c2 := (rMiss_is gA gB).1
            have c3 := (rMiss_is gB gA).2
            have l1 := rA.2.1
            have l2 := rB.2.1
            have k1 := List.countP_le_length (p := fun x : rF => decide (sAt (aRs z h2) (((rOrd x).toNat : Nat) : Int) ≠ x.2.2.1)) (l := aRs z h1)
            have k2 := List.countP_le_length (p := fun x : rF => decide (sAt (aRs z h1) (((rOrd x).toNat : Nat) : Int) ≠ x.2.2.1)) (l := aRs z h2)
            have k3 := List.countP_le_length (p := fun x : rF => decide (sAt (aRs z h2) (((rOrd x).toNat : Nat) : Int) ≠ -1 ∧ sAt (aRs z h2) (((rOrd x).toNat : Nat) : Int) ≠ x.2.2.1)) (l := aRs z h1)
            rw [← e]
            simp (disch := omega) only [gw32_id]
          · rw [if_neg q5, if_neg q5]
            refine ⟨⟨q1.1, by omega⟩, _, sp_X1_markHistory hOK hC rA (fun x hx => (gA.2 x hx).2.1) (mSh470 hOK) (by decide) (by decide) (by omega), fun r1 M1 hP1 => ?_⟩
            obtain ⟨rfl, s1, p2, p3, p4⟩ := hP1
            have hz1 : cS sh M1 z := cS_keep hz p2 (fun b hb => p3 b (by omega) (by omega))
            have rB1 := (hz1.2.2.2.1 h2 q2.1 (by omega)).1
            refine ⟨rfl, p2, ⟨q2.1, by omega⟩, _, sp_X1_markHistory p2 hz1.2.1 rB1 (fun x hx => (gB.2 x hx).2.1) (mSh470 p2) (by decide) (by decide) (by omega), fun r2 M2 hP2 => ?_⟩
            obtain ⟨rfl, t1, t2, t3, t4⟩ := hP2
            refine ⟨rfl, t2, _, sp_X3_sizeInBoth t2 (mSh470 t2) (by decide) (mSh470 t2) (by decide), ?_⟩
            have s2 : mIs M2 470 0 (hMark (aCs z) (aRs z h1)) := fun k hk => by rw [mB_row (t4 0 (by decide))]; exact s1 k hk
            have don : ∀ v w : Int, v = w → cPo sh M 0 w z (some (0, v)) sh M2 := fun v w e => ⟨rfl, by rw [e], cS_keep hz1 t2 (fun b hb => t3 b (by omega) (by omega)), fun b hb => by rw [t3 b (by omega) (by omega), p3 b (by omega) (by omega)]⟩
            generalize hA : hMark (aCs z) (aRs z h1) = A at s2
            generalize hB : hMark (aCs z) (aRs z h2) = B at t1
            have tA : ∀ k, (aCs z).length ≤ k → A k = false := fun k hk => by rw [← hA]; exact hMark_top hO gA (by omega) hk
            have tB : ∀ k, (aCs z).length ≤ k → B k = false := fun k hk => by rw [← hB]; exact hMark_top hO gB (by omega) hk
            have eAB : cnt (fun j => mB M2 470 0 j && mB M2 470 1 j) 128 = cnt (fun j => A j && B j) (aCs z).length := by
              rw [cnt_congr 128 (g := fun j => A j && B j) (fun j hj => by rw [s2 j hj, t1 j hj])]
              exact cnt_cut (by omega) (fun k hk => by rw [tA k hk]; rfl)
            have eA : cnt (mB M2 470 0) 128 = cnt A (aCs z).length := by rw [cnt_congr 128 (fun j hj => s2 j hj)]; exact cnt_cut (by omega) tA
            have eB : cnt (mB M2 470 1) 128 = cnt B (aCs z).length := by rw [cnt_congr 128 (fun j hj => t1 j hj)]; exact cnt_cut (by omega) tB
            have n1 := cnt_rng A (aCs z).length
            have n2 := cnt_rng B (aCs z).length
            have n3 := cnt_rng (fun j => A j && B j) (aCs z).length
            by_cases i1 : i = 1
            · rw [if_pos i1]
              refine don _ _ ?_
              rw [eAB]
              exact cnt_congr _ (fun j _ => by unfold apS; rw [if_neg (by omega), if_pos i1])
            · rw [if_neg i1]
              by_cases i0 : i = 0
              · rw [if_pos i0]
                refine ⟨_, sp_X3_size t2 (mSh470 t2) (by decide), don _ _ ?_⟩
                rw [eAB, eA, gw32_id (by omega) (by omega), ← cnt_and]
                exact cnt_congr _ (fun j _ => by unfold apS; rw [if_pos i0])
              · rw [if_neg i0]
                refine ⟨_, sp_X3_size t2 (mSh470 t2) (by decide), don _ _ ?_⟩
                rw [eAB, eB, gw32_id (by omega) (by omega), show cnt (fun j => A j && B j) (aCs z).length = cnt (fun j => B j && A j) (aCs z).length from cnt_congr _ (fun j _ => Bool.and_comm _ _), ← cnt_and]
                exact cnt_congr _ (fun j _ => by unfold apS; rw [if_neg i0, if_neg i1])
    · rw [decide_eq_false q2, if_pos bIf, if_neg (fun z => q2 z.2.1)]; exact cPo_same hz rfl
  · rw [decide_eq_false q1, if_pos bIf, if_neg (fun z => q1 z.1)]; exact cPo_same hz rfl
