-- ==== MESSAGE': in the class
def mgM (el : Nat → Bool) (im : Int → Int) (D : List Int) : Option (List Int) := if mnt el D then some (mntS im D) else none
def mgW (pl : kP) (W : List Int) : Option (List Int) := if W.length ≤ 4 then (qGet (cdF 0 W) (pl.1 4)).map (fun v => wBits v 4) else none
/-- piece by piece -/
def mgGo (mn wd : List Int → Option (List Int)) : Nat → List Int → List Int
  | 0, _ => []
  | _ + 1, [] => []
  | n + 1, c :: r =>
    if c = 35 then 35 :: ((mn (rT 48 57 r)).getD (rT 48 57 r) ++ mgGo mn wd n (rR 48 57 r))
    else if 97 ≤ c ∧ c ≤ 122 then (wd (c :: rT 97 122 r)).getD (c :: rT 97 122 r) ++ mgGo mn wd n (rR 97 122 r)
    else c :: mgGo mn wd n r
theorem rR_len (lo hi : Int) (s : List Int) : (rT lo hi s).length + (rR lo hi s).length = s.length := by
  rw [← List.length_append, rT_app]
theorem sp_X8_carryMessage {sh : gS} {M : gM} {a : Int} {pl : kP} {k : Nat} {ms : List Int} {d : kC} {el : Nat → Bool} {im : Int → Int} (hOK : gOK sh M) (hP : plOk sh M a pl) (h : msgAt M (k : Int) ms) (hD : dOk sh M 380 d) (hE : mIs M 389 (k : Int) el) (hel : ∀ j : Nat, el j = true → j < 120) (him : ∀ q : Int, 0 ≤ q → q < 120 → M 395 q = im q) (hir : ∀ j : Nat, el j = true → im (j : Int) < 1000) (hwd : ∀ x ∈ pl.1 4, 0 ≤ x.2 ∧ x.2 < 2147483648) (ha : 397 < a) :
    gC (gr 2 51) yX8_carryMessage cX8_carryMessage 11 none [(4, 3), (4, a), (0, (k : Int))] sh M (gPm sh (fun r M1 => r = none ∧ dQ sh M (dAdds d (mgGo (mgM el im) (mgW pl) ms.length ms)) M1)) := by
  have hk1 := h.1
  have hll := h.2.2.2.1
  generalize hdT : dAdds d (mgGo (mgM el im) (mgW pl) ms.length ms) = dT
  have lp : ∀ (f : Nat) (suf pre : List Int) (piece : Nat) (d1 : kC) (M1 : gM), ms = pre ++ suf → suf.length ≤ f → piece + suf.length ≤ 24 → dQ sh M d1 M1 → dAdds d1 (mgGo (mgM el im) (mgW pl) f suf) = dT → P_X8_carryMessage_16 sh (gPm sh (fun r M1 => r = none ∧ dQ sh M dT M1)) a (k : Int) (ms.length : Int) (pre.length : Int) (piece : Int) M1 := by
    have nil : ∀ (pre : List Int) (piece : Nat) (M1 : gM), ms = pre → dQ sh M dT M1 → P_X8_carryMessage_16 sh (gPm sh (fun r M1 => r = none ∧ dQ sh M dT M1)) a (k : Int) (ms.length : Int) (pre.length : Int) (piece : Int) M1 := fun pre piece M1 e h1 => by
      refine w_X8_carryMessage_16 h1.2.1 ?_
      rw [e]
      split
      · rw [if_neg (by omega)]; exact ⟨rfl, rfl, h1⟩
      · exact ⟨rfl, rfl, h1⟩
    intro f
    induction f with
    | zero =>
      intro suf pre piece d1 M1 e hf hpc h1 ed
      have e0 := List.length_eq_zero_iff.mp (Nat.le_zero.mp hf)
      subst e0
      rw [List.append_nil] at e
      exact nil pre piece M1 e (by rw [← ed]; exact h1)
    | succ f ih =>
      intro suf pre piece d1 M1 e hf hpc h1 ed
      cases suf with
      | nil =>
        rw [List.append_nil] at e
        exact nil pre piece M1 e (by rw [← ed]; exact h1)
      | cons c r =>
        have hl := len_mid e
        rw [List.length_cons] at hf hpc
        have hO1 := h1.2.1
        have f1 : ∀ b : Int, b < 380 ∨ 388 < b → M1 b = M b := h1.2.2
        have hm1 : msgAt M1 (k : Int) ms := msgAt_fr h (f1 9 (by omega)) (f1 10 (by omega))
        have hcb := h.2.2.2.2 c (by rw [e]; simp)
        -- the piece
        have step : ∀ (p rest : List Int), c :: r = p ++ rest → p.length = 1 + pcN c r →
            (∀ d2 : kC, dAdds d2 (p ++ mgGo (mgM el im) (mgW pl) f rest) = dT → ∀ M2 : gM, dQ sh M d2 M2 → ∀ x8 x9 : Int, x9 < 0 → P_X8_carryMessage_159 sh (gPm sh (fun r M1 => r = none ∧ dQ sh M dT M1)) a (k : Int) (ms.length : Int) (pre.length : Int) (piece : Int) c ((pre.length + 1 + pcN c r : Nat) : Int) x8 x9 (pre.length : Int) M2) ∧
            (∀ d2 : kC, dAdds d2 (mgGo (mgM el im) (mgW pl) f rest) = dT → ∀ M2 : gM, dQ sh M d2 M2 → P_X8_carryMessage_16 sh (gPm sh (fun r M1 => r = none ∧ dQ sh M dT M1)) a (k : Int) (ms.length : Int) ((pre.length + 1 + pcN c r : Nat) : Int) (gw32 ((piece : Int) + 1)) M2) := by
          intro p rest ep hpl
          have hlen : 1 + r.length = p.length + rest.length := by have := congrArg List.length ep; rw [List.length_cons, List.length_append] at this; omega
          have hlt : ms.length = pre.length + (r.length + 1) := by rw [e]; simp
          have fin : ∀ d2 : kC, dAdds d2 (mgGo (mgM el im) (mgW pl) f rest) = dT → ∀ M2 : gM, dQ sh M d2 M2 → P_X8_carryMessage_16 sh (gPm sh (fun r M1 => r = none ∧ dQ sh M dT M1)) a (k : Int) (ms.length : Int) ((pre.length + 1 + pcN c r : Nat) : Int) (gw32 ((piece : Int) + 1)) M2 := fun d2 e2 M2 h2 => by
            have := ih rest (pre ++ p) (piece + 1) d2 M2 (by rw [e, ep, List.append_assoc]) (by omega) (by omega) h2 e2
            rw [List.length_append] at this
            rw [gw32_id (by omega) (by omega), show (piece : Int) + 1 = ((piece + 1 : Nat) : Int) by omega, show pre.length + 1 + pcN c r = pre.length + p.length by omega]
            exact this
          refine ⟨?_, fin⟩
          have raw : ∀ (w2 w1 : List Int) (d2 : kC) (M2 : gM) (x8 x9 : Int), p = w1 ++ w2 → dAdds d2 (w2 ++ mgGo (mgM el im) (mgW pl) f rest) = dT → dQ sh M d2 M2 → x9 < 0 → P_X8_carryMessage_159 sh (gPm sh (fun r M1 => r = none ∧ dQ sh M dT M1)) a (k : Int) (ms.length : Int) (pre.length : Int) (piece : Int) c ((pre.length + 1 + pcN c r : Nat) : Int) x8 x9 ((pre.length + w1.length : Nat) : Int) M2 := by
            intro w2
            induction w2 with
            | nil =>
              intro w1 d2 M2 x8 x9 e1 e2 h2 h9
              rw [List.append_nil] at e1
              refine w_X8_carryMessage_159 h2.2.1 ?_
              rw [if_pos h9, ← e1, if_neg (by omega)]
              exact fin d2 (by rw [← e2]; rfl) M2 h2
            | cons b q ihq =>
              intro w1 d2 M2 x8 x9 e1 e2 h2 h9
              have hl1 := len_mid e1
              have hb := h.2.2.2.2 b (by rw [e, ep, e1]; simp)
              have hm2 : msgAt M2 (k : Int) ms := msgAt_fr h (h2.2.2 9 (by omega)) (h2.2.2 10 (by omega))
              have eb := sp_msgByte (pre := pre ++ w1) (c := b) (r := q ++ rest) h2.2.1 hm2 (by rw [e, ep, e1]; simp)
              rw [List.length_append] at eb
              refine w_X8_carryMessage_159 h2.2.1 ?_
              rw [if_pos h9, if_pos (by omega)]
              refine ⟨_, eb, _, sp_X2_addToMessage h2.2.1 h2.1 hb, fun r3 M3 hP3 => ?_⟩
              obtain ⟨rfl, hP⟩ := hP3
              refine ⟨rfl, hP.2.1, ?_⟩
              have := ihq (w1 ++ [b]) (dAddM d2 b) M3 x8 x9 (app_mid e1) (by rw [← e2]; rfl) (dQ_add h2 hP) h9
              rw [List.length_append, List.length_singleton] at this
              rw [gw32_id (by omega) (by omega), show ((pre.length + w1.length : Nat) : Int) + 1 = ((pre.length + (w1.length + 1) : Nat) : Int) by omega]
              exact this
          intro d2 e2 M2 h2 x8 x9 h9
          exact raw p [] d2 M2 x8 x9 rfl e2 h2 h9
        refine w_X8_carryMessage_16 hO1 ?_
        rw [if_pos (by omega), if_pos (by omega)]
        refine ⟨_, sp_msgByte hO1 hm1 e, _, sp_X8_endOfPiece hO1 hm1 e, ?_⟩
        unfold mgGo at ed
        by_cases c35 : c = 35
        · rw [if_pos c35]
          rw [if_pos c35] at ed
          obtain ⟨s1, s2⟩ := step (35 :: rT 48 57 r) (rR 48 57 r) (by rw [List.cons_append, rT_app, c35]) (by unfold pcN; rw [if_pos c35, List.length_cons]; omega)
          have ep : pcN c r = (rT 48 57 r).length := by unfold pcN; rw [if_pos c35]
          have hM := sp_X8_carryMention (D := rT 48 57 r) (rest := rR 48 57 r) (d := d1) (el := el) (im := im) hO1 hm1 (by rw [rT_app, e, c35]) (rT_in r) h1.1 (by intro j hj; rw [mB_row (M := M) ⟨by rw [f1 (389 + 1) (by omega)], by rw [f1 (389 + 2) (by omega)]⟩]; exact hE j hj) hel (fun q q0 q1 => by rw [f1 395 (by omega)]; exact him q q0 q1) hir
          rw [gw32_id (z := (pre.length : Int) + 1) (by omega) (by omega), show (pre.length : Int) + 1 = ((pre.length + 1 : Nat) : Int) by omega, ep]
          refine ⟨_, hM, fun r2 M2 hP2 => ?_⟩
          obtain ⟨rfl, h2⟩ := hP2
          refine ⟨_, rfl, h2.2.1, ?_⟩
          rw [ep] at s1 s2
          have q2 : dQ sh M (if mnt el (rT 48 57 r) then dAdds d1 (35 :: mntS im (rT 48 57 r)) else d1) M2 := ⟨h2.1, h2.2.1, fun b hb => (h2.2.2 b hb).trans (f1 b hb)⟩
          cases hq : mnt el (rT 48 57 r) with
          | true =>
            rw [hq, if_pos rfl] at q2
            rw [if_neg bIt]
            have em : mgM el im (rT 48 57 r) = some (mntS im (rT 48 57 r)) := by unfold mgM; rw [hq, if_pos rfl]
            rw [em] at ed
            exact s2 _ (by rw [← ed]; show _ = dAdds d1 ((35 :: mntS im (rT 48 57 r)) ++ _); rw [dAdds_app]) M2 q2
          | false =>
            rw [hq, if_neg (by decide)] at q2
            rw [if_pos bIf]
            have em : mgM el im (rT 48 57 r) = none := by unfold mgM; rw [hq, if_neg (by decide)]
            rw [em] at ed
            refine w_X8_carryMessage_78 q2.2.1 ?_
            rw [if_pos (by omega)]
            refine w_X8_carryMessage_114 q2.2.1 ?_
            rw [if_pos (by decide)]
            exact s1 d1 (by rw [← ed]; rfl) M2 q2 (-1) (-1) (by decide)
        · rw [if_neg c35]
          rw [if_neg c35] at ed
          by_cases cl : 97 ≤ c ∧ c ≤ 122
          · rw [if_pos cl] at ed
            obtain ⟨s1, s2⟩ := step (c :: rT 97 122 r) (rR 97 122 r) (by rw [List.cons_append, rT_app]) (by unfold pcN; rw [if_neg c35, if_pos cl, List.length_cons]; omega)
            have ep : pcN c r = (rT 97 122 r).length := by unfold pcN; rw [if_neg c35, if_pos cl]
            have hls : isLs (c :: rT 97 122 r) := fun x hx => by
              rcases List.mem_cons.mp hx with z | z
              · rw [z]; exact cl
              · exact rT_ls r x z
            have hrl := rR_len 97 122 r
            refine w_X8_carryMessage_78 hO1 ?_
            rw [if_neg (by omega), if_neg (by omega), gw32_id (z := ((pre.length + 1 + pcN c r : Nat) : Int) - (pre.length : Int)) (by omega) (by omega)]
            by_cases q4 : (c :: rT 97 122 r).length ≤ 4
            · rw [List.length_cons] at q4
              rw [if_neg (by omega)]
              have hW := sp_X8_wordAt (pre := pre) (w := c :: rT 97 122 r) (rest := rR 97 122 r) hO1 hm1 (by rw [List.cons_append, rT_app]; exact e) hls (by rw [List.length_cons]; omega)
              rw [List.length_cons, show pre.length + ((rT 97 122 r).length + 1) = pre.length + 1 + pcN c r by omega] at hW
              refine ⟨_, hW, ?_⟩
              have rg := cdF_rng _ (c :: rT 97 122 r) rfl hls
              have p4 : (32 ^ (c :: rT 97 122 r).length : Nat) ≤ 32 ^ 4 := Nat.pow_le_pow_right (by decide) (by rw [List.length_cons]; omega)
              have p4' : (32 ^ 4 : Nat) = 1048576 := by decide
              refine w_X8_carryMessage_114 hO1 ?_
              rw [if_neg (by omega)]
              have hPa := hP.1.1
              have hP1 : plOk sh M1 a pl := plOk_keep hP (fun b b0 _ => f1 b (by omega))
              have hq4 : qOk sh M1 (a + 13) 4 (pl.1 4) := plP hP1 (i := 4) (by decide) (by omega)
              have hlt := hP.1.2.2.2.2.2.2.2.2.2.2
              refine ⟨⟨hPa, by omega⟩, ⟨hq4.1.1, by omega⟩, _, sp_X4_find hO1 hq4, ?_⟩
              have em : mgW pl (c :: rT 97 122 r) = (qGet (cdF 0 (c :: rT 97 122 r)) (pl.1 4)).map (fun v => wBits v 4) := by unfold mgW; rw [if_pos (by rw [List.length_cons]; omega)]
              rw [em] at ed
              rcases qFind_sp (cdF 0 (c :: rT 97 122 r)) (pl.1 4) 0 with ⟨x1, x2⟩ | ⟨pr, su, v, x0, x1, x2⟩
              · rw [x1, if_pos (by decide)]
                rw [x2] at ed
                exact s1 d1 (by rw [← ed]; rfl) M1 h1 _ (-1) (by decide)
              · rw [x1, if_neg (by omega)]
                rw [x2] at ed
                have hvr := hwd (cdF 0 (c :: rT 97 122 r), v) (by rw [x0]; simp)
                have hplen : (pl.1 4).length = pr.length + (su.length + 1) := by rw [x0]; simp
                have hq4l := hq4.2.1
                have hrow := hq4.2.2.2 pr.length (cdF 0 (c :: rT 97 122 r), v) (by rw [x0, List.getElem?_append_right (Nat.le_refl _), Nat.sub_self]; rfl)
                have hsec : M1 (a + 13 + 2) (0 + (pr.length : Int)) = v := congrArg Prod.snd hrow
                rw [hsec]
                refine ⟨4, hq4.1.2.2.1, ⟨by omega, by omega⟩, _, sp_X8_addWord hO1 h1.1 hvr, fun r2 M2 hP2 => ?_⟩
                obtain ⟨rfl, h2⟩ := hP2
                refine ⟨rfl, h2.2.1, ?_⟩
                refine w_X8_carryMessage_159 h2.2.1 ?_
                rw [if_neg (by omega)]
                exact s2 _ (by rw [← ed]; show _ = dAdds d1 (wBits v 4 ++ _); rw [dAdds_app]) M2 ⟨h2.1, h2.2.1, fun b hb => (h2.2.2 b hb).trans (f1 b hb)⟩
            · rw [List.length_cons] at q4
              rw [if_pos (by omega)]
              refine w_X8_carryMessage_114 hO1 ?_
              rw [if_pos (by decide)]
              have em : mgW pl (c :: rT 97 122 r) = none := by unfold mgW; rw [if_neg (by rw [List.length_cons]; omega)]
              rw [em] at ed
              exact s1 d1 (by rw [← ed]; rfl) M1 h1 (-1) (-1) (by decide)
          · rw [if_neg cl] at ed
            obtain ⟨s1, s2⟩ := step [c] r rfl (by unfold pcN; rw [if_neg c35, if_neg cl]; rfl)
            refine w_X8_carryMessage_78 hO1 ?_
            have fin : P_X8_carryMessage_114 sh (gPm sh (fun r M1 => r = none ∧ dQ sh M dT M1)) a (k : Int) (ms.length : Int) (pre.length : Int) (piece : Int) c ((pre.length + 1 + pcN c r : Nat) : Int) (-1) M1 := by
              refine w_X8_carryMessage_114 hO1 ?_
              rw [if_pos (by decide)]
              exact s1 d1 (by rw [← ed]; rfl) M1 h1 (-1) (-1) (by decide)
            by_cases c1 : c < 97
            · rw [if_pos c1]; exact fin
            · rw [if_neg c1, if_pos (by omega)]; exact fin
  refine w_X8_carryMessage hOK ⟨h.1, ?_⟩
  rw [h.2.1]
  exact lp ms.length ms [] 0 d M rfl (Nat.le_refl _) (by omega) ⟨hD, hOK, fun _ _ => rfl⟩ hdT
