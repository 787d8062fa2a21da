-- ==== PlanText: pairs, LINES
def sgOk (pl : kP) : Prop := ((pl.1 6).map Prod.fst).Nodup ∧ ∀ x ∈ pl.1 6, 0 ≤ x.1 ∧ x.1 ≤ 9
def nA (a x : Int) : Bool := !decide (x = a)
theorem nA_t {a x : Int} (h : x ≠ a) : nA a x = true := by unfold nA; rw [decide_eq_false h]; rfl
theorem nA_f (a : Int) : ¬ nA a a = true := by unfold nA; rw [decide_eq_true (show a = a from rfl)]; decide
theorem nd_fil (a : Int) : ∀ (l : List Int), l.Nodup → l.length ≤ (l.filter (nA a)).length + 1
  | [], _ => Nat.zero_le _
  | b :: r, h => by
    obtain ⟨h1, h2⟩ := List.nodup_cons.mp h
    by_cases e : b = a
    · subst e
      have : r.filter (nA b) = r := List.filter_eq_self.mpr (fun x hx => nA_t (fun w => h1 (by rw [← w]; exact hx)))
      rw [List.filter_cons_of_neg (nA_f b), this, List.length_cons]; omega
    · rw [List.filter_cons_of_pos (nA_t e), List.length_cons, List.length_cons]
      have := nd_fil a r h2
      omega
theorem nd_len : ∀ (m : Nat) (l : List Int), l.Nodup → (∀ x ∈ l, 0 ≤ x ∧ x < (m : Int)) → l.length ≤ m
  | 0, l, _, h => by
    cases l with
    | nil => exact Nat.le_refl _
    | cons x r => have := h x List.mem_cons_self; omega
  | m + 1, l, hn, h => by
    have h1 := nd_fil (m : Int) l hn
    have h2 := nd_len m (l.filter (nA (m : Int))) (hn.filter _) (fun x hx => by
      obtain ⟨a, b⟩ := List.mem_filter.mp hx
      have := h x a
      have : x ≠ (m : Int) := fun w => by rw [w] at b; exact nA_f _ b
      omega)
    omega
theorem qFind_no {w : Int} : ∀ {ps : List (Int × Int)} {i : Int}, 0 ≤ i → (qFind w ps i < 0 ↔ ∀ x ∈ ps, x.1 ≠ w)
  | [], i, _ => ⟨fun _ x hx => (by cases hx), fun _ => (by show (-1 : Int) < 0; decide)⟩
  | f :: r, i, hi => by
    unfold qFind
    by_cases e : f.1 = w
    · rw [if_pos e]
      exact ⟨fun h => by omega, fun h => absurd e (h f List.mem_cons_self)⟩
    · rw [if_neg e, qFind_no (by omega)]
      exact ⟨fun h x hx => (by
        rcases List.mem_cons.mp hx with w | w
        · rw [w]; exact e
        · exact h x w), fun h x hx => h x (List.mem_cons_of_mem _ hx)⟩
theorem sg_add {pl : kP} (h : sgOk pl) {k v : Int} (hk : 0 ≤ k ∧ k ≤ 9) (hf : qFind k (pl.1 6) 0 < 0) : (pl.1 6).length + 1 ≤ 10 ∧ sgOk (lnAdd pl 6 (k, v)) := by
  have hn := (qFind_no (by decide)).mp hf
  have e : (lnAdd pl 6 (k, v)).1 6 = pl.1 6 ++ [(k, v)] := rfl
  have s2 : sgOk (lnAdd pl 6 (k, v)) := by
    unfold sgOk
    rw [e]
    refine ⟨?_, fun x hx => ?_⟩
    · rw [List.map_append, List.nodup_append]
      refine ⟨h.1, (show [k].Nodup by simp), fun a ha b hb => ?_⟩
      obtain ⟨x, hx, rfl⟩ := List.mem_map.mp ha
      rw [List.mem_singleton.mp hb]
      exact hn x hx
    · rcases List.mem_append.mp hx with w | w
      · exact h.2 x w
      · rw [List.mem_singleton.mp w]; exact hk
  refine ⟨?_, s2⟩
  have := nd_len 10 _ s2.1 (fun x hx => by
    obtain ⟨y, hy, rfl⟩ := List.mem_map.mp hx
    have := s2.2 y hy
    omega)
  rw [e, List.length_map, List.length_append, List.length_singleton] at this
  exact this
theorem lQ_ok {sh : gS} {M0 M : gM} {n st : Int} {y : pL} (h : lQ sh M0 n st y M) : gOK sh M := by
  by_cases q : y.1 = 0
  · exact (h.1 q).1.1
  · exact (h.2 q).1.1
/-- room for one pair more -/
def lnRoom (w : Nat) (pl : kP) : Prop := if w = 8 then sgOk pl else (pl.1 (w - 2)).length < 4
theorem sp_X6_readPair {sh : gS} {M0 M : gM} {n st p : Int} {s : List Int} {pl : kP} {T w : Nat} (h : lS sh M0 M n st p s pl T) (hn : 0 ≤ n) (hst : 0 ≤ st ∧ st ≤ 260) (hw : 4 ≤ w ∧ w ≤ 8) (hr : lnRoom w pl) : gC (gr 3 70) yX6_readPair cX6_readPair 5 none [(4, 410), (4, 1), (0, (w : Int))] sh M (gPm sh (fun r M1 => r = none ∧ lQ sh M0 n st (lnPair n st w pl T s p) M1)) := by
  have hOK := h.1.1
  have hl := tpIn_len h.2.1
  have hplN : ∀ k : Int, (∀ b : Int, (lnHalf n (-1) w s p).1 = 0 → k = (lnHalf n (-1) w s p).2.1 → qFind k (pl.1 (w - 2)) 0 < 0 → (pl.1 (w - 2)).length + 1 ≤ plN (w - 2)) := fun k b h0 hk hf => by
    unfold lnRoom at hr
    unfold plN
    by_cases e : w = 8
    · rw [if_pos e] at hr
      rw [if_pos (by omega)]
      subst e
      have hd : lnHalf n (-1) 8 s p = pDigit 0 9 s p := rfl
      rw [hd] at h0 hk
      rcases pDigit_v (lo := 0) (hi := 9) (s := s) (p := p) (by decide) with ⟨a, b, c⟩ | ⟨a, b⟩
      · exact (sg_add (v := 0) hr (by rw [hk]; exact ⟨b, c⟩) hf).1
      · exact absurd h0 (a hl.1)
    · rw [if_neg e] at hr
      rw [if_neg (by omega)]; omega
  refine w_X6_readPair hOK ⟨_, sp_X6_pairsOf hOK (by omega), ?_⟩
  -- the second one
  have second : ∀ (k : Int) (M1 : gM) (p1 : Int) (s1 : List Int), lS sh M0 M1 n st p1 s1 pl T → (pl.1 (w - 2)).length + 1 ≤ plN (w - 2) → ¬ (w = 7 ∧ hd s1 = 46) → P_X6_readPair_102 sh (gPm sh (fun r M1 => r = none ∧ lQ sh M0 n st (lnTwo n k w pl T s1 p1) M1)) 1 (w : Int) (412 + 3 * ((w - 2 : Nat) : Int)) k M1 := by
    intro k M1 p1 s1 h1 hroom hno
    have fin : ∀ (r2 : Option gV) (M2 : gM), lR sh M0 n st (lnHalf n k w s1 p1) pl T r2 M2 → ∃ v : Int, r2 = some (0, v) ∧ gOK sh M2 ∧ ((gsh sh (412 + 3 * ((w - 2 : Nat) : Int)) = some (0, 5) ∧ (412 + 3 * ((w - 2 : Nat) : Int)) < 758) ∧ ∃ P127 : Option gV → gM → Prop, gC (gr 0 0) yX4_add cX4_add 3 none [(4, 412 + 3 * ((w - 2 : Nat) : Int)), (0, k), (0, v)] sh M2 (gPm sh P127) ∧ ∀ (r127 : Option gV) (M127 : gM), P127 r127 M127 → r127 = none ∧ gOK sh M127 ∧ gPm sh (fun r M1 => r = none ∧ lQ sh M0 n st (lnTwo n k w pl T s1 p1) M1) none sh M127) := fun r2 M2 hR => by
      obtain ⟨rfl, f1, f2, f3, f4⟩ := hR
      have hq := plOk_q f3 (show w - 2 < 7 by omega)
      refine ⟨_, rfl, f1.1, ⟨hq.1.1, by omega⟩, _, sp_X4_add f1.1 hq hroom, fun r3 M3 hP3 => ?_⟩
      obtain ⟨rfl, hP⟩ := hP3
      refine ⟨rfl, hP.2.1, rfl, rfl, ?_⟩
      unfold lnTwo
      rw [if_neg hno]
      by_cases q : (lnHalf n k w s1 p1).1 = 0
      · rw [if_pos q]
        exact ⟨fun _ => lS_add (f4 q) (by omega) hP, fun w => absurd rfl w⟩
      · rw [if_neg q]
        obtain ⟨a, b⟩ := lF_q f1 hP (by omega)
        exact lQ_bad a (b.trans f2) q
    refine w_X6_readPair_102 h1.1.1 ?_
    by_cases e : w = 7
    · rw [if_pos (by omega)]
      have hC := sp_X6_readCommit (than := k) h1 hn
      have eh : lnHalf n k w s1 p1 = lnCom n k s1 p1 := by unfold lnHalf; rw [if_pos e]
      rw [← eh] at hC
      exact ⟨_, hC, fun r2 M2 hP2 => fin r2 M2 hP2⟩
    · rw [if_neg (by omega)]
      have hC := sp_X6_readSide (w := w) h1 (by omega)
      have eh : lnHalf n k w s1 p1 = lnSide w s1 p1 := by unfold lnHalf; rw [if_neg e]
      rw [← eh] at hC
      exact ⟨_, hC, fun r2 M2 hP2 => fin r2 M2 hP2⟩
  -- behind the first one
  have rest : ∀ (r1 : Option gV) (M1 : gM), lR sh M0 n st (lnHalf n (-1) w s p) pl T r1 M1 → ∃ v : Int, r1 = some (0, v) ∧ gOK sh M1 ∧ P_X6_readPair_27 sh (gPm sh (fun r M1 => r = none ∧ lQ sh M0 n st (lnPair n st w pl T s p) M1)) 1 (w : Int) (412 + 3 * ((w - 2 : Nat) : Int)) v M1 := by
    intro r1 M1 hR
    obtain ⟨rfl, f1, f2, f3, f4⟩ := hR
    refine ⟨_, rfl, f1.1, w_X6_readPair_27 f1.1 ⟨⟨sh_1 f1.1, by decide⟩, ?_⟩⟩
    unfold lnPair
    rw [f2]
    by_cases q : (lnHalf n (-1) w s p).1 = 0
    · rw [if_pos q, if_neg (show ¬ (lnHalf n (-1) w s p).1 ≠ 0 from fun w => w q)]
      have h1 := f4 q
      have hq := plOk_q f3 (show w - 2 < 7 by omega)
      refine ⟨⟨hq.1.1, by omega⟩, _, sp_X4_find f1.1 hq, ?_⟩
      by_cases q2 : qFind (lnHalf n (-1) w s p).2.1 (pl.1 (w - 2)) 0 < 0
      · rw [if_pos q2, if_neg (show ¬ 0 ≤ qFind (lnHalf n (-1) w s p).2.1 (pl.1 (w - 2)) 0 by omega)]
        have hroom := hplN _ 0 q rfl q2
        refine ⟨_, sp_X9_expect f1.1 h1.2.1 (by decide), fun r2 M2 hP2 => ?_⟩
        have hl1 := tpIn_len h1.2.1
        by_cases q3 : hd (lnHalf n (-1) w s p).2.2.2 = 62
        · rw [if_pos q3] at hP2
          rw [if_neg (show ¬ hd (lnHalf n (-1) w s p).2.2.2 ≠ 62 from fun w => w q3)]
          have hR2 := lR_tP h1 hP2
          obtain ⟨rfl, g1, g2, g3, g4⟩ := hR2
          have h2 := g4 rfl
          refine ⟨_, rfl, g1.1, ?_⟩
          rw [if_neg (show ¬ (1 : Int) = 0 by decide)]
          have h2' : lS sh M0 M2 n st ((lnHalf n (-1) w s p).2.2.1 + 1) (lnHalf n (-1) w s p).2.2.2.tail pl T := h2
          generalize (lnHalf n (-1) w s p).2.2.2.tail = s1 at h2' ⊢
          generalize (lnHalf n (-1) w s p).2.2.1 + 1 = p1 at h2' ⊢
          have hl2 := tpIn_len h2'.2.1
          by_cases e7 : w = 7
          · rw [if_pos (by omega)]
            refine ⟨_, sp_X9_next g1.1 h2'.2.1, ?_⟩
            by_cases q4 : hd s1 = 46
            · rw [if_pos q4]
              cases s1 with
              | nil => exact absurd q4 (by decide)
              | cons c r =>
                have a := tadv h2'.2.1
                rw [gw32_id (by rw [h2'.2.1.1]; omega) (by rw [h2'.2.1.1]; omega)]
                have h3 : lS sh M0 (gU M2 1 2 (M2 1 2 + 1)) n st (p1 + 1) r pl T := by
                  have b := a.2
                  rw [a.1, h2'.2.2.1, ff0] at b ⊢
                  exact lS_tM h2' b
                have hq3 := plOk_q h3.2.2.2.1 (show w - 2 < 7 by omega)
                refine ⟨_, sp_X4_add h3.1.1 hq3 hroom, fun r4 M4 hP4 => ?_⟩
                obtain ⟨rfl, hP⟩ := hP4
                refine ⟨rfl, hP.2.1, rfl, rfl, ?_⟩
                unfold lnTwo
                rw [if_pos (show w = 7 ∧ hd (c :: r) = 46 from ⟨e7, q4⟩)]
                have h5 := lS_add h3 (by omega) hP
                rw [show w - 2 = 5 by omega] at h5
                exact ⟨fun _ => h5, fun w => absurd rfl w⟩
            · rw [if_neg q4]
              exact second _ M2 p1 s1 h2' hroom (fun w => q4 w.2)
          · rw [if_neg (by omega)]
            exact second _ M2 p1 s1 h2' hroom (fun w => e7 w.1)
        · rw [if_neg q3] at hP2
          rw [if_pos (show hd (lnHalf n (-1) w s p).2.2.2 ≠ 62 from q3)]
          have hR2 := lR_tP h1 hP2
          obtain ⟨rfl, g1, g2, g3, g4⟩ := hR2
          refine ⟨_, rfl, g1.1, ?_⟩
          rw [if_pos (show (0 : Int) = 0 from rfl)]
          exact ⟨rfl, rfl, lQ_bad g1 g2 (by show -1000 - (lnHalf n (-1) w s p).2.2.1 ≠ 0; omega)⟩
      · rw [if_neg q2, if_pos (show 0 ≤ qFind (lnHalf n (-1) w s p).2.1 (pl.1 (w - 2)) 0 by omega)]
        refine ⟨_, sp_X9_fail f1.1 (by decide) (by rw [h1.2.2.2.2.2.1]; omega), fun r2 M2 hP2 => ?_⟩
        obtain ⟨rfl, rfl⟩ := hP2
        rw [f2, q, ff_z _ rfl, h1.2.2.2.2.2.1]
        have e := lF_tM (q := M1 1 2) (f := -1000 * 6 - st) f1
        exact ⟨rfl, e.1, rfl, rfl, lQ_bad e (by rw [tM_f]; omega) (by omega)⟩
    · rw [if_neg q, if_pos (show (lnHalf n (-1) w s p).1 ≠ 0 from q)]
      exact ⟨rfl, rfl, lQ_bad f1 f2 q⟩
  by_cases e : w = 7
  · rw [if_pos (by omega)]
    have hC := sp_X6_readCommit (than := -1) h hn
    have eh : lnHalf n (-1) w s p = lnCom n (-1) s p := by unfold lnHalf; rw [if_pos e]
    rw [← eh] at hC
    exact ⟨_, hC, fun r2 M2 hP2 => rest r2 M2 hP2⟩
  · rw [if_neg (by omega)]
    have hC := sp_X6_readSide (w := w) h (by omega)
    have eh : lnHalf n (-1) w s p = lnSide w s p := by unfold lnHalf; rw [if_neg e]
    rw [← eh] at hC
    exact ⟨_, hC, fun r2 M2 hP2 => rest r2 M2 hP2⟩
