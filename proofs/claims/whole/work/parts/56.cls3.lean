-- ==== line, check, refIs, image on both sides
def lnW (cs : List kC) : Nat → Int → Int
  | 0, k => k
  | n + 1, k => match (cs[k.toNat]?).map kPs with
    | some (p :: _) => lnW cs n p
    | _ => -4
def aLine (cs : List kC) (k n : Int) : Int := if bC cs k = true ∧ (0 ≤ n ∧ n ≤ 119) then lnW cs n.toNat k else -1
theorem lnW_nil {cs : List kC} {k n : Nat} {c : kC} (hk : cs[k]? = some c) (hp : kPs c = []) : lnW cs (n + 1) (k : Int) = -4 := by
  show (match (cs[((k : Int)).toNat]?).map kPs with
    | some (p :: _) => lnW cs n p
    | _ => -4) = -4
  rw [show ((k : Int)).toNat = k by omega, hk]
  simp only [Option.map_some, hp]
theorem lnW_cons {cs : List kC} {k n : Nat} {c : kC} {p : Int} {r : List Int} (hk : cs[k]? = some c) (hp : kPs c = p :: r) : lnW cs (n + 1) (k : Int) = lnW cs n p := by
  show (match (cs[((k : Int)).toNat]?).map kPs with
    | some (p :: _) => lnW cs n p
    | _ => -4) = lnW cs n p
  rw [show ((k : Int)).toNat = k by omega, hk]
  simp only [Option.map_some, hp]
theorem s_before {M : gM} {cs : List kC} {k : Nat} {c : kC} (h : uC M cs) (hO : kOk cs) (hk : cs[k]? = some c) : F_before M (k : Int) = some ((kPs c).headD (-1)) := by
  have hl := uC_len h hk
  have hr := h.2.2 k c hk
  rw [eq_before, if_pos (by omega), hr.1]
  cases hp : kPs c with
  | nil => rw [if_pos (by rfl)]; rfl
  | cons p r =>
    have hpa : F_parentAt M (k : Int) 0 = some p := s_parentAt (i := 0) h hk (hO k c hk).1.1 (by rw [hp]; rfl)
    rw [if_neg (by rw [List.length_cons]; omega), gI_bb hpa]
    rfl
theorem s_line {M : gM} {cs : List kC} {k n : Int} (h : uC M cs) (hO : kOk cs) : F_line M k n = some (aLine cs k n) := by
  unfold aLine
  have hl9 := h.2.1
  rw [eq_line, gI_bb (s_isCommit h k)]
  by_cases q : 0 ≤ k ∧ k < (cs.length : Int)
  · rw [decide_eq_true q, if_neg bIt, gI_bb s_in]
    by_cases q2 : 0 ≤ n ∧ n ≤ 119
    · rw [decide_eq_true q2, if_neg bIt, if_pos ⟨decide_eq_true q, q2⟩]
      have lp : ∀ (m i k1 : Nat) (c : kC), (i : Int) + (m : Int) = n → cs[k1]? = some c → F_line_25 M k n (k1 : Int) (i : Int) = some (lnW cs m (k1 : Int)) := by
        intro m
        induction m with
        | zero =>
          intro i k1 c hi hk1
          rw [eq_line_25, if_neg (by omega), if_neg (by omega)]; rfl
        | succ m ih =>
          intro i k1 c hi hk1
          rw [eq_line_25, if_pos (by omega), if_neg (by omega), gI_bb (s_before h hO hk1), gw32_id (by omega) (by omega)]
          cases hp : kPs c with
          | nil =>
            rw [lnW_nil hk1 hp]
            show F_line_25 M k n (-1) ((i : Int) + 1) = _
            rw [eq_line_25]
            simp
          | cons p r =>
            rw [lnW_cons hk1 hp]
            have hp2 := (hO k1 c hk1).1.2.1 p (by rw [hp]; exact List.mem_cons_self)
            have hlt : p.toNat < cs.length := by have := (List.getElem?_eq_some_iff.mp hk1).1; omega
            have := ih (i + 1) p.toNat cs[p.toNat] (by omega) (List.getElem?_eq_getElem hlt)
            rw [show ((p.toNat : Nat) : Int) = p by omega] at this
            exact this
      have hlt : k.toNat < cs.length := by omega
      have := lp n.toNat 0 k.toNat cs[k.toNat] (by omega) (List.getElem?_eq_getElem hlt)
      rw [show ((k.toNat : Nat) : Int) = k by omega] at this
      exact this
    · rw [decide_eq_false q2, if_pos bIf, if_neg (fun w => q2 w.2)]
  · rw [decide_eq_false q, if_pos bIf, if_neg (fun w => q (of_decide_eq_true w.1))]
theorem sp_X11_line {sh : gS} {M : gM} {z : aS} {k n : Int} (hz : cS sh M z) : gC (gr 1 22) yX11_line cX11_line 5 (some (.int)) [(4, 0), (0, k), (0, n)] sh M (cPo sh M 0 (aLine (aCs z) k n) z) := by
  obtain ⟨hOK, hC, -⟩ := id hz
  have hl9 := hC.2.1
  unfold aLine
  refine w_X11_line hOK ⟨_, sp_X1_has hOK hC, ?_⟩
  rw [hasI]
  by_cases q : bC (aCs z) k = true
  · rw [if_neg (bI_ne q)]
    have q1 := of_decide_eq_true q
    by_cases q2 : n < 0
    · rw [if_pos q2, if_neg (fun w => by omega)]; exact cPo_same hz rfl
    · rw [if_neg q2]
      by_cases q3 : n < 120
      · rw [if_pos q3, if_pos ⟨q, by omega⟩]
        have lp : ∀ (m i k1 : Nat) (c : kC), (i : Int) + (m : Int) = n → (aCs z)[k1]? = some c → P_X11_line_28 sh (cPo sh M 0 (lnW (aCs z) m (k1 : Int)) z) k n (k1 : Int) (i : Int) M := by
          intro m
          induction m with
          | zero =>
            intro i k1 c hi hk1
            refine w_X11_line_28 hOK ?_
            rw [if_neg (by omega)]
            exact cPo_same hz rfl
          | succ m ih =>
            intro i k1 c hi hk1
            have hlt := (List.getElem?_eq_some_iff.mp hk1).1
            refine w_X11_line_28 hOK ?_
            obtain ⟨⟨o1, o2, -⟩, o7, -⟩ := hC.2.2.2 k1 c hk1
            rw [if_pos (by omega), o1]
            refine ⟨by omega, ?_⟩
            cases hp : kPs c with
            | nil =>
              rw [lnW_nil hk1 hp, if_pos (by rfl)]
              exact cPo_same hz rfl
            | cons p r =>
              rw [lnW_cons hk1 hp, if_neg (by rw [List.length_cons]; omega)]
              refine ⟨_, sp_X1_parent hOK (by omega) (by decide), ?_⟩
              have hv := o2 0 p (by rw [hp]; rfl)
              rw [show M 6 ((k1 : Int) * 3 + 0) = p from hv, gw32_id (by omega) (by omega)]
              have hp2 := o7.2.1 p (by rw [hp]; exact List.mem_cons_self)
              have hlt2 : p.toNat < (aCs z).length := by omega
              have := ih (i + 1) p.toNat (aCs z)[p.toNat] (by omega) (List.getElem?_eq_getElem hlt2)
              rw [show ((p.toNat : Nat) : Int) = p by omega] at this
              exact this
        have hlt : k.toNat < (aCs z).length := by omega
        have := lp n.toNat 0 k.toNat (aCs z)[k.toNat] (by omega) (List.getElem?_eq_getElem hlt)
        rw [show ((k.toNat : Nat) : Int) = k by omega] at this
        exact this
      · rw [if_neg q3, if_neg (fun w => by omega)]; exact cPo_same hz rfl
  · rw [if_pos (bI_eq (by simpa using q)), if_neg (fun w => q w.1)]; exact cPo_same hz rfl
def ckV (cs : List kC) (i : Nat) : Int := match cs[i]? with
  | some c => ((kFs c).length : Int)
  | none => 255
def ckF (cs : List kC) : List Int → Nat → Int
  | [], _ => -1
  | b :: r, i => if b = ckV cs i then ckF cs r (i + 1) else (i : Int)
def aCheck (z : aS) (n : Int) : Int × aS := if (0 ≤ n ∧ n ≤ 120) ∧ n ≤ ((aTp z).length : Int) then (ckF (aCs z) ((aTp z).take n.toNat) 0, ([], z.2)) else (-2, z)
theorem ckF_at {cs : List kC} {s : List Int} {i : Nat} (h : i < s.length) : ckF cs (s.drop i) i = if s[i] = ckV cs i then ckF cs (s.drop (i + 1)) (i + 1) else (i : Int) := by
  rw [List.drop_eq_getElem_cons h]; rfl
theorem ckF_end {cs : List kC} {s : List Int} {i : Nat} (h : s.length ≤ i) : ckF cs (s.drop i) i = -1 := by
  rw [List.drop_eq_nil_of_le h]; rfl
theorem s_check {M : gM} {z : aS} {n : Int} (h : uSt M z) : ∃ M1, F_check M n = some ((aCheck z n).1, M1) ∧ uSt M1 (aCheck z n).2 := by
  obtain ⟨h1, h2, h3⟩ := id h
  unfold aCheck
  rw [eq_check, gI_bb s_in]
  by_cases q : 0 ≤ n ∧ n ≤ 120
  · rw [decide_eq_true q, if_neg bIt, h2.1]
    by_cases q2 : n ≤ ((aTp z).length : Int)
    · rw [if_neg (by omega), if_pos ⟨q, q2⟩]
      have hlen : ((aTp z).take n.toNat).length = n.toNat := by rw [List.length_take]; omega
      have lp : ∀ (m : Nat), m ≤ n.toNat → ∀ x2, x2 = ckF (aCs z) (((aTp z).take n.toNat).drop m) m → F_check_27 M n x2 ((m : Int) - 1) = some (ckF (aCs z) ((aTp z).take n.toNat) 0, gU M 711 18 0) := by
        intro m
        induction m with
        | zero =>
          intro hm x2 hx
          rw [eq_check_27, if_pos (by decide), hx]; rfl
        | succ m ih =>
          intro hm x2 hx
          have hlt : m < ((aTp z).take n.toNat).length := by omega
          have hb : (aTp z)[m]? = some (((aTp z).take n.toNat)[m]) := by
            rw [List.getElem_take]; exact List.getElem?_eq_getElem (by omega)
          obtain ⟨c0, c1, c2⟩ := h2.2.2 m _ hb
          have hstep := ckF_at (cs := aCs z) hlt
          rw [← hx] at hstep
          rw [show ((m + 1 : Nat) : Int) - 1 = (m : Int) by omega, eq_check_27, if_neg (by omega), if_pos (by omega), h1.1, c2, sb_and c0 c1, gw32_id (by omega) (by omega), show (m : Int) + -1 = (m : Int) - 1 by omega]
          have hl9 := h1.2.1
          have key : ckV (aCs z) m = if (m : Int) < ((aCs z).length : Int) then M 718 (m : Int) else 255 := by
            unfold ckV
            by_cases hk : m < (aCs z).length
            · rw [if_pos (by omega), List.getElem?_eq_getElem hk]
              exact ((h1.2.2 m _ (List.getElem?_eq_getElem hk)).2.2.2.2.2.2).2.1.symm
            · rw [if_neg (by omega), List.getElem?_eq_none (by omega)]
          have fin : (if (((aTp z).take n.toNat)[m]) = ckV (aCs z) m then F_check_27 M n x2 ((m : Int) - 1) else F_check_27 M n (m : Int) ((m : Int) - 1)) = some (ckF (aCs z) ((aTp z).take n.toNat) 0, gU M 711 18 0) := by
            by_cases e : (((aTp z).take n.toNat)[m]) = ckV (aCs z) m
            · rw [if_pos e]; rw [if_pos e] at hstep; exact ih (by omega) x2 hstep.symm
            · rw [if_neg e]; rw [if_neg e] at hstep; exact ih (by omega) (m : Int) hstep.symm
          rw [key] at fin
          by_cases hk : (m : Int) < ((aCs z).length : Int)
          · rw [if_pos hk] at fin ⊢; rw [if_pos (by omega)]; exact fin
          · rw [if_neg hk] at fin ⊢; exact fin
      have := lp n.toNat (Nat.le_refl _) (-1) (ckF_end (by omega)).symm
      rw [gw32_id (by omega) (by omega)]
      rw [show ((n.toNat : Nat) : Int) = n by omega] at this
      refine ⟨_, this, uC_same h1 (gU_idx (by decide)) (fun b b0 b1 => gU_cell _ _ _ (by omega)), ⟨by rw [gU_same]; rfl, Nat.zero_le _, fun j c hj => by simp [aTp] at hj⟩, ?_⟩
      refine ⟨fun i i0 i1 => uRfX_of (A := 727) (B := 728) (h3.1 i i0 i1) (fun q _ _ => by rw [gU_cel (by decide)]) (fun q _ _ => by rw [gU_cel (by decide)]), fun p p0 p1 => uPl_of (h3.2.1 p p0 p1) (fun q _ _ => by rw [gU_cel (by decide)]) (fun q _ _ => by rw [gU_cel (by decide)]) (fun q _ _ => by rw [gU_cel (by decide)]), ?_⟩
      rcases h3.2.2 with ⟨a, b⟩ | ⟨a, b, c, d, f⟩
      · exact Or.inl ⟨a, by rw [gU_idx (by decide)]; exact b⟩
      · exact Or.inr ⟨a, by rw [gU_idx (by decide)]; exact b, by rw [gU_idx (by decide)]; exact c, fun i i0 i1 => uRfX_of (d i i0 i1) (fun q _ _ => by rw [gU_cel (by decide)]) (fun q _ _ => by rw [gU_cel (by decide)]), fun p p0 p1 => uPl_of (f p p0 p1) (fun q _ _ => by rw [gU_cel (by decide)]) (fun q _ _ => by rw [gU_cel (by decide)]) (fun q _ _ => by rw [gU_cel (by decide)])⟩
    · rw [if_pos (by omega), if_neg (fun w => q2 w.2)]
      exact ⟨M, rfl, h⟩
  · rw [decide_eq_false q, if_pos bIf, if_neg (fun w => q w.1)]
    exact ⟨M, rfl, h⟩
theorem sp_X11_check {sh : gS} {M : gM} {z : aS} {n : Int} (hz : cS sh M z) : gC (gr 1 21) yX11_check cX11_check 4 (some (.int)) [(4, 0), (0, n)] sh M (cPo sh M 0 (aCheck z n).1 (aCheck z n).2) := by
  obtain ⟨hOK, hC, ⟨hB, hL⟩, -⟩ := id hz
  have hl9 := hC.2.1
  unfold aCheck
  refine w_X11_check hOK ?_
  rw [hL]
  by_cases q0 : n < 0
  · rw [if_pos q0, if_neg (fun w => by omega)]; exact cPo_same hz rfl
  · rw [if_neg q0]
    by_cases q1 : (120 : Int) < n
    · rw [if_pos q1, if_neg (fun w => by omega)]; exact cPo_same hz rfl
    · rw [if_neg q1]
      by_cases q2 : ((aTp z).length : Int) < n
      · rw [if_pos q2, if_neg (fun w => by omega)]; exact cPo_same hz rfl
      · rw [if_neg q2, if_pos ⟨⟨by omega, by omega⟩, by omega⟩]
        have hO0 : gOK sh (gU M 1 1 0) := gOK_o (f := 1) hOK (sh_1 hOK) rfl rfl
        have e0 : ∀ b : Int, b ≠ 1 → gU M 1 1 0 b = M b := fun b hb => gU_cell _ _ _ hb
        have hC0 : cOk sh (gU M 1 1 0) (aCs z) := cOk_fr hC (fun b b0 b1 => e0 b (by omega))
        have hB0 : tBy (gU M 1 1 0) (aTp z) := tBy_keep hB (e0 2 (by decide))
        have hlen : ((aTp z).take n.toNat).length = n.toNat := by rw [List.length_take]; omega
        have don : ∀ v w : Int, v = w → cPo sh M 0 w ([], z.2) (some (0, v)) sh (gU M 1 1 0) := fun v w e => cPo_fr (cs := aCs z) (s := []) hz hO0 hC0 (tBy_nil _) (by rw [gU_same]; rfl) (fun b hb => e0 b (by omega)) e
        have lp : ∀ (m i : Nat), i + m = n.toNat → P_X11_check_34 sh (cPo sh M 0 (ckF (aCs z) (((aTp z).take n.toNat).drop i) i) ([], z.2)) n (i : Int) (gU M 1 1 0) := by
          intro m
          induction m with
          | zero =>
            intro i hi
            refine w_X11_check_34 hO0 ?_
            rw [if_neg (by omega), ckF_end (by omega)]
            exact don _ _ rfl
          | succ m ih =>
            intro i hi
            have hlt : i < ((aTp z).take n.toNat).length := by omega
            have hb : (aTp z)[i]? = some (((aTp z).take n.toNat)[i]) := by
              rw [List.getElem_take]; exact List.getElem?_eq_getElem (by omega)
            refine w_X11_check_34 hO0 ?_
            rw [if_pos (by omega), ckF_at hlt, gw32_id (by omega) (by omega)]
            have ihn := ih (i + 1) (by omega)
            refine ⟨_, sp_X1_has hO0 hC0, ?_⟩
            by_cases hk : i < (aCs z).length
            · have hk2 := List.getElem?_eq_getElem hk
              rw [if_pos (show 0 ≤ (i : Int) ∧ (i : Int) < ((aCs z).length : Int) by omega), if_neg (by decide)]
              obtain ⟨-, -, hT⟩ := cT_rng hC0 hk2
              refine ⟨_, sp_X1_tree hO0 hC0 hk2, ⟨hT.1.1, hT.1.2.2.2⟩, _, sp_X9_at hO0 hB0 hb rfl, ?_⟩
              have hc := (tOk_c hT).1
              rw [hc]
              have key : ckV (aCs z) i = ((kFs (aCs z)[i]).length : Int) := by unfold ckV; rw [hk2]
              rw [key]
              by_cases e : (((aTp z).take n.toNat)[i]) = ((kFs (aCs z)[i]).length : Int)
              · rw [if_pos e, if_pos e]; exact ihn
              · rw [if_neg e, if_neg e]; exact don _ _ rfl
            · rw [if_neg (show ¬ (0 ≤ (i : Int) ∧ (i : Int) < ((aCs z).length : Int)) by omega), if_pos rfl]
              refine ⟨_, sp_X9_at hO0 hB0 hb rfl, ?_⟩
              have key : ckV (aCs z) i = 255 := by unfold ckV; rw [List.getElem?_eq_none (by omega)]
              rw [key]
              by_cases e : (((aTp z).take n.toNat)[i]) = 255
              · rw [if_pos e, if_pos e]; exact ihn
              · rw [if_neg e, if_neg e]; exact don _ _ rfl
        exact lp n.toNat 0 (by omega)
