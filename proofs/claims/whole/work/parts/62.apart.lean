-- ==== apart on both sides
def apS (i : Int) (A B : Nat → Bool) (j : Nat) : Bool := if i = 0 then A j && !B j else if i = 1 then A j && B j else B j && !A j
def aApart (cs : List kC) (R : Int → List rF) (h1 h2 i : Int) : Int := if (0 ≤ h1 ∧ h1 ≤ 3) ∧ (0 ≤ h2 ∧ h2 ≤ 3) ∧ (0 ≤ i ∧ i ≤ 3) then (if i = 3 then cnt (fun s => decide (sAt (R h1) (s : Int) ≠ sAt (R h2) (s : Int))) 52 else cnt (apS i (hMark cs (R h1)) (hMark cs (R h2))) cs.length) else -1
def inR (rs : List rF) (s : Nat) : Bool := rs.any (fun x => decide (rOrd x = (s : Int)))
theorem cnt_or {S P : Nat → Bool} {k : Nat} (h : S k = false) : ∀ n : Nat, cnt (fun j => (decide ((k : Int) = (j : Int)) || S j) && P j) n = cnt (fun j => S j && P j) n + (if k < n ∧ P k = true then 1 else 0)
  | 0 => by rw [if_neg (by omega)]; rfl
  | n + 1 => by
    rw [cnt, cnt, cnt_or h n]
    by_cases e : k = n
    · subst e
      rw [if_neg (by omega), h, decide_eq_true rfl]
      cases hp : P k with
      | false => rw [if_neg (by simp)]; rfl
      | true => rw [if_pos ⟨by omega, rfl⟩]; simp [bI]
    · rw [decide_eq_false (by omega), Bool.false_or]
      by_cases q : k < n ∧ P k = true
      · rw [if_pos q, if_pos ⟨by omega, q.2⟩]; omega
      · rw [if_neg q, if_neg (fun w => q ⟨by omega, w.2⟩)]; omega
theorem cP_slots (P : Nat → Bool) : ∀ {rs : List rF}, rSrt rs → (∀ x ∈ rs, rRng x) → (rs.countP (fun x => P (rOrd x).toNat) : Int) = cnt (fun s => inR rs s && P s) 52
  | [], _, _ => by
    have : ∀ n : Nat, cnt (fun s => inR [] s && P s) n = 0 := fun n => by
      induction n with
      | zero => rfl
      | succ n ih => rw [cnt, ih]; rfl
    rw [this]; rfl
  | x :: r, h, hr => by
    have ih := cP_slots P (List.pairwise_cons.mp h).2 (fun y hy => hr y (List.mem_cons_of_mem _ hy))
    have hx := hr x List.mem_cons_self
    obtain ⟨k, hk⟩ : ∃ k : Nat, rOrd x = (k : Int) := ⟨(rOrd x).toNat, by unfold rRng at hx; unfold rOrd; omega⟩
    have hk52 : k < 52 := by unfold rRng at hx; unfold rOrd at hk; omega
    have hno : inR r k = false := by
      unfold inR
      rw [List.any_eq_false]
      intro y hy e
      have h1 := (List.pairwise_cons.mp h).1 y hy
      have h2 := of_decide_eq_true e
      omega
    have e := cnt_or (P := P) hno 52
    rw [← ih] at e
    rw [List.countP_cons, hk, Int.toNat_natCast]
    have e2 : (fun s : Nat => inR (x :: r) s && P s) = (fun j : Nat => (decide ((k : Int) = (j : Int)) || inR r j) && P j) := by
      funext s
      unfold inR
      rw [List.any_cons, hk]
    rw [e2, e]
    cases hp : P k with
    | false => rw [if_neg (by simp), if_neg (by simp)]; simp
    | true => rw [if_pos rfl, if_pos (show k < 52 ∧ true = true from ⟨hk52, rfl⟩)]; simp
theorem inR_iff {n : Int} {rs : List rF} (h : rGd n rs) (s : Nat) : inR rs s = decide (sAt rs (s : Int) ≠ -1) := by
  unfold inR
  cases hb : rs.any (fun x => decide (rOrd x = (s : Int))) with
  | true =>
    obtain ⟨x, hx, e⟩ := List.any_eq_true.mp hb
    have := sAt_mem h.1 hx (of_decide_eq_true e)
    have hr := (h.2 x hx).2.1
    exact (decide_eq_true (by rw [this.1]; omega)).symm
  | false =>
    rw [List.any_eq_false] at hb
    have := sAt_no (rs := rs) (s := (s : Int)) (fun x hx e => hb x hx (decide_eq_true e))
    exact (decide_eq_false (by rw [this.1]; exact fun w => w rfl)).symm
/-- REFS that are missed, as places -/
theorem rMiss_is {n : Int} {os : List rF} (ho : rGd n os) : ∀ {rs : List rF} {m : Int}, rGd m rs → rMiss os rs = (rs.countP (fun x => decide (sAt os (((rOrd x).toNat : Nat) : Int) ≠ x.2.2.1)) : Int) ∧ rMov os rs = (rs.countP (fun x => decide (sAt os (((rOrd x).toNat : Nat) : Int) ≠ -1 ∧ sAt os (((rOrd x).toNat : Nat) : Int) ≠ x.2.2.1)) : Int)
  | [], _, _ => ⟨rfl, rfl⟩
  | x :: r, m, h => by
    obtain ⟨a, b⟩ := rMiss_is ho (rs := r) (m := m) ⟨(List.pairwise_cons.mp h.1).2, fun y hy => h.2 y (List.mem_cons_of_mem _ hy)⟩
    have hx := h.2 x List.mem_cons_self
    have hr := hx.1
    unfold rRng at hr
    have hk : (((rOrd x).toNat : Nat) : Int) = x.1 * 26 + x.2.1 := by unfold rOrd; omega
    unfold rMiss rMov
    rw [a, b, List.countP_cons, List.countP_cons]
    simp only [hk]
    rcases rGet_at ho (k := x.1) (l := x.2.1) ⟨hr.1, hr.2.1⟩ ⟨hr.2.2.1, hr.2.2.2⟩ with ⟨g, s, -⟩ | ⟨c, p, pre, suf, -, g, s, -, c0, -⟩
    · rw [g, s]
      rw [if_neg (by simp), decide_eq_true (show (-1 : Int) ≠ x.2.2.1 by omega), if_pos rfl, decide_eq_false (show ¬ ((-1 : Int) ≠ -1 ∧ (-1 : Int) ≠ x.2.2.1) from fun w => w.1 rfl), if_neg (by simp)]
      constructor <;> simp <;> omega
    · rw [g, s]
      by_cases e : c = x.2.2.1
      · rw [if_pos (by rw [e]), decide_eq_false (fun w => w e), if_neg (by simp), decide_eq_false (fun w => w.2 e), if_neg (by simp)]
        simp only [if_pos e]
        constructor <;> simp
      · rw [if_neg (fun w => e (Option.some.inj w)), decide_eq_true e, if_pos rfl, decide_eq_true (show c ≠ -1 ∧ c ≠ x.2.2.1 from ⟨by omega, e⟩), if_pos rfl]
        simp only [if_neg e]
        constructor <;> simp <;> omega
theorem cnt_abc {A B C D : Nat → Bool} (h : ∀ j, bI (A j) + bI (B j) - bI (C j) = bI (D j)) : ∀ n : Nat, cnt A n + cnt B n - cnt C n = cnt D n
  | 0 => rfl
  | n + 1 => by have := cnt_abc h n; have := h n; rw [cnt, cnt, cnt, cnt]; omega
theorem cP_eq {α : Type} {p q : α → Bool} {xs : List α} (h : ∀ x ∈ xs, p x = q x) : (xs.countP p : Int) = (xs.countP q : Int) := by rw [cP_congr h]
theorem apart_refs {n : Int} {rs os : List rF} (h : rGd n rs) (ho : rGd n os) : rMiss os rs + rMiss rs os - rMov os rs = cnt (fun s => decide (sAt rs (s : Int) ≠ sAt os (s : Int))) 52 := by
  have mem : ∀ {xs : List rF}, rGd n xs → ∀ x ∈ xs, x.2.2.1 = sAt xs (((rOrd x).toNat : Nat) : Int) := fun {xs} hx x hm => by
    have hr := (hx.2 x hm).1
    unfold rRng at hr
    exact (sAt_mem hx.1 hm (show rOrd x = (((rOrd x).toNat : Nat) : Int) by unfold rOrd; omega)).1.symm
  have a1 : rMiss os rs = cnt (fun s => inR rs s && decide (sAt os (s : Int) ≠ sAt rs (s : Int))) 52 := by
    rw [(rMiss_is ho h).1, ← cP_slots (fun s => decide (sAt os (s : Int) ≠ sAt rs (s : Int))) h.1 (fun x hx => (h.2 x hx).1)]
    exact cP_eq (fun x hx => by rw [mem h x hx])
  have a2 : rMiss rs os = cnt (fun s => inR os s && decide (sAt rs (s : Int) ≠ sAt os (s : Int))) 52 := by
    rw [(rMiss_is h ho).1, ← cP_slots (fun s => decide (sAt rs (s : Int) ≠ sAt os (s : Int))) ho.1 (fun x hx => (ho.2 x hx).1)]
    exact cP_eq (fun x hx => by rw [mem ho x hx])
  have a3 : rMov os rs = cnt (fun s => inR rs s && decide (sAt os (s : Int) ≠ -1 ∧ sAt os (s : Int) ≠ sAt rs (s : Int))) 52 := by
    rw [(rMiss_is ho h).2, ← cP_slots (fun s => decide (sAt os (s : Int) ≠ -1 ∧ sAt os (s : Int) ≠ sAt rs (s : Int))) h.1 (fun x hx => (h.2 x hx).1)]
    exact cP_eq (fun x hx => by rw [mem h x hx])
  rw [a1, a2, a3]
  refine cnt_abc (fun j => ?_) 52
  rw [inR_iff h, inR_iff ho]
  generalize sAt rs (j : Int) = a
  generalize sAt os (j : Int) = b
  by_cases q : a = b
  · subst q; simp [bI]
  · have q' : ¬ b = a := fun w => q w.symm
    by_cases e1 : a = -1
    · have e2 : ¬ b = -1 := fun w => q (by rw [e1, w])
      simp [bI, q, q', e1, e2]
      try omega
    · by_cases e2 : b = -1
      · simp [bI, q, q', e1, e2]
        try omega
      · simp [bI, q, q', e1, e2]
theorem hMark_top {cs : List kC} (hO : kOk cs) {n : Int} {rs : List rF} (h : rGd n rs) (hn : n ≤ (cs.length : Int)) {j : Nat} (hj : cs.length ≤ j) : hMark cs rs j = false := by
  unfold hMark
  rw [List.any_eq_false]
  intro x hx e
  have hr := (h.2 x hx).2.1
  rcases Bool.or_eq_true _ _ ▸ e with w | w
  · have := of_decide_eq_true w; omega
  · have := kAnc_lt hO (by omega) w; omega
theorem s_isRefApart {M : gM} {h1 h2 : Int} {rs os : List rF} {s : Nat} (hA : uRf M h1 rs) (hB : uRf M h2 os) (q1 : 0 ≤ h1 ∧ h1 ≤ 3) (q2 : 0 ≤ h2 ∧ h2 ≤ 3) (hs : s < 52) : F_isRefApart M h1 h2 (s : Int) = some (bI (decide (sAt rs (s : Int) ≠ sAt os (s : Int)))) := by
  rw [eq_isRefApart]
  simp (disch := omega) only [gw32_id]
  rw [if_pos (by omega), if_pos (by omega), (hA (s : Int) (by omega) (by omega)).1, (hB (s : Int) (by omega) (by omega)).1]
  by_cases e : sAt rs (s : Int) = sAt os (s : Int)
  · rw [if_pos e, decide_eq_false (fun w => w e)]; rfl
  · rw [if_neg e, decide_eq_true e]; rfl
theorem s_apart {M : gM} {z : aS} {h1 h2 i : Int} (h : uSt M z) (hO : kOk (aCs z)) (hR : uRs M ((aCs z).length : Int) (aRs z)) : ∃ M1, F_apart M h1 h2 i = some (aApart (aCs z) (aRs z) h1 h2 i, M1) ∧ uSt M1 z := by
  have hC := h.1
  have hl9 := hC.2.1
  unfold aApart
  rw [eq_apart, gI_bb s_isHistory]
  by_cases q1 : 0 ≤ h1 ∧ h1 ≤ 3
  · rw [decide_eq_true q1, if_neg bIt, gI_bb s_isHistory]
    by_cases q2 : 0 ≤ h2 ∧ h2 ≤ 3
    · rw [decide_eq_true q2, if_neg bIt, gI_bb s_in]
      by_cases q3 : 0 ≤ i ∧ i ≤ 3
      · rw [decide_eq_true q3, if_neg bIt, if_pos (show (0 ≤ h1 ∧ h1 ≤ 3) ∧ (0 ≤ h2 ∧ h2 ≤ 3) ∧ (0 ≤ i ∧ i ≤ 3) from ⟨q1, q2, q3⟩)]
        obtain ⟨M1, e1, s1, f1⟩ := s_marksHistory (a := 723) (h := h1) hC hO hR (by decide) ⟨q1.1, by omega⟩
        have hC1 : uC M1 (aCs z) := uC_but hC (a := 723) (by decide) f1
        have hR1 : uRs M1 ((aCs z).length : Int) (aRs z) := fun g g0 g1 => ⟨fun s s0 s1 => by rw [f1 727 (by decide), f1 728 (by decide)]; exact (hR g g0 g1).1 s s0 s1, (hR g g0 g1).2⟩
        obtain ⟨M2, e2, s2, f2⟩ := s_marksHistory (a := 724) (h := h2) hC1 hO hR1 (by decide) ⟨q2.1, by omega⟩
        have hC2 : uC M2 (aCs z) := uC_but hC1 (a := 724) (by decide) f2
        rw [gI_bb e1, gI_bb e2]
        have hz2 : uSt M2 z := uSt_keep (A := [723, 724]) (F := []) h ⟨fun b hb _ => by
          have hb1 : b ≠ 723 := fun e => hb (by rw [e]; simp)
          have hb2 : b ≠ 724 := fun e => hb (by rw [e]; simp)
          rw [f2 b hb2, f1 b hb1], fun f _ => by rw [f2 711 (by decide), f1 711 (by decide)]⟩ (fun b hb => by simp at hb; omega) (by decide)
        have s1 : uS M2 723 (hMark (aCs z) (aRs z h1)) := fun k hk => by rw [f2 723 (by decide)]; exact s1 k hk
        have rA := (hR h1 q1.1 (by omega)).1
        have rB := (hR h2 q2.1 (by omega)).1
        have rA2 : uRf M2 h1 (aRs z h1) := fun s a b => by rw [f2 727 (by decide), f2 728 (by decide), f1 727 (by decide), f1 728 (by decide)]; exact rA s a b
        have rB2 : uRf M2 h2 (aRs z h2) := fun s a b => by rw [f2 727 (by decide), f2 728 (by decide), f1 727 (by decide), f1 728 (by decide)]; exact rB s a b
        by_cases q4 : i = 3
        · rw [if_pos q4]
          refine ⟨M2, ?_, hz2⟩
          generalize hD : (fun s : Nat => decide (sAt (aRs z h1) (s : Int) ≠ sAt (aRs z h2) (s : Int))) = D
          have end87 : ∀ x4 : Int, F_apart_87 M2 h1 h2 i x4 0 = some (x4, M2) := fun x4 => by
            rw [eq_apart_87]
            by_cases w : (0 : Int) < M2 711 0
            · rw [if_pos w, if_neg (by omega)]
            · rw [if_neg w]
          have lp : ∀ (m s : Nat), s + m = 52 → F_apart_49 M2 h1 h2 i (cnt D s) (s : Int) = some (cnt D 52, M2) := by
            intro m
            induction m with
            | zero => intro s hs; rw [eq_apart_49, if_neg (by omega), end87, show s = 52 by omega]
            | succ m ih =>
              intro s hs
              have hr := cnt_rng D s
              have := s_isRefApart rA2 rB2 q1 q2 (s := s) (by omega)
              rw [show decide (sAt (aRs z h1) (s : Int) ≠ sAt (aRs z h2) (s : Int)) = D s by rw [← hD]] at this
              have ih1 := ih (s + 1) (by omega)
              rw [eq_apart_49, if_pos (by omega), if_pos q4, gI_bb this]
              simp (disch := omega) only [gw32_id]
              cases hb : D s with
              | false => rw [if_pos bIf]; rw [cnt_F hb] at ih1; exact ih1
              | true => rw [if_neg bIt]; rw [cnt_T hb] at ih1; exact ih1
          exact lp 52 0 (by omega)
        · rw [if_neg q4, eq_apart_49, if_pos (by decide), if_neg q4]
          refine ⟨M2, ?_, hz2⟩
          generalize hA : hMark (aCs z) (aRs z h1) = A at s1
          generalize hB : hMark (aCs z) (aRs z h2) = B at s2
          have lp : ∀ (m j : Nat), j + m = (aCs z).length → F_apart_87 M2 h1 h2 i (cnt (apS i A B) j) (j : Int) = some (cnt (apS i A B) (aCs z).length, M2) := by
            intro m
            induction m with
            | zero => intro j hj; rw [eq_apart_87, hC2.1, if_neg (by omega), show j = (aCs z).length by omega]
            | succ m ih =>
              intro j hj
              have hr := cnt_rng (apS i A B) j
              have ih1 := ih (j + 1) (by omega)
              have rg : (0 : Int) ≤ (j : Int) ∧ (j : Int) < 120 := by omega
              rw [eq_apart_87, hC2.1, if_pos (by omega), if_pos (show i < 3 by omega), s1 j (by omega), s2 j (by omega)]
              simp (disch := omega) only [gw32_id]
              simp only [if_pos rg]
              have yes : apS i A B j = true → F_apart_87 M2 h1 h2 i (cnt (apS i A B) j + 1) ((j : Int) + 1) = some (cnt (apS i A B) (aCs z).length, M2) := fun hb => by rw [cnt_T hb] at ih1; exact ih1
              have no : apS i A B j = false → F_apart_87 M2 h1 h2 i (cnt (apS i A B) j) ((j : Int) + 1) = some (cnt (apS i A B) (aCs z).length, M2) := fun hb => by rw [cnt_F hb] at ih1; exact ih1
              have hap : apS i A B j = if i = 0 then A j && !B j else if i = 1 then A j && B j else B j && !A j := rfl
              rw [hap] at yes no
              by_cases i0 : i = 0
              · rw [if_pos i0] at yes no ⊢
                cases ha : A j <;> cases hb : B j <;> rw [ha, hb] at yes no
                · rw [if_pos bIf]; exact no rfl
                · rw [if_pos bIf]; exact no rfl
                · rw [if_neg bIt, if_pos bIf]; exact yes rfl
                · rw [if_neg bIt, if_neg bIt]; exact no rfl
              · rw [if_neg i0] at yes no ⊢
                by_cases i1 : i = 1
                · rw [if_pos i1] at yes no ⊢
                  cases ha : A j <;> cases hb : B j <;> rw [ha, hb] at yes no
                  · rw [if_pos bIf]; exact no rfl
                  · rw [if_pos bIf]; exact no rfl
                  · rw [if_neg bIt, if_pos bIf]; exact no rfl
                  · rw [if_neg bIt, if_neg bIt]; exact yes rfl
                · rw [if_neg i1] at yes no ⊢
                  cases ha : A j <;> cases hb : B j <;> rw [ha, hb] at yes no
                  · rw [if_pos bIf, if_pos bIf]; exact no rfl
                  · rw [if_pos bIf, if_neg bIt]; exact yes rfl
                  · rw [if_neg bIt]; exact no rfl
                  · rw [if_neg bIt]; exact no rfl
          exact lp (aCs z).length 0 (by omega)
      · rw [decide_eq_false q3, if_pos bIf, if_neg (fun w => q3 w.2.2)]; exact ⟨M, rfl, h⟩
    · rw [decide_eq_false q2, if_pos bIf, if_neg (fun w => q2 w.2.1)]; exact ⟨M, rfl, h⟩
  · rw [decide_eq_false q1, if_pos bIf, if_neg (fun w => q1 w.1)]; exact ⟨M, rfl, h⟩
