-- ==== how many TREES: the reference
def trQ (cs : List kC) (k : Nat) : Bool := match cs[k]? with
  | some c => decide (kLow (kFs c) cs 0 = (k : Int))
  | none => false
theorem trQ_iff {cs : List kC} {k : Nat} {c : kC} (hk : cs[k]? = some c) : trQ cs k = true ↔ ∀ (m : Nat) (d : kC), m < k → cs[m]? = some d → kFs d ≠ kFs c := by
  unfold trQ
  rw [hk]
  show decide (kLow (kFs c) cs 0 = (k : Int)) = true ↔ _
  rw [decide_eq_true_iff]
  rcases kLow_sp (kFs c) cs 0 with ⟨-, a⟩ | ⟨j, d, a, b, e, f⟩
  · exact absurd rfl (a c (List.mem_of_getElem? hk))
  · rw [e]
    constructor
    · intro h m x hm hx
      exact f m x (by omega) hx
    · intro h
      rcases Nat.lt_trichotomy j k with y | y | y
      · exact absurd b (h j d y a)
      · omega
      · exact absurd rfl (f k c y hk)
theorem s_trees {M : gM} {cs : List kC} (h : uC M cs) : F_trees M = some (cnt (trQ cs) cs.length) := by
  have hl9 := h.2.1
  have lp : ∀ (m k : Nat), k + m = cs.length → F_trees_4 M (cnt (trQ cs) k) (k : Int) = some (cnt (trQ cs) cs.length) := by
    intro m
    induction m with
    | zero => intro k hk; rw [eq_trees_4, h.1, if_neg (by omega), show k = cs.length by omega]
    | succ m ih =>
      intro k hk
      have hkl : k < cs.length := by omega
      have hc := List.getElem?_eq_getElem hkl
      generalize cs[k] = c at hc
      have hr := cnt_rng (trQ cs) k
      have ih1 := ih (k + 1) (by omega)
      rw [eq_trees_4, h.1, if_pos (by omega)]
      have inn : ∀ (n j : Nat), j + n = k → (∀ (q : Nat) (d : kC), q < j → cs[q]? = some d → kFs d ≠ kFs c) → F_trees_17 M (cnt (trQ cs) k) (k : Int) 1 (j : Int) = some (cnt (trQ cs) cs.length) := by
        intro n
        induction n with
        | zero =>
          intro j hj hno
          rw [eq_trees_17, if_neg (by omega), if_neg (by decide)]
          simp (disch := omega) only [gw32_id]
          rw [cnt_T ((trQ_iff hc).mpr (fun q d q0 hd => hno q d (by omega) hd))] at ih1
          exact ih1
        | succ n ih2 =>
          intro j hj hno
          have hjl : j < cs.length := by omega
          have hd := List.getElem?_eq_getElem hjl
          generalize cs[j] = d at hd
          have hTj := (h.2.2 j d hd).2.2.2.2.2.2
          have hTk := (h.2.2 k c hc).2.2.2.2.2.2
          rw [eq_trees_17, if_pos (by omega), if_neg (by decide), gI_bb (s_areLike hTj hTk)]
          rw [gw32_id (z := (j : Int) + 1) (by omega) (by omega)]
          by_cases e : kFs d = kFs c
          · rw [decide_eq_true e, if_neg bIt]
            have hf : trQ cs k = false := by
              cases hb : trQ cs k with
              | false => rfl
              | true => exact absurd e ((trQ_iff hc).mp hb j d (by omega) hd)
            rw [cnt_F hf] at ih1
            rw [eq_trees_17]
            simp only [if_true, ite_self]
            rw [gw32_id (z := (k : Int) + 1) (by omega) (by omega)]
            exact ih1
          · rw [decide_eq_false e, if_pos bIf]
            refine ih2 (j + 1) (by omega) (fun q x hq hx => ?_)
            by_cases y : q = j
            · subst y; rw [hd] at hx; cases hx; exact e
            · exact hno q x (by omega) hx
      exact inn k 0 (by omega) (fun q d hq _ => by omega)
  rw [eq_trees]
  have := lp cs.length 0 (by omega)
  exact this
theorem trQ_cls {sh : gS} {M : gM} {cs : List kC} (hC : cOk sh M cs) : cnt (fun k => decide (M 7 (k : Int) = (k : Int))) cs.length = cnt (trQ cs) cs.length := by
  refine cnt_congr _ (fun k hk => ?_)
  have hc := List.getElem?_eq_getElem hk
  obtain ⟨-, -, h7, -⟩ := hC.2.2.2 k _ hc
  unfold trQ
  rw [hc, h7]
