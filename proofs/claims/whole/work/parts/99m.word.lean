-- ==== PlanText.readWord
def wT : List Int → List Int
  | [] => []
  | c :: r => if 97 ≤ c ∧ c ≤ 122 then c :: wT r else []
def wR : List Int → List Int
  | [] => []
  | c :: r => if 97 ≤ c ∧ c ≤ 122 then wR r else c :: r
theorem wT_app : ∀ s : List Int, wT s ++ wR s = s
  | [] => rfl
  | c :: r => by
    unfold wT wR
    split
    · rw [List.cons_append, wT_app r]
    · rfl
theorem wT_low : ∀ (s : List Int), ∀ c ∈ wT s, 97 ≤ c ∧ c ≤ 122
  | [], c, h => by cases h
  | d :: r, c, h => by
    unfold wT at h
    split at h
    · rcases List.mem_cons.mp h with w | w
      · rw [w]; assumption
      · exact wT_low r c w
    · cases h
def wIxF (w : List Int) : Nat → Nat → Nat
  | 0, i => i
  | k + 1, i => if w = wd i then i else wIxF w k (i + 1)
def wIx (w : List Int) : Nat := wIxF w 15 0
theorem wIxF_rng (w : List Int) : ∀ (k i : Nat), i ≤ wIxF w k i ∧ wIxF w k i ≤ i + k
  | 0, i => ⟨Nat.le_refl _, Nat.le_refl _⟩
  | k + 1, i => by
    unfold wIxF
    split
    · omega
    · have := wIxF_rng w k (i + 1); omega
theorem ite2 {c : Prop} [Decidable c] {A B : Prop} (a : A) (b : B) : if c then A else B := by split <;> assumption
theorem sp_X6_readWord {sh : gS} {M : gM} {p : Int} {s : List Int} (hOK : gOK sh M) (hT : tpIn M p s) (hp : M 410 2 = p) (hl : s.length ≤ 240) : gC (gr 7 149) yX6_readWord cX6_readWord 3 (some (.int)) [(4, 410), (4, 1)] sh M (gPm sh (fun r M1 => r = some (0, (wIx (wT s) : Int)) ∧ M1 = tM M (p + ((wT s).length : Int)) (M 1 4) ∧ tpIn M1 (p + ((wT s).length : Int)) (wR s))) := by
  refine w_X6_readWord hOK ?_
  have hTl := tpIn_len hT
  -- the search for the word
  have fnd : ∀ (M1 : gM), gOK sh M1 → M1 = tM M (p + ((wT s).length : Int)) (M 1 4) → tpIn M1 (p + ((wT s).length : Int)) (wR s) → P_X6_readWord_34 sh (gPm sh (fun r M1 => r = some (0, (wIx (wT s) : Int)) ∧ M1 = tM M (p + ((wT s).length : Int)) (M 1 4) ∧ tpIn M1 (p + ((wT s).length : Int)) (wR s))) 1 0 M1 := by
    intro M1 hO1 hM1 hT1
    have h2 : M1 410 2 = p := by rw [hM1, tM_cell _ _ _ (by decide)]; exact hp
    have hW : tWd M1 p (wT s) := by
      have hap := wT_app s
      have := congrArg List.length hap
      rw [List.length_append] at this
      refine ⟨hTl.1, by omega, fun j c hj => ?_⟩
      rw [hM1, tM_cell _ _ _ (by decide)]
      exact hT.2.2.2.2 j c (by rw [← hap, List.getElem?_append_left (List.getElem?_eq_some_iff.mp hj).1]; exact hj)
    have lp : ∀ (k i : Nat), i + k = 15 → P_X6_readWord_34 sh (gPm sh (fun r M2 => r = some (0, (wIxF (wT s) k i : Int)) ∧ M2 = M1 ∧ tpIn M2 (p + ((wT s).length : Int)) (wR s))) 1 (i : Int) M1 := by
      intro k
      induction k with
      | zero =>
        intro i hi
        refine w_X6_readWord_34 hO1 ?_
        rw [if_neg (by omega)]
        exact ⟨rfl, by show some ((0 : Nat), (15 : Int)) = some (0, (i : Int)); rw [show (i : Int) = 15 by omega], rfl, hT1⟩
      | succ k ih =>
        intro i hi
        refine w_X6_readWord_34 hO1 ?_
        rw [if_pos (by omega)]
        refine ⟨_, sp_X6_spelling (by omega), _, sp_X6_isSpelt hO1 (by omega) h2 hT1.1 hW, ?_⟩
        have un : wIxF (wT s) (k + 1) i = if wT s = wd i then i else wIxF (wT s) k (i + 1) := rfl
        by_cases e : wT s = wd i
        · rw [decide_eq_true e, if_neg bIt, un, if_pos e]
          exact ⟨rfl, rfl, rfl, hT1⟩
        · rw [decide_eq_false e, if_pos bIf, un, if_neg e, gw32_id (by omega) (by omega)]
          exact ih (i + 1) (by omega)
    have := lp 15 0 rfl
    rw [← hM1]
    exact this
  have lp : ∀ (suf pre : List Int) (M1 : gM), pre ++ wT suf = wT s → wR suf = wR s → s.length = pre.length + suf.length → gOK sh M1 → M1 = tM M (p + (pre.length : Int)) (M 1 4) → tpIn M1 (p + (pre.length : Int)) suf → P_X6_readWord_2 sh (gPm sh (fun r M1 => r = some (0, (wIx (wT s) : Int)) ∧ M1 = tM M (p + ((wT s).length : Int)) (M 1 4) ∧ tpIn M1 (p + ((wT s).length : Int)) (wR s))) 1 (pre.length : Int) M1 := by
    intro suf
    induction suf with
    | nil =>
      intro pre M1 h1 h2 h3 hO1 hM1 hT1
      have e : pre = wT s := by rw [← h1]; show pre = pre ++ []; rw [List.append_nil]
      have fin := fnd M1 hO1 (by rw [← e]; exact hM1) (by rw [← e, ← h2]; exact hT1)
      by_cases c : (pre.length : Int) < 240
      · refine w_X6_readWord_2 hO1 ?_
        rw [if_pos c]
        refine ⟨⟨sh_1 hO1, by decide⟩, _, sp_X9_isLetter hO1 hT1, ?_⟩
        rw [if_neg (show ¬ (97 ≤ hd [] ∧ hd [] ≤ 122) by decide), if_pos rfl]
        exact fin
      · refine w_X6_readWord_2 hO1 ?_
        rw [if_neg c]
        exact fin
    | cons c r ih =>
      intro pre M1 h1 h2 h3 hO1 hM1 hT1
      rw [List.length_cons] at h3
      refine w_X6_readWord_2 hO1 ?_
      rw [if_pos (by omega)]
      refine ⟨⟨sh_1 hO1, by decide⟩, _, sp_X9_isLetter hO1 hT1, ?_⟩
      show if (if 97 ≤ c ∧ c ≤ 122 then (1 : Int) else 0) = 0 then _ else _
      by_cases q : 97 ≤ c ∧ c ≤ 122
      · rw [if_pos q, if_neg (by decide)]
        have a := tadv hT1
        have hp1 := hT1.1
        have hpl := tpIn_len hT1
        rw [gw32_id (z := M1 1 2 + 1) (by omega) (by omega), gw32_id (by omega) (by omega)]
        rw [show wT (c :: r) = c :: wT r from if_pos q] at h1
        rw [show wR (c :: r) = wR r from if_pos q] at h2
        have ih' := ih (pre ++ [c]) (gU M1 1 2 (M1 1 2 + 1)) (by rw [List.append_assoc]; exact h1) h2 (by rw [List.length_append, List.length_singleton]; omega) (gOK_tp hO1) (by rw [a.1, hM1, tM_tM, tM_f, ff0, List.length_append, List.length_singleton]; congr 1; omega) (by rw [List.length_append, List.length_singleton, show p + ((pre.length + 1 : Nat) : Int) = p + (pre.length : Int) + 1 by omega]; exact a.2)
        rw [List.length_append, List.length_singleton] at ih'
        exact ih'
      · rw [if_neg q, if_pos rfl]
        rw [show wT (c :: r) = [] from if_neg q, List.append_nil] at h1
        rw [show wR (c :: r) = c :: r from if_neg q] at h2
        exact fnd M1 hO1 (by rw [← h1]; exact hM1) (by rw [← h1, ← h2]; exact hT1)
  exact lp s [] M (List.nil_append _) rfl (by simp) hOK (by rw [show p + (([] : List Int).length : Int) = M 1 2 by rw [hT.1]; simp, tM_id]) (by rw [show p + (([] : List Int).length : Int) = p by simp]; exact hT)
