-- ==== historyIs: pieces of the class
def wpQ (cs : List kC) (S : Nat → Bool) (w : Int) (k : Nat) : Bool := S k && (if w = 0 then decide ((fPs cs k).length = 0) else decide (2 ≤ (fPs cs k).length))
theorem sp_X11_withParents {sh : gS} {M : gM} {cs : List kC} {S : Nat → Bool} {w : Int} (hOK : gOK sh M) (hC : cOk sh M cs) (hS : mIs M 470 0 S) : gC (gr 1 22) yX11_withParents cX11_withParents 5 (some (.int)) [(4, 0), (0, w)] sh M (gPp sh M (0, cnt (wpQ cs S w) cs.length)) := by
  have hl9 := hC.2.1
  refine w_X11_withParents hOK ?_
  have lp : ∀ (m k : Nat), k + m = cs.length → P_X11_withParents_4 sh (gPp sh M (0, cnt (wpQ cs S w) cs.length)) w (cnt (wpQ cs S w) k) (k : Int) M := by
    intro m
    induction m with
    | zero =>
      intro k hk
      refine w_X11_withParents_4 hOK ?_
      rw [hC.1, if_neg (by omega), show k = cs.length by omega]
      exact ⟨rfl, rfl, rfl⟩
    | succ m ih =>
      intro k hk
      have hkl : k < cs.length := by omega
      have hc := List.getElem?_eq_getElem hkl
      generalize cs[k] = c at hc
      have o1 := (hC.2.2.2 k c hc).1.1
      have hf : fPs cs k = kPs c := by unfold fPs; rw [hc]
      have hr := cnt_rng (wpQ cs S w) k
      have ih1 := ih (k + 1) (by omega)
      refine w_X11_withParents_4 hOK ?_
      rw [hC.1, if_pos (by omega)]
      refine ⟨by omega, _, sp_X3_has hOK (mSh470 hOK) (by decide), ?_⟩
      rw [mHas_of hS k (by omega), o1]
      simp (disch := omega) only [gw32_id]
      have yes : wpQ cs S w k = true → P_X11_withParents_4 sh (gPp sh M (0, cnt (wpQ cs S w) cs.length)) w (cnt (wpQ cs S w) k + 1) ((k : Int) + 1) M := fun hb => by rw [cnt_T hb] at ih1; exact ih1
      have no : wpQ cs S w k = false → P_X11_withParents_4 sh (gPp sh M (0, cnt (wpQ cs S w) cs.length)) w (cnt (wpQ cs S w) k) ((k : Int) + 1) M := fun hb => by rw [cnt_F hb] at ih1; exact ih1
      have hq : wpQ cs S w k = (S k && (if w = 0 then decide ((kPs c).length = 0) else decide (2 ≤ (kPs c).length))) := by unfold wpQ; rw [hf]
      cases hs : S k with
      | false => rw [if_pos bIf]; exact no (by rw [hq, hs]; rfl)
      | true =>
        rw [if_neg bIt]
        rw [hs, Bool.true_and] at hq
        by_cases w0 : w = 0
        · rw [if_pos w0] at hq ⊢
          by_cases e : (kPs c).length = 0
          · rw [if_pos (by omega)]; exact yes (by rw [hq]; exact decide_eq_true e)
          · rw [if_neg (by omega)]; exact no (by rw [hq]; exact decide_eq_false e)
        · rw [if_neg w0] at hq ⊢
          by_cases e : 2 ≤ (kPs c).length
          · rw [if_neg (by omega)]; exact yes (by rw [hq]; exact decide_eq_true e)
          · rw [if_pos (by omega)]; exact no (by rw [hq]; exact decide_eq_false e)
  exact lp cs.length 0 (by omega)
def gnG (cs : List kC) (S : Nat → Bool) : Nat → Int
  | 0 => -2
  | k + 1 => if S k = true then (if gnG cs S k < kGen cs (k : Int) then kGen cs (k : Int) else gnG cs S k) else gnG cs S k
theorem sp_X11_greatestGeneration {sh : gS} {M : gM} {cs : List kC} {S : Nat → Bool} (hOK : gOK sh M) (hC : cOk sh M cs) (hS : mIs M 470 0 S) : gC (gr 1 22) yX11_greatestGeneration cX11_greatestGeneration 3 (some (.int)) [(4, 0)] sh M (gPp sh M (0, gnG cs S cs.length)) := by
  have hl9 := hC.2.1
  refine w_X11_greatestGeneration hOK ?_
  have lp : ∀ (m k : Nat), k + m = cs.length → P_X11_greatestGeneration_5 sh (gPp sh M (0, gnG cs S cs.length)) (gnG cs S k) (k : Int) M := by
    intro m
    induction m with
    | zero =>
      intro k hk
      refine w_X11_greatestGeneration_5 hOK ?_
      rw [hC.1, if_neg (by omega), show k = cs.length by omega]
      exact ⟨rfl, rfl, rfl⟩
    | succ m ih =>
      intro k hk
      have hkl : k < cs.length := by omega
      have hc := List.getElem?_eq_getElem hkl
      generalize cs[k] = c at hc
      have o := (hC.2.2.2 k c hc).2.2.2.2.1
      have ih1 := ih (k + 1) (by omega)
      rw [show gnG cs S (k + 1) = if S k = true then (if gnG cs S k < kGen cs (k : Int) then kGen cs (k : Int) else gnG cs S k) else gnG cs S k from rfl] at ih1
      refine w_X11_greatestGeneration_5 hOK ?_
      rw [hC.1, if_pos (by omega)]
      refine ⟨_, sp_X3_has hOK (mSh470 hOK) (by decide), ?_⟩
      rw [mHas_of hS k (by omega), gw32_id (by omega) (by omega), o]
      cases hs : S k with
      | false => rw [if_pos bIf]; rw [if_neg (by rw [hs]; decide)] at ih1; exact ih1
      | true => rw [if_neg bIt]; rw [if_pos hs] at ih1; exact ⟨by omega, ih1⟩
  exact lp cs.length 0 (by omega)
