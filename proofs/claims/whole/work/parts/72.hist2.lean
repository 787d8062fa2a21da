-- ==== historyIs: the reference's greatest generation
theorem s_max (a b : Int) : F_max a b = some (if b < a then a else b) := by rw [eq_max]; split <;> rfl
theorem s_hist5 {M : gM} {cs : List kC} {S : Nat → Bool} {h : Int} (hC : uC M cs) (hS : uS M 724 S) (hH : ∀ k : Nat, k < cs.length → M 725 (k : Int) = kGen cs (k : Int)) : F_historyIs_57 M h 5 (-2) 0 = some (gnG cs S cs.length, M) := by
  have hl9 := hC.2.1
  have lp : ∀ (m k : Nat), k + m = cs.length → F_historyIs_57 M h 5 (gnG cs S k) (k : Int) = some (gnG cs S cs.length, M) := by
    intro m
    induction m with
    | zero => intro k hk; rw [eq_historyIs_57, hC.1, if_neg (by omega), show k = cs.length by omega]
    | succ m ih =>
      intro k hk
      have ih1 := ih (k + 1) (by omega)
      rw [show gnG cs S (k + 1) = if S k = true then (if gnG cs S k < kGen cs (k : Int) then kGen cs (k : Int) else gnG cs S k) else gnG cs S k from rfl] at ih1
      rw [eq_historyIs_57, hC.1, if_pos (by omega), if_pos (by omega), hS k (by omega), hH k (by omega), gw32_id (by omega) (by omega)]
      cases hs : S k with
      | false => rw [if_pos bIf]; rw [if_neg (by rw [hs]; decide)] at ih1; exact ih1
      | true =>
        rw [if_neg bIt, if_pos rfl, gI_bb (s_max _ _)]
        rw [if_pos hs] at ih1
        rw [show (if kGen cs (k : Int) < gnG cs S k then gnG cs S k else kGen cs (k : Int)) = (if gnG cs S k < kGen cs (k : Int) then kGen cs (k : Int) else gnG cs S k) by split <;> split <;> omega]
        exact ih1
  exact lp cs.length 0 (by omega)
