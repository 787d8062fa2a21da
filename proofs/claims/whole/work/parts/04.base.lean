theorem gnz {x : Int} (h : x = 0 ∨ x = 1) : narrow .boolean (.int (Int32.ofInt x)) = .int (Int32.ofInt x) := by
  rcases h with rfl | rfl <;> rfl
theorem gfz {x : Int} (h : x = 0 ∨ x = 1) (G : gG) : narrow .boolean (gc G (0, x)) = gc G (0, x) ∧ fits .boolean (gc G (0, x)) = true := by
  rcases h with rfl | rfl <;> exact ⟨rfl, rfl⟩
theorem gFree_obj {c f : Nat} (h : gOff c f = none) : gFree (0, c) (f : Int) := by
  intro j hj
  have : j = f := by omega
  subst this
  exact h
theorem dX10_find_0 : decode cX10_find 0 = .ok (.iconst 0, 1) := by decide +kernel
theorem dX10_find_1 : decode cX10_find 1 = .ok (.istore_n 2, 1) := by decide +kernel
theorem dX10_find_2 : decode cX10_find 2 = .ok (.iload_n 2, 1) := by decide +kernel
theorem dX10_find_3 : decode cX10_find 3 = .ok (.aload_n 0, 1) := by decide +kernel
theorem dX10_find_4 : decode cX10_find 4 = .ok (.getfield 23, 3) := by decide +kernel
theorem dX10_find_7 : decode cX10_find 7 = .ok (.if_icmp .ge 21, 3) := by decide +kernel
theorem dX10_find_10 : decode cX10_find 10 = .ok (.aload_n 0, 1) := by decide +kernel
theorem dX10_find_11 : decode cX10_find 11 = .ok (.getfield 9, 3) := by decide +kernel
theorem dX10_find_14 : decode cX10_find 14 = .ok (.iload_n 2, 1) := by decide +kernel
theorem dX10_find_15 : decode cX10_find 15 = .ok (.iaload, 1) := by decide +kernel
theorem dX10_find_16 : decode cX10_find 16 = .ok (.iload_n 1, 1) := by decide +kernel
theorem dX10_find_17 : decode cX10_find 17 = .ok (.if_icmp .ne 5, 3) := by decide +kernel
theorem dX10_find_20 : decode cX10_find 20 = .ok (.iload_n 2, 1) := by decide +kernel
theorem dX10_find_21 : decode cX10_find 21 = .ok (.ireturn, 1) := by decide +kernel
theorem dX10_find_22 : decode cX10_find 22 = .ok (.iinc 2 1, 3) := by decide +kernel
theorem dX10_find_25 : decode cX10_find 25 = .ok (.goto (-23), 3) := by decide +kernel
theorem dX10_find_28 : decode cX10_find 28 = .ok (.iconst (-1), 1) := by decide +kernel
theorem dX10_find_29 : decode cX10_find 29 = .ok (.ireturn, 1) := by decide +kernel
/-- a tree at t: its shape -/
def tSh (sh : gS) (t : Int) (n : Nat) : Prop := gsh sh t = some (0, 11) ∧ gsh sh (t + 1) = some (1, n) ∧ gsh sh (t + 2) = some (1, n) ∧ t < 758
/-- the files that stand in it -/
def tAt (M : gM) (t : Int) (fs : List (Int × Int)) : Prop := M t 2 = (fs.length : Int) ∧ ∀ (i : Nat) (f : Int × Int), fs[i]? = some f → M (t + 1) (i : Int) = f.1 ∧ M (t + 2) (i : Int) = f.2
def tFind (w : Int) : List (Int × Int) → Int → Int
  | [], _ => -1
  | f :: r, i => if f.1 = w then i else tFind w r (i + 1)
set_option maxHeartbeats 400000 in
theorem sp_X10_find {sh : gS} {M : gM} {t w : Int} {n : Nat} {fs : List (Int × Int)} (hOK : gOK sh M) (hs : tSh sh t n) (hn : n ≤ 32) (hT : tAt M t fs) (hl : fs.length ≤ n) :
    gC (gr 0 0) yX10_find cX10_find 3 (some (.int)) [(4, t), (0, w)] sh M (gPp sh M (0, tFind w fs 0)) := by
  obtain ⟨hs0, hs1, hs2, hlt⟩ := hs
  refine gC_ofA (lv := [_, _, _]) (by decide +kernel) (Nat.le_of_ble_eq_true rfl) rfl (fun hMw hav => ?_)
  have lp : ∀ (suf : List (Int × Int)) (i : Int), 0 ≤ i → i + (suf.length : Int) = (fs.length : Int) → (∀ (j : Nat) (f : Int × Int), suf[j]? = some f → M (t + 1) (i + (j : Int)) = f.1) → tFind w suf i = tFind w fs 0 →
      gA (gr 0 0) yX10_find cX10_find 3 (some (.int)) (gPp sh M (0, tFind w fs 0)) (0, 0) 2 [(4, t), (0, w), (0, i)] [] sh M := by
    intro suf
    induction suf with
    | nil =>
      intro i h0 hi hm hv
      simp only [List.length_nil] at hi
      refine g_iload_n (q0 := 3) (j := 2) rfl dX10_find_2 rfl ?_
      refine g_aload_n (q0 := 4) (j := 0) rfl dX10_find_3 rfl ?_
      refine g_getf (q0 := 7) (t := 0) (fi := 2) rfl rfl ff_X10_23 dX10_find_4 rfl (by assumption) ?_
      refine g_icmp_ge (q0 := 10) (tgt := 28) rfl dX10_find_7 (by decide) (fun h7 => ?_) (fun h7 => ?_)
      · refine g_iconst (q0 := 29) rfl dX10_find_28 (k := ?_)
        refine g_ireturn dX10_find_29 rfl ⟨Nat.zero_le _, Nat.zero_le _⟩ ?_
        exact ⟨by rw [← hv]; rfl, rfl, rfl⟩
      · exact absurd h7 (by rw [hT.1]; omega)
    | cons f r ih =>
      intro i h0 hi hm hv
      simp only [List.length_cons] at hi
      refine g_iload_n (q0 := 3) (j := 2) rfl dX10_find_2 rfl ?_
      refine g_aload_n (q0 := 4) (j := 0) rfl dX10_find_3 rfl ?_
      refine g_getf (q0 := 7) (t := 0) (fi := 2) rfl rfl ff_X10_23 dX10_find_4 rfl (by assumption) ?_
      refine g_icmp_ge (q0 := 10) (tgt := 28) rfl dX10_find_7 (by decide) (fun h7 => ?_) (fun h7 => ?_)
      · exact absurd h7 (by rw [hT.1]; omega)
      · refine g_aload_n (q0 := 11) (j := 0) rfl dX10_find_10 rfl ?_
        refine g_getp (q0 := 14) (b := t + 1) rfl ff_X10_9 dX10_find_11 rfl hOK (by omega) (by assumption) rfl rfl ?_
        refine g_iload_n (q0 := 15) (j := 2) rfl dX10_find_14 rfl ?_
        refine g_iald (q0 := 16) rfl dX10_find_15 (by assumption) (by omega) (by omega) ?_
        refine g_iload_n (q0 := 17) (j := 1) rfl dX10_find_16 rfl ?_
        refine g_icmp_ne (q0 := 20) (tgt := 22) rfl dX10_find_17 (by decide) (fun h17 => ?_) (fun h17 => ?_)
        · refine g_iinc (q0 := 25) (lv2 := [_, _, _]) rfl dX10_find_22 rfl (by decide) rfl rfl (by omega) (by omega) ?_
          refine g_goto (tgt := 2) dX10_find_25 (by decide) ?_
          exact ih (i + 1) (by omega) (by omega) (fun j g hg => by have := hm (j + 1) g hg; rw [← this]; congr 1; omega) (by rw [← hv]; rw [tFind, if_neg (by have := hm 0 f rfl; simp at this; rw [← this]; exact h17)])
        · refine g_iload_n (q0 := 21) (j := 2) rfl dX10_find_20 rfl ?_
          refine g_ireturn dX10_find_21 rfl ⟨Nat.zero_le _, Nat.zero_le _⟩ ?_
          have e0 := hm 0 f rfl
          simp only [Int.natCast_zero, Int.add_zero] at e0
          exact ⟨by rw [← hv, tFind, if_pos (by rw [← e0]; exact h17)], rfl, rfl⟩
  refine g_iconst (q0 := 1) rfl dX10_find_0 (k := ?_)
  refine g_istore_n (q0 := 2) (j := 2) (lv2 := [_, _, _]) rfl dX10_find_1 (by decide) rfl rfl ?_
  exact lp fs 0 (by omega) (by omega) (fun j f hf => by rw [Int.zero_add]; exact (hT.2 j f hf).1) rfl
