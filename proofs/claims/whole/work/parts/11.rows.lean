-- ==== rows of a memory as lists
theorem dX4_find_0 : decode cX4_find 0 = .ok (.iconst 0, 1) := by decide +kernel
theorem dX4_find_1 : decode cX4_find 1 = .ok (.istore_n 2, 1) := by decide +kernel
theorem dX4_find_2 : decode cX4_find 2 = .ok (.iload_n 2, 1) := by decide +kernel
theorem dX4_find_3 : decode cX4_find 3 = .ok (.aload_n 0, 1) := by decide +kernel
theorem dX4_find_4 : decode cX4_find 4 = .ok (.getfield 18, 3) := by decide +kernel
theorem dX4_find_7 : decode cX4_find 7 = .ok (.if_icmp .ge 21, 3) := by decide +kernel
theorem dX4_find_10 : decode cX4_find 10 = .ok (.aload_n 0, 1) := by decide +kernel
theorem dX4_find_11 : decode cX4_find 11 = .ok (.getfield 9, 3) := by decide +kernel
theorem dX4_find_14 : decode cX4_find 14 = .ok (.iload_n 2, 1) := by decide +kernel
theorem dX4_find_15 : decode cX4_find 15 = .ok (.iaload, 1) := by decide +kernel
theorem dX4_find_16 : decode cX4_find 16 = .ok (.iload_n 1, 1) := by decide +kernel
theorem dX4_find_17 : decode cX4_find 17 = .ok (.if_icmp .ne 5, 3) := by decide +kernel
theorem dX4_find_20 : decode cX4_find 20 = .ok (.iload_n 2, 1) := by decide +kernel
theorem dX4_find_21 : decode cX4_find 21 = .ok (.ireturn, 1) := by decide +kernel
theorem dX4_find_22 : decode cX4_find 22 = .ok (.iinc 2 1, 3) := by decide +kernel
theorem dX4_find_25 : decode cX4_find 25 = .ok (.goto (-23), 3) := by decide +kernel
theorem dX4_find_28 : decode cX4_find 28 = .ok (.iconst (-1), 1) := by decide +kernel
theorem dX4_find_29 : decode cX4_find 29 = .ok (.ireturn, 1) := by decide +kernel
theorem dX4_add_0 : decode cX4_add 0 = .ok (.aload_n 0, 1) := by decide +kernel
theorem dX4_add_1 : decode cX4_add 1 = .ok (.getfield 18, 3) := by decide +kernel
theorem dX4_add_4 : decode cX4_add 4 = .ok (.aload_n 0, 1) := by decide +kernel
theorem dX4_add_5 : decode cX4_add 5 = .ok (.getfield 9, 3) := by decide +kernel
theorem dX4_add_8 : decode cX4_add 8 = .ok (.arraylength, 1) := by decide +kernel
theorem dX4_add_9 : decode cX4_add 9 = .ok (.if_icmp .ge 33, 3) := by decide +kernel
theorem dX4_add_12 : decode cX4_add 12 = .ok (.aload_n 0, 1) := by decide +kernel
theorem dX4_add_13 : decode cX4_add 13 = .ok (.getfield 9, 3) := by decide +kernel
theorem dX4_add_16 : decode cX4_add 16 = .ok (.aload_n 0, 1) := by decide +kernel
theorem dX4_add_17 : decode cX4_add 17 = .ok (.getfield 18, 3) := by decide +kernel
theorem dX4_add_20 : decode cX4_add 20 = .ok (.iload_n 1, 1) := by decide +kernel
theorem dX4_add_21 : decode cX4_add 21 = .ok (.iastore, 1) := by decide +kernel
theorem dX4_add_22 : decode cX4_add 22 = .ok (.aload_n 0, 1) := by decide +kernel
theorem dX4_add_23 : decode cX4_add 23 = .ok (.getfield 15, 3) := by decide +kernel
theorem dX4_add_26 : decode cX4_add 26 = .ok (.aload_n 0, 1) := by decide +kernel
theorem dX4_add_27 : decode cX4_add 27 = .ok (.getfield 18, 3) := by decide +kernel
theorem dX4_add_30 : decode cX4_add 30 = .ok (.iload_n 2, 1) := by decide +kernel
theorem dX4_add_31 : decode cX4_add 31 = .ok (.iastore, 1) := by decide +kernel
theorem dX4_add_32 : decode cX4_add 32 = .ok (.aload_n 0, 1) := by decide +kernel
theorem dX4_add_33 : decode cX4_add 33 = .ok (.dup, 1) := by decide +kernel
theorem dX4_add_34 : decode cX4_add 34 = .ok (.getfield 18, 3) := by decide +kernel
theorem dX4_add_37 : decode cX4_add 37 = .ok (.iconst 1, 1) := by decide +kernel
theorem dX4_add_38 : decode cX4_add 38 = .ok (.iadd, 1) := by decide +kernel
theorem dX4_add_39 : decode cX4_add 39 = .ok (.putfield 18, 3) := by decide +kernel
theorem dX4_add_42 : decode cX4_add 42 = .ok (.return_, 1) := by decide +kernel
theorem dX4_exchanged_0 : decode cX4_exchanged 0 = .ok (.aload_n 0, 1) := by decide +kernel
theorem dX4_exchanged_1 : decode cX4_exchanged 1 = .ok (.iload_n 1, 1) := by decide +kernel
theorem dX4_exchanged_2 : decode cX4_exchanged 2 = .ok (.invokevirtual 22, 3) := by decide +kernel
theorem dX4_exchanged_5 : decode cX4_exchanged 5 = .ok (.istore_n 2, 1) := by decide +kernel
theorem dX4_exchanged_6 : decode cX4_exchanged 6 = .ok (.iload_n 2, 1) := by decide +kernel
theorem dX4_exchanged_7 : decode cX4_exchanged 7 = .ok (.ifCond .ge 7, 3) := by decide +kernel
theorem dX4_exchanged_10 : decode cX4_exchanged 10 = .ok (.iload_n 1, 1) := by decide +kernel
theorem dX4_exchanged_11 : decode cX4_exchanged 11 = .ok (.goto 9, 3) := by decide +kernel
theorem dX4_exchanged_14 : decode cX4_exchanged 14 = .ok (.aload_n 0, 1) := by decide +kernel
theorem dX4_exchanged_15 : decode cX4_exchanged 15 = .ok (.getfield 15, 3) := by decide +kernel
theorem dX4_exchanged_18 : decode cX4_exchanged 18 = .ok (.iload_n 2, 1) := by decide +kernel
theorem dX4_exchanged_19 : decode cX4_exchanged 19 = .ok (.iaload, 1) := by decide +kernel
theorem dX4_exchanged_20 : decode cX4_exchanged 20 = .ok (.ireturn, 1) := by decide +kernel
theorem dX4_cover_0 : decode cX4_cover 0 = .ok (.iconst 0, 1) := by decide +kernel
theorem dX4_cover_1 : decode cX4_cover 1 = .ok (.istore_n 2, 1) := by decide +kernel
theorem dX4_cover_2 : decode cX4_cover 2 = .ok (.iload_n 2, 1) := by decide +kernel
theorem dX4_cover_3 : decode cX4_cover 3 = .ok (.aload_n 0, 1) := by decide +kernel
theorem dX4_cover_4 : decode cX4_cover 4 = .ok (.getfield 18, 3) := by decide +kernel
theorem dX4_cover_7 : decode cX4_cover 7 = .ok (.if_icmp .ge 24, 3) := by decide +kernel
theorem dX4_cover_10 : decode cX4_cover 10 = .ok (.aload_n 0, 1) := by decide +kernel
theorem dX4_cover_11 : decode cX4_cover 11 = .ok (.getfield 9, 3) := by decide +kernel
theorem dX4_cover_14 : decode cX4_cover 14 = .ok (.iload_n 2, 1) := by decide +kernel
theorem dX4_cover_15 : decode cX4_cover 15 = .ok (.iaload, 1) := by decide +kernel
theorem dX4_cover_16 : decode cX4_cover 16 = .ok (.iload_n 1, 1) := by decide +kernel
theorem dX4_cover_17 : decode cX4_cover 17 = .ok (.invokestatic 26, 3) := by decide +kernel
theorem dX4_cover_20 : decode cX4_cover 20 = .ok (.ifCond .eq 5, 3) := by decide +kernel
theorem dX4_cover_23 : decode cX4_cover 23 = .ok (.iconst 1, 1) := by decide +kernel
theorem dX4_cover_24 : decode cX4_cover 24 = .ok (.ireturn, 1) := by decide +kernel
theorem dX4_cover_25 : decode cX4_cover 25 = .ok (.iinc 2 1, 3) := by decide +kernel
theorem dX4_cover_28 : decode cX4_cover 28 = .ok (.goto (-26), 3) := by decide +kernel
theorem dX4_cover_31 : decode cX4_cover 31 = .ok (.iconst 0, 1) := by decide +kernel
theorem dX4_cover_32 : decode cX4_cover 32 = .ok (.ireturn, 1) := by decide +kernel
theorem dX4_copy_0 : decode cX4_copy 0 = .ok (.aload_n 0, 1) := by decide +kernel
theorem dX4_copy_1 : decode cX4_copy 1 = .ok (.aload_n 1, 1) := by decide +kernel
theorem dX4_copy_2 : decode cX4_copy 2 = .ok (.getfield 18, 3) := by decide +kernel
theorem dX4_copy_5 : decode cX4_copy 5 = .ok (.aload_n 0, 1) := by decide +kernel
theorem dX4_copy_6 : decode cX4_copy 6 = .ok (.getfield 9, 3) := by decide +kernel
theorem dX4_copy_9 : decode cX4_copy 9 = .ok (.arraylength, 1) := by decide +kernel
theorem dX4_copy_10 : decode cX4_copy 10 = .ok (.invokestatic 32, 3) := by decide +kernel
theorem dX4_copy_13 : decode cX4_copy 13 = .ok (.putfield 18, 3) := by decide +kernel
theorem dX4_copy_16 : decode cX4_copy 16 = .ok (.aload_n 1, 1) := by decide +kernel
theorem dX4_copy_17 : decode cX4_copy 17 = .ok (.getfield 9, 3) := by decide +kernel
theorem dX4_copy_20 : decode cX4_copy 20 = .ok (.iconst 0, 1) := by decide +kernel
theorem dX4_copy_21 : decode cX4_copy 21 = .ok (.aload_n 0, 1) := by decide +kernel
theorem dX4_copy_22 : decode cX4_copy 22 = .ok (.getfield 9, 3) := by decide +kernel
theorem dX4_copy_25 : decode cX4_copy 25 = .ok (.iconst 0, 1) := by decide +kernel
theorem dX4_copy_26 : decode cX4_copy 26 = .ok (.aload_n 0, 1) := by decide +kernel
theorem dX4_copy_27 : decode cX4_copy 27 = .ok (.getfield 18, 3) := by decide +kernel
theorem dX4_copy_30 : decode cX4_copy 30 = .ok (.invokestatic 38, 3) := by decide +kernel
theorem dX4_copy_33 : decode cX4_copy 33 = .ok (.aload_n 1, 1) := by decide +kernel
theorem dX4_copy_34 : decode cX4_copy 34 = .ok (.getfield 15, 3) := by decide +kernel
theorem dX4_copy_37 : decode cX4_copy 37 = .ok (.iconst 0, 1) := by decide +kernel
theorem dX4_copy_38 : decode cX4_copy 38 = .ok (.aload_n 0, 1) := by decide +kernel
theorem dX4_copy_39 : decode cX4_copy 39 = .ok (.getfield 15, 3) := by decide +kernel
theorem dX4_copy_42 : decode cX4_copy 42 = .ok (.iconst 0, 1) := by decide +kernel
theorem dX4_copy_43 : decode cX4_copy 43 = .ok (.aload_n 0, 1) := by decide +kernel
theorem dX4_copy_44 : decode cX4_copy 44 = .ok (.getfield 18, 3) := by decide +kernel
theorem dX4_copy_47 : decode cX4_copy 47 = .ok (.invokestatic 38, 3) := by decide +kernel
theorem dX4_copy_50 : decode cX4_copy 50 = .ok (.return_, 1) := by decide +kernel
/-- from place i on the row g holds the list -/
def rw_ {α : Type} (g : Int → α) (i : Int) (xs : List α) : Prop := ∀ (j : Nat) (x : α), xs[j]? = some x → g (i + (j : Int)) = x
section rows
variable {α : Type} {g g2 : Int → α} {i : Int} {xs ys : List α} {x : α}
theorem rw_nil : rw_ g i [] := fun j y h => by simp at h
theorem rw_cons (h : rw_ g i (x :: xs)) : g i = x ∧ rw_ g (i + 1) xs := by
  refine ⟨by simpa using h 0 x rfl, fun j y hj => ?_⟩
  have := h (j + 1) y (by simpa using hj)
  rwa [show i + ((j + 1 : Nat) : Int) = i + 1 + (j : Int) by omega] at this
theorem rw_mk (h0 : g i = x) (h : rw_ g (i + 1) xs) : rw_ g i (x :: xs) := by
  intro j y hj
  cases j with
  | zero => simp at hj; subst hj; simpa using h0
  | succ j =>
    rw [show i + ((j + 1 : Nat) : Int) = i + 1 + (j : Int) by omega]
    exact h j y (by simpa using hj)
theorem rw_app (h : rw_ g i (xs ++ ys)) : rw_ g i xs ∧ rw_ g (i + (xs.length : Int)) ys := by
  refine ⟨fun j y hj => h j y ?_, fun j y hj => ?_⟩
  · rw [List.getElem?_append_left (List.getElem?_eq_some_iff.mp hj).1]; exact hj
  · have := h (xs.length + j) y (by rw [List.getElem?_append_right (by omega)]; simpa using hj)
    rwa [show i + ((xs.length + j : Nat) : Int) = i + (xs.length : Int) + (j : Int) by omega] at this
theorem rw_mkapp (h1 : rw_ g i xs) (h2 : rw_ g (i + (xs.length : Int)) ys) : rw_ g i (xs ++ ys) := by
  intro j y hj
  rcases Nat.lt_or_ge j xs.length with z | z
  · rw [List.getElem?_append_left z] at hj; exact h1 j y hj
  · rw [List.getElem?_append_right z] at hj
    have := h2 _ y hj
    rwa [show i + (xs.length : Int) + ((j - xs.length : Nat) : Int) = i + (j : Int) by omega] at this
theorem rw_snoc (h1 : rw_ g i xs) (h2 : g (i + (xs.length : Int)) = x) : rw_ g i (xs ++ [x]) := rw_mkapp h1 (rw_mk h2 rw_nil)
theorem rw_congr (h : rw_ g i xs) (he : ∀ q : Int, i ≤ q → q < i + (xs.length : Int) → g2 q = g q) : rw_ g2 i xs := by
  intro j y hj
  have := (List.getElem?_eq_some_iff.mp hj).1
  rw [he _ (by omega) (by omega)]
  exact h j y hj
theorem rw_shift {d : Int} (h : rw_ g i xs) (he : ∀ q : Int, i ≤ q → q < i + (xs.length : Int) → g2 (q + d) = g q) : rw_ g2 (i + d) xs := by
  intro j y hj
  have := (List.getElem?_eq_some_iff.mp hj).1
  rw [show i + d + (j : Int) = i + (j : Int) + d by omega, he _ (by omega) (by omega)]
  exact h j y hj
end rows
/-- the k-th one and all before it: for a row whose length is known -/
theorem ls_snoc {α : Type} {xs : List α} {k : Nat} (h : xs.length = k + 1) : ∃ ys y, xs = ys ++ [y] ∧ ys.length = k := by
  rcases List.eq_nil_or_concat xs with rfl | ⟨ys, y, rfl⟩
  · simp at h
  · exact ⟨ys, y, by simp, by simpa using h⟩
-- ==== Pairs
def qG (M : gM) (a q : Int) : Int × Int := (M (a + 1) q, M (a + 2) q)
def qSh (sh : gS) (a : Int) (n : Nat) : Prop := gsh sh a = some (0, 5) ∧ gsh sh (a + 1) = some (1, n) ∧ gsh sh (a + 2) = some (1, n) ∧ a < 758 ∧ n ≤ 10
def qOk (sh : gS) (M : gM) (a : Int) (n : Nat) (ps : List (Int × Int)) : Prop := qSh sh a n ∧ ps.length ≤ n ∧ M a 0 = (ps.length : Int) ∧ rw_ (qG M a) 0 ps
def qFind (w : Int) : List (Int × Int) → Int → Int
  | [], _ => -1
  | f :: r, i => if f.1 = w then i else qFind w r (i + 1)
/-- the second one of the first pair with that first one -/
def qGet (w : Int) : List (Int × Int) → Option Int
  | [] => none
  | f :: r => if f.1 = w then some f.2 else qGet w r
def qCov (p : Int) : List (Int × Int) → Bool
  | [] => false
  | f :: r => if pCov f.1 p then true else qCov p r
theorem qFind_sp (w : Int) : ∀ (ps : List (Int × Int)) (i : Int), (qFind w ps i = -1 ∧ qGet w ps = none) ∨ (∃ (pre suf : List (Int × Int)) (v : Int), ps = pre ++ (w, v) :: suf ∧ qFind w ps i = i + (pre.length : Int) ∧ qGet w ps = some v)
  | [], i => Or.inl ⟨rfl, rfl⟩
  | g :: r, i => by
    unfold qFind qGet
    by_cases h : g.1 = w
    · rw [if_pos h, if_pos h]
      exact Or.inr ⟨[], r, g.2, by rw [← h]; rfl, by simp, rfl⟩
    · rw [if_neg h, if_neg h]
      rcases qFind_sp w r (i + 1) with z | ⟨pre, suf, v, a, b, c⟩
      · exact Or.inl z
      · exact Or.inr ⟨g :: pre, suf, v, by rw [a]; rfl, by rw [b]; simp only [List.length_cons]; omega, c⟩
theorem qG_1 {M : gM} {a q : Int} {f : Int × Int} (h : qG M a q = f) : M (a + 1) q = f.1 ∧ M (a + 2) q = f.2 := by subst h; exact ⟨rfl, rfl⟩
theorem sp_X4_find {sh : gS} {M : gM} {t w : Int} {n : Nat} {ps : List (Int × Int)} (hOK : gOK sh M) (hT : qOk sh M t n ps) :
    gC (gr 0 0) yX4_find cX4_find 3 (some (.int)) [(4, t), (0, w)] sh M (gPp sh M (0, qFind w ps 0)) := by
  obtain ⟨⟨hs0, hs1, hs2, hlt, hn⟩, hl, hc, hR⟩ := hT
  refine gC_ofA (lv := [_, _, _]) (by decide +kernel) (Nat.le_of_ble_eq_true rfl) rfl (fun hMw hav => ?_)
  have lp : ∀ (suf : List (Int × Int)) (i : Int), 0 ≤ i → M t 0 = i + (suf.length : Int) → rw_ (qG M t) i suf → qFind w suf i = qFind w ps 0 →
      gA (gr 0 0) yX4_find cX4_find 3 (some (.int)) (gPp sh M (0, qFind w ps 0)) (0, 0) 2 [(4, t), (0, w), (0, i)] [] sh M := by
    intro suf
    induction suf with
    | nil =>
      intro i h0 hS hg hv
      simp only [List.length_nil] at hS
      refine g_iload_n (q0 := 3) (j := 2) rfl dX4_find_2 rfl ?_
      refine g_aload_n (q0 := 4) (j := 0) rfl dX4_find_3 rfl ?_
      refine g_getf (q0 := 7) (t := 0) (fi := 0) rfl rfl ff_X4_18 dX4_find_4 rfl (by assumption) ?_
      refine g_icmp_ge (q0 := 10) (tgt := 28) rfl dX4_find_7 (by decide) (fun h7 => ?_) (fun h7 => ?_)
      · refine g_iconst (q0 := 29) rfl dX4_find_28 (k := ?_)
        refine g_ireturn dX4_find_29 rfl ⟨Nat.zero_le _, Nat.zero_le _⟩ ?_
        exact ⟨by rw [← hv]; rfl, rfl, rfl⟩
      · omega
    | cons f r ih =>
      intro i h0 hS hg hv
      simp only [List.length_cons] at hS
      obtain ⟨g0, g1⟩ := rw_cons hg
      obtain ⟨k2, k3⟩ := qG_1 g0
      rw [qFind] at hv
      refine g_iload_n (q0 := 3) (j := 2) rfl dX4_find_2 rfl ?_
      refine g_aload_n (q0 := 4) (j := 0) rfl dX4_find_3 rfl ?_
      refine g_getf (q0 := 7) (t := 0) (fi := 0) rfl rfl ff_X4_18 dX4_find_4 rfl (by assumption) ?_
      refine g_icmp_ge (q0 := 10) (tgt := 28) rfl dX4_find_7 (by decide) (fun h7 => ?_) (fun h7 => ?_)
      · omega
      · refine g_aload_n (q0 := 11) (j := 0) rfl dX4_find_10 rfl ?_
        refine g_getp (q0 := 14) (b := t + 1) rfl ff_X4_9 dX4_find_11 rfl hOK (by omega) (by assumption) rfl rfl ?_
        refine g_iload_n (q0 := 15) (j := 2) rfl dX4_find_14 rfl ?_
        refine g_iald (q0 := 16) rfl dX4_find_15 (by assumption) (by omega) (by omega) ?_
        refine g_iload_n (q0 := 17) (j := 1) rfl dX4_find_16 rfl ?_
        refine g_icmp_ne (q0 := 20) (tgt := 22) rfl dX4_find_17 (by decide) (fun h17 => ?_) (fun h17 => ?_)
        · rw [k2] at h17
          rw [if_neg h17] at hv
          refine g_iinc (q0 := 25) (lv2 := [_, _, _]) rfl dX4_find_22 rfl (by decide) rfl rfl (by omega) (by omega) ?_
          refine g_goto (tgt := 2) dX4_find_25 (by decide) ?_
          exact ih (i + 1) (by omega) (by omega) g1 hv
        · rw [k2] at h17
          rw [if_pos h17] at hv
          refine g_iload_n (q0 := 21) (j := 2) rfl dX4_find_20 rfl ?_
          refine g_ireturn dX4_find_21 rfl ⟨Nat.zero_le _, Nat.zero_le _⟩ ?_
          exact ⟨by rw [← hv], rfl, rfl⟩
  refine g_iconst (q0 := 1) rfl dX4_find_0 (k := ?_)
  refine g_istore_n (q0 := 2) (j := 2) (lv2 := [_, _, _]) rfl dX4_find_1 (by decide) rfl rfl ?_
  exact lp ps 0 (by omega) (by omega) hR rfl
theorem sp_X4_exchanged {sh : gS} {M : gM} {t w : Int} {n : Nat} {ps : List (Int × Int)} (hOK : gOK sh M) (hT : qOk sh M t n ps) :
    gC (gr 1 22) yX4_exchanged cX4_exchanged 3 (some (.int)) [(4, t), (0, w)] sh M (gPp sh M (0, (qGet w ps).getD w)) := by
  have hT0 := hT
  obtain ⟨⟨hs0, hs1, hs2, hlt, hn⟩, hl, hc, hR⟩ := hT
  refine gC_ofA (lv := [_, _, _]) (by decide +kernel) (Nat.le_of_ble_eq_true rfl) rfl (fun hMw hav => ?_)
  refine g_aload_n (q0 := 1) (j := 0) rfl dX4_exchanged_0 rfl ?_
  refine g_iload_n (q0 := 2) (j := 1) rfl dX4_exchanged_1 rfl ?_
  refine g_callVp (as := [_]) (rest := []) mt_X4_find mi_X4_find se_X4_find ml_X4_22 dX4_exchanged_2 (q0 := 5) rfl rfl (by assumption) rfl rfl (sp_X4_find hOK hT0) rfl ⟨by decide, by decide⟩ (Nat.le_of_ble_eq_true rfl) ⟨Nat.zero_le _, Nat.zero_le _⟩ (fun hwc => ?_)
  rcases qFind_sp w ps 0 with ⟨a, b⟩ | ⟨pre, suf, v, a, b, c⟩
  · rw [a, b]
    refine g_istore_n (q0 := 6) (j := 2) (lv2 := [_, _, _]) rfl dX4_exchanged_5 (by decide) rfl rfl ?_
    refine g_iload_n (q0 := 7) (j := 2) rfl dX4_exchanged_6 rfl ?_
    refine g_if_ge (q0 := 10) (tgt := 14) rfl dX4_exchanged_7 (by decide) (fun h7 => ?_) (fun h7 => ?_)
    · omega
    · refine g_iload_n (q0 := 11) (j := 1) rfl dX4_exchanged_10 rfl ?_
      refine g_goto (tgt := 20) dX4_exchanged_11 (by decide) ?_
      refine g_ireturn dX4_exchanged_20 rfl ⟨Nat.zero_le _, Nat.zero_le _⟩ ?_
      exact ⟨rfl, rfl, rfl⟩
  · rw [b, c]
    have hlen : (ps.length : Int) = (pre.length : Int) + (suf.length : Int) + 1 := by rw [a]; simp; omega
    rw [a] at hR
    have g0 := qG_1 (rw_cons (rw_app hR).2).1
    refine g_istore_n (q0 := 6) (j := 2) (lv2 := [_, _, _]) rfl dX4_exchanged_5 (by decide) rfl rfl ?_
    refine g_iload_n (q0 := 7) (j := 2) rfl dX4_exchanged_6 rfl ?_
    refine g_if_ge (q0 := 10) (tgt := 14) rfl dX4_exchanged_7 (by decide) (fun h7 => ?_) (fun h7 => ?_)
    · refine g_aload_n (q0 := 15) (j := 0) rfl dX4_exchanged_14 rfl ?_
      refine g_getp (q0 := 18) (b := t + 2) rfl ff_X4_15 dX4_exchanged_15 rfl hOK (by omega) (by assumption) rfl rfl ?_
      refine g_iload_n (q0 := 19) (j := 2) rfl dX4_exchanged_18 rfl ?_
      refine g_iald (q0 := 20) rfl dX4_exchanged_19 (by assumption) (by omega) (by omega) ?_
      refine g_ireturn dX4_exchanged_20 rfl ⟨Nat.zero_le _, Nat.zero_le _⟩ ?_
      exact ⟨by rw [g0.2]; rfl, rfl, rfl⟩
    · omega
theorem sp_X4_cover {sh : gS} {M : gM} {t w : Int} {n : Nat} {ps : List (Int × Int)} (hOK : gOK sh M) (hT : qOk sh M t n ps) (hp : ∀ f ∈ ps, 0 ≤ f.1 ∧ f.1 < 1073741824) (hw : 0 ≤ w ∧ w < 1073741824) :
    gC (gr 1 23) yX4_cover cX4_cover 3 (some (.boolean)) [(4, t), (0, w)] sh M (gPp sh M (0, bI (qCov w ps))) := by
  obtain ⟨⟨hs0, hs1, hs2, hlt, hn⟩, hl, hc, hR⟩ := hT
  refine gC_ofA (lv := [_, _, _]) (by decide +kernel) (Nat.le_of_ble_eq_true rfl) rfl (fun hMw hav => ?_)
  have lp : ∀ (suf : List (Int × Int)) (i : Int), (∀ f ∈ suf, 0 ≤ f.1 ∧ f.1 < 1073741824) → 0 ≤ i → M t 0 = i + (suf.length : Int) → rw_ (qG M t) i suf → qCov w suf = qCov w ps →
      gA (gr 1 23) yX4_cover cX4_cover 3 (some (.boolean)) (gPp sh M (0, bI (qCov w ps))) (0, 0) 2 [(4, t), (0, w), (0, i)] [] sh M := by
    intro suf
    induction suf with
    | nil =>
      intro i hf h0 hS hg hv
      simp only [List.length_nil] at hS
      refine g_iload_n (q0 := 3) (j := 2) rfl dX4_cover_2 rfl ?_
      refine g_aload_n (q0 := 4) (j := 0) rfl dX4_cover_3 rfl ?_
      refine g_getf (q0 := 7) (t := 0) (fi := 0) rfl rfl ff_X4_18 dX4_cover_4 rfl (by assumption) ?_
      refine g_icmp_ge (q0 := 10) (tgt := 31) rfl dX4_cover_7 (by decide) (fun h7 => ?_) (fun h7 => ?_)
      · refine g_iconst (q0 := 32) rfl dX4_cover_31 (k := ?_)
        refine g_zreturn dX4_cover_32 rfl (by first | rfl | exact gnz (by omega)) ⟨Nat.zero_le _, Nat.zero_le _⟩ ?_
        exact ⟨by rw [← hv]; rfl, rfl, rfl⟩
      · omega
    | cons f r ih =>
      intro i hf h0 hS hg hv
      simp only [List.length_cons] at hS
      obtain ⟨g0, g1⟩ := rw_cons hg
      obtain ⟨k2, k3⟩ := qG_1 g0
      rw [qCov] at hv
      refine g_iload_n (q0 := 3) (j := 2) rfl dX4_cover_2 rfl ?_
      refine g_aload_n (q0 := 4) (j := 0) rfl dX4_cover_3 rfl ?_
      refine g_getf (q0 := 7) (t := 0) (fi := 0) rfl rfl ff_X4_18 dX4_cover_4 rfl (by assumption) ?_
      refine g_icmp_ge (q0 := 10) (tgt := 31) rfl dX4_cover_7 (by decide) (fun h7 => ?_) (fun h7 => ?_)
      · omega
      · refine g_aload_n (q0 := 11) (j := 0) rfl dX4_cover_10 rfl ?_
        refine g_getp (q0 := 14) (b := t + 1) rfl ff_X4_9 dX4_cover_11 rfl hOK (by omega) (by assumption) rfl rfl ?_
        refine g_iload_n (q0 := 15) (j := 2) rfl dX4_cover_14 rfl ?_
        refine g_iald (q0 := 16) rfl dX4_cover_15 (by assumption) (by omega) (by omega) ?_
        refine g_iload_n (q0 := 17) (j := 1) rfl dX4_cover_16 rfl ?_
        rw [k2]
        refine g_callSp (as := [_, _]) (rest := []) mt_X10_covers ms_X10_covers ml_X4_26 dX4_cover_17 (q0 := 20) rfl rfl (sp_X10_covers (hf f List.mem_cons_self) hw) rfl ⟨by decide, by decide⟩ (Nat.le_of_ble_eq_true rfl) ⟨Nat.zero_le _, Nat.zero_le _⟩ (fun hwc => ?_)
        refine g_if_eq (q0 := 23) (tgt := 25) rfl dX4_cover_20 (by decide) (fun h20 => ?_) (fun h20 => ?_)
        · rw [bI_f h20] at hv
          refine g_iinc (q0 := 28) (lv2 := [_, _, _]) rfl dX4_cover_25 rfl (by decide) rfl rfl (by omega) (by omega) ?_
          refine g_goto (tgt := 2) dX4_cover_28 (by decide) ?_
          exact ih (i + 1) (fun x hx => hf x (List.mem_cons_of_mem _ hx)) (by omega) (by omega) g1 hv
        · rw [bI_t h20] at hv
          refine g_iconst (q0 := 24) rfl dX4_cover_23 (k := ?_)
          refine g_zreturn dX4_cover_24 rfl (by first | rfl | exact gnz (by omega)) ⟨Nat.zero_le _, Nat.zero_le _⟩ ?_
          exact ⟨by rw [← hv]; rfl, rfl, rfl⟩
  refine g_iconst (q0 := 1) rfl dX4_cover_0 (k := ?_)
  refine g_istore_n (q0 := 2) (j := 2) (lv2 := [_, _, _]) rfl dX4_cover_1 (by decide) rfl rfl ?_
  exact lp ps 0 hp (by omega) (by omega) hR rfl
def qPost (sh : gS) (M : gM) (a : Int) (n : Nat) (ps : List (Int × Int)) (M1 : gM) : Prop := qOk sh M1 a n ps ∧ gOK sh M1 ∧ ∀ b : Int, b ≠ a → b ≠ a + 1 → b ≠ a + 2 → M1 b = M b
theorem sp_X4_add {sh : gS} {M : gM} {t u v : Int} {n : Nat} {ps : List (Int × Int)} (hOK : gOK sh M) (hT : qOk sh M t n ps) (hl2 : ps.length + 1 ≤ n) :
    gC (gr 0 0) yX4_add cX4_add 3 none [(4, t), (0, u), (0, v)] sh M (gPm sh (fun r M1 => r = none ∧ qPost sh M t n (ps ++ [(u, v)]) M1)) := by
  obtain ⟨hsh, hl, hc, hR⟩ := hT
  obtain ⟨hs0, hs1, hs2, hlt, hn⟩ := id hsh
  refine gC_ofA (lv := [_, _, _]) (by decide +kernel) (Nat.le_of_ble_eq_true rfl) rfl (fun hMw hav => ?_)
  refine g_aload_n (q0 := 1) (j := 0) rfl dX4_add_0 rfl ?_
  refine g_getf (q0 := 4) (t := 0) (fi := 0) rfl rfl ff_X4_18 dX4_add_1 rfl (by assumption) ?_
  refine g_aload_n (q0 := 5) (j := 0) rfl dX4_add_4 rfl ?_
  refine g_getp (q0 := 8) (b := t + 1) rfl ff_X4_9 dX4_add_5 rfl hOK (by omega) (by assumption) rfl rfl ?_
  refine g_alen (q0 := 9) rfl dX4_add_8 (by assumption) (by omega) ⟨_, rfl⟩ ?_
  refine g_icmp_ge (q0 := 12) (tgt := 42) rfl dX4_add_9 (by decide) (fun h9 => ?_) (fun h9 => ?_)
  · omega
  · refine g_aload_n (q0 := 13) (j := 0) rfl dX4_add_12 rfl ?_
    refine g_getp (q0 := 16) (b := t + 1) rfl ff_X4_9 dX4_add_13 rfl hOK (by omega) (by assumption) rfl rfl ?_
    refine g_aload_n (q0 := 17) (j := 0) rfl dX4_add_16 rfl ?_
    refine g_getf (q0 := 20) (t := 0) (fi := 0) rfl rfl ff_X4_18 dX4_add_17 rfl (by assumption) ?_
    refine g_iload_n (q0 := 21) (j := 1) rfl dX4_add_20 rfl ?_
    refine g_iast (q0 := 22) rfl dX4_add_21 (by assumption) (by omega) (by omega) ?_
    refine g_aload_n (q0 := 23) (j := 0) rfl dX4_add_22 rfl ?_
    refine g_getp (q0 := 26) (b := t + 2) rfl ff_X4_15 dX4_add_23 rfl (gOK_i hOK (by assumption)) (by omega) (by assumption) rfl rfl ?_
    refine g_aload_n (q0 := 27) (j := 0) rfl dX4_add_26 rfl ?_
    refine g_getf (q0 := 30) (t := 0) (fi := 0) rfl rfl ff_X4_18 dX4_add_27 rfl (by assumption) ?_
    try simp (disch := omega) only [gU_same, gU_idx, gU_cel]
    refine g_iload_n (q0 := 31) (j := 2) rfl dX4_add_30 rfl ?_
    refine g_iast (q0 := 32) rfl dX4_add_31 (by assumption) (by omega) (by omega) ?_
    refine g_aload_n (q0 := 33) (j := 0) rfl dX4_add_32 rfl ?_
    refine g_dup (q0 := 34) rfl dX4_add_33 (k := ?_)
    refine g_getf (q0 := 37) (t := 0) (fi := 0) rfl rfl ff_X4_18 dX4_add_34 rfl (by assumption) ?_
    try simp (disch := omega) only [gU_same, gU_idx, gU_cel]
    refine g_iconst (q0 := 38) rfl dX4_add_37 (k := ?_)
    refine g_iadd (q0 := 39) rfl dX4_add_38 (by omega) (by omega) ?_
    refine g_put (q0 := 42) (t := 0) (fi := 0) rfl rfl ff_X4_18 dX4_add_39 rfl (by assumption) rfl (fun _ => ⟨rfl, rfl⟩) ?_
    refine g_return dX4_add_42 rfl ⟨Nat.zero_le _, Nat.zero_le _⟩ ?_
    refine ⟨rfl, rfl, ⟨hsh, by simp; omega, ?_, ?_⟩, gOK_o (f := 0) (gOK_i (gOK_i hOK hs1) hs2) hs0 rfl rfl, fun b b0 b1 b2 => by rw [gU_cell _ _ _ b0, gU_cell _ _ _ b2, gU_cell _ _ _ b1]⟩
    · simp only [gU_same, hc, List.length_append, List.length_cons, List.length_nil]
      omega
    · refine rw_snoc (rw_congr hR (fun q q0 q1 => ?_)) ?_
      · simp (disch := omega) only [qG, gU_cel, gU_idx]
      · rw [hc, Int.zero_add]
        simp (disch := omega) only [qG, gU_cel, gU_same]
theorem sp_X4_copy {sh : gS} {M : gM} {t u : Int} {n m : Nat} {ps : List (Int × Int)} (hOK : gOK sh M) (hT : qSh sh t n) (hU : qOk sh M u m ps) (hl : ps.length ≤ n) (htu : t + 2 < u ∨ u + 2 < t) :
    gC (gr 1 68) yX4_copy cX4_copy 2 none [(4, t), (4, u)] sh M (gPm sh (fun r M1 => r = none ∧ qPost sh M t n ps M1)) := by
  obtain ⟨⟨hu0, hu1, hu2, hult, hm⟩, hul, huc, hR⟩ := hU
  obtain ⟨hs0, hs1, hs2, hlt, hn⟩ := id hT
  refine gC_ofA (lv := [_, _]) (by decide +kernel) (Nat.le_of_ble_eq_true rfl) rfl (fun hMw hav => ?_)
  refine g_aload_n (q0 := 1) (j := 0) rfl dX4_copy_0 rfl ?_
  refine g_aload_n (q0 := 2) (j := 1) rfl dX4_copy_1 rfl ?_
  refine g_getf (q0 := 5) (t := 0) (fi := 0) rfl rfl ff_X4_18 dX4_copy_2 rfl (by assumption) ?_
  refine g_aload_n (q0 := 6) (j := 0) rfl dX4_copy_5 rfl ?_
  refine g_getp (q0 := 9) (b := t + 1) rfl ff_X4_9 dX4_copy_6 rfl hOK (by omega) (by assumption) rfl rfl ?_
  refine g_alen (q0 := 10) rfl dX4_copy_9 (by assumption) (by omega) ⟨_, rfl⟩ ?_
  refine g_mmin (q0 := 13) rfl ml_X4_32 ms_J9_min_7cf53 inic_Math mt_J9_min_7cf53.1 dX4_copy_10 (by decide) (Nat.le_of_ble_eq_true rfl) ⟨Nat.zero_le _, Nat.zero_le _⟩ ?_
  rw [if_neg (by omega)]
  refine g_put (q0 := 16) (t := 0) (fi := 0) rfl rfl ff_X4_18 dX4_copy_13 rfl (by assumption) rfl (fun _ => ⟨rfl, rfl⟩) ?_
  refine g_aload_n (q0 := 17) (j := 1) rfl dX4_copy_16 rfl ?_
  refine g_getp (q0 := 20) (b := u + 1) rfl ff_X4_9 dX4_copy_17 rfl (gOK_o hOK (by assumption) (f := 0) rfl rfl) (by omega) (by assumption) rfl rfl ?_
  refine g_iconst (q0 := 21) rfl dX4_copy_20 (k := ?_)
  refine g_aload_n (q0 := 22) (j := 0) rfl dX4_copy_21 rfl ?_
  refine g_getp (q0 := 25) (b := t + 1) rfl ff_X4_9 dX4_copy_22 rfl (gOK_o hOK (by assumption) (f := 0) rfl rfl) (by omega) (by assumption) rfl rfl ?_
  refine g_iconst (q0 := 26) rfl dX4_copy_25 (k := ?_)
  refine g_aload_n (q0 := 27) (j := 0) rfl dX4_copy_26 rfl ?_
  refine g_getf (q0 := 30) (t := 0) (fi := 0) rfl rfl ff_X4_18 dX4_copy_27 rfl (by assumption) ?_
  try simp (disch := omega) only [gU_same, gU_idx, gU_cel]
  refine g_copy (q0 := 33) rfl (Or.inl rfl) ml_X4_38 nat_acopy sta_acopy inic_System dX4_copy_30 (by assumption) (by assumption) (by omega) (by omega) (by omega) (by omega) (by omega) (fun h => by cases h) (by decide) (Nat.le_of_ble_eq_true rfl) ?_
  refine g_aload_n (q0 := 34) (j := 1) rfl dX4_copy_33 rfl ?_
  refine g_getp (q0 := 37) (b := u + 2) rfl ff_X4_15 dX4_copy_34 rfl (gOK_cpy (gOK_o hOK (by assumption) (f := 0) rfl rfl) (by assumption) (Or.inl rfl)) (by omega) (by assumption) rfl rfl ?_
  refine g_iconst (q0 := 38) rfl dX4_copy_37 (k := ?_)
  refine g_aload_n (q0 := 39) (j := 0) rfl dX4_copy_38 rfl ?_
  refine g_getp (q0 := 42) (b := t + 2) rfl ff_X4_15 dX4_copy_39 rfl (gOK_cpy (gOK_o hOK (by assumption) (f := 0) rfl rfl) (by assumption) (Or.inl rfl)) (by omega) (by assumption) rfl rfl ?_
  refine g_iconst (q0 := 43) rfl dX4_copy_42 (k := ?_)
  refine g_aload_n (q0 := 44) (j := 0) rfl dX4_copy_43 rfl ?_
  refine g_getf (q0 := 47) (t := 0) (fi := 0) rfl rfl ff_X4_18 dX4_copy_44 rfl (by assumption) ?_
  try simp (disch := omega) only [gU_same, gU_idx, gU_cel]
  rw [show gCpy (gU M t 0 (M u 0)) (u + 1) 0 (t + 1) 0 (M u 0) t 0 = M u 0 from by
    have n1 : ¬ t = t + 1 := by omega
    simp only [gCpy, n1, false_and, if_false, gU_same]]
  refine g_copy (q0 := 50) rfl (Or.inl rfl) ml_X4_38 nat_acopy sta_acopy inic_System dX4_copy_47 (by assumption) (by assumption) (by omega) (by omega) (by omega) (by omega) (by omega) (fun h => by cases h) (by decide) (Nat.le_of_ble_eq_true rfl) ?_
  refine g_return dX4_copy_50 rfl ⟨Nat.zero_le _, Nat.zero_le _⟩ ?_
  refine ⟨rfl, rfl, ⟨hT, hl, ?_, ?_⟩, (gOK_cpy (gOK_cpy (gOK_o (f := 0) hOK hs0 rfl rfl) hs1 (Or.inl rfl)) hs2 (Or.inl rfl)), fun b b0 b1 b2 => ?_⟩
  · have n1 : ¬ t = t + 1 := by omega
    have n2 : ¬ t = t + 2 := by omega
    simp only [gCpy, n1, n2, false_and, if_false, gU_same]
    omega
  · refine rw_congr hR (fun q q0 q1 => ?_)
    have n3 : ¬ t + 1 = t + 2 := by omega
    have n5 : ¬ u + 1 = t := by omega
    have n6 : ¬ u + 2 = t := by omega
    have n7 : ¬ u + 2 = t + 1 := by omega
    simp only [qG, gCpy, n3, false_and, true_and, if_false]
    rw [if_pos (by omega), if_pos (by omega)]
    simp only [n7, false_and, if_false]
    rw [gU_cell _ _ _ n5, gU_cell _ _ _ n6]
    simp only [Int.zero_add, Int.sub_zero]
  · funext x
    simp only [gCpy, b1, b2, false_and, if_false]
    rw [gU_cell _ _ _ b0]
