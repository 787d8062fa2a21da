-- ==== digits in both in one order: as a function; the reference
def dgL : Nat → Int → List Int
  | 0, _ => []
  | k + 1, x => dgL k (x / 10) ++ [x % 10]
theorem dgL_len : ∀ (k : Nat) (x : Int), (dgL k x).length = k
  | 0, _ => rfl
  | k + 1, x => by rw [dgL, List.length_append, dgL_len k]; rfl
def dgs (x : Int) : List Int := dgL (dgN 6 x).toNat x
theorem dgs_len (x : Int) : ((dgs x).length : Int) = dgN 6 x ∧ (dgs x).length ≤ 6 := by
  have := dgN_rng 6 x
  unfold dgs
  rw [dgL_len]
  omega
/-- the most that are in both in one order -/
def lc : List Int → List Int → Int
  | [], _ => 0
  | _ :: _, [] => 0
  | x :: xs, y :: ys => if x = y then 1 + lc xs ys else if lc xs (y :: ys) < lc (x :: xs) ys then lc (x :: xs) ys else lc xs (y :: ys)
termination_by a b => a.length + b.length
theorem lc_nil (b : List Int) : lc [] b = 0 := by rw [lc]
theorem lc_nil2 (a : List Int) : lc a [] = 0 := by cases a <;> rw [lc]
theorem lc_cons (x y : Int) (xs ys : List Int) : lc (x :: xs) (y :: ys) = if x = y then 1 + lc xs ys else if lc xs (y :: ys) < lc (x :: xs) ys then lc (x :: xs) ys else lc xs (y :: ys) := by rw [lc]
/-- it is the length of a sequence in both, and no such is longer -/
theorem lc_sp : ∀ (n : Nat) (a b : List Int), a.length + b.length ≤ n → (∃ s : List Int, s.Sublist a ∧ s.Sublist b ∧ (s.length : Int) = lc a b) ∧ ∀ s : List Int, s.Sublist a → s.Sublist b → (s.length : Int) ≤ lc a b
  | n, [], b, _ => by
    rw [lc_nil]
    exact ⟨⟨[], List.Sublist.refl _, List.nil_sublist _, rfl⟩, fun s h _ => by rw [List.sublist_nil.mp h]; exact Int.le_refl _⟩
  | n, x :: xs, [], _ => by
    rw [lc_nil2]
    exact ⟨⟨[], List.nil_sublist _, List.Sublist.refl _, rfl⟩, fun s _ h => by rw [List.sublist_nil.mp h]; exact Int.le_refl _⟩
  | 0, x :: xs, y :: ys, h => by rw [List.length_cons] at h; omega
  | n + 1, x :: xs, y :: ys, h => by
    rw [List.length_cons, List.length_cons] at h
    rw [lc_cons]
    by_cases e : x = y
    · subst e
      rw [if_pos rfl]
      obtain ⟨⟨s, s1, s2, s3⟩, m⟩ := lc_sp n xs ys (by omega)
      refine ⟨⟨x :: s, s1.cons_cons x, s2.cons_cons x, by rw [List.length_cons]; omega⟩, fun t t1 t2 => ?_⟩
      cases t with
      | nil =>
        have := m [] (List.nil_sublist _) (List.nil_sublist _)
        rw [List.length_nil] at this ⊢; omega
      | cons c t =>
        have u1 : t.Sublist xs := by
          rcases List.sublist_cons_iff.mp t1 with w | ⟨r, w, w2⟩
          · exact List.Sublist.trans (List.sublist_cons_self c t) w
          · cases w; exact w2
        have u2 : t.Sublist ys := by
          rcases List.sublist_cons_iff.mp t2 with w | ⟨r, w, w2⟩
          · exact List.Sublist.trans (List.sublist_cons_self c t) w
          · cases w; exact w2
        have := m t u1 u2
        rw [List.length_cons]; omega
    · rw [if_neg e]
      obtain ⟨⟨s, s1, s2, s3⟩, m⟩ := lc_sp n xs (y :: ys) (by rw [List.length_cons]; omega)
      obtain ⟨⟨t, t1, t2, t3⟩, m2⟩ := lc_sp n (x :: xs) ys (by rw [List.length_cons]; omega)
      refine ⟨?_, fun u u1 u2 => ?_⟩
      · by_cases q : lc xs (y :: ys) < lc (x :: xs) ys
        · rw [if_pos q]; exact ⟨t, t1, t2.cons y, t3⟩
        · rw [if_neg q]; exact ⟨s, s1.cons x, s2, s3⟩
      · have key : (u.length : Int) ≤ lc xs (y :: ys) ∨ (u.length : Int) ≤ lc (x :: xs) ys := by
          rcases List.sublist_cons_iff.mp u1 with w | ⟨r, w, w2⟩
          · exact Or.inl (m u w u2)
          · rcases List.sublist_cons_iff.mp u2 with v | ⟨q, v, v2⟩
            · exact Or.inr (m2 u u1 v)
            · rw [w] at v; cases v; exact absurd rfl e
        split <;> omega
theorem lc_rev (a b : List Int) : lc a.reverse b.reverse = lc a b := by
  obtain ⟨⟨s, s1, s2, s3⟩, m⟩ := lc_sp _ a b (Nat.le_refl _)
  obtain ⟨⟨t, t1, t2, t3⟩, m2⟩ := lc_sp _ a.reverse b.reverse (Nat.le_refl _)
  have h1 := m2 s.reverse s1.reverse s2.reverse
  have h2 := m t.reverse (by have := t1.reverse; rwa [List.reverse_reverse] at this) (by have := t2.reverse; rwa [List.reverse_reverse] at this)
  rw [List.length_reverse] at h1 h2
  omega
theorem lc_self (a : List Int) : lc a a = (a.length : Int) := by
  obtain ⟨⟨s, s1, s2, s3⟩, m⟩ := lc_sp _ a a (Nat.le_refl _)
  have h1 := m a (List.Sublist.refl _) (List.Sublist.refl _)
  have h2 := s1.length_le
  omega
theorem lc_rng (a b : List Int) : 0 ≤ lc a b ∧ lc a b ≤ (a.length : Int) ∧ lc a b ≤ (b.length : Int) := by
  obtain ⟨⟨s, s1, s2, s3⟩, -⟩ := lc_sp _ a b (Nat.le_refl _)
  have h1 := s1.length_le
  have h2 := s2.length_le
  omega
theorem dgL_at : ∀ (n i : Nat) (x v : Int), (dgL n x)[i]? = some v → v = x / (10 ^ (n - 1 - i) : Nat) % 10
  | 0, i, x, v, h => by cases h
  | n + 1, i, x, v, h => by
    rw [dgL] at h
    by_cases e : i < n
    · rw [List.getElem?_append_left (by rw [dgL_len]; exact e)] at h
      rw [dgL_at n i (x / 10) v h, Int.ediv_ediv_of_nonneg (by decide), show n + 1 - 1 - i = (n - 1 - i) + 1 by omega, Nat.pow_succ, Nat.mul_comm]
      rfl
    · rw [List.getElem?_append_right (by rw [dgL_len]; omega), dgL_len] at h
      obtain ⟨d, hd⟩ : ∃ d, i - n = d := ⟨_, rfl⟩
      rw [hd] at h
      cases d with
      | zero =>
        have : i = n := by omega
        subst this
        simp at h
        rw [← h]
        simp
      | succ d => cases h
theorem s_digitAt {x v : Int} {i : Nat} (h0 : 0 ≤ x) (h1 : x < 10000000) (hi : (dgs x)[i]? = some v) : F_digitAt x (i : Int) = some v := by
  have hl := dgs_len x
  have hil := (List.getElem?_eq_some_iff.mp hi).1
  have hv := dgL_at _ i x v hi
  rw [eq_digitAt, gI_bb (s_digits h0 h1)]
  have lp : ∀ (m : Nat) (y : Int), 0 ≤ y → y < 10000000 → i + 1 + m ≤ 6 → F_digitAt_7 x (i : Int) y ((i : Int) + 1 + (m : Int)) = some (y / (10 ^ m : Nat) % 10) := by
    intro m
    induction m with
    | zero =>
      intro y y0 y1 hm
      rw [eq_digitAt_7, gw32_id (by omega) (by omega), if_neg (by omega), grem_10 y0 (by omega)]
      simp
    | succ m ih =>
      intro y y0 y1 hm
      rw [eq_digitAt_7, gw32_id (z := (i : Int) + 1) (by omega) (by omega), if_pos (by omega), gdiv_10 y0 (by omega), gw32_id (by omega) (by omega), show (i : Int) + 1 + ((m + 1 : Nat) : Int) + -1 = (i : Int) + 1 + (m : Int) by omega, ih (y / 10) (by omega) (by omega) (by omega), Int.ediv_ediv_of_nonneg (by decide), Nat.pow_succ, Nat.mul_comm]
      rfl
  have := lp ((dgs x).length - 1 - i) x h0 h1 (by omega)
  rw [show (i : Int) + 1 + (((dgs x).length - 1 - i : Nat) : Int) = dgN 6 x by omega] at this
  rw [this, hv]
  unfold dgs
  rw [dgL_len]
/-- what the table of the reference holds below and right of a place -/
def lcT (M : gM) (a b : List Int) (i j : Nat) : Prop := ∀ p q : Nat, p ≤ a.length → q ≤ b.length → (i < p ∨ (i = p ∧ j ≤ q) ∨ p = a.length ∨ q = b.length) → M 750 (7 * (p : Int) + (q : Int)) = lc (a.drop p) (b.drop q)
theorem s_inBoth {M : gM} {x y : Int} (hx : 0 ≤ x ∧ x < 10000000) (hy : 0 ≤ y ∧ y < 10000000) : ∃ M1, F_inBoth M x y = some (lc (dgs x) (dgs y), M1) ∧ ∀ b : Int, b ≠ 750 → M1 b = M b := by
  have ha := dgs_len x
  have hb := dgs_len y
  rw [eq_inBoth, gI_bb (s_digits hx.1 hx.2), gI_bb (s_digits hy.1 hy.2), ← ha.1, ← hb.1]
  have hx2 := fun {i : Nat} {v : Int} (h : (dgs x)[i]? = some v) => s_digitAt hx.1 hx.2 h
  have hy2 := fun {i : Nat} {v : Int} (h : (dgs y)[i]? = some v) => s_digitAt hy.1 hy.2 h
  generalize dgs x = a at ha hx2 ⊢
  generalize dgs y = b at hb hy2 ⊢
  -- the table is emptied
  have ini : ∀ (n i : Nat) (M1 : gM), i + n = 56 → (∀ q : Int, 0 ≤ q → q < (i : Int) → M1 750 q = 0) → (∀ c : Int, c ≠ 750 → M1 c = M c) → ∃ M2, F_inBoth_14 M1 x y (a.length : Int) (b.length : Int) (i : Int) = F_inBoth_40 M2 x y (a.length : Int) (b.length : Int) ((a.length : Int) - 1) ∧ (∀ q : Int, 0 ≤ q → q < 56 → M2 750 q = 0) ∧ ∀ c : Int, c ≠ 750 → M2 c = M c := by
    intro n
    induction n with
    | zero =>
      intro i M1 hi h1 h2
      rw [eq_inBoth_14, if_neg (by omega), gw32_id (by omega) (by omega)]
      exact ⟨M1, rfl, fun q q0 q1 => h1 q q0 (by omega), h2⟩
    | succ n ih =>
      intro i M1 hi h1 h2
      rw [eq_inBoth_14, if_pos (by omega), if_pos (by omega), gw32_id (by omega) (by omega)]
      exact ih (i + 1) _ (by omega) (fun q q0 q1 => by
        by_cases e : q = (i : Int)
        · rw [e, gU_same]
        · rw [gU_idx e]; exact h1 q q0 (by omega)) (fun c hc => by rw [gU_cell _ _ _ hc]; exact h2 c hc)
  obtain ⟨M0, e0, z0, f0⟩ := ini 56 0 M rfl (fun q q0 q1 => by omega) (fun _ _ => rfl)
  have e0' : F_inBoth_14 M x y (a.length : Int) (b.length : Int) 0 = F_inBoth_40 M0 x y (a.length : Int) (b.length : Int) ((a.length : Int) - 1) := e0
  rw [e0']
  have row : ∀ (i : Nat) (M1 : gM), i ≤ a.length → lcT M1 a b i 0 → (∀ c : Int, c ≠ 750 → M1 c = M c) → ∃ M2, F_inBoth_40 M1 x y (a.length : Int) (b.length : Int) ((i : Int) - 1) = some (lc a b, M2) ∧ ∀ c : Int, c ≠ 750 → M2 c = M c := by
    intro i
    induction i with
    | zero =>
      intro M1 hi hT hf
      rw [eq_inBoth_40, if_pos (by omega)]
      have := hT 0 0 (by omega) (by omega) (Or.inr (Or.inl ⟨rfl, Nat.le_refl _⟩))
      rw [show 7 * ((0 : Nat) : Int) + ((0 : Nat) : Int) = 0 from rfl, List.drop_zero, List.drop_zero] at this
      rw [this]
      exact ⟨M1, rfl, hf⟩
    | succ i ih =>
      intro M1 hi hT hf
      rw [eq_inBoth_40, if_neg (by omega), gw32_id (z := (b.length : Int) - 1) (by omega) (by omega), show ((i + 1 : Nat) : Int) - 1 = (i : Int) by omega]
      obtain ⟨v, hv⟩ : ∃ v, a[i]? = some v := ⟨_, List.getElem?_eq_getElem (by omega)⟩
      have hda : a.drop i = v :: a.drop (i + 1) := by
        obtain ⟨h1, h2⟩ := List.getElem?_eq_some_iff.mp hv
        rw [List.drop_eq_getElem_cons h1, h2]
      have col : ∀ (j : Nat) (M2 : gM), j ≤ b.length → lcT M2 a b i j → (∀ c : Int, c ≠ 750 → M2 c = M c) → ∃ M3, F_inBoth_51 M2 x y (a.length : Int) (b.length : Int) (i : Int) ((j : Int) - 1) = some (lc a b, M3) ∧ ∀ c : Int, c ≠ 750 → M3 c = M c := by
        intro j
        induction j with
        | zero =>
          intro M2 hj hT2 hf2
          rw [eq_inBoth_51, if_pos (by omega), gw32_id (by omega) (by omega), show (i : Int) + -1 = (i : Int) - 1 by omega]
          exact ih M2 (by omega) hT2 hf2
        | succ j ih2 =>
          intro M2 hj hT2 hf2
          obtain ⟨w, hw⟩ : ∃ w, b[j]? = some w := ⟨_, List.getElem?_eq_getElem (by omega)⟩
          have hdb : b.drop j = w :: b.drop (j + 1) := by
            obtain ⟨h1, h2⟩ := List.getElem?_eq_some_iff.mp hw
            rw [List.drop_eq_getElem_cons h1, h2]
          have t11 := hT2 (i + 1) (j + 1) (by omega) (by omega) (Or.inl (by omega))
          have t10 := hT2 (i + 1) j (by omega) (by omega) (Or.inl (by omega))
          have t01 := hT2 i (j + 1) (by omega) (by omega) (Or.inr (Or.inl ⟨rfl, Nat.le_refl _⟩))
          rw [eq_inBoth_51, if_neg (by omega), show ((j + 1 : Nat) : Int) - 1 = (j : Int) by omega, gI_bb (hx2 hv), gI_bb (hy2 hw)]
          simp (disch := omega) only [gw32_id]
          rw [show 7 * ((i + 1 : Nat) : Int) + ((j + 1 : Nat) : Int) = 7 * (i : Int) + 8 + (j : Int) by omega] at t11
          rw [show 7 * ((i + 1 : Nat) : Int) + (j : Int) = 7 * (i : Int) + 7 + (j : Int) by omega] at t10
          rw [show 7 * (i : Int) + ((j + 1 : Nat) : Int) = 7 * (i : Int) + (j : Int) + 1 by omega] at t01
          have nx : ∀ u : Int, u = lc (a.drop i) (b.drop j) → ∃ M3, F_inBoth_51 (gU M2 750 (7 * (i : Int) + (j : Int)) u) x y (a.length : Int) (b.length : Int) (i : Int) ((j : Int) + -1) = some (lc a b, M3) ∧ ∀ c : Int, c ≠ 750 → M3 c = M c := fun u hu => by
            rw [show (j : Int) + -1 = (j : Int) - 1 by omega]
            refine ih2 _ (by omega) (fun p q p0 q0 pq => ?_) (fun c hc => by rw [gU_cell _ _ _ hc]; exact hf2 c hc)
            by_cases e : p = i ∧ q = j
            · obtain ⟨rfl, rfl⟩ := e
              rw [gU_same, hu]
            · rw [gU_idx (by omega)]
              exact hT2 p q p0 q0 (by omega)
          rw [hda, hdb, lc_cons] at nx
          rw [hda] at t01
          rw [hdb] at t10
          have r11 := lc_rng (a.drop (i + 1)) (b.drop (j + 1))
          rw [List.length_drop, List.length_drop] at r11
          by_cases e : v = w
          · rw [if_pos e, if_pos (by omega), if_pos (by omega), t11, gw32_id (by omega) (by omega)]
            exact nx _ (by rw [if_pos e])
          · rw [if_neg e, if_pos (by omega), if_pos (by omega), t10, t01, gI_bb (s_max _ _), if_pos (by omega)]
            refine nx _ ?_
            rw [if_neg e]
            split <;> split <;> omega
      exact col b.length M1 (Nat.le_refl _) (fun p q p0 q0 pq => hT p q p0 q0 (by omega)) hf
  refine row a.length M0 (Nat.le_refl _) (fun p q p0 q0 pq => ?_) f0
  rw [z0 _ (by omega) (by omega)]
  by_cases e : p = a.length
  · rw [e, List.drop_length, lc_nil]
  · have : q = b.length := by omega
    rw [this, List.drop_length, lc_nil2]
