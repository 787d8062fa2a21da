-- ==== the reference: marks, and who comes before whom
theorem kAnc_eqR : ∀ (n : Nat) (cs : List kC), cs.length = n → (∀ (k : Nat) (c : kC), cs[k]? = some c → ∀ p ∈ kPs c, 0 ≤ p ∧ p < (k : Int)) → ∀ (k : Nat) (c : kC) (j : Nat), cs[k]? = some c → kAnc cs k j = (kPs c).any (fun p => p.toNat == j || kAnc cs p.toNat j)
  | 0, cs, hl, _, k, c, j, hk => by
    rw [List.length_eq_zero_iff.mp hl] at hk
    simp at hk
  | n + 1, cs, hl, hf, k, c, j, hk => by
    obtain ⟨ys, y, rfl, hy⟩ := ls_snoc hl
    have hkl := (List.getElem?_eq_some_iff.mp hk).1
    rw [List.length_append, List.length_singleton] at hkl
    have hfk := hf k c hk
    by_cases hz : k = ys.length
    · subst hz
      rw [List.getElem?_append_right (Nat.le_refl _), Nat.sub_self] at hk
      cases hk
      rw [kAnc_app, if_pos rfl]
      refine any_congr_mem (fun p hp => ?_)
      have := hfk p hp
      rw [kAnc_app, if_neg (by omega)]
    · rw [List.getElem?_append_left (by omega)] at hk
      have hf2 : ∀ (k : Nat) (c : kC), ys[k]? = some c → ∀ p ∈ kPs c, 0 ≤ p ∧ p < (k : Int) := fun k c hk => hf k c (by rw [List.getElem?_append_left (List.getElem?_eq_some_iff.mp hk).1]; exact hk)
      rw [kAnc_app, if_neg hz, kAnc_eqR n ys hy hf2 k c j hk]
      refine any_congr_mem (fun p hp => ?_)
      have := hfk p hp
      rw [kAnc_app, if_neg (by omega)]
theorem kOk_ps {cs : List kC} (h : kOk cs) : ∀ (k : Nat) (c : kC), cs[k]? = some c → ∀ p ∈ kPs c, 0 ≤ p ∧ p < (k : Int) := fun k c hk => (h k c hk).1.2.1
theorem kAnc_eq {cs : List kC} (h : kOk cs) {k : Nat} {c : kC} (hk : cs[k]? = some c) (j : Nat) : kAnc cs k j = (kPs c).any (fun p => p.toNat == j || kAnc cs p.toNat j) := kAnc_eqR cs.length cs rfl (kOk_ps h) k c j hk
/-- what is known of lists of those ahead of each: f; and of A, who comes before whom -/
def dag (n : Nat) (f : Nat → List Int) (A : Nat → Nat → Bool) : Prop := (∀ k, k < n → ∀ p ∈ f k, 0 ≤ p ∧ p < (k : Int)) ∧ ∀ k, k < n → ∀ j, A k j = (f k).any (fun p => p.toNat == j || A p.toNat j)
theorem dag_lt {n : Nat} {f : Nat → List Int} {A : Nat → Nat → Bool} (h : dag n f A) : ∀ k, k < n → ∀ j, A k j = true → j < k := by
  intro k
  induction k using Nat.strongRecOn with
  | ind k ih =>
    intro hk j hj
    rw [h.2 k hk j, List.any_eq_true] at hj
    obtain ⟨p, hp, hq⟩ := hj
    have hr := h.1 k hk p hp
    rw [Bool.or_eq_true] at hq
    rcases hq with e | e
    · have : p.toNat = j := by simpa using e
      omega
    · have := ih p.toNat (by omega) (by omega) j e
      omega
theorem dag_closed {n : Nat} {f : Nat → List Int} {A : Nat → Nat → Bool} (h : dag n f A) {X : Nat → Bool} (hX : ∀ k, k < n → X k = true → ∀ p ∈ f k, X p.toNat = true) : ∀ k, k < n → X k = true → ∀ j, A k j = true → X j = true := by
  intro k
  induction k using Nat.strongRecOn with
  | ind k ih =>
    intro hk hx j hj
    rw [h.2 k hk j, List.any_eq_true] at hj
    obtain ⟨p, hp, hq⟩ := hj
    have hr := h.1 k hk p hp
    rw [Bool.or_eq_true] at hq
    rcases hq with e | e
    · have : p.toNat = j := by simpa using e
      rw [← this]; exact hX k hk hx p hp
    · exact ih p.toNat (by omega) (by omega) (hX k hk hx p hp) j e
theorem dag_step {n : Nat} {f : Nat → List Int} {A : Nat → Nat → Bool} (h : dag n f A) {k : Nat} (hk : k < n) {p : Int} (hp : p ∈ f k) : A k p.toNat = true := by
  rw [h.2 k hk, List.any_eq_true]
  exact ⟨p, hp, by simp⟩
theorem dag_up {n : Nat} {f : Nat → List Int} {A : Nat → Nat → Bool} (h : dag n f A) {k : Nat} {p : Int} (hp : p ∈ f k) : ∀ m, m < n → A m k = true → A m p.toNat = true := by
  intro m
  induction m using Nat.strongRecOn with
  | ind m ih =>
    intro hm hmk
    have hkm := dag_lt h m hm k hmk
    rw [h.2 m hm k, List.any_eq_true] at hmk
    obtain ⟨q, hq, hz⟩ := hmk
    have hr := h.1 m hm q hq
    rw [h.2 m hm, List.any_eq_true]
    refine ⟨q, hq, ?_⟩
    rw [Bool.or_eq_true] at hz ⊢
    rcases hz with e | e
    · have : q.toNat = k := by simpa using e
      rw [this]
      exact Or.inr (dag_step h (by omega) hp)
    · exact Or.inr (ih q.toNat (by omega) (by omega) e)
/-- those marked, and all that come before them -/
def clT (n : Nat) (A : Nat → Nat → Bool) (S : Nat → Bool) (j : Nat) : Bool := S j || (List.range n).any (fun k => S k && A k j)
theorem clT_iff {n : Nat} {A : Nat → Nat → Bool} {S : Nat → Bool} {j : Nat} : clT n A S j = true ↔ S j = true ∨ ∃ k, k < n ∧ S k = true ∧ A k j = true := by
  unfold clT
  rw [Bool.or_eq_true, List.any_eq_true]
  simp only [List.mem_range, Bool.and_eq_true]
theorem clT_is {n : Nat} {f : Nat → List Int} {A : Nat → Nat → Bool} (h : dag n f A) {S X : Nat → Bool} (h1 : ∀ j, S j = true → X j = true) (h2 : ∀ j, X j = true → clT n A S j = true) (h3 : ∀ k, k < n → X k = true → ∀ p ∈ f k, X p.toNat = true) : X = clT n A S := by
  funext j
  rw [Bool.eq_iff_iff]
  refine ⟨h2 j, fun q => ?_⟩
  rcases clT_iff.mp q with e | ⟨k, hk, e1, e2⟩
  · exact h1 j e
  · exact dag_closed h h3 k hk (h1 k e1) j e2
theorem clT_add {n : Nat} {f : Nat → List Int} {A : Nat → Nat → Bool} (h : dag n f A) {S : Nat → Bool} {k : Nat} (hk : k < n) (hc : clT n A S k = true) {p : Int} (hp : p ∈ f k) : clT n A S p.toNat = true := by
  refine clT_iff.mpr ?_
  rcases clT_iff.mp hc with e | ⟨m, hm, e1, e2⟩
  · exact Or.inr ⟨k, hk, e, dag_step h hk hp⟩
  · exact Or.inr ⟨m, hm, e1, dag_up h hp m hm e2⟩
def fPs (cs : List kC) (k : Nat) : List Int := match cs[k]? with
  | some c => kPs c
  | none => []
theorem dag_anc {cs : List kC} (h : kOk cs) : dag cs.length (fPs cs) (kAnc cs) := by
  refine ⟨fun k hk p hp => ?_, fun k hk j => ?_⟩
  · have e := List.getElem?_eq_getElem hk
    simp only [fPs, e] at hp
    exact kOk_ps h k _ e p hp
  · have e := List.getElem?_eq_getElem hk
    simp only [fPs, e]
    exact kAnc_eq h e j
/-- the marks of a row -/
def uS (M : gM) (a : Int) (S : Nat → Bool) : Prop := ∀ k : Nat, k < 120 → M a (k : Int) = bI (S k)
theorem uS_put {M : gM} {a : Int} {S : Nat → Bool} {k : Nat} (h : uS M a S) : uS (gU M a (k : Int) 1) a (fun j => S j || decide (j = k)) := by
  intro j hj
  by_cases e : j = k
  · subst e; rw [gU_same]; simp [bI]
  · rw [gU_idx (by omega), h j hj]; simp [e]
theorem gRw_rng {a : Int} (h : gRw a) : 722 < a ∧ a < 749 ∧ a ≠ 725 ∧ a ≠ 726 ∧ a ≠ 711 := by
  rcases h with rfl | rfl | rfl | rfl | rfl | rfl | rfl <;> decide
theorem s_clears {M : gM} {a : Int} (ha : gRw a) : ∃ M1, F_clears M a = some M1 ∧ uS M1 a (fun _ => false) ∧ ∀ b : Int, b ≠ a → M1 b = M b := by
  have h7 := gRw_rng ha
  rw [eq_clears, if_pos ha]
  have lp : ∀ (k i : Nat) (M1 : gM), i + k = 120 → (∀ j : Nat, j < i → M1 a (j : Int) = 0) → (∀ b : Int, b ≠ a → M1 b = M b) → ∃ M2, F_clears_2 M1 a (i : Int) = some M2 ∧ uS M2 a (fun _ => false) ∧ ∀ b : Int, b ≠ a → M2 b = M b := by
    intro k
    induction k with
    | zero =>
      intro i M1 hi h1 h2
      rw [eq_clears_2, if_pos ha, if_neg (by omega)]
      exact ⟨M1, rfl, fun j hj => h1 j (by omega), h2⟩
    | succ k ih =>
      intro i M1 hi h1 h2
      rw [eq_clears_2, if_pos ha, if_pos (by omega), if_pos (by omega), gw32_id (by omega) (by omega)]
      exact ih (i + 1) _ (by omega) (fun j hj => by
        by_cases e : j = i
        · subst e; exact gU_same _ _ _ _
        · rw [gU_idx (by omega)]; exact h1 j (by omega)) (fun b hb => by rw [gU_cell _ _ _ hb]; exact h2 b hb)
  exact lp 120 0 M rfl (fun j hj => by omega) (fun _ _ => rfl)
theorem uC_but {M M1 : gM} {cs : List kC} {a : Int} (h : uC M cs) (ha : gRw a) (h1 : ∀ b : Int, b ≠ a → M1 b = M b) : uC M1 cs := by
  have h7 := gRw_rng ha
  exact uC_same h (by rw [h1 711 (by omega)]) (fun b b0 b1 => h1 b (by omega))
theorem s_walksBack {M : gM} {cs : List kC} {a : Int} {S : Nat → Bool} (h : uC M cs) (hO : kOk cs) (ha : gRw a) (hS : uS M a S) : ∃ M1, F_walksBack M a = some M1 ∧ uS M1 a (clT cs.length (kAnc cs) S) ∧ ∀ b : Int, b ≠ a → M1 b = M b := by
  have h7 := gRw_rng ha
  have hl := h.2.1
  have hd := dag_anc hO
  have h712 : (712 : Int) ≠ a := by omega
  let I : Nat → (Nat → Bool) → Prop := fun m X => (∀ j, S j = true → X j = true) ∧ (∀ j, X j = true → clT cs.length (kAnc cs) S j = true) ∧ ∀ k, m ≤ k → k < cs.length → X k = true → ∀ p ∈ fPs cs k, X p.toNat = true
  have lp : ∀ (m : Nat) (M1 : gM) (X : Nat → Bool), m ≤ cs.length → I m X → uS M1 a X → (∀ b : Int, b ≠ a → M1 b = M b) → ∃ M2, F_walksBack_7 M1 a ((m : Int) - 1) = some M2 ∧ uS M2 a (clT cs.length (kAnc cs) S) ∧ ∀ b : Int, b ≠ a → M2 b = M b := by
    intro m
    induction m with
    | zero =>
      intro M1 X _ hI hX hb
      rw [eq_walksBack_7, if_pos ha, if_pos (by omega)]
      refine ⟨M1, rfl, ?_, hb⟩
      rw [← clT_is hd hI.1 hI.2.1 (fun k hk => hI.2.2 k (Nat.zero_le _) hk)]
      exact hX
    | succ m ih =>
      intro M1 X hm hI hX hb
      obtain ⟨c, hc⟩ : ∃ c, cs[m]? = some c := ⟨_, List.getElem?_eq_getElem (by omega)⟩
      have hfc : fPs cs m = kPs c := by simp only [fPs, hc]
      have hp3 := (hO m c hc).1.1
      have hpr := kOk_ps hO m c hc
      rw [eq_walksBack_7, if_pos ha, if_neg (by omega), show ((m + 1 : Nat) : Int) - 1 = (m : Int) by omega]
      have inner : ∀ (suf pre : List Int) (M2 : gM) (Y : Nat → Bool), kPs c = pre ++ suf → I (m + 1) Y → (Y m = true → ∀ p ∈ pre, Y p.toNat = true) → uS M2 a Y → (∀ b : Int, b ≠ a → M2 b = M b) → ∃ M3, F_walksBack_13 M2 a (m : Int) (pre.length : Int) = some M3 ∧ uS M3 a (clT cs.length (kAnc cs) S) ∧ ∀ b : Int, b ≠ a → M3 b = M b := by
        intro suf
        induction suf with
        | nil =>
          intro pre M2 Y e hI2 hpre hY hb2
          rw [List.append_nil] at e
          rw [eq_walksBack_13, if_pos ha, if_pos (by omega), if_neg (by rw [hb2 712 h712, (h.2.2 m c hc).1, e]; omega), gw32_id (by omega) (by omega)]
          refine ih M2 Y (by omega) ⟨hI2.1, hI2.2.1, fun k k0 k1 k2 p hp => ?_⟩ hY hb2
          by_cases hk : k = m
          · subst hk
            rw [hfc, e] at hp
            exact hpre k2 p hp
          · exact hI2.2.2 k (by omega) k1 k2 p hp
        | cons p r ih2 =>
          intro pre M2 Y e hI2 hpre hY hb2
          have hl1 := len_mid e
          have hC2 := uC_but h ha hb2
          have hpm := hpr p (by rw [e]; simp)
          rw [eq_walksBack_13, if_pos ha, if_pos (by omega), if_pos (by rw [hb2 712 h712, (h.2.2 m c hc).1]; omega), hY m (by omega)]
          cases hYm : Y m with
          | false =>
            rw [if_pos (by decide), gw32_id (by omega) (by omega)]
            refine ih M2 Y (by omega) ⟨hI2.1, hI2.2.1, fun k k0 k1 k2 p hp => ?_⟩ hY hb2
            by_cases hk : k = m
            · subst hk; rw [hYm] at k2; cases k2
            · exact hI2.2.2 k (by omega) k1 k2 p hp
          | true =>
            rw [if_neg (by decide), gI_bb (s_parentAt hC2 hc hp3 (at_mid e)), if_pos (by omega), gw32_id (by omega) (by omega)]
            have hpn : p = ((p.toNat : Nat) : Int) := by omega
            have hY2 : uS (gU M2 a p 1) a (fun j => Y j || decide (j = p.toNat)) := by
              have := uS_put (k := p.toNat) hY
              rw [← hpn] at this
              exact this
            have := ih2 (pre ++ [p]) (gU M2 a p 1) _ (app_mid e) ⟨fun j hj => by rw [hI2.1 j hj]; rfl, fun j hj => ?_, fun k k0 k1 k2 q hq => ?_⟩ (fun _ q hq => ?_) hY2 (fun b hb3 => by rw [gU_cell _ _ _ hb3]; exact hb2 b hb3)
            · simpa using this
            · rw [Bool.or_eq_true] at hj
              rcases hj with z | z
              · exact hI2.2.1 j z
              · have : j = p.toNat := of_decide_eq_true z
                rw [this]
                exact clT_add hd (by omega) (hI2.2.1 m hYm) (by rw [hfc, e]; simp)
            · rw [Bool.or_eq_true] at k2 ⊢
              rcases k2 with z | z
              · exact Or.inl (hI2.2.2 k k0 k1 z q hq)
              · have : k = p.toNat := of_decide_eq_true z
                omega
            · rw [Bool.or_eq_true]
              rcases List.mem_append.mp hq with z | z
              · exact Or.inl (hpre hYm q z)
              · rw [List.mem_singleton.mp z]; exact Or.inr (decide_eq_true rfl)
      exact inner (kPs c) [] M1 X rfl hI (fun _ p hp => by cases hp) hX hb
  rw [eq_walksBack, if_pos ha, h.1, gw32_id (by omega) (by omega)]
  exact lp cs.length M S (Nat.le_refl _) ⟨fun j hj => hj, fun j hj => clT_iff.mpr (Or.inl hj), fun k k0 k1 => by omega⟩ hS (fun _ _ => rfl)
theorem s_marksWithAncestors {M : gM} {cs : List kC} {a : Int} {k : Nat} (h : uC M cs) (hO : kOk cs) (ha : gRw a) (hk : k < cs.length) : ∃ M1, F_marksWithAncestors M a (k : Int) = some M1 ∧ uS M1 a (fun j => decide (j = k) || kAnc cs k j) ∧ ∀ b : Int, b ≠ a → M1 b = M b := by
  have hl := h.2.1
  obtain ⟨M1, e1, hS1, hb1⟩ := s_clears (M := M) ha
  have hS2 : uS (gU M1 a (k : Int) 1) a (fun j => decide (j = k)) := fun j hj => by
    have := uS_put (k := k) hS1 j hj
    simpa using this
  obtain ⟨M3, e3, hS3, hb3⟩ := s_walksBack (uC_but h ha (fun b hb => by rw [gU_cell _ _ _ hb]; exact hb1 b hb)) hO ha hS2
  rw [eq_marksWithAncestors, if_pos ha, gI_bb e1, if_pos (by omega), gI_bb e3]
  refine ⟨M3, rfl, ?_, fun b hb => by rw [hb3 b hb, gU_cell _ _ _ hb, hb1 b hb]⟩
  have : clT cs.length (kAnc cs) (fun j => decide (j = k)) = fun j => decide (j = k) || kAnc cs k j := by
    funext j
    rw [Bool.eq_iff_iff, clT_iff, Bool.or_eq_true]
    constructor
    · rintro (e | ⟨m, -, e1, e2⟩)
      · exact Or.inl e
      · rw [of_decide_eq_true e1] at e2; exact Or.inr e2
    · rintro (e | e)
      · exact Or.inl e
      · exact Or.inr ⟨k, hk, decide_eq_true rfl, e⟩
  rw [this] at hS3
  exact hS3
theorem kAnc_lt {cs : List kC} (hO : kOk cs) {k j : Nat} (hk : k < cs.length) (h : kAnc cs k j = true) : j < k := dag_lt (dag_anc hO) k hk j h
theorem s_isAncestor {M : gM} {cs : List kC} {j k : Nat} (h : uC M cs) (hO : kOk cs) (hj : j < cs.length) (hk : k < cs.length) : ∃ M1, F_isAncestor M (j : Int) (k : Int) = some (bI (kAnc cs k j), M1) ∧ ∀ b : Int, b ≠ 723 → M1 b = M b := by
  have hl := h.2.1
  rw [eq_isAncestor]
  by_cases hjk : (j : Int) < k
  · obtain ⟨M1, e1, hS, hb⟩ := s_marksWithAncestors (a := 723) h hO (by decide) hk
    have e := hS j (by omega)
    rw [show (fun j => decide (j = k) || kAnc cs k j) j = kAnc cs k j by
      show (decide (j = k) || kAnc cs k j) = kAnc cs k j
      rw [(decide_eq_false (by omega) : decide (j = k) = false), Bool.false_or]] at e
    rw [if_pos hjk, gI_bb e1, if_pos (by omega), e, if_pos (bI_01 _)]
    exact ⟨M1, rfl, hb⟩
  · rw [if_neg hjk]
    have : kAnc cs k j = false := by
      cases hx : kAnc cs k j with
      | false => rfl
      | true => have := kAnc_lt hO hk hx; omega
    rw [this]
    exact ⟨M, rfl, fun _ _ => rfl⟩
theorem s_sizeOf {M : gM} {a : Int} {S : Nat → Bool} (ha : gRw a) (hS : uS M a S) : F_sizeOf M a = some (cnt S 120) := by
  have lp : ∀ (k i : Nat) (n : Int), i + k = 120 → n = cnt S i → 0 ≤ n → n ≤ i → F_sizeOf_4 M a n (i : Int) = some (cnt S 120) := by
    intro k
    induction k with
    | zero =>
      intro i n hi hn n0 n1
      rw [eq_sizeOf_4, if_pos ha, if_neg (by omega), hn, show i = 120 by omega]
    | succ k ih =>
      intro i n hi hn n0 n1
      rw [eq_sizeOf_4, if_pos ha, if_pos (by omega), if_pos (by omega), hS i (by omega)]
      simp (disch := omega) only [gw32_id]
      cases hb : S i with
      | false =>
        rw [if_pos (by decide)]
        exact ih (i + 1) n (by omega) (by rw [cnt, hb, hn]; simp [bI]) n0 (by omega)
      | true =>
        rw [if_neg (by decide)]
        exact ih (i + 1) (n + 1) (by omega) (by rw [cnt, hb, hn]; simp [bI]; try omega) (by omega) (by omega)
  rw [eq_sizeOf, if_pos ha]
  exact lp 120 0 0 rfl rfl (by decide) (by decide)
theorem kGen_eqR : ∀ (n : Nat) (cs : List kC), cs.length = n → (∀ (k : Nat) (c : kC), cs[k]? = some c → ∀ p ∈ kPs c, 0 ≤ p ∧ p < (k : Int)) → ∀ (k : Nat) (c : kC), cs[k]? = some c → kGen cs (k : Int) = (kPs c).foldl (fun g p => if g < kGen cs p + 1 then kGen cs p + 1 else g) 0
  | 0, cs, hl, _, k, c, hk => by
    rw [List.length_eq_zero_iff.mp hl] at hk
    simp at hk
  | n + 1, cs, hl, hf, k, c, hk => by
    obtain ⟨ys, y, rfl, hy⟩ := ls_snoc hl
    have hkl := (List.getElem?_eq_some_iff.mp hk).1
    rw [List.length_append, List.length_singleton] at hkl
    have hfk := hf k c hk
    have hfold : ∀ (ps : List Int) (g : Int), (∀ p ∈ ps, p < (ys.length : Int)) → ps.foldl (fun g p => if g < kGen (ys ++ [y]) p + 1 then kGen (ys ++ [y]) p + 1 else g) g = ps.foldl (fun g p => if g < kGen ys p + 1 then kGen ys p + 1 else g) g := by
      intro ps
      induction ps with
      | nil => intro g _; rfl
      | cons p r ih =>
        intro g hp
        have := hp p List.mem_cons_self
        rw [List.foldl_cons, List.foldl_cons, show kGen (ys ++ [y]) p = kGen ys p by rw [kGen_app, if_neg (by omega)]]
        exact ih _ (fun q hq => hp q (List.mem_cons_of_mem _ hq))
    by_cases hz : k = ys.length
    · subst hz
      rw [List.getElem?_append_right (Nat.le_refl _), Nat.sub_self] at hk
      cases hk
      rw [hfold _ _ (fun p hp => (hfk p hp).2), kGen_app, if_pos rfl]
    · rw [List.getElem?_append_left (by omega)] at hk
      have hf2 : ∀ (k : Nat) (c : kC), ys[k]? = some c → ∀ p ∈ kPs c, 0 ≤ p ∧ p < (k : Int) := fun k c hk => hf k c (by rw [List.getElem?_append_left (List.getElem?_eq_some_iff.mp hk).1]; exact hk)
      rw [hfold _ _ (fun p hp => by have := (hfk p hp).2; omega), kGen_app, if_neg (by omega)]
      exact kGen_eqR n ys hy hf2 k c hk
theorem kGen_rng {cs : List kC} (hO : kOk cs) {k : Int} (hk : 0 ≤ k) : 0 ≤ kGen cs k ∧ kGen cs k ≤ k := by
  refine kGenR_rng cs.reverse k (fun n c hn => ?_) hk
  rw [List.reverse_reverse] at hn
  exact kOk_ps hO n c hn
theorem s_laysHeights {M : gM} {cs : List kC} (h : uC M cs) (hO : kOk cs) : ∃ M1, F_laysHeights M = some M1 ∧ (∀ k : Nat, k < cs.length → M1 725 (k : Int) = kGen cs (k : Int)) ∧ ∀ b : Int, b ≠ 725 → M1 b = M b := by
  have hl := h.2.1
  have lp : ∀ (m k : Nat) (M1 : gM), k + m = cs.length → (∀ j : Nat, j < k → M1 725 (j : Int) = kGen cs (j : Int)) → (∀ b : Int, b ≠ 725 → M1 b = M b) → ∃ M2, F_laysHeights_2 M1 (k : Int) = some M2 ∧ (∀ k : Nat, k < cs.length → M2 725 (k : Int) = kGen cs (k : Int)) ∧ ∀ b : Int, b ≠ 725 → M2 b = M b := by
    intro m
    induction m with
    | zero =>
      intro k M1 hk h1 hb
      rw [eq_laysHeights_2, if_neg (by rw [hb 711 (by decide), h.1]; omega)]
      exact ⟨M1, rfl, fun j hj => h1 j (by omega), hb⟩
    | succ m ih =>
      intro k M1 hk h1 hb
      obtain ⟨c, hc⟩ : ∃ c, cs[k]? = some c := ⟨_, List.getElem?_eq_getElem (by omega)⟩
      have hp3 := (hO k c hc).1.1
      have hpr := kOk_ps hO k c hc
      rw [eq_laysHeights_2, if_pos (by rw [hb 711 (by decide), h.1]; omega), if_pos (by omega)]
      have inner : ∀ (suf pre : List Int) (M2 : gM) (g : Int), kPs c = pre ++ suf → 0 ≤ g → g ≤ 200 → suf.foldl (fun g p => if g < kGen cs p + 1 then kGen cs p + 1 else g) g = kGen cs (k : Int) → M2 725 (k : Int) = g → (∀ j : Nat, j < k → M2 725 (j : Int) = kGen cs (j : Int)) → (∀ b : Int, b ≠ 725 → M2 b = M b) → ∃ M3, F_laysHeights_19 M2 (k : Int) (pre.length : Int) = some M3 ∧ (∀ k : Nat, k < cs.length → M3 725 (k : Int) = kGen cs (k : Int)) ∧ ∀ b : Int, b ≠ 725 → M3 b = M b := by
        intro suf
        induction suf with
        | nil =>
          intro pre M2 g e g0 g1 hv h2 h3 hb2
          rw [List.append_nil] at e
          rw [eq_laysHeights_19, if_pos (by omega), if_neg (by rw [hb2 712 (by decide), (h.2.2 k c hc).1, e]; omega), gw32_id (by omega) (by omega)]
          refine ih (k + 1) M2 (by omega) (fun j hj => ?_) hb2
          by_cases hjk : j = k
          · subst hjk; rw [h2]; exact hv
          · exact h3 j (by omega)
        | cons p r ih2 =>
          intro pre M2 g e g0 g1 hv h2 h3 hb2
          have hl1 := len_mid e
          have hC2 : uC M2 cs := uC_same h (by rw [hb2 711 (by decide)]) (fun b b0 b1 => hb2 b (by omega))
          have hpm := hpr p (by rw [e]; simp)
          have hpg := kGen_rng hO hpm.1
          have e2 : M2 725 p = kGen cs p := by
            have := h3 p.toNat (by omega)
            rwa [show ((p.toNat : Nat) : Int) = p by omega] at this
          rw [eq_laysHeights_19, if_pos (by omega), if_pos (by rw [hb2 712 (by decide), (h.2.2 k c hc).1]; omega), gI_bb (s_parentAt hC2 hc hp3 (at_mid e)), if_pos (by omega), e2, h2]
          simp (disch := omega) only [gw32_id]
          rw [List.foldl_cons] at hv
          have key : F_max g (1 + kGen cs p) = some (if g < kGen cs p + 1 then kGen cs p + 1 else g) := by
            rw [eq_max]
            by_cases hz : g < kGen cs p + 1
            · rw [if_neg (by omega), if_pos hz]; congr 1; omega
            · by_cases hy : 1 + kGen cs p < g
              · rw [if_pos hy, if_neg hz]
              · rw [if_neg hy, if_neg hz]; congr 1; omega
          rw [gI_bb key]
          have := ih2 (pre ++ [p]) (gU M2 725 (k : Int) (if g < kGen cs p + 1 then kGen cs p + 1 else g)) _ (app_mid e) (by split <;> omega) (by split <;> omega) hv (gU_same _ _ _ _) (fun j hj => by rw [gU_idx (by omega)]; exact h3 j hj) (fun b hb3 => by rw [gU_cell _ _ _ hb3]; exact hb2 b hb3)
          simpa using this
      refine inner (kPs c) [] (gU M1 725 (k : Int) 0) 0 rfl (by decide) (by decide) ?_ (gU_same _ _ _ _) (fun j hj => by rw [gU_idx (by omega)]; exact h1 j hj) (fun b hb3 => by rw [gU_cell _ _ _ hb3]; exact hb b hb3)
      exact (kGen_eqR cs.length cs rfl (kOk_ps hO) k c hc).symm
  exact lp cs.length 0 M (by omega) (fun j hj => by omega) (fun _ _ => rfl)
theorem s_children {M : gM} {cs : List kC} {k : Nat} (h : uC M cs) (hO : kOk cs) (hk : k < cs.length) : F_children M (k : Int) = some (kChl (k : Int) (cs.drop (k + 1))) := by
  have hl := h.2.1
  have lp : ∀ (suf pre : List kC) (n : Int), cs = pre ++ suf → 0 ≤ n → n ≤ 3 * (pre.length : Int) → F_children_6 M (k : Int) n (pre.length : Int) = some (n + kChl (k : Int) suf) := by
    intro suf
    induction suf with
    | nil =>
      intro pre n e n0 n1
      rw [eq_children_6, if_neg (by rw [h.1, e]; simp)]
      simp [kChl]
    | cons c r ih =>
      intro pre n e n0 n1
      have hl1 := len_mid e
      have hc := at_mid e
      have hp3 := (hO _ c hc).1.1
      rw [eq_children_6, if_pos (by rw [h.1]; omega), kChl]
      have inner : ∀ (s2 p2 : List Int) (n : Int), kPs c = p2 ++ s2 → 0 ≤ n → n ≤ 3 * (pre.length : Int) + (p2.length : Int) → F_children_17 M (k : Int) n (pre.length : Int) (p2.length : Int) = some (n + pCnt (k : Int) s2 + kChl (k : Int) r) := by
        intro s2
        induction s2 with
        | nil =>
          intro p2 n e2 n0 n1
          rw [List.append_nil] at e2
          rw [eq_children_17, if_pos (by omega), if_neg (by rw [(h.2.2 _ c hc).1, e2]; omega), gw32_id (by omega) (by omega)]
          have hp2 : p2.length ≤ 3 := by rw [← e2]; exact hp3
          have := ih (pre ++ [c]) n (app_mid e) n0 (by simp; omega)
          rw [show ((pre ++ [c]).length : Int) = (pre.length : Int) + 1 by simp] at this
          rw [this, pCnt]; congr 1; omega
        | cons p s3 ih2 =>
          intro p2 n e2 n0 n1
          have hl2 := len_mid e2
          rw [eq_children_17, if_pos (by omega), if_pos (by rw [(h.2.2 _ c hc).1]; omega), gI_bb (s_parentAt h hc hp3 (at_mid e2)), pCnt]
          simp (disch := omega) only [gw32_id]
          by_cases hpk : p = (k : Int)
          · rw [if_pos hpk, if_pos hpk]
            have := ih2 (p2 ++ [p]) (n + 1) (app_mid e2) (by omega) (by simp; omega)
            rw [show ((p2 ++ [p]).length : Int) = (p2.length : Int) + 1 by simp] at this
            rw [this]; congr 1; omega
          · rw [if_neg hpk, if_neg hpk]
            have := ih2 (p2 ++ [p]) n (app_mid e2) n0 (by simp; omega)
            rw [show ((p2 ++ [p]).length : Int) = (p2.length : Int) + 1 by simp] at this
            rw [this]; congr 1; omega
      have := inner (kPs c) [] n rfl n0 (by simpa using n1)
      simp only [List.length_nil, Int.natCast_zero] at this
      rw [this]; congr 1; omega
  rw [eq_children, gw32_id (by omega) (by omega)]
  have := lp (cs.drop (k + 1)) (cs.take (k + 1)) 0 (List.take_append_drop _ _).symm (by decide) (by omega)
  rw [show ((cs.take (k + 1)).length : Int) = (k : Int) + 1 by rw [List.length_take]; omega, Int.zero_add] at this
  exact this
