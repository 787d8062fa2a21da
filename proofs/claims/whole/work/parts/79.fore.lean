-- ==== PLANS of the reference: what is told, FORE, ELDERS, COMMITS of a PLAN
abbrev uPq (M : gM) (p : Int) (pl : kP) : Prop := uPt 729 730 731 M p pl
theorem uPq_of {M M1 : gM} {p : Int} {pl : kP} (h : uPq M p pl) (h1 : M1 729 = M 729) (h2 : M1 730 = M 730) (h3 : M1 731 = M 731) : uPq M1 p pl := by
  unfold uPq uPt at *
  rw [h1, h2, h3]; exact h
theorem s_manyOf {M : gM} {p : Int} {pl : kP} (h : uPq M p pl) (hp : 0 ≤ p ∧ p ≤ 3) {i : Nat} (hi : i < 6) : F_manyOf M p ((i : Int) + 1) = some ((pl.1 i).length : Int) := by
  have e := (h.2.1 i hi).1
  rw [eq_manyOf]
  simp (disch := omega) only [gw32_id]
  rw [if_pos (by omega), show 68 * p + 2 + ((i : Int) + 1) = 68 * p + 3 + (i : Int) by omega, e]
theorem s_listAt {i : Nat} (hi : i < 6) : F_listAt ((i : Int) + 1) = some (uL1 i) ∧ 18 ≤ uL1 i ∧ uL1 i ≤ 50 ∧ (2 ≤ i → uL1 i = 26 + 8 * ((i : Int) - 2)) := by
  rw [eq_listAt]
  unfold uL1
  by_cases i0 : i = 0
  · rw [if_pos (by omega), if_pos i0]; exact ⟨rfl, by decide, by decide, fun w => by omega⟩
  · rw [if_neg (by omega), if_neg i0]
    by_cases i1 : i = 1
    · rw [if_pos (by omega), if_pos i1]; exact ⟨rfl, by decide, by decide, fun w => by omega⟩
    · rw [if_neg (by omega), if_neg i1]
      simp (disch := omega) only [gw32_id]
      exact ⟨by congr 1; omega, by omega, by omega, fun _ => trivial⟩
theorem s_firstOf {M : gM} {p : Int} {pl : kP} (h : uPq M p pl) (hp : 0 ≤ p ∧ p ≤ 3) {i j : Nat} (hi : i < 6) {x : Int × Int} (hj : (pl.1 i)[j]? = some x) : F_firstOf M p ((i : Int) + 1) (j : Int) = some x.1 := by
  obtain ⟨-, e4, e1, -⟩ := h.2.1 i hi
  obtain ⟨l1, l2, l3, -⟩ := s_listAt hi
  have hjl := (List.getElem?_eq_some_iff.mp hj).1
  have := e1 j x.1 (by rw [List.getElem?_map, hj]; rfl)
  rw [eq_firstOf, gI_bb l1]
  simp (disch := omega) only [gw32_id]
  rw [if_pos (by omega), this]
theorem s_secondOf {M : gM} {p : Int} {pl : kP} (h : uPq M p pl) (hp : 0 ≤ p ∧ p ≤ 3) {i j : Nat} (hi : i < 6) (h2 : 2 ≤ i) {x : Int × Int} (hj : (pl.1 i)[j]? = some x) : F_secondOf M p ((i : Int) + 1) (j : Int) = some x.2 := by
  obtain ⟨-, e4, -, e2⟩ := h.2.1 i hi
  obtain ⟨l1, l2, l3, l4⟩ := s_listAt hi
  have l5 := l4 h2
  have hjl := (List.getElem?_eq_some_iff.mp hj).1
  have := e2 h2 j x.2 (by rw [List.getElem?_map, hj]; rfl)
  rw [eq_secondOf, gI_bb l1]
  simp (disch := omega) only [gw32_id]
  rw [if_pos (by omega), show 68 * p + uL1 i + 4 + (j : Int) = 68 * p + uL1 i + 4 + (j : Int) from rfl, this]
theorem s_ofPlan {M : gM} {p w : Int} (hp : 0 ≤ p ∧ p ≤ 3) (hw : 0 ≤ w ∧ w < 68) : F_ofPlan M p w = some (M 729 (68 * p + w)) := by
  rw [eq_ofPlan]
  simp (disch := omega) only [gw32_id]
  rw [if_pos (by omega)]
theorem s_graftOf {M : gM} {p k : Int} {pl : kP} (h : uPq M p pl) (hp : 0 ≤ p ∧ p ≤ 3) : (F_graftOf M p k = some (-1) ∧ qGet k (pl.1 5) = none) ∨ ∃ (j : Nat) (x : Int × Int), (pl.1 5)[j]? = some x ∧ F_graftOf M p k = some (j : Int) ∧ qGet k (pl.1 5) = some x.2 := by
  have h4 := (h.2.1 5 (by decide)).2.1
  have hm : F_manyOf M p 6 = some ((pl.1 5).length : Int) := s_manyOf h hp (i := 5) (by decide)
  have hf1 : ∀ {j : Nat} {x : Int × Int}, (pl.1 5)[j]? = some x → F_firstOf M p 6 (j : Int) = some x.1 := fun hj => s_firstOf h hp (i := 5) (by decide) hj
  have lp : ∀ (suf pre : List (Int × Int)), pl.1 5 = pre ++ suf → (∀ x ∈ pre, x.1 ≠ k) → (F_graftOf_2 M p k (pre.length : Int) = some (-1) ∧ qGet k suf = none) ∨ ∃ (j : Nat) (x : Int × Int), (pl.1 5)[j]? = some x ∧ F_graftOf_2 M p k (pre.length : Int) = some (j : Int) ∧ qGet k suf = some x.2 := by
    intro suf
    induction suf with
    | nil =>
      intro pre e hn
      have hlen := congrArg List.length e
      rw [List.append_nil] at hlen
      refine Or.inl ⟨?_, rfl⟩
      rw [eq_graftOf_2, gI_bb hm, if_neg (by omega)]
    | cons x r ih =>
      intro pre e hn
      have hlen := congrArg List.length e
      rw [List.length_append, List.length_cons] at hlen
      rw [eq_graftOf_2, gI_bb hm, if_pos (by omega), gI_bb (hf1 (at_mid e))]
      by_cases q : x.1 = k
      · rw [if_pos q]
        exact Or.inr ⟨pre.length, x, at_mid e, rfl, by rw [qGet, if_pos q]⟩
      · rw [if_neg q, gw32_id (by omega) (by omega), qGet, if_neg q]
        have := ih (pre ++ [x]) (by rw [e]; simp) (fun y hy => by
          rcases List.mem_append.mp hy with hy | hy
          · exact hn y hy
          · rw [List.mem_singleton.mp hy]; exact q)
        rw [List.length_append] at this
        simpa using this
  rw [eq_graftOf]
  exact lp (pl.1 5) [] rfl (fun x hx => by cases hx)
/-- a graft leads to a COMMIT, or is -1 -/
def plGr (pl : kP) : Prop := ∀ x ∈ pl.1 5, -1 ≤ x.2
theorem qGet_mem {k v : Int} : ∀ {xs : List (Int × Int)}, qGet k xs = some v → (k, v) ∈ xs
  | [], h => by cases h
  | x :: r, h => by
    rw [qGet] at h
    by_cases e : x.1 = k
    · rw [if_pos e] at h
      cases h
      rw [← e]; exact List.mem_cons_self
    · rw [if_neg e] at h
      exact List.mem_cons_of_mem _ (qGet_mem h)
theorem s_foreMany {M : gM} {cs : List kC} {p : Int} {pl : kP} {k : Nat} {c : kC} (hC : uC M cs) (h : uPq M p pl) (hp : 0 ≤ p ∧ p ≤ 3) (hg : plGr pl) (hk : cs[k]? = some c) : F_foreMany M p (k : Int) = some ((kForeL c pl (k : Int)).length : Int) := by
  have hl9 := hC.2.1
  have hkl := (List.getElem?_eq_some_iff.mp hk).1
  rw [eq_foreMany]
  rcases s_graftOf (k := (k : Int)) h hp with ⟨a, b⟩ | ⟨j, x, a, b, c⟩
  · rw [gI_bb a, if_pos rfl, if_pos (by omega), (hC.2.2 k c hk).1]
    unfold kForeL; rw [b]
  · rw [gI_bb b, if_neg (by omega), show (6 : Int) = ((5 : Nat) : Int) + 1 from rfl, gI_bb (s_secondOf h hp (i := 5) (by decide) (by decide) a)]
    have := hg x (List.mem_of_getElem? a)
    unfold kForeL; rw [c]
    by_cases q : x.2 = -1
    · rw [if_pos q]; show _ = some (((if x.2 < 0 then ([] : List Int) else [x.2]).length : Nat) : Int); rw [if_pos (by omega)]; rfl
    · rw [if_neg q]; show _ = some (((if x.2 < 0 then ([] : List Int) else [x.2]).length : Nat) : Int); rw [if_neg (by omega)]; rfl
theorem s_foreAt {M : gM} {cs : List kC} {p v : Int} {pl : kP} {k i : Nat} {c : kC} (hC : uC M cs) (hO : kOk cs) (h : uPq M p pl) (hp : 0 ≤ p ∧ p ≤ 3) (hk : cs[k]? = some c) (hi : (kForeL c pl (k : Int))[i]? = some v) : F_foreAt M p (k : Int) (i : Int) = some v := by
  rw [eq_foreAt]
  rcases s_graftOf (k := (k : Int)) h hp with ⟨a, b⟩ | ⟨j, x, a, b, c⟩
  · have hi2 : (kPs c)[i]? = some v := by unfold kForeL at hi; rw [b] at hi; exact hi
    rw [gI_bb a, if_pos rfl, gI_bb (s_parentAt hC hk (hO k c hk).1.1 hi2)]
  · rw [gI_bb b, if_neg (by omega), show (6 : Int) = ((5 : Nat) : Int) + 1 from rfl, gI_bb (s_secondOf h hp (i := 5) (by decide) (by decide) a)]
    unfold kForeL at hi
    rw [c] at hi
    have hi3 : (if x.2 < 0 then ([] : List Int) else [x.2])[i]? = some v := hi
    by_cases q : x.2 < 0
    · rw [if_pos q] at hi3; cases hi3
    · rw [if_neg q] at hi3
      cases i with
      | zero => exact hi3
      | succ i => cases hi3
def fFo (cs : List kC) (pl : kP) (k : Nat) : List Int := match cs[k]? with
  | some c => kForeL c pl (k : Int)
  | none => []
theorem fFo_at {cs : List kC} {pl : kP} {k : Nat} {c : kC} (h : cs[k]? = some c) : fFo cs pl k = kForeL c pl (k : Int) := by unfold fFo; rw [h]
theorem dag_eld {cs : List kC} {pl : kP} (h : kForeOk cs pl) : dag cs.length (fFo cs pl) (kEld cs pl) := by
  refine ⟨fun k hk p hp => ?_, fun k hk j => ?_⟩
  · have e := List.getElem?_eq_getElem hk
    rw [fFo_at e] at hp
    exact h k _ e p hp
  · have e := List.getElem?_eq_getElem hk
    rw [fFo_at e]
    exact kEld_eq h e j
theorem gRw_pl {a : Int} (h : gRw a) : a ≠ 729 ∧ a ≠ 730 ∧ a ≠ 731 := by
  rcases h with rfl | rfl | rfl | rfl | rfl | rfl | rfl <;> decide
theorem uPq_but {M M1 : gM} {p : Int} {pl : kP} {a : Int} (h : uPq M p pl) (ha : gRw a) (h1 : ∀ b : Int, b ≠ a → M1 b = M b) : uPq M1 p pl := by
  have h7 := gRw_pl ha
  exact uPq_of h (h1 _ (fun w => h7.1 w.symm)) (h1 _ (fun w => h7.2.1 w.symm)) (h1 _ (fun w => h7.2.2 w.symm))
theorem s_walksFore {M : gM} {cs : List kC} {a p : Int} {pl : kP} {S : Nat → Bool} (h : uC M cs) (hO : kOk cs) (hP : uPq M p pl) (hp : 0 ≤ p ∧ p ≤ 3) (hg : plGr pl) (hF : kForeOk cs pl) (ha : gRw a) (hS : uS M a S) : ∃ M1, F_walksFore M p a = some M1 ∧ uS M1 a (clT cs.length (kEld cs pl) S) ∧ ∀ b : Int, b ≠ a → M1 b = M b := by
  have h7 := gRw_rng ha
  have hl := h.2.1
  have hd := dag_eld hF
  let I : Nat → (Nat → Bool) → Prop := fun m X => (∀ j, S j = true → X j = true) ∧ (∀ j, X j = true → clT cs.length (kEld cs pl) S j = true) ∧ ∀ k, m ≤ k → k < cs.length → X k = true → ∀ p ∈ fFo cs pl k, X p.toNat = true
  have lp : ∀ (m : Nat) (M1 : gM) (X : Nat → Bool), m ≤ cs.length → I m X → uS M1 a X → (∀ b : Int, b ≠ a → M1 b = M b) → ∃ M2, F_walksFore_7 M1 p a ((m : Int) - 1) = some M2 ∧ uS M2 a (clT cs.length (kEld cs pl) S) ∧ ∀ b : Int, b ≠ a → M2 b = M b := by
    intro m
    induction m with
    | zero =>
      intro M1 X _ hI hX hb
      rw [eq_walksFore_7, if_pos ha, if_pos (by omega)]
      refine ⟨M1, rfl, ?_, hb⟩
      rw [← clT_is hd hI.1 hI.2.1 (fun k hk => hI.2.2 k (Nat.zero_le _) hk)]
      exact hX
    | succ m ih =>
      intro M1 X hm hI hX hb
      obtain ⟨c, hc⟩ : ∃ c, cs[m]? = some c := ⟨_, List.getElem?_eq_getElem (by omega)⟩
      have hfc : fFo cs pl m = kForeL c pl (m : Int) := fFo_at hc
      have hpr := hF m c hc
      have hC1 := uC_but h ha hb
      have hP1 := uPq_but hP ha hb
      have h3 : (kForeL c pl (m : Int)).length ≤ 3 := by
        have h3 := (hO m c hc).1.1
        unfold kForeL
        split
        · split
          · exact Nat.zero_le _
          · show 1 ≤ 3; omega
        · exact h3
      rw [eq_walksFore_7, if_pos ha, if_neg (by omega), show ((m + 1 : Nat) : Int) - 1 = (m : Int) by omega, if_pos (by omega), hX m (by omega)]
      cases hXm : X m with
      | false =>
        rw [if_pos bIf, eq_walksFore_32, if_pos ha, if_neg (by decide), gw32_id (by omega) (by omega)]
        refine ih M1 X (by omega) ⟨hI.1, hI.2.1, fun k k0 k1 k2 q hq => ?_⟩ hX hb
        by_cases hk : k = m
        · subst hk; rw [hXm] at k2; cases k2
        · exact hI.2.2 k (by omega) k1 k2 q hq
      | true =>
        rw [if_neg bIt, gI_bb (s_foreMany hC1 hP1 hp hg hc)]
        have inner : ∀ (suf pre : List Int) (M2 : gM) (Y : Nat → Bool), kForeL c pl (m : Int) = pre ++ suf → I (m + 1) Y → Y m = true → (∀ q ∈ pre, Y q.toNat = true) → uS M2 a Y → (∀ b : Int, b ≠ a → M2 b = M b) → ∃ M3, F_walksFore_32 M2 p a (m : Int) ((kForeL c pl (m : Int)).length : Int) (pre.length : Int) = some M3 ∧ uS M3 a (clT cs.length (kEld cs pl) S) ∧ ∀ b : Int, b ≠ a → M3 b = M b := by
          intro suf
          induction suf with
          | nil =>
            intro pre M2 Y e hI2 hYm hpre hY hb2
            rw [List.append_nil] at e
            rw [eq_walksFore_32, if_pos ha, if_neg (by rw [e]; omega), gw32_id (by omega) (by omega)]
            refine ih M2 Y (by omega) ⟨hI2.1, hI2.2.1, fun k k0 k1 k2 q hq => ?_⟩ hY hb2
            by_cases hk : k = m
            · subst hk
              rw [hfc, e] at hq
              exact hpre q hq
            · exact hI2.2.2 k (by omega) k1 k2 q hq
          | cons q r ih2 =>
            intro pre M2 Y e hI2 hYm hpre hY hb2
            have hl1 := len_mid e
            have hC2 := uC_but h ha hb2
            have hP2 := uPq_but hP ha hb2
            have hpm := hpr q (by rw [e]; simp)
            rw [eq_walksFore_32, if_pos ha, if_pos (by omega), gI_bb (s_foreAt hC2 hO hP2 hp hc (at_mid e)), if_pos (by omega), gw32_id (by omega) (by omega)]
            have hpn : q = ((q.toNat : Nat) : Int) := by omega
            have hY2 : uS (gU M2 a q 1) a (fun j => Y j || decide (j = q.toNat)) := by
              have := uS_put (k := q.toNat) hY
              rw [← hpn] at this
              exact this
            have := ih2 (pre ++ [q]) (gU M2 a q 1) _ (app_mid e) ⟨fun j hj => by rw [hI2.1 j hj]; rfl, fun j hj => ?_, fun k k0 k1 k2 t ht => ?_⟩ (by rw [hYm]; rfl) (fun t ht => ?_) hY2 (fun b hb3 => by rw [gU_cell _ _ _ hb3]; exact hb2 b hb3)
            · simpa using this
            · rw [Bool.or_eq_true] at hj
              rcases hj with z | z
              · exact hI2.2.1 j z
              · have : j = q.toNat := of_decide_eq_true z
                rw [this]
                exact clT_add hd (by omega) (hI2.2.1 m hYm) (by rw [hfc, e]; simp)
            · rw [Bool.or_eq_true] at k2 ⊢
              rcases k2 with z | z
              · exact Or.inl (hI2.2.2 k k0 k1 z t ht)
              · have : k = q.toNat := of_decide_eq_true z
                omega
            · rw [Bool.or_eq_true]
              rcases List.mem_append.mp ht with z | z
              · exact Or.inl (hpre t z)
              · rw [List.mem_singleton.mp z]; exact Or.inr (decide_eq_true rfl)
        exact inner (kForeL c pl (m : Int)) [] M1 X rfl ⟨hI.1, hI.2.1, fun k k0 => hI.2.2 k (by omega)⟩ hXm (fun _ hp => by cases hp) hX hb
  rw [eq_walksFore, if_pos ha, h.1, gw32_id (by omega) (by omega)]
  exact lp cs.length M S (Nat.le_refl _) ⟨fun j hj => hj, fun j hj => clT_iff.mpr (Or.inl hj), fun k k0 k1 => by omega⟩ hS (fun _ _ => rfl)
theorem clT_one {n : Nat} {A : Nat → Nat → Bool} {k : Nat} (hk : k < n) : clT n A (fun j => decide (j = k)) = fun j => decide (j = k) || A k j := by
  funext j
  rw [Bool.eq_iff_iff, clT_iff, Bool.or_eq_true]
  constructor
  · rintro (e | ⟨m, -, e1, e2⟩)
    · exact Or.inl e
    · rw [of_decide_eq_true e1] at e2; exact Or.inr e2
  · rintro (e | e)
    · exact Or.inl e
    · exact Or.inr ⟨k, hk, decide_eq_true rfl, e⟩
theorem s_marksEld {M : gM} {cs : List kC} {a p : Int} {pl : kP} {k : Nat} (h : uC M cs) (hO : kOk cs) (hP : uPq M p pl) (hp : 0 ≤ p ∧ p ≤ 3) (hg : plGr pl) (hF : kForeOk cs pl) (ha : gRw a) (hk : k < cs.length) : ∃ M1 M2, F_clears M a = some M1 ∧ F_walksFore (gU M1 a (k : Int) 1) p a = some M2 ∧ uS M2 a (fun j => decide (j = k) || kEld cs pl k j) ∧ ∀ b : Int, b ≠ a → M2 b = M b := by
  have hl := h.2.1
  obtain ⟨M1, e1, hS1, hb1⟩ := s_clears (M := M) ha
  have hS2 : uS (gU M1 a (k : Int) 1) a (fun j => decide (j = k)) := fun j hj => by
    have := uS_put (k := k) hS1 j hj
    simpa using this
  have hb2 : ∀ b : Int, b ≠ a → gU M1 a (k : Int) 1 b = M b := fun b hb => by rw [gU_cell _ _ _ hb]; exact hb1 b hb
  obtain ⟨M3, e3, hS3, hb3⟩ := s_walksFore (uC_but h ha hb2) hO (uPq_but hP ha hb2) hp hg hF ha hS2
  rw [clT_one hk] at hS3
  exact ⟨M1, M3, e1, e3, hS3, fun b hb => by rw [hb3 b hb, hb2 b hb]⟩
theorem s_marksElders {M : gM} {cs : List kC} {p : Int} {pl : kP} {k : Nat} (h : uC M cs) (hO : kOk cs) (hP : uPq M p pl) (hp : 0 ≤ p ∧ p ≤ 3) (hg : plGr pl) (hF : kForeOk cs pl) (hk : k < cs.length) : ∃ M1, F_marksElders M p (k : Int) = some M1 ∧ uS M1 732 (fun j => decide (j = k) || kEld cs pl k j) ∧ ∀ b : Int, b ≠ 732 → M1 b = M b := by
  have hl := h.2.1
  obtain ⟨M1, M2, e1, e2, e3, e4⟩ := s_marksEld (a := 732) h hO hP hp hg hF (by decide) hk
  rw [eq_marksElders, gI_bb e1, if_pos (by omega), gI_bb e2]
  exact ⟨M2, rfl, e3, e4⟩
theorem kEld_lt {cs : List kC} {pl : kP} (hF : kForeOk cs pl) {k j : Nat} (hk : k < cs.length) (h : kEld cs pl k j = true) : j < k := dag_lt (dag_eld hF) k hk j h
theorem s_isElder {M : gM} {cs : List kC} {p : Int} {pl : kP} {j k : Nat} (h : uC M cs) (hO : kOk cs) (hP : uPq M p pl) (hp : 0 ≤ p ∧ p ≤ 3) (hg : plGr pl) (hF : kForeOk cs pl) (hk : k < cs.length) : ∃ M1, F_isElder M p (j : Int) (k : Int) = some (bI (kEld cs pl k j), M1) ∧ ∀ b : Int, b ≠ 732 → M1 b = M b := by
  have hl := h.2.1
  rw [eq_isElder]
  by_cases q : j < k
  · obtain ⟨M1, e1, s1, f1⟩ := s_marksElders h hO hP hp hg hF hk
    have e := s1 j (by omega)
    dsimp only at e
    rw [decide_eq_false (show ¬ j = k by omega), Bool.false_or] at e
    rw [if_pos (by omega), gI_bb e1, if_pos (by omega), e, if_pos (by cases kEld cs pl k j <;> decide)]
    exact ⟨M1, rfl, f1⟩
  · rw [if_neg (by omega)]
    have : kEld cs pl k j = false := by
      cases hx : kEld cs pl k j with
      | false => rfl
      | true => exact absurd (kEld_lt hF hk hx) q
    rw [this]
    exact ⟨M, rfl, fun _ _ => rfl⟩
theorem s_isElderApart {M : gM} {cs : List kC} {p : Int} {pl : kP} {j k : Nat} (h : uC M cs) (hO : kOk cs) (hP : uPq M p pl) (hp : 0 ≤ p ∧ p ≤ 3) (hg : plGr pl) (hF : kForeOk cs pl) (hk : k < cs.length) : ∃ M1, F_isElderApart M p (j : Int) (k : Int) = some (bI (kEld cs pl k j), M1) ∧ ∀ b : Int, b ≠ 724 → M1 b = M b := by
  have hl := h.2.1
  rw [eq_isElderApart]
  by_cases q : j < k
  · obtain ⟨M1, M2, e1, e2, s2, f2⟩ := s_marksEld (a := 724) h hO hP hp hg hF (by decide) hk
    have e := s2 j (by omega)
    dsimp only at e
    rw [decide_eq_false (show ¬ j = k by omega), Bool.false_or] at e
    rw [if_pos (by omega), gI_bb e1, if_pos (by omega), gI_bb e2, if_pos (by omega), e, if_pos (by cases kEld cs pl k j <;> decide)]
    exact ⟨M2, rfl, f2⟩
  · rw [if_neg (by omega)]
    have : kEld cs pl k j = false := by
      cases hx : kEld cs pl k j with
      | false => rfl
      | true => exact absurd (kEld_lt hF hk hx) q
    rw [this]
    exact ⟨M, rfl, fun _ _ => rfl⟩
theorem s_imageAt {M : gM} {p k : Int} (hp : 0 ≤ p ∧ p ≤ 3) (hk : 0 ≤ k ∧ k < 120) : F_imageAt M p k = some (M 731 (120 * p + k)) := by
  rw [eq_imageAt]
  simp (disch := omega) only [gw32_id]
  rw [if_pos (by omega)]
