-- ==== base: the reference
theorem s_hasChild {M : gM} {cs : List kC} {a : Int} {S : Nat → Bool} {k : Nat} (h : uC M cs) (hO : kOk cs) (ha : gRw a) (hS : uS M a S) (hk : k < cs.length) : ∃ b : Bool, F_hasChild M (k : Int) a = some (bI b) ∧ (b = true ↔ ∃ m, m < cs.length ∧ S m = true ∧ (k : Int) ∈ fPs cs m) := by
  have hl9 := h.2.1
  have lp : ∀ (n m : Nat), m + n = cs.length → (∀ q, q < m → ¬ (S q = true ∧ (k : Int) ∈ fPs cs q)) → ∃ b : Bool, F_hasChild_4 M (k : Int) a (m : Int) = some (bI b) ∧ (b = true ↔ ∃ m, m < cs.length ∧ S m = true ∧ (k : Int) ∈ fPs cs m) := by
    intro n
    induction n with
    | zero =>
      intro m hm hno
      refine ⟨false, ?_, (fun w => by cases w), (fun ⟨q, q0, q1⟩ => absurd q1 (hno q (by omega)))⟩
      rw [eq_hasChild_4, if_pos ha, h.1, if_neg (by omega)]; rfl
    | succ n ih =>
      intro m hm hno
      have hml : m < cs.length := by omega
      have hc := List.getElem?_eq_getElem hml
      generalize cs[m] = c at hc
      have hw := (hO m c hc).1
      have hps : fPs cs m = kPs c := by unfold fPs; rw [hc]
      have hnc := (h.2.2 m c hc).1
      rw [eq_hasChild_4, if_pos ha, h.1, if_pos (by omega)]
      have nx : (¬ (S m = true ∧ (k : Int) ∈ fPs cs m)) → ∃ b : Bool, F_hasChild_4 M (k : Int) a (gw32 ((m : Int) + 1)) = some (bI b) ∧ (b = true ↔ ∃ m, m < cs.length ∧ S m = true ∧ (k : Int) ∈ fPs cs m) := fun hq => by
        rw [gw32_id (by omega) (by omega)]
        exact ih (m + 1) (by omega) (fun q q0 => by
          by_cases e : q = m
          · rw [e]; exact hq
          · exact hno q (by omega))
      have inn : ∀ (suf pre : List Int), kPs c = pre ++ suf → (k : Int) ∉ pre → ∃ b : Bool, F_hasChild_15 M (k : Int) a (m : Int) (pre.length : Int) = some (bI b) ∧ (b = true ↔ ∃ m, m < cs.length ∧ S m = true ∧ (k : Int) ∈ fPs cs m) := by
        intro suf
        induction suf with
        | nil =>
          intro pre e hp
          have hlen := congrArg List.length e
          simp only [List.append_nil] at hlen
          rw [eq_hasChild_15, if_pos ha, if_pos (by omega), hnc, if_neg (by omega)]
          exact nx (fun w => hp (by have := w.2; rw [hps, e, List.append_nil] at this; exact this))
        | cons p r ih2 =>
          intro pre e hp
          have hlen := congrArg List.length e
          rw [List.length_append, List.length_cons] at hlen
          have h3 := hw.1
          rw [eq_hasChild_15, if_pos ha, if_pos (by omega), hnc, if_pos (by omega), hS m (by omega)]
          cases hs : S m with
          | false => rw [if_pos bIf]; exact nx (fun w => by rw [hs] at w; exact absurd w.1 (by decide))
          | true =>
            rw [if_neg bIt, gI_bb (s_parentAt h hc hw.1 (at_mid e))]
            by_cases q : p = (k : Int)
            · rw [if_pos q]
              exact ⟨true, rfl, fun _ => ⟨m, hml, hs, by rw [hps, e, ← q]; simp⟩, fun _ => rfl⟩
            · rw [if_neg q, gw32_id (by omega) (by omega)]
              have := ih2 (pre ++ [p]) (by rw [e]; simp) (fun w => by
                rcases List.mem_append.mp w with w | w
                · exact hp w
                · exact q (List.mem_singleton.mp w).symm)
              rw [List.length_append] at this
              simpa using this
      exact inn (kPs c) [] rfl (fun w => by cases w)
  rw [eq_hasChild, if_pos ha, gw32_id (by omega) (by omega)]
  exact lp (cs.length - (k + 1)) (k + 1) (by omega) (fun q q0 w => by
    have := (dag_anc hO).1 q (by omega) _ w.2
    omega)
/-- closed upwards: a child in it, or an offspring in it -/
theorem up_child {n : Nat} {f : Nat → List Int} {A : Nat → Nat → Bool} (h : dag n f A) {C : Nat → Bool} (hC : ∀ k, k < n → C k = true → ∀ p ∈ f k, C p.toNat = true) {k : Nat} : (∃ m, m < n ∧ C m = true ∧ (k : Int) ∈ f m) ↔ (List.range n).any (fun m => C m && A m k) = true := by
  rw [List.any_eq_true]
  constructor
  · rintro ⟨m, hm, c, hk⟩
    have := dag_step h hm hk
    rw [Int.toNat_natCast] at this
    exact ⟨m, List.mem_range.mpr hm, by rw [c, this]; rfl⟩
  · rintro ⟨m, hm, hq⟩
    rw [Bool.and_eq_true] at hq
    have hm := List.mem_range.mp hm
    obtain ⟨c, hq⟩ := hq
    induction m using Nat.strongRecOn with
    | ind m ih =>
      rw [h.2 m hm k, List.any_eq_true] at hq
      obtain ⟨p, hp, hz⟩ := hq
      have hr := h.1 m hm p hp
      rw [Bool.or_eq_true] at hz
      rcases hz with e | e
      · have : p.toNat = k := by simpa using e
        exact ⟨m, hm, c, by rw [show (k : Int) = p by omega]; exact hp⟩
      · exact ih p.toNat (by omega) (List.mem_range.mpr (by omega)) (by omega) (hC m hm c p hp) e
theorem kU_up {cs : List kC} (hO : kOk cs) {i : Nat} (hi : i < cs.length) : ∀ k, k < cs.length → kU cs i k = true → ∀ p ∈ fPs cs k, kU cs i p.toNat = true := fun k hk hc p hp => by
  unfold kU at hc ⊢
  rw [Bool.or_eq_true] at hc ⊢
  rcases hc with e | e
  · have e := of_decide_eq_true e
    rw [← e]; exact Or.inr (dag_step (dag_anc hO) hk hp)
  · exact Or.inr (dag_up (dag_anc hO) hp i hi e)
def bsC (cs : List kC) (i j q : Nat) : Bool := kU cs i q && kU cs j q
def bsB (cs : List kC) (i j q : Nat) : Bool := bsC cs i j q && !(List.range cs.length).any (fun m => bsC cs i j m && kAnc cs m q)
def bsV (cs : List kC) (B : Nat → Bool) (w : Int) : Int := if w = 0 then cnt B cs.length else if mNth B 120 0 (w - 10) < 0 then -4 else mNth B 120 0 (w - 10)
def aBase (cs : List kC) (i j w : Int) : Int := if bC cs i = true ∧ bC cs j = true ∧ (w = 0 ∨ (10 ≤ w ∧ w ≤ 129)) then bsV cs (bsB cs i.toNat j.toNat) w else -1
theorem bsC_up {cs : List kC} (hO : kOk cs) {i j : Nat} (hi : i < cs.length) (hj : j < cs.length) : ∀ k, k < cs.length → bsC cs i j k = true → ∀ p ∈ fPs cs k, bsC cs i j p.toNat = true := fun k hk hc p hp => by
  unfold bsC at hc ⊢
  rw [Bool.and_eq_true] at hc ⊢
  exact ⟨kU_up hO hi k hk hc.1 p hp, kU_up hO hj k hk hc.2 p hp⟩
theorem bsB_top {cs : List kC} (hO : kOk cs) {i j q : Nat} (hi : i < cs.length) (hq : cs.length ≤ q) : bsB cs i j q = false := by
  unfold bsB bsC
  rw [kU_top hO hi hq]; rfl
theorem mNth_no {f : Nat → Bool} : ∀ (m k : Nat) (n : Int), (∀ q, k ≤ q → f q = false) → mNth f m k n = -1
  | 0, _, _, _ => rfl
  | m + 1, k, n, h => by rw [mNth, h k (Nat.le_refl k)]; exact mNth_no m (k + 1) n (fun q hq => h q (by omega))
theorem s_base {M : gM} {z : aS} {i j w : Int} (h : uSt M z) (hO : kOk (aCs z)) : ∃ M1, F_base M i j w = some (aBase (aCs z) i j w, M1) ∧ uSt M1 z := by
  have hC := h.1
  have hl9 := hC.2.1
  unfold aBase
  rw [eq_base, gI_bb (s_isCommit hC i)]
  by_cases q1 : 0 ≤ i ∧ i < ((aCs z).length : Int)
  · rw [decide_eq_true q1, if_neg bIt, gI_bb (s_isCommit hC j)]
    by_cases q2 : 0 ≤ j ∧ j < ((aCs z).length : Int)
    · rw [decide_eq_true q2, if_neg bIt]
      obtain ⟨ni, rfl⟩ : ∃ n : Nat, i = (n : Int) := ⟨i.toNat, by omega⟩
      obtain ⟨nj, rfl⟩ : ∃ n : Nat, j = (n : Int) := ⟨j.toNat, by omega⟩
      have go : (w = 0 ∨ (10 ≤ w ∧ w ≤ 129)) → ∃ M1, Option.bind (F_marksOf M (ni : Int) (nj : Int) 1) (fun m38 => F_base_47 m38 (ni : Int) (nj : Int) w 0 0) = some (bsV (aCs z) (bsB (aCs z) ni nj) w, M1) ∧ uSt M1 z := fun hw => by
        obtain ⟨M1, e1, s1, f1⟩ := s_marksOf (w := 1) (i := ni) (j := nj) hC hO (by omega) (by omega)
        have s1 : uS M1 747 (bsC (aCs z) ni nj) := s1
        have hC1 : uC M1 (aCs z) := uC_same hC (by rw [f1 711 (by decide) (by decide)]) (fun b b0 b1 => f1 b (by omega) (by omega))
        rw [gI_bb e1]
        refine ⟨M1, ?_, uSt_keep (A := [747, 748]) (F := []) h ⟨fun b hb _ => f1 b (fun e => hb (by rw [e]; simp)) (fun e => hb (by rw [e]; simp)), fun f _ => by rw [f1 711 (by decide) (by decide)]⟩ (fun b hb => by simp at hb; omega) (by decide)⟩
        have tB : ∀ q, (aCs z).length ≤ q → bsB (aCs z) ni nj q = false := fun q hq => bsB_top hO (by omega) hq
        have step : ∀ (k : Nat) (x4 : Int), k < (aCs z).length → 0 ≤ x4 → x4 ≤ 120 → F_base_47 M1 (ni : Int) (nj : Int) w x4 (k : Int) = if bsB (aCs z) ni nj k = true then (if w = 10 + x4 then some ((k : Int), M1) else F_base_47 M1 (ni : Int) (nj : Int) w (x4 + 1) ((k : Int) + 1)) else F_base_47 M1 (ni : Int) (nj : Int) w x4 ((k : Int) + 1) := fun k x4 hk x0 x1 => by
          obtain ⟨b, c1, c2⟩ := s_hasChild (a := 747) hC1 hO (by decide) s1 hk
          rw [up_child (dag_anc hO) (bsC_up hO (by omega) (by omega))] at c2
          have hBk : bsB (aCs z) ni nj k = (bsC (aCs z) ni nj k && !b) := by
            unfold bsB
            rw [show (List.range (aCs z).length).any (fun m => bsC (aCs z) ni nj m && kAnc (aCs z) m k) = b from (Bool.eq_iff_iff.mpr c2).symm]
          rw [eq_base_47, hC1.1, if_pos (by omega), if_pos (by omega), s1 k (by omega), hBk]
          simp (disch := omega) only [gw32_id]
          cases hc : bsC (aCs z) ni nj k with
          | false => rw [if_pos bIf, if_neg (by simp)]
          | true =>
            have cb : F_isBelowMarked M1 (k : Int) = some (bI b) := by rw [eq_isBelowMarked, gI_bb c1]
            rw [if_neg bIt, gI_bb cb]
            cases b with
            | false => rw [if_pos bIf, if_pos (show (true && !false) = true from rfl)]
            | true => rw [if_neg bIt, if_neg (show ¬ (true && !true) = true by decide)]
        generalize bsB (aCs z) ni nj = B at tB step
        unfold bsV
        rcases hw with rfl | hw
        · rw [if_pos rfl]
          have lp : ∀ (m k : Nat), k + m = (aCs z).length → F_base_47 M1 (ni : Int) (nj : Int) 0 (cnt B k) (k : Int) = some (cnt B (aCs z).length, M1) := by
            intro m
            induction m with
            | zero => intro k hk; rw [eq_base_47, hC1.1, if_neg (by omega), if_pos rfl, show k = (aCs z).length by omega]
            | succ m ih =>
              intro k hk
              have hr := cnt_rng B k
              have ih1 := ih (k + 1) (by omega)
              rw [step k (cnt B k) (by omega) (by omega) (by omega)]
              cases hb : B k with
              | true => rw [if_pos rfl, if_neg (by omega)]; rw [cnt_T hb] at ih1; exact ih1
              | false => rw [if_neg (by decide)]; rw [cnt_F hb] at ih1; exact ih1
          exact lp (aCs z).length 0 (by omega)
        · rw [if_neg (by omega)]
          have lp : ∀ (m k : Nat) (x4 : Int), k + m = (aCs z).length → 0 ≤ x4 → x4 ≤ (k : Int) → 0 ≤ w - 10 - x4 → mNth B (120 - k) k (w - 10 - x4) = mNth B 120 0 (w - 10) → F_base_47 M1 (ni : Int) (nj : Int) w x4 (k : Int) = some (if mNth B 120 0 (w - 10) < 0 then -4 else mNth B 120 0 (w - 10), M1) := by
            intro m
            induction m with
            | zero =>
              intro k x4 hk x0 x1 xw hv
              rw [eq_base_47, hC1.1, if_neg (by omega), if_neg (by omega), ← hv, mNth_no _ _ _ (fun q hq => tB q (by omega))]
              rfl
            | succ m ih =>
              intro k x4 hk x0 x1 xw hv
              rw [step k x4 (by omega) x0 (by omega)]
              obtain ⟨t, ht⟩ : ∃ t, 120 - k = t + 1 := ⟨119 - k, by omega⟩
              rw [ht, mNth] at hv
              cases hb : B k with
              | true =>
                rw [if_pos rfl]
                rw [hb, if_pos rfl] at hv
                by_cases e : w = 10 + x4
                · rw [if_pos e]
                  rw [if_pos (by omega)] at hv
                  rw [← hv, if_neg (by omega)]
                · rw [if_neg e]
                  rw [if_neg (by omega)] at hv
                  exact ih (k + 1) (x4 + 1) (by omega) (by omega) (by omega) (by omega) (by rw [show 120 - (k + 1) = t by omega, show w - 10 - (x4 + 1) = w - 10 - x4 - 1 by omega]; exact hv)
              | false =>
                rw [if_neg (by decide)]
                rw [hb, if_neg (by decide)] at hv
                exact ih (k + 1) x4 (by omega) x0 (by omega) xw (by rw [show 120 - (k + 1) = t by omega]; exact hv)
          exact lp (aCs z).length 0 0 (by omega) (by decide) (by decide) (by omega) (by simp)
      by_cases w0 : w = 0
      · rw [if_pos w0, if_pos (show bC (aCs z) (ni : Int) = true ∧ bC (aCs z) (nj : Int) = true ∧ (w = 0 ∨ (10 ≤ w ∧ w ≤ 129)) from ⟨decide_eq_true q1, decide_eq_true q2, Or.inl w0⟩), Int.toNat_natCast, Int.toNat_natCast]
        exact go (Or.inl w0)
      · rw [if_neg w0, gI_bb s_in]
        by_cases w1 : 10 ≤ w ∧ w ≤ 129
        · rw [decide_eq_true w1, if_neg bIt, if_pos (show bC (aCs z) (ni : Int) = true ∧ bC (aCs z) (nj : Int) = true ∧ (w = 0 ∨ (10 ≤ w ∧ w ≤ 129)) from ⟨decide_eq_true q1, decide_eq_true q2, Or.inr w1⟩), Int.toNat_natCast, Int.toNat_natCast]
          exact go (Or.inr w1)
        · rw [decide_eq_false w1, if_pos bIf, if_neg (fun y => by omega)]; exact ⟨M, rfl, h⟩
    · rw [decide_eq_false q2, if_pos bIf, if_neg (fun w => q2 (of_decide_eq_true w.2.1))]; exact ⟨M, rfl, h⟩
  · rw [decide_eq_false q1, if_pos bIf, if_neg (fun w => q1 (of_decide_eq_true w.1))]; exact ⟨M, rfl, h⟩
