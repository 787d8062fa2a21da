-- ==== what a PLAN's text gives
def wRg (v : Int) : Prop := ∃ w : List Int, isLs w ∧ 1 ≤ w.length ∧ w.length ≤ 4 ∧ v = cdF 0 w
def pX (n : Int) (i : Nat) (x : Int × Int) : Prop := match i with
  | 0 => pW x.1 ∧ 1 ≤ pNm x.1
  | 1 => pW x.1 ∧ 1 ≤ pNm x.1
  | 2 => pW x.1 ∧ pW x.2
  | 3 => cRg x.1 ∧ cRg x.2
  | 4 => wRg x.1 ∧ wRg x.2
  | 5 => (0 ≤ x.1 ∧ x.1 < n) ∧ -1 ≤ x.2 ∧ x.2 < x.1
  | _ => (0 ≤ x.1 ∧ x.1 ≤ 9) ∧ 0 ≤ x.2 ∧ x.2 ≤ 9
def pY (f : Nat) (v : Int) : Prop := match f with
  | 2 => 0 ≤ v ∧ v ≤ 3
  | 3 => 0 ≤ v ∧ v ≤ 3
  | 11 => 0 ≤ v ∧ v < 1024
  | 12 => 0 ≤ v ∧ v ≤ 3
  | 13 => 0 ≤ v ∧ v ≤ 2
  | 14 => 0 ≤ v ∧ v ≤ 2
  | 15 => 0 ≤ v ∧ v < 1000
  | 16 => 1 ≤ v ∧ v ≤ 6
  | _ => True
def plI (n : Int) (pl : kP) : Prop := pl.2.1 0 = 1 ∧ pl.2.2 = (fun _ => -1, fun _ => -1) ∧ (∀ i : Nat, i < 7 → ∀ x ∈ pl.1 i, pX n i x) ∧ (∀ f : Nat, pY f (pl.2.1 f)) ∧ (∀ i : Nat, i < 6 → (pl.1 i).length ≤ 4) ∧ sgOk pl
theorem pY_oth {f : Nat} {v : Int} (h : ¬ (f = 2 ∨ f = 3 ∨ (11 ≤ f ∧ f ≤ 16))) : pY f v := by
  unfold pY
  split <;> first | omega | trivial
theorem plI_b0 (n : Int) : plI n (plB0 0 0) := by
  refine ⟨rfl, rfl, (fun i _ x hx => (by cases hx)), fun f => ?_, fun i _ => Nat.zero_le _, List.nodup_nil, fun x hx => (by cases hx)⟩
  by_cases h : f = 2 ∨ f = 3 ∨ (11 ≤ f ∧ f ≤ 16)
  · have hc : f = 2 ∨ f = 3 ∨ f = 11 ∨ f = 12 ∨ f = 13 ∨ f = 14 ∨ f = 15 ∨ f = 16 := by omega
    rcases hc with rfl | rfl | rfl | rfl | rfl | rfl | rfl | rfl <;> exact ⟨by decide, by decide⟩
  · exact pY_oth h
theorem plI_set {n v : Int} {pl : kP} {f : Nat} (h : plI n pl) (hf : f ≠ 0) (hv : pY f v) : plI n (lnSet pl f v) := by
  obtain ⟨a, b, c, d, e, g⟩ := h
  refine ⟨?_, b, c, fun k => ?_, e, g⟩
  · show (if 0 = f then v else pl.2.1 0) = 1
    rw [if_neg (fun w => hf w.symm)]; exact a
  · show pY k (if k = f then v else pl.2.1 k)
    by_cases q : k = f
    · rw [if_pos q, q]; exact hv
    · rw [if_neg q]; exact d k
theorem plI_add {n : Int} {pl : kP} {i : Nat} {x : Int × Int} (h : plI n pl) (hi : i < 7) (hx : pX n i x) (hl : i < 6 → (pl.1 i).length < 4) (hs : sgOk (lnAdd pl i x)) : plI n (lnAdd pl i x) := by
  obtain ⟨a, b, c, d, e, g⟩ := h
  refine ⟨a, b, fun j hj y hy => ?_, d, fun j hj => ?_, hs⟩
  · by_cases q : j = i
    · subst q
      have e5 : (lnAdd pl j x).1 j = pl.1 j ++ [x] := if_pos rfl
      rw [e5] at hy
      rcases List.mem_append.mp hy with w | w
      · exact c j hj y w
      · rw [List.mem_singleton.mp w]; exact hx
    · have e5 : (lnAdd pl i x).1 j = pl.1 j := if_neg q
      rw [e5] at hy
      exact c j hj y hy
  · by_cases q : j = i
    · subst q
      have e5 : (lnAdd pl j x).1 j = pl.1 j ++ [x] := if_pos rfl
      rw [e5, List.length_append, List.length_singleton]
      have := hl hj
      omega
    · have e5 : (lnAdd pl i x).1 j = pl.1 j := if_neg q
      rw [e5]; exact e j hj
theorem pDigits_ten {s : List Int} {p : Int} (hp : 0 ≤ p) (h : (pDigits 6 1 s p).1 = 0) : cRg (pDigits 6 1 s p).2.1 := by
  have rg := pDigits_rng (k := 6) (v := 1) hp (by decide) h
  refine ⟨?_, by have h6 : (10 ^ 6 : Nat) = 1000000 := by decide
                 omega⟩
  unfold pDigits at h ⊢
  by_cases q : 48 ≤ hd s ∧ hd s ≤ 57
  · rw [if_pos q] at h ⊢
    cases s with
    | nil => exact absurd q.1 (by decide)
    | cons c r =>
      have e : pDigGo 6 1 (c :: r) p = pDigGo 5 (1 * 10 + c - 48) r (p + 1) := if_pos q
      have q' : 48 ≤ c ∧ c ≤ 57 := q
      rw [e] at h ⊢
      have := pDigGo_rng 5 (1 * 10 + c - 48) r (p + 1) (by omega) (by omega) h
      omega
  · rw [if_neg q] at h
    have : -1000 - p = 0 := h
    omega
theorem pWordGo_w : ∀ (k : Nat) (w : List Int) (s : List Int) (p : Int), 0 ≤ p → isLs w → w.length + k = 4 → (w = [] → 97 ≤ hd s ∧ hd s ≤ 122 ∧ 0 < k) → (pWordGo k (cdF 0 w) s p).1 = 0 → wRg (pWordGo k (cdF 0 w) s p).2.1
  | 0, w, [], p, hp, hw, hk, hne, _ => ⟨w, hw, by cases w with
    | nil => exact absurd (hne rfl).2.2 (Nat.lt_irrefl _)
    | cons a b => simp, by omega, rfl⟩
  | k + 1, w, [], p, hp, hw, hk, hne, _ => ⟨w, hw, by cases w with
    | nil => exact absurd (hne rfl).1 (by decide)
    | cons a b => simp, by omega, rfl⟩
  | 0, w, c :: s, p, hp, hw, hk, hne, h => by
    unfold pWordGo at h ⊢
    by_cases q : 97 ≤ c ∧ c ≤ 122
    · rw [if_pos q] at h
      have : -2000 - p = 0 := h
      omega
    · rw [if_neg q]
      exact ⟨w, hw, by cases w with
        | nil => exact absurd (hne rfl).2.2 (Nat.lt_irrefl _)
        | cons a b => simp, by omega, rfl⟩
  | k + 1, w, c :: s, p, hp, hw, hk, hne, h => by
    unfold pWordGo at h ⊢
    by_cases q : 97 ≤ c ∧ c ≤ 122
    · rw [if_pos q] at h ⊢
      have e : 32 * cdF 0 w + c - 96 = cdF 0 (w ++ [c]) := (cdF_app w 0 c).symm
      rw [e] at h ⊢
      exact pWordGo_w k (w ++ [c]) s (p + 1) (by omega) (fun x hx => by
        rcases List.mem_append.mp hx with z | z
        · exact hw x z
        · rw [List.mem_singleton.mp z]; exact q) (by rw [List.length_append, List.length_singleton]; omega) (fun z => by simp at z) h
    · rw [if_neg q]
      exact ⟨w, hw, by cases w with
        | nil => exact absurd ⟨(hne rfl).1, (hne rfl).2.1⟩ q
        | cons a b => simp, by omega, rfl⟩
theorem pWord_w {s : List Int} {p : Int} (hp : 0 ≤ p) (h : (pWord s p).1 = 0) : wRg (pWord s p).2.1 := by
  unfold pWord at h ⊢
  by_cases q : 97 ≤ hd s ∧ hd s ≤ 122
  · rw [if_pos q] at h ⊢
    exact pWordGo_w 4 [] s p hp (fun c hc => by cases hc) rfl (fun _ => ⟨q.1, q.2, by decide⟩) h
  · rw [if_neg q] at h
    have : -1000 - p = 0 := h
    omega
theorem lnCom_v {n than : Int} {s : List Int} {p : Int} (hp : 0 ≤ p) (h : (lnCom n than s p).1 = 0) : 0 ≤ (lnCom n than s p).2.1 ∧ (lnCom n than s p).2.1 < n ∧ (0 ≤ than → (lnCom n than s p).2.1 < than) := by
  unfold lnCom at h ⊢
  by_cases q : (pDigits 3 0 s p).1 = 0
  · have r := pDigits_rng (k := 3) (v := 0) hp (by decide) q
    rw [if_pos q] at h ⊢
    by_cases q1 : n ≤ (pDigits 3 0 s p).2.1
    · rw [if_pos q1] at h
      have : -9000 - p = 0 := h
      omega
    · rw [if_neg q1] at h ⊢
      by_cases q2 : 0 ≤ than ∧ than ≤ (pDigits 3 0 s p).2.1
      · rw [if_pos q2] at h
        have : -7000 - p = 0 := h
        omega
      · rw [if_neg q2]; omega
  · rw [if_neg q] at h; exact absurd h q
def hvOk (n than : Int) (w : Nat) (v : Int) : Prop := if w = 4 then pW v else if w = 5 then cRg v else if w = 6 then wRg v else if w = 7 then (0 ≤ v ∧ v < n ∧ (0 ≤ than → v < than)) else 0 ≤ v ∧ v ≤ 9
theorem lnHalf_v {n than : Int} {w : Nat} {s : List Int} {p : Int} (hp : 0 ≤ p) (h : (lnHalf n than w s p).1 = 0) : hvOk n than w (lnHalf n than w s p).2.1 := by
  unfold lnHalf at h ⊢
  unfold hvOk
  by_cases c7 : w = 7
  · rw [if_pos c7] at h ⊢
    rw [if_neg (by omega), if_neg (by omega), if_neg (by omega), if_pos c7]
    exact lnCom_v hp h
  · rw [if_neg c7] at h ⊢
    unfold lnSide at h ⊢
    by_cases c4 : w = 4
    · rw [if_pos c4] at h ⊢
      rw [if_pos c4]
      by_cases q : hd s = 46
      · rw [if_pos q]; show pW 0; exact ⟨by decide, by decide, fun k _ _ => by show (0 : Int) / _ % 32 = 0; rw [Int.zero_ediv]; rfl⟩
      · rw [if_neg q] at h ⊢; exact (pPath_W (by decide) hp h).1
    · rw [if_neg c4] at h ⊢
      rw [if_neg c4]
      by_cases c5 : w = 5
      · rw [if_pos c5] at h ⊢; rw [if_pos c5]; exact pDigits_ten hp h
      · rw [if_neg c5] at h ⊢
        rw [if_neg c5]
        by_cases c6 : w = 6
        · rw [if_pos c6] at h ⊢; rw [if_pos c6]; exact pWord_w hp h
        · rw [if_neg c6] at h ⊢
          rw [if_neg c6, if_neg c7]
          exact pDigit_ok hp h
