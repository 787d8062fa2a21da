-- ==== the reference: the reader
def uR (M : gM) (p : Int) (s : List Int) : Prop := M 711 19 = p ∧ 0 ≤ p ∧ M 711 20 = p + (s.length : Int) ∧ p + (s.length : Int) ≤ 260 ∧ ∀ (j : Nat) (c : Int), s[j]? = some c → 0 ≤ c ∧ c < 256 ∧ M 726 (p + (j : Int)) = sb c
theorem uR_mv {M M1 : gM} {p q : Int} {s s2 : List Int} (h : uR M p s) (k : Nat) (hs : s.drop k = s2) (hk : k ≤ s.length) (hq : q = p + (k : Int)) (h1 : M1 711 19 = q) (h2 : M1 711 20 = M 711 20) (h3 : M1 726 = M 726) : uR M1 q s2 := by
  obtain ⟨a, b, c, d, e⟩ := h
  have hlen : s2.length = s.length - k := by rw [← hs, List.length_drop]
  refine ⟨h1, by omega, by rw [h2, c]; omega, by omega, fun j x hx => ?_⟩
  rw [← hs, List.getElem?_drop] at hx
  obtain ⟨q1, q2, q3⟩ := e _ _ hx
  refine ⟨q1, q2, ?_⟩
  rw [h3, ← q3]
  congr 1
  omega
theorem uR_of {M M1 : gM} {p : Int} {s : List Int} (h : uR M p s) (h1 : M1 711 19 = M 711 19) (h2 : M1 711 20 = M 711 20) (h3 : M1 726 = M 726) : uR M1 p s := uR_mv h 0 rfl (Nat.zero_le _) (by omega) (h1.trans h.1) h2 h3
theorem uR_tl {M M1 : gM} {p q : Int} {c : Int} {r : List Int} (h : uR M p (c :: r)) (hq : q = p + 1) (h1 : M1 711 19 = q) (h2 : M1 711 20 = M 711 20) (h3 : M1 726 = M 726) : uR M1 q r := uR_mv h 1 rfl (by simp) hq h1 h2 h3
theorem uR_len {M : gM} {p : Int} {s : List Int} (h : uR M p s) : 0 ≤ p ∧ p + (s.length : Int) ≤ 260 := ⟨h.2.1, h.2.2.2.1⟩
theorem uR_c {M : gM} {p c : Int} {r : List Int} (h : uR M p (c :: r)) : 0 ≤ c ∧ c < 256 := ⟨(h.2.2.2.2 0 c rfl).1, (h.2.2.2.2 0 c rfl).2.1⟩
theorem uR_hd {M : gM} {p : Int} {s : List Int} (h : uR M p s) : -1 ≤ hd s ∧ hd s < 256 := by
  cases s with
  | nil => exact ⟨by decide, by decide⟩
  | cons c s => have := uR_c h; exact ⟨by show -1 ≤ c; omega, this.2⟩
theorem s_here {M : gM} {p : Int} {s : List Int} (h : uR M p s) : F_here M = some (hd s) := by
  obtain ⟨a, b, c, d, e⟩ := h
  rw [eq_here, a, c]
  cases s with
  | nil => rw [if_neg (by simp)]; rfl
  | cons x r =>
    obtain ⟨q1, q2, q3⟩ := e 0 x rfl
    simp only [List.length_cons] at d ⊢
    rw [if_pos (by omega), if_pos (by omega)]
    rw [show p + ((0 : Nat) : Int) = p by simp] at q3
    rw [q3, sb_and q1 q2]; rfl
theorem s_isDigit {c : Int} : F_isDigit c = some (bI (decide (48 ≤ c ∧ c ≤ 57))) := by rw [eq_isDigit, gI_bb s_in]
theorem s_isSmall {c : Int} : F_isSmall c = some (bI (decide (97 ≤ c ∧ c ≤ 122))) := by rw [eq_isSmall, gI_bb s_in]
theorem s_wrongAt {M : gM} {a b : Int} (ha : 0 ≤ a ∧ a ≤ 9) (hb : 0 ≤ b ∧ b ≤ 260) : F_wrongAt M a b = some (0, gU M 711 21 (-1000 * a - b)) := by
  rw [eq_wrongAt]
  simp (disch := omega) only [gw32_id]
/-- what reading comes to: the answer, the place, the rest, what was read in a field; or the FAULT -/
def uO (M1 : gM) (r : Int) (y : pR) (v : Int) : Prop := (y.1 = 0 → r = 1 ∧ uR M1 y.2.2.1 y.2.2.2 ∧ M1 711 v = y.2.1) ∧ (y.1 ≠ 0 → r = 0 ∧ M1 711 21 = y.1)
theorem uO_bad {M : gM} {a p v : Int} {y : pR} (hy : y.1 = -1000 * a - p) (ha : 1 ≤ a) (hp : 0 ≤ p) : uO (gU M 711 21 (-1000 * a - p)) 0 y v :=
  ⟨fun z => by omega, fun _ => ⟨rfl, by rw [gU_same]; exact hy.symm⟩⟩
theorem s_takesSign {M : gM} {p c : Int} {s : List Int} (h : uR M p s) (hc : 0 ≤ c) : ∃ r M1, F_takesSign M c = some (r, M1) ∧ (hd s = c → r = 1 ∧ uR M1 (p + 1) s.tail ∧ M1 = gU M 711 19 (p + 1)) ∧ (hd s ≠ c → r = 0 ∧ M1 711 21 = -1000 - p) := by
  have hl := uR_len h
  rw [eq_takesSign, gI_bb (s_here h)]
  by_cases hq : hd s = c
  · rw [if_pos hq, h.1, gw32_id (by omega) (by omega)]
    refine ⟨1, _, rfl, fun _ => ⟨rfl, ?_, rfl⟩, fun z => absurd hq z⟩
    cases s with
    | nil => rw [← hq] at hc; exact absurd hc (by decide)
    | cons x r => exact uR_tl h rfl (gU_same _ _ _ _) (gU_idx (by decide)) (gU_cell _ _ _ (by decide))
  · rw [if_neg hq, h.1, gI_bb (s_wrongAt (by omega) (by omega))]
    exact ⟨0, _, rfl, fun z => absurd z hq, fun _ => ⟨rfl, by show gU M 711 21 (-1000 * 1 - p) 711 21 = -1000 - p; rw [gU_same]; omega⟩⟩
theorem pow10_le {n m : Nat} (h : n ≤ m) : (10 ^ n : Nat) ≤ 10 ^ m := Nat.pow_le_pow_right (by decide) h
theorem rdDig {G : gM → Int → Option (Int × gM)} {most : Int} (hG : ∀ M x1, G M x1 = (Option.bind (F_here M) (fun r31 =>
    (Option.bind (F_isDigit r31) (fun r34 =>
      (if r34 = 0 then
        some (1, M)
      else
        (if (M 711 19) = (gw32 (x1 + most)) then
          (Option.bind (F_wrongAt M 2 (M 711 19)) (fun p56 =>
            some (p56.1, p56.2)))
        else
          (Option.bind (F_here M) (fun r69 =>
            G (gU (gU M 711 22 (gw32 ((gw32 ((gw32 ((10 : Int) * (M 711 22))) + r69)) - (48 : Int)))) 711 19 (gw32 (((gU M 711 22 (gw32 ((gw32 ((gw32 ((10 : Int) * (M 711 22))) + r69)) - (48 : Int)))) 711 19) + (1 : Int)))) x1)))))))))
    {m : Nat} (hm : most = (m : Int)) (hm6 : m ≤ 6) {p : Int} (hp : 0 ≤ p ∧ p ≤ 260) : ∀ (k n : Nat) (s1 : List Int) (q v : Int) (M1 : gM), n + k = m → uR M1 q s1 → q = p + (n : Int) → M1 711 22 = v → 0 ≤ v → v < 2 * (10 ^ n : Nat) → ∃ r M2, G M1 p = some (r, M2) ∧ uO M2 r (pDigGo k v s1 q) 22 := by
  intro k
  induction k with
  | zero =>
    intro n s1 q v M1 hn h1 hq hv v0 v1
    rw [hG, gI_bb (s_here h1), gI_bb s_isDigit]
    cases s1 with
    | nil => rw [show hd [] = -1 from rfl, if_pos (by decide)]; exact ⟨1, M1, rfl, fun _ => ⟨rfl, h1, hv⟩, fun z => absurd rfl z⟩
    | cons c s1 =>
      rw [pDigGo, show hd (c :: s1) = c from rfl]
      by_cases hc : 48 ≤ c ∧ c ≤ 57
      · have hl1 := uR_len h1
        simp only [List.length_cons] at hl1
        rw [decide_eq_true hc, if_neg (by decide), if_pos hc, h1.1, gw32_id (by omega) (by omega), if_pos (by omega), gI_bb (s_wrongAt (by decide) (by omega))]
        exact ⟨0, _, rfl, uO_bad rfl (by decide) h1.2.1⟩
      · rw [decide_eq_false hc, if_pos (by decide), if_neg hc]
        exact ⟨1, M1, rfl, fun _ => ⟨rfl, h1, hv⟩, fun z => absurd rfl z⟩
  | succ k ih =>
    intro n s1 q v M1 hn h1 hq hv v0 v1
    rw [hG, gI_bb (s_here h1), gI_bb s_isDigit]
    cases s1 with
    | nil => rw [show hd [] = -1 from rfl, if_pos (by decide)]; exact ⟨1, M1, rfl, fun _ => ⟨rfl, h1, hv⟩, fun z => absurd rfl z⟩
    | cons c s1 =>
      rw [pDigGo, show hd (c :: s1) = c from rfl]
      by_cases hc : 48 ≤ c ∧ c ≤ 57
      · have hl1 := uR_len h1
        simp only [List.length_cons] at hl1
        have hp5 := pow10_le (show n ≤ 5 by omega)
        have v2 : v < 200000 := by omega
        rw [decide_eq_true hc, if_neg (by decide), if_pos hc, h1.1, gw32_id (by omega) (by omega), if_neg (by omega), gI_bb (s_here h1), show hd (c :: s1) = c from rfl, hv, gU_idx (by decide), h1.1]
        simp (disch := omega) only [gw32_id]
        rw [show v * 10 + c - 48 = 10 * v + c - 48 by omega]
        exact ih (n + 1) s1 (q + 1) _ _ (by omega) (uR_tl h1 rfl (gU_same _ _ _ _) (by rw [gU_idx (by decide), gU_idx (by decide)]) (by rw [gU_cell _ _ _ (by decide), gU_cell _ _ _ (by decide)])) (by omega) (by rw [gU_idx (by decide), gU_same]) (by omega) (by rw [Nat.pow_succ]; omega)
      · rw [decide_eq_false hc, if_pos (by decide), if_neg hc]
        exact ⟨1, M1, rfl, fun _ => ⟨rfl, h1, hv⟩, fun z => absurd rfl z⟩
theorem s_readsNumber {M : gM} {p : Int} {s : List Int} (h : uR M p s) : ∃ r M1, F_readsNumber M = some (r, M1) ∧ uO M1 r (pDigits 3 0 s p) 22 := by
  have hl := uR_len h
  rw [eq_readsNumber, gI_bb (s_here h), gI_bb s_isDigit, pDigits]
  by_cases hdg : 48 ≤ hd s ∧ hd s ≤ 57
  · rw [decide_eq_true hdg, if_neg (by decide), if_pos hdg, h.1]
    exact rdDig eq_readsNumber_30 (m := 3) rfl (by decide) (by omega) 3 0 s p 0 _ rfl (uR_of h (gU_idx (by decide)) (gU_idx (by decide)) (gU_cell _ _ _ (by decide))) (by simp) (gU_same _ _ _ _) (by decide) (by decide)
  · rw [decide_eq_false hdg, if_pos (by decide), if_neg hdg, h.1, gI_bb (s_wrongAt (by decide) (by omega))]
    exact ⟨0, _, rfl, uO_bad (by show -1000 - p = _; omega) (by decide) h.2.1⟩
theorem s_readsContent {M : gM} {p : Int} {s : List Int} (h : uR M p s) : ∃ r M1, F_readsContent M = some (r, M1) ∧ uO M1 r (pDigits 6 1 s p) 22 := by
  have hl := uR_len h
  rw [eq_readsContent, gI_bb (s_here h), gI_bb s_isDigit, pDigits]
  by_cases hdg : 48 ≤ hd s ∧ hd s ≤ 57
  · rw [decide_eq_true hdg, if_neg (by decide), if_pos hdg, h.1]
    exact rdDig eq_readsContent_30 (m := 6) rfl (by decide) (by omega) 6 0 s p 1 _ rfl (uR_of h (gU_idx (by decide)) (gU_idx (by decide)) (gU_cell _ _ _ (by decide))) (by simp) (gU_same _ _ _ _) (by decide) (by decide)
  · rw [decide_eq_false hdg, if_pos (by decide), if_neg hdg, h.1, gI_bb (s_wrongAt (by decide) (by omega))]
    exact ⟨0, _, rfl, uO_bad (by show -1000 - p = _; omega) (by decide) h.2.1⟩
/-- a CONTENT that was read -/
theorem pDigGo_rng : ∀ (k : Nat) (v : Int) (s : List Int) (p : Int), 0 ≤ p → 0 ≤ v → (pDigGo k v s p).1 = 0 → v ≤ (pDigGo k v s p).2.1 ∧ (pDigGo k v s p).2.1 < (v + 1) * (10 ^ k : Nat)
  | k, v, [], p, hp, h0, _ => by
    rw [pDigGo]
    have : (1 : Int) ≤ ((10 ^ k : Nat) : Int) := by exact_mod_cast (Nat.pow_pos (by decide) : 0 < 10 ^ k)
    have := Int.mul_le_mul_of_nonneg_left this (show 0 ≤ v + 1 by omega)
    exact ⟨Int.le_refl _, by show v < _; omega⟩
  | 0, v, c :: s, p, hp, h0, h => by
    rw [pDigGo] at h ⊢
    split at h
    · exfalso
      have h : -2000 - p = 0 := h
      omega
    · rename_i hc; rw [if_neg hc]; exact ⟨Int.le_refl _, by show v < (v + 1) * ((10 ^ 0 : Nat) : Int); simp; omega⟩
  | k + 1, v, c :: s, p, hp, h0, h => by
    have h1 : (1 : Int) ≤ ((10 ^ k : Nat) : Int) := by exact_mod_cast (Nat.pow_pos (by decide) : 0 < 10 ^ k)
    rw [pDigGo] at h ⊢
    split at h
    · rename_i hc
      rw [if_pos hc]
      have := pDigGo_rng k (v * 10 + c - 48) s (p + 1) (by omega) (by omega) h
      refine ⟨by omega, Int.lt_of_lt_of_le this.2 ?_⟩
      rw [Nat.pow_succ, Int.natCast_mul, Int.mul_comm ((10 ^ k : Nat) : Int), ← Int.mul_assoc]
      exact Int.mul_le_mul_of_nonneg_right (by show v * 10 + c - 48 + 1 ≤ (v + 1) * (10 : Nat); omega) (by omega)
    · rename_i hc; rw [if_neg hc]
      refine ⟨Int.le_refl _, ?_⟩
      have := Int.mul_le_mul_of_nonneg_left h1 (show 0 ≤ v + 1 by omega)
      rw [Nat.pow_succ, Int.natCast_mul]
      show v < (v + 1) * (((10 ^ k : Nat) : Int) * (10 : Nat))
      have h2 : (v + 1) * ((10 ^ k : Nat) : Int) * 1 ≤ (v + 1) * ((10 ^ k : Nat) : Int) * 10 := Int.mul_le_mul_of_nonneg_left (by decide) (by omega)
      rw [Int.mul_assoc, Int.mul_assoc] at h2
      rw [Int.mul_one] at h2
      exact Int.lt_of_lt_of_le (by omega) (Int.le_trans this h2)
-- ---- PATHS that are read
/-- the first n NAMES are there, none behind them -/
def pWn (v : Int) (n : Nat) : Prop := 0 ≤ v ∧ v < 1073741824 ∧ v % (2 ^ (30 - 5 * n) : Nat) = 0 ∧ ∀ i : Nat, i < n → pg v i ≠ 0
theorem pWn_W {v : Int} {n : Nat} (h : pWn v n) : pW v := by
  refine ⟨h.1, h.2.1, fun i hi hz => ?_⟩
  have hni : n ≤ i := by
    rcases Nat.lt_or_ge i n with z | z
    · exact absurd hz (h.2.2.2 i z)
    · exact z
  obtain ⟨q, hq⟩ := Int.dvd_of_emod_eq_zero h.2.2.1
  have e : v = ((2 ^ (25 - 5 * (i + 1)) : Nat) : Int) * (((2 ^ ((30 - 5 * n) - (25 - 5 * (i + 1))) : Nat) : Int) * q) := by
    rw [hq, ← Int.mul_assoc, ← Int.natCast_mul, ← Nat.pow_add]
    congr 3; congr 1; omega
  unfold pg
  rw [e, Int.mul_ediv_cancel_left _ (by have := Nat.pow_pos (n := 25 - 5 * (i + 1)) (show 0 < 2 by decide); omega)]
  rw [show (30 - 5 * n) - (25 - 5 * (i + 1)) = 5 + (5 * (i - n) + 5) by omega, Nat.pow_add, Int.natCast_mul, Int.mul_assoc]
  exact Int.mul_emod_right _ _
theorem pWn_add {v m : Int} {n : Nat} (h : pWn v n) (hn : n < 6) (hm : 1 ≤ m ∧ m ≤ 31) : pWn (v + m * (2 ^ (25 - 5 * n) : Nat)) (n + 1) := by
  obtain ⟨q, hq⟩ := Int.dvd_of_emod_eq_zero h.2.2.1
  have h0 := h.1
  have h1 := h.2.1
  have hc : n = 0 ∨ n = 1 ∨ n = 2 ∨ n = 3 ∨ n = 4 ∨ n = 5 := by omega
  have key : ∀ j : Nat, j ≤ n → pq (v + m * (2 ^ (25 - 5 * n) : Nat)) j = pq v j := by
    intro j hj
    unfold pq
    have e : ((2 ^ (30 - 5 * j) : Nat) : Int) = ((2 ^ (30 - 5 * n) : Nat) : Int) * ((2 ^ (5 * (n - j)) : Nat) : Int) := by
      rw [← Int.natCast_mul, ← Nat.pow_add]; congr 2; omega
    rw [e, ← Int.ediv_ediv_of_nonneg (Int.natCast_nonneg _), ← Int.ediv_ediv_of_nonneg (Int.natCast_nonneg _)]
    congr 1
    rw [hq]
    rcases hc with rfl | rfl | rfl | rfl | rfl | rfl <;> simp only [Nat.reduceMul, Nat.reduceSub, Nat.reducePow, Int.reduceNatCast] <;> omega
  have key2 : pq (v + m * (2 ^ (25 - 5 * n) : Nat)) (n + 1) = 32 * pq v n + m := by
    unfold pq
    rw [hq]
    rcases hc with rfl | rfl | rfl | rfl | rfl | rfl <;> simp only [Nat.reduceMul, Nat.reduceSub, Nat.reduceAdd, Nat.reducePow, Int.reduceNatCast] <;> omega
  refine ⟨?_, ?_, ?_, fun i hi => ?_⟩
  · have : 0 ≤ m * ((2 ^ (25 - 5 * n) : Nat) : Int) := Int.mul_nonneg (by omega) (Int.natCast_nonneg _)
    omega
  · rcases hc with rfl | rfl | rfl | rfl | rfl | rfl <;> simp only [Nat.reduceMul, Nat.reduceSub, Nat.reducePow, Int.reduceNatCast] at hq ⊢ <;> omega
  · rcases hc with rfl | rfl | rfl | rfl | rfl | rfl <;> simp only [Nat.reduceMul, Nat.reduceSub, Nat.reduceAdd, Nat.reducePow, Int.reduceNatCast] at hq ⊢ <;> omega
  · by_cases e : i = n
    · subst e
      have := pq_succ (v + m * (2 ^ (25 - 5 * i) : Nat)) hn
      rw [key2, key i (Nat.le_refl _)] at this
      omega
    · have a1 := pq_succ (v + m * (2 ^ (25 - 5 * n) : Nat)) (show i < 6 by omega)
      rw [key i (by omega), key (i + 1) (by omega), pq_succ v (by omega)] at a1
      have := h.2.2.2 i (by omega)
      omega
theorem pPathGo_W : ∀ (k n : Nat) (v : Int) (s : List Int) (p : Int), n + k ≤ 6 → 0 ≤ p → pWn v n → (pPathGo k (2 ^ (25 - 5 * n) : Nat) v s p).1 = 0 → pW (pPathGo k (2 ^ (25 - 5 * n) : Nat) v s p).2.1 ∧ 1 ≤ pNm (pPathGo k (2 ^ (25 - 5 * n) : Nat) v s p).2.1
  | k, n, v, [], p, _, hp, _, h => by
    have h : -1000 - p = 0 := by cases k <;> exact h
    omega
  | 0, n, v, c :: r, p, _, hp, _, h => by
    rw [pPathGo] at h
    split at h
    · have h : -5000 - p = 0 := h
      omega
    · have h : -1000 - p = 0 := h
      omega
  | k + 1, n, v, c :: r, p, hnk, hp, hw, h => by
    rw [pPathGo] at h ⊢
    split at h
    · rename_i hc
      rw [if_pos hc]
      have hw2 := pWn_add hw (show n < 6 by omega) (m := c - 96) (by omega)
      split at h
      · rename_i h47
        rw [if_pos h47]
        by_cases h5 : n = 5
        · subst h5
          have : k = 0 := by omega
          subst this
          exfalso
          cases hr : r.tail with
          | nil => rw [hr] at h; have h : -1000 - (p + 2) = 0 := h; omega
          | cons x t =>
            rw [hr, pPathGo] at h
            split at h
            · have h : -5000 - (p + 2) = 0 := h
              omega
            · have h : -1000 - (p + 2) = 0 := h
              omega
        · have e : ((2 ^ (25 - 5 * n) : Nat) : Int) / 32 = ((2 ^ (25 - 5 * (n + 1)) : Nat) : Int) := by
            rw [show 25 - 5 * n = (25 - 5 * (n + 1)) + 5 by omega, Nat.pow_add]
            generalize 2 ^ (25 - 5 * (n + 1)) = y
            simp only [Nat.reducePow]
            omega
          rw [e] at h ⊢
          exact pPathGo_W k (n + 1) _ r.tail (p + 2) (by omega) (by omega) hw2 h
      · rename_i h47
        rw [if_neg h47]
        refine ⟨pWn_W hw2, ?_⟩
        obtain ⟨m, hm, hmm, q⟩ := pW_nm (pWn_W hw2)
        show 1 ≤ pNm (v + (c - 96) * _)
        rw [hmm]
        have h0 := hw2.2.2.2 0 (by omega)
        have : ¬ m ≤ 0 := fun z => h0 ((q 0 (by decide)).mpr z)
        omega
    · have h : -1000 - p = 0 := h
      omega
theorem pPath_W {most : Nat} {s : List Int} {p : Int} (hm : most ≤ 6) (hp : 0 ≤ p) (h : (pPath most s p).1 = 0) : pW (pPath most s p).2.1 ∧ 1 ≤ pNm (pPath most s p).2.1 := by
  unfold pPath at h ⊢
  exact pPathGo_W most 0 0 s p (by omega) hp ⟨by decide, by decide, by decide, fun i hi => by omega⟩ h
theorem gshl_25 : ∀ n : Nat, n < 6 → ((Int32.ofInt (25 - 5 * (n : Int)) &&& 31).toBitVec.smod 32).toNat = 25 - 5 * n := ss_all
theorem s_readsPath {M : gM} {p : Int} {s : List Int} {most : Nat} (h : uR M p s) (hm : most ≤ 6) : ∃ r M1, F_readsPath M (most : Int) = some (r, M1) ∧ uO M1 r (pPath most s p) 23 := by
  have lp : ∀ (k n : Nat) (s1 : List Int) (q v : Int) (M1 : gM), n + k = most → uR M1 q s1 → M1 711 23 = v → pWn v n → ∃ r M2, F_readsPath_7 M1 (most : Int) (n : Int) = some (r, M2) ∧ uO M2 r (pPathGo k (2 ^ (25 - 5 * n) : Nat) v s1 q) 23 := by
    intro k
    induction k with
    | zero =>
      intro n s1 q v M1 hn h1 hv hw
      have hl1 := uR_len h1
      rw [eq_readsPath_7, gI_bb (s_here h1), gI_bb s_isSmall]
      cases s1 with
      | nil =>
        simp only [List.length_nil] at hl1
        rw [show hd [] = -1 from rfl, if_pos (by decide), h1.1, gI_bb (s_wrongAt (by decide) (by omega))]
        exact ⟨0, _, rfl, uO_bad rfl (by decide) h1.2.1⟩
      | cons c r =>
        simp only [List.length_cons] at hl1
        rw [show hd (c :: r) = c from rfl, pPathGo, h1.1]
        by_cases hc : 97 ≤ c ∧ c ≤ 122
        · rw [decide_eq_true hc, if_neg (by decide), if_pos hc, if_pos (by omega), gI_bb (s_wrongAt (by decide) (by omega))]
          exact ⟨0, _, rfl, uO_bad rfl (by decide) h1.2.1⟩
        · rw [decide_eq_false hc, if_pos (by decide), if_neg hc, gI_bb (s_wrongAt (by decide) (by omega))]
          exact ⟨0, _, rfl, uO_bad rfl (by decide) h1.2.1⟩
    | succ k ih =>
      intro n s1 q v M1 hn h1 hv hw
      have hl1 := uR_len h1
      rw [eq_readsPath_7, gI_bb (s_here h1), gI_bb s_isSmall]
      cases s1 with
      | nil =>
        simp only [List.length_nil] at hl1
        rw [show hd [] = -1 from rfl, if_pos (by decide), h1.1, gI_bb (s_wrongAt (by decide) (by omega))]
        exact ⟨0, _, rfl, uO_bad rfl (by decide) h1.2.1⟩
      | cons c r =>
        simp only [List.length_cons] at hl1
        rw [show hd (c :: r) = c from rfl, pPathGo, h1.1]
        by_cases hc : 97 ≤ c ∧ c ≤ 122
        · have hw2 := pWn_add hw (show n < 6 by omega) (m := c - 96) (by omega)
          have hsh : gshl (c - 97 + 1) (25 - 5 * (n : Int)) = (c - 96) * (2 ^ (25 - 5 * n) : Nat) := by
            rw [show c - 97 + 1 = c - 96 by omega]
            refine gshl_mul (by omega) _ _ (gshl_25 n (by omega)) ?_
            have := hw2.2.1; have := hw.1; omega
          have hor : gor v ((c - 96) * (2 ^ (25 - 5 * n) : Nat)) = v + (c - 96) * (2 ^ (25 - 5 * n) : Nat) := by
            have hb : (c - 96) * ((2 ^ (25 - 5 * n) : Nat) : Int) < ((2 ^ (30 - 5 * n) : Nat) : Int) := by
              rw [show 30 - 5 * n = (25 - 5 * n) + 5 by omega, Nat.pow_add, Int.natCast_mul, Int.mul_comm ((2 ^ (25 - 5 * n) : Nat) : Int)]
              exact Int.mul_lt_mul_of_pos_right (by show c - 96 < 32; omega) (by have := Nat.pow_pos (n := 25 - 5 * n) (show 0 < 2 by decide); omega)
            exact gor_add (30 - 5 * n) hw.1 (Int.mul_nonneg (by omega) (Int.natCast_nonneg _)) (by have := hw.2.1; omega) hb (by omega) hw.2.2.1
          rw [decide_eq_true hc, if_neg (by decide), if_pos hc, if_neg (by omega), gI_bb (s_here h1), show hd (c :: r) = c from rfl, hv]
          simp (disch := omega) only [gw32_id]
          rw [hsh, hor]
          generalize hV : v + (c - 96) * (2 ^ (25 - 5 * n) : Nat) = V at *
          rw [gU_idx (by decide), h1.1]
          simp (disch := omega) only [gw32_id]
          have h2 : uR (gU (gU M1 711 23 V) 711 19 (q + 1)) (q + 1) r := uR_tl h1 rfl (gU_same _ _ _ _) (by rw [gU_idx (by decide), gU_idx (by decide)]) (by rw [gU_cell _ _ _ (by decide), gU_cell _ _ _ (by decide)])
          rw [gI_bb (s_here h2)]
          by_cases h47 : hd r = 47
          · rw [if_pos h47, if_pos h47, gU_same]
            simp (disch := omega) only [gw32_id]
            cases r with
            | nil => exact absurd h47 (by decide)
            | cons x t =>
              simp only [List.length_cons] at hl1
              by_cases h5 : n = 5
              · have hk : k = 0 := by omega
                subst hk
                have h3 : uR (gU (gU (gU M1 711 23 V) 711 19 (q + 1)) 711 19 (q + 1 + 1)) (q + 2) t := uR_tl h2 (by omega) (by rw [gU_same]; omega) (gU_idx (by decide)) (gU_cell _ _ _ (by decide))
                rw [eq_readsPath_7, gI_bb (s_here h3), gI_bb s_isSmall, h3.1, List.tail_cons]
                have hl3 := uR_len h3
                cases t with
                | nil =>
                  rw [show hd [] = -1 from rfl, if_pos (by decide), gI_bb (s_wrongAt (by decide) (by simp at hl1; omega))]
                  exact ⟨0, _, rfl, uO_bad rfl (by decide) (by omega)⟩
                | cons y t2 =>
                  simp only [List.length_cons] at hl3
                  rw [show hd (y :: t2) = y from rfl, pPathGo]
                  by_cases hy : 97 ≤ y ∧ y ≤ 122
                  · rw [decide_eq_true hy, if_neg (by decide), if_pos hy, if_pos (by omega), gI_bb (s_wrongAt (by decide) (by omega))]
                    exact ⟨0, _, rfl, uO_bad rfl (by decide) (by omega)⟩
                  · rw [decide_eq_false hy, if_pos (by decide), if_neg hy, gI_bb (s_wrongAt (by decide) (by omega))]
                    exact ⟨0, _, rfl, uO_bad rfl (by decide) (by omega)⟩
              · have e : ((2 ^ (25 - 5 * n) : Nat) : Int) / 32 = ((2 ^ (25 - 5 * (n + 1)) : Nat) : Int) := by
                  rw [show 25 - 5 * n = (25 - 5 * (n + 1)) + 5 by omega, Nat.pow_add]
                  generalize 2 ^ (25 - 5 * (n + 1)) = y
                  simp only [Nat.reducePow]
                  omega
                rw [e]
                exact ih (n + 1) t (q + 2) V _ (by omega) (uR_tl h2 (by omega) (by rw [gU_same]; omega) (gU_idx (by decide)) (gU_cell _ _ _ (by decide))) (by rw [gU_idx (by decide), gU_idx (by decide), gU_same]) hw2
          · rw [if_neg h47, if_neg h47]
            exact ⟨1, _, rfl, fun _ => ⟨rfl, h2, by rw [gU_idx (by decide), gU_same]⟩, fun z => absurd rfl z⟩
        · rw [decide_eq_false hc, if_pos (by decide), if_neg hc, gI_bb (s_wrongAt (by decide) (by omega))]
          exact ⟨0, _, rfl, uO_bad rfl (by decide) h1.2.1⟩
  rw [eq_readsPath, pPath]
  exact lp most 0 s p 0 _ (by omega) (uR_of h (gU_idx (by decide)) (gU_idx (by decide)) (gU_cell _ _ _ (by decide))) (gU_same _ _ _ _) ⟨by decide, by decide, by decide, fun i hi => by omega⟩
