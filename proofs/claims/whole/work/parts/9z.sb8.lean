-- ==== the call spelt, by the reference
def emS (q : Int × Int) (c : Int) : Int × Int := (q.1 - 1, if q.1 = 0 then c else q.2)
/-- these bytes were spelt since M0 -/
def emR (M0 M1 : gM) (t : List Int) : Prop := (M1 711 50, M1 711 51) = t.foldl emS (M0 711 50, M0 711 51) ∧ ∀ b j : Int, (b = 711 → j ≠ 50 ∧ j ≠ 51) → M1 b j = M0 b j
theorem emS_1 : ∀ (t : List Int) (q : Int × Int), (t.foldl emS q).1 = q.1 - (t.length : Int)
  | [], q => by simp
  | c :: r, q => by
    rw [List.foldl_cons, emS_1 r, List.length_cons]
    show q.1 - 1 - (r.length : Int) = _
    omega
theorem emS_neg : ∀ (t : List Int) (q : Int × Int), q.1 < 0 → (t.foldl emS q).2 = q.2
  | [], _, _ => rfl
  | c :: r, q, h => by
    rw [List.foldl_cons, emS_neg r _ (by show q.1 - 1 < 0; omega)]
    show (if q.1 = 0 then c else q.2) = q.2
    rw [if_neg (by omega)]
theorem emS_2 : ∀ (t : List Int) (q : Int × Int), 0 ≤ q.1 → (t.foldl emS q).2 = (match t[q.1.toNat]? with | some v => v | none => q.2)
  | [], q, h => rfl
  | c :: r, q, h => by
    rw [List.foldl_cons]
    by_cases h0 : q.1 = 0
    · rw [emS_neg r _ (by show q.1 - 1 < 0; omega)]
      show (if q.1 = 0 then c else q.2) = _
      rw [if_pos h0, h0]
      rfl
    · rw [emS_2 r _ (by show 0 ≤ q.1 - 1; omega)]
      show (match r[(q.1 - 1).toNat]? with | some v => v | none => (if q.1 = 0 then c else q.2)) = _
      rw [if_neg h0, show q.1.toNat = (q.1 - 1).toNat + 1 by omega, List.getElem?_cons_succ]
theorem emR_0 (M : gM) : emR M M [] := ⟨rfl, fun _ _ _ => rfl⟩
theorem s_spells {M0 M1 : gM} {t : List Int} {c : Int} (hE : emR M0 M1 t) (h0 : 0 ≤ M0 711 50 ∧ M0 711 50 ≤ 1000) (hl : t.length ≤ 1000) : ∃ M2, F_spells M1 c = some M2 ∧ emR M0 M2 (t ++ [c]) := by
  obtain ⟨h1, h2⟩ := hE
  have e1 : M1 711 50 = M0 711 50 - (t.length : Int) := by
    have := emS_1 t (M0 711 50, M0 711 51)
    rw [← h1] at this
    exact this
  rw [eq_spells]
  by_cases h : M1 711 50 = 0
  · rw [if_pos h, gU_idx (by decide), gw32_id (by omega) (by omega)]
    refine ⟨_, rfl, ?_, fun b j hb => ?_⟩
    · rw [List.foldl_append, ← h1]
      show (_, _) = (M1 711 50 - 1, if M1 711 50 = 0 then c else M1 711 51)
      rw [gU_same, gU_idx (by decide), gU_same, if_pos h]
    · by_cases hb2 : b = 711
      · subst hb2
        rw [gU_idx (hb rfl).1, gU_idx (hb rfl).2]
        exact h2 711 j hb
      · rw [gU_cell _ _ _ hb2, gU_cell _ _ _ hb2]
        exact h2 b j hb
  · rw [if_neg h, gw32_id (by omega) (by omega)]
    refine ⟨_, rfl, ?_, fun b j hb => ?_⟩
    · rw [List.foldl_append, ← h1]
      show (_, _) = (M1 711 50 - 1, if M1 711 50 = 0 then c else M1 711 51)
      rw [gU_same, gU_idx (by decide), if_neg h]
    · by_cases hb2 : b = 711
      · subst hb2
        rw [gU_idx (hb rfl).1]
        exact h2 711 j hb
      · rw [gU_cell _ _ _ hb2]
        exact h2 b j hb
theorem s_spellsNumber {M0 M1 : gM} {t : List Int} {x : Int} (hx : 0 ≤ x ∧ x < 120) (hE : emR M0 M1 t) (h0 : 0 ≤ M0 711 50 ∧ M0 711 50 ≤ 1000) (hl : t.length ≤ 990) : ∃ M2, F_spellsNumber M1 x = some M2 ∧ emR M0 M2 (t ++ kDg x) := by
  obtain ⟨n1, n2, n3⟩ := num_all x.toNat (by omega)
  rw [Int.toNat_of_nonneg hx.1] at n1 n2 n3
  have app : ∀ a b : List Int, (a ++ b).length = a.length + b.length := fun _ _ => List.length_append
  rw [eq_spellsNumber]
  by_cases h1 : (99 : Int) < x
  · rw [if_pos h1, n1]
    obtain ⟨M2, e2, hE2⟩ := s_spells (c := 48 + x / 100) hE h0 (by omega)
    rw [e2]
    show ∃ M3, F_spellsNumber_17 M2 x = some M3 ∧ _
    rw [eq_spellsNumber_17, if_pos (by omega), n2]
    obtain ⟨M3, e3, hE3⟩ := s_spells (c := 48 + x / 10 % 10) hE2 h0 (by rw [app]; simp only [List.length_singleton]; omega)
    rw [e3, n3]
    obtain ⟨M4, e4, hE4⟩ := s_spells (c := 48 + x % 10) hE3 h0 (by rw [app, app]; simp only [List.length_singleton]; omega)
    show ∃ M5, Option.bind (F_spells M3 (48 + x % 10)) (fun m => some m) = some M5 ∧ _
    rw [e4, kDg_3 (by omega)]
    refine ⟨M4, rfl, ?_⟩
    have e : t ++ [48 + x / 100] ++ [48 + x / 10 % 10] ++ [48 + x % 10] = t ++ [48 + x / 100, 48 + x / 10 % 10, 48 + x % 10] := by simp
    rw [← e]
    exact hE4
  · rw [if_neg h1, eq_spellsNumber_17]
    by_cases h2 : (9 : Int) < x
    · rw [if_pos h2, n2]
      obtain ⟨M3, e3, hE3⟩ := s_spells (c := 48 + x / 10 % 10) hE h0 (by omega)
      rw [e3, n3]
      obtain ⟨M4, e4, hE4⟩ := s_spells (c := 48 + x % 10) hE3 h0 (by rw [app]; simp only [List.length_singleton]; omega)
      show ∃ M5, Option.bind (F_spells M3 (48 + x % 10)) (fun m => some m) = some M5 ∧ _
      rw [e4, kDg_2 (by omega) (by omega)]
      refine ⟨M4, rfl, ?_⟩
      have e : t ++ [48 + x / 10 % 10] ++ [48 + x % 10] = t ++ [48 + x / 10, 48 + x % 10] := by simp; omega
      rw [← e]
      exact hE4
    · rw [if_neg h2, n3]
      obtain ⟨M4, e4, hE4⟩ := s_spells (c := 48 + x % 10) hE h0 (by omega)
      rw [e4, kDg_1 (by omega)]
      refine ⟨M4, rfl, ?_⟩
      have e : t ++ [48 + x % 10] = t ++ [48 + x] := by simp; omega
      rw [← e]
      exact hE4
theorem dgB_is : ∀ (n : Nat) (x : Int), dgB n x = x / (10 ^ n : Nat) % 10
  | 0, x => by unfold dgB; simp
  | n + 1, x => by
    unfold dgB
    rw [dgB_is n, Nat.pow_succ, Nat.mul_comm, Int.natCast_mul, ← Int.ediv_ediv_of_nonneg (by decide)]
    rfl
theorem emR_T {M0 M1 : gM} {t : List Int} {T : Int} {fs : List gF} (hE : emR M0 M1 t) (hT : uT M0 T fs) : uT M1 T fs := by
  have e : ∀ b : Int, b ≠ 711 → M1 b = M0 b := fun b hb => by funext j; exact hE.2 b j (fun q => absurd q hb)
  obtain ⟨h1, h2, h3, h4⟩ := hT
  refine ⟨h1, by rw [e 718 (by decide)]; exact h2, h3, rw_congr h4 (fun q _ _ => ?_)⟩
  unfold uG
  rw [e 719 (by decide), e 720 (by decide)]
theorem ten_pow {k : Nat} (hk : k ≤ 6) : 0 < ((10 ^ k : Nat) : Int) ∧ ((10 ^ k : Nat) : Int) < 2147483648 := by
  have : ∀ k : Nat, k < 7 → 0 < 10 ^ k ∧ 10 ^ k < 2147483648 := by decide
  have := this k (by omega)
  omega
theorem s_digs {M0 : gM} {T j p c : Int} (hc : 0 ≤ c ∧ c < 2147483648) (h0 : 0 ≤ M0 711 50 ∧ M0 711 50 ≤ 1000) : ∀ (k : Nat) (M1 : gM) (t : List Int), k ≤ 6 → t.length ≤ 980 - k → emR M0 M1 t → ∃ M2, F_spellsFile_102 M1 T j p ((10 ^ k : Nat) : Int) c = some M2 ∧ emR M0 M2 (t ++ dgS c (k + 1)) := by
  intro k
  induction k with
  | zero =>
    intro M1 t hk hl hE
    rw [eq_spellsFile_102, if_pos (by decide), if_pos (by decide), gdiv_nn hc ⟨by decide, by decide⟩]
    have e : gw32 ((48 : Int) + grem (c / ((10 ^ 0 : Nat) : Int)) 10) = 48 + dgB 0 c := by
      rw [dgB_is, grem_10 (by simp; omega) (by simp; omega), gw32_id (by omega) (by omega)]
    rw [e]
    obtain ⟨M2, e2, hE2⟩ := s_spells (c := 48 + dgB 0 c) hE h0 (by omega)
    rw [e2]
    show ∃ M3, F_spellsFile_102 M2 T j p (gdiv ((10 ^ 0 : Nat) : Int) 10) c = some M3 ∧ _
    rw [show gdiv ((10 ^ 0 : Nat) : Int) 10 = 0 by decide, eq_spellsFile_102, if_neg (by decide)]
    exact ⟨M2, rfl, hE2⟩
  | succ k ih =>
    intro M1 t hk hl hE
    obtain ⟨p1, p2⟩ := ten_pow hk
    have hq : 0 ≤ c / ((10 ^ (k + 1) : Nat) : Int) := Int.ediv_nonneg hc.1 (by omega)
    have hq2 : c / ((10 ^ (k + 1) : Nat) : Int) ≤ c := Int.ediv_le_self _ hc.1
    rw [eq_spellsFile_102, if_pos p1, if_pos (by omega), gdiv_nn hc ⟨p1, p2⟩]
    have e : gw32 ((48 : Int) + grem (c / ((10 ^ (k + 1) : Nat) : Int)) 10) = 48 + dgB (k + 1) c := by
      rw [dgB_is, grem_10 hq (by omega), gw32_id (by omega) (by omega)]
    rw [e]
    obtain ⟨M2, e2, hE2⟩ := s_spells (c := 48 + dgB (k + 1) c) hE h0 (by omega)
    rw [e2]
    show ∃ M3, F_spellsFile_102 M2 T j p (gdiv ((10 ^ (k + 1) : Nat) : Int) 10) c = some M3 ∧ _
    have e10 : gdiv ((10 ^ (k + 1) : Nat) : Int) 10 = ((10 ^ k : Nat) : Int) := by
      rw [gdiv_10 (by omega) p2, Nat.pow_succ, Int.natCast_mul]
      exact Int.mul_ediv_cancel _ (by decide)
    rw [e10]
    obtain ⟨M3, e3, hE3⟩ := ih M2 (t ++ [48 + dgB (k + 1) c]) (by omega) (by rw [List.length_append, List.length_singleton]; omega) hE2
    refine ⟨M3, e3, ?_⟩
    have e : t ++ dgS c (k + 1 + 1) = t ++ [48 + dgB (k + 1) c] ++ dgS c (k + 1) := by rw [List.append_assoc]; rfl
    rw [e]
    exact hE3
