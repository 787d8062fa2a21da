-- ==== the reference: EMPTY, SKIPPED; what is said
theorem s_isEmptyByItself {M : gM} {cs : List kC} {p : Int} {pl : kP} {k : Nat} {c : kC} (hC : uC M cs) (hO : kOk cs) (hP : uPq M p pl) (hp : 0 ≤ p ∧ p ≤ 3) (hg : plGr pl) (hF : kForeOk cs pl) (hk : cs[k]? = some c) : F_isEmptyByItself M p (k : Int) = some (bI (rEb cs pl k c)) := by
  have hl := uC_len hC hk
  have hT := (hC.2.2 k c hk).2.2.2.2.2.2
  have hfo := hF k c hk
  rw [eq_isEmptyByItself, gI_bb (s_foreMany hC hP hp hg hk)]
  unfold rEb
  cases hfl : kForeL c pl (k : Int) with
  | nil =>
    rw [if_pos (show (([] : List Int).length : Int) = 0 from rfl), if_pos (by omega), hT.2.1]
    by_cases q : kFs c = []
    · rw [q, if_pos (show (([] : List gF).length : Int) = 0 from rfl)]
      show some (1 : Int) = some (bI (decide (([] : List gF) = [])))
      rw [decide_eq_true rfl]; rfl
    · have : (kFs c).length ≠ 0 := fun z => q (List.length_eq_zero_iff.mp z)
      rw [if_neg (by omega)]
      show some (0 : Int) = some (bI (decide (kFs c = [])))
      rw [decide_eq_false q]; rfl
  | cons q r =>
    rw [hfl] at hfo
    have hq := hfo q List.mem_cons_self
    rw [if_neg (show ¬ (((q :: r).length : Nat) : Int) = 0 by rw [List.length_cons]; omega)]
    cases r with
    | nil =>
      have hat : (kForeL c pl (k : Int))[0]? = some q := by rw [hfl]; rfl
      have hfa : F_foreAt M p (k : Int) 0 = some q := s_foreAt hC hO hP hp hk hat
      obtain ⟨n, hn⟩ : ∃ n : Nat, q = (n : Int) := ⟨q.toNat, by omega⟩
      have hnc : cs[n]? = some cs[n] := List.getElem?_eq_getElem (by omega)
      have hTn := (hC.2.2 n _ hnc).2.2.2.2.2.2
      rw [if_pos (show ((([q] : List Int).length : Nat) : Int) = 1 from rfl), gI_bb hfa, hn, gI_bb (s_areLike hTn hT)]
      simp only [Int.toNat_natCast, hnc]
      by_cases z : kFs c = kFs cs[n]
      · rw [decide_eq_true z, decide_eq_true z.symm, if_neg bIt]; rfl
      · rw [decide_eq_false z, decide_eq_false (fun w => z w.symm), if_pos bIf]; rfl
    | cons q2 r2 =>
      rw [if_neg (show ¬ (((q :: q2 :: r2).length : Nat) : Int) = 1 by rw [List.length_cons, List.length_cons]; omega)]
      rfl
theorem s_isEmpty {M : gM} {cs : List kC} {p : Int} {pl : kP} {k : Nat} {c d : kC} (hC : uC M cs) (hO : kOk cs) (hP : uPq M p pl) (hp : 0 ≤ p ∧ p ≤ 3) (hg : plGr pl) (hF : kForeOk cs pl) (hk : cs[k]? = some c) (hK : uKp M (kPs d)) (hT : uT M 121 (kFs d)) (hps : ∀ x ∈ kPs d, 0 ≤ x ∧ x < (cs.length : Int)) : F_isEmpty M p (k : Int) = some (bI (decide (0 < pl.2.1 13) && rBn cs d && (decide (pl.2.1 13 = 2) || !rEb cs pl k c))) := by
  have h12 : M 729 (68 * p + 12) = pl.2.1 13 := hP.1.2.2.2.2.2.1
  have l3 := hK.2.1
  have fin : ∀ g : Bool, F_isEmpty_61 M p (k : Int) (pl.2.1 13) (bI g) = some (bI (decide (0 < pl.2.1 13) && g && (decide (pl.2.1 13 = 2) || !rEb cs pl k c))) := fun g => by
    rw [eq_isEmpty_61]
    cases g with
    | false => rw [if_pos bIf, Bool.and_false, Bool.false_and]; rfl
    | true =>
      rw [if_neg bIt, Bool.and_true]
      by_cases q0 : 0 < pl.2.1 13
      · rw [if_pos q0, decide_eq_true q0, Bool.true_and]
        by_cases q2 : pl.2.1 13 = 2
        · rw [if_pos q2, decide_eq_true q2]; rfl
        · rw [if_neg q2, decide_eq_false q2, Bool.false_or, gI_bb (s_isEmptyByItself hC hO hP hp hg hF hk)]
          cases rEb cs pl k c with
          | true => rfl
          | false => rfl
      · rw [if_neg q0, decide_eq_false q0, Bool.false_and]; rfl
  rw [eq_isEmpty, gI_bb (s_ofPlan hp (by decide)), h12, hK.1, hT.2.1]
  unfold rBn
  cases hpd : kPs d with
  | nil =>
    rw [if_pos (show (([] : List Int).length : Int) = 0 from rfl)]
    by_cases q : kFs d = []
    · rw [q, if_pos (show (([] : List gF).length : Int) = 0 from rfl)]
      have := fin true
      rw [show (decide (([] : List gF) = [])) = true from decide_eq_true rfl]
      exact this
    · have : (kFs d).length ≠ 0 := fun z => q (List.length_eq_zero_iff.mp z)
      rw [if_neg (by omega), decide_eq_false q]
      exact fin false
  | cons x r =>
    rw [hpd] at hK hps
    rw [if_neg (show ¬ (((x :: r).length : Nat) : Int) = 0 by rw [List.length_cons]; omega)]
    cases r with
    | nil =>
      have hx := hps x List.mem_cons_self
      obtain ⟨n, hn⟩ : ∃ n : Nat, x = (n : Int) := ⟨x.toNat, by omega⟩
      have hnc : cs[n]? = some cs[n] := List.getElem?_eq_getElem (by omega)
      have hTn := (hC.2.2 n _ hnc).2.2.2.2.2.2
      have e0 : M 733 0 = x := uKp_at (pre := []) hK rfl
      rw [if_pos (show ((([x] : List Int).length : Nat) : Int) = 1 from rfl), e0, hn, gI_bb (s_areLike hTn hT)]
      simp only [Int.toNat_natCast, hnc]
      by_cases z : kFs cs[n] = kFs d
      · rw [decide_eq_true z, if_neg bIt]; exact fin true
      · rw [decide_eq_false z, if_pos bIf]; exact fin false
    | cons q2 r2 =>
      rw [if_neg (show ¬ (((x :: q2 :: r2).length : Nat) : Int) = 1 by rw [List.length_cons, List.length_cons]; omega)]
      exact fin false
theorem has_all : ∀ a : Nat, a < 1024 → ∀ j : Nat, j < 10 → (gand (gshr (a : Int) (j : Int)) 1 = 1 ↔ gand (gushr (a : Int) (j : Int)) 1 ≠ 0) := by decide +kernel
theorem s_rSk {M : gM} {cs : List kC} {p : Int} {pl : kP} {k : Nat} {c d : kC} (hC : uC M cs) (hO : kOk cs) (hP : uPq M p pl) (hp : 0 ≤ p ∧ p ≤ 3) (hk : cs[k]? = some c) (hK : uKp M (kPs d)) (h10 : 0 ≤ pl.2.1 11 ∧ pl.2.1 11 < 1024) : F_isSkipped M p (k : Int) = some (bI (rSk pl c d)) := by
  have hl := uC_len hC hk
  obtain ⟨-, -, -, -, r5, r6, -⟩ := hC.2.2 k c hk
  have hw := (hO k c hk).1.2.2.2.2.1
  have e10 : M 729 (68 * p + 10) = pl.2.1 11 := hP.1.2.2.2.1
  have e14 : M 729 (68 * p + 14) = pl.2.1 15 := hP.1.2.2.2.2.2.2.2.1
  rw [eq_isSkipped, hK.1]
  unfold rSk
  by_cases q : (kPs d).length ≤ 1
  · have hh := has_all (pl.2.1 11).toNat (by omega) (kWh c).toNat (by omega)
    rw [show (((pl.2.1 11).toNat : Nat) : Int) = pl.2.1 11 by omega, show (((kWh c).toNat : Nat) : Int) = kWh c by omega] at hh
    have hhas : F_has (pl.2.1 11) (kWh c) = some (bI (decide (gand (gushr (pl.2.1 11) (kWh c)) 1 ≠ 0))) := by
      rw [eq_has]
      by_cases q1 : gand (gushr (pl.2.1 11) (kWh c)) 1 ≠ 0
      · rw [if_pos (hh.mpr q1), decide_eq_true q1]; rfl
      · rw [if_neg (fun w => q1 (hh.mp w)), decide_eq_false q1]; rfl
    rw [if_pos (by omega), decide_eq_true q, Bool.and_true, gI_bb (s_ofPlan hp (by decide)), if_pos (by omega), e10, r5, r6, gI_bb hhas]
    cases hq : decide (gand (gushr (pl.2.1 11) (kWh c)) 1 ≠ 0) with
    | true => rw [if_neg bIt, Bool.true_or]; rfl
    | false =>
      rw [if_pos bIf, Bool.false_or, gI_bb (s_ofPlan hp (by decide)), e14]
      by_cases q2 : kHr c < pl.2.1 15
      · rw [if_pos q2, decide_eq_true q2]; rfl
      · rw [if_neg q2, decide_eq_false q2]; rfl
  · rw [if_neg (by omega), decide_eq_false q, Bool.and_false]; rfl
-- ---- what is said
def uM (M : gM) (k : Int) (ms : List Int) : Prop := (0 ≤ k ∧ k < 120) ∧ M 716 k = (ms.length : Int) ∧ rw_ (M 717) (24 * k) ms ∧ ms.length ≤ 24
theorem uM_C {M : gM} {cs : List kC} {k : Nat} {c : kC} (hC : uC M cs) (hO : kOk cs) (hk : cs[k]? = some c) : uM M (k : Int) (kMs c) := by
  have hl := uC_len hC hk
  obtain ⟨-, -, r3, r4, -⟩ := hC.2.2 k c hk
  exact ⟨⟨by omega, by omega⟩, r3, r4, (hO k c hk).1.2.2.1⟩
theorem uM_fr {M M1 : gM} {k : Int} {ms : List Int} (h : uM M k ms) (h6 : M1 716 = M 716) (h7 : M1 717 = M 717) : uM M1 k ms := by
  unfold uM; rw [h6, h7]; exact h
theorem s_saidAt {M : gM} {k : Int} {ms pre suf : List Int} (h : uM M k ms) (e : ms = pre ++ suf) : F_saidAt M k (pre.length : Int) = some (hd suf) := by
  obtain ⟨h1, h2, h3, h4⟩ := h
  have hlen : ms.length = pre.length + suf.length := by rw [e, List.length_append]
  rw [eq_saidAt, if_pos h1, h2]
  cases suf with
  | nil => rw [List.length_nil] at hlen; rw [if_neg (by omega)]; rfl
  | cons c r =>
    rw [List.length_cons] at hlen
    have hc := h3 pre.length c (by rw [e, List.getElem?_append_right (Nat.le_refl _), Nat.sub_self]; rfl)
    rw [if_pos (by omega), gw32_id (z := 24 * k) (by omega) (by omega), gw32_id (by omega) (by omega), if_pos (by omega), hc]; rfl
/-- what is said so far -/
def uY (M : gM) (out : List Int) : Prop := M 711 13 = (out.length : Int) ∧ rw_ (M 722) 0 out
theorem s_says {M : gM} {out : List Int} {c : Int} (h : uY M out) (hl : out.length < 400) : ∃ M1, F_says M c = some M1 ∧ uY M1 (out ++ [c]) := by
  rw [eq_says, h.1, if_pos (by omega), gU_cell _ _ _ (show (711 : Int) ≠ 722 by decide), h.1, gw32_id (by omega) (by omega)]
  refine ⟨_, rfl, by rw [gU_same, List.length_append, List.length_singleton]; omega, ?_⟩
  rw [gU_cell _ _ _ (by decide)]
  refine rw_snoc (rw_congr h.2 (fun q q0 q1 => gU_idx (by omega))) ?_
  rw [Int.zero_add, gU_same]
theorem num_all : ∀ v : Nat, v < 120 → gw32 ((48 : Int) + gdiv (v : Int) 100) = 48 + (v : Int) / 100 ∧ gw32 ((48 : Int) + grem (gdiv (v : Int) 10) 10) = 48 + (v : Int) / 10 % 10 ∧ gw32 ((48 : Int) + grem (v : Int) 10) = 48 + (v : Int) % 10 := by decide +kernel
theorem numS_is (v : Int) : numS v = (if v < 10 then [48 + v % 10] else if v < 100 then [48 + v / 10 % 10, 48 + v % 10] else [48 + v / 10 / 10 % 10, 48 + v / 10 % 10, 48 + v % 10]) := by
  unfold numS
  split
  · rfl
  · split <;> rfl
theorem s_saysNumber {M : gM} {out : List Int} {v : Int} (h : uY M out) (hl : out.length < 390) (hv : 0 ≤ v ∧ v < 120) : ∃ M1, F_saysNumber M v = some M1 ∧ uY M1 (out ++ numS v) := by
  obtain ⟨n1, n2, n3⟩ := num_all v.toNat (by omega)
  rw [show ((v.toNat : Nat) : Int) = v by omega] at n1 n2 n3
  have s17 : ∀ (M : gM) (out : List Int), uY M out → out.length < 395 → ∃ M1, F_saysNumber_17 M v = some M1 ∧ uY M1 (out ++ (if 9 < v then [48 + v / 10 % 10, 48 + v % 10] else [48 + v % 10])) := fun M out h hl => by
    rw [eq_saysNumber_17, n2, n3]
    by_cases q : 9 < v
    · rw [if_pos q, if_pos q]
      obtain ⟨M1, e1, h1⟩ := s_says (c := 48 + v / 10 % 10) h (by omega)
      obtain ⟨M2, e2, h2⟩ := s_says (c := 48 + v % 10) h1 (by rw [List.length_append, List.length_singleton]; omega)
      rw [gI_bb e1, gI_bb e2]
      refine ⟨M2, rfl, ?_⟩
      rw [List.append_assoc] at h2
      exact h2
    · rw [if_neg q, if_neg q]
      obtain ⟨M2, e2, h2⟩ := s_says (c := 48 + v % 10) h (by omega)
      rw [gI_bb e2]
      exact ⟨M2, rfl, h2⟩
  rw [eq_saysNumber, n1, numS_is]
  by_cases q : 99 < v
  · rw [if_pos q, if_neg (by omega), if_neg (by omega)]
    obtain ⟨M1, e1, h1⟩ := s_says (c := 48 + v / 100) h (by omega)
    rw [gI_bb e1]
    obtain ⟨M2, e2, h2⟩ := s17 M1 _ h1 (by rw [List.length_append, List.length_singleton]; omega)
    rw [if_pos (by omega), List.append_assoc] at h2
    refine ⟨M2, e2, ?_⟩
    rw [show 48 + v / 10 / 10 % 10 = 48 + v / 100 by omega]
    exact h2
  · rw [if_neg q]
    obtain ⟨M2, e2, h2⟩ := s17 M out h (by omega)
    refine ⟨M2, e2, ?_⟩
    by_cases q1 : 9 < v
    · rw [if_pos q1] at h2
      rw [if_neg (by omega), if_pos (by omega)]; exact h2
    · rw [if_neg q1] at h2
      rw [if_pos (by omega)]; exact h2
theorem gdiv_nn {a b : Int} (ha : 0 ≤ a ∧ a < 2147483648) (hb : 0 < b ∧ b < 2147483648) : gdiv a b = a / b := by
  have hx : (Int32.ofInt a).toInt = a := gi_int ⟨by show -2147483648 ≤ a; omega, ha.2⟩
  have hy : (Int32.ofInt b).toInt = b := gi_int ⟨by show -2147483648 ≤ b; omega, hb.2⟩
  have q0 : 0 ≤ a / b := Int.ediv_nonneg ha.1 (by omega)
  have q1 : a / b ≤ a := Int.ediv_le_self _ ha.1
  unfold gdiv
  rw [Int32.toInt_div, hx, hy, Int.tdiv_eq_ediv_of_nonneg ha.1, Int.bmod_def]
  generalize a / b = q at *
  simp only [Nat.reducePow]
  omega
theorem grem_32 {x : Int} (h : 0 ≤ x) (h2 : x < 2147483648) : grem x 32 = x % 32 := by
  have hx : (Int32.ofInt x).toInt = x := gi_int ⟨by show -2147483648 ≤ x; omega, h2⟩
  have e := gdiv_nn (a := x) (b := 32) ⟨h, h2⟩ (by decide)
  unfold gdiv at e
  unfold grem
  rw [Int32.toInt_sub, Int32.toInt_mul, e, hx, show (Int32.ofInt 32).toInt = 32 from rfl]
  rw [Int.bmod_def, Int.bmod_def]
  simp only [Nat.reducePow]
  omega
theorem wBits4 (v : Int) : wBits v 4 = if v / 32768 % 32 = 0 then (if v / 1024 % 32 = 0 then (if v / 32 % 32 = 0 then (if v / 1 % 32 = 0 then [] else [96 + v / 1 % 32]) else (96 + v / 32 % 32) :: (if v / 1 % 32 = 0 then [] else [96 + v / 1 % 32])) else (96 + v / 1024 % 32) :: (if v / 32 % 32 = 0 then (if v / 1 % 32 = 0 then [] else [96 + v / 1 % 32]) else (96 + v / 32 % 32) :: (if v / 1 % 32 = 0 then [] else [96 + v / 1 % 32]))) else (96 + v / 32768 % 32) :: (if v / 1024 % 32 = 0 then (if v / 32 % 32 = 0 then (if v / 1 % 32 = 0 then [] else [96 + v / 1 % 32]) else (96 + v / 32 % 32) :: (if v / 1 % 32 = 0 then [] else [96 + v / 1 % 32])) else (96 + v / 1024 % 32) :: (if v / 32 % 32 = 0 then (if v / 1 % 32 = 0 then [] else [96 + v / 1 % 32]) else (96 + v / 32 % 32) :: (if v / 1 % 32 = 0 then [] else [96 + v / 1 % 32]))) := rfl
theorem cdF1 (a : Int) : cdF 0 [a] = a - 96 := by show 32 * 0 + a - 96 = _; omega
theorem cdF2 (a b : Int) : cdF 0 [a, b] = 32 * (a - 96) + b - 96 := by show 32 * (32 * 0 + a - 96) + b - 96 = _; omega
theorem cdF3 (a b c : Int) : cdF 0 [a, b, c] = 32 * (32 * (a - 96) + b - 96) + c - 96 := by show 32 * (32 * (32 * 0 + a - 96) + b - 96) + c - 96 = _; omega
theorem cdF4 (a b c d : Int) : cdF 0 [a, b, c, d] = 32 * (32 * (32 * (a - 96) + b - 96) + c - 96) + d - 96 := by show 32 * (32 * (32 * (32 * 0 + a - 96) + b - 96) + c - 96) + d - 96 = _; omega
theorem s_sl18 {v : Int} (hv : 0 ≤ v ∧ v < 1048576) {by_ : Int} (hb : 0 < by_ ∧ by_ < 2147483648) {rest : List Int} {M : gM} {out : List Int} (h : uY M out) (hl : out.length < 390) (k : ∀ M1, uY M1 (out ++ [96 + v / by_ % 32]) → ∃ M2, F_saysLetters_18 M1 v (by_ / 32) = some M2 ∧ uY M2 (out ++ [96 + v / by_ % 32] ++ rest)) : ∃ M2, F_saysLetters_18 M v by_ = some M2 ∧ uY M2 (out ++ (96 + v / by_ % 32) :: rest) := by
  have q0 : 0 ≤ v / by_ := Int.ediv_nonneg hv.1 (by omega)
  have q1 : v / by_ ≤ v := Int.ediv_le_self _ hv.1
  rw [eq_saysLetters_18, if_pos hb.1, if_pos (by omega), gdiv_nn (a := v) (b := by_) ⟨hv.1, by omega⟩ hb, grem_32 q0 (by omega), gdiv_nn (a := by_) (b := 32) ⟨by omega, hb.2⟩ (by decide)]
  generalize v / by_ = q at *
  rw [gw32_id (by omega) (by omega)]
  obtain ⟨M1, e1, h1⟩ := s_says (c := 96 + q % 32) h (by omega)
  rw [gI_bb e1]
  obtain ⟨M2, e2, h2⟩ := k M1 h1
  exact ⟨M2, e2, by rw [List.append_assoc] at h2; exact h2⟩
theorem s_saysLetters {M : gM} {out : List Int} {v : Int} (h : uY M out) (hl : out.length < 380) (hv : wRg v) : ∃ M1, F_saysLetters M v = some M1 ∧ uY M1 (out ++ wBits v 4) := by
  have hr := wRg_rng hv
  have z18 : ∀ (M : gM) (out : List Int), uY M out → ∃ M2, F_saysLetters_18 M v (1 / 32) = some M2 ∧ uY M2 (out ++ []) := fun M out h => by
    rw [eq_saysLetters_18, if_neg (by decide), List.append_nil]; exact ⟨M, rfl, h⟩
  have s0 : ∀ (M : gM) (out : List Int), uY M out → out.length < 390 → ∃ M2, F_saysLetters_18 M v 1 = some M2 ∧ uY M2 (out ++ [96 + v / 1 % 32]) := fun M out h hl =>
    s_sl18 hr (by decide) h hl (fun M1 h1 => z18 M1 _ h1)
  have s1 : ∀ (M : gM) (out : List Int), uY M out → out.length < 389 → ∃ M2, F_saysLetters_18 M v 32 = some M2 ∧ uY M2 (out ++ [96 + v / 32 % 32, 96 + v / 1 % 32]) := fun M out h hl =>
    s_sl18 hr (by decide) h (by omega) (fun M1 h1 => s0 M1 _ h1 (by rw [List.length_append, List.length_singleton]; omega))
  have s2 : ∀ (M : gM) (out : List Int), uY M out → out.length < 388 → ∃ M2, F_saysLetters_18 M v 1024 = some M2 ∧ uY M2 (out ++ [96 + v / 1024 % 32, 96 + v / 32 % 32, 96 + v / 1 % 32]) := fun M out h hl =>
    s_sl18 hr (by decide) h (by omega) (fun M1 h1 => s1 M1 _ h1 (by rw [List.length_append, List.length_singleton]; omega))
  have s3 : ∀ (M : gM) (out : List Int), uY M out → out.length < 387 → ∃ M2, F_saysLetters_18 M v 32768 = some M2 ∧ uY M2 (out ++ [96 + v / 32768 % 32, 96 + v / 1024 % 32, 96 + v / 32 % 32, 96 + v / 1 % 32]) := fun M out h hl =>
    s_sl18 hr (by decide) h (by omega) (fun M1 h1 => s2 M1 _ h1 (by rw [List.length_append, List.length_singleton]; omega))
  have b1 : ∀ x : Int, 31 < v / 1 → F_saysLetters M v = F_saysLetters_2 M v 32 := fun _ hx => by
    rw [eq_saysLetters, eq_saysLetters_2, if_pos (by decide), gdiv_nn (a := v) (b := 1) ⟨hr.1, by omega⟩ (by decide), if_pos hx, gw32_id (by decide) (by decide)]; rfl
  have b2 : 31 < v / 32 → F_saysLetters_2 M v 32 = F_saysLetters_2 M v 1024 := fun hx => by
    rw [eq_saysLetters_2, if_pos (by decide), gdiv_nn (a := v) (b := 32) ⟨hr.1, by omega⟩ (by decide), if_pos hx, gw32_id (by decide) (by decide)]; rfl
  have b3 : 31 < v / 1024 → F_saysLetters_2 M v 1024 = F_saysLetters_2 M v 32768 := fun hx => by
    rw [eq_saysLetters_2, if_pos (by decide), gdiv_nn (a := v) (b := 1024) ⟨hr.1, by omega⟩ (by decide), if_pos hx, gw32_id (by decide) (by decide)]; rfl
  rw [wBits4]
  obtain ⟨w, hw, w1, w4, rfl⟩ := hv
  match w, hw, w1, w4 with
  | [a], hw, _, _ =>
    have ha := hw a (by simp)
    rw [cdF1] at *
    rw [if_pos (by omega), if_pos (by omega), if_pos (by omega), if_neg (by omega), eq_saysLetters, eq_saysLetters_2, if_pos (by decide), gdiv_nn (by omega) (by decide), if_neg (by omega)]
    exact s0 M out h (by omega)
  | [a, b], hw, _, _ =>
    have ha := hw a (by simp)
    have hb := hw b (by simp)
    rw [cdF2] at *
    rw [if_pos (by omega), if_pos (by omega), if_neg (by omega), if_neg (by omega), b1 0 (by omega), eq_saysLetters_2, if_pos (by decide), gdiv_nn (by omega) (by decide), if_neg (by omega)]
    exact s1 M out h (by omega)
  | [a, b, c], hw, _, _ =>
    have ha := hw a (by simp)
    have hb := hw b (by simp)
    have hc := hw c (by simp)
    rw [cdF3] at *
    rw [if_pos (by omega), if_neg (by omega), if_neg (by omega), if_neg (by omega), b1 0 (by omega), b2 (by omega), eq_saysLetters_2, if_pos (by decide), gdiv_nn (by omega) (by decide), if_neg (by omega)]
    exact s2 M out h (by omega)
  | [a, b, c, d], hw, _, _ =>
    have ha := hw a (by simp)
    have hb := hw b (by simp)
    have hc := hw c (by simp)
    have hd := hw d (by simp)
    rw [cdF4] at *
    rw [if_neg (by omega), if_neg (by omega), if_neg (by omega), if_neg (by omega), b1 0 (by omega), b2 (by omega), b3 (by omega), eq_saysLetters_2, if_pos (by decide), gdiv_nn (by omega) (by decide), if_neg (by omega)]
    exact s3 M out h (by omega)
