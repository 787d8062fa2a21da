-- ==== the reference: feed, HISTORIES as marks, ancestor, line
theorem gshr_byt {x : Int} {k : Nat} (hk : k < 4) : gi2b (gshr x (8 * (k : Int))) = gi2b (gushr x (8 * (k : Int))) := by
  rw [(g255 _).2, (g255 _).2]
  congr 1
  unfold gshr gushr
  rw [Int32.ofInt_toInt, Int32.ofInt_toInt]
  have hc : k = 0 ∨ k = 1 ∨ k = 2 ∨ k = 3 := by omega
  generalize Int32.ofInt x = y
  apply BitVec.eq_of_getLsbD_eq
  intro i hi
  have e1 : ∀ s : Nat, s < 4 → ((Int32.ofInt (8 * (s : Int)) &&& 31).toBitVec.smod 32).toNat = 8 * s := by decide +kernel
  have e2 : ∀ s : Nat, s < 4 → (((Int32.ofInt (8 * (s : Int))).toUInt32 &&& Int32.toUInt32 31).toBitVec % 32).toNat = 8 * s := by decide +kernel
  have a1 : (y >>> (Int32.ofInt (8 * (k : Int)) &&& 31)).toBitVec = y.toBitVec.sshiftRight ((Int32.ofInt (8 * (k : Int)) &&& 31).toBitVec.smod 32).toNat := rfl
  have a2 : ((y.toUInt32 >>> ((Int32.ofInt (8 * (k : Int))).toUInt32 &&& Int32.toUInt32 31)).toInt32).toBitVec = y.toBitVec >>> (((Int32.ofInt (8 * (k : Int))).toUInt32 &&& Int32.toUInt32 31).toBitVec % 32).toNat := by
    show (y.toUInt32 >>> ((Int32.ofInt (8 * (k : Int))).toUInt32 &&& Int32.toUInt32 31)).toBitVec = _
    rw [UInt32.toBitVec_shiftRight]
    rfl
  rw [a1, a2, e1 k hk, e2 k hk, BitVec.getLsbD_setWidth, BitVec.getLsbD_setWidth, BitVec.getLsbD_sshiftRight, BitVec.getLsbD_ushiftRight]
  have h1 : 8 * k + i < 32 := by omega
  simp only [h1, if_true, decide_eq_true hi, Bool.true_and]
  have : ¬ (32 ≤ i) := by omega
  simp [this]
theorem s_types {M : gM} {v : Int} {s : List Int} (hB : uBy M s) (h4 : s.length + 4 ≤ 260) : ∃ M1, F_types M v = some M1 ∧ uBy M1 (s ++ four v) := by
  have lp : ∀ (n : Nat) (t : List Int) (M1 : gM), n ≤ 4 → t.length + n ≤ 260 → uBy M1 t → ∃ M2, F_types_2 M1 v ((n : Int) - 1) = some M2 ∧ uBy M2 (t ++ fourF v n) := by
    intro n
    induction n with
    | zero =>
      intro t M1 _ _ h
      rw [eq_types_2, if_pos (by omega)]
      exact ⟨M1, rfl, by rw [fourF, List.append_nil]; exact h⟩
    | succ n ih =>
      intro t M1 hn ht h
      obtain ⟨b1, b2, b3⟩ := id h
      rw [eq_types_2, if_neg (by omega), b1, if_pos (by omega), show ((n + 1 : Nat) : Int) - 1 = (n : Int) by omega]
      simp (disch := omega) only [gw32_id]
      rw [gU_cel (by decide), b1, gw32_id (by omega) (by omega), i2b_2, gshr_byt (by omega), (i2b_sb _).1]
      have eb : gand (gushr v (8 * (n : Int))) 255 = byt v (3 - n) := by unfold byt; rw [show (24 : Int) - 8 * ((3 - n : Nat) : Int) = 8 * (n : Int) by omega]
      rw [eb]
      have hb := byt_rng v (3 - n)
      have := ih (t ++ [byt v (3 - n)]) (gU (gU M1 726 (t.length : Int) (sb (byt v (3 - n)))) 711 18 ((t.length : Int) + 1)) (by omega) (by simp; omega) ⟨by rw [gU_same]; simp, by simp; omega, fun j c hj => ?_⟩
      · rw [fourF, show (n : Int) + (-1) = (n : Int) - 1 by omega]; simpa using this
      · by_cases hjl : j < t.length
        · rw [List.getElem?_append_left hjl] at hj
          have := b3 j c hj
          rw [gU_cel (by decide), gU_idx (by omega)]
          exact this
        · rw [List.getElem?_append_right (by omega)] at hj
          have hj2 := (List.getElem?_eq_some_iff.mp hj).1
          simp at hj2
          have e : j = t.length := by omega
          subst e
          rw [Nat.sub_self] at hj
          cases hj
          rw [gU_cel (by decide), gU_same]
          exact ⟨hb.1, hb.2, rfl⟩
  rw [eq_types]
  exact lp 4 s M (by decide) h4 hB
theorem four_len (x : Int) : (four x).length = 4 := fourF_len x 4
/-- what `feed` answers, and the tape then -/
def aFeed (s : List Int) (a b c d e : Int) : Int × List Int := if 260 < s.length + 20 then (-1, s) else ((s.length : Int) + 20, ((((s ++ four a) ++ four b) ++ four c) ++ four d) ++ four e)
theorem s_feed {M : gM} {s : List Int} {a b c d e : Int} (hB : uBy M s) : ∃ M1, F_feed M a b c d e = some ((aFeed s a b c d e).1, M1) ∧ uBy M1 (aFeed s a b c d e).2 := by
  have hl := hB.2.1
  rw [eq_feed, hB.1, gw32_id (by omega) (by omega)]
  unfold aFeed
  by_cases h : (260 : Int) < (s.length : Int) + 20
  · rw [if_pos h, if_pos (by omega)]; exact ⟨M, rfl, hB⟩
  · rw [if_neg h, if_neg (by omega)]
    obtain ⟨M1, e1, h1⟩ := s_types (v := a) hB (by omega)
    obtain ⟨M2, e2, h2⟩ := s_types (v := b) h1 (by simp [four_len]; omega)
    obtain ⟨M3, e3, h3⟩ := s_types (v := c) h2 (by simp [four_len]; omega)
    obtain ⟨M4, e4, h4⟩ := s_types (v := d) h3 (by simp [four_len]; omega)
    obtain ⟨M5, e5, h5⟩ := s_types (v := e) h4 (by simp [four_len]; omega)
    rw [gI_bb e1, gI_bb e2, gI_bb e3, gI_bb e4, gI_bb e5, h5.1]
    refine ⟨M5, ?_, h5⟩
    congr 2
    simp only [List.length_append, four_len]
    omega
theorem s_marksHistory {M : gM} {cs : List kC} {R : Int → List rF} {h a : Int} (hC : uC M cs) (hO : kOk cs) (hR : uRs M (cs.length : Int) R) (ha : gRw a) (hh : 0 ≤ h ∧ h < 4) :
    ∃ M1, F_marksHistory M h a = some M1 ∧ uS M1 a (hMark cs (R h)) ∧ ∀ b : Int, b ≠ a → M1 b = M b := by
  have hl9 := hC.2.1
  have h7 := gRw_rng ha
  obtain ⟨hRf, hRg, h8⟩ := hR h hh.1 hh.2
  obtain ⟨M1, e1, hS1, hb1⟩ := s_clears (M := M) ha
  have lp : ∀ (m : Nat) (s : Int) (suf pre : List rF) (M2 : gM), s + (m : Int) = 52 → 0 ≤ s → R h = pre ++ suf → (∀ x ∈ pre, rOrd x < s) → (∀ x ∈ suf, s ≤ rOrd x) → uS M2 a (fun k => pre.any (fun x => decide (k = x.2.2.1.toNat))) → (∀ b : Int, b ≠ a → M2 b = M b) →
      ∃ M3, F_marksHistory_6 M2 h a s = some M3 ∧ uS M3 a (hMark cs (R h)) ∧ ∀ b : Int, b ≠ a → M3 b = M b := by
    intro m
    induction m with
    | zero =>
      intro s suf pre M2 hm s0 e h1 h2 hS hb
      rw [eq_marksHistory_6, if_pos ha, if_neg (by omega)]
      have hsuf : suf = [] := by
        cases suf with
        | nil => rfl
        | cons y r =>
          have a1 := h2 y List.mem_cons_self
          have b1 := rOrd_rng (hRg.2 y (by rw [e]; simp)).1
          omega
      rw [hsuf, List.append_nil] at e
      obtain ⟨M3, e3, hS3, hb3⟩ := s_walksBack (uC_but hC ha hb) hO ha hS
      rw [gI_bb e3]
      refine ⟨M3, rfl, ?_, fun b hb2 => (hb3 b hb2).trans (hb b hb2)⟩
      have : clT cs.length (kAnc cs) (fun k => pre.any (fun x => decide (k = x.2.2.1.toNat))) = hMark cs (R h) := by
        funext j
        rw [Bool.eq_iff_iff, clT_iff, e]
        unfold hMark
        simp only [List.any_eq_true, Bool.or_eq_true, decide_eq_true_eq]
        constructor
        · rintro (⟨x, hx, z⟩ | ⟨k, -, ⟨x, hx, z⟩, w⟩)
          · exact ⟨x, hx, Or.inl z⟩
          · exact ⟨x, hx, Or.inr (by rw [← z]; exact w)⟩
        · rintro ⟨x, hx, z | z⟩
          · exact Or.inl ⟨x, hx, z⟩
          · have := (hRg.2 x (by rw [e]; exact hx)).2.1
            exact Or.inr ⟨x.2.2.1.toNat, by omega, ⟨x, hx, rfl⟩, z⟩
      rw [this] at hS3
      exact hS3
    | succ m ih =>
      intro s suf pre M2 hm s0 e h1 h2 hS hb
      have hq := hRf s s0 (by omega)
      have e7 : M2 727 = M 727 := hb 727 (by rcases ha with rfl | rfl | rfl | rfl | rfl | rfl | rfl <;> decide)
      rw [eq_marksHistory_6, if_pos ha, if_pos (by omega)]
      simp (disch := omega) only [gw32_id]
      rw [if_pos (by omega), e7, hq.1]
      rcases sAt_next hRg e h1 h2 with ⟨a1, b1⟩ | ⟨y, r, rfl, ho, a1, -, c1, d1⟩
      · rw [if_pos a1]
        exact ih (s + 1) suf pre M2 (by omega) (by omega) e (fun x hx => by have := h1 x hx; omega) b1 hS hb
      · have hy := (hRg.2 y (by rw [e]; simp)).2.1
        rw [a1, if_neg (by omega), if_pos (by omega)]
        refine ih (s + 1) r (pre ++ [y]) _ (by omega) (by omega) (app_mid e) (fun x hx => by
          rcases List.mem_append.mp hx with z | z
          · have := h1 x z; omega
          · rw [List.mem_singleton.mp z]; omega) d1 ?_ (fun b hb2 => by rw [gU_cell _ _ _ hb2]; exact hb b hb2)
        have hp := uS_put (k := y.2.2.1.toNat) hS
        rw [show ((y.2.2.1.toNat : Nat) : Int) = y.2.2.1 by omega] at hp
        intro k hk
        rw [hp k hk]
        congr 1
        show _ = (pre ++ [y]).any (fun x => decide (k = x.2.2.1.toNat))
        rw [List.any_append]
        simp
  rw [eq_marksHistory, if_pos ha, gI_bb e1]
  exact lp 52 0 (R h) [] M1 rfl (by decide) rfl (fun x hx => by cases hx) (fun x hx => (rOrd_rng (hRg.2 x hx).1).1) hS1 hb1
def bC (cs : List kC) (k : Int) : Bool := decide (0 ≤ k ∧ k < (cs.length : Int))
theorem s_ancestor {M : gM} {cs : List kC} {j k : Int} (hC : uC M cs) (hO : kOk cs) : ∃ M1, F_ancestor M j k = some ((if bC cs j && bC cs k then bI (kAnc cs k.toNat j.toNat) else -1), M1) ∧ ∀ b : Int, b ≠ 723 → M1 b = M b := by
  rw [eq_ancestor, gI_bb (s_isCommit hC j)]
  unfold bC
  by_cases h1 : 0 ≤ j ∧ j < (cs.length : Int)
  · rw [decide_eq_true h1, if_neg (by decide), gI_bb (s_isCommit hC k)]
    by_cases h2 : 0 ≤ k ∧ k < (cs.length : Int)
    · obtain ⟨M1, e1, hb⟩ := s_isAncestor (j := j.toNat) (k := k.toNat) hC hO (by omega) (by omega)
      rw [show ((j.toNat : Nat) : Int) = j by omega, show ((k.toNat : Nat) : Int) = k by omega] at e1
      rw [decide_eq_true h2, if_neg (by decide), gI_bb e1, Bool.and_true, if_pos rfl]
      refine ⟨M1, ?_, hb⟩
      cases kAnc cs k.toNat j.toNat <;> rfl
    · rw [decide_eq_false h2, if_pos (by decide), Bool.and_false]; exact ⟨M, rfl, fun _ _ => rfl⟩
  · rw [decide_eq_false h1, if_pos (by decide), Bool.false_and]; exact ⟨M, rfl, fun _ _ => rfl⟩
