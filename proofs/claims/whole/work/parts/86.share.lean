-- ==== share on both sides
def shV (pl : kP) (n : Nat) : Int := if cnt (plS pl 8) n = 0 then 0 else ((gU64 (dbQ (cnt (plS pl 9) n).toNat (cnt (plS pl 8) n).toNat)).toInt64).toInt
def aShare (z : aS) (p : Int) : Int := if 0 ≤ p ∧ p ≤ 3 then (if (aPl z p).2.1 0 = 0 then -3 else shV (aPl z p) (aCs z).length) else -1
theorem cnt_le {f g : Nat → Bool} (h : ∀ k, f k = true → g k = true) : ∀ n : Nat, cnt f n ≤ cnt g n
  | 0 => Int.le_refl _
  | n + 1 => by
    have := cnt_le h n
    cases hf : f n with
    | true => rw [cnt_T hf, cnt_T (h n hf)]; omega
    | false =>
      rw [cnt_F hf]
      cases hg : g n with
      | true => rw [cnt_T hg]; omega
      | false => rw [cnt_F hg]; exact this
theorem plS_9 {pl : kP} {k : Nat} (h : plS pl 9 k = true) : plS pl 8 k = true := by
  unfold plS at *
  have := of_decide_eq_true h
  exact decide_eq_true (by omega)
theorem dbZ : ∀ m : Nat, m < 121 → ((Op.cmpValue (FP.dcmp (gU64 (gdb (FP.i2d (Int32.ofInt (m : Int))))) (gU64 (gdb FP.dconst0))) .l).toInt = 0 ↔ m = 0) := by decide +kernel
theorem s_dbits {x : Int} (h : (Op.cmpValue (FP.dcmp (gU64 x) (gU64 x)) .l).toInt = 0) : F_dbits x = some (((gU64 x).toInt64).toInt) := by
  rw [eq_dbits]
  have e : F_isNaNd x = some 0 := by rw [eq_isNaNd, if_pos h]
  rw [gI_bb e, if_pos rfl]
theorem db00 : (Op.cmpValue (FP.dcmp (gU64 (gdb FP.dconst0)) (gU64 (gdb FP.dconst0))) .l).toInt = 0 ∧ ((gU64 (gdb FP.dconst0)).toInt64).toInt = 0 := by decide +kernel
theorem s_share {M : gM} {z : aS} {p : Int} (hz : uSt M z) (hG : ∀ p : Int, 0 ≤ p → p < 4 → plGd (aPl z p)) (hT : ∀ p : Int, 0 ≤ p → p < 4 → plTop (aCs z).length (aPl z p)) : F_share M p = some (aShare z p) := by
  have hl9 := hz.1.2.1
  unfold aShare
  rw [eq_share, gI_bb (s_isPlan p)]
  by_cases q1 : 0 ≤ p ∧ p ≤ 3
  · have hU := hz.2.2.2.1 p q1.1 (by omega)
    have hg := hG p q1.1 (by omega)
    have ht := hT p q1.1 (by omega)
    rw [decide_eq_true q1, if_neg bIt, gI_bb (s_isToldPlan hU q1), if_pos q1]
    by_cases q2 : (aPl z p).2.1 0 = 0
    · rw [if_pos q2, if_pos q2]
    · have h1 : (aPl z p).2.1 0 = 1 := hg.1.resolve_left q2
      rw [if_neg q2, if_neg q2]
      have m8 : F_mapped M p (-1) = some (cnt (plS (aPl z p) 8) (aCs z).length) := s_mapped hU q1 h1 hg ht hl9 (by decide)
      have m9 : F_mapped M p 0 = some (cnt (plS (aPl z p) 9) (aCs z).length) := s_mapped hU q1 h1 hg ht hl9 (by decide)
      rw [gI_bb m8]
      unfold shV
      have r8 := cnt_rng (plS (aPl z p) 8) (aCs z).length
      have r9 := cnt_rng (plS (aPl z p) 9) (aCs z).length
      have le := cnt_le (f := plS (aPl z p) 9) (g := plS (aPl z p) 8) (fun k h => plS_9 h) (aCs z).length
      obtain ⟨m, hm⟩ : ∃ m : Nat, cnt (plS (aPl z p) 8) (aCs z).length = (m : Int) := ⟨(cnt (plS (aPl z p) 8) (aCs z).length).toNat, by omega⟩
      obtain ⟨n, hn⟩ : ∃ n : Nat, cnt (plS (aPl z p) 9) (aCs z).length = (n : Int) := ⟨(cnt (plS (aPl z p) 9) (aCs z).length).toNat, by omega⟩
      rw [hm]
      rw [hm] at r8 le
      rw [hn] at r9 le
      by_cases m0 : m = 0
      · rw [if_pos ((dbZ m (by omega)).mpr m0), if_pos (show (m : Int) = 0 by omega), gI_bb (s_dbits db00.1), db00.2]
      · rw [if_neg (fun w => m0 ((dbZ m (by omega)).mp w)), if_neg (show ¬ (m : Int) = 0 by omega), gI_bb m9, hn, Int.toNat_natCast, Int.toNat_natCast]
        have hk : dbK n m = true := by
          by_cases n0 : n = 0
          · rw [n0]; exact ((dbT0 m (by omega)).resolve_left m0).1
          · have := dbT (n := n) (m := m) (by omega) (by omega) (by omega)
            unfold dbC at this
            exact (Bool.and_eq_true _ _ ▸ (Bool.and_eq_true _ _ ▸ this : (dbK n m && _) = true ∧ _).1 : dbK n m = true ∧ _).1
        unfold dbK at hk
        have hk2 := (Bool.and_eq_true _ _ ▸ hk : _ = true ∧ _ = true)
        rw [if_pos (of_decide_eq_true hk2.1)]
        have := s_dbits (of_decide_eq_true hk2.2)
        rw [gI_bb (show F_dbits (gdb (FP.ddiv (gU64 (gdb (FP.i2d (Int32.ofInt (n : Int))))) (gU64 (gdb (FP.i2d (Int32.ofInt (m : Int))))))) = some (((gU64 (dbQ n m)).toInt64).toInt) from this)]
  · rw [decide_eq_false q1, if_pos bIf, if_neg q1]
theorem sp_X11_doubleBits {sh : gS} {M : gM} {x v : Int} {n : Nat} (hOK : gOK sh M) (h0 : (0 : Int) < (Op.cmpValue (FP.dcmp (gU64 x) (gU64 (gdb FP.dconst0))) .g).toInt) (h : dbL n x 1023 = some v) (hn : n ≤ 1000) : gC (gr 0 0) yX11_doubleBits cX11_doubleBits 7 (some (.long)) [(3, x)] sh M (gPp sh M (1, v)) := by
  have lp : ∀ (n : Nat) (y e s : Int), dbL n y e = some v → 0 ≤ s → s + (n : Int) ≤ 1000 → P_X11_doubleBits_18 sh (gPp sh M (1, v)) x y e s M := by
    intro n
    induction n with
    | zero => intro y e s h; cases h
    | succ n ih =>
      intro y e s h s0 s1
      rw [dbL] at h
      refine w_X11_doubleBits_18 hOK ?_
      rw [if_pos (by omega)]
      by_cases q : (Op.cmpValue (FP.dcmp (gU64 y) (gU64 (gdb FP.dconst1))) .g).toInt < 0
      · rw [if_pos q]; rw [if_pos q] at h
        by_cases g : FP.dmul (gU64 y) (gU64 (gdb 4611686018427387904)) &&& 0x7fffffffffffffff ≤ (0x7ff0000000000000 : UInt64)
        · rw [if_pos g] at h
          refine ⟨g, ?_⟩
          rw [gw32_id (by omega) (by omega)]
          exact ih _ _ (s + 1) h (by omega) (by omega)
        · rw [if_neg g] at h; cases h
      · rw [if_neg q]; rw [if_neg q] at h
        cases hv : dbV y with
        | false => rw [hv, if_neg (by decide)] at h; cases h
        | true =>
          rw [hv, if_pos rfl] at h
          unfold dbV at hv
          have hv2 := (Bool.and_eq_true _ _ ▸ hv : _ = true ∧ _ = true)
          have g1 := of_decide_eq_true hv2.1
          have g2 := of_decide_eq_true hv2.2
          refine ⟨g1, g2, ?_⟩
          have : dbE y e = v := Option.some.inj h
          exact ⟨by rw [← this]; rfl, rfl, rfl⟩
  refine w_X11_doubleBits hOK ?_
  rw [if_pos h0]
  exact lp n x 1023 0 h (Int.le_refl _) (by omega)
theorem sp_X11_doubleBits0 {sh : gS} {M : gM} {x : Int} (hOK : gOK sh M) (h0 : ¬ (0 : Int) < (Op.cmpValue (FP.dcmp (gU64 x) (gU64 (gdb FP.dconst0))) .g).toInt) : gC (gr 0 0) yX11_doubleBits cX11_doubleBits 7 (some (.long)) [(3, x)] sh M (gPp sh M (1, 0)) := by
  refine w_X11_doubleBits hOK ?_
  rw [if_neg h0]
  exact ⟨rfl, rfl, rfl⟩
theorem sp_X11_share {sh : gS} {M : gM} {z : aS} {p : Int} (hz : cS sh M z) (hG : ∀ p : Int, 0 ≤ p → p < 4 → plGd (aPl z p)) : gC (gr 2 47) yX11_share cX11_share 3 (some (.long)) [(4, 0), (0, p)] sh M (cPo sh M 1 (aShare z p) z) := by
  obtain ⟨hOK, hC, -, -, hPl, -⟩ := id hz
  have hl9 := hC.2.1
  unfold aShare
  refine w_X11_share hOK ⟨_, sp_X11_isPlan hOK, ?_⟩
  by_cases q1 : 0 ≤ p ∧ p ≤ 3
  · rw [decide_eq_true q1, if_neg bIt, if_pos q1]
    have hP := (hPl p q1.1 (by omega)).1
    have e0 : M (519 + 48 * p) 0 = (aPl z p).2.1 0 := hP.2.2.2.1 0 (Or.inl (by decide))
    refine ⟨⟨q1.1, by omega⟩, ⟨hP.1.1, by omega⟩, ?_⟩
    rw [e0]
    by_cases q2 : (aPl z p).2.1 0 = 0
    · rw [if_pos q2, if_pos q2]; exact cPo_same hz rfl
    · rw [if_neg q2, if_neg q2]
      refine ⟨_, sp_X11_mapIs hOK hC hP (by decide), ?_⟩
      unfold shV
      have r8 := cnt_rng (plS (aPl z p) 8) (aCs z).length
      have r9 := cnt_rng (plS (aPl z p) 9) (aCs z).length
      have le := cnt_le (f := plS (aPl z p) 9) (g := plS (aPl z p) 8) (fun k h => plS_9 h) (aCs z).length
      by_cases m0 : cnt (plS (aPl z p) 8) (aCs z).length = 0
      · rw [if_pos m0, if_pos m0]; exact cPo_same hz rfl
      · rw [if_neg m0, if_neg m0]
        refine ⟨_, sp_X11_mapIs hOK hC hP (by decide), ?_⟩
        obtain ⟨m, hm⟩ : ∃ m : Nat, cnt (plS (aPl z p) 8) (aCs z).length = (m : Int) := ⟨(cnt (plS (aPl z p) 8) (aCs z).length).toNat, by omega⟩
        obtain ⟨n, hn⟩ : ∃ n : Nat, cnt (plS (aPl z p) 9) (aCs z).length = (n : Int) := ⟨(cnt (plS (aPl z p) 9) (aCs z).length).toNat, by omega⟩
        rw [hm, hn, Int.toNat_natCast, Int.toNat_natCast]
        rw [hm] at r8 le m0
        rw [hn] at r9 le
        by_cases n0 : n = 0
        · obtain ⟨k1, k2, k3⟩ := (dbT0 m (by omega)).resolve_left (by omega)
          unfold dbK at k1
          have hk2 := (Bool.and_eq_true _ _ ▸ k1 : _ = true ∧ _ = true)
          rw [n0]
          have g1 := of_decide_eq_true hk2.1
          refine ⟨g1, _, sp_X11_doubleBits0 hOK k3, cPo_same hz ?_⟩
          rw [k2]; rfl
        · have := dbT (n := n) (m := m) (by omega) (by omega) (by omega)
          unfold dbC at this
          have t1 := (Bool.and_eq_true _ _ ▸ this : _ = true ∧ _ = true)
          have t2 := (Bool.and_eq_true _ _ ▸ t1.1 : _ = true ∧ _ = true)
          have k1 := t2.1
          unfold dbK at k1
          have hk2 := (Bool.and_eq_true _ _ ▸ k1 : _ = true ∧ _ = true)
          have g1 := of_decide_eq_true hk2.1
          exact ⟨g1, _, sp_X11_doubleBits hOK (of_decide_eq_true t2.2) (of_decide_eq_true t1.2) (by decide), cPo_same hz rfl⟩
  · rw [decide_eq_false q1, if_pos bIf, if_neg q1]; exact cPo_same hz rfl
