-- ==== floats: floatBits, fbits, products from 0 to 1
theorem ds_zero {x : Int} (hx : dBs x (dD (2 ^ 23 + 0) (-23))) : FP.dsub (gU64 x) (gU64 (gdb FP.dconst1)) = 0 := by
  show UInt64.ofNat (Jvm.FP.Core.encode dF (Jvm.FP.Core.round dF (Jvm.FP.Core.exactSum (Jvm.FP.Core.decode dF (gU64 x).toNat) (Jvm.FP.Core.negate (Jvm.FP.Core.decode dF (gU64 (gdb FP.dconst1)).toNat))))) = _
  rw [hx, d1]
  decide +kernel
theorem dz_23 : (FP.d2i (gU64 (gdb (FP.dmul (gU64 (gdb (0 : UInt64))) (gU64 (gdb 4710765210229538816)))))).toInt = 0 ∧ (FP.dmul (gU64 (gdb (0 : UInt64))) (gU64 (gdb 4710765210229538816)) &&& 0x7fffffffffffffff ≤ (0x7ff0000000000000 : UInt64)) ∧ ((0 : UInt64) &&& 0x7fffffffffffffff ≤ (0x7ff0000000000000 : UInt64)) := by decide +kernel
theorem sl23 : ((Int32.ofInt 23 &&& 31).toBitVec.smod 32).toNat = 23 := by decide +kernel
theorem sp_X11_floatBits {sh : gS} {M : gM} {x : Int} {n : Nat} (hOK : gOK sh M) (hx : f01 x n) : gC (gr 0 0) yX11_floatBits cX11_floatBits 5 (some (.int)) [(2, x)] sh M (gPp sh M (0, (n : Int))) := by
  refine w_X11_floatBits hOK ?_
  by_cases h0 : 0 < n
  · rw [if_pos ((fc_zero hx).mpr h0)]
    obtain ⟨a1, a2⟩ := f2d_is hx h0
    refine ⟨a2, ?_⟩
    obtain ⟨b1, b2, b3, b4⟩ := fM_sp hx.2 h0
    have hn := hx.2
    have hL : (n < 2 ^ 23 ∧ (fM n).log2 ≤ 22 ∧ fM n = n ∧ fK n = -149) ∨ (2 ^ 23 ≤ n ∧ (fM n).log2 = 23 ∧ fM n = 2 ^ 23 + n % 2 ^ 23 ∧ fK n = ((n / 2 ^ 23 : Nat) : Int) - 150) := by
      unfold fM fK
      by_cases c : n < 2 ^ 23
      · rw [if_pos c, if_pos c]
        refine Or.inl ⟨c, ?_, rfl, rfl⟩
        have := (lg_sp h0).1
        have c2 : n.log2 < 23 := (Nat.pow_lt_pow_iff_right (by decide : 1 < 2)).mp (Nat.lt_of_le_of_lt this c)
        omega
      · rw [if_neg c, if_neg c]
        exact Or.inr ⟨by omega, lg_of (by omega) (by omega), rfl, rfl⟩
    have fin : ∀ (s : Nat) (y : Int), s ≤ 126 → dBs y (dD (fM n) (fK n + (s : Int))) → ((n < 2 ^ 23 ∧ s = 126) ∨ (2 ^ 23 ≤ n ∧ s + n / 2 ^ 23 = 127)) → P_X11_floatBits_45 sh (gPp sh M (0, (n : Int))) x y (127 - (s : Int)) (s : Int) M := by
      intro s y hs hy hc
      refine w_X11_floatBits_45 hOK ?_
      have hcmp := dc_one hy b1 (by omega)
      rcases hc with ⟨c1, c2⟩ | ⟨c1, c2⟩
      · rcases hL with ⟨l1, l2, l3, l4⟩ | ⟨l1, -⟩
        · rw [if_pos (hcmp.mpr (by omega))]
          rw [l3, l4, c2] at hy
          obtain ⟨e1, e2⟩ := dm_pow (r := 23) (z := 4710765210229538816) hy d23c h0 (by omega) (by decide) (by decide)
          refine ⟨e2, ?_, rfl, rfl⟩
          have e3 : dBs (gdb (FP.dmul (gU64 y) (gU64 (gdb 4710765210229538816)))) (dD n 0) := e1
          rw [di_T c1 h0 e3]
        · omega
      · rcases hL with ⟨l1, -⟩ | ⟨l1, l2, l3, l4⟩
        · omega
        · rw [if_neg (fun w => by have := hcmp.mp w; omega)]
          rw [l3, l4, show ((n / 2 ^ 23 : Nat) : Int) - 150 + (s : Int) = -23 by omega] at hy
          have hT : n % 2 ^ 23 < 2 ^ 23 := by omega
          obtain ⟨e1, e2, e3⟩ := ds_one hT hy
          refine ⟨e3, ?_⟩
          have sh1 : gshl (127 - (s : Int)) 23 = ((n / 2 ^ 23 : Nat) : Int) * ((2 ^ 23 : Nat) : Int) := by
            rw [show 127 - (s : Int) = ((n / 2 ^ 23 : Nat) : Int) by omega]
            exact gshl_mul (by omega) 23 23 sl23 (by omega)
          by_cases z : n % 2 ^ 23 = 0
          · rw [z] at hy
            rw [ds_zero hy]
            refine ⟨dz_23.2.1, ?_, rfl, rfl⟩
            have ev : ((n / 2 ^ 23 : Nat) : Int) * ((2 ^ 23 : Nat) : Int) + 0 = (n : Int) := by omega
            rw [dz_23.1, sh1, gor_add 23 (by omega) (by decide) (by omega) (by decide) (by decide) (by omega), ev]
          · have hz : 0 < n % 2 ^ 23 := by omega
            obtain ⟨g1, g2⟩ := dm_pow (r := 23) (z := 4710765210229538816) (e2 hz) d23c hz (by omega) (by decide) (by decide)
            refine ⟨g2, ?_, rfl, rfl⟩
            have g3 : dBs (gdb (FP.dmul (gU64 (gdb (FP.dsub (gU64 y) (gU64 (gdb FP.dconst1))))) (gU64 (gdb 4710765210229538816)))) (dD (n % 2 ^ 23) 0) := g1
            have ev : ((n / 2 ^ 23 : Nat) : Int) * ((2 ^ 23 : Nat) : Int) + ((n % 2 ^ 23 : Nat) : Int) = (n : Int) := by omega
            rw [di_T hT hz g3, sh1, gor_add 23 (by omega) (by omega) (by omega) (by omega) (by decide) (by omega), ev]
    have lp : ∀ (r s : Nat) (y : Int), s + r = 126 → dBs y (dD (fM n) (fK n + (s : Int))) → (2 ^ 23 ≤ n → s + n / 2 ^ 23 ≤ 127) → P_X11_floatBits_17 sh (gPp sh M (0, (n : Int))) x y (127 - (s : Int)) (s : Int) M := by
      intro r
      induction r with
      | zero =>
        intro s y hs hy hc
        refine w_X11_floatBits_17 hOK ?_
        rw [if_neg (by omega)]
        refine fin s y (by omega) hy ?_
        by_cases c : n < 2 ^ 23
        · exact Or.inl ⟨c, by omega⟩
        · have := hc (by omega); exact Or.inr ⟨by omega, by omega⟩
      | succ r ih =>
        intro s y hs hy hc
        refine w_X11_floatBits_17 hOK ?_
        rw [if_pos (by omega)]
        have hcmp := dc_one hy b1 (by omega)
        by_cases q : (fM n).log2 + (fK n + (s : Int)) < 0
        · rw [if_pos (hcmp.mpr q)]
          obtain ⟨e1, e2⟩ := dm_pow (r := 1) (z := 4611686018427387904) hy d2c b1 (by omega) (by omega) (by omega)
          refine ⟨e2, ?_⟩
          rw [gw32_id (by omega) (by omega), gw32_id (by omega) (by omega), show 127 - (s : Int) + -1 = 127 - ((s + 1 : Nat) : Int) by omega]
          refine ih (s + 1) _ (by omega) ?_ (fun c => ?_)
          · rw [show fK n + ((s + 1 : Nat) : Int) = fK n + (s : Int) + 1 by omega]; exact e1
          · rcases hL with ⟨l1, -⟩ | ⟨l1, l2, l3, l4⟩ <;> omega
        · rw [if_neg (fun w => q (hcmp.mp w))]
          refine fin s y (by omega) hy ?_
          rcases hL with ⟨l1, l2, l3, l4⟩ | ⟨l1, l2, l3, l4⟩
          · omega
          · have := hc l1; exact Or.inr ⟨l1, by omega⟩
    exact lp 126 0 _ rfl (by rw [show fK n + ((0 : Nat) : Int) = fK n by omega]; exact a1) (fun c => by omega)
  · rw [if_neg (fun w => h0 ((fc_zero hx).mp w))]
    exact ⟨by rw [show n = 0 by omega]; rfl, rfl, rfl⟩
theorem s_fbits {x : Int} {n : Nat} (hx : f01 x n) : F_fbits x = some (n : Int) := by
  have hn := hx.2
  have e : FP.fcmp (gu x) (gu x) = some .eq := by
    show Jvm.FP.Core.order (Jvm.FP.Core.decode Jvm.FP.Core.b32 (gu x).toNat) (Jvm.FP.Core.decode Jvm.FP.Core.b32 (gu x).toNat) = _
    rw [hx.1, fD hx.2]
    show some (compare _ _) = _
    rw [Int.compare_eq_eq.mpr rfl]
  have e2 : F_isNaNf x = some 0 := by rw [eq_isNaNf, e, if_pos (by decide)]
  rw [eq_fbits, gI_bb e2, if_pos rfl]
  congr 1
  show ((gu x).toBitVec).toInt = _
  have h1 : (gu x).toBitVec.toNat = n := hx.1
  rw [BitVec.toInt_eq_toNat_of_lt (by rw [h1]; omega), h1]
theorem vf32 {z : UInt32} (h : z.toNat ≤ 0x3f800000) : z &&& 0x7fffffff ≤ (0x7f800000 : UInt32) := by
  rw [UInt32.le_iff_toNat_le, UInt32.toNat_and]
  exact Nat.le_trans Nat.and_le_left (by show z.toNat ≤ 2139095040; omega)
theorem fM_le {n : Nat} (h : n ≤ 0x3f800000) : fM n ≤ 2 ^ (-(fK n)).toNat ∧ fM n < 2 ^ 24 ∧ -149 ≤ fK n ∧ fK n ≤ -23 := by
  unfold fM fK
  by_cases c : n < 2 ^ 23
  · rw [if_pos c, if_pos c]
    refine ⟨?_, by omega, by decide, by decide⟩
    have : 2 ^ 23 ≤ 2 ^ (-(-149 : Int)).toNat := Nat.pow_le_pow_right (by decide) (by decide)
    omega
  · rw [if_neg c, if_neg c]
    refine ⟨?_, by omega, by omega, by omega⟩
    rw [show (-(((n / 2 ^ 23 : Nat) : Int) - 150)).toNat = 150 - n / 2 ^ 23 by omega]
    by_cases e : n / 2 ^ 23 = 127
    · rw [e]; omega
    · have : 2 ^ 24 ≤ 2 ^ (150 - n / 2 ^ 23) := Nat.pow_le_pow_right (by decide) (by omega)
      omega
theorem rr_le {N : Nat} {e : Int} (h : N ≤ 2 ^ (-e).toNat) (h1 : e ≤ -46) (h2 : -300 ≤ e) : Jvm.FP.Core.encode Jvm.FP.Core.b32 (Jvm.FP.Core.roundRatio Jvm.FP.Core.b32 false N 1 e) ≤ 0x3f800000 := by
  unfold Jvm.FP.Core.roundRatio
  by_cases z : N = 0
  · rw [if_pos z]; decide +kernel
  rw [if_neg z]
  have hN : 0 < N := by omega
  obtain ⟨a, b⟩ := lg_sp hN
  have hle : N.log2 ≤ (-e).toNat := (Nat.pow_le_pow_iff_right (by decide : 1 < 2)).mp (Nat.le_trans a h)
  have hq : Jvm.FP.Core.quantum Jvm.FP.Core.b32 N 1 e = max (-149) ((N.log2 : Int) + e - 23) := by
    unfold Jvm.FP.Core.quantum
    rw [ld_one hN]
    rfl
  rw [hq]
  generalize hqq : max (-149) ((N.log2 : Int) + e - 23) = q
  have q1 : -149 ≤ q := by omega
  have q2 : q ≤ -23 := by omega
  -- the units
  unfold Jvm.FP.Core.roundAt Jvm.FP.Core.unitsNum Jvm.FP.Core.unitsDen
  rw [Nat.one_mul]
  have hc : Jvm.FP.Core.nearest (N * 2 ^ (e - q).toNat) (2 ^ (q - e).toNat) ≤ 2 ^ 24 ∧ (q = -23 → Jvm.FP.Core.nearest (N * 2 ^ (e - q).toNat) (2 ^ (q - e).toNat) = 2 ^ 23) := by
    have lt : N * 2 ^ (e - q).toNat / 2 ^ (q - e).toNat < 2 ^ 24 := by
      rw [Nat.div_lt_iff_lt_mul (Nat.two_pow_pos _)]
      calc N * 2 ^ (e - q).toNat < 2 ^ (N.log2 + 1) * 2 ^ (e - q).toNat := Nat.mul_lt_mul_of_pos_right b (Nat.two_pow_pos _)
        _ = 2 ^ (N.log2 + 1 + (e - q).toNat) := (Nat.pow_add 2 (N.log2 + 1) _).symm
        _ ≤ 2 ^ (24 + (q - e).toNat) := Nat.pow_le_pow_right (by decide) (by omega)
        _ = 2 ^ 24 * 2 ^ (q - e).toNat := Nat.pow_add 2 24 _
    refine ⟨?_, fun h23 => ?_⟩
    · unfold Jvm.FP.Core.nearest
      split
      · omega
      · split
        · omega
        · have : N * 2 ^ (e - q).toNat / 2 ^ (q - e).toNat % 2 < 2 := Nat.mod_lt _ (by decide)
          omega
    · have hl : N.log2 = (-e).toNat := by omega
      have hN2 : N = 2 ^ (-e).toNat := by rw [hl] at a; omega
      rw [show (e - q).toNat = 0 by omega, Nat.pow_zero, Nat.mul_one, hN2, show (-e).toNat = 23 + (q - e).toNat by omega, Nat.pow_add, nr_mul _ _ (Nat.two_pow_pos _)]
  generalize Jvm.FP.Core.nearest (N * 2 ^ (e - q).toNat) (2 ^ (q - e).toNat) = c at hc
  obtain ⟨hc1, hc2⟩ := hc
  have en : ∀ (c : Nat) (q : Int), -149 ≤ q → q ≤ -22 → (c < 2 ^ 24) → (q ≤ -24 ∨ (c ≤ 2 ^ 23 ∧ q ≤ -23)) → Jvm.FP.Core.encode Jvm.FP.Core.b32 (.fin false c q) ≤ 0x3f800000 := fun c q a1 a2 a3 a4 => by
    show (if c < 2 ^ 23 then (0 * 2 ^ 8 + 0) * 2 ^ 23 + c else (0 * 2 ^ 8 + ((q - -149).toNat + 1)) * 2 ^ 23 + (c - 2 ^ 23)) ≤ _
    split
    · omega
    · omega
  unfold Jvm.FP.Core.settle
  by_cases w : c < 2 ^ 24
  · rw [if_pos (show c < 2 ^ Jvm.FP.Core.b32.p from w)]
    unfold Jvm.FP.Core.bound
    rw [if_pos (by show q ≤ (127 : Int) - 24 + 1; omega)]
    refine en c q q1 (by omega) w ?_
    by_cases e23 : q = -23
    · have := hc2 e23; exact Or.inr ⟨by omega, by omega⟩
    · exact Or.inl (by omega)
  · rw [if_neg (show ¬ c < 2 ^ Jvm.FP.Core.b32.p from w)]
    unfold Jvm.FP.Core.bound
    rw [if_pos (by show q + 1 ≤ (127 : Int) - 24 + 1; omega)]
    have ne : q ≠ -23 := fun h => by have := hc2 h; omega
    exact en _ (q + 1) (by omega) (by omega) (by decide) (Or.inr ⟨by decide, by omega⟩)
theorem f01_mul {x y : Int} {n k : Nat} (hx : f01 x n) (hy : f01 y k) : ∃ m : Nat, f01 (gfl (FP.fmul (gu x) (gu y))) m ∧ FP.fmul (gu x) (gu y) &&& 0x7fffffff ≤ (0x7f800000 : UInt32) := by
  obtain ⟨a1, a2, a3, a4⟩ := fM_le hx.2
  obtain ⟨b1, b2, b3, b4⟩ := fM_le hy.2
  have hle : fM n * fM k ≤ 2 ^ (-(fK n + fK k)).toNat := by
    rw [show (-(fK n + fK k)).toNat = (-(fK n)).toNat + (-(fK k)).toNat by omega, Nat.pow_add]
    exact Nat.mul_le_mul a1 b1
  have hr := rr_le (e := fK n + fK k) hle (by omega) (by omega)
  have e : FP.fmul (gu x) (gu y) = UInt32.ofNat (Jvm.FP.Core.encode Jvm.FP.Core.b32 (Jvm.FP.Core.roundRatio Jvm.FP.Core.b32 false (fM n * fM k) 1 (fK n + fK k))) := by
    show UInt32.ofNat (Jvm.FP.Core.encode Jvm.FP.Core.b32 (Jvm.FP.Core.round Jvm.FP.Core.b32 (Jvm.FP.Core.exactProduct (Jvm.FP.Core.decode Jvm.FP.Core.b32 (gu x).toNat) (Jvm.FP.Core.decode Jvm.FP.Core.b32 (gu y).toNat)))) = _
    rw [hx.1, hy.1, fD hx.2, fD hy.2]
    rfl
  generalize Jvm.FP.Core.encode Jvm.FP.Core.b32 (Jvm.FP.Core.roundRatio Jvm.FP.Core.b32 false (fM n * fM k) 1 (fK n + fK k)) = m at e hr
  have hm : (UInt32.ofNat m).toNat = m := by show (BitVec.ofNat 32 m).toNat = m; rw [BitVec.toNat_ofNat]; exact Nat.mod_eq_of_lt (by omega)
  rw [e]
  exact ⟨m, ⟨by rw [gu_gfl]; exact hm, hr⟩, vf32 (by rw [hm]; exact hr)⟩
theorem f01_one : f01 (gfl FP.fconst1) 0x3f800000 := ⟨by decide +kernel, by decide⟩
theorem lkB : ∀ s : Nat, s < 13 → ∀ l : Nat, l < 7 → s < 2 * l ∨ s = 0 ∨ ((gu (lkI (2 * (l : Int)) (s : Int))).toNat ≤ 0x3f800000 ∧ FP.fmul (gu (gfl 1120403456)) (gu (lkI (2 * (l : Int)) (s : Int))) &&& 0x7fffffff ≤ (0x7f800000 : UInt32)) := by decide +kernel
theorem lk_01 {x y : Int} (hx : cRg x) (hy : cRg y) : (∃ n, f01 (lkF x y) n) ∧ FP.fmul (gu (gfl 1120403456)) (gu (lkF x y)) &&& 0x7fffffff ≤ (0x7f800000 : UInt32) := by
  have h1 := dgs_len x
  have h2 := dgs_len y
  have h3 := lc_rng (dgs x) (dgs y)
  have h4 := dgN_pos hx
  unfold lkF
  obtain ⟨l, hl⟩ : ∃ l : Nat, lc (dgs x) (dgs y) = (l : Int) := ⟨(lc (dgs x) (dgs y)).toNat, by omega⟩
  obtain ⟨s, hs⟩ : ∃ s : Nat, dgN 6 x + dgN 6 y = (s : Int) := ⟨(dgN 6 x + dgN 6 y).toNat, by omega⟩
  rw [hl, hs]
  obtain ⟨a, b⟩ := ((lkB s (by omega) l (by omega)).resolve_left (by omega)).resolve_left (by omega)
  exact ⟨⟨_, rfl, a⟩, b⟩
