-- ==== PATHS and TREES as they can be
theorem pW_mem {a : Int} (h : pW a) : ∃ n : Nat, n ≤ 6 ∧ pNm a = n ∧ ∀ i, i < 6 → (pg a i = 0 ↔ n ≤ i) := pW_nm h
theorem pCov_dg {a b : Int} (ha : pW a) : pCov a b = true ↔ ∀ i : Nat, (i : Int) < pNm a → pg a i = pg b i := by
  obtain ⟨n, hn, hnm, q⟩ := pW_nm ha
  rw [pCov_iff hn q, hnm]
  exact ⟨fun h i hi => h i (by omega), fun h i hi => h i (by omega)⟩
theorem pg_z {a : Int} (ha : pW a) {i : Nat} (hi : i < 6) : pg a i = 0 ↔ pNm a ≤ (i : Int) := by
  obtain ⟨n, hn, hnm, q⟩ := pW_nm ha
  rw [q i hi, hnm]; omega
theorem pCov_le {a b : Int} (ha : pW a) (hb : pW b) (h : pCov a b = true) : pNm a ≤ pNm b := by
  have h1 := (pCov_dg ha).mp h
  have ra := pNm_rng a
  have rb := pNm_rng b
  rcases Int.lt_or_le (pNm b) (pNm a) with z | z
  · exfalso
    have e := h1 (pNm b).toNat (by omega)
    have hz := (pg_z hb (i := (pNm b).toNat) (by omega)).mpr (by omega)
    rw [hz] at e
    have := (pg_z ha (i := (pNm b).toNat) (by omega)).mp e
    omega
  · exact z
theorem pCov_trans {a b c : Int} (ha : pW a) (hb : pW b) (h : pCov a b = true) (h2 : pCov b c = true) : pCov a c = true := by
  have hl := pCov_le ha hb h
  rw [pCov_dg ha] at h ⊢
  rw [pCov_dg hb] at h2
  exact fun i hi => (h i hi).trans (h2 i (by omega))
theorem pCov_cmp {a b c : Int} (ha : pW a) (hb : pW b) (h : pCov a c = true) (h2 : pCov b c = true) : pCov a b = true ∨ pCov b a = true := by
  rw [pCov_dg ha] at h
  rw [pCov_dg hb] at h2
  rcases Int.le_total (pNm a) (pNm b) with z | z
  · exact Or.inl ((pCov_dg ha).mpr (fun i hi => (h i hi).trans (h2 i (by omega)).symm))
  · exact Or.inr ((pCov_dg hb).mpr (fun i hi => (h2 i hi).trans (h i (by omega)).symm))
theorem pCov_anti {a b : Int} (ha : pW a) (hb : pW b) (h : pCov a b = true) (h2 : pCov b a = true) : a = b := by
  have l1 := pCov_le ha hb h
  have l2 := pCov_le hb ha h2
  rw [pCov_dg ha] at h
  refine pg_ext ⟨ha.1, ha.2.1⟩ ⟨hb.1, hb.2.1⟩ (fun i hi => ?_)
  by_cases c : (i : Int) < pNm a
  · exact h i c
  · rw [(pg_z ha hi).mpr (by omega), (pg_z hb hi).mpr (by omega)]
-- ---- places moved
theorem gmask {p : Int} (h : 0 ≤ p) (h2 : p < 2147483648) (s : Int) (k : Nat) (hs : ((Int32.ofInt s &&& 31).toBitVec.smod 32).toNat = k) (hk : k ≤ 30) : gand (gshl p s) 1073741823 = (p * (2 ^ k : Nat)) % 1073741824 := by
  unfold gand gshl
  rw [Int32.ofInt_toInt, pk_and _ 30 (by decide +kernel), gi_nI h, pk_shl _ _ k hs, pk_tn (by omega)]
  have e : p.toNat * 2 ^ k % 2 ^ 32 % 2 ^ 30 = p.toNat * 2 ^ k % 2 ^ 30 := Nat.mod_mod_of_dvd _ (Nat.pow_dvd_pow 2 (by decide))
  rw [e, nI_int (Nat.lt_of_lt_of_le (Nat.mod_lt _ (by decide)) (by decide)), Int.natCast_emod, Int.natCast_mul, Int.toNat_of_nonneg h]
  rfl
theorem s5_all : ∀ i : Nat, i ≤ 6 → ((Int32.ofInt (5 * (i : Int)) &&& 31).toBitVec.smod 32).toNat = 5 * i := by decide +kernel
theorem pg_shl {p : Int} (h : 0 ≤ p ∧ p < 1073741824) {n i : Nat} (hn : n ≤ 6) (hi : i < 6) : pg (p * (2 ^ (5 * n) : Nat) % 1073741824) i = if i + n < 6 then pg p (i + n) else 0 := by
  have hc : n = 0 ∨ n = 1 ∨ n = 2 ∨ n = 3 ∨ n = 4 ∨ n = 5 ∨ n = 6 := by omega
  have hd : i = 0 ∨ i = 1 ∨ i = 2 ∨ i = 3 ∨ i = 4 ∨ i = 5 := by omega
  unfold pg
  rcases hc with rfl | rfl | rfl | rfl | rfl | rfl | rfl <;> rcases hd with rfl | rfl | rfl | rfl | rfl | rfl <;> simp only [Nat.reduceMul, Nat.reduceSub, Nat.reduceAdd, Nat.reducePow, Nat.reduceLT, if_true, if_false] <;> omega
theorem pg_shr {x : Int} (h : 0 ≤ x ∧ x < 1073741824) {m i : Nat} (hm : m ≤ 6) (hi : i < 6) : pg (x / (2 ^ (5 * m) : Nat)) i = if i < m then 0 else pg x (i - m) := by
  have hc : m = 0 ∨ m = 1 ∨ m = 2 ∨ m = 3 ∨ m = 4 ∨ m = 5 ∨ m = 6 := by omega
  have hd : i = 0 ∨ i = 1 ∨ i = 2 ∨ i = 3 ∨ i = 4 ∨ i = 5 := by omega
  unfold pg
  rcases hc with rfl | rfl | rfl | rfl | rfl | rfl | rfl <;> rcases hd with rfl | rfl | rfl | rfl | rfl | rfl <;> simp only [Nat.reduceMul, Nat.reduceSub, Nat.reduceAdd, Nat.reducePow, Nat.reduceLT, if_true, if_false] <;> omega
theorem pW_low {t : Int} (h : pW t) {m : Nat} (hm : pNm t = m) (h6 : m ≤ 6) : t % (2 ^ (30 - 5 * m) : Nat) = 0 := by
  have key : ∀ d : Nat, m + d ≤ 6 → pq t (m + d) = ((2 ^ (5 * d) : Nat) : Int) * pq t m := by
    intro d
    induction d with
    | zero => intro _; simp
    | succ d ih =>
      intro hd
      rw [show m + (d + 1) = (m + d) + 1 by omega, pq_succ t (by omega), ih (by omega), (pg_z h (i := m + d) (by omega)).mpr (by omega), Int.add_zero, ← Int.mul_assoc, show 5 * (d + 1) = 5 + 5 * d by omega, Nat.pow_add, Int.natCast_mul]
      rfl
  have := key (6 - m) (by omega)
  rw [show m + (6 - m) = 6 by omega, pq_six, show 5 * (6 - m) = 30 - 5 * m by omega] at this
  rw [this]
  exact Int.mul_emod_right _ _
theorem pg_add {t y : Int} {m i : Nat} (hm : m ≤ 6) (hi : i < 6) (ht : t % (2 ^ (30 - 5 * m) : Nat) = 0) (h0 : 0 ≤ t) (hy : 0 ≤ y ∧ y < (2 ^ (30 - 5 * m) : Nat)) : pg (t + y) i = if i < m then pg t i else pg y i := by
  have hc : m = 0 ∨ m = 1 ∨ m = 2 ∨ m = 3 ∨ m = 4 ∨ m = 5 ∨ m = 6 := by omega
  have hd : i = 0 ∨ i = 1 ∨ i = 2 ∨ i = 3 ∨ i = 4 ∨ i = 5 := by omega
  unfold pg
  rcases hc with rfl | rfl | rfl | rfl | rfl | rfl | rfl <;> rcases hd with rfl | rfl | rfl | rfl | rfl | rfl <;> simp only [Nat.reduceMul, Nat.reduceSub, Nat.reduceAdd, Nat.reducePow, Nat.reduceLT, if_true, if_false] at ht hy ⊢ <;> omega
/-- a place put for another one, when that can be -/
theorem pMov_at {p f t : Int} (hp : pW p) (hf : pW f) (ht : pW t) (hc : pCov f p = true) (h1 : 1 ≤ pNm t + pNm p - pNm f) (h6 : pNm t + pNm p - pNm f ≤ 6) :
    pMov p f t = gor t (gshr (gand (gshl p (5 * pNm f)) 1073741823) (5 * pNm t)) ∧ 0 ≤ pMov p f t ∧ pMov p f t < 1073741824 ∧ ∀ i : Nat, i < 6 → pg (pMov p f t) i = if (i : Int) < pNm t then pg t i else if (i : Int) - pNm t + pNm f < 6 then pg p ((i : Int) - pNm t + pNm f).toNat else 0 := by
  have rf := pNm_rng f
  have rt := pNm_rng t
  obtain ⟨n, hn⟩ : ∃ n : Nat, pNm f = (n : Int) := ⟨(pNm f).toNat, by omega⟩
  obtain ⟨m, hm⟩ : ∃ m : Nat, pNm t = (m : Int) := ⟨(pNm t).toNat, by omega⟩
  have e0 : pMov p f t = gor t (gushr (gand (gshl p (5 * pNm f)) 1073741823) (5 * pNm t)) := by unfold pMov; rw [if_neg (by omega)]
  have ex : gand (gshl p (5 * pNm f)) 1073741823 = (p * (2 ^ (5 * n) : Nat)) % 1073741824 := by rw [hn]; exact gmask hp.1 (by have := hp.2.1; omega) _ _ (s5_all n (by omega)) (by omega)
  rw [e0, ex]
  generalize hx : (p * (2 ^ (5 * n) : Nat)) % 1073741824 = x
  have hxr : 0 ≤ x ∧ x < 1073741824 := by omega
  have ey1 : gushr x (5 * pNm t) = x / (2 ^ (5 * m) : Nat) := by rw [hm]; exact gushr_div hxr.1 (by omega) _ _ (us5_all m (by omega))
  have ey2 : gshr x (5 * pNm t) = x / (2 ^ (5 * m) : Nat) := by rw [hm]; exact gshr_div hxr.1 (by omega) _ _ (s5_all m (by omega))
  rw [ey1, ey2]
  have hy : 0 ≤ x / (2 ^ (5 * m) : Nat) ∧ x / (2 ^ (5 * m) : Nat) < (2 ^ (30 - 5 * m) : Nat) := by
    refine ⟨Int.ediv_nonneg hxr.1 (Int.natCast_nonneg _), ?_⟩
    refine Int.ediv_lt_of_lt_mul (by have := Nat.pow_pos (n := 5 * m) (show 0 < 2 by decide); omega) ?_
    rw [← Int.natCast_mul, ← Nat.pow_add, show 30 - 5 * m + 5 * m = 30 by omega]
    exact hxr.2
  have hlow := pW_low ht hm (by omega)
  have hle : ((2 ^ (30 - 5 * m) : Nat) : Int) ≤ 1073741824 := by
    have := Nat.pow_le_pow_right (show 0 < 2 by decide) (show 30 - 5 * m ≤ 30 by omega)
    omega
  have ev : gor t (x / (2 ^ (5 * m) : Nat)) = t + x / (2 ^ (5 * m) : Nat) := gor_add (30 - 5 * m) ht.1 hy.1 (by have := ht.2.1; omega) hy.2 (by omega) hlow
  have htm : t + ((2 ^ (30 - 5 * m) : Nat) : Int) ≤ 1073741824 := by
    obtain ⟨q, hq⟩ := Int.dvd_of_emod_eq_zero hlow
    have h30 : (1073741824 : Int) = ((2 ^ (30 - 5 * m) : Nat) : Int) * ((2 ^ (5 * m) : Nat) : Int) := by
      rw [← Int.natCast_mul, ← Nat.pow_add, show 30 - 5 * m + 5 * m = 30 by omega]; rfl
    have hpos : (0 : Int) < ((2 ^ (30 - 5 * m) : Nat) : Int) := by have := Nat.pow_pos (n := 30 - 5 * m) (show 0 < 2 by decide); omega
    have hlt : q < ((2 ^ (5 * m) : Nat) : Int) := by
      have := ht.2.1
      rw [hq, h30] at this
      exact Int.lt_of_mul_lt_mul_left this (by omega)
    rw [h30, hq]
    have := Int.mul_le_mul_of_nonneg_left (show q + 1 ≤ ((2 ^ (5 * m) : Nat) : Int) by omega) (show 0 ≤ ((2 ^ (30 - 5 * m) : Nat) : Int) by omega)
    rw [Int.mul_add, Int.mul_one] at this
    exact this
  rw [ev]
  refine ⟨rfl, by have := ht.1; omega, by omega, fun i hi => ?_⟩
  rw [pg_add (by omega) hi hlow ht.1 hy, hm, hn]
  by_cases c1 : i < m
  · rw [if_pos c1, if_pos (by omega)]
  · rw [if_neg c1, if_neg (by omega), pg_shr hxr (by omega) hi, if_neg c1, ← hx, pg_shl ⟨hp.1, hp.2.1⟩ (by omega) (by omega)]
    by_cases c2 : i - m + n < 6
    · rw [if_pos c2, if_pos (by omega)]; congr 1; omega
    · rw [if_neg c2, if_neg (by omega)]
theorem pMov_W {p f t : Int} (hp : pW p) (hf : pW f) (ht : pW t) (hc : pCov f p = true) (h1 : 1 ≤ pNm t + pNm p - pNm f) (h6 : pNm t + pNm p - pNm f ≤ 6) : pW (pMov p f t) ∧ pNm (pMov p f t) = pNm t + pNm p - pNm f := by
  obtain ⟨-, h0, h30, hg⟩ := pMov_at hp hf ht hc h1 h6
  have rf := pNm_rng f
  have rt := pNm_rng t
  have rp := pNm_rng p
  have q : ∀ i : Nat, i < 6 → (pg (pMov p f t) i = 0 ↔ pNm t + pNm p - pNm f ≤ (i : Int)) := by
    intro i hi
    rw [hg i hi]
    have hle := pCov_le hf hp hc
    by_cases c1 : (i : Int) < pNm t
    · rw [if_pos c1, pg_z ht hi]; omega
    · rw [if_neg c1]
      by_cases c2 : (i : Int) - pNm t + pNm f < 6
      · rw [if_pos c2, pg_z hp (by omega)]; omega
      · rw [if_neg c2]; exact ⟨fun _ => by omega, fun _ => rfl⟩
  refine ⟨⟨h0, h30, fun i hi hz => ?_⟩, ?_⟩
  · have := (q i (by omega)).mp hz
    exact (q (i + 1) (by omega)).mpr (by omega)
  · have := pNm_at (p := pMov p f t) (n := (pNm t + pNm p - pNm f).toNat) (by omega) (fun i hi => by rw [q i hi]; omega)
    rw [this]; omega
/-- one moved is ahead of another one just if it was so -/
theorem pMov_cov {p r f t : Int} (hp : pW p) (hr : pW r) (hf : pW f) (ht : pW t) (hcp : pCov f p = true) (hcr : pCov f r = true) (p1 : 1 ≤ pNm t + pNm p - pNm f) (p6 : pNm t + pNm p - pNm f ≤ 6) (r1 : 1 ≤ pNm t + pNm r - pNm f) (r6 : pNm t + pNm r - pNm f ≤ 6) : pCov (pMov p f t) (pMov r f t) = true ↔ pCov p r = true := by
  obtain ⟨hW, hN⟩ := pMov_W hp hf ht hcp p1 p6
  obtain ⟨-, -, -, gp⟩ := pMov_at hp hf ht hcp p1 p6
  obtain ⟨-, -, -, gr⟩ := pMov_at hr hf ht hcr r1 r6
  have rf := pNm_rng f
  have rt := pNm_rng t
  have rp := pNm_rng p
  have hle := pCov_le hf hp hcp
  have dp := (pCov_dg hf).mp hcp
  have dr := (pCov_dg hf).mp hcr
  rw [pCov_dg hW, pCov_dg hp, hN]
  constructor
  · intro h i hi
    by_cases c : (i : Int) < pNm f
    · exact (dp i c).symm.trans (dr i c)
    · have := h ((i : Int) - pNm f + pNm t).toNat (by omega)
      rw [gp _ (by omega), gr _ (by omega), if_neg (by omega), if_pos (by omega), if_neg (by omega), if_pos (by omega)] at this
      rw [show (((((i : Int) - pNm f + pNm t).toNat : Nat) : Int) - pNm t + pNm f).toNat = i by omega] at this
      exact this
  · intro h i hi
    rw [gp i (by omega), gr i (by omega)]
    by_cases c : (i : Int) < pNm t
    · rw [if_pos c, if_pos c]
    · rw [if_neg c, if_neg c, if_pos (by omega), if_pos (by omega)]
      exact h _ (by omega)
theorem pMov_under {p f t : Int} (hp : pW p) (hf : pW f) (ht : pW t) (hcp : pCov f p = true) (p1 : 1 ≤ pNm t + pNm p - pNm f) (p6 : pNm t + pNm p - pNm f ≤ 6) : pCov t (pMov p f t) = true := by
  obtain ⟨-, -, -, gp⟩ := pMov_at hp hf ht hcp p1 p6
  have rt := pNm_rng t
  exact (pCov_dg ht).mpr (fun i hi => by rw [gp i (by omega), if_pos hi])
-- ---- TREES
/-- no FILE is at a BEGINNING of another one -/
def tPf (fs : List gF) : Prop := ∀ f ∈ fs, ∀ g ∈ fs, pCov f.1 g.1 = true → f.1 = g.1
def tGd (fs : List gF) : Prop := tSrt fs ∧ tPf fs ∧ tW fs
theorem tGd_nil : tGd [] := by
  refine ⟨List.Pairwise.nil, ?_, ?_⟩ <;> (intro f hf; cases hf)
theorem tGd_fil {fs : List gF} (h : tGd fs) (p : gF → Bool) : tGd (fs.filter p) :=
  ⟨List.Pairwise.filter _ h.1, fun f hf g hg => h.2.1 f (List.mem_filter.mp hf).1 g (List.mem_filter.mp hg).1, fun f hf => h.2.2 f (List.mem_filter.mp hf).1⟩
theorem tGd_put {fs : List gF} {w c : Int} (h : tGd fs) (hw : pW w) (hc : 10 ≤ c ∧ c < 2000000) (h1 : ∀ f ∈ fs, pCov f.1 w = true → f.1 = w) (h2 : ∀ f ∈ fs, pCov w f.1 = true → f.1 = w) : tGd (tPut w c fs) := by
  refine ⟨tPut_srt w c h.1, fun f hf g hg hfg => ?_, fun f hf => ?_⟩
  · rcases tPut_mem hf with rfl | hf
    · rcases tPut_mem hg with rfl | hg
      · rfl
      · exact (h2 g hg hfg).symm
    · rcases tPut_mem hg with rfl | hg
      · exact h1 f hf hfg
      · exact h.2.1 f hf g hg hfg
  · rcases tPut_mem hf with rfl | hf
    · exact ⟨hw, hc⟩
    · exact h.2.2 f hf
theorem tFolder_iff {w : Int} : ∀ {fs : List gF}, tFolder w fs = true ↔ ∃ f ∈ fs, f.1 ≠ w ∧ pCov w f.1 = true
  | [] => by simp [tFolder]
  | f :: r => by
    have ih := tFolder_iff (w := w) (fs := r)
    unfold tFolder
    by_cases h : f.1 = w
    · rw [if_pos h, ih]
      constructor
      · rintro ⟨g, hg, z⟩; exact ⟨g, List.mem_cons_of_mem _ hg, z⟩
      · rintro ⟨g, hg, z1, z2⟩
        rcases List.mem_cons.mp hg with e | e
        · rw [e] at z1; exact absurd h z1
        · exact ⟨g, e, z1, z2⟩
    · rw [if_neg h]
      by_cases hc : pCov w f.1 = true
      · rw [if_pos hc]; exact ⟨fun _ => ⟨f, List.mem_cons_self, h, hc⟩, fun _ => rfl⟩
      · rw [if_neg hc, ih]
        constructor
        · rintro ⟨g, hg, z⟩; exact ⟨g, List.mem_cons_of_mem _ hg, z⟩
        · rintro ⟨g, hg, z1, z2⟩
          rcases List.mem_cons.mp hg with e | e
          · rw [e] at z2; exact absurd z2 hc
          · exact ⟨g, e, z1, z2⟩
theorem tAhead_iff {w : Int} : ∀ {fs : List gF}, tAhead w fs = true ↔ ∃ f ∈ fs, f.1 ≠ w ∧ pCov f.1 w = true
  | [] => by simp [tAhead]
  | f :: r => by
    have ih := tAhead_iff (w := w) (fs := r)
    unfold tAhead
    by_cases h : f.1 = w
    · rw [if_pos h, ih]
      constructor
      · rintro ⟨g, hg, z⟩; exact ⟨g, List.mem_cons_of_mem _ hg, z⟩
      · rintro ⟨g, hg, z1, z2⟩
        rcases List.mem_cons.mp hg with e | e
        · rw [e] at z1; exact absurd h z1
        · exact ⟨g, e, z1, z2⟩
    · rw [if_neg h]
      by_cases hc : pCov f.1 w = true
      · rw [if_pos hc]; exact ⟨fun _ => ⟨f, List.mem_cons_self, h, hc⟩, fun _ => rfl⟩
      · rw [if_neg hc, ih]
        constructor
        · rintro ⟨g, hg, z⟩; exact ⟨g, List.mem_cons_of_mem _ hg, z⟩
        · rintro ⟨g, hg, z1, z2⟩
          rcases List.mem_cons.mp hg with e | e
          · rw [e] at z2; exact absurd z2 hc
          · exact ⟨g, e, z1, z2⟩
theorem tCnt_zero {w : Int} : ∀ {fs : List gF}, tCnt w fs = 0 ↔ ∀ f ∈ fs, pCov w f.1 = false
  | [] => ⟨fun _ f hf => (by cases hf), fun _ => rfl⟩
  | f :: r => by
    have ih := tCnt_zero (w := w) (fs := r)
    have hr := tCnt_rng w r
    rw [tCnt]
    cases hc : pCov w f.1 with
    | true => exact ⟨fun h => by rw [show bI true = 1 from rfl] at h; omega, fun h => by rw [h f List.mem_cons_self] at hc; cases hc⟩
    | false =>
      rw [bI, if_neg (by decide), Int.zero_add, ih]
      exact ⟨fun h g hg => by
        rcases List.mem_cons.mp hg with e | e
        · rw [e]; exact hc
        · exact h g e, fun h g hg => h g (List.mem_cons_of_mem _ hg)⟩
theorem tFind_no {w : Int} {fs : List gF} : tFind w fs 0 = -1 ↔ ∀ f ∈ fs, f.1 ≠ w := by
  rcases tFind_spec w fs 0 (by decide) with ⟨a, -, c⟩ | ⟨j, f, a, b, c, -⟩
  · exact ⟨fun _ => c, fun _ => a⟩
  · refine ⟨fun h => by omega, fun h => absurd b (h f (List.mem_of_getElem? a))⟩
theorem tKind_zero {w : Int} {fs : List gF} : tKind w fs = 0 ↔ tCnt w fs = 0 := by
  unfold tKind
  have hr := tCnt_rng w fs
  by_cases h : tFind w fs 0 = -1
  · rw [if_pos h]; split <;> omega
  · rw [if_neg h]
    refine ⟨fun z => by omega, fun z => ?_⟩
    exact absurd (tFind_no.mpr (fun f hf e => by have := tCnt_zero.mp z f hf; rw [e, pCov_self] at this; cases this)) h
theorem dPutF_gd {fs : List gF} {w c : Int} (h : tGd fs) (hw : pW w) (hc : 10 ≤ c ∧ c < 2000000) : tGd (dPutF w c fs).2 := by
  unfold dPutF
  split
  · exact h
  · rename_i h1
    split
    · exact h
    · refine tGd_put h hw hc (fun f hf z => ?_) (fun f hf z => ?_)
      · rcases Classical.em (f.1 = w) with e | e
        · exact e
        · exact absurd (Or.inr (tAhead_iff.mpr ⟨f, hf, e, z⟩)) h1
      · rcases Classical.em (f.1 = w) with e | e
        · exact e
        · exact absurd (Or.inl (tFolder_iff.mpr ⟨f, hf, e, z⟩)) h1
