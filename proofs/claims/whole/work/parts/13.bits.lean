-- ==== how many bits a long has
theorem dJ13_bitCount_95d88_0 : decode cJ13_bitCount_95d88 0 = .ok (.lload_n 0, 1) := by decide +kernel
theorem dJ13_bitCount_95d88_1 : decode cJ13_bitCount_95d88 1 = .ok (.lload_n 0, 1) := by decide +kernel
theorem dJ13_bitCount_95d88_2 : decode cJ13_bitCount_95d88 2 = .ok (.iconst 1, 1) := by decide +kernel
theorem dJ13_bitCount_95d88_3 : decode cJ13_bitCount_95d88 3 = .ok (.lushr, 1) := by decide +kernel
theorem dJ13_bitCount_95d88_4 : decode cJ13_bitCount_95d88 4 = .ok (.ldc2_w 314, 3) := by decide +kernel
theorem dJ13_bitCount_95d88_7 : decode cJ13_bitCount_95d88 7 = .ok (.land, 1) := by decide +kernel
theorem dJ13_bitCount_95d88_8 : decode cJ13_bitCount_95d88 8 = .ok (.lsub, 1) := by decide +kernel
theorem dJ13_bitCount_95d88_9 : decode cJ13_bitCount_95d88 9 = .ok (.lstore_n 0, 1) := by decide +kernel
theorem dJ13_bitCount_95d88_10 : decode cJ13_bitCount_95d88 10 = .ok (.lload_n 0, 1) := by decide +kernel
theorem dJ13_bitCount_95d88_11 : decode cJ13_bitCount_95d88 11 = .ok (.ldc2_w 316, 3) := by decide +kernel
theorem dJ13_bitCount_95d88_14 : decode cJ13_bitCount_95d88 14 = .ok (.land, 1) := by decide +kernel
theorem dJ13_bitCount_95d88_15 : decode cJ13_bitCount_95d88 15 = .ok (.lload_n 0, 1) := by decide +kernel
theorem dJ13_bitCount_95d88_16 : decode cJ13_bitCount_95d88 16 = .ok (.iconst 2, 1) := by decide +kernel
theorem dJ13_bitCount_95d88_17 : decode cJ13_bitCount_95d88 17 = .ok (.lushr, 1) := by decide +kernel
theorem dJ13_bitCount_95d88_18 : decode cJ13_bitCount_95d88 18 = .ok (.ldc2_w 316, 3) := by decide +kernel
theorem dJ13_bitCount_95d88_21 : decode cJ13_bitCount_95d88 21 = .ok (.land, 1) := by decide +kernel
theorem dJ13_bitCount_95d88_22 : decode cJ13_bitCount_95d88 22 = .ok (.ladd, 1) := by decide +kernel
theorem dJ13_bitCount_95d88_23 : decode cJ13_bitCount_95d88 23 = .ok (.lstore_n 0, 1) := by decide +kernel
theorem dJ13_bitCount_95d88_24 : decode cJ13_bitCount_95d88 24 = .ok (.lload_n 0, 1) := by decide +kernel
theorem dJ13_bitCount_95d88_25 : decode cJ13_bitCount_95d88 25 = .ok (.lload_n 0, 1) := by decide +kernel
theorem dJ13_bitCount_95d88_26 : decode cJ13_bitCount_95d88 26 = .ok (.iconst 4, 1) := by decide +kernel
theorem dJ13_bitCount_95d88_27 : decode cJ13_bitCount_95d88 27 = .ok (.lushr, 1) := by decide +kernel
theorem dJ13_bitCount_95d88_28 : decode cJ13_bitCount_95d88 28 = .ok (.ladd, 1) := by decide +kernel
theorem dJ13_bitCount_95d88_29 : decode cJ13_bitCount_95d88 29 = .ok (.ldc2_w 318, 3) := by decide +kernel
theorem dJ13_bitCount_95d88_32 : decode cJ13_bitCount_95d88 32 = .ok (.land, 1) := by decide +kernel
theorem dJ13_bitCount_95d88_33 : decode cJ13_bitCount_95d88 33 = .ok (.lstore_n 0, 1) := by decide +kernel
theorem dJ13_bitCount_95d88_34 : decode cJ13_bitCount_95d88 34 = .ok (.lload_n 0, 1) := by decide +kernel
theorem dJ13_bitCount_95d88_35 : decode cJ13_bitCount_95d88 35 = .ok (.lload_n 0, 1) := by decide +kernel
theorem dJ13_bitCount_95d88_36 : decode cJ13_bitCount_95d88 36 = .ok (.bipush 8, 2) := by decide +kernel
theorem dJ13_bitCount_95d88_38 : decode cJ13_bitCount_95d88 38 = .ok (.lushr, 1) := by decide +kernel
theorem dJ13_bitCount_95d88_39 : decode cJ13_bitCount_95d88 39 = .ok (.ladd, 1) := by decide +kernel
theorem dJ13_bitCount_95d88_40 : decode cJ13_bitCount_95d88 40 = .ok (.lstore_n 0, 1) := by decide +kernel
theorem dJ13_bitCount_95d88_41 : decode cJ13_bitCount_95d88 41 = .ok (.lload_n 0, 1) := by decide +kernel
theorem dJ13_bitCount_95d88_42 : decode cJ13_bitCount_95d88 42 = .ok (.lload_n 0, 1) := by decide +kernel
theorem dJ13_bitCount_95d88_43 : decode cJ13_bitCount_95d88 43 = .ok (.bipush 16, 2) := by decide +kernel
theorem dJ13_bitCount_95d88_45 : decode cJ13_bitCount_95d88 45 = .ok (.lushr, 1) := by decide +kernel
theorem dJ13_bitCount_95d88_46 : decode cJ13_bitCount_95d88 46 = .ok (.ladd, 1) := by decide +kernel
theorem dJ13_bitCount_95d88_47 : decode cJ13_bitCount_95d88 47 = .ok (.lstore_n 0, 1) := by decide +kernel
theorem dJ13_bitCount_95d88_48 : decode cJ13_bitCount_95d88 48 = .ok (.lload_n 0, 1) := by decide +kernel
theorem dJ13_bitCount_95d88_49 : decode cJ13_bitCount_95d88 49 = .ok (.lload_n 0, 1) := by decide +kernel
theorem dJ13_bitCount_95d88_50 : decode cJ13_bitCount_95d88 50 = .ok (.bipush 32, 2) := by decide +kernel
theorem dJ13_bitCount_95d88_52 : decode cJ13_bitCount_95d88 52 = .ok (.lushr, 1) := by decide +kernel
theorem dJ13_bitCount_95d88_53 : decode cJ13_bitCount_95d88 53 = .ok (.ladd, 1) := by decide +kernel
theorem dJ13_bitCount_95d88_54 : decode cJ13_bitCount_95d88 54 = .ok (.lstore_n 0, 1) := by decide +kernel
theorem dJ13_bitCount_95d88_55 : decode cJ13_bitCount_95d88 55 = .ok (.lload_n 0, 1) := by decide +kernel
theorem dJ13_bitCount_95d88_56 : decode cJ13_bitCount_95d88 56 = .ok (.l2i, 1) := by decide +kernel
theorem dJ13_bitCount_95d88_57 : decode cJ13_bitCount_95d88 57 = .ok (.bipush 127, 2) := by decide +kernel
theorem dJ13_bitCount_95d88_59 : decode cJ13_bitCount_95d88 59 = .ok (.iand, 1) := by decide +kernel
theorem dJ13_bitCount_95d88_60 : decode cJ13_bitCount_95d88 60 = .ok (.ireturn, 1) := by decide +kernel
def tb (x : Int) (k : Nat) : Bool := (Int64.ofInt x).toBitVec.getLsbD k
def cnt (f : Nat → Bool) : Nat → Int
  | 0 => 0
  | n + 1 => cnt f n + bI (f n)
theorem cnt_rng (f : Nat → Bool) : ∀ n : Nat, 0 ≤ cnt f n ∧ cnt f n ≤ n
  | 0 => ⟨Int.le_refl 0, Int.le_refl 0⟩
  | n + 1 => by
    have := cnt_rng f n
    have := bI_01 (f n)
    simp only [cnt]
    omega
theorem cnt_congr {f g : Nat → Bool} : ∀ n : Nat, (∀ k, k < n → f k = g k) → cnt f n = cnt g n
  | 0, _ => rfl
  | n + 1, h => by rw [cnt, cnt, cnt_congr n (fun k hk => h k (by omega)), h n (by omega)]
theorem cnt_add (f : Nat → Bool) (m : Nat) : ∀ n : Nat, cnt f (m + n) = cnt f m + cnt (fun j => f (m + j)) n
  | 0 => by simp [cnt]
  | n + 1 => by
    rw [← Nat.add_assoc, cnt, cnt, cnt_add f m n]
    omega
def bV : List Nat → Nat
  | [] => 0
  | a :: t => a + 256 * bV t
def bL : Nat → Nat → List Nat
  | 0, _ => []
  | n + 1, x => x % 256 :: bL n (x / 256)
theorem bV_L : ∀ (n x : Nat), x < 256 ^ n → bV (bL n x) = x
  | 0, x, h => by simp at h; subst h; rfl
  | n + 1, x, h => by
    rw [bL, bV, bV_L n (x / 256) (by rw [Nat.pow_succ] at h; omega)]
    omega
theorem bL_lt : ∀ (n x a : Nat), a ∈ bL n x → a < 256
  | 0, x, a, h => by cases h
  | n + 1, x, a, h => by
    rcases List.mem_cons.mp h with rfl | q
    · omega
    · exact bL_lt n _ a q
theorem bL_len : ∀ (n x : Nat), (bL n x).length = n
  | 0, x => rfl
  | n + 1, x => by rw [bL, List.length_cons, bL_len n]
theorem and_256 {a b y z : Nat} (ha : a < 256) (hb : b < 256) : (a + 256 * y) &&& (b + 256 * z) = (a &&& b) + 256 * (y &&& z) := by
  apply Nat.eq_of_testBit_eq
  intro j
  have hab : a &&& b < 2 ^ 8 := Nat.lt_of_le_of_lt Nat.and_le_left ha
  rw [Nat.testBit_and, Nat.add_comm a, Nat.add_comm b, Nat.add_comm (a &&& b), show (256 : Nat) = 2 ^ 8 from rfl, Nat.testBit_two_pow_mul_add _ (by omega), Nat.testBit_two_pow_mul_add _ (by omega), Nat.testBit_two_pow_mul_add _ hab]
  by_cases h : j < 8
  · simp only [h, if_true, Nat.testBit_and]
  · simp only [h, if_false, Nat.testBit_and]
theorem and_lo {a c u s : Nat} (hs : s ≤ 8) (ha : a < 2 ^ (8 - s)) (hc : c < 2 ^ (8 - s)) : (a + 2 ^ (8 - s) * u) &&& c = a &&& c := by
  apply Nat.eq_of_testBit_eq
  intro j
  rw [Nat.testBit_and, Nat.testBit_and, Nat.add_comm a, Nat.testBit_two_pow_mul_add _ ha]
  by_cases h : j < 8 - s
  · simp only [h, if_true]
  · rw [Nat.testBit_lt_two_pow (x := c) (Nat.lt_of_lt_of_le hc (Nat.pow_le_pow_right (by decide) (by omega)))]
    simp
theorem bV_shr {s c : Nat} (hs : s ≤ 8) (hc : c < 2 ^ (8 - s)) : ∀ as : List Nat, (∀ a ∈ as, a < 256) → (bV as / 2 ^ s) &&& bV (as.map (fun _ => c)) = bV (as.map (fun a => (a / 2 ^ s) &&& c))
  | [], _ => by simp [bV]
  | a :: t, h => by
    have ha := h a List.mem_cons_self
    have ih := bV_shr hs hc t (fun b hb => h b (List.mem_cons_of_mem _ hb))
    have hp : (256 : Nat) = 2 ^ s * 2 ^ (8 - s) := by rw [← Nat.pow_add, show s + (8 - s) = 8 by omega]
    have hpos : 0 < 2 ^ s := Nat.two_pow_pos s
    have e1 : (a + 256 * bV t) / 2 ^ s = (a / 2 ^ s + 2 ^ (8 - s) * (bV t % 2 ^ s)) + 256 * (bV t / 2 ^ s) := by
      have e2 : a + 256 * bV t = a + 2 ^ s * (2 ^ (8 - s) * bV t) := by rw [hp, Nat.mul_assoc]
      rw [e2, Nat.add_mul_div_left _ _ hpos, Nat.add_assoc]
      congr 1
      have e3 : bV t = bV t % 2 ^ s + 2 ^ s * (bV t / 2 ^ s) := (Nat.mod_add_div _ _).symm
      have e4 : 2 ^ (8 - s) * bV t = 2 ^ (8 - s) * (bV t % 2 ^ s) + 2 ^ (8 - s) * (2 ^ s * (bV t / 2 ^ s)) := by
        rw [← Nat.mul_add, ← e3]
      rw [e4, hp]
      congr 1
      rw [← Nat.mul_assoc, Nat.mul_comm (2 ^ (8 - s))]
    have ha2 : a / 2 ^ s < 2 ^ (8 - s) := Nat.div_lt_of_lt_mul (by rw [← hp]; exact ha)
    have hm : bV t % 2 ^ s < 2 ^ s := Nat.mod_lt _ hpos
    have hc2 : c < 256 := Nat.lt_of_lt_of_le hc (by rw [show (256 : Nat) = 2 ^ 8 from rfl]; exact Nat.pow_le_pow_right (by decide) (by omega))
    have hb : a / 2 ^ s + 2 ^ (8 - s) * (bV t % 2 ^ s) < 256 := by
      have : 2 ^ (8 - s) * (bV t % 2 ^ s) ≤ 2 ^ (8 - s) * (2 ^ s - 1) := Nat.mul_le_mul_left _ (by omega)
      have e5 : 2 ^ (8 - s) * (2 ^ s - 1) + 2 ^ (8 - s) = 256 := by
        rw [hp, Nat.mul_sub, Nat.mul_one, Nat.mul_comm (2 ^ s)]
        have : 2 ^ (8 - s) ≤ 2 ^ (8 - s) * 2 ^ s := Nat.le_mul_of_pos_right _ hpos
        omega
      omega
    rw [bV, List.map_cons, bV, List.map_cons, bV, e1, and_256 hb hc2, ih, and_lo hs ha2 hc]
theorem bV_sub (f g : Nat → Nat) : ∀ as : List Nat, (∀ a ∈ as, g a ≤ f a) → bV (as.map f) - bV (as.map g) = bV (as.map (fun a => f a - g a)) ∧ bV (as.map g) ≤ bV (as.map f)
  | [], _ => ⟨rfl, Nat.le_refl _⟩
  | a :: t, h => by
    have h1 := h a List.mem_cons_self
    obtain ⟨i1, i2⟩ := bV_sub f g t (fun b hb => h b (List.mem_cons_of_mem _ hb))
    simp only [List.map_cons, bV]
    omega
theorem bV_add (f g : Nat → Nat) : ∀ as : List Nat, bV (as.map f) + bV (as.map g) = bV (as.map (fun a => f a + g a))
  | [] => rfl
  | a :: t => by
    have i1 := bV_add f g t
    simp only [List.map_cons, bV]
    omega
theorem bV_lt : ∀ as : List Nat, (∀ a ∈ as, a < 256) → bV as < 256 ^ as.length
  | [], _ => by simp [bV]
  | a :: t, h => by
    have h1 := h a List.mem_cons_self
    have h2 := bV_lt t (fun b hb => h b (List.mem_cons_of_mem _ hb))
    simp only [bV, List.length_cons, Nat.pow_succ]
    omega
theorem bV_nib : ∀ as : List Nat, (∀ a ∈ as, a % 16 ≤ 4 ∧ a / 16 ≤ 4) → (bV as + bV as / 16) &&& bV (as.map (fun _ => 15)) = bV (as.map (fun a => a % 16 + a / 16)) ∧ bV as % 16 ≤ 4
  | [], _ => by simp [bV]
  | a :: t, h => by
    have h1 := h a List.mem_cons_self
    obtain ⟨ih, ih2⟩ := bV_nib t (fun b hb => h b (List.mem_cons_of_mem _ hb))
    have e1 : a + 256 * bV t + (a + 256 * bV t) / 16 = (a + a / 16 + 16 * (bV t % 16)) + 256 * (bV t + bV t / 16) := by omega
    have e2 : (a + a / 16 + 16 * (bV t % 16)) &&& 15 = a % 16 + a / 16 := by
      rw [show (15 : Nat) = 2 ^ 4 - 1 from rfl, Nat.and_two_pow_sub_one_eq_mod]
      omega
    rw [bV, List.map_cons, bV, List.map_cons, bV, e1, and_256 (by omega) (by decide), ih, e2]
    exact ⟨rfl, by omega⟩
def g1_ (a : Nat) : Nat := a - ((a / 2 ^ 1) &&& 85)
def g2_ (a : Nat) : Nat := ((a / 2 ^ 0) &&& 51) + ((a / 2 ^ 2) &&& 51)
def g3_ (a : Nat) : Nat := a % 16 + a / 16
theorem g_all : ∀ a : Nat, a < 256 → (a / 2 ^ 1) &&& 85 ≤ a ∧ g1_ a < 256 ∧ g2_ (g1_ a) < 256 ∧ g2_ (g1_ a) % 16 ≤ 4 ∧ g2_ (g1_ a) / 16 ≤ 4 ∧ g3_ (g2_ (g1_ a)) ≤ 8 ∧ (g3_ (g2_ (g1_ a)) : Int) = cnt a.testBit 8 := by decide +kernel
theorem cnt_bV : ∀ as : List Nat, (∀ a ∈ as, a < 256) → cnt (bV as).testBit (8 * as.length) = (as.map (fun a => cnt a.testBit 8)).sum
  | [], _ => rfl
  | a :: t, h => by
    have h1 := h a List.mem_cons_self
    have ih := cnt_bV t (fun b hb => h b (List.mem_cons_of_mem _ hb))
    rw [List.length_cons, show 8 * (t.length + 1) = 8 + 8 * t.length by omega, cnt_add, List.map_cons, List.sum_cons, ← ih, bV, Nat.add_comm a, show (256 : Nat) = 2 ^ 8 from rfl]
    congr 1
    · refine cnt_congr 8 (fun k hk => ?_)
      rw [Nat.testBit_two_pow_mul_add _ h1, if_pos hk]
    · refine cnt_congr _ (fun k hk => ?_)
      rw [Nat.testBit_two_pow_mul_add _ h1, if_neg (by omega), show 8 + k - 8 = k by omega]
def B1_ (b : BitVec 64) : BitVec 64 := b - ((b >>> 1) &&& 6148914691236517205#64)
def B2_ (b : BitVec 64) : BitVec 64 := (b &&& 3689348814741910323#64) + ((b >>> 2) &&& 3689348814741910323#64)
def B3_ (b : BitVec 64) : BitVec 64 := (b + (b >>> 4)) &&& 1085102592571150095#64
def B4_ (b : BitVec 64) : BitVec 64 := b + (b >>> 8)
def B5_ (b : BitVec 64) : BitVec 64 := b + (b >>> 16)
def B6_ (b : BitVec 64) : BitVec 64 := b + (b >>> 32)
theorem map_8 {as : List Nat} (h : as.length = 8) (c : Nat) : as.map (fun _ => c) = [c, c, c, c, c, c, c, c] := by
  rw [List.map_const', h]; rfl
theorem B1_V {b : BitVec 64} {as : List Nat} (hl : as.length = 8) (ha : ∀ a ∈ as, a < 256) (hb : b.toNat = bV as) : (B1_ b).toNat = bV (as.map g1_) := by
  unfold B1_
  have e1 : ((b >>> 1) &&& 6148914691236517205#64).toNat = bV (as.map (fun a => (a / 2 ^ 1) &&& 85)) := by
    rw [BitVec.toNat_and, BitVec.toNat_ushiftRight, hb, Nat.shiftRight_eq_div_pow, ← bV_shr (by decide) (by decide) as ha, map_8 hl 85]
    rfl
  obtain ⟨s1, s2⟩ := bV_sub (fun a => a) (fun a => (a / 2 ^ 1) &&& 85) as (fun a h => (g_all a (ha a h)).1)
  rw [List.map_id'] at s1 s2
  have hlt := b.isLt
  rw [BitVec.toNat_sub, e1, hb]
  rw [hb] at hlt
  rw [show 2 ^ 64 - bV (as.map (fun a => (a / 2 ^ 1) &&& 85)) + bV as = (bV as - bV (as.map (fun a => (a / 2 ^ 1) &&& 85))) + 2 ^ 64 by omega, Nat.add_mod_right, Nat.mod_eq_of_lt (by omega), s1]
  rfl
theorem B2_V {b : BitVec 64} {as : List Nat} (hl : as.length = 8) (ha : ∀ a ∈ as, a < 256) (hb : b.toNat = bV as) (hg : ∀ a ∈ as, g2_ a < 256) : (B2_ b).toNat = bV (as.map g2_) := by
  unfold B2_
  have e1 : ((b >>> 2) &&& 3689348814741910323#64).toNat = bV (as.map (fun a => (a / 2 ^ 2) &&& 51)) := by
    rw [BitVec.toNat_and, BitVec.toNat_ushiftRight, hb, Nat.shiftRight_eq_div_pow, ← bV_shr (by decide) (by decide) as ha, map_8 hl 51]
    rfl
  have e0 : (b &&& 3689348814741910323#64).toNat = bV (as.map (fun a => (a / 2 ^ 0) &&& 51)) := by
    rw [BitVec.toNat_and, hb, ← bV_shr (by decide) (by decide) as ha, map_8 hl 51]
    simp only [Nat.pow_zero, Nat.div_one]
    rfl
  rw [BitVec.toNat_add, e0, e1, bV_add, Nat.mod_eq_of_lt]
  · rfl
  · have := bV_lt (as.map g2_) (fun a h => by obtain ⟨x, hx, rfl⟩ := List.mem_map.mp h; exact hg x hx)
    rw [List.length_map, hl] at this
    exact this
theorem B3_V {b : BitVec 64} {as : List Nat} (hl : as.length = 8) (ha : ∀ a ∈ as, a % 16 ≤ 4 ∧ a / 16 ≤ 4) (hb : b.toNat = bV as) : (B3_ b).toNat = bV (as.map g3_) := by
  unfold B3_
  have hlt := bV_lt as (fun a h => by have := ha a h; omega)
  have hlt2 : bV as / 16 < 16 ^ 15 := by rw [hl] at hlt; omega
  have h7 : bV as < 5 * 16 ^ 15 := by
    match as, hl, ha with
    | [a0, a1, a2, a3, a4, a5, a6, a7], _, ha =>
      have h0 := ha a0 (by simp)
      have h1 := ha a1 (by simp)
      have h2 := ha a2 (by simp)
      have h3 := ha a3 (by simp)
      have h4 := ha a4 (by simp)
      have h5 := ha a5 (by simp)
      have h6 := ha a6 (by simp)
      have h7 := ha a7 (by simp)
      simp only [bV]
      omega
  rw [BitVec.toNat_and, BitVec.toNat_add, BitVec.toNat_ushiftRight, hb, Nat.shiftRight_eq_div_pow, Nat.mod_eq_of_lt (by omega)]
  have := (bV_nib as ha).1
  rw [map_8 hl 15] at this
  exact this
theorem bV_div {a : Nat} {t : List Nat} (h : a < 256) : bV (a :: t) / 256 = bV t := by
  rw [bV, Nat.add_mul_div_left _ _ (by decide), Nat.div_eq_of_lt h, Nat.zero_add]
theorem B6_V {b : BitVec 64} {as : List Nat} (hl : as.length = 8) (ha : ∀ a ∈ as, a ≤ 8) (hb : b.toNat = bV as) : (B6_ (B5_ (B4_ b))).toNat % 128 = as.sum := by
  match as, hl, ha with
  | [a0, a1, a2, a3, a4, a5, a6, a7], _, ha =>
    have h0 := ha a0 (by simp)
    have h1 := ha a1 (by simp)
    have h2 := ha a2 (by simp)
    have h3 := ha a3 (by simp)
    have h4 := ha a4 (by simp)
    have h5 := ha a5 (by simp)
    have h6 := ha a6 (by simp)
    have h7 := ha a7 (by simp)
    have k4 : (B4_ b).toNat = bV [a0 + a1, a1 + a2, a2 + a3, a3 + a4, a4 + a5, a5 + a6, a6 + a7, a7] := by
      unfold B4_
      rw [BitVec.toNat_add, BitVec.toNat_ushiftRight, Nat.shiftRight_eq_div_pow, hb, show 2 ^ 8 = 256 from rfl, bV_div (by omega), Nat.mod_eq_of_lt (by simp only [bV]; omega)]
      simp only [bV]
      omega
    generalize B4_ b = b4 at k4 ⊢
    have k5 : (B5_ b4).toNat = bV [a0 + a1 + a2 + a3, a1 + a2 + a3 + a4, a2 + a3 + a4 + a5, a3 + a4 + a5 + a6, a4 + a5 + a6 + a7, a5 + a6 + a7, a6 + a7, a7] := by
      unfold B5_
      rw [BitVec.toNat_add, BitVec.toNat_ushiftRight, Nat.shiftRight_eq_div_pow, k4, show 2 ^ 16 = 256 * 256 from rfl, ← Nat.div_div_eq_div_mul, bV_div (by omega), bV_div (by omega), Nat.mod_eq_of_lt (by simp only [bV]; omega)]
      simp only [bV]
      omega
    generalize B5_ b4 = b5 at k5 ⊢
    unfold B6_
    rw [BitVec.toNat_add, BitVec.toNat_ushiftRight, Nat.shiftRight_eq_div_pow, k5, show 2 ^ 32 = 256 * 256 * 256 * 256 from rfl, ← Nat.div_div_eq_div_mul, ← Nat.div_div_eq_div_mul, ← Nat.div_div_eq_div_mul, bV_div (by omega), bV_div (by omega), bV_div (by omega), bV_div (by omega), Nat.mod_eq_of_lt (b := 2 ^ 64) (by simp only [bV]; omega)]
    have e1 : ∀ (a : Nat) (t : List Nat), bV (a :: t) = a + 256 * bV t := fun _ _ => rfl
    rw [e1 (a0 + a1 + a2 + a3), e1 (a4 + a5 + a6 + a7)]
    generalize bV [a1 + a2 + a3 + a4, a2 + a3 + a4 + a5, a3 + a4 + a5 + a6, a4 + a5 + a6 + a7, a5 + a6 + a7, a6 + a7, a7] = R1
    generalize bV [a5 + a6 + a7, a6 + a7, a7] = R2
    simp only [List.sum_cons, List.sum_nil]
    have e : a0 + a1 + a2 + a3 + 256 * R1 + (a4 + a5 + a6 + a7 + 256 * R2) = (a0 + a1 + a2 + a3 + (a4 + a5 + a6 + a7)) + 128 * (2 * R1 + 2 * R2) := by omega
    rw [e, Nat.add_mul_mod_self_left, Nat.mod_eq_of_lt (by omega)]
    omega
theorem B_pop (b : BitVec 64) : (((B6_ (B5_ (B4_ (B3_ (B2_ (B1_ b)))))).toNat % 128 : Nat) : Int) = cnt b.getLsbD 64 := by
  have hb : b.toNat = bV (bL 8 b.toNat) := (bV_L 8 _ (by have := b.isLt; omega)).symm
  have hl := bL_len 8 b.toNat
  have ha := fun a => bL_lt 8 b.toNat a
  have hc := cnt_bV (bL 8 b.toNat) ha
  rw [← hb, hl] at hc
  generalize bL 8 b.toNat = as at hb hl ha hc
  have k1 := B1_V hl ha hb
  have k2 := B2_V (as := as.map g1_) (by rw [List.length_map]; exact hl) (fun a h => by obtain ⟨x, hx, rfl⟩ := List.mem_map.mp h; exact (g_all x (ha x hx)).2.1) k1 (fun a h => by obtain ⟨x, hx, rfl⟩ := List.mem_map.mp h; exact (g_all x (ha x hx)).2.2.1)
  have k3 := B3_V (as := (as.map g1_).map g2_) (by rw [List.length_map, List.length_map]; exact hl) (fun a h => by
    obtain ⟨y, hy, rfl⟩ := List.mem_map.mp h
    obtain ⟨x, hx, rfl⟩ := List.mem_map.mp hy
    exact ⟨(g_all x (ha x hx)).2.2.2.1, (g_all x (ha x hx)).2.2.2.2.1⟩) k2
  have k6 := B6_V (as := ((as.map g1_).map g2_).map g3_) (by rw [List.length_map, List.length_map, List.length_map]; exact hl) (fun a h => by
    obtain ⟨z, hz, rfl⟩ := List.mem_map.mp h
    obtain ⟨y, hy, rfl⟩ := List.mem_map.mp hz
    obtain ⟨x, hx, rfl⟩ := List.mem_map.mp hy
    exact (g_all x (ha x hx)).2.2.2.2.2.1) k3
  rw [k6]
  have e : cnt b.getLsbD 64 = cnt b.toNat.testBit 64 := rfl
  rw [e, hc]
  clear hb hc k1 k2 k3 k6 hl e
  induction as with
  | nil => rfl
  | cons a t ih =>
    simp only [List.map_cons, List.sum_cons, Int.natCast_add]
    rw [ih (fun x hx => ha x (List.mem_cons_of_mem _ hx)), (g_all a (ha a List.mem_cons_self)).2.2.2.2.2.2]
-- the walk of it
def gbc (x : Int) : Int := cnt (tb x) 64
theorem gland_bv (x y : Int) : Int64.ofInt (gland x y) = Int64.ofInt x &&& Int64.ofInt y := Int64.ofInt_toInt _
theorem glsub_bv (x y : Int) : Int64.ofInt (glsub x y) = Int64.ofInt x - Int64.ofInt y := Int64.ofInt_toInt _
theorem gladd_bv (x y : Int) : Int64.ofInt (gladd x y) = Int64.ofInt x + Int64.ofInt y := Int64.ofInt_toInt _
theorem glushr_bv (x : Int) (n : Int) (k : Nat) (hn : (((Int32.ofInt n).toInt64.toUInt64 &&& Int64.toUInt64 63).toBitVec % 64).toNat = k) : (Int64.ofInt (glushr x n)).toBitVec = (Int64.ofInt x).toBitVec >>> k := by
  unfold glushr
  rw [Int64.ofInt_toInt]
  show ((Int64.ofInt x).toUInt64 >>> ((Int32.ofInt n).toInt64.toUInt64 &&& Int64.toUInt64 63)).toBitVec = _
  rw [UInt64.toBitVec_shiftRight, BitVec.ushiftRight_eq', hn]
  rfl
theorem sp_J13_bitCount {sh : gS} {M : gM} {x : Int} : gC (gr 0 0) yJ13_bitCount_95d88 cJ13_bitCount_95d88 2 (some (.int)) [(1, x)] sh M (gPp sh M (0, gbc x)) := by
  refine gC_ofA (lv := [_, _]) (by decide +kernel) (Nat.le_of_ble_eq_true rfl) rfl (fun hMw hav => ?_)
  refine g_lload_n (q0 := 1) (j := 0) rfl dJ13_bitCount_95d88_0 rfl ?_
  refine g_lload_n (q0 := 2) (j := 0) rfl dJ13_bitCount_95d88_1 rfl ?_
  refine g_iconst (q0 := 3) rfl dJ13_bitCount_95d88_2 (k := ?_)
  refine g_lushr (q0 := 4) rfl dJ13_bitCount_95d88_3 ?_
  refine g_ldc2 (q0 := 7) (n := 6148914691236517205) rfl co_J13_314 dJ13_bitCount_95d88_4 (k := ?_)
  refine g_land (q0 := 8) rfl dJ13_bitCount_95d88_7 ?_
  refine g_lsub (q0 := 9) rfl dJ13_bitCount_95d88_8 ?_
  refine g_lstore_n (q0 := 10) (j := 0) (lv2 := [_, _]) rfl dJ13_bitCount_95d88_9 (by decide) rfl rfl ?_
  refine g_lload_n (q0 := 11) (j := 0) rfl dJ13_bitCount_95d88_10 rfl ?_
  refine g_ldc2 (q0 := 14) (n := 3689348814741910323) rfl co_J13_316 dJ13_bitCount_95d88_11 (k := ?_)
  refine g_land (q0 := 15) rfl dJ13_bitCount_95d88_14 ?_
  refine g_lload_n (q0 := 16) (j := 0) rfl dJ13_bitCount_95d88_15 rfl ?_
  refine g_iconst (q0 := 17) rfl dJ13_bitCount_95d88_16 (k := ?_)
  refine g_lushr (q0 := 18) rfl dJ13_bitCount_95d88_17 ?_
  refine g_ldc2 (q0 := 21) (n := 3689348814741910323) rfl co_J13_316 dJ13_bitCount_95d88_18 (k := ?_)
  refine g_land (q0 := 22) rfl dJ13_bitCount_95d88_21 ?_
  refine g_ladd (q0 := 23) rfl dJ13_bitCount_95d88_22 ?_
  refine g_lstore_n (q0 := 24) (j := 0) (lv2 := [_, _]) rfl dJ13_bitCount_95d88_23 (by decide) rfl rfl ?_
  refine g_lload_n (q0 := 25) (j := 0) rfl dJ13_bitCount_95d88_24 rfl ?_
  refine g_lload_n (q0 := 26) (j := 0) rfl dJ13_bitCount_95d88_25 rfl ?_
  refine g_iconst (q0 := 27) rfl dJ13_bitCount_95d88_26 (k := ?_)
  refine g_lushr (q0 := 28) rfl dJ13_bitCount_95d88_27 ?_
  refine g_ladd (q0 := 29) rfl dJ13_bitCount_95d88_28 ?_
  refine g_ldc2 (q0 := 32) (n := 1085102592571150095) rfl co_J13_318 dJ13_bitCount_95d88_29 (k := ?_)
  refine g_land (q0 := 33) rfl dJ13_bitCount_95d88_32 ?_
  refine g_lstore_n (q0 := 34) (j := 0) (lv2 := [_, _]) rfl dJ13_bitCount_95d88_33 (by decide) rfl rfl ?_
  refine g_lload_n (q0 := 35) (j := 0) rfl dJ13_bitCount_95d88_34 rfl ?_
  refine g_lload_n (q0 := 36) (j := 0) rfl dJ13_bitCount_95d88_35 rfl ?_
  refine g_bipush (q0 := 38) rfl dJ13_bitCount_95d88_36 (k := ?_)
  refine g_lushr (q0 := 39) rfl dJ13_bitCount_95d88_38 ?_
  refine g_ladd (q0 := 40) rfl dJ13_bitCount_95d88_39 ?_
  refine g_lstore_n (q0 := 41) (j := 0) (lv2 := [_, _]) rfl dJ13_bitCount_95d88_40 (by decide) rfl rfl ?_
  refine g_lload_n (q0 := 42) (j := 0) rfl dJ13_bitCount_95d88_41 rfl ?_
  refine g_lload_n (q0 := 43) (j := 0) rfl dJ13_bitCount_95d88_42 rfl ?_
  refine g_bipush (q0 := 45) rfl dJ13_bitCount_95d88_43 (k := ?_)
  refine g_lushr (q0 := 46) rfl dJ13_bitCount_95d88_45 ?_
  refine g_ladd (q0 := 47) rfl dJ13_bitCount_95d88_46 ?_
  refine g_lstore_n (q0 := 48) (j := 0) (lv2 := [_, _]) rfl dJ13_bitCount_95d88_47 (by decide) rfl rfl ?_
  refine g_lload_n (q0 := 49) (j := 0) rfl dJ13_bitCount_95d88_48 rfl ?_
  refine g_lload_n (q0 := 50) (j := 0) rfl dJ13_bitCount_95d88_49 rfl ?_
  refine g_bipush (q0 := 52) rfl dJ13_bitCount_95d88_50 (k := ?_)
  refine g_lushr (q0 := 53) rfl dJ13_bitCount_95d88_52 ?_
  refine g_ladd (q0 := 54) rfl dJ13_bitCount_95d88_53 ?_
  refine g_lstore_n (q0 := 55) (j := 0) (lv2 := [_, _]) rfl dJ13_bitCount_95d88_54 (by decide) rfl rfl ?_
  refine g_lload_n (q0 := 56) (j := 0) rfl dJ13_bitCount_95d88_55 rfl ?_
  refine g_l2i (q0 := 57) rfl dJ13_bitCount_95d88_56 ?_
  refine g_bipush (q0 := 59) rfl dJ13_bitCount_95d88_57 (k := ?_)
  refine g_iand (q0 := 60) rfl dJ13_bitCount_95d88_59 ?_
  refine g_ireturn dJ13_bitCount_95d88_60 rfl ⟨Nat.zero_le _, Nat.zero_le _⟩ ?_
  refine ⟨?_, rfl, rfl⟩
  have r1 := glushr_bv x 1 1 (by decide +kernel)
  have e1 : (Int64.ofInt (glsub x (gland (glushr x 1) 6148914691236517205))).toBitVec = B1_ (Int64.ofInt x).toBitVec := by
    rw [glsub_bv, gland_bv, Int64.toBitVec_sub, Int64.toBitVec_and, r1]
    rfl
  generalize glsub x (gland (glushr x 1) 6148914691236517205) = x1 at e1 ⊢
  have r2 := glushr_bv x1 2 2 (by decide +kernel)
  have e2 : (Int64.ofInt (gladd (gland x1 3689348814741910323) (gland (glushr x1 2) 3689348814741910323))).toBitVec = B2_ (Int64.ofInt x1).toBitVec := by
    rw [gladd_bv, gland_bv, gland_bv, Int64.toBitVec_add, Int64.toBitVec_and, Int64.toBitVec_and, r2]
    rfl
  generalize gladd (gland x1 3689348814741910323) (gland (glushr x1 2) 3689348814741910323) = x2 at e2 ⊢
  have r3 := glushr_bv x2 4 4 (by decide +kernel)
  have e3 : (Int64.ofInt (gland (gladd x2 (glushr x2 4)) 1085102592571150095)).toBitVec = B3_ (Int64.ofInt x2).toBitVec := by
    rw [gland_bv, gladd_bv, Int64.toBitVec_and, Int64.toBitVec_add, r3]
    rfl
  generalize gland (gladd x2 (glushr x2 4)) 1085102592571150095 = x3 at e3 ⊢
  have r4 := glushr_bv x3 8 8 (by decide +kernel)
  have e4 : (Int64.ofInt (gladd x3 (glushr x3 8))).toBitVec = B4_ (Int64.ofInt x3).toBitVec := by
    rw [gladd_bv, Int64.toBitVec_add, r4]
    rfl
  generalize gladd x3 (glushr x3 8) = x4 at e4 ⊢
  have r5 := glushr_bv x4 16 16 (by decide +kernel)
  have e5 : (Int64.ofInt (gladd x4 (glushr x4 16))).toBitVec = B5_ (Int64.ofInt x4).toBitVec := by
    rw [gladd_bv, Int64.toBitVec_add, r5]
    rfl
  generalize gladd x4 (glushr x4 16) = x5 at e5 ⊢
  have r6 := glushr_bv x5 32 32 (by decide +kernel)
  have e6 : (Int64.ofInt (gladd x5 (glushr x5 32))).toBitVec = B6_ (Int64.ofInt x5).toBitVec := by
    rw [gladd_bv, Int64.toBitVec_add, r6]
    rfl
  generalize gladd x5 (glushr x5 32) = x6 at e6 ⊢
  rw [e5, e4, e3, e2, e1] at e6
  have hp := B_pop (Int64.ofInt x).toBitVec
  rw [← e6] at hp
  have hg : gbc x = cnt (Int64.ofInt x).toBitVec.getLsbD 64 := rfl
  rw [hg, ← hp]
  have f1 : (((Int64.ofInt x6).toBitVec.toNat % 128 : Nat) : Int) = x6 % 128 := by
    show (((BitVec.ofInt 64 x6).toNat % 128 : Nat) : Int) = _
    rw [BitVec.toNat_ofInt]
    omega
  have f2 : gand (gw32 x6) 127 = x6 % 128 := by
    unfold gand gw32
    rw [Int32.ofInt_toInt]
    have e : (Int32.ofInt x6 &&& Int32.ofInt 127).toBitVec.toNat = (Int32.ofInt x6).toBitVec.toNat % 128 := by
      rw [Int32.toBitVec_and, BitVec.toNat_and, show (Int32.ofInt 127).toBitVec.toNat = 2 ^ 7 - 1 from by decide +kernel, Nat.and_two_pow_sub_one_eq_mod]
    show (Int32.ofInt x6 &&& Int32.ofInt 127).toBitVec.toInt = _
    rw [BitVec.toInt_eq_toNat_of_lt (by rw [e]; omega), e]
    show (((BitVec.ofInt 32 x6).toNat % 128 : Nat) : Int) = _
    rw [BitVec.toNat_ofInt]
    omega
  rw [f1, f2]
