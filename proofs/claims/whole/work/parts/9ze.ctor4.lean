theorem dX11_init_0 : decode cX11_init 0 = .ok (.aload_n 0, 1) := by decide +kernel
theorem dX11_init_1 : decode cX11_init 1 = .ok (.invokespecial 1, 3) := by decide +kernel
theorem dX11_init_4 : decode cX11_init 4 = .ok (.aload_n 0, 1) := by decide +kernel
theorem dX11_init_5 : decode cX11_init 5 = .ok (.new 7, 3) := by decide +kernel
theorem dX11_init_8 : decode cX11_init 8 = .ok (.dup, 1) := by decide +kernel
theorem dX11_init_9 : decode cX11_init 9 = .ok (.invokespecial 9, 3) := by decide +kernel
theorem dX11_init_12 : decode cX11_init 12 = .ok (.putfield 10, 3) := by decide +kernel
theorem dX11_init_15 : decode cX11_init 15 = .ok (.aload_n 0, 1) := by decide +kernel
theorem dX11_init_16 : decode cX11_init 16 = .ok (.new 16, 3) := by decide +kernel
theorem dX11_init_19 : decode cX11_init 19 = .ok (.dup, 1) := by decide +kernel
theorem dX11_init_20 : decode cX11_init 20 = .ok (.invokespecial 18, 3) := by decide +kernel
theorem dX11_init_23 : decode cX11_init 23 = .ok (.putfield 19, 3) := by decide +kernel
theorem dX11_init_26 : decode cX11_init 26 = .ok (.aload_n 0, 1) := by decide +kernel
theorem dX11_init_27 : decode cX11_init 27 = .ok (.aload_n 0, 1) := by decide +kernel
theorem dX11_init_28 : decode cX11_init 28 = .ok (.getfield 19, 3) := by decide +kernel
theorem dX11_init_31 : decode cX11_init 31 = .ok (.getfield 23, 3) := by decide +kernel
theorem dX11_init_34 : decode cX11_init 34 = .ok (.putfield 27, 3) := by decide +kernel
theorem dX11_init_37 : decode cX11_init 37 = .ok (.aload_n 0, 1) := by decide +kernel
theorem dX11_init_38 : decode cX11_init 38 = .ok (.new 28, 3) := by decide +kernel
theorem dX11_init_41 : decode cX11_init 41 = .ok (.dup, 1) := by decide +kernel
theorem dX11_init_42 : decode cX11_init 42 = .ok (.invokespecial 30, 3) := by decide +kernel
theorem dX11_init_45 : decode cX11_init 45 = .ok (.putfield 31, 3) := by decide +kernel
theorem dX11_init_48 : decode cX11_init 48 = .ok (.aload_n 0, 1) := by decide +kernel
theorem dX11_init_49 : decode cX11_init 49 = .ok (.iconst 4, 1) := by decide +kernel
theorem dX11_init_50 : decode cX11_init 50 = .ok (.anewarray 35, 3) := by decide +kernel
theorem dX11_init_53 : decode cX11_init 53 = .ok (.putfield 37, 3) := by decide +kernel
theorem dX11_init_56 : decode cX11_init 56 = .ok (.aload_n 0, 1) := by decide +kernel
theorem dX11_init_57 : decode cX11_init 57 = .ok (.iconst 4, 1) := by decide +kernel
theorem dX11_init_58 : decode cX11_init 58 = .ok (.anewarray 41, 3) := by decide +kernel
theorem dX11_init_61 : decode cX11_init 61 = .ok (.putfield 43, 3) := by decide +kernel
theorem dX11_init_64 : decode cX11_init 64 = .ok (.aload_n 0, 1) := by decide +kernel
theorem dX11_init_65 : decode cX11_init 65 = .ok (.new 47, 3) := by decide +kernel
theorem dX11_init_68 : decode cX11_init 68 = .ok (.dup, 1) := by decide +kernel
theorem dX11_init_69 : decode cX11_init 69 = .ok (.invokespecial 49, 3) := by decide +kernel
theorem dX11_init_72 : decode cX11_init 72 = .ok (.putfield 50, 3) := by decide +kernel
theorem dX11_init_75 : decode cX11_init 75 = .ok (.aload_n 0, 1) := by decide +kernel
theorem dX11_init_76 : decode cX11_init 76 = .ok (.new 35, 3) := by decide +kernel
theorem dX11_init_79 : decode cX11_init 79 = .ok (.dup, 1) := by decide +kernel
theorem dX11_init_80 : decode cX11_init 80 = .ok (.invokespecial 54, 3) := by decide +kernel
theorem dX11_init_83 : decode cX11_init 83 = .ok (.putfield 55, 3) := by decide +kernel
theorem dX11_init_86 : decode cX11_init 86 = .ok (.aload_n 0, 1) := by decide +kernel
theorem dX11_init_87 : decode cX11_init 87 = .ok (.new 59, 3) := by decide +kernel
theorem dX11_init_90 : decode cX11_init 90 = .ok (.dup, 1) := by decide +kernel
theorem dX11_init_91 : decode cX11_init 91 = .ok (.invokespecial 61, 3) := by decide +kernel
theorem dX11_init_94 : decode cX11_init 94 = .ok (.putfield 62, 3) := by decide +kernel
theorem dX11_init_97 : decode cX11_init 97 = .ok (.aload_n 0, 1) := by decide +kernel
theorem dX11_init_98 : decode cX11_init 98 = .ok (.new 59, 3) := by decide +kernel
theorem dX11_init_101 : decode cX11_init 101 = .ok (.dup, 1) := by decide +kernel
theorem dX11_init_102 : decode cX11_init 102 = .ok (.invokespecial 61, 3) := by decide +kernel
theorem dX11_init_105 : decode cX11_init 105 = .ok (.putfield 66, 3) := by decide +kernel
theorem dX11_init_108 : decode cX11_init 108 = .ok (.aload_n 0, 1) := by decide +kernel
theorem dX11_init_109 : decode cX11_init 109 = .ok (.new 69, 3) := by decide +kernel
theorem dX11_init_112 : decode cX11_init 112 = .ok (.dup, 1) := by decide +kernel
theorem dX11_init_113 : decode cX11_init 113 = .ok (.iconst 2, 1) := by decide +kernel
theorem dX11_init_114 : decode cX11_init 114 = .ok (.invokespecial 71, 3) := by decide +kernel
theorem dX11_init_117 : decode cX11_init 117 = .ok (.putfield 74, 3) := by decide +kernel
theorem dX11_init_120 : decode cX11_init 120 = .ok (.aload_n 0, 1) := by decide +kernel
theorem dX11_init_121 : decode cX11_init 121 = .ok (.bipush 120, 2) := by decide +kernel
theorem dX11_init_123 : decode cX11_init 123 = .ok (.newarray .int, 2) := by decide +kernel
theorem dX11_init_125 : decode cX11_init 125 = .ok (.putfield 78, 3) := by decide +kernel
theorem dX11_init_128 : decode cX11_init 128 = .ok (.aload_n 0, 1) := by decide +kernel
theorem dX11_init_129 : decode cX11_init 129 = .ok (.sipush 4096, 3) := by decide +kernel
theorem dX11_init_132 : decode cX11_init 132 = .ok (.newarray .int, 2) := by decide +kernel
theorem dX11_init_134 : decode cX11_init 134 = .ok (.putfield 82, 3) := by decide +kernel
theorem dX11_init_137 : decode cX11_init 137 = .ok (.aload_n 0, 1) := by decide +kernel
theorem dX11_init_138 : decode cX11_init 138 = .ok (.new 85, 3) := by decide +kernel
theorem dX11_init_141 : decode cX11_init 141 = .ok (.dup, 1) := by decide +kernel
theorem dX11_init_142 : decode cX11_init 142 = .ok (.invokespecial 87, 3) := by decide +kernel
theorem dX11_init_145 : decode cX11_init 145 = .ok (.putfield 88, 3) := by decide +kernel
theorem dX11_init_148 : decode cX11_init 148 = .ok (.aload_n 0, 1) := by decide +kernel
theorem dX11_init_149 : decode cX11_init 149 = .ok (.iconst 4, 1) := by decide +kernel
theorem dX11_init_150 : decode cX11_init 150 = .ok (.anewarray 35, 3) := by decide +kernel
theorem dX11_init_153 : decode cX11_init 153 = .ok (.putfield 92, 3) := by decide +kernel
theorem dX11_init_156 : decode cX11_init 156 = .ok (.aload_n 0, 1) := by decide +kernel
theorem dX11_init_157 : decode cX11_init 157 = .ok (.iconst 4, 1) := by decide +kernel
theorem dX11_init_158 : decode cX11_init 158 = .ok (.anewarray 41, 3) := by decide +kernel
theorem dX11_init_161 : decode cX11_init 161 = .ok (.putfield 95, 3) := by decide +kernel
theorem dX11_init_164 : decode cX11_init 164 = .ok (.aload_n 0, 1) := by decide +kernel
theorem dX11_init_165 : decode cX11_init 165 = .ok (.iconst (-1), 1) := by decide +kernel
theorem dX11_init_166 : decode cX11_init 166 = .ok (.putfield 98, 3) := by decide +kernel
theorem dX11_init_169 : decode cX11_init 169 = .ok (.iconst 0, 1) := by decide +kernel
theorem dX11_init_170 : decode cX11_init 170 = .ok (.istore_n 1, 1) := by decide +kernel
theorem dX11_init_171 : decode cX11_init 171 = .ok (.iload_n 1, 1) := by decide +kernel
theorem dX11_init_172 : decode cX11_init 172 = .ok (.iconst 4, 1) := by decide +kernel
theorem dX11_init_173 : decode cX11_init 173 = .ok (.if_icmp .ge 35, 3) := by decide +kernel
theorem dX11_init_176 : decode cX11_init 176 = .ok (.aload_n 0, 1) := by decide +kernel
theorem dX11_init_177 : decode cX11_init 177 = .ok (.getfield 37, 3) := by decide +kernel
theorem dX11_init_180 : decode cX11_init 180 = .ok (.iload_n 1, 1) := by decide +kernel
theorem dX11_init_181 : decode cX11_init 181 = .ok (.new 35, 3) := by decide +kernel
theorem dX11_init_184 : decode cX11_init 184 = .ok (.dup, 1) := by decide +kernel
theorem dX11_init_185 : decode cX11_init 185 = .ok (.invokespecial 54, 3) := by decide +kernel
theorem dX11_init_188 : decode cX11_init 188 = .ok (.aastore, 1) := by decide +kernel
theorem dX11_init_189 : decode cX11_init 189 = .ok (.aload_n 0, 1) := by decide +kernel
theorem dX11_init_190 : decode cX11_init 190 = .ok (.getfield 92, 3) := by decide +kernel
theorem dX11_init_193 : decode cX11_init 193 = .ok (.iload_n 1, 1) := by decide +kernel
theorem dX11_init_194 : decode cX11_init 194 = .ok (.new 35, 3) := by decide +kernel
theorem dX11_init_197 : decode cX11_init 197 = .ok (.dup, 1) := by decide +kernel
theorem dX11_init_198 : decode cX11_init 198 = .ok (.invokespecial 54, 3) := by decide +kernel
theorem dX11_init_201 : decode cX11_init 201 = .ok (.aastore, 1) := by decide +kernel
theorem dX11_init_202 : decode cX11_init 202 = .ok (.iinc 1 1, 3) := by decide +kernel
theorem dX11_init_205 : decode cX11_init 205 = .ok (.goto (-34), 3) := by decide +kernel
theorem dX11_init_208 : decode cX11_init 208 = .ok (.iconst 0, 1) := by decide +kernel
theorem dX11_init_209 : decode cX11_init 209 = .ok (.istore_n 1, 1) := by decide +kernel
theorem dX11_init_210 : decode cX11_init 210 = .ok (.iload_n 1, 1) := by decide +kernel
theorem dX11_init_211 : decode cX11_init 211 = .ok (.iconst 4, 1) := by decide +kernel
theorem dX11_init_212 : decode cX11_init 212 = .ok (.if_icmp .ge 35, 3) := by decide +kernel
theorem dX11_init_215 : decode cX11_init 215 = .ok (.aload_n 0, 1) := by decide +kernel
theorem dX11_init_216 : decode cX11_init 216 = .ok (.getfield 43, 3) := by decide +kernel
theorem dX11_init_219 : decode cX11_init 219 = .ok (.iload_n 1, 1) := by decide +kernel
theorem dX11_init_220 : decode cX11_init 220 = .ok (.new 41, 3) := by decide +kernel
theorem dX11_init_223 : decode cX11_init 223 = .ok (.dup, 1) := by decide +kernel
theorem dX11_init_224 : decode cX11_init 224 = .ok (.invokespecial 102, 3) := by decide +kernel
theorem dX11_init_227 : decode cX11_init 227 = .ok (.aastore, 1) := by decide +kernel
theorem dX11_init_228 : decode cX11_init 228 = .ok (.aload_n 0, 1) := by decide +kernel
theorem dX11_init_229 : decode cX11_init 229 = .ok (.getfield 95, 3) := by decide +kernel
theorem dX11_init_232 : decode cX11_init 232 = .ok (.iload_n 1, 1) := by decide +kernel
theorem dX11_init_233 : decode cX11_init 233 = .ok (.new 41, 3) := by decide +kernel
theorem dX11_init_236 : decode cX11_init 236 = .ok (.dup, 1) := by decide +kernel
theorem dX11_init_237 : decode cX11_init 237 = .ok (.invokespecial 102, 3) := by decide +kernel
theorem dX11_init_240 : decode cX11_init 240 = .ok (.aastore, 1) := by decide +kernel
theorem dX11_init_241 : decode cX11_init 241 = .ok (.iinc 1 1, 3) := by decide +kernel
theorem dX11_init_244 : decode cX11_init 244 = .ok (.goto (-34), 3) := by decide +kernel
theorem dX11_init_247 : decode cX11_init 247 = .ok (.return_, 1) := by decide +kernel
theorem m11_1 {E : List Nat} {sh0 : gS} {M0 : gM} {K : gS} {sh : gS} {M : gM} (h : cB E 12 sh0 M0 K 2 sh M) : M (sh0.length : Int) 1 = ((sh0.length + 1 + 2 : Nat) : Int) := by
  rw [h.2 1, if_pos (by decide)]
  exact (gD_so (c := 12) (f := 1) (d := 3) rfl).trans (by omega)
theorem m11_2 {sh0 : gS} {M0 : gM} {K : gS} {sh : gS} {M : gM} (h : cB [407, 408, 476, 477] 12 sh0 M0 ([] ++ (0, 10) :: kTpe ++ (0, 9) :: K) 2 sh M) : M ((sh0.length + 1 + 2 : Nat) : Int) 0 = (sh0.length : Int) + 4 := by
  rw [h.1.2.2 2 (0, 9) (by decide) rfl 0 (fun w => by cases w)]
  exact (gD_so (c := 9) (f := 0) (d := 1) rfl).trans (by omega)
def kM0 : gS := [] ++ (0, 10) :: kTpe ++ (0, 9) :: kRwr ++ (0, 3) :: kDrf ++ [(7, 4)] ++ [(8, 4)] ++ (0, 7) :: kPtx ++ (0, 8) :: kRfs ++ (0, 1) :: kChg ++ (0, 1) :: kChg ++ (0, 4) :: kMrk 2 ++ [(1, 120)] ++ [(1, 4096)] ++ (0, 0) :: kSB ++ [(7, 4)] ++ [(8, 4)]
theorem kM0_len : kM0.length = 478 := by decide +kernel
theorem app_at {K l : gS} {e : Nat} {k : Nat × Nat} (h : K[e]? = some k) : (K ++ l)[e]? = some k := by
  rw [List.getElem?_append_left (List.getElem?_eq_some_iff.mp h).1]; exact h
def kHis : Nat → gS
  | 0 => []
  | n + 1 => kHis n ++ ((0, 8) :: kRfs ++ (0, 8) :: kRfs)
theorem kHis_len : ∀ n : Nat, (kHis n).length = 10 * n
  | 0 => rfl
  | n + 1 => by rw [kHis, List.length_append, kHis_len n]; show 10 * n + 10 = 10 * (n + 1); omega
def kPla : Nat → gS
  | 0 => []
  | n + 1 => kPla n ++ ((0, 6) :: kPln ++ (0, 6) :: kPln)
theorem kPla_len : ∀ n : Nat, (kPla n).length = 48 * n
  | 0 => rfl
  | n + 1 => by rw [kPla, List.length_append, kPla_len n]; show 48 * n + 48 = 48 * (n + 1); omega
def kM1 : gS := kM0 ++ kHis 4
theorem kH4_len : kM1.length = 518 := by rw [kM1, List.length_append, kHis_len, kM0_len]
/-- histories: j of them are made -/
def iXa (sh0 : gS) (M0 : gM) (j : Nat) (sh : gS) (M : gM) : Prop := cC [407, 408, 476, 477] 12 sh0 M0 (kM0 ++ kHis j) sh M ∧ (∀ i : Int, 0 ≤ i → i < 16 → M (sh0.length : Int) i = gD (0, 12) (sh0.length : Int) i) ∧ M (sh0.length : Int) 16 = -1 ∧
  ∀ i : Int, 0 ≤ i → i < (j : Int) → M ((sh0.length + 1 + 407 : Nat) : Int) i = (sh0.length : Int) + 479 + 10 * i ∧ M ((sh0.length + 1 + 476 : Nat) : Int) i = (sh0.length : Int) + 484 + 10 * i
def iXb (sh0 : gS) (M0 : gM) (j : Nat) (sh : gS) (M : gM) : Prop := cC [407, 408, 476, 477] 12 sh0 M0 (kM1 ++ kPla j) sh M ∧ (∀ i : Int, 0 ≤ i → i < 16 → M (sh0.length : Int) i = gD (0, 12) (sh0.length : Int) i) ∧ M (sh0.length : Int) 16 = -1 ∧
  (∀ i : Int, 0 ≤ i → i < 4 → M ((sh0.length + 1 + 407 : Nat) : Int) i = (sh0.length : Int) + 479 + 10 * i ∧ M ((sh0.length + 1 + 476 : Nat) : Int) i = (sh0.length : Int) + 484 + 10 * i) ∧
  ∀ i : Int, 0 ≤ i → i < (j : Int) → M ((sh0.length + 1 + 408 : Nat) : Int) i = (sh0.length : Int) + 519 + 48 * i ∧ M ((sh0.length + 1 + 477 : Nat) : Int) i = (sh0.length : Int) + 543 + 48 * i
def bX11 (sh0 : gS) (M0 : gM) : Option gV → gS → gM → Prop := fun r sh M => r = none ∧ iXb sh0 M0 4 sh M
theorem ct_X11_171 {sh0 : gS} {M0 : gM} {Q : Option gV → gS → gM → Prop} (hexit : ∀ (sh : gS) (M : gM), iXa sh0 M0 4 sh M → gA (gx 5 101 710 (18723)) yX11_init cX11_init 2 none Q (478 + 10 * 4, 15387 + 138 * 4) 208 [(4, (sh0.length : Int)), (0, ((4 : Nat) : Int))] [] sh M) : ∀ (k j : Nat) (sh : gS) (M : gM), j + k = 4 → iXa sh0 M0 j sh M → gA (gx 5 101 710 (18723)) yX11_init cX11_init 2 none Q (478 + 10 * j, 15387 + 138 * j) 171 [(4, (sh0.length : Int)), (0, (j : Int))] [] sh M := by
  intro k
  induction k with
  | zero =>
    intro j sh M hj hi
    have hj' : j = 4 := by omega
    subst hj'
    refine g_iload_n (q0 := 172) (j := 1) rfl dX11_init_171 rfl ?_
    refine g_iconst (q0 := 173) rfl dX11_init_172 (k := ?_)
    refine g_icmp_ge (q0 := 176) (tgt := 208) rfl dX11_init_173 (by decide) (fun h => hexit sh M hi) (fun h => absurd (show (4 : Int) ≤ ((4 : Nat) : Int) by decide) (by omega))
  | succ k ih =>
    intro j sh M hj hi
    obtain ⟨hC, ho, h16, hx⟩ := hi
    have hl : sh.length = sh0.length + 1 + (kM0 ++ kHis j).length := by rw [hC.1, List.length_append, List.length_cons]; omega
    rw [List.length_append, kHis_len, kM0_len] at hl
    have eA : M (sh0.length : Int) 4 = ((sh0.length + 1 + 407 : Nat) : Int) := by
      rw [ho 4 (by decide) (by decide)]
      exact (gD_so (c := 12) (f := 4) (d := 408) rfl).trans (by omega)
    have eB : M (sh0.length : Int) 14 = ((sh0.length + 1 + 476 : Nat) : Int) := by
      rw [ho 14 (by decide) (by decide)]
      exact (gD_so (c := 12) (f := 14) (d := 477) rfl).trans (by omega)
    have hsO : gsh sh (sh0.length : Int) = some (0, 12) := by rw [hC.1]; exact gsh_of (by simp)
    have hsA : gsh sh ((sh0.length + 1 + 407 : Nat) : Int) = some (7, 4) := cC_sh hC (app_at (by decide +kernel))
    have hsB : gsh sh ((sh0.length + 1 + 476 : Nat) : Int) = some (7, 4) := cC_sh hC (app_at (by decide +kernel))
    refine g_iload_n (q0 := 172) (j := 1) rfl dX11_init_171 rfl ?_
    refine g_iconst (q0 := 173) rfl dX11_init_172 (k := ?_)
    refine g_icmp_ge (q0 := 176) (tgt := 208) rfl dX11_init_173 (by decide) (fun h => by omega) (fun h => ?_)
    refine g_aload_n (q0 := 177) (j := 0) rfl dX11_init_176 rfl ?_
    refine g_getf (q0 := 180) (t := 4) (fi := 4) rfl rfl ff_X11_37 dX11_init_177 rfl hsO ?_
    rw [eA]
    refine g_iload_n (q0 := 181) (j := 1) rfl dX11_init_180 rfl ?_
    refine g_new (q0 := 184) rfl gcl_8 rfl rfl cl_X11_35 it_X7 ini_X7 dX11_init_181 (by show 478 + 10 * j + 1 ≤ 710; omega) (by show 15387 + 138 * j + 5 ≤ 18723; omega) ?_
    refine g_dup (q0 := 185) rfl dX11_init_184 (k := ?_)
    refine g_callN (as := []) (rest := [_, _, _]) mt_X7_init rfl mi_X7_init (host := "CarriedHistory") (List.mem_of_getElem? (i := 6) rfl) dX11_init_185 (q0 := 188) rfl rfl (Int.natCast_nonneg _) ct_X7 rfl ⟨by decide, by decide⟩ ⟨by show 478 + 10 * j + 1 + 4 ≤ 710; omega, by show 15387 + 138 * j + 5 + 64 ≤ 18723; omega⟩ (Nat.le_of_ble_eq_true rfl) (fun r sh1 M1 hI hw1 hMw1 => ?_)
    have hr := hI.1
    subst hr
    refine g_aast (q0 := 189) (q := 1) rfl dX11_init_188 (cI_old hI hsA) rfl (by omega) (by show (j : Int) < ((4 : Nat) : Int); omega) (cI_sh hI) rfl rfl ?_
    obtain ⟨hC1, k1, k2, k3⟩ := cC_el (e := 407) (i := (j : Int)) (v := (sh.length : Int)) hC hI (by decide) (by rw [List.length_append, kM0_len]; omega) rfl
    have hsO1 := cI_old hI hsO
    have hsB1 := cI_old hI hsB
    have hl1 : sh1.length = sh.length + 5 := by rw [hI.2.1, List.length_append]; rfl
    generalize gU M1 ((sh0.length + 1 + 407 : Nat) : Int) (j : Int) (sh.length : Int) = M2 at hC1 k1 k2 k3 ⊢
    refine g_aload_n (q0 := 190) (j := 0) rfl dX11_init_189 rfl ?_
    refine g_getf (q0 := 193) (t := 4) (fi := 14) rfl rfl ff_X11_92 dX11_init_190 rfl hsO1 ?_
    rw [k1 (sh0.length : Int) (by omega) (by omega), eB]
    refine g_iload_n (q0 := 194) (j := 1) rfl dX11_init_193 rfl ?_
    refine g_new (q0 := 197) rfl gcl_8 rfl rfl cl_X11_35 it_X7 ini_X7 dX11_init_194 (by show 478 + 10 * j + 1 + 4 + 1 ≤ 710; omega) (by show 15387 + 138 * j + 5 + 64 + 5 ≤ 18723; omega) ?_
    refine g_dup (q0 := 198) rfl dX11_init_197 (k := ?_)
    refine g_callN (as := []) (rest := [_, _, _]) mt_X7_init rfl mi_X7_init (host := "CarriedHistory") (List.mem_of_getElem? (i := 6) rfl) dX11_init_198 (q0 := 201) rfl rfl (Int.natCast_nonneg _) ct_X7 rfl ⟨by decide, by decide⟩ ⟨by show 478 + 10 * j + 1 + 4 + 1 + 4 ≤ 710; omega, by show 15387 + 138 * j + 5 + 64 + 5 + 64 ≤ 18723; omega⟩ (Nat.le_of_ble_eq_true rfl) (fun r sh3 M3 hI3 hw3 hMw3 => ?_)
    have hr := hI3.1
    subst hr
    refine g_aast (q0 := 202) (q := 1) rfl dX11_init_201 (cI_old hI3 hsB1) rfl (by omega) (by show (j : Int) < ((4 : Nat) : Int); omega) (cI_sh hI3) rfl rfl ?_
    obtain ⟨hC3, n1, n2, n3⟩ := cC_el (e := 476) (i := (j : Int)) (v := (sh1.length : Int)) hC1 hI3 (by decide) (by rw [List.length_append, List.length_append, kM0_len]; omega) rfl
    generalize gU M3 ((sh0.length + 1 + 476 : Nat) : Int) (j : Int) (sh1.length : Int) = M4 at hC3 n1 n2 n3 ⊢
    refine g_iinc (q0 := 205) (lv2 := [_, _]) rfl dX11_init_202 rfl (by decide) rfl rfl (by omega) (by omega) ?_
    refine g_goto (tgt := 171) dX11_init_205 (by decide) ?_
    refine gA_ck (c := 478 + 10 * (j + 1)) (d := 15387 + 138 * (j + 1)) (by show 478 + 10 * j + 1 + 4 + 1 + 4 = _; omega) (by show 15387 + 138 * j + 5 + 64 + 5 + 64 = _; omega) ?_
    rw [show (j : Int) + 1 = ((j + 1 : Nat) : Int) from rfl]
    have own : M4 (sh0.length : Int) = M (sh0.length : Int) := (n1 _ (by omega) (by omega)).trans (k1 _ (by omega) (by omega))
    refine ih (j + 1) _ _ (by omega) ⟨?_, fun i i0 i1 => by rw [own]; exact ho i i0 i1, by rw [own]; exact h16, ?_⟩
    · rw [List.append_assoc, List.append_assoc] at hC3
      exact hC3
    · intro i i0 i1
      by_cases q : i = (j : Int)
      · subst q
        refine ⟨?_, by rw [n3]; omega⟩
        rw [n1 _ (by omega) (by omega), k3]; omega
      · have h9 := hx i i0 (by omega)
        refine ⟨?_, ?_⟩
        · rw [n1 _ (by omega) (by omega), k2 i q]; exact h9.1
        · rw [n2 i q, k1 _ (by omega) (by omega)]; exact h9.2
theorem ct_X11_210 {sh0 : gS} {M0 : gM} {Q : Option gV → gS → gM → Prop} (hexit : ∀ (sh : gS) (M : gM), iXb sh0 M0 4 sh M → gA (gx 5 101 710 (18723)) yX11_init cX11_init 2 none Q (518 + 48 * 4, 15939 + 696 * 4) 247 [(4, (sh0.length : Int)), (0, ((4 : Nat) : Int))] [] sh M) : ∀ (k j : Nat) (sh : gS) (M : gM), j + k = 4 → iXb sh0 M0 j sh M → gA (gx 5 101 710 (18723)) yX11_init cX11_init 2 none Q (518 + 48 * j, 15939 + 696 * j) 210 [(4, (sh0.length : Int)), (0, (j : Int))] [] sh M := by
  intro k
  induction k with
  | zero =>
    intro j sh M hj hi
    have hj' : j = 4 := by omega
    subst hj'
    refine g_iload_n (q0 := 211) (j := 1) rfl dX11_init_210 rfl ?_
    refine g_iconst (q0 := 212) rfl dX11_init_211 (k := ?_)
    refine g_icmp_ge (q0 := 215) (tgt := 247) rfl dX11_init_212 (by decide) (fun h => hexit sh M hi) (fun h => absurd (show (4 : Int) ≤ ((4 : Nat) : Int) by decide) (by omega))
  | succ k ih =>
    intro j sh M hj hi
    obtain ⟨hC, ho, h16, hx⟩ := hi
    have hl : sh.length = sh0.length + 1 + (kM1 ++ kPla j).length := by rw [hC.1, List.length_append, List.length_cons]; omega
    rw [List.length_append, kPla_len, kH4_len] at hl
    have eA : M (sh0.length : Int) 5 = ((sh0.length + 1 + 408 : Nat) : Int) := by
      rw [ho 5 (by decide) (by decide)]
      exact (gD_so (c := 12) (f := 5) (d := 409) rfl).trans (by omega)
    have eB : M (sh0.length : Int) 15 = ((sh0.length + 1 + 477 : Nat) : Int) := by
      rw [ho 15 (by decide) (by decide)]
      exact (gD_so (c := 12) (f := 15) (d := 478) rfl).trans (by omega)
    have hsO : gsh sh (sh0.length : Int) = some (0, 12) := by rw [hC.1]; exact gsh_of (by simp)
    have hsA : gsh sh ((sh0.length + 1 + 408 : Nat) : Int) = some (8, 4) := cC_sh hC (app_at (by decide +kernel))
    have hsB : gsh sh ((sh0.length + 1 + 477 : Nat) : Int) = some (8, 4) := cC_sh hC (app_at (by decide +kernel))
    refine g_iload_n (q0 := 211) (j := 1) rfl dX11_init_210 rfl ?_
    refine g_iconst (q0 := 212) rfl dX11_init_211 (k := ?_)
    refine g_icmp_ge (q0 := 215) (tgt := 247) rfl dX11_init_212 (by decide) (fun h => by omega) (fun h => ?_)
    refine g_aload_n (q0 := 216) (j := 0) rfl dX11_init_215 rfl ?_
    refine g_getf (q0 := 219) (t := 4) (fi := 5) rfl rfl ff_X11_43 dX11_init_216 rfl hsO ?_
    rw [eA]
    refine g_iload_n (q0 := 220) (j := 1) rfl dX11_init_219 rfl ?_
    refine g_new (q0 := 223) rfl gcl_6 rfl rfl cl_X11_41 it_X5 ini_X5 dX11_init_220 (by show 518 + 48 * j + 1 ≤ 710; omega) (by show 15939 + 696 * j + 19 ≤ 18723; omega) ?_
    refine g_dup (q0 := 224) rfl dX11_init_223 (k := ?_)
    refine g_callN (as := []) (rest := [_, _, _]) mt_X5_init rfl mi_X5_init (host := "CarriedHistory") (List.mem_of_getElem? (i := 8) rfl) dX11_init_224 (q0 := 227) rfl rfl (Int.natCast_nonneg _) ct_X5 rfl ⟨by decide, by decide⟩ ⟨by show 518 + 48 * j + 1 + 23 ≤ 710; omega, by show 15939 + 696 * j + 19 + 329 ≤ 18723; omega⟩ (Nat.le_of_ble_eq_true rfl) (fun r sh1 M1 hI hw1 hMw1 => ?_)
    have hr := hI.1
    subst hr
    refine g_aast (q0 := 228) (q := 2) rfl dX11_init_227 (cI_old hI hsA) rfl (by omega) (by show (j : Int) < ((4 : Nat) : Int); omega) (cI_sh hI) rfl rfl ?_
    obtain ⟨hC1, k1, k2, k3⟩ := cC_el (e := 408) (i := (j : Int)) (v := (sh.length : Int)) hC hI (by decide) (by rw [List.length_append, kH4_len]; omega) rfl
    have hsO1 := cI_old hI hsO
    have hsB1 := cI_old hI hsB
    have hl1 : sh1.length = sh.length + 24 := by rw [hI.2.1, List.length_append]; rfl
    generalize gU M1 ((sh0.length + 1 + 408 : Nat) : Int) (j : Int) (sh.length : Int) = M2 at hC1 k1 k2 k3 ⊢
    refine g_aload_n (q0 := 229) (j := 0) rfl dX11_init_228 rfl ?_
    refine g_getf (q0 := 232) (t := 4) (fi := 15) rfl rfl ff_X11_95 dX11_init_229 rfl hsO1 ?_
    rw [k1 (sh0.length : Int) (by omega) (by omega), eB]
    refine g_iload_n (q0 := 233) (j := 1) rfl dX11_init_232 rfl ?_
    refine g_new (q0 := 236) rfl gcl_6 rfl rfl cl_X11_41 it_X5 ini_X5 dX11_init_233 (by show 518 + 48 * j + 1 + 23 + 1 ≤ 710; omega) (by show 15939 + 696 * j + 19 + 329 + 19 ≤ 18723; omega) ?_
    refine g_dup (q0 := 237) rfl dX11_init_236 (k := ?_)
    refine g_callN (as := []) (rest := [_, _, _]) mt_X5_init rfl mi_X5_init (host := "CarriedHistory") (List.mem_of_getElem? (i := 8) rfl) dX11_init_237 (q0 := 240) rfl rfl (Int.natCast_nonneg _) ct_X5 rfl ⟨by decide, by decide⟩ ⟨by show 518 + 48 * j + 1 + 23 + 1 + 23 ≤ 710; omega, by show 15939 + 696 * j + 19 + 329 + 19 + 329 ≤ 18723; omega⟩ (Nat.le_of_ble_eq_true rfl) (fun r sh3 M3 hI3 hw3 hMw3 => ?_)
    have hr := hI3.1
    subst hr
    refine g_aast (q0 := 241) (q := 2) rfl dX11_init_240 (cI_old hI3 hsB1) rfl (by omega) (by show (j : Int) < ((4 : Nat) : Int); omega) (cI_sh hI3) rfl rfl ?_
    obtain ⟨hC3, n1, n2, n3⟩ := cC_el (e := 477) (i := (j : Int)) (v := (sh1.length : Int)) hC1 hI3 (by decide) (by rw [List.length_append, List.length_append, kH4_len]; omega) rfl
    generalize gU M3 ((sh0.length + 1 + 477 : Nat) : Int) (j : Int) (sh1.length : Int) = M4 at hC3 n1 n2 n3 ⊢
    refine g_iinc (q0 := 244) (lv2 := [_, _]) rfl dX11_init_241 rfl (by decide) rfl rfl (by omega) (by omega) ?_
    refine g_goto (tgt := 210) dX11_init_244 (by decide) ?_
    refine gA_ck (c := 518 + 48 * (j + 1)) (d := 15939 + 696 * (j + 1)) (by show 518 + 48 * j + 1 + 23 + 1 + 23 = _; omega) (by show 15939 + 696 * j + 19 + 329 + 19 + 329 = _; omega) ?_
    rw [show (j : Int) + 1 = ((j + 1 : Nat) : Int) from rfl]
    have own : M4 (sh0.length : Int) = M (sh0.length : Int) := (n1 _ (by omega) (by omega)).trans (k1 _ (by omega) (by omega))
    refine ih (j + 1) _ _ (by omega) ⟨?_, fun i i0 i1 => by rw [own]; exact ho i i0 i1, by rw [own]; exact h16, ?_⟩
    · rw [List.append_assoc, List.append_assoc] at hC3
      exact hC3
    · refine ⟨fun i i0 i1 => ?_, fun i i0 i1 => ?_⟩
      · have h9 := hx.1 i i0 i1
        refine ⟨?_, ?_⟩
        · rw [n1 _ (by omega) (by omega), k1 _ (by omega) (by omega)]; exact h9.1
        · rw [n1 _ (by omega) (by omega), k1 _ (by omega) (by omega)]; exact h9.2
      · by_cases q : i = (j : Int)
        · subst q
          refine ⟨?_, by rw [n3]; omega⟩
          rw [n1 _ (by omega) (by omega), k3]; omega
        · have h9 := hx.2 i i0 (by omega)
          refine ⟨?_, ?_⟩
          · rw [n1 _ (by omega) (by omega), k2 i q]; exact h9.1
          · rw [n2 i q, k1 _ (by omega) (by omega)]; exact h9.2
theorem ct_X11 {sh0 : gS} {M0 : gM} : gC (gx 5 101 710 (18723)) yX11_init cX11_init 2 none [(4, (sh0.length : Int))] (sh0 ++ [(0, 12)]) (gN M0 (sh0.length : Int) (0, 12)) (bX11 sh0 M0) := by
  refine gC_ofA (lv := [_, _]) (by decide +kernel) (Nat.le_of_ble_eq_true rfl) rfl (fun hMw hav => ?_)
  refine gA_gen (cB [407, 408, 476, 477] 12 sh0 M0 [] 0) cB_0 (fun sh M hB => ?_)
  refine g_aload_n (q0 := 1) (j := 0) rfl dX11_init_0 rfl ?_
  refine g_objInit (q0 := 4) rfl (Int.natCast_nonneg _) ml_X11_1 mi_objectInit mc_objectInit dX11_init_1 (Nat.le_of_ble_eq_true rfl) (Nat.le_of_ble_eq_true rfl) ?_
  refine g_aload_n (q0 := 5) (j := 0) rfl dX11_init_4 rfl ?_
  refine g_new (q0 := 8) rfl gcl_10 rfl rfl cl_X11_7 it_X9 ini_X9 dX11_init_5 (Nat.le_of_ble_eq_true rfl) (Nat.le_of_ble_eq_true rfl) ?_
  refine g_dup (q0 := 9) rfl dX11_init_8 (k := ?_)
  refine g_callN (as := []) (rest := [_, _]) mt_X9_init rfl mi_X9_init (host := "CarriedHistory") (List.mem_of_getElem? (i := 0) rfl) dX11_init_9 (q0 := 12) rfl rfl (Int.natCast_nonneg _) (ct_X9) rfl ⟨by decide, by decide⟩ ⟨Nat.le_of_ble_eq_true rfl, Nat.le_of_ble_eq_true rfl⟩ (Nat.le_of_ble_eq_true rfl) (fun r sh1 M1 hI hw1 hMw1 => ?_)
  have hr := hI.1
  subst hr
  refine g_putC (q0 := 15) (t := 4) (fi := 0) rfl rfl ff_X11_10 dX11_init_12 rfl (cB_objp hB hI) rfl rfl (fun r h => by cases h; rfl) (fun G => by rw [gc_ref G (Int.natCast_nonneg _)]; exact ⟨rfl, rfl⟩) ?_
  refine gA_gen (cB [407, 408, 476, 477] 12 sh0 M0 ([] ++ (0, 10) :: kTpe) 1) (cB_obj hB hI (f := 0) rfl (by decide) (by decide +kernel) (by decide)) (fun sh M hB => ?_)
  refine g_aload_n (q0 := 16) (j := 0) rfl dX11_init_15 rfl ?_
  refine g_new (q0 := 19) rfl gcl_9 rfl rfl cl_X11_16 it_X8 ini_X8 dX11_init_16 (Nat.le_of_ble_eq_true rfl) (Nat.le_of_ble_eq_true rfl) ?_
  refine g_dup (q0 := 20) rfl dX11_init_19 (k := ?_)
  refine g_callN (as := []) (rest := [_, _]) mt_X8_init rfl mi_X8_init (host := "CarriedHistory") (List.mem_of_getElem? (i := 1) rfl) dX11_init_20 (q0 := 23) rfl rfl (Int.natCast_nonneg _) (ct_X8) rfl ⟨by decide, by decide⟩ ⟨Nat.le_of_ble_eq_true rfl, Nat.le_of_ble_eq_true rfl⟩ (Nat.le_of_ble_eq_true rfl) (fun r sh1 M1 hI hw1 hMw1 => ?_)
  have hr := hI.1
  subst hr
  refine g_putC (q0 := 26) (t := 4) (fi := 1) rfl rfl ff_X11_19 dX11_init_23 rfl (cB_objp hB hI) rfl rfl (fun r h => by cases h; rfl) (fun G => by rw [gc_ref G (Int.natCast_nonneg _)]; exact ⟨rfl, rfl⟩) ?_
  refine gA_gen (cB [407, 408, 476, 477] 12 sh0 M0 ([] ++ (0, 10) :: kTpe ++ (0, 9) :: kRwr) 2) (cB_obj hB hI (f := 1) rfl (by decide) (by decide +kernel) (by decide)) (fun sh M hB => ?_)
  refine g_aload_n (q0 := 27) (j := 0) rfl dX11_init_26 rfl ?_
  refine g_aload_n (q0 := 28) (j := 0) rfl dX11_init_27 rfl ?_
  refine g_getf (q0 := 31) (t := 4) (fi := 1) rfl rfl ff_X11_19 dX11_init_28 rfl (cB_own hB) ?_
  rw [m11_1 hB]
  refine g_getf (q0 := 34) (t := 4) (fi := 0) rfl rfl ff_X11_23 dX11_init_31 rfl (cC_sh hB.1 rfl) ?_
  rw [m11_2 hB]
  refine g_putC (q0 := 37) (t := 4) (fi := 2) rfl rfl ff_X11_27 dX11_init_34 rfl (cB_own hB) rfl rfl (fun r h => by cases h; rfl) (fun G => by rw [gc_ref G (by omega)]; exact ⟨rfl, rfl⟩) ?_
  refine gA_gen (cB [407, 408, 476, 477] 12 sh0 M0 ([] ++ (0, 10) :: kTpe ++ (0, 9) :: kRwr) 3) (cB_put hB (f := 2) (d := 4) rfl (by decide) rfl (by omega) (by decide)) (fun sh M hB => ?_)
  refine g_aload_n (q0 := 38) (j := 0) rfl dX11_init_37 rfl ?_
  refine g_new (q0 := 41) rfl gcl_3 rfl rfl cl_X11_28 it_X2 ini_X2 dX11_init_38 (Nat.le_of_ble_eq_true rfl) (Nat.le_of_ble_eq_true rfl) ?_
  refine g_dup (q0 := 42) rfl dX11_init_41 (k := ?_)
  refine g_callN (as := []) (rest := [_, _]) mt_X2_init rfl mi_X2_init (host := "CarriedHistory") (List.mem_of_getElem? (i := 3) rfl) dX11_init_42 (q0 := 45) rfl rfl (Int.natCast_nonneg _) (ct_X2) rfl ⟨by decide, by decide⟩ ⟨Nat.le_of_ble_eq_true rfl, Nat.le_of_ble_eq_true rfl⟩ (Nat.le_of_ble_eq_true rfl) (fun r sh1 M1 hI hw1 hMw1 => ?_)
  have hr := hI.1
  subst hr
  refine g_putC (q0 := 48) (t := 4) (fi := 3) rfl rfl ff_X11_31 dX11_init_45 rfl (cB_objp hB hI) rfl rfl (fun r h => by cases h; rfl) (fun G => by rw [gc_ref G (Int.natCast_nonneg _)]; exact ⟨rfl, rfl⟩) ?_
  refine gA_gen (cB [407, 408, 476, 477] 12 sh0 M0 ([] ++ (0, 10) :: kTpe ++ (0, 9) :: kRwr ++ (0, 3) :: kDrf) 4) (cB_obj hB hI (f := 3) rfl (by decide) (by decide +kernel) (by decide)) (fun sh M hB => ?_)
  refine g_aload_n (q0 := 49) (j := 0) rfl dX11_init_48 rfl ?_
  refine g_iconst (q0 := 50) rfl dX11_init_49 (k := ?_)
  refine g_newq (q0 := 53) (n := 4) (q := 1) rfl rfl cl_X11_35 rfl (by decide +kernel) dX11_init_50 (by decide) (Nat.le_of_ble_eq_true rfl) (Nat.le_of_ble_eq_true rfl) ?_
  refine g_putC (q0 := 56) (t := 4) (fi := 4) rfl rfl ff_X11_37 dX11_init_53 rfl (gsh_old (cB_own hB)) rfl rfl (fun r h => by cases h; rfl) (fun G => by rw [gc_ref G (Int.natCast_nonneg _)]; exact ⟨rfl, rfl⟩) ?_
  refine gA_gen (cB [407, 408, 476, 477] 12 sh0 M0 ([] ++ (0, 10) :: kTpe ++ (0, 9) :: kRwr ++ (0, 3) :: kDrf ++ [(7, 4)]) 5) (cB_arr hB (f := 4) rfl (Or.inl (by decide +kernel)) (by decide) (by decide +kernel) (by decide)) (fun sh M hB => ?_)
  refine g_aload_n (q0 := 57) (j := 0) rfl dX11_init_56 rfl ?_
  refine g_iconst (q0 := 58) rfl dX11_init_57 (k := ?_)
  refine g_newq (q0 := 61) (n := 4) (q := 2) rfl rfl cl_X11_41 rfl (by decide +kernel) dX11_init_58 (by decide) (Nat.le_of_ble_eq_true rfl) (Nat.le_of_ble_eq_true rfl) ?_
  refine g_putC (q0 := 64) (t := 4) (fi := 5) rfl rfl ff_X11_43 dX11_init_61 rfl (gsh_old (cB_own hB)) rfl rfl (fun r h => by cases h; rfl) (fun G => by rw [gc_ref G (Int.natCast_nonneg _)]; exact ⟨rfl, rfl⟩) ?_
  refine gA_gen (cB [407, 408, 476, 477] 12 sh0 M0 ([] ++ (0, 10) :: kTpe ++ (0, 9) :: kRwr ++ (0, 3) :: kDrf ++ [(7, 4)] ++ [(8, 4)]) 6) (cB_arr hB (f := 5) rfl (Or.inl (by decide +kernel)) (by decide) (by decide +kernel) (by decide)) (fun sh M hB => ?_)
  refine g_aload_n (q0 := 65) (j := 0) rfl dX11_init_64 rfl ?_
  refine g_new (q0 := 68) rfl gcl_7 rfl rfl cl_X11_47 it_X6 ini_X6 dX11_init_65 (Nat.le_of_ble_eq_true rfl) (Nat.le_of_ble_eq_true rfl) ?_
  refine g_dup (q0 := 69) rfl dX11_init_68 (k := ?_)
  refine g_callN (as := []) (rest := [_, _]) mt_X6_init rfl mi_X6_init (host := "CarriedHistory") (List.mem_of_getElem? (i := 4) rfl) dX11_init_69 (q0 := 72) rfl rfl (Int.natCast_nonneg _) (ct_X6) rfl ⟨by decide, by decide⟩ ⟨Nat.le_of_ble_eq_true rfl, Nat.le_of_ble_eq_true rfl⟩ (Nat.le_of_ble_eq_true rfl) (fun r sh1 M1 hI hw1 hMw1 => ?_)
  have hr := hI.1
  subst hr
  refine g_putC (q0 := 75) (t := 4) (fi := 6) rfl rfl ff_X11_50 dX11_init_72 rfl (cB_objp hB hI) rfl rfl (fun r h => by cases h; rfl) (fun G => by rw [gc_ref G (Int.natCast_nonneg _)]; exact ⟨rfl, rfl⟩) ?_
  refine gA_gen (cB [407, 408, 476, 477] 12 sh0 M0 ([] ++ (0, 10) :: kTpe ++ (0, 9) :: kRwr ++ (0, 3) :: kDrf ++ [(7, 4)] ++ [(8, 4)] ++ (0, 7) :: kPtx) 7) (cB_obj hB hI (f := 6) rfl (by decide) (by decide +kernel) (by decide)) (fun sh M hB => ?_)
  refine g_aload_n (q0 := 76) (j := 0) rfl dX11_init_75 rfl ?_
  refine g_new (q0 := 79) rfl gcl_8 rfl rfl cl_X11_35 it_X7 ini_X7 dX11_init_76 (Nat.le_of_ble_eq_true rfl) (Nat.le_of_ble_eq_true rfl) ?_
  refine g_dup (q0 := 80) rfl dX11_init_79 (k := ?_)
  refine g_callN (as := []) (rest := [_, _]) mt_X7_init rfl mi_X7_init (host := "CarriedHistory") (List.mem_of_getElem? (i := 6) rfl) dX11_init_80 (q0 := 83) rfl rfl (Int.natCast_nonneg _) (ct_X7) rfl ⟨by decide, by decide⟩ ⟨Nat.le_of_ble_eq_true rfl, Nat.le_of_ble_eq_true rfl⟩ (Nat.le_of_ble_eq_true rfl) (fun r sh1 M1 hI hw1 hMw1 => ?_)
  have hr := hI.1
  subst hr
  refine g_putC (q0 := 86) (t := 4) (fi := 7) rfl rfl ff_X11_55 dX11_init_83 rfl (cB_objp hB hI) rfl rfl (fun r h => by cases h; rfl) (fun G => by rw [gc_ref G (Int.natCast_nonneg _)]; exact ⟨rfl, rfl⟩) ?_
  refine gA_gen (cB [407, 408, 476, 477] 12 sh0 M0 ([] ++ (0, 10) :: kTpe ++ (0, 9) :: kRwr ++ (0, 3) :: kDrf ++ [(7, 4)] ++ [(8, 4)] ++ (0, 7) :: kPtx ++ (0, 8) :: kRfs) 8) (cB_obj hB hI (f := 7) rfl (by decide) (by decide +kernel) (by decide)) (fun sh M hB => ?_)
  refine g_aload_n (q0 := 87) (j := 0) rfl dX11_init_86 rfl ?_
  refine g_new (q0 := 90) rfl gcl_1 rfl rfl cl_X11_59 it_X0 ini_X0 dX11_init_87 (Nat.le_of_ble_eq_true rfl) (Nat.le_of_ble_eq_true rfl) ?_
  refine g_dup (q0 := 91) rfl dX11_init_90 (k := ?_)
  refine g_callN (as := []) (rest := [_, _]) mt_X0_init rfl mi_X0_init (host := "CarriedHistory") (List.mem_of_getElem? (i := 7) rfl) dX11_init_91 (q0 := 94) rfl rfl (Int.natCast_nonneg _) (ct_X0) rfl ⟨by decide, by decide⟩ ⟨Nat.le_of_ble_eq_true rfl, Nat.le_of_ble_eq_true rfl⟩ (Nat.le_of_ble_eq_true rfl) (fun r sh1 M1 hI hw1 hMw1 => ?_)
  have hr := hI.1
  subst hr
  refine g_putC (q0 := 97) (t := 4) (fi := 8) rfl rfl ff_X11_62 dX11_init_94 rfl (cB_objp hB hI) rfl rfl (fun r h => by cases h; rfl) (fun G => by rw [gc_ref G (Int.natCast_nonneg _)]; exact ⟨rfl, rfl⟩) ?_
  refine gA_gen (cB [407, 408, 476, 477] 12 sh0 M0 ([] ++ (0, 10) :: kTpe ++ (0, 9) :: kRwr ++ (0, 3) :: kDrf ++ [(7, 4)] ++ [(8, 4)] ++ (0, 7) :: kPtx ++ (0, 8) :: kRfs ++ (0, 1) :: kChg) 9) (cB_obj hB hI (f := 8) rfl (by decide) (by decide +kernel) (by decide)) (fun sh M hB => ?_)
  refine g_aload_n (q0 := 98) (j := 0) rfl dX11_init_97 rfl ?_
  refine g_new (q0 := 101) rfl gcl_1 rfl rfl cl_X11_59 it_X0 ini_X0 dX11_init_98 (Nat.le_of_ble_eq_true rfl) (Nat.le_of_ble_eq_true rfl) ?_
  refine g_dup (q0 := 102) rfl dX11_init_101 (k := ?_)
  refine g_callN (as := []) (rest := [_, _]) mt_X0_init rfl mi_X0_init (host := "CarriedHistory") (List.mem_of_getElem? (i := 7) rfl) dX11_init_102 (q0 := 105) rfl rfl (Int.natCast_nonneg _) (ct_X0) rfl ⟨by decide, by decide⟩ ⟨Nat.le_of_ble_eq_true rfl, Nat.le_of_ble_eq_true rfl⟩ (Nat.le_of_ble_eq_true rfl) (fun r sh1 M1 hI hw1 hMw1 => ?_)
  have hr := hI.1
  subst hr
  refine g_putC (q0 := 108) (t := 4) (fi := 9) rfl rfl ff_X11_66 dX11_init_105 rfl (cB_objp hB hI) rfl rfl (fun r h => by cases h; rfl) (fun G => by rw [gc_ref G (Int.natCast_nonneg _)]; exact ⟨rfl, rfl⟩) ?_
  refine gA_gen (cB [407, 408, 476, 477] 12 sh0 M0 ([] ++ (0, 10) :: kTpe ++ (0, 9) :: kRwr ++ (0, 3) :: kDrf ++ [(7, 4)] ++ [(8, 4)] ++ (0, 7) :: kPtx ++ (0, 8) :: kRfs ++ (0, 1) :: kChg ++ (0, 1) :: kChg) 10) (cB_obj hB hI (f := 9) rfl (by decide) (by decide +kernel) (by decide)) (fun sh M hB => ?_)
  refine g_aload_n (q0 := 109) (j := 0) rfl dX11_init_108 rfl ?_
  refine g_new (q0 := 112) rfl gcl_4 rfl rfl cl_X11_69 it_X3 ini_X3 dX11_init_109 (Nat.le_of_ble_eq_true rfl) (Nat.le_of_ble_eq_true rfl) ?_
  refine g_dup (q0 := 113) rfl dX11_init_112 (k := ?_)
  refine g_iconst (q0 := 114) rfl dX11_init_113 (k := ?_)
  refine g_callI (as := [_]) (rest := [_, _]) mt_X3_init rfl mi_X3_init ml_X11_71 dX11_init_114 (q0 := 117) rfl rfl (Int.natCast_nonneg _) (ct_X3 (n := 2) (by decide)) rfl ⟨by decide, by decide⟩ ⟨Nat.le_of_ble_eq_true rfl, Nat.le_of_ble_eq_true rfl⟩ (Nat.le_of_ble_eq_true rfl) (fun r sh1 M1 hI hw1 hMw1 => ?_)
  have hr := hI.1
  subst hr
  refine g_putC (q0 := 120) (t := 4) (fi := 10) rfl rfl ff_X11_74 dX11_init_117 rfl (cB_objp hB hI) rfl rfl (fun r h => by cases h; rfl) (fun G => by rw [gc_ref G (Int.natCast_nonneg _)]; exact ⟨rfl, rfl⟩) ?_
  refine gA_gen (cB [407, 408, 476, 477] 12 sh0 M0 ([] ++ (0, 10) :: kTpe ++ (0, 9) :: kRwr ++ (0, 3) :: kDrf ++ [(7, 4)] ++ [(8, 4)] ++ (0, 7) :: kPtx ++ (0, 8) :: kRfs ++ (0, 1) :: kChg ++ (0, 1) :: kChg ++ (0, 4) :: kMrk 2) 11) (cB_obj hB hI (f := 10) rfl (by decide) (by decide +kernel) (by decide)) (fun sh M hB => ?_)
  refine g_aload_n (q0 := 121) (j := 0) rfl dX11_init_120 rfl ?_
  refine g_bipush (q0 := 123) rfl dX11_init_121 (k := ?_)
  refine g_newI (q0 := 125) (n := 120) rfl rfl ac_int dX11_init_123 (by decide) (Nat.le_of_ble_eq_true rfl) (Nat.le_of_ble_eq_true rfl) ?_
  refine g_putC (q0 := 128) (t := 4) (fi := 11) rfl rfl ff_X11_78 dX11_init_125 rfl (gsh_old (cB_own hB)) rfl rfl (fun r h => by cases h; rfl) (fun G => by rw [gc_ref G (Int.natCast_nonneg _)]; exact ⟨rfl, rfl⟩) ?_
  refine gA_gen (cB [407, 408, 476, 477] 12 sh0 M0 ([] ++ (0, 10) :: kTpe ++ (0, 9) :: kRwr ++ (0, 3) :: kDrf ++ [(7, 4)] ++ [(8, 4)] ++ (0, 7) :: kPtx ++ (0, 8) :: kRfs ++ (0, 1) :: kChg ++ (0, 1) :: kChg ++ (0, 4) :: kMrk 2 ++ [(1, 120)]) 12) (cB_arr hB (f := 11) rfl (Or.inr (fun b i => rfl)) (by decide) (by decide +kernel) (by decide)) (fun sh M hB => ?_)
  refine g_aload_n (q0 := 129) (j := 0) rfl dX11_init_128 rfl ?_
  refine g_sipush (q0 := 132) rfl dX11_init_129 (k := ?_)
  refine g_newI (q0 := 134) (n := 4096) rfl rfl ac_int dX11_init_132 (by decide) (Nat.le_of_ble_eq_true rfl) (Nat.le_of_ble_eq_true rfl) ?_
  refine g_putC (q0 := 137) (t := 4) (fi := 12) rfl rfl ff_X11_82 dX11_init_134 rfl (gsh_old (cB_own hB)) rfl rfl (fun r h => by cases h; rfl) (fun G => by rw [gc_ref G (Int.natCast_nonneg _)]; exact ⟨rfl, rfl⟩) ?_
  refine gA_gen (cB [407, 408, 476, 477] 12 sh0 M0 ([] ++ (0, 10) :: kTpe ++ (0, 9) :: kRwr ++ (0, 3) :: kDrf ++ [(7, 4)] ++ [(8, 4)] ++ (0, 7) :: kPtx ++ (0, 8) :: kRfs ++ (0, 1) :: kChg ++ (0, 1) :: kChg ++ (0, 4) :: kMrk 2 ++ [(1, 120)] ++ [(1, 4096)]) 13) (cB_arr hB (f := 12) rfl (Or.inr (fun b i => rfl)) (by decide) (by decide +kernel) (by decide)) (fun sh M hB => ?_)
  refine g_aload_n (q0 := 138) (j := 0) rfl dX11_init_137 rfl ?_
  refine g_new (q0 := 141) rfl gcl_0 rfl rfl cl_X11_85 it_J4 ini_J4 dX11_init_138 (Nat.le_of_ble_eq_true rfl) (Nat.le_of_ble_eq_true rfl) ?_
  refine g_dup (q0 := 142) rfl dX11_init_141 (k := ?_)
  refine g_callI (as := []) (rest := [_, _]) mt_J4_init_da8c8 rfl mi_J4_init_da8c8 ml_X11_87 dX11_init_142 (q0 := 145) rfl rfl (Int.natCast_nonneg _) (ct_J4) rfl ⟨by decide, by decide⟩ ⟨Nat.le_of_ble_eq_true rfl, Nat.le_of_ble_eq_true rfl⟩ (Nat.le_of_ble_eq_true rfl) (fun r sh1 M1 hI hw1 hMw1 => ?_)
  have hr := hI.1
  subst hr
  refine g_putC (q0 := 148) (t := 4) (fi := 13) rfl rfl ff_X11_88 dX11_init_145 rfl (cB_objp hB hI) rfl rfl (fun r h => by cases h; rfl) (fun G => by rw [gc_ref G (Int.natCast_nonneg _)]; exact ⟨rfl, rfl⟩) ?_
  refine gA_gen (cB [407, 408, 476, 477] 12 sh0 M0 ([] ++ (0, 10) :: kTpe ++ (0, 9) :: kRwr ++ (0, 3) :: kDrf ++ [(7, 4)] ++ [(8, 4)] ++ (0, 7) :: kPtx ++ (0, 8) :: kRfs ++ (0, 1) :: kChg ++ (0, 1) :: kChg ++ (0, 4) :: kMrk 2 ++ [(1, 120)] ++ [(1, 4096)] ++ (0, 0) :: kSB) 14) (cB_obj hB hI (f := 13) rfl (by decide) (by decide +kernel) (by decide)) (fun sh M hB => ?_)
  refine g_aload_n (q0 := 149) (j := 0) rfl dX11_init_148 rfl ?_
  refine g_iconst (q0 := 150) rfl dX11_init_149 (k := ?_)
  refine g_newq (q0 := 153) (n := 4) (q := 1) rfl rfl cl_X11_35 rfl (by decide +kernel) dX11_init_150 (by decide) (Nat.le_of_ble_eq_true rfl) (Nat.le_of_ble_eq_true rfl) ?_
  refine g_putC (q0 := 156) (t := 4) (fi := 14) rfl rfl ff_X11_92 dX11_init_153 rfl (gsh_old (cB_own hB)) rfl rfl (fun r h => by cases h; rfl) (fun G => by rw [gc_ref G (Int.natCast_nonneg _)]; exact ⟨rfl, rfl⟩) ?_
  refine gA_gen (cB [407, 408, 476, 477] 12 sh0 M0 ([] ++ (0, 10) :: kTpe ++ (0, 9) :: kRwr ++ (0, 3) :: kDrf ++ [(7, 4)] ++ [(8, 4)] ++ (0, 7) :: kPtx ++ (0, 8) :: kRfs ++ (0, 1) :: kChg ++ (0, 1) :: kChg ++ (0, 4) :: kMrk 2 ++ [(1, 120)] ++ [(1, 4096)] ++ (0, 0) :: kSB ++ [(7, 4)]) 15) (cB_arr hB (f := 14) rfl (Or.inl (by decide +kernel)) (by decide) (by decide +kernel) (by decide)) (fun sh M hB => ?_)
  refine g_aload_n (q0 := 157) (j := 0) rfl dX11_init_156 rfl ?_
  refine g_iconst (q0 := 158) rfl dX11_init_157 (k := ?_)
  refine g_newq (q0 := 161) (n := 4) (q := 2) rfl rfl cl_X11_41 rfl (by decide +kernel) dX11_init_158 (by decide) (Nat.le_of_ble_eq_true rfl) (Nat.le_of_ble_eq_true rfl) ?_
  refine g_putC (q0 := 164) (t := 4) (fi := 15) rfl rfl ff_X11_95 dX11_init_161 rfl (gsh_old (cB_own hB)) rfl rfl (fun r h => by cases h; rfl) (fun G => by rw [gc_ref G (Int.natCast_nonneg _)]; exact ⟨rfl, rfl⟩) ?_
  refine gA_gen (cB [407, 408, 476, 477] 12 sh0 M0 ([] ++ (0, 10) :: kTpe ++ (0, 9) :: kRwr ++ (0, 3) :: kDrf ++ [(7, 4)] ++ [(8, 4)] ++ (0, 7) :: kPtx ++ (0, 8) :: kRfs ++ (0, 1) :: kChg ++ (0, 1) :: kChg ++ (0, 4) :: kMrk 2 ++ [(1, 120)] ++ [(1, 4096)] ++ (0, 0) :: kSB ++ [(7, 4)] ++ [(8, 4)]) 16) (cB_arr hB (f := 15) rfl (Or.inl (by decide +kernel)) (by decide) (by decide +kernel) (by decide)) (fun sh M hB => ?_)
  refine g_aload_n (q0 := 165) (j := 0) rfl dX11_init_164 rfl ?_
  refine g_iconst (q0 := 166) rfl dX11_init_165 (k := ?_)
  refine g_put (q0 := 169) (t := 0) (fi := 16) rfl rfl ff_X11_98 dX11_init_166 rfl (cB_own hB) rfl (fun G => ⟨rfl, rfl⟩) ?_
  refine g_iconst (q0 := 170) rfl dX11_init_169 (k := ?_)
  refine g_istore_n (q0 := 171) (j := 1) (lv2 := [_, _]) rfl dX11_init_170 (by decide) rfl rfl ?_
  refine gA_ck (c := 478 + 10 * 0) (d := 15387 + 138 * 0) rfl rfl ?_
  have hB : cB [407, 408, 476, 477] 12 sh0 M0 kM0 16 sh M := hB
  refine ct_X11_171 (M0 := M0) (fun sh M hi => ?_) 4 0 _ _ rfl ⟨by
    rw [show kM0 ++ kHis 0 = kM0 from List.append_nil _]
    exact ⟨hB.1.1, fun b hb => by rw [gU_cell _ _ _ (by omega)]; exact hB.1.2.1 b hb, fun e q hd hq i hg => by rw [gU_cell _ _ _ (by omega)]; exact hB.1.2.2 e q hd hq i hg⟩, fun i i0 i1 => ?_, gU_same _ _ _ _, fun i i0 i1 => by omega⟩
  · refine g_iconst (q0 := 209) rfl dX11_init_208 (k := ?_)
    refine g_istore_n (q0 := 210) (j := 1) (lv2 := [_, _]) rfl dX11_init_209 (by decide) rfl rfl ?_
    refine gA_ck (c := 518 + 48 * 0) (d := 15939 + 696 * 0) rfl rfl ?_
    refine ct_X11_210 (M0 := M0) (fun sh M hi => ?_) 4 0 _ _ rfl ⟨by
      have h9 := hi.1
      rw [show kM1 ++ kPla 0 = kM1 from List.append_nil _]
      exact h9, hi.2.1, hi.2.2.1, hi.2.2.2, fun i i0 i1 => by omega⟩
    exact g_return dX11_init_247 rfl ⟨Nat.le_of_ble_eq_true rfl, Nat.le_of_ble_eq_true rfl⟩ ⟨rfl, hi⟩
  · have e2 : gU M (sh0.length : Int) 16 (-1) (sh0.length : Int) i = M (sh0.length : Int) i := by simp [gU, show i ≠ 16 by omega]
    rw [e2, hB.2 i, if_pos (by omega)]
theorem dX12_init_0 : decode cX12_init 0 = .ok (.aload_n 0, 1) := by decide +kernel
theorem dX12_init_1 : decode cX12_init 1 = .ok (.invokespecial 1, 3) := by decide +kernel
theorem dX12_init_4 : decode cX12_init 4 = .ok (.aload_n 0, 1) := by decide +kernel
theorem dX12_init_5 : decode cX12_init 5 = .ok (.bipush 120, 2) := by decide +kernel
theorem dX12_init_7 : decode cX12_init 7 = .ok (.newarray .int, 2) := by decide +kernel
theorem dX12_init_9 : decode cX12_init 9 = .ok (.putfield 7, 3) := by decide +kernel
theorem dX12_init_12 : decode cX12_init 12 = .ok (.aload_n 0, 1) := by decide +kernel
theorem dX12_init_13 : decode cX12_init 13 = .ok (.sipush 360, 3) := by decide +kernel
theorem dX12_init_16 : decode cX12_init 16 = .ok (.newarray .int, 2) := by decide +kernel
theorem dX12_init_18 : decode cX12_init 18 = .ok (.putfield 13, 3) := by decide +kernel
theorem dX12_init_21 : decode cX12_init 21 = .ok (.aload_n 0, 1) := by decide +kernel
theorem dX12_init_22 : decode cX12_init 22 = .ok (.bipush 120, 2) := by decide +kernel
theorem dX12_init_24 : decode cX12_init 24 = .ok (.newarray .int, 2) := by decide +kernel
theorem dX12_init_26 : decode cX12_init 26 = .ok (.putfield 16, 3) := by decide +kernel
theorem dX12_init_29 : decode cX12_init 29 = .ok (.aload_n 0, 1) := by decide +kernel
theorem dX12_init_30 : decode cX12_init 30 = .ok (.bipush 120, 2) := by decide +kernel
theorem dX12_init_32 : decode cX12_init 32 = .ok (.newarray .int, 2) := by decide +kernel
theorem dX12_init_34 : decode cX12_init 34 = .ok (.putfield 19, 3) := by decide +kernel
theorem dX12_init_37 : decode cX12_init 37 = .ok (.aload_n 0, 1) := by decide +kernel
theorem dX12_init_38 : decode cX12_init 38 = .ok (.bipush 120, 2) := by decide +kernel
theorem dX12_init_40 : decode cX12_init 40 = .ok (.newarray .int, 2) := by decide +kernel
theorem dX12_init_42 : decode cX12_init 42 = .ok (.putfield 22, 3) := by decide +kernel
theorem dX12_init_45 : decode cX12_init 45 = .ok (.aload_n 0, 1) := by decide +kernel
theorem dX12_init_46 : decode cX12_init 46 = .ok (.sipush 2880, 3) := by decide +kernel
theorem dX12_init_49 : decode cX12_init 49 = .ok (.newarray .int, 2) := by decide +kernel
theorem dX12_init_51 : decode cX12_init 51 = .ok (.putfield 25, 3) := by decide +kernel
theorem dX12_init_54 : decode cX12_init 54 = .ok (.aload_n 0, 1) := by decide +kernel
theorem dX12_init_55 : decode cX12_init 55 = .ok (.bipush 123, 2) := by decide +kernel
theorem dX12_init_57 : decode cX12_init 57 = .ok (.newarray .int, 2) := by decide +kernel
theorem dX12_init_59 : decode cX12_init 59 = .ok (.putfield 28, 3) := by decide +kernel
theorem dX12_init_62 : decode cX12_init 62 = .ok (.aload_n 0, 1) := by decide +kernel
theorem dX12_init_63 : decode cX12_init 63 = .ok (.sipush 2016, 3) := by decide +kernel
theorem dX12_init_66 : decode cX12_init 66 = .ok (.newarray .int, 2) := by decide +kernel
theorem dX12_init_68 : decode cX12_init 68 = .ok (.putfield 31, 3) := by decide +kernel
theorem dX12_init_71 : decode cX12_init 71 = .ok (.aload_n 0, 1) := by decide +kernel
theorem dX12_init_72 : decode cX12_init 72 = .ok (.sipush 2016, 3) := by decide +kernel
theorem dX12_init_75 : decode cX12_init 75 = .ok (.newarray .int, 2) := by decide +kernel
theorem dX12_init_77 : decode cX12_init 77 = .ok (.putfield 34, 3) := by decide +kernel
theorem dX12_init_80 : decode cX12_init 80 = .ok (.aload_n 0, 1) := by decide +kernel
theorem dX12_init_81 : decode cX12_init 81 = .ok (.iconst 3, 1) := by decide +kernel
theorem dX12_init_82 : decode cX12_init 82 = .ok (.newarray .int, 2) := by decide +kernel
theorem dX12_init_84 : decode cX12_init 84 = .ok (.putfield 37, 3) := by decide +kernel
theorem dX12_init_87 : decode cX12_init 87 = .ok (.aload_n 0, 1) := by decide +kernel
theorem dX12_init_88 : decode cX12_init 88 = .ok (.sipush 400, 3) := by decide +kernel
theorem dX12_init_91 : decode cX12_init 91 = .ok (.newarray .int, 2) := by decide +kernel
theorem dX12_init_93 : decode cX12_init 93 = .ok (.putfield 40, 3) := by decide +kernel
theorem dX12_init_96 : decode cX12_init 96 = .ok (.aload_n 0, 1) := by decide +kernel
theorem dX12_init_97 : decode cX12_init 97 = .ok (.bipush 120, 2) := by decide +kernel
theorem dX12_init_99 : decode cX12_init 99 = .ok (.newarray .boolean, 2) := by decide +kernel
theorem dX12_init_101 : decode cX12_init 101 = .ok (.putfield 43, 3) := by decide +kernel
theorem dX12_init_104 : decode cX12_init 104 = .ok (.aload_n 0, 1) := by decide +kernel
theorem dX12_init_105 : decode cX12_init 105 = .ok (.bipush 120, 2) := by decide +kernel
theorem dX12_init_107 : decode cX12_init 107 = .ok (.newarray .boolean, 2) := by decide +kernel
theorem dX12_init_109 : decode cX12_init 109 = .ok (.putfield 47, 3) := by decide +kernel
theorem dX12_init_112 : decode cX12_init 112 = .ok (.aload_n 0, 1) := by decide +kernel
theorem dX12_init_113 : decode cX12_init 113 = .ok (.bipush 120, 2) := by decide +kernel
theorem dX12_init_115 : decode cX12_init 115 = .ok (.newarray .int, 2) := by decide +kernel
theorem dX12_init_117 : decode cX12_init 117 = .ok (.putfield 50, 3) := by decide +kernel
theorem dX12_init_120 : decode cX12_init 120 = .ok (.aload_n 0, 1) := by decide +kernel
theorem dX12_init_121 : decode cX12_init 121 = .ok (.sipush 260, 3) := by decide +kernel
theorem dX12_init_124 : decode cX12_init 124 = .ok (.newarray .byte, 2) := by decide +kernel
theorem dX12_init_126 : decode cX12_init 126 = .ok (.putfield 53, 3) := by decide +kernel
theorem dX12_init_129 : decode cX12_init 129 = .ok (.aload_n 0, 1) := by decide +kernel
theorem dX12_init_130 : decode cX12_init 130 = .ok (.sipush 208, 3) := by decide +kernel
theorem dX12_init_133 : decode cX12_init 133 = .ok (.newarray .int, 2) := by decide +kernel
theorem dX12_init_135 : decode cX12_init 135 = .ok (.putfield 57, 3) := by decide +kernel
theorem dX12_init_138 : decode cX12_init 138 = .ok (.aload_n 0, 1) := by decide +kernel
theorem dX12_init_139 : decode cX12_init 139 = .ok (.sipush 208, 3) := by decide +kernel
theorem dX12_init_142 : decode cX12_init 142 = .ok (.newarray .int, 2) := by decide +kernel
theorem dX12_init_144 : decode cX12_init 144 = .ok (.putfield 60, 3) := by decide +kernel
theorem dX12_init_147 : decode cX12_init 147 = .ok (.aload_n 0, 1) := by decide +kernel
theorem dX12_init_148 : decode cX12_init 148 = .ok (.sipush 340, 3) := by decide +kernel
theorem dX12_init_151 : decode cX12_init 151 = .ok (.newarray .int, 2) := by decide +kernel
theorem dX12_init_153 : decode cX12_init 153 = .ok (.putfield 63, 3) := by decide +kernel
theorem dX12_init_156 : decode cX12_init 156 = .ok (.aload_n 0, 1) := by decide +kernel
theorem dX12_init_157 : decode cX12_init 157 = .ok (.sipush 480, 3) := by decide +kernel
theorem dX12_init_160 : decode cX12_init 160 = .ok (.newarray .int, 2) := by decide +kernel
theorem dX12_init_162 : decode cX12_init 162 = .ok (.putfield 66, 3) := by decide +kernel
theorem dX12_init_165 : decode cX12_init 165 = .ok (.aload_n 0, 1) := by decide +kernel
theorem dX12_init_166 : decode cX12_init 166 = .ok (.sipush 480, 3) := by decide +kernel
theorem dX12_init_169 : decode cX12_init 169 = .ok (.newarray .int, 2) := by decide +kernel
theorem dX12_init_171 : decode cX12_init 171 = .ok (.putfield 69, 3) := by decide +kernel
theorem dX12_init_174 : decode cX12_init 174 = .ok (.aload_n 0, 1) := by decide +kernel
theorem dX12_init_175 : decode cX12_init 175 = .ok (.bipush 120, 2) := by decide +kernel
theorem dX12_init_177 : decode cX12_init 177 = .ok (.newarray .boolean, 2) := by decide +kernel
theorem dX12_init_179 : decode cX12_init 179 = .ok (.putfield 72, 3) := by decide +kernel
theorem dX12_init_182 : decode cX12_init 182 = .ok (.aload_n 0, 1) := by decide +kernel
theorem dX12_init_183 : decode cX12_init 183 = .ok (.iconst 3, 1) := by decide +kernel
theorem dX12_init_184 : decode cX12_init 184 = .ok (.newarray .int, 2) := by decide +kernel
theorem dX12_init_186 : decode cX12_init 186 = .ok (.putfield 75, 3) := by decide +kernel
theorem dX12_init_189 : decode cX12_init 189 = .ok (.aload_n 0, 1) := by decide +kernel
theorem dX12_init_190 : decode cX12_init 190 = .ok (.iconst 3, 1) := by decide +kernel
theorem dX12_init_191 : decode cX12_init 191 = .ok (.newarray .int, 2) := by decide +kernel
theorem dX12_init_193 : decode cX12_init 193 = .ok (.putfield 78, 3) := by decide +kernel
theorem dX12_init_196 : decode cX12_init 196 = .ok (.aload_n 0, 1) := by decide +kernel
theorem dX12_init_197 : decode cX12_init 197 = .ok (.iconst 3, 1) := by decide +kernel
theorem dX12_init_198 : decode cX12_init 198 = .ok (.newarray .boolean, 2) := by decide +kernel
theorem dX12_init_200 : decode cX12_init 200 = .ok (.putfield 81, 3) := by decide +kernel
theorem dX12_init_203 : decode cX12_init 203 = .ok (.aload_n 0, 1) := by decide +kernel
theorem dX12_init_204 : decode cX12_init 204 = .ok (.bipush 120, 2) := by decide +kernel
theorem dX12_init_206 : decode cX12_init 206 = .ok (.newarray .boolean, 2) := by decide +kernel
theorem dX12_init_208 : decode cX12_init 208 = .ok (.putfield 84, 3) := by decide +kernel
theorem dX12_init_211 : decode cX12_init 211 = .ok (.aload_n 0, 1) := by decide +kernel
theorem dX12_init_212 : decode cX12_init 212 = .ok (.bipush 52, 2) := by decide +kernel
theorem dX12_init_214 : decode cX12_init 214 = .ok (.newarray .int, 2) := by decide +kernel
theorem dX12_init_216 : decode cX12_init 216 = .ok (.putfield 87, 3) := by decide +kernel
theorem dX12_init_219 : decode cX12_init 219 = .ok (.aload_n 0, 1) := by decide +kernel
theorem dX12_init_220 : decode cX12_init 220 = .ok (.bipush 52, 2) := by decide +kernel
theorem dX12_init_222 : decode cX12_init 222 = .ok (.newarray .int, 2) := by decide +kernel
theorem dX12_init_224 : decode cX12_init 224 = .ok (.putfield 90, 3) := by decide +kernel
theorem dX12_init_227 : decode cX12_init 227 = .ok (.aload_n 0, 1) := by decide +kernel
theorem dX12_init_228 : decode cX12_init 228 = .ok (.bipush 120, 2) := by decide +kernel
theorem dX12_init_230 : decode cX12_init 230 = .ok (.newarray .int, 2) := by decide +kernel
theorem dX12_init_232 : decode cX12_init 232 = .ok (.putfield 93, 3) := by decide +kernel
theorem dX12_init_235 : decode cX12_init 235 = .ok (.aload_n 0, 1) := by decide +kernel
theorem dX12_init_236 : decode cX12_init 236 = .ok (.bipush 120, 2) := by decide +kernel
theorem dX12_init_238 : decode cX12_init 238 = .ok (.newarray .int, 2) := by decide +kernel
theorem dX12_init_240 : decode cX12_init 240 = .ok (.putfield 96, 3) := by decide +kernel
theorem dX12_init_243 : decode cX12_init 243 = .ok (.aload_n 0, 1) := by decide +kernel
theorem dX12_init_244 : decode cX12_init 244 = .ok (.bipush 32, 2) := by decide +kernel
theorem dX12_init_246 : decode cX12_init 246 = .ok (.newarray .int, 2) := by decide +kernel
theorem dX12_init_248 : decode cX12_init 248 = .ok (.putfield 99, 3) := by decide +kernel
theorem dX12_init_251 : decode cX12_init 251 = .ok (.aload_n 0, 1) := by decide +kernel
theorem dX12_init_252 : decode cX12_init 252 = .ok (.bipush 32, 2) := by decide +kernel
theorem dX12_init_254 : decode cX12_init 254 = .ok (.newarray .int, 2) := by decide +kernel
theorem dX12_init_256 : decode cX12_init 256 = .ok (.putfield 102, 3) := by decide +kernel
theorem dX12_init_259 : decode cX12_init 259 = .ok (.aload_n 0, 1) := by decide +kernel
theorem dX12_init_260 : decode cX12_init 260 = .ok (.bipush 32, 2) := by decide +kernel
theorem dX12_init_262 : decode cX12_init 262 = .ok (.newarray .int, 2) := by decide +kernel
theorem dX12_init_264 : decode cX12_init 264 = .ok (.putfield 105, 3) := by decide +kernel
theorem dX12_init_267 : decode cX12_init 267 = .ok (.aload_n 0, 1) := by decide +kernel
theorem dX12_init_268 : decode cX12_init 268 = .ok (.bipush 32, 2) := by decide +kernel
theorem dX12_init_270 : decode cX12_init 270 = .ok (.newarray .int, 2) := by decide +kernel
theorem dX12_init_272 : decode cX12_init 272 = .ok (.putfield 108, 3) := by decide +kernel
theorem dX12_init_275 : decode cX12_init 275 = .ok (.aload_n 0, 1) := by decide +kernel
theorem dX12_init_276 : decode cX12_init 276 = .ok (.bipush 32, 2) := by decide +kernel
theorem dX12_init_278 : decode cX12_init 278 = .ok (.newarray .int, 2) := by decide +kernel
theorem dX12_init_280 : decode cX12_init 280 = .ok (.putfield 111, 3) := by decide +kernel
theorem dX12_init_283 : decode cX12_init 283 = .ok (.aload_n 0, 1) := by decide +kernel
theorem dX12_init_284 : decode cX12_init 284 = .ok (.bipush 120, 2) := by decide +kernel
theorem dX12_init_286 : decode cX12_init 286 = .ok (.newarray .boolean, 2) := by decide +kernel
theorem dX12_init_288 : decode cX12_init 288 = .ok (.putfield 114, 3) := by decide +kernel
theorem dX12_init_291 : decode cX12_init 291 = .ok (.aload_n 0, 1) := by decide +kernel
theorem dX12_init_292 : decode cX12_init 292 = .ok (.bipush 120, 2) := by decide +kernel
theorem dX12_init_294 : decode cX12_init 294 = .ok (.newarray .boolean, 2) := by decide +kernel
theorem dX12_init_296 : decode cX12_init 296 = .ok (.putfield 117, 3) := by decide +kernel
theorem dX12_init_299 : decode cX12_init 299 = .ok (.aload_n 0, 1) := by decide +kernel
theorem dX12_init_300 : decode cX12_init 300 = .ok (.bipush 120, 2) := by decide +kernel
theorem dX12_init_302 : decode cX12_init 302 = .ok (.newarray .boolean, 2) := by decide +kernel
theorem dX12_init_304 : decode cX12_init 304 = .ok (.putfield 120, 3) := by decide +kernel
theorem dX12_init_307 : decode cX12_init 307 = .ok (.aload_n 0, 1) := by decide +kernel
theorem dX12_init_308 : decode cX12_init 308 = .ok (.bipush 120, 2) := by decide +kernel
theorem dX12_init_310 : decode cX12_init 310 = .ok (.newarray .int, 2) := by decide +kernel
theorem dX12_init_312 : decode cX12_init 312 = .ok (.putfield 123, 3) := by decide +kernel
theorem dX12_init_315 : decode cX12_init 315 = .ok (.aload_n 0, 1) := by decide +kernel
theorem dX12_init_316 : decode cX12_init 316 = .ok (.bipush 56, 2) := by decide +kernel
theorem dX12_init_318 : decode cX12_init 318 = .ok (.newarray .int, 2) := by decide +kernel
theorem dX12_init_320 : decode cX12_init 320 = .ok (.putfield 126, 3) := by decide +kernel
theorem dX12_init_323 : decode cX12_init 323 = .ok (.aload_n 0, 1) := by decide +kernel
theorem dX12_init_324 : decode cX12_init 324 = .ok (.bipush 16, 2) := by decide +kernel
theorem dX12_init_326 : decode cX12_init 326 = .ok (.newarray .int, 2) := by decide +kernel
theorem dX12_init_328 : decode cX12_init 328 = .ok (.putfield 129, 3) := by decide +kernel
theorem dX12_init_331 : decode cX12_init 331 = .ok (.aload_n 0, 1) := by decide +kernel
theorem dX12_init_332 : decode cX12_init 332 = .ok (.bipush 16, 2) := by decide +kernel
theorem dX12_init_334 : decode cX12_init 334 = .ok (.newarray .int, 2) := by decide +kernel
theorem dX12_init_336 : decode cX12_init 336 = .ok (.putfield 132, 3) := by decide +kernel
theorem dX12_init_339 : decode cX12_init 339 = .ok (.aload_n 0, 1) := by decide +kernel
theorem dX12_init_340 : decode cX12_init 340 = .ok (.sipush 208, 3) := by decide +kernel
theorem dX12_init_343 : decode cX12_init 343 = .ok (.newarray .int, 2) := by decide +kernel
theorem dX12_init_345 : decode cX12_init 345 = .ok (.putfield 135, 3) := by decide +kernel
theorem dX12_init_348 : decode cX12_init 348 = .ok (.aload_n 0, 1) := by decide +kernel
theorem dX12_init_349 : decode cX12_init 349 = .ok (.sipush 208, 3) := by decide +kernel
theorem dX12_init_352 : decode cX12_init 352 = .ok (.newarray .int, 2) := by decide +kernel
theorem dX12_init_354 : decode cX12_init 354 = .ok (.putfield 138, 3) := by decide +kernel
theorem dX12_init_357 : decode cX12_init 357 = .ok (.aload_n 0, 1) := by decide +kernel
theorem dX12_init_358 : decode cX12_init 358 = .ok (.sipush 272, 3) := by decide +kernel
theorem dX12_init_361 : decode cX12_init 361 = .ok (.newarray .int, 2) := by decide +kernel
theorem dX12_init_363 : decode cX12_init 363 = .ok (.putfield 141, 3) := by decide +kernel
theorem dX12_init_366 : decode cX12_init 366 = .ok (.aload_n 0, 1) := by decide +kernel
theorem dX12_init_367 : decode cX12_init 367 = .ok (.sipush 480, 3) := by decide +kernel
theorem dX12_init_370 : decode cX12_init 370 = .ok (.newarray .int, 2) := by decide +kernel
theorem dX12_init_372 : decode cX12_init 372 = .ok (.putfield 144, 3) := by decide +kernel
theorem dX12_init_375 : decode cX12_init 375 = .ok (.aload_n 0, 1) := by decide +kernel
theorem dX12_init_376 : decode cX12_init 376 = .ok (.sipush 480, 3) := by decide +kernel
theorem dX12_init_379 : decode cX12_init 379 = .ok (.newarray .int, 2) := by decide +kernel
theorem dX12_init_381 : decode cX12_init 381 = .ok (.putfield 147, 3) := by decide +kernel
theorem dX12_init_384 : decode cX12_init 384 = .ok (.iconst 0, 1) := by decide +kernel
theorem dX12_init_385 : decode cX12_init 385 = .ok (.istore_n 1, 1) := by decide +kernel
theorem dX12_init_386 : decode cX12_init 386 = .ok (.iload_n 1, 1) := by decide +kernel
theorem dX12_init_387 : decode cX12_init 387 = .ok (.sipush 208, 3) := by decide +kernel
theorem dX12_init_390 : decode cX12_init 390 = .ok (.if_icmp .ge 23, 3) := by decide +kernel
theorem dX12_init_393 : decode cX12_init 393 = .ok (.aload_n 0, 1) := by decide +kernel
theorem dX12_init_394 : decode cX12_init 394 = .ok (.getfield 57, 3) := by decide +kernel
theorem dX12_init_397 : decode cX12_init 397 = .ok (.iload_n 1, 1) := by decide +kernel
theorem dX12_init_398 : decode cX12_init 398 = .ok (.iconst (-1), 1) := by decide +kernel
theorem dX12_init_399 : decode cX12_init 399 = .ok (.iastore, 1) := by decide +kernel
theorem dX12_init_400 : decode cX12_init 400 = .ok (.aload_n 0, 1) := by decide +kernel
theorem dX12_init_401 : decode cX12_init 401 = .ok (.getfield 60, 3) := by decide +kernel
theorem dX12_init_404 : decode cX12_init 404 = .ok (.iload_n 1, 1) := by decide +kernel
theorem dX12_init_405 : decode cX12_init 405 = .ok (.iconst (-1), 1) := by decide +kernel
theorem dX12_init_406 : decode cX12_init 406 = .ok (.iastore, 1) := by decide +kernel
theorem dX12_init_407 : decode cX12_init 407 = .ok (.iinc 1 1, 3) := by decide +kernel
theorem dX12_init_410 : decode cX12_init 410 = .ok (.goto (-24), 3) := by decide +kernel
theorem dX12_init_413 : decode cX12_init 413 = .ok (.iconst 0, 1) := by decide +kernel
theorem dX12_init_414 : decode cX12_init 414 = .ok (.istore_n 1, 1) := by decide +kernel
theorem dX12_init_415 : decode cX12_init 415 = .ok (.iload_n 1, 1) := by decide +kernel
theorem dX12_init_416 : decode cX12_init 416 = .ok (.sipush 480, 3) := by decide +kernel
theorem dX12_init_419 : decode cX12_init 419 = .ok (.if_icmp .ge 16, 3) := by decide +kernel
theorem dX12_init_422 : decode cX12_init 422 = .ok (.aload_n 0, 1) := by decide +kernel
theorem dX12_init_423 : decode cX12_init 423 = .ok (.getfield 66, 3) := by decide +kernel
theorem dX12_init_426 : decode cX12_init 426 = .ok (.iload_n 1, 1) := by decide +kernel
theorem dX12_init_427 : decode cX12_init 427 = .ok (.iconst (-1), 1) := by decide +kernel
theorem dX12_init_428 : decode cX12_init 428 = .ok (.iastore, 1) := by decide +kernel
theorem dX12_init_429 : decode cX12_init 429 = .ok (.iinc 1 1, 3) := by decide +kernel
theorem dX12_init_432 : decode cX12_init 432 = .ok (.goto (-17), 3) := by decide +kernel
theorem dX12_init_435 : decode cX12_init 435 = .ok (.return_, 1) := by decide +kernel
def kMod : gS := [] ++ [(1, 120)] ++ [(1, 360)] ++ [(1, 120)] ++ [(1, 120)] ++ [(1, 120)] ++ [(1, 2880)] ++ [(1, 123)] ++ [(1, 2016)] ++ [(1, 2016)] ++ [(1, 3)] ++ [(1, 400)] ++ [(3, 120)] ++ [(3, 120)] ++ [(1, 120)] ++ [(2, 260)] ++ [(1, 208)] ++ [(1, 208)] ++ [(1, 340)] ++ [(1, 480)] ++ [(1, 480)] ++ [(3, 120)] ++ [(1, 3)] ++ [(1, 3)] ++ [(3, 3)] ++ [(3, 120)] ++ [(1, 52)] ++ [(1, 52)] ++ [(1, 120)] ++ [(1, 120)] ++ [(1, 32)] ++ [(1, 32)] ++ [(1, 32)] ++ [(1, 32)] ++ [(1, 32)] ++ [(3, 120)] ++ [(3, 120)] ++ [(3, 120)] ++ [(1, 120)] ++ [(1, 56)] ++ [(1, 16)] ++ [(1, 16)] ++ [(1, 208)] ++ [(1, 208)] ++ [(1, 272)] ++ [(1, 480)] ++ [(1, 480)]
def iYa (sh0 : gS) (M0 : gM) (j : Nat) (sh : gS) (M : gM) : Prop := cB [15, 16, 18] 13 sh0 M0 kMod 70 sh M ∧ ∀ i : Int, 0 ≤ i → i < (j : Int) → M ((sh0.length + 1 + 15 : Nat) : Int) i = -1 ∧ M ((sh0.length + 1 + 16 : Nat) : Int) i = -1
def iYb (sh0 : gS) (M0 : gM) (j : Nat) (sh : gS) (M : gM) : Prop := iYa sh0 M0 208 sh M ∧ ∀ i : Int, 0 ≤ i → i < (j : Int) → M ((sh0.length + 1 + 18 : Nat) : Int) i = -1
def bX12 (sh0 : gS) (M0 : gM) : Option gV → gS → gM → Prop := fun r sh M => r = none ∧ iYb sh0 M0 480 sh M
theorem cB_cell {E : List Nat} {c : Nat} {sh0 : gS} {M0 : gM} {K : gS} {j : Nat} {sh : gS} {M : gM} (h : cB E c sh0 M0 K j sh M) {e : Nat} {i v : Int} (he : e ∈ E) : cB E c sh0 M0 K j sh (gU M ((sh0.length + 1 + e : Nat) : Int) i v) := by
  refine ⟨⟨h.1.1, fun b hb => ?_, fun d q hd hq i2 hg => ?_⟩, fun i2 => ?_⟩
  · rw [gU_cell _ _ _ (by omega)]; exact h.1.2.1 b hb
  · rw [gU_cell _ _ _ (by have : d ≠ e := fun w => hd (w ▸ he); omega)]; exact h.1.2.2 d q hd hq i2 hg
  · rw [gU_cell _ _ _ (by omega)]; exact h.2 i2
theorem ct_X12_415 {sh0 : gS} {M0 : gM} : ∀ (k j : Nat) (sh : gS) (M : gM), j + k = 480 → iYb sh0 M0 j sh M → gA (gx 1 20 46 (13583)) yX12_init cX12_init 2 none (bX12 sh0 M0) (46, 13583) 415 [(4, (sh0.length : Int)), (0, (j : Int))] [] sh M := by
  intro k
  induction k with
  | zero =>
    intro j sh M hj hi
    have hj' : j = 480 := by omega
    subst hj'
    refine g_iload_n (q0 := 416) (j := 1) rfl dX12_init_415 rfl ?_
    refine g_sipush (q0 := 419) rfl dX12_init_416 (k := ?_)
    refine g_icmp_ge (q0 := 422) (tgt := 435) rfl dX12_init_419 (by decide) (fun h => ?_) (fun h => absurd (show (480 : Int) ≤ ((480 : Nat) : Int) by decide) (by omega))
    exact g_return dX12_init_435 rfl ⟨Nat.le_refl _, Nat.le_refl _⟩ ⟨rfl, hi⟩
  | succ k ih =>
    intro j sh M hj hi
    obtain ⟨⟨hB, hx⟩, hy⟩ := hi
    have e : M (sh0.length : Int) 27 = ((sh0.length + 1 + 18 : Nat) : Int) := by
      rw [hB.2, if_pos (by decide)]
      exact (gD_so (c := 13) (f := 27) (d := 19) rfl).trans (by omega)
    refine g_iload_n (q0 := 416) (j := 1) rfl dX12_init_415 rfl ?_
    refine g_sipush (q0 := 419) rfl dX12_init_416 (k := ?_)
    refine g_icmp_ge (q0 := 422) (tgt := 435) rfl dX12_init_419 (by decide) (fun h => by omega) (fun h => ?_)
    refine g_aload_n (q0 := 423) (j := 0) rfl dX12_init_422 rfl ?_
    refine g_getf (q0 := 426) (t := 4) (fi := 27) rfl rfl ff_X12_66 dX12_init_423 rfl (cB_own hB) ?_
    rw [e]
    refine g_iload_n (q0 := 427) (j := 1) rfl dX12_init_426 rfl ?_
    refine g_iconst (q0 := 428) rfl dX12_init_427 (k := ?_)
    refine g_iast (q0 := 429) rfl dX12_init_428 (n := 480) (cC_sh hB.1 rfl) (by omega) (by omega) ?_
    refine g_iinc (q0 := 432) (lv2 := [_, _]) rfl dX12_init_429 rfl (by decide) rfl rfl (by omega) (by omega) ?_
    refine g_goto (tgt := 415) dX12_init_432 (by decide) ?_
    rw [show (j : Int) + 1 = ((j + 1 : Nat) : Int) from rfl]
    refine ih (j + 1) _ _ (by omega) ⟨⟨cB_cell hB (by decide), fun i i0 i1 => ?_⟩, fun i i0 i1 => ?_⟩
    · rw [gU_cell _ _ _ (by omega), gU_cell _ _ _ (by omega)]; exact hx i i0 i1
    · by_cases q : i = (j : Int)
      · rw [q, gU_same]
      · have e2 : gU M ((sh0.length + 1 + 18 : Nat) : Int) (j : Int) (-1) ((sh0.length + 1 + 18 : Nat) : Int) i = M ((sh0.length + 1 + 18 : Nat) : Int) i := by simp [gU, q]
        rw [e2]; exact hy i i0 (by omega)
theorem ct_X12_386 {sh0 : gS} {M0 : gM} : ∀ (k j : Nat) (sh : gS) (M : gM), j + k = 208 → iYa sh0 M0 j sh M → gA (gx 1 20 46 (13583)) yX12_init cX12_init 2 none (bX12 sh0 M0) (46, 13583) 386 [(4, (sh0.length : Int)), (0, (j : Int))] [] sh M := by
  intro k
  induction k with
  | zero =>
    intro j sh M hj hi
    have hj' : j = 208 := by omega
    subst hj'
    refine g_iload_n (q0 := 387) (j := 1) rfl dX12_init_386 rfl ?_
    refine g_sipush (q0 := 390) rfl dX12_init_387 (k := ?_)
    refine g_icmp_ge (q0 := 393) (tgt := 413) rfl dX12_init_390 (by decide) (fun h => ?_) (fun h => absurd (show (208 : Int) ≤ ((208 : Nat) : Int) by decide) (by omega))
    refine g_iconst (q0 := 414) rfl dX12_init_413 (k := ?_)
    refine g_istore_n (q0 := 415) (j := 1) (lv2 := [_, _]) rfl dX12_init_414 (by decide) rfl rfl ?_
    exact ct_X12_415 480 0 sh M rfl ⟨hi, fun i i0 i1 => by omega⟩
  | succ k ih =>
    intro j sh M hj hi
    obtain ⟨hB, hx⟩ := hi
    have eA : M (sh0.length : Int) 24 = ((sh0.length + 1 + 15 : Nat) : Int) := by
      rw [hB.2, if_pos (by decide)]
      exact (gD_so (c := 13) (f := 24) (d := 16) rfl).trans (by omega)
    have eB : M (sh0.length : Int) 25 = ((sh0.length + 1 + 16 : Nat) : Int) := by
      rw [hB.2, if_pos (by decide)]
      exact (gD_so (c := 13) (f := 25) (d := 17) rfl).trans (by omega)
    refine g_iload_n (q0 := 387) (j := 1) rfl dX12_init_386 rfl ?_
    refine g_sipush (q0 := 390) rfl dX12_init_387 (k := ?_)
    refine g_icmp_ge (q0 := 393) (tgt := 413) rfl dX12_init_390 (by decide) (fun h => by omega) (fun h => ?_)
    refine g_aload_n (q0 := 394) (j := 0) rfl dX12_init_393 rfl ?_
    refine g_getf (q0 := 397) (t := 4) (fi := 24) rfl rfl ff_X12_57 dX12_init_394 rfl (cB_own hB) ?_
    rw [eA]
    refine g_iload_n (q0 := 398) (j := 1) rfl dX12_init_397 rfl ?_
    refine g_iconst (q0 := 399) rfl dX12_init_398 (k := ?_)
    refine g_iast (q0 := 400) rfl dX12_init_399 (n := 208) (cC_sh hB.1 rfl) (by omega) (by omega) ?_
    have hB1 := cB_cell (e := 15) (i := (j : Int)) (v := -1) hB (by decide)
    refine g_aload_n (q0 := 401) (j := 0) rfl dX12_init_400 rfl ?_
    refine g_getf (q0 := 404) (t := 4) (fi := 25) rfl rfl ff_X12_60 dX12_init_401 rfl (cB_own hB1) ?_
    rw [gU_cell _ _ _ (show (sh0.length : Int) ≠ ((sh0.length + 1 + 15 : Nat) : Int) by omega), eB]
    refine g_iload_n (q0 := 405) (j := 1) rfl dX12_init_404 rfl ?_
    refine g_iconst (q0 := 406) rfl dX12_init_405 (k := ?_)
    refine g_iast (q0 := 407) rfl dX12_init_406 (n := 208) (cC_sh hB1.1 rfl) (by omega) (by omega) ?_
    refine g_iinc (q0 := 410) (lv2 := [_, _]) rfl dX12_init_407 rfl (by decide) rfl rfl (by omega) (by omega) ?_
    refine g_goto (tgt := 386) dX12_init_410 (by decide) ?_
    rw [show (j : Int) + 1 = ((j + 1 : Nat) : Int) from rfl]
    refine ih (j + 1) _ _ (by omega) ⟨cB_cell hB1 (by decide), fun i i0 i1 => ?_⟩
    by_cases q : i = (j : Int)
    · subst q
      exact ⟨by rw [gU_cell _ _ _ (by omega), gU_same], gU_same _ _ _ _⟩
    · have h9 := hx i i0 (by omega)
      refine ⟨?_, ?_⟩
      · rw [gU_cell _ _ _ (by omega)]
        have e2 : gU M ((sh0.length + 1 + 15 : Nat) : Int) (j : Int) (-1) ((sh0.length + 1 + 15 : Nat) : Int) i = M ((sh0.length + 1 + 15 : Nat) : Int) i := by simp [gU, q]
        rw [e2]; exact h9.1
      · have e2 : ∀ N : gM, gU N ((sh0.length + 1 + 16 : Nat) : Int) (j : Int) (-1) ((sh0.length + 1 + 16 : Nat) : Int) i = N ((sh0.length + 1 + 16 : Nat) : Int) i := fun N => by simp [gU, q]
        rw [e2, gU_cell _ _ _ (by omega)]; exact h9.2
theorem ct_X12 {sh0 : gS} {M0 : gM} : gC (gx 1 20 46 (13583)) yX12_init cX12_init 2 none [(4, (sh0.length : Int))] (sh0 ++ [(0, 13)]) (gN M0 (sh0.length : Int) (0, 13)) (bX12 sh0 M0) := by
  refine gC_ofA (lv := [_, _]) (by decide +kernel) (Nat.le_of_ble_eq_true rfl) rfl (fun hMw hav => ?_)
  refine gA_gen (cB [] 13 sh0 M0 [] 0) cB_0 (fun sh M hB => ?_)
  refine g_aload_n (q0 := 1) (j := 0) rfl dX12_init_0 rfl ?_
  refine g_objInit (q0 := 4) rfl (Int.natCast_nonneg _) ml_X12_1 mi_objectInit mc_objectInit dX12_init_1 (Nat.le_of_ble_eq_true rfl) (Nat.le_of_ble_eq_true rfl) ?_
  refine g_aload_n (q0 := 5) (j := 0) rfl dX12_init_4 rfl ?_
  refine g_bipush (q0 := 7) rfl dX12_init_5 (k := ?_)
  refine g_newI (q0 := 9) (n := 120) rfl rfl ac_int dX12_init_7 (by decide) (Nat.le_of_ble_eq_true rfl) (Nat.le_of_ble_eq_true rfl) ?_
  refine g_putC (q0 := 12) (t := 4) (fi := 1) rfl rfl ff_X12_7 dX12_init_9 rfl (gsh_old (cB_own hB)) rfl rfl (fun r h => by cases h; rfl) (fun G => by rw [gc_ref G (Int.natCast_nonneg _)]; exact ⟨rfl, rfl⟩) ?_
  refine gA_gen (cB [] 13 sh0 M0 ([] ++ [(1, 120)]) 2) (cB_arr hB (f := 1) rfl (Or.inr (fun b i => rfl)) (by decide) (by decide +kernel) (by decide)) (fun sh M hB => ?_)
  refine g_aload_n (q0 := 13) (j := 0) rfl dX12_init_12 rfl ?_
  refine g_sipush (q0 := 16) rfl dX12_init_13 (k := ?_)
  refine g_newI (q0 := 18) (n := 360) rfl rfl ac_int dX12_init_16 (by decide) (Nat.le_of_ble_eq_true rfl) (Nat.le_of_ble_eq_true rfl) ?_
  refine g_putC (q0 := 21) (t := 4) (fi := 2) rfl rfl ff_X12_13 dX12_init_18 rfl (gsh_old (cB_own hB)) rfl rfl (fun r h => by cases h; rfl) (fun G => by rw [gc_ref G (Int.natCast_nonneg _)]; exact ⟨rfl, rfl⟩) ?_
  refine gA_gen (cB [] 13 sh0 M0 ([] ++ [(1, 120)] ++ [(1, 360)]) 3) (cB_arr hB (f := 2) rfl (Or.inr (fun b i => rfl)) (by decide) (by decide +kernel) (by decide)) (fun sh M hB => ?_)
  refine g_aload_n (q0 := 22) (j := 0) rfl dX12_init_21 rfl ?_
  refine g_bipush (q0 := 24) rfl dX12_init_22 (k := ?_)
  refine g_newI (q0 := 26) (n := 120) rfl rfl ac_int dX12_init_24 (by decide) (Nat.le_of_ble_eq_true rfl) (Nat.le_of_ble_eq_true rfl) ?_
  refine g_putC (q0 := 29) (t := 4) (fi := 3) rfl rfl ff_X12_16 dX12_init_26 rfl (gsh_old (cB_own hB)) rfl rfl (fun r h => by cases h; rfl) (fun G => by rw [gc_ref G (Int.natCast_nonneg _)]; exact ⟨rfl, rfl⟩) ?_
  refine gA_gen (cB [] 13 sh0 M0 ([] ++ [(1, 120)] ++ [(1, 360)] ++ [(1, 120)]) 4) (cB_arr hB (f := 3) rfl (Or.inr (fun b i => rfl)) (by decide) (by decide +kernel) (by decide)) (fun sh M hB => ?_)
  refine g_aload_n (q0 := 30) (j := 0) rfl dX12_init_29 rfl ?_
  refine g_bipush (q0 := 32) rfl dX12_init_30 (k := ?_)
  refine g_newI (q0 := 34) (n := 120) rfl rfl ac_int dX12_init_32 (by decide) (Nat.le_of_ble_eq_true rfl) (Nat.le_of_ble_eq_true rfl) ?_
  refine g_putC (q0 := 37) (t := 4) (fi := 4) rfl rfl ff_X12_19 dX12_init_34 rfl (gsh_old (cB_own hB)) rfl rfl (fun r h => by cases h; rfl) (fun G => by rw [gc_ref G (Int.natCast_nonneg _)]; exact ⟨rfl, rfl⟩) ?_
  refine gA_gen (cB [] 13 sh0 M0 ([] ++ [(1, 120)] ++ [(1, 360)] ++ [(1, 120)] ++ [(1, 120)]) 5) (cB_arr hB (f := 4) rfl (Or.inr (fun b i => rfl)) (by decide) (by decide +kernel) (by decide)) (fun sh M hB => ?_)
  refine g_aload_n (q0 := 38) (j := 0) rfl dX12_init_37 rfl ?_
  refine g_bipush (q0 := 40) rfl dX12_init_38 (k := ?_)
  refine g_newI (q0 := 42) (n := 120) rfl rfl ac_int dX12_init_40 (by decide) (Nat.le_of_ble_eq_true rfl) (Nat.le_of_ble_eq_true rfl) ?_
  refine g_putC (q0 := 45) (t := 4) (fi := 5) rfl rfl ff_X12_22 dX12_init_42 rfl (gsh_old (cB_own hB)) rfl rfl (fun r h => by cases h; rfl) (fun G => by rw [gc_ref G (Int.natCast_nonneg _)]; exact ⟨rfl, rfl⟩) ?_
  refine gA_gen (cB [] 13 sh0 M0 ([] ++ [(1, 120)] ++ [(1, 360)] ++ [(1, 120)] ++ [(1, 120)] ++ [(1, 120)]) 6) (cB_arr hB (f := 5) rfl (Or.inr (fun b i => rfl)) (by decide) (by decide +kernel) (by decide)) (fun sh M hB => ?_)
  refine g_aload_n (q0 := 46) (j := 0) rfl dX12_init_45 rfl ?_
  refine g_sipush (q0 := 49) rfl dX12_init_46 (k := ?_)
  refine g_newI (q0 := 51) (n := 2880) rfl rfl ac_int dX12_init_49 (by decide) (Nat.le_of_ble_eq_true rfl) (Nat.le_of_ble_eq_true rfl) ?_
  refine g_putC (q0 := 54) (t := 4) (fi := 6) rfl rfl ff_X12_25 dX12_init_51 rfl (gsh_old (cB_own hB)) rfl rfl (fun r h => by cases h; rfl) (fun G => by rw [gc_ref G (Int.natCast_nonneg _)]; exact ⟨rfl, rfl⟩) ?_
  refine gA_gen (cB [] 13 sh0 M0 ([] ++ [(1, 120)] ++ [(1, 360)] ++ [(1, 120)] ++ [(1, 120)] ++ [(1, 120)] ++ [(1, 2880)]) 7) (cB_arr hB (f := 6) rfl (Or.inr (fun b i => rfl)) (by decide) (by decide +kernel) (by decide)) (fun sh M hB => ?_)
  refine g_aload_n (q0 := 55) (j := 0) rfl dX12_init_54 rfl ?_
  refine g_bipush (q0 := 57) rfl dX12_init_55 (k := ?_)
  refine g_newI (q0 := 59) (n := 123) rfl rfl ac_int dX12_init_57 (by decide) (Nat.le_of_ble_eq_true rfl) (Nat.le_of_ble_eq_true rfl) ?_
  refine g_putC (q0 := 62) (t := 4) (fi := 7) rfl rfl ff_X12_28 dX12_init_59 rfl (gsh_old (cB_own hB)) rfl rfl (fun r h => by cases h; rfl) (fun G => by rw [gc_ref G (Int.natCast_nonneg _)]; exact ⟨rfl, rfl⟩) ?_
  refine gA_gen (cB [] 13 sh0 M0 ([] ++ [(1, 120)] ++ [(1, 360)] ++ [(1, 120)] ++ [(1, 120)] ++ [(1, 120)] ++ [(1, 2880)] ++ [(1, 123)]) 8) (cB_arr hB (f := 7) rfl (Or.inr (fun b i => rfl)) (by decide) (by decide +kernel) (by decide)) (fun sh M hB => ?_)
  refine g_aload_n (q0 := 63) (j := 0) rfl dX12_init_62 rfl ?_
  refine g_sipush (q0 := 66) rfl dX12_init_63 (k := ?_)
  refine g_newI (q0 := 68) (n := 2016) rfl rfl ac_int dX12_init_66 (by decide) (Nat.le_of_ble_eq_true rfl) (Nat.le_of_ble_eq_true rfl) ?_
  refine g_putC (q0 := 71) (t := 4) (fi := 8) rfl rfl ff_X12_31 dX12_init_68 rfl (gsh_old (cB_own hB)) rfl rfl (fun r h => by cases h; rfl) (fun G => by rw [gc_ref G (Int.natCast_nonneg _)]; exact ⟨rfl, rfl⟩) ?_
  refine gA_gen (cB [] 13 sh0 M0 ([] ++ [(1, 120)] ++ [(1, 360)] ++ [(1, 120)] ++ [(1, 120)] ++ [(1, 120)] ++ [(1, 2880)] ++ [(1, 123)] ++ [(1, 2016)]) 9) (cB_arr hB (f := 8) rfl (Or.inr (fun b i => rfl)) (by decide) (by decide +kernel) (by decide)) (fun sh M hB => ?_)
  refine g_aload_n (q0 := 72) (j := 0) rfl dX12_init_71 rfl ?_
  refine g_sipush (q0 := 75) rfl dX12_init_72 (k := ?_)
  refine g_newI (q0 := 77) (n := 2016) rfl rfl ac_int dX12_init_75 (by decide) (Nat.le_of_ble_eq_true rfl) (Nat.le_of_ble_eq_true rfl) ?_
  refine g_putC (q0 := 80) (t := 4) (fi := 9) rfl rfl ff_X12_34 dX12_init_77 rfl (gsh_old (cB_own hB)) rfl rfl (fun r h => by cases h; rfl) (fun G => by rw [gc_ref G (Int.natCast_nonneg _)]; exact ⟨rfl, rfl⟩) ?_
  refine gA_gen (cB [] 13 sh0 M0 ([] ++ [(1, 120)] ++ [(1, 360)] ++ [(1, 120)] ++ [(1, 120)] ++ [(1, 120)] ++ [(1, 2880)] ++ [(1, 123)] ++ [(1, 2016)] ++ [(1, 2016)]) 10) (cB_arr hB (f := 9) rfl (Or.inr (fun b i => rfl)) (by decide) (by decide +kernel) (by decide)) (fun sh M hB => ?_)
  refine g_aload_n (q0 := 81) (j := 0) rfl dX12_init_80 rfl ?_
  refine g_iconst (q0 := 82) rfl dX12_init_81 (k := ?_)
  refine g_newI (q0 := 84) (n := 3) rfl rfl ac_int dX12_init_82 (by decide) (Nat.le_of_ble_eq_true rfl) (Nat.le_of_ble_eq_true rfl) ?_
  refine g_putC (q0 := 87) (t := 4) (fi := 10) rfl rfl ff_X12_37 dX12_init_84 rfl (gsh_old (cB_own hB)) rfl rfl (fun r h => by cases h; rfl) (fun G => by rw [gc_ref G (Int.natCast_nonneg _)]; exact ⟨rfl, rfl⟩) ?_
  refine gA_gen (cB [] 13 sh0 M0 ([] ++ [(1, 120)] ++ [(1, 360)] ++ [(1, 120)] ++ [(1, 120)] ++ [(1, 120)] ++ [(1, 2880)] ++ [(1, 123)] ++ [(1, 2016)] ++ [(1, 2016)] ++ [(1, 3)]) 11) (cB_arr hB (f := 10) rfl (Or.inr (fun b i => rfl)) (by decide) (by decide +kernel) (by decide)) (fun sh M hB => ?_)
  refine g_aload_n (q0 := 88) (j := 0) rfl dX12_init_87 rfl ?_
  refine g_sipush (q0 := 91) rfl dX12_init_88 (k := ?_)
  refine g_newI (q0 := 93) (n := 400) rfl rfl ac_int dX12_init_91 (by decide) (Nat.le_of_ble_eq_true rfl) (Nat.le_of_ble_eq_true rfl) ?_
  refine g_putC (q0 := 96) (t := 4) (fi := 11) rfl rfl ff_X12_40 dX12_init_93 rfl (gsh_old (cB_own hB)) rfl rfl (fun r h => by cases h; rfl) (fun G => by rw [gc_ref G (Int.natCast_nonneg _)]; exact ⟨rfl, rfl⟩) ?_
  refine gA_gen (cB [] 13 sh0 M0 ([] ++ [(1, 120)] ++ [(1, 360)] ++ [(1, 120)] ++ [(1, 120)] ++ [(1, 120)] ++ [(1, 2880)] ++ [(1, 123)] ++ [(1, 2016)] ++ [(1, 2016)] ++ [(1, 3)] ++ [(1, 400)]) 12) (cB_arr hB (f := 11) rfl (Or.inr (fun b i => rfl)) (by decide) (by decide +kernel) (by decide)) (fun sh M hB => ?_)
  refine g_aload_n (q0 := 97) (j := 0) rfl dX12_init_96 rfl ?_
  refine g_bipush (q0 := 99) rfl dX12_init_97 (k := ?_)
  refine g_newZ (q0 := 101) (n := 120) rfl rfl ac_boolean dX12_init_99 (by decide) (Nat.le_of_ble_eq_true rfl) (Nat.le_of_ble_eq_true rfl) ?_
  refine g_putC (q0 := 104) (t := 4) (fi := 14) rfl rfl ff_X12_43 dX12_init_101 rfl (gsh_old (cB_own hB)) rfl rfl (fun r h => by cases h; rfl) (fun G => by rw [gc_ref G (Int.natCast_nonneg _)]; exact ⟨rfl, rfl⟩) ?_
  refine gA_gen (cB [] 13 sh0 M0 ([] ++ [(1, 120)] ++ [(1, 360)] ++ [(1, 120)] ++ [(1, 120)] ++ [(1, 120)] ++ [(1, 2880)] ++ [(1, 123)] ++ [(1, 2016)] ++ [(1, 2016)] ++ [(1, 3)] ++ [(1, 400)] ++ [(3, 120)]) 15) (cB_arr hB (f := 14) rfl (Or.inr (fun b i => rfl)) (by decide) (by decide +kernel) (by decide)) (fun sh M hB => ?_)
  refine g_aload_n (q0 := 105) (j := 0) rfl dX12_init_104 rfl ?_
  refine g_bipush (q0 := 107) rfl dX12_init_105 (k := ?_)
  refine g_newZ (q0 := 109) (n := 120) rfl rfl ac_boolean dX12_init_107 (by decide) (Nat.le_of_ble_eq_true rfl) (Nat.le_of_ble_eq_true rfl) ?_
  refine g_putC (q0 := 112) (t := 4) (fi := 15) rfl rfl ff_X12_47 dX12_init_109 rfl (gsh_old (cB_own hB)) rfl rfl (fun r h => by cases h; rfl) (fun G => by rw [gc_ref G (Int.natCast_nonneg _)]; exact ⟨rfl, rfl⟩) ?_
  refine gA_gen (cB [] 13 sh0 M0 ([] ++ [(1, 120)] ++ [(1, 360)] ++ [(1, 120)] ++ [(1, 120)] ++ [(1, 120)] ++ [(1, 2880)] ++ [(1, 123)] ++ [(1, 2016)] ++ [(1, 2016)] ++ [(1, 3)] ++ [(1, 400)] ++ [(3, 120)] ++ [(3, 120)]) 16) (cB_arr hB (f := 15) rfl (Or.inr (fun b i => rfl)) (by decide) (by decide +kernel) (by decide)) (fun sh M hB => ?_)
  refine g_aload_n (q0 := 113) (j := 0) rfl dX12_init_112 rfl ?_
  refine g_bipush (q0 := 115) rfl dX12_init_113 (k := ?_)
  refine g_newI (q0 := 117) (n := 120) rfl rfl ac_int dX12_init_115 (by decide) (Nat.le_of_ble_eq_true rfl) (Nat.le_of_ble_eq_true rfl) ?_
  refine g_putC (q0 := 120) (t := 4) (fi := 16) rfl rfl ff_X12_50 dX12_init_117 rfl (gsh_old (cB_own hB)) rfl rfl (fun r h => by cases h; rfl) (fun G => by rw [gc_ref G (Int.natCast_nonneg _)]; exact ⟨rfl, rfl⟩) ?_
  refine gA_gen (cB [] 13 sh0 M0 ([] ++ [(1, 120)] ++ [(1, 360)] ++ [(1, 120)] ++ [(1, 120)] ++ [(1, 120)] ++ [(1, 2880)] ++ [(1, 123)] ++ [(1, 2016)] ++ [(1, 2016)] ++ [(1, 3)] ++ [(1, 400)] ++ [(3, 120)] ++ [(3, 120)] ++ [(1, 120)]) 17) (cB_arr hB (f := 16) rfl (Or.inr (fun b i => rfl)) (by decide) (by decide +kernel) (by decide)) (fun sh M hB => ?_)
  refine g_aload_n (q0 := 121) (j := 0) rfl dX12_init_120 rfl ?_
  refine g_sipush (q0 := 124) rfl dX12_init_121 (k := ?_)
  refine g_newB (q0 := 126) (n := 260) rfl rfl ac_byte dX12_init_124 (by decide) (Nat.le_of_ble_eq_true rfl) (Nat.le_of_ble_eq_true rfl) ?_
  refine g_putC (q0 := 129) (t := 4) (fi := 17) rfl rfl ff_X12_53 dX12_init_126 rfl (gsh_old (cB_own hB)) rfl rfl (fun r h => by cases h; rfl) (fun G => by rw [gc_ref G (Int.natCast_nonneg _)]; exact ⟨rfl, rfl⟩) ?_
  refine gA_gen (cB [] 13 sh0 M0 ([] ++ [(1, 120)] ++ [(1, 360)] ++ [(1, 120)] ++ [(1, 120)] ++ [(1, 120)] ++ [(1, 2880)] ++ [(1, 123)] ++ [(1, 2016)] ++ [(1, 2016)] ++ [(1, 3)] ++ [(1, 400)] ++ [(3, 120)] ++ [(3, 120)] ++ [(1, 120)] ++ [(2, 260)]) 18) (cB_arr hB (f := 17) rfl (Or.inr (fun b i => rfl)) (by decide) (by decide +kernel) (by decide)) (fun sh M hB => ?_)
  refine g_aload_n (q0 := 130) (j := 0) rfl dX12_init_129 rfl ?_
  refine g_sipush (q0 := 133) rfl dX12_init_130 (k := ?_)
  refine g_newI (q0 := 135) (n := 208) rfl rfl ac_int dX12_init_133 (by decide) (Nat.le_of_ble_eq_true rfl) (Nat.le_of_ble_eq_true rfl) ?_
  refine g_putC (q0 := 138) (t := 4) (fi := 24) rfl rfl ff_X12_57 dX12_init_135 rfl (gsh_old (cB_own hB)) rfl rfl (fun r h => by cases h; rfl) (fun G => by rw [gc_ref G (Int.natCast_nonneg _)]; exact ⟨rfl, rfl⟩) ?_
  refine gA_gen (cB [] 13 sh0 M0 ([] ++ [(1, 120)] ++ [(1, 360)] ++ [(1, 120)] ++ [(1, 120)] ++ [(1, 120)] ++ [(1, 2880)] ++ [(1, 123)] ++ [(1, 2016)] ++ [(1, 2016)] ++ [(1, 3)] ++ [(1, 400)] ++ [(3, 120)] ++ [(3, 120)] ++ [(1, 120)] ++ [(2, 260)] ++ [(1, 208)]) 25) (cB_arr hB (f := 24) rfl (Or.inr (fun b i => rfl)) (by decide) (by decide +kernel) (by decide)) (fun sh M hB => ?_)
  refine g_aload_n (q0 := 139) (j := 0) rfl dX12_init_138 rfl ?_
  refine g_sipush (q0 := 142) rfl dX12_init_139 (k := ?_)
  refine g_newI (q0 := 144) (n := 208) rfl rfl ac_int dX12_init_142 (by decide) (Nat.le_of_ble_eq_true rfl) (Nat.le_of_ble_eq_true rfl) ?_
  refine g_putC (q0 := 147) (t := 4) (fi := 25) rfl rfl ff_X12_60 dX12_init_144 rfl (gsh_old (cB_own hB)) rfl rfl (fun r h => by cases h; rfl) (fun G => by rw [gc_ref G (Int.natCast_nonneg _)]; exact ⟨rfl, rfl⟩) ?_
  refine gA_gen (cB [] 13 sh0 M0 ([] ++ [(1, 120)] ++ [(1, 360)] ++ [(1, 120)] ++ [(1, 120)] ++ [(1, 120)] ++ [(1, 2880)] ++ [(1, 123)] ++ [(1, 2016)] ++ [(1, 2016)] ++ [(1, 3)] ++ [(1, 400)] ++ [(3, 120)] ++ [(3, 120)] ++ [(1, 120)] ++ [(2, 260)] ++ [(1, 208)] ++ [(1, 208)]) 26) (cB_arr hB (f := 25) rfl (Or.inr (fun b i => rfl)) (by decide) (by decide +kernel) (by decide)) (fun sh M hB => ?_)
  refine g_aload_n (q0 := 148) (j := 0) rfl dX12_init_147 rfl ?_
  refine g_sipush (q0 := 151) rfl dX12_init_148 (k := ?_)
  refine g_newI (q0 := 153) (n := 340) rfl rfl ac_int dX12_init_151 (by decide) (Nat.le_of_ble_eq_true rfl) (Nat.le_of_ble_eq_true rfl) ?_
  refine g_putC (q0 := 156) (t := 4) (fi := 26) rfl rfl ff_X12_63 dX12_init_153 rfl (gsh_old (cB_own hB)) rfl rfl (fun r h => by cases h; rfl) (fun G => by rw [gc_ref G (Int.natCast_nonneg _)]; exact ⟨rfl, rfl⟩) ?_
  refine gA_gen (cB [] 13 sh0 M0 ([] ++ [(1, 120)] ++ [(1, 360)] ++ [(1, 120)] ++ [(1, 120)] ++ [(1, 120)] ++ [(1, 2880)] ++ [(1, 123)] ++ [(1, 2016)] ++ [(1, 2016)] ++ [(1, 3)] ++ [(1, 400)] ++ [(3, 120)] ++ [(3, 120)] ++ [(1, 120)] ++ [(2, 260)] ++ [(1, 208)] ++ [(1, 208)] ++ [(1, 340)]) 27) (cB_arr hB (f := 26) rfl (Or.inr (fun b i => rfl)) (by decide) (by decide +kernel) (by decide)) (fun sh M hB => ?_)
  refine g_aload_n (q0 := 157) (j := 0) rfl dX12_init_156 rfl ?_
  refine g_sipush (q0 := 160) rfl dX12_init_157 (k := ?_)
  refine g_newI (q0 := 162) (n := 480) rfl rfl ac_int dX12_init_160 (by decide) (Nat.le_of_ble_eq_true rfl) (Nat.le_of_ble_eq_true rfl) ?_
  refine g_putC (q0 := 165) (t := 4) (fi := 27) rfl rfl ff_X12_66 dX12_init_162 rfl (gsh_old (cB_own hB)) rfl rfl (fun r h => by cases h; rfl) (fun G => by rw [gc_ref G (Int.natCast_nonneg _)]; exact ⟨rfl, rfl⟩) ?_
  refine gA_gen (cB [] 13 sh0 M0 ([] ++ [(1, 120)] ++ [(1, 360)] ++ [(1, 120)] ++ [(1, 120)] ++ [(1, 120)] ++ [(1, 2880)] ++ [(1, 123)] ++ [(1, 2016)] ++ [(1, 2016)] ++ [(1, 3)] ++ [(1, 400)] ++ [(3, 120)] ++ [(3, 120)] ++ [(1, 120)] ++ [(2, 260)] ++ [(1, 208)] ++ [(1, 208)] ++ [(1, 340)] ++ [(1, 480)]) 28) (cB_arr hB (f := 27) rfl (Or.inr (fun b i => rfl)) (by decide) (by decide +kernel) (by decide)) (fun sh M hB => ?_)
  refine g_aload_n (q0 := 166) (j := 0) rfl dX12_init_165 rfl ?_
  refine g_sipush (q0 := 169) rfl dX12_init_166 (k := ?_)
  refine g_newI (q0 := 171) (n := 480) rfl rfl ac_int dX12_init_169 (by decide) (Nat.le_of_ble_eq_true rfl) (Nat.le_of_ble_eq_true rfl) ?_
  refine g_putC (q0 := 174) (t := 4) (fi := 28) rfl rfl ff_X12_69 dX12_init_171 rfl (gsh_old (cB_own hB)) rfl rfl (fun r h => by cases h; rfl) (fun G => by rw [gc_ref G (Int.natCast_nonneg _)]; exact ⟨rfl, rfl⟩) ?_
  refine gA_gen (cB [] 13 sh0 M0 ([] ++ [(1, 120)] ++ [(1, 360)] ++ [(1, 120)] ++ [(1, 120)] ++ [(1, 120)] ++ [(1, 2880)] ++ [(1, 123)] ++ [(1, 2016)] ++ [(1, 2016)] ++ [(1, 3)] ++ [(1, 400)] ++ [(3, 120)] ++ [(3, 120)] ++ [(1, 120)] ++ [(2, 260)] ++ [(1, 208)] ++ [(1, 208)] ++ [(1, 340)] ++ [(1, 480)] ++ [(1, 480)]) 29) (cB_arr hB (f := 28) rfl (Or.inr (fun b i => rfl)) (by decide) (by decide +kernel) (by decide)) (fun sh M hB => ?_)
  refine g_aload_n (q0 := 175) (j := 0) rfl dX12_init_174 rfl ?_
  refine g_bipush (q0 := 177) rfl dX12_init_175 (k := ?_)
  refine g_newZ (q0 := 179) (n := 120) rfl rfl ac_boolean dX12_init_177 (by decide) (Nat.le_of_ble_eq_true rfl) (Nat.le_of_ble_eq_true rfl) ?_
  refine g_putC (q0 := 182) (t := 4) (fi := 31) rfl rfl ff_X12_72 dX12_init_179 rfl (gsh_old (cB_own hB)) rfl rfl (fun r h => by cases h; rfl) (fun G => by rw [gc_ref G (Int.natCast_nonneg _)]; exact ⟨rfl, rfl⟩) ?_
  refine gA_gen (cB [] 13 sh0 M0 ([] ++ [(1, 120)] ++ [(1, 360)] ++ [(1, 120)] ++ [(1, 120)] ++ [(1, 120)] ++ [(1, 2880)] ++ [(1, 123)] ++ [(1, 2016)] ++ [(1, 2016)] ++ [(1, 3)] ++ [(1, 400)] ++ [(3, 120)] ++ [(3, 120)] ++ [(1, 120)] ++ [(2, 260)] ++ [(1, 208)] ++ [(1, 208)] ++ [(1, 340)] ++ [(1, 480)] ++ [(1, 480)] ++ [(3, 120)]) 32) (cB_arr hB (f := 31) rfl (Or.inr (fun b i => rfl)) (by decide) (by decide +kernel) (by decide)) (fun sh M hB => ?_)
  refine g_aload_n (q0 := 183) (j := 0) rfl dX12_init_182 rfl ?_
  refine g_iconst (q0 := 184) rfl dX12_init_183 (k := ?_)
  refine g_newI (q0 := 186) (n := 3) rfl rfl ac_int dX12_init_184 (by decide) (Nat.le_of_ble_eq_true rfl) (Nat.le_of_ble_eq_true rfl) ?_
  refine g_putC (q0 := 189) (t := 4) (fi := 34) rfl rfl ff_X12_75 dX12_init_186 rfl (gsh_old (cB_own hB)) rfl rfl (fun r h => by cases h; rfl) (fun G => by rw [gc_ref G (Int.natCast_nonneg _)]; exact ⟨rfl, rfl⟩) ?_
  refine gA_gen (cB [] 13 sh0 M0 ([] ++ [(1, 120)] ++ [(1, 360)] ++ [(1, 120)] ++ [(1, 120)] ++ [(1, 120)] ++ [(1, 2880)] ++ [(1, 123)] ++ [(1, 2016)] ++ [(1, 2016)] ++ [(1, 3)] ++ [(1, 400)] ++ [(3, 120)] ++ [(3, 120)] ++ [(1, 120)] ++ [(2, 260)] ++ [(1, 208)] ++ [(1, 208)] ++ [(1, 340)] ++ [(1, 480)] ++ [(1, 480)] ++ [(3, 120)] ++ [(1, 3)]) 35) (cB_arr hB (f := 34) rfl (Or.inr (fun b i => rfl)) (by decide) (by decide +kernel) (by decide)) (fun sh M hB => ?_)
  refine g_aload_n (q0 := 190) (j := 0) rfl dX12_init_189 rfl ?_
  refine g_iconst (q0 := 191) rfl dX12_init_190 (k := ?_)
  refine g_newI (q0 := 193) (n := 3) rfl rfl ac_int dX12_init_191 (by decide) (Nat.le_of_ble_eq_true rfl) (Nat.le_of_ble_eq_true rfl) ?_
  refine g_putC (q0 := 196) (t := 4) (fi := 35) rfl rfl ff_X12_78 dX12_init_193 rfl (gsh_old (cB_own hB)) rfl rfl (fun r h => by cases h; rfl) (fun G => by rw [gc_ref G (Int.natCast_nonneg _)]; exact ⟨rfl, rfl⟩) ?_
  refine gA_gen (cB [] 13 sh0 M0 ([] ++ [(1, 120)] ++ [(1, 360)] ++ [(1, 120)] ++ [(1, 120)] ++ [(1, 120)] ++ [(1, 2880)] ++ [(1, 123)] ++ [(1, 2016)] ++ [(1, 2016)] ++ [(1, 3)] ++ [(1, 400)] ++ [(3, 120)] ++ [(3, 120)] ++ [(1, 120)] ++ [(2, 260)] ++ [(1, 208)] ++ [(1, 208)] ++ [(1, 340)] ++ [(1, 480)] ++ [(1, 480)] ++ [(3, 120)] ++ [(1, 3)] ++ [(1, 3)]) 36) (cB_arr hB (f := 35) rfl (Or.inr (fun b i => rfl)) (by decide) (by decide +kernel) (by decide)) (fun sh M hB => ?_)
  refine g_aload_n (q0 := 197) (j := 0) rfl dX12_init_196 rfl ?_
  refine g_iconst (q0 := 198) rfl dX12_init_197 (k := ?_)
  refine g_newZ (q0 := 200) (n := 3) rfl rfl ac_boolean dX12_init_198 (by decide) (Nat.le_of_ble_eq_true rfl) (Nat.le_of_ble_eq_true rfl) ?_
  refine g_putC (q0 := 203) (t := 4) (fi := 36) rfl rfl ff_X12_81 dX12_init_200 rfl (gsh_old (cB_own hB)) rfl rfl (fun r h => by cases h; rfl) (fun G => by rw [gc_ref G (Int.natCast_nonneg _)]; exact ⟨rfl, rfl⟩) ?_
  refine gA_gen (cB [] 13 sh0 M0 ([] ++ [(1, 120)] ++ [(1, 360)] ++ [(1, 120)] ++ [(1, 120)] ++ [(1, 120)] ++ [(1, 2880)] ++ [(1, 123)] ++ [(1, 2016)] ++ [(1, 2016)] ++ [(1, 3)] ++ [(1, 400)] ++ [(3, 120)] ++ [(3, 120)] ++ [(1, 120)] ++ [(2, 260)] ++ [(1, 208)] ++ [(1, 208)] ++ [(1, 340)] ++ [(1, 480)] ++ [(1, 480)] ++ [(3, 120)] ++ [(1, 3)] ++ [(1, 3)] ++ [(3, 3)]) 37) (cB_arr hB (f := 36) rfl (Or.inr (fun b i => rfl)) (by decide) (by decide +kernel) (by decide)) (fun sh M hB => ?_)
  refine g_aload_n (q0 := 204) (j := 0) rfl dX12_init_203 rfl ?_
  refine g_bipush (q0 := 206) rfl dX12_init_204 (k := ?_)
  refine g_newZ (q0 := 208) (n := 120) rfl rfl ac_boolean dX12_init_206 (by decide) (Nat.le_of_ble_eq_true rfl) (Nat.le_of_ble_eq_true rfl) ?_
  refine g_putC (q0 := 211) (t := 4) (fi := 39) rfl rfl ff_X12_84 dX12_init_208 rfl (gsh_old (cB_own hB)) rfl rfl (fun r h => by cases h; rfl) (fun G => by rw [gc_ref G (Int.natCast_nonneg _)]; exact ⟨rfl, rfl⟩) ?_
  refine gA_gen (cB [] 13 sh0 M0 ([] ++ [(1, 120)] ++ [(1, 360)] ++ [(1, 120)] ++ [(1, 120)] ++ [(1, 120)] ++ [(1, 2880)] ++ [(1, 123)] ++ [(1, 2016)] ++ [(1, 2016)] ++ [(1, 3)] ++ [(1, 400)] ++ [(3, 120)] ++ [(3, 120)] ++ [(1, 120)] ++ [(2, 260)] ++ [(1, 208)] ++ [(1, 208)] ++ [(1, 340)] ++ [(1, 480)] ++ [(1, 480)] ++ [(3, 120)] ++ [(1, 3)] ++ [(1, 3)] ++ [(3, 3)] ++ [(3, 120)]) 40) (cB_arr hB (f := 39) rfl (Or.inr (fun b i => rfl)) (by decide) (by decide +kernel) (by decide)) (fun sh M hB => ?_)
  refine g_aload_n (q0 := 212) (j := 0) rfl dX12_init_211 rfl ?_
  refine g_bipush (q0 := 214) rfl dX12_init_212 (k := ?_)
  refine g_newI (q0 := 216) (n := 52) rfl rfl ac_int dX12_init_214 (by decide) (Nat.le_of_ble_eq_true rfl) (Nat.le_of_ble_eq_true rfl) ?_
  refine g_putC (q0 := 219) (t := 4) (fi := 40) rfl rfl ff_X12_87 dX12_init_216 rfl (gsh_old (cB_own hB)) rfl rfl (fun r h => by cases h; rfl) (fun G => by rw [gc_ref G (Int.natCast_nonneg _)]; exact ⟨rfl, rfl⟩) ?_
  refine gA_gen (cB [] 13 sh0 M0 ([] ++ [(1, 120)] ++ [(1, 360)] ++ [(1, 120)] ++ [(1, 120)] ++ [(1, 120)] ++ [(1, 2880)] ++ [(1, 123)] ++ [(1, 2016)] ++ [(1, 2016)] ++ [(1, 3)] ++ [(1, 400)] ++ [(3, 120)] ++ [(3, 120)] ++ [(1, 120)] ++ [(2, 260)] ++ [(1, 208)] ++ [(1, 208)] ++ [(1, 340)] ++ [(1, 480)] ++ [(1, 480)] ++ [(3, 120)] ++ [(1, 3)] ++ [(1, 3)] ++ [(3, 3)] ++ [(3, 120)] ++ [(1, 52)]) 41) (cB_arr hB (f := 40) rfl (Or.inr (fun b i => rfl)) (by decide) (by decide +kernel) (by decide)) (fun sh M hB => ?_)
  refine g_aload_n (q0 := 220) (j := 0) rfl dX12_init_219 rfl ?_
  refine g_bipush (q0 := 222) rfl dX12_init_220 (k := ?_)
  refine g_newI (q0 := 224) (n := 52) rfl rfl ac_int dX12_init_222 (by decide) (Nat.le_of_ble_eq_true rfl) (Nat.le_of_ble_eq_true rfl) ?_
  refine g_putC (q0 := 227) (t := 4) (fi := 41) rfl rfl ff_X12_90 dX12_init_224 rfl (gsh_old (cB_own hB)) rfl rfl (fun r h => by cases h; rfl) (fun G => by rw [gc_ref G (Int.natCast_nonneg _)]; exact ⟨rfl, rfl⟩) ?_
  refine gA_gen (cB [] 13 sh0 M0 ([] ++ [(1, 120)] ++ [(1, 360)] ++ [(1, 120)] ++ [(1, 120)] ++ [(1, 120)] ++ [(1, 2880)] ++ [(1, 123)] ++ [(1, 2016)] ++ [(1, 2016)] ++ [(1, 3)] ++ [(1, 400)] ++ [(3, 120)] ++ [(3, 120)] ++ [(1, 120)] ++ [(2, 260)] ++ [(1, 208)] ++ [(1, 208)] ++ [(1, 340)] ++ [(1, 480)] ++ [(1, 480)] ++ [(3, 120)] ++ [(1, 3)] ++ [(1, 3)] ++ [(3, 3)] ++ [(3, 120)] ++ [(1, 52)] ++ [(1, 52)]) 42) (cB_arr hB (f := 41) rfl (Or.inr (fun b i => rfl)) (by decide) (by decide +kernel) (by decide)) (fun sh M hB => ?_)
  refine g_aload_n (q0 := 228) (j := 0) rfl dX12_init_227 rfl ?_
  refine g_bipush (q0 := 230) rfl dX12_init_228 (k := ?_)
  refine g_newI (q0 := 232) (n := 120) rfl rfl ac_int dX12_init_230 (by decide) (Nat.le_of_ble_eq_true rfl) (Nat.le_of_ble_eq_true rfl) ?_
  refine g_putC (q0 := 235) (t := 4) (fi := 42) rfl rfl ff_X12_93 dX12_init_232 rfl (gsh_old (cB_own hB)) rfl rfl (fun r h => by cases h; rfl) (fun G => by rw [gc_ref G (Int.natCast_nonneg _)]; exact ⟨rfl, rfl⟩) ?_
  refine gA_gen (cB [] 13 sh0 M0 ([] ++ [(1, 120)] ++ [(1, 360)] ++ [(1, 120)] ++ [(1, 120)] ++ [(1, 120)] ++ [(1, 2880)] ++ [(1, 123)] ++ [(1, 2016)] ++ [(1, 2016)] ++ [(1, 3)] ++ [(1, 400)] ++ [(3, 120)] ++ [(3, 120)] ++ [(1, 120)] ++ [(2, 260)] ++ [(1, 208)] ++ [(1, 208)] ++ [(1, 340)] ++ [(1, 480)] ++ [(1, 480)] ++ [(3, 120)] ++ [(1, 3)] ++ [(1, 3)] ++ [(3, 3)] ++ [(3, 120)] ++ [(1, 52)] ++ [(1, 52)] ++ [(1, 120)]) 43) (cB_arr hB (f := 42) rfl (Or.inr (fun b i => rfl)) (by decide) (by decide +kernel) (by decide)) (fun sh M hB => ?_)
  refine g_aload_n (q0 := 236) (j := 0) rfl dX12_init_235 rfl ?_
  refine g_bipush (q0 := 238) rfl dX12_init_236 (k := ?_)
  refine g_newI (q0 := 240) (n := 120) rfl rfl ac_int dX12_init_238 (by decide) (Nat.le_of_ble_eq_true rfl) (Nat.le_of_ble_eq_true rfl) ?_
  refine g_putC (q0 := 243) (t := 4) (fi := 43) rfl rfl ff_X12_96 dX12_init_240 rfl (gsh_old (cB_own hB)) rfl rfl (fun r h => by cases h; rfl) (fun G => by rw [gc_ref G (Int.natCast_nonneg _)]; exact ⟨rfl, rfl⟩) ?_
  refine gA_gen (cB [] 13 sh0 M0 ([] ++ [(1, 120)] ++ [(1, 360)] ++ [(1, 120)] ++ [(1, 120)] ++ [(1, 120)] ++ [(1, 2880)] ++ [(1, 123)] ++ [(1, 2016)] ++ [(1, 2016)] ++ [(1, 3)] ++ [(1, 400)] ++ [(3, 120)] ++ [(3, 120)] ++ [(1, 120)] ++ [(2, 260)] ++ [(1, 208)] ++ [(1, 208)] ++ [(1, 340)] ++ [(1, 480)] ++ [(1, 480)] ++ [(3, 120)] ++ [(1, 3)] ++ [(1, 3)] ++ [(3, 3)] ++ [(3, 120)] ++ [(1, 52)] ++ [(1, 52)] ++ [(1, 120)] ++ [(1, 120)]) 44) (cB_arr hB (f := 43) rfl (Or.inr (fun b i => rfl)) (by decide) (by decide +kernel) (by decide)) (fun sh M hB => ?_)
  refine g_aload_n (q0 := 244) (j := 0) rfl dX12_init_243 rfl ?_
  refine g_bipush (q0 := 246) rfl dX12_init_244 (k := ?_)
  refine g_newI (q0 := 248) (n := 32) rfl rfl ac_int dX12_init_246 (by decide) (Nat.le_of_ble_eq_true rfl) (Nat.le_of_ble_eq_true rfl) ?_
  refine g_putC (q0 := 251) (t := 4) (fi := 44) rfl rfl ff_X12_99 dX12_init_248 rfl (gsh_old (cB_own hB)) rfl rfl (fun r h => by cases h; rfl) (fun G => by rw [gc_ref G (Int.natCast_nonneg _)]; exact ⟨rfl, rfl⟩) ?_
  refine gA_gen (cB [] 13 sh0 M0 ([] ++ [(1, 120)] ++ [(1, 360)] ++ [(1, 120)] ++ [(1, 120)] ++ [(1, 120)] ++ [(1, 2880)] ++ [(1, 123)] ++ [(1, 2016)] ++ [(1, 2016)] ++ [(1, 3)] ++ [(1, 400)] ++ [(3, 120)] ++ [(3, 120)] ++ [(1, 120)] ++ [(2, 260)] ++ [(1, 208)] ++ [(1, 208)] ++ [(1, 340)] ++ [(1, 480)] ++ [(1, 480)] ++ [(3, 120)] ++ [(1, 3)] ++ [(1, 3)] ++ [(3, 3)] ++ [(3, 120)] ++ [(1, 52)] ++ [(1, 52)] ++ [(1, 120)] ++ [(1, 120)] ++ [(1, 32)]) 45) (cB_arr hB (f := 44) rfl (Or.inr (fun b i => rfl)) (by decide) (by decide +kernel) (by decide)) (fun sh M hB => ?_)
  refine g_aload_n (q0 := 252) (j := 0) rfl dX12_init_251 rfl ?_
  refine g_bipush (q0 := 254) rfl dX12_init_252 (k := ?_)
  refine g_newI (q0 := 256) (n := 32) rfl rfl ac_int dX12_init_254 (by decide) (Nat.le_of_ble_eq_true rfl) (Nat.le_of_ble_eq_true rfl) ?_
  refine g_putC (q0 := 259) (t := 4) (fi := 45) rfl rfl ff_X12_102 dX12_init_256 rfl (gsh_old (cB_own hB)) rfl rfl (fun r h => by cases h; rfl) (fun G => by rw [gc_ref G (Int.natCast_nonneg _)]; exact ⟨rfl, rfl⟩) ?_
  refine gA_gen (cB [] 13 sh0 M0 ([] ++ [(1, 120)] ++ [(1, 360)] ++ [(1, 120)] ++ [(1, 120)] ++ [(1, 120)] ++ [(1, 2880)] ++ [(1, 123)] ++ [(1, 2016)] ++ [(1, 2016)] ++ [(1, 3)] ++ [(1, 400)] ++ [(3, 120)] ++ [(3, 120)] ++ [(1, 120)] ++ [(2, 260)] ++ [(1, 208)] ++ [(1, 208)] ++ [(1, 340)] ++ [(1, 480)] ++ [(1, 480)] ++ [(3, 120)] ++ [(1, 3)] ++ [(1, 3)] ++ [(3, 3)] ++ [(3, 120)] ++ [(1, 52)] ++ [(1, 52)] ++ [(1, 120)] ++ [(1, 120)] ++ [(1, 32)] ++ [(1, 32)]) 46) (cB_arr hB (f := 45) rfl (Or.inr (fun b i => rfl)) (by decide) (by decide +kernel) (by decide)) (fun sh M hB => ?_)
  refine g_aload_n (q0 := 260) (j := 0) rfl dX12_init_259 rfl ?_
  refine g_bipush (q0 := 262) rfl dX12_init_260 (k := ?_)
  refine g_newI (q0 := 264) (n := 32) rfl rfl ac_int dX12_init_262 (by decide) (Nat.le_of_ble_eq_true rfl) (Nat.le_of_ble_eq_true rfl) ?_
  refine g_putC (q0 := 267) (t := 4) (fi := 46) rfl rfl ff_X12_105 dX12_init_264 rfl (gsh_old (cB_own hB)) rfl rfl (fun r h => by cases h; rfl) (fun G => by rw [gc_ref G (Int.natCast_nonneg _)]; exact ⟨rfl, rfl⟩) ?_
  refine gA_gen (cB [] 13 sh0 M0 ([] ++ [(1, 120)] ++ [(1, 360)] ++ [(1, 120)] ++ [(1, 120)] ++ [(1, 120)] ++ [(1, 2880)] ++ [(1, 123)] ++ [(1, 2016)] ++ [(1, 2016)] ++ [(1, 3)] ++ [(1, 400)] ++ [(3, 120)] ++ [(3, 120)] ++ [(1, 120)] ++ [(2, 260)] ++ [(1, 208)] ++ [(1, 208)] ++ [(1, 340)] ++ [(1, 480)] ++ [(1, 480)] ++ [(3, 120)] ++ [(1, 3)] ++ [(1, 3)] ++ [(3, 3)] ++ [(3, 120)] ++ [(1, 52)] ++ [(1, 52)] ++ [(1, 120)] ++ [(1, 120)] ++ [(1, 32)] ++ [(1, 32)] ++ [(1, 32)]) 47) (cB_arr hB (f := 46) rfl (Or.inr (fun b i => rfl)) (by decide) (by decide +kernel) (by decide)) (fun sh M hB => ?_)
  refine g_aload_n (q0 := 268) (j := 0) rfl dX12_init_267 rfl ?_
  refine g_bipush (q0 := 270) rfl dX12_init_268 (k := ?_)
  refine g_newI (q0 := 272) (n := 32) rfl rfl ac_int dX12_init_270 (by decide) (Nat.le_of_ble_eq_true rfl) (Nat.le_of_ble_eq_true rfl) ?_
  refine g_putC (q0 := 275) (t := 4) (fi := 47) rfl rfl ff_X12_108 dX12_init_272 rfl (gsh_old (cB_own hB)) rfl rfl (fun r h => by cases h; rfl) (fun G => by rw [gc_ref G (Int.natCast_nonneg _)]; exact ⟨rfl, rfl⟩) ?_
  refine gA_gen (cB [] 13 sh0 M0 ([] ++ [(1, 120)] ++ [(1, 360)] ++ [(1, 120)] ++ [(1, 120)] ++ [(1, 120)] ++ [(1, 2880)] ++ [(1, 123)] ++ [(1, 2016)] ++ [(1, 2016)] ++ [(1, 3)] ++ [(1, 400)] ++ [(3, 120)] ++ [(3, 120)] ++ [(1, 120)] ++ [(2, 260)] ++ [(1, 208)] ++ [(1, 208)] ++ [(1, 340)] ++ [(1, 480)] ++ [(1, 480)] ++ [(3, 120)] ++ [(1, 3)] ++ [(1, 3)] ++ [(3, 3)] ++ [(3, 120)] ++ [(1, 52)] ++ [(1, 52)] ++ [(1, 120)] ++ [(1, 120)] ++ [(1, 32)] ++ [(1, 32)] ++ [(1, 32)] ++ [(1, 32)]) 48) (cB_arr hB (f := 47) rfl (Or.inr (fun b i => rfl)) (by decide) (by decide +kernel) (by decide)) (fun sh M hB => ?_)
  refine g_aload_n (q0 := 276) (j := 0) rfl dX12_init_275 rfl ?_
  refine g_bipush (q0 := 278) rfl dX12_init_276 (k := ?_)
  refine g_newI (q0 := 280) (n := 32) rfl rfl ac_int dX12_init_278 (by decide) (Nat.le_of_ble_eq_true rfl) (Nat.le_of_ble_eq_true rfl) ?_
  refine g_putC (q0 := 283) (t := 4) (fi := 48) rfl rfl ff_X12_111 dX12_init_280 rfl (gsh_old (cB_own hB)) rfl rfl (fun r h => by cases h; rfl) (fun G => by rw [gc_ref G (Int.natCast_nonneg _)]; exact ⟨rfl, rfl⟩) ?_
  refine gA_gen (cB [] 13 sh0 M0 ([] ++ [(1, 120)] ++ [(1, 360)] ++ [(1, 120)] ++ [(1, 120)] ++ [(1, 120)] ++ [(1, 2880)] ++ [(1, 123)] ++ [(1, 2016)] ++ [(1, 2016)] ++ [(1, 3)] ++ [(1, 400)] ++ [(3, 120)] ++ [(3, 120)] ++ [(1, 120)] ++ [(2, 260)] ++ [(1, 208)] ++ [(1, 208)] ++ [(1, 340)] ++ [(1, 480)] ++ [(1, 480)] ++ [(3, 120)] ++ [(1, 3)] ++ [(1, 3)] ++ [(3, 3)] ++ [(3, 120)] ++ [(1, 52)] ++ [(1, 52)] ++ [(1, 120)] ++ [(1, 120)] ++ [(1, 32)] ++ [(1, 32)] ++ [(1, 32)] ++ [(1, 32)] ++ [(1, 32)]) 49) (cB_arr hB (f := 48) rfl (Or.inr (fun b i => rfl)) (by decide) (by decide +kernel) (by decide)) (fun sh M hB => ?_)
  refine g_aload_n (q0 := 284) (j := 0) rfl dX12_init_283 rfl ?_
  refine g_bipush (q0 := 286) rfl dX12_init_284 (k := ?_)
  refine g_newZ (q0 := 288) (n := 120) rfl rfl ac_boolean dX12_init_286 (by decide) (Nat.le_of_ble_eq_true rfl) (Nat.le_of_ble_eq_true rfl) ?_
  refine g_putC (q0 := 291) (t := 4) (fi := 52) rfl rfl ff_X12_114 dX12_init_288 rfl (gsh_old (cB_own hB)) rfl rfl (fun r h => by cases h; rfl) (fun G => by rw [gc_ref G (Int.natCast_nonneg _)]; exact ⟨rfl, rfl⟩) ?_
  refine gA_gen (cB [] 13 sh0 M0 ([] ++ [(1, 120)] ++ [(1, 360)] ++ [(1, 120)] ++ [(1, 120)] ++ [(1, 120)] ++ [(1, 2880)] ++ [(1, 123)] ++ [(1, 2016)] ++ [(1, 2016)] ++ [(1, 3)] ++ [(1, 400)] ++ [(3, 120)] ++ [(3, 120)] ++ [(1, 120)] ++ [(2, 260)] ++ [(1, 208)] ++ [(1, 208)] ++ [(1, 340)] ++ [(1, 480)] ++ [(1, 480)] ++ [(3, 120)] ++ [(1, 3)] ++ [(1, 3)] ++ [(3, 3)] ++ [(3, 120)] ++ [(1, 52)] ++ [(1, 52)] ++ [(1, 120)] ++ [(1, 120)] ++ [(1, 32)] ++ [(1, 32)] ++ [(1, 32)] ++ [(1, 32)] ++ [(1, 32)] ++ [(3, 120)]) 53) (cB_arr hB (f := 52) rfl (Or.inr (fun b i => rfl)) (by decide) (by decide +kernel) (by decide)) (fun sh M hB => ?_)
  refine g_aload_n (q0 := 292) (j := 0) rfl dX12_init_291 rfl ?_
  refine g_bipush (q0 := 294) rfl dX12_init_292 (k := ?_)
  refine g_newZ (q0 := 296) (n := 120) rfl rfl ac_boolean dX12_init_294 (by decide) (Nat.le_of_ble_eq_true rfl) (Nat.le_of_ble_eq_true rfl) ?_
  refine g_putC (q0 := 299) (t := 4) (fi := 53) rfl rfl ff_X12_117 dX12_init_296 rfl (gsh_old (cB_own hB)) rfl rfl (fun r h => by cases h; rfl) (fun G => by rw [gc_ref G (Int.natCast_nonneg _)]; exact ⟨rfl, rfl⟩) ?_
  refine gA_gen (cB [] 13 sh0 M0 ([] ++ [(1, 120)] ++ [(1, 360)] ++ [(1, 120)] ++ [(1, 120)] ++ [(1, 120)] ++ [(1, 2880)] ++ [(1, 123)] ++ [(1, 2016)] ++ [(1, 2016)] ++ [(1, 3)] ++ [(1, 400)] ++ [(3, 120)] ++ [(3, 120)] ++ [(1, 120)] ++ [(2, 260)] ++ [(1, 208)] ++ [(1, 208)] ++ [(1, 340)] ++ [(1, 480)] ++ [(1, 480)] ++ [(3, 120)] ++ [(1, 3)] ++ [(1, 3)] ++ [(3, 3)] ++ [(3, 120)] ++ [(1, 52)] ++ [(1, 52)] ++ [(1, 120)] ++ [(1, 120)] ++ [(1, 32)] ++ [(1, 32)] ++ [(1, 32)] ++ [(1, 32)] ++ [(1, 32)] ++ [(3, 120)] ++ [(3, 120)]) 54) (cB_arr hB (f := 53) rfl (Or.inr (fun b i => rfl)) (by decide) (by decide +kernel) (by decide)) (fun sh M hB => ?_)
  refine g_aload_n (q0 := 300) (j := 0) rfl dX12_init_299 rfl ?_
  refine g_bipush (q0 := 302) rfl dX12_init_300 (k := ?_)
  refine g_newZ (q0 := 304) (n := 120) rfl rfl ac_boolean dX12_init_302 (by decide) (Nat.le_of_ble_eq_true rfl) (Nat.le_of_ble_eq_true rfl) ?_
  refine g_putC (q0 := 307) (t := 4) (fi := 54) rfl rfl ff_X12_120 dX12_init_304 rfl (gsh_old (cB_own hB)) rfl rfl (fun r h => by cases h; rfl) (fun G => by rw [gc_ref G (Int.natCast_nonneg _)]; exact ⟨rfl, rfl⟩) ?_
  refine gA_gen (cB [] 13 sh0 M0 ([] ++ [(1, 120)] ++ [(1, 360)] ++ [(1, 120)] ++ [(1, 120)] ++ [(1, 120)] ++ [(1, 2880)] ++ [(1, 123)] ++ [(1, 2016)] ++ [(1, 2016)] ++ [(1, 3)] ++ [(1, 400)] ++ [(3, 120)] ++ [(3, 120)] ++ [(1, 120)] ++ [(2, 260)] ++ [(1, 208)] ++ [(1, 208)] ++ [(1, 340)] ++ [(1, 480)] ++ [(1, 480)] ++ [(3, 120)] ++ [(1, 3)] ++ [(1, 3)] ++ [(3, 3)] ++ [(3, 120)] ++ [(1, 52)] ++ [(1, 52)] ++ [(1, 120)] ++ [(1, 120)] ++ [(1, 32)] ++ [(1, 32)] ++ [(1, 32)] ++ [(1, 32)] ++ [(1, 32)] ++ [(3, 120)] ++ [(3, 120)] ++ [(3, 120)]) 55) (cB_arr hB (f := 54) rfl (Or.inr (fun b i => rfl)) (by decide) (by decide +kernel) (by decide)) (fun sh M hB => ?_)
  refine g_aload_n (q0 := 308) (j := 0) rfl dX12_init_307 rfl ?_
  refine g_bipush (q0 := 310) rfl dX12_init_308 (k := ?_)
  refine g_newI (q0 := 312) (n := 120) rfl rfl ac_int dX12_init_310 (by decide) (Nat.le_of_ble_eq_true rfl) (Nat.le_of_ble_eq_true rfl) ?_
  refine g_putC (q0 := 315) (t := 4) (fi := 55) rfl rfl ff_X12_123 dX12_init_312 rfl (gsh_old (cB_own hB)) rfl rfl (fun r h => by cases h; rfl) (fun G => by rw [gc_ref G (Int.natCast_nonneg _)]; exact ⟨rfl, rfl⟩) ?_
  refine gA_gen (cB [] 13 sh0 M0 ([] ++ [(1, 120)] ++ [(1, 360)] ++ [(1, 120)] ++ [(1, 120)] ++ [(1, 120)] ++ [(1, 2880)] ++ [(1, 123)] ++ [(1, 2016)] ++ [(1, 2016)] ++ [(1, 3)] ++ [(1, 400)] ++ [(3, 120)] ++ [(3, 120)] ++ [(1, 120)] ++ [(2, 260)] ++ [(1, 208)] ++ [(1, 208)] ++ [(1, 340)] ++ [(1, 480)] ++ [(1, 480)] ++ [(3, 120)] ++ [(1, 3)] ++ [(1, 3)] ++ [(3, 3)] ++ [(3, 120)] ++ [(1, 52)] ++ [(1, 52)] ++ [(1, 120)] ++ [(1, 120)] ++ [(1, 32)] ++ [(1, 32)] ++ [(1, 32)] ++ [(1, 32)] ++ [(1, 32)] ++ [(3, 120)] ++ [(3, 120)] ++ [(3, 120)] ++ [(1, 120)]) 56) (cB_arr hB (f := 55) rfl (Or.inr (fun b i => rfl)) (by decide) (by decide +kernel) (by decide)) (fun sh M hB => ?_)
  refine g_aload_n (q0 := 316) (j := 0) rfl dX12_init_315 rfl ?_
  refine g_bipush (q0 := 318) rfl dX12_init_316 (k := ?_)
  refine g_newI (q0 := 320) (n := 56) rfl rfl ac_int dX12_init_318 (by decide) (Nat.le_of_ble_eq_true rfl) (Nat.le_of_ble_eq_true rfl) ?_
  refine g_putC (q0 := 323) (t := 4) (fi := 56) rfl rfl ff_X12_126 dX12_init_320 rfl (gsh_old (cB_own hB)) rfl rfl (fun r h => by cases h; rfl) (fun G => by rw [gc_ref G (Int.natCast_nonneg _)]; exact ⟨rfl, rfl⟩) ?_
  refine gA_gen (cB [] 13 sh0 M0 ([] ++ [(1, 120)] ++ [(1, 360)] ++ [(1, 120)] ++ [(1, 120)] ++ [(1, 120)] ++ [(1, 2880)] ++ [(1, 123)] ++ [(1, 2016)] ++ [(1, 2016)] ++ [(1, 3)] ++ [(1, 400)] ++ [(3, 120)] ++ [(3, 120)] ++ [(1, 120)] ++ [(2, 260)] ++ [(1, 208)] ++ [(1, 208)] ++ [(1, 340)] ++ [(1, 480)] ++ [(1, 480)] ++ [(3, 120)] ++ [(1, 3)] ++ [(1, 3)] ++ [(3, 3)] ++ [(3, 120)] ++ [(1, 52)] ++ [(1, 52)] ++ [(1, 120)] ++ [(1, 120)] ++ [(1, 32)] ++ [(1, 32)] ++ [(1, 32)] ++ [(1, 32)] ++ [(1, 32)] ++ [(3, 120)] ++ [(3, 120)] ++ [(3, 120)] ++ [(1, 120)] ++ [(1, 56)]) 57) (cB_arr hB (f := 56) rfl (Or.inr (fun b i => rfl)) (by decide) (by decide +kernel) (by decide)) (fun sh M hB => ?_)
  refine g_aload_n (q0 := 324) (j := 0) rfl dX12_init_323 rfl ?_
  refine g_bipush (q0 := 326) rfl dX12_init_324 (k := ?_)
  refine g_newI (q0 := 328) (n := 16) rfl rfl ac_int dX12_init_326 (by decide) (Nat.le_of_ble_eq_true rfl) (Nat.le_of_ble_eq_true rfl) ?_
  refine g_putC (q0 := 331) (t := 4) (fi := 57) rfl rfl ff_X12_129 dX12_init_328 rfl (gsh_old (cB_own hB)) rfl rfl (fun r h => by cases h; rfl) (fun G => by rw [gc_ref G (Int.natCast_nonneg _)]; exact ⟨rfl, rfl⟩) ?_
  refine gA_gen (cB [] 13 sh0 M0 ([] ++ [(1, 120)] ++ [(1, 360)] ++ [(1, 120)] ++ [(1, 120)] ++ [(1, 120)] ++ [(1, 2880)] ++ [(1, 123)] ++ [(1, 2016)] ++ [(1, 2016)] ++ [(1, 3)] ++ [(1, 400)] ++ [(3, 120)] ++ [(3, 120)] ++ [(1, 120)] ++ [(2, 260)] ++ [(1, 208)] ++ [(1, 208)] ++ [(1, 340)] ++ [(1, 480)] ++ [(1, 480)] ++ [(3, 120)] ++ [(1, 3)] ++ [(1, 3)] ++ [(3, 3)] ++ [(3, 120)] ++ [(1, 52)] ++ [(1, 52)] ++ [(1, 120)] ++ [(1, 120)] ++ [(1, 32)] ++ [(1, 32)] ++ [(1, 32)] ++ [(1, 32)] ++ [(1, 32)] ++ [(3, 120)] ++ [(3, 120)] ++ [(3, 120)] ++ [(1, 120)] ++ [(1, 56)] ++ [(1, 16)]) 58) (cB_arr hB (f := 57) rfl (Or.inr (fun b i => rfl)) (by decide) (by decide +kernel) (by decide)) (fun sh M hB => ?_)
  refine g_aload_n (q0 := 332) (j := 0) rfl dX12_init_331 rfl ?_
  refine g_bipush (q0 := 334) rfl dX12_init_332 (k := ?_)
  refine g_newI (q0 := 336) (n := 16) rfl rfl ac_int dX12_init_334 (by decide) (Nat.le_of_ble_eq_true rfl) (Nat.le_of_ble_eq_true rfl) ?_
  refine g_putC (q0 := 339) (t := 4) (fi := 58) rfl rfl ff_X12_132 dX12_init_336 rfl (gsh_old (cB_own hB)) rfl rfl (fun r h => by cases h; rfl) (fun G => by rw [gc_ref G (Int.natCast_nonneg _)]; exact ⟨rfl, rfl⟩) ?_
  refine gA_gen (cB [] 13 sh0 M0 ([] ++ [(1, 120)] ++ [(1, 360)] ++ [(1, 120)] ++ [(1, 120)] ++ [(1, 120)] ++ [(1, 2880)] ++ [(1, 123)] ++ [(1, 2016)] ++ [(1, 2016)] ++ [(1, 3)] ++ [(1, 400)] ++ [(3, 120)] ++ [(3, 120)] ++ [(1, 120)] ++ [(2, 260)] ++ [(1, 208)] ++ [(1, 208)] ++ [(1, 340)] ++ [(1, 480)] ++ [(1, 480)] ++ [(3, 120)] ++ [(1, 3)] ++ [(1, 3)] ++ [(3, 3)] ++ [(3, 120)] ++ [(1, 52)] ++ [(1, 52)] ++ [(1, 120)] ++ [(1, 120)] ++ [(1, 32)] ++ [(1, 32)] ++ [(1, 32)] ++ [(1, 32)] ++ [(1, 32)] ++ [(3, 120)] ++ [(3, 120)] ++ [(3, 120)] ++ [(1, 120)] ++ [(1, 56)] ++ [(1, 16)] ++ [(1, 16)]) 59) (cB_arr hB (f := 58) rfl (Or.inr (fun b i => rfl)) (by decide) (by decide +kernel) (by decide)) (fun sh M hB => ?_)
  refine g_aload_n (q0 := 340) (j := 0) rfl dX12_init_339 rfl ?_
  refine g_sipush (q0 := 343) rfl dX12_init_340 (k := ?_)
  refine g_newI (q0 := 345) (n := 208) rfl rfl ac_int dX12_init_343 (by decide) (Nat.le_of_ble_eq_true rfl) (Nat.le_of_ble_eq_true rfl) ?_
  refine g_putC (q0 := 348) (t := 4) (fi := 65) rfl rfl ff_X12_135 dX12_init_345 rfl (gsh_old (cB_own hB)) rfl rfl (fun r h => by cases h; rfl) (fun G => by rw [gc_ref G (Int.natCast_nonneg _)]; exact ⟨rfl, rfl⟩) ?_
  refine gA_gen (cB [] 13 sh0 M0 ([] ++ [(1, 120)] ++ [(1, 360)] ++ [(1, 120)] ++ [(1, 120)] ++ [(1, 120)] ++ [(1, 2880)] ++ [(1, 123)] ++ [(1, 2016)] ++ [(1, 2016)] ++ [(1, 3)] ++ [(1, 400)] ++ [(3, 120)] ++ [(3, 120)] ++ [(1, 120)] ++ [(2, 260)] ++ [(1, 208)] ++ [(1, 208)] ++ [(1, 340)] ++ [(1, 480)] ++ [(1, 480)] ++ [(3, 120)] ++ [(1, 3)] ++ [(1, 3)] ++ [(3, 3)] ++ [(3, 120)] ++ [(1, 52)] ++ [(1, 52)] ++ [(1, 120)] ++ [(1, 120)] ++ [(1, 32)] ++ [(1, 32)] ++ [(1, 32)] ++ [(1, 32)] ++ [(1, 32)] ++ [(3, 120)] ++ [(3, 120)] ++ [(3, 120)] ++ [(1, 120)] ++ [(1, 56)] ++ [(1, 16)] ++ [(1, 16)] ++ [(1, 208)]) 66) (cB_arr hB (f := 65) rfl (Or.inr (fun b i => rfl)) (by decide) (by decide +kernel) (by decide)) (fun sh M hB => ?_)
  refine g_aload_n (q0 := 349) (j := 0) rfl dX12_init_348 rfl ?_
  refine g_sipush (q0 := 352) rfl dX12_init_349 (k := ?_)
  refine g_newI (q0 := 354) (n := 208) rfl rfl ac_int dX12_init_352 (by decide) (Nat.le_of_ble_eq_true rfl) (Nat.le_of_ble_eq_true rfl) ?_
  refine g_putC (q0 := 357) (t := 4) (fi := 66) rfl rfl ff_X12_138 dX12_init_354 rfl (gsh_old (cB_own hB)) rfl rfl (fun r h => by cases h; rfl) (fun G => by rw [gc_ref G (Int.natCast_nonneg _)]; exact ⟨rfl, rfl⟩) ?_
  refine gA_gen (cB [] 13 sh0 M0 ([] ++ [(1, 120)] ++ [(1, 360)] ++ [(1, 120)] ++ [(1, 120)] ++ [(1, 120)] ++ [(1, 2880)] ++ [(1, 123)] ++ [(1, 2016)] ++ [(1, 2016)] ++ [(1, 3)] ++ [(1, 400)] ++ [(3, 120)] ++ [(3, 120)] ++ [(1, 120)] ++ [(2, 260)] ++ [(1, 208)] ++ [(1, 208)] ++ [(1, 340)] ++ [(1, 480)] ++ [(1, 480)] ++ [(3, 120)] ++ [(1, 3)] ++ [(1, 3)] ++ [(3, 3)] ++ [(3, 120)] ++ [(1, 52)] ++ [(1, 52)] ++ [(1, 120)] ++ [(1, 120)] ++ [(1, 32)] ++ [(1, 32)] ++ [(1, 32)] ++ [(1, 32)] ++ [(1, 32)] ++ [(3, 120)] ++ [(3, 120)] ++ [(3, 120)] ++ [(1, 120)] ++ [(1, 56)] ++ [(1, 16)] ++ [(1, 16)] ++ [(1, 208)] ++ [(1, 208)]) 67) (cB_arr hB (f := 66) rfl (Or.inr (fun b i => rfl)) (by decide) (by decide +kernel) (by decide)) (fun sh M hB => ?_)
  refine g_aload_n (q0 := 358) (j := 0) rfl dX12_init_357 rfl ?_
  refine g_sipush (q0 := 361) rfl dX12_init_358 (k := ?_)
  refine g_newI (q0 := 363) (n := 272) rfl rfl ac_int dX12_init_361 (by decide) (Nat.le_of_ble_eq_true rfl) (Nat.le_of_ble_eq_true rfl) ?_
  refine g_putC (q0 := 366) (t := 4) (fi := 67) rfl rfl ff_X12_141 dX12_init_363 rfl (gsh_old (cB_own hB)) rfl rfl (fun r h => by cases h; rfl) (fun G => by rw [gc_ref G (Int.natCast_nonneg _)]; exact ⟨rfl, rfl⟩) ?_
  refine gA_gen (cB [] 13 sh0 M0 ([] ++ [(1, 120)] ++ [(1, 360)] ++ [(1, 120)] ++ [(1, 120)] ++ [(1, 120)] ++ [(1, 2880)] ++ [(1, 123)] ++ [(1, 2016)] ++ [(1, 2016)] ++ [(1, 3)] ++ [(1, 400)] ++ [(3, 120)] ++ [(3, 120)] ++ [(1, 120)] ++ [(2, 260)] ++ [(1, 208)] ++ [(1, 208)] ++ [(1, 340)] ++ [(1, 480)] ++ [(1, 480)] ++ [(3, 120)] ++ [(1, 3)] ++ [(1, 3)] ++ [(3, 3)] ++ [(3, 120)] ++ [(1, 52)] ++ [(1, 52)] ++ [(1, 120)] ++ [(1, 120)] ++ [(1, 32)] ++ [(1, 32)] ++ [(1, 32)] ++ [(1, 32)] ++ [(1, 32)] ++ [(3, 120)] ++ [(3, 120)] ++ [(3, 120)] ++ [(1, 120)] ++ [(1, 56)] ++ [(1, 16)] ++ [(1, 16)] ++ [(1, 208)] ++ [(1, 208)] ++ [(1, 272)]) 68) (cB_arr hB (f := 67) rfl (Or.inr (fun b i => rfl)) (by decide) (by decide +kernel) (by decide)) (fun sh M hB => ?_)
  refine g_aload_n (q0 := 367) (j := 0) rfl dX12_init_366 rfl ?_
  refine g_sipush (q0 := 370) rfl dX12_init_367 (k := ?_)
  refine g_newI (q0 := 372) (n := 480) rfl rfl ac_int dX12_init_370 (by decide) (Nat.le_of_ble_eq_true rfl) (Nat.le_of_ble_eq_true rfl) ?_
  refine g_putC (q0 := 375) (t := 4) (fi := 68) rfl rfl ff_X12_144 dX12_init_372 rfl (gsh_old (cB_own hB)) rfl rfl (fun r h => by cases h; rfl) (fun G => by rw [gc_ref G (Int.natCast_nonneg _)]; exact ⟨rfl, rfl⟩) ?_
  refine gA_gen (cB [] 13 sh0 M0 ([] ++ [(1, 120)] ++ [(1, 360)] ++ [(1, 120)] ++ [(1, 120)] ++ [(1, 120)] ++ [(1, 2880)] ++ [(1, 123)] ++ [(1, 2016)] ++ [(1, 2016)] ++ [(1, 3)] ++ [(1, 400)] ++ [(3, 120)] ++ [(3, 120)] ++ [(1, 120)] ++ [(2, 260)] ++ [(1, 208)] ++ [(1, 208)] ++ [(1, 340)] ++ [(1, 480)] ++ [(1, 480)] ++ [(3, 120)] ++ [(1, 3)] ++ [(1, 3)] ++ [(3, 3)] ++ [(3, 120)] ++ [(1, 52)] ++ [(1, 52)] ++ [(1, 120)] ++ [(1, 120)] ++ [(1, 32)] ++ [(1, 32)] ++ [(1, 32)] ++ [(1, 32)] ++ [(1, 32)] ++ [(3, 120)] ++ [(3, 120)] ++ [(3, 120)] ++ [(1, 120)] ++ [(1, 56)] ++ [(1, 16)] ++ [(1, 16)] ++ [(1, 208)] ++ [(1, 208)] ++ [(1, 272)] ++ [(1, 480)]) 69) (cB_arr hB (f := 68) rfl (Or.inr (fun b i => rfl)) (by decide) (by decide +kernel) (by decide)) (fun sh M hB => ?_)
  refine g_aload_n (q0 := 376) (j := 0) rfl dX12_init_375 rfl ?_
  refine g_sipush (q0 := 379) rfl dX12_init_376 (k := ?_)
  refine g_newI (q0 := 381) (n := 480) rfl rfl ac_int dX12_init_379 (by decide) (Nat.le_of_ble_eq_true rfl) (Nat.le_of_ble_eq_true rfl) ?_
  refine g_putC (q0 := 384) (t := 4) (fi := 69) rfl rfl ff_X12_147 dX12_init_381 rfl (gsh_old (cB_own hB)) rfl rfl (fun r h => by cases h; rfl) (fun G => by rw [gc_ref G (Int.natCast_nonneg _)]; exact ⟨rfl, rfl⟩) ?_
  refine gA_gen (cB [] 13 sh0 M0 ([] ++ [(1, 120)] ++ [(1, 360)] ++ [(1, 120)] ++ [(1, 120)] ++ [(1, 120)] ++ [(1, 2880)] ++ [(1, 123)] ++ [(1, 2016)] ++ [(1, 2016)] ++ [(1, 3)] ++ [(1, 400)] ++ [(3, 120)] ++ [(3, 120)] ++ [(1, 120)] ++ [(2, 260)] ++ [(1, 208)] ++ [(1, 208)] ++ [(1, 340)] ++ [(1, 480)] ++ [(1, 480)] ++ [(3, 120)] ++ [(1, 3)] ++ [(1, 3)] ++ [(3, 3)] ++ [(3, 120)] ++ [(1, 52)] ++ [(1, 52)] ++ [(1, 120)] ++ [(1, 120)] ++ [(1, 32)] ++ [(1, 32)] ++ [(1, 32)] ++ [(1, 32)] ++ [(1, 32)] ++ [(3, 120)] ++ [(3, 120)] ++ [(3, 120)] ++ [(1, 120)] ++ [(1, 56)] ++ [(1, 16)] ++ [(1, 16)] ++ [(1, 208)] ++ [(1, 208)] ++ [(1, 272)] ++ [(1, 480)] ++ [(1, 480)]) 70) (cB_arr hB (f := 69) rfl (Or.inr (fun b i => rfl)) (by decide) (by decide +kernel) (by decide)) (fun sh M hB => ?_)
  refine g_iconst (q0 := 385) rfl dX12_init_384 (k := ?_)
  refine g_istore_n (q0 := 386) (j := 1) (lv2 := [_, _]) rfl dX12_init_385 (by decide) rfl rfl ?_
  refine gA_ck (c := 46) (d := 13583) rfl rfl ?_
  exact ct_X12_386 208 0 sh M rfl ⟨⟨⟨hB.1.1, hB.1.2.1, fun d k hd hk => hB.1.2.2 d k (by simp) hk⟩, hB.2⟩, fun i i0 i1 => by omega⟩
