-- ==== constructors with loops
theorem dX1_init_0 : decode cX1_init 0 = .ok (.aload_n 0, 1) := by decide +kernel
theorem dX1_init_1 : decode cX1_init 1 = .ok (.invokespecial 3, 3) := by decide +kernel
theorem dX1_init_4 : decode cX1_init 4 = .ok (.aload_n 0, 1) := by decide +kernel
theorem dX1_init_5 : decode cX1_init 5 = .ok (.bipush 120, 2) := by decide +kernel
theorem dX1_init_7 : decode cX1_init 7 = .ok (.newarray .int, 2) := by decide +kernel
theorem dX1_init_9 : decode cX1_init 9 = .ok (.putfield 9, 3) := by decide +kernel
theorem dX1_init_12 : decode cX1_init 12 = .ok (.aload_n 0, 1) := by decide +kernel
theorem dX1_init_13 : decode cX1_init 13 = .ok (.sipush 360, 3) := by decide +kernel
theorem dX1_init_16 : decode cX1_init 16 = .ok (.newarray .int, 2) := by decide +kernel
theorem dX1_init_18 : decode cX1_init 18 = .ok (.putfield 15, 3) := by decide +kernel
theorem dX1_init_21 : decode cX1_init 21 = .ok (.aload_n 0, 1) := by decide +kernel
theorem dX1_init_22 : decode cX1_init 22 = .ok (.bipush 120, 2) := by decide +kernel
theorem dX1_init_24 : decode cX1_init 24 = .ok (.newarray .int, 2) := by decide +kernel
theorem dX1_init_26 : decode cX1_init 26 = .ok (.putfield 18, 3) := by decide +kernel
theorem dX1_init_29 : decode cX1_init 29 = .ok (.aload_n 0, 1) := by decide +kernel
theorem dX1_init_30 : decode cX1_init 30 = .ok (.bipush 120, 2) := by decide +kernel
theorem dX1_init_32 : decode cX1_init 32 = .ok (.anewarray 21, 3) := by decide +kernel
theorem dX1_init_35 : decode cX1_init 35 = .ok (.putfield 23, 3) := by decide +kernel
theorem dX1_init_38 : decode cX1_init 38 = .ok (.aload_n 0, 1) := by decide +kernel
theorem dX1_init_39 : decode cX1_init 39 = .ok (.sipush 2880, 3) := by decide +kernel
theorem dX1_init_42 : decode cX1_init 42 = .ok (.newarray .byte, 2) := by decide +kernel
theorem dX1_init_44 : decode cX1_init 44 = .ok (.putfield 27, 3) := by decide +kernel
theorem dX1_init_47 : decode cX1_init 47 = .ok (.aload_n 0, 1) := by decide +kernel
theorem dX1_init_48 : decode cX1_init 48 = .ok (.bipush 120, 2) := by decide +kernel
theorem dX1_init_50 : decode cX1_init 50 = .ok (.newarray .int, 2) := by decide +kernel
theorem dX1_init_52 : decode cX1_init 52 = .ok (.putfield 31, 3) := by decide +kernel
theorem dX1_init_55 : decode cX1_init 55 = .ok (.aload_n 0, 1) := by decide +kernel
theorem dX1_init_56 : decode cX1_init 56 = .ok (.bipush 120, 2) := by decide +kernel
theorem dX1_init_58 : decode cX1_init 58 = .ok (.newarray .int, 2) := by decide +kernel
theorem dX1_init_60 : decode cX1_init 60 = .ok (.putfield 34, 3) := by decide +kernel
theorem dX1_init_63 : decode cX1_init 63 = .ok (.aload_n 0, 1) := by decide +kernel
theorem dX1_init_64 : decode cX1_init 64 = .ok (.bipush 120, 2) := by decide +kernel
theorem dX1_init_66 : decode cX1_init 66 = .ok (.newarray .int, 2) := by decide +kernel
theorem dX1_init_68 : decode cX1_init 68 = .ok (.putfield 37, 3) := by decide +kernel
theorem dX1_init_71 : decode cX1_init 71 = .ok (.aload_n 0, 1) := by decide +kernel
theorem dX1_init_72 : decode cX1_init 72 = .ok (.bipush 120, 2) := by decide +kernel
theorem dX1_init_74 : decode cX1_init 74 = .ok (.newarray .int, 2) := by decide +kernel
theorem dX1_init_76 : decode cX1_init 76 = .ok (.putfield 40, 3) := by decide +kernel
theorem dX1_init_79 : decode cX1_init 79 = .ok (.aload_n 0, 1) := by decide +kernel
theorem dX1_init_80 : decode cX1_init 80 = .ok (.new 43, 3) := by decide +kernel
theorem dX1_init_83 : decode cX1_init 83 = .ok (.dup, 1) := by decide +kernel
theorem dX1_init_84 : decode cX1_init 84 = .ok (.bipush 120, 2) := by decide +kernel
theorem dX1_init_86 : decode cX1_init 86 = .ok (.invokespecial 45, 3) := by decide +kernel
theorem dX1_init_89 : decode cX1_init 89 = .ok (.putfield 48, 3) := by decide +kernel
theorem dX1_init_92 : decode cX1_init 92 = .ok (.aload_n 0, 1) := by decide +kernel
theorem dX1_init_93 : decode cX1_init 93 = .ok (.new 21, 3) := by decide +kernel
theorem dX1_init_96 : decode cX1_init 96 = .ok (.dup, 1) := by decide +kernel
theorem dX1_init_97 : decode cX1_init 97 = .ok (.iconst 0, 1) := by decide +kernel
theorem dX1_init_98 : decode cX1_init 98 = .ok (.invokespecial 52, 3) := by decide +kernel
theorem dX1_init_101 : decode cX1_init 101 = .ok (.putfield 53, 3) := by decide +kernel
theorem dX1_init_104 : decode cX1_init 104 = .ok (.iconst 0, 1) := by decide +kernel
theorem dX1_init_105 : decode cX1_init 105 = .ok (.istore_n 1, 1) := by decide +kernel
theorem dX1_init_106 : decode cX1_init 106 = .ok (.iload_n 1, 1) := by decide +kernel
theorem dX1_init_107 : decode cX1_init 107 = .ok (.bipush 120, 2) := by decide +kernel
theorem dX1_init_109 : decode cX1_init 109 = .ok (.if_icmp .ge 24, 3) := by decide +kernel
theorem dX1_init_112 : decode cX1_init 112 = .ok (.aload_n 0, 1) := by decide +kernel
theorem dX1_init_113 : decode cX1_init 113 = .ok (.getfield 23, 3) := by decide +kernel
theorem dX1_init_116 : decode cX1_init 116 = .ok (.iload_n 1, 1) := by decide +kernel
theorem dX1_init_117 : decode cX1_init 117 = .ok (.new 21, 3) := by decide +kernel
theorem dX1_init_120 : decode cX1_init 120 = .ok (.dup, 1) := by decide +kernel
theorem dX1_init_121 : decode cX1_init 121 = .ok (.bipush 16, 2) := by decide +kernel
theorem dX1_init_123 : decode cX1_init 123 = .ok (.invokespecial 52, 3) := by decide +kernel
theorem dX1_init_126 : decode cX1_init 126 = .ok (.aastore, 1) := by decide +kernel
theorem dX1_init_127 : decode cX1_init 127 = .ok (.iinc 1 1, 3) := by decide +kernel
theorem dX1_init_130 : decode cX1_init 130 = .ok (.goto (-24), 3) := by decide +kernel
theorem dX1_init_133 : decode cX1_init 133 = .ok (.return_, 1) := by decide +kernel
def kTrs : Nat → gS
  | 0 => []
  | n + 1 => kTrs n ++ [(0, 11), (1, 16), (1, 16)]
theorem kTrs_len : ∀ n : Nat, (kTrs n).length = 3 * n
  | 0 => rfl
  | n + 1 => by rw [kTrs, List.length_append, kTrs_len n]; show 3 * n + 3 = 3 * (n + 1); omega
def kC0 : gS := [] ++ [(1, 120)] ++ [(1, 360)] ++ [(1, 120)] ++ [(6, 120)] ++ [(2, 2880)] ++ [(1, 120)] ++ [(1, 120)] ++ [(1, 120)] ++ [(1, 120)] ++ (0, 4) :: kMrk 120 ++ (0, 11) :: kTree 0
def kCms : gS := kC0 ++ kTrs 120
theorem cI_ofE {E : List Nat} {c : Nat} {sh0 : gS} {M0 : gM} {K : gS} {j : Nat} {sh : gS} {M : gM} (h : cB E c sh0 M0 K j sh M) (hn : ∀ i : Nat, i < 80 → j ≤ i → gOff0 c i = none) (hE : ∀ (d : Nat) (k : Nat × Nat), d ∈ E → K[d]? = some k → ∀ i : Int, gR k i → M ((sh0.length + 1 + d : Nat) : Int) i = gD k ((sh0.length + 1 + d : Nat) : Int) i) : cI c sh0 M0 K none sh M := by
  refine ⟨rfl, h.1.1, h.1.2.1, fun d k hk i hg => ?_⟩
  cases d with
  | zero =>
    cases hk
    rw [Nat.add_zero, h.2 i]
    split
    · rfl
    · refine (gD_no (by omega) ?_).symm
      by_cases q : i.toNat < 80
      · exact hn i.toNat q (by omega)
      · exact gOff0_no (by omega)
  | succ d =>
    have := (by by_cases q : d ∈ E; exact hE d k q hk i hg; exact h.1.2.2 d k q hk i hg : M ((sh0.length + 1 + d : Nat) : Int) i = gD k ((sh0.length + 1 + d : Nat) : Int) i)
    rw [show sh0.length + (d + 1) = sh0.length + 1 + d by omega]
    exact this
def iX1 (sh0 : gS) (M0 : gM) (j : Nat) (sh : gS) (M : gM) : Prop := cB [3] 2 sh0 M0 (kC0 ++ kTrs j) 12 sh M ∧ ∀ i : Int, 0 ≤ i → i < (j : Int) → M ((sh0.length + 1 + 3 : Nat) : Int) i = ((sh0.length + 1 + 3 : Nat) : Int) + 12 + 3 * i
theorem ct_X1_106 {sh0 : gS} {M0 : gM} : ∀ (k j : Nat) (sh : gS) (M : gM), j + k = 120 → iX1 sh0 M0 j sh M → gA (gx 2 41 375 (8525)) yX1_init cX1_init 2 none (cI 2 sh0 M0 kCms) (15 + 3 * j, 4325 + 35 * j) 106 [(4, (sh0.length : Int)), (0, (j : Int))] [] sh M := by
  intro k
  induction k with
  | zero =>
    intro j sh M hj hi
    have hj' : j = 120 := by omega
    subst hj'
    refine g_iload_n (q0 := 107) (j := 1) rfl dX1_init_106 rfl ?_
    refine g_bipush (q0 := 109) rfl dX1_init_107 (k := ?_)
    refine g_icmp_ge (q0 := 112) (tgt := 133) rfl dX1_init_109 (by decide) (fun h => ?_) (fun h => absurd (show (120 : Int) ≤ ((120 : Nat) : Int) by decide) (by omega))
    refine g_return dX1_init_133 rfl ⟨Nat.le_of_ble_eq_true rfl, Nat.le_of_ble_eq_true rfl⟩ (cI_ofE hi.1 (by decide) (fun d q hd hq i hg => ?_))
    have hd3 : d = 3 := List.mem_singleton.mp hd
    subst hd3
    have hq' : q = (6, 120) := (Option.some.inj hq).symm
    subst hq'
    obtain ⟨g0, g1⟩ := hg rfl
    have g1' : i < 120 := g1
    show M _ i = if 0 ≤ i ∧ i < ((120 : Nat) : Int) then _ else _
    rw [if_pos ⟨g0, g1⟩]
    exact hi.2 i g0 g1'
  | succ k ih =>
    intro j sh M hj hi
    obtain ⟨hB, hx⟩ := hi
    have hl := cB_len hB
    rw [List.length_append, kTrs_len, show kC0.length = 15 from rfl] at hl
    have e4 : M (sh0.length : Int) 4 = ((sh0.length + 1 + 3 : Nat) : Int) := by
      rw [hB.2 4, if_pos (by decide)]
      exact (gD_so (c := 2) (f := 4) (d := 4) rfl).trans (by omega)
    have hs6 : gsh sh ((sh0.length + 1 + 3 : Nat) : Int) = some (6, 120) := cC_sh hB.1 rfl
    refine g_iload_n (q0 := 107) (j := 1) rfl dX1_init_106 rfl ?_
    refine g_bipush (q0 := 109) rfl dX1_init_107 (k := ?_)
    refine g_icmp_ge (q0 := 112) (tgt := 133) rfl dX1_init_109 (by decide) (fun h => by omega) (fun h => ?_)
    refine g_aload_n (q0 := 113) (j := 0) rfl dX1_init_112 rfl ?_
    refine g_getf (q0 := 116) (t := 4) (fi := 4) rfl rfl ff_X1_23 dX1_init_113 rfl (cB_own hB) ?_
    rw [e4]
    refine g_iload_n (q0 := 117) (j := 1) rfl dX1_init_116 rfl ?_
    refine g_new (q0 := 120) rfl gcl_11 rfl rfl cl_X1_21 it_X10 ini_X10 dX1_init_117 (by show 15 + 3 * j + 1 ≤ 375; omega) (by show 4325 + 35 * j + 3 ≤ 8525; omega) ?_
    refine g_dup (q0 := 121) rfl dX1_init_120 (k := ?_)
    refine g_bipush (q0 := 123) rfl dX1_init_121 (k := ?_)
    refine g_callI (as := [_]) (rest := [_, _, _]) mt_X10_init rfl mi_X10_init ml_X1_52 dX1_init_123 (q0 := 126) rfl rfl (Int.natCast_nonneg _) (ct_X10 (n := 16) (by decide)) rfl ⟨by decide, by decide⟩ ⟨by show 15 + 3 * j + 1 + 2 ≤ 375; omega, by show 4325 + 35 * j + 3 + 32 ≤ 8525; omega⟩ (Nat.le_of_ble_eq_true rfl) (fun r sh1 M1 hI hw1 hMw1 => ?_)
    have hr := hI.1
    subst hr
    refine g_aast (q0 := 127) (q := 0) rfl dX1_init_126 (cI_old hI hs6) rfl (by omega) (by show (j : Int) < ((120 : Nat) : Int); omega) (cI_sh hI) rfl rfl ?_
    obtain ⟨hC, k1, k2, k3⟩ := cC_el (e := 3) (i := (j : Int)) (v := (sh.length : Int)) hB.1 hI (by decide) (by rw [List.length_append]; show 3 < 15 + _; omega) rfl
    refine g_iinc (q0 := 130) (lv2 := [_, _]) rfl dX1_init_127 rfl (by decide) rfl rfl (by omega) (by omega) ?_
    refine g_goto (tgt := 106) dX1_init_130 (by decide) ?_
    refine gA_ck (c := 15 + 3 * (j + 1)) (d := 4325 + 35 * (j + 1)) (by show 15 + 3 * j + 1 + 2 = _; omega) (by show 4325 + 35 * j + 3 + 32 = _; omega) ?_
    rw [show (j : Int) + 1 = ((j + 1 : Nat) : Int) from rfl]
    refine ih (j + 1) _ _ (by omega) ⟨⟨?_, fun i => ?_⟩, fun i i0 i1 => ?_⟩
    · rw [List.append_assoc] at hC
      exact hC
    · rw [k1 _ (by omega) (by omega)]
      exact hB.2 i
    · by_cases q : i = (j : Int)
      · rw [q, k3]; omega
      · rw [k2 i q]; exact hx i i0 (by omega)
theorem ct_X1 {sh0 : gS} {M0 : gM} : gC (gx 2 41 375 (8525)) yX1_init cX1_init 2 none [(4, (sh0.length : Int))] (sh0 ++ [(0, 2)]) (gN M0 (sh0.length : Int) (0, 2)) (cI 2 sh0 M0 kCms) := by
  refine gC_ofA (lv := [_, _]) (by decide +kernel) (Nat.le_of_ble_eq_true rfl) rfl (fun hMw hav => ?_)
  refine gA_gen (cB [3] 2 sh0 M0 [] 0) cB_0 (fun sh M hB => ?_)
  refine g_aload_n (q0 := 1) (j := 0) rfl dX1_init_0 rfl ?_
  refine g_objInit (q0 := 4) rfl (Int.natCast_nonneg _) ml_X1_3 mi_objectInit mc_objectInit dX1_init_1 (Nat.le_of_ble_eq_true rfl) (Nat.le_of_ble_eq_true rfl) ?_
  refine g_aload_n (q0 := 5) (j := 0) rfl dX1_init_4 rfl ?_
  refine g_bipush (q0 := 7) rfl dX1_init_5 (k := ?_)
  refine g_newI (q0 := 9) (n := 120) rfl rfl ac_int dX1_init_7 (by decide) (Nat.le_of_ble_eq_true rfl) (Nat.le_of_ble_eq_true rfl) ?_
  refine g_putC (q0 := 12) (t := 4) (fi := 1) rfl rfl ff_X1_9 dX1_init_9 rfl (gsh_old (cB_own hB)) rfl rfl (fun r h => by cases h; rfl) (fun G => by rw [gc_ref G (Int.natCast_nonneg _)]; exact ⟨rfl, rfl⟩) ?_
  refine gA_gen (cB [3] 2 sh0 M0 ([] ++ [(1, 120)]) 2) (cB_arr hB (f := 1) rfl (Or.inr (fun b i => rfl)) (by decide) (by decide +kernel) (by decide)) (fun sh M hB => ?_)
  refine g_aload_n (q0 := 13) (j := 0) rfl dX1_init_12 rfl ?_
  refine g_sipush (q0 := 16) rfl dX1_init_13 (k := ?_)
  refine g_newI (q0 := 18) (n := 360) rfl rfl ac_int dX1_init_16 (by decide) (Nat.le_of_ble_eq_true rfl) (Nat.le_of_ble_eq_true rfl) ?_
  refine g_putC (q0 := 21) (t := 4) (fi := 2) rfl rfl ff_X1_15 dX1_init_18 rfl (gsh_old (cB_own hB)) rfl rfl (fun r h => by cases h; rfl) (fun G => by rw [gc_ref G (Int.natCast_nonneg _)]; exact ⟨rfl, rfl⟩) ?_
  refine gA_gen (cB [3] 2 sh0 M0 ([] ++ [(1, 120)] ++ [(1, 360)]) 3) (cB_arr hB (f := 2) rfl (Or.inr (fun b i => rfl)) (by decide) (by decide +kernel) (by decide)) (fun sh M hB => ?_)
  refine g_aload_n (q0 := 22) (j := 0) rfl dX1_init_21 rfl ?_
  refine g_bipush (q0 := 24) rfl dX1_init_22 (k := ?_)
  refine g_newI (q0 := 26) (n := 120) rfl rfl ac_int dX1_init_24 (by decide) (Nat.le_of_ble_eq_true rfl) (Nat.le_of_ble_eq_true rfl) ?_
  refine g_putC (q0 := 29) (t := 4) (fi := 3) rfl rfl ff_X1_18 dX1_init_26 rfl (gsh_old (cB_own hB)) rfl rfl (fun r h => by cases h; rfl) (fun G => by rw [gc_ref G (Int.natCast_nonneg _)]; exact ⟨rfl, rfl⟩) ?_
  refine gA_gen (cB [3] 2 sh0 M0 ([] ++ [(1, 120)] ++ [(1, 360)] ++ [(1, 120)]) 4) (cB_arr hB (f := 3) rfl (Or.inr (fun b i => rfl)) (by decide) (by decide +kernel) (by decide)) (fun sh M hB => ?_)
  refine g_aload_n (q0 := 30) (j := 0) rfl dX1_init_29 rfl ?_
  refine g_bipush (q0 := 32) rfl dX1_init_30 (k := ?_)
  refine g_newq (q0 := 35) (n := 120) (q := 0) rfl rfl cl_X1_21 rfl (by decide +kernel) dX1_init_32 (by decide) (Nat.le_of_ble_eq_true rfl) (Nat.le_of_ble_eq_true rfl) ?_
  refine g_putC (q0 := 38) (t := 4) (fi := 4) rfl rfl ff_X1_23 dX1_init_35 rfl (gsh_old (cB_own hB)) rfl rfl (fun r h => by cases h; rfl) (fun G => by rw [gc_ref G (Int.natCast_nonneg _)]; exact ⟨rfl, rfl⟩) ?_
  refine gA_gen (cB [3] 2 sh0 M0 ([] ++ [(1, 120)] ++ [(1, 360)] ++ [(1, 120)] ++ [(6, 120)]) 5) (cB_arr hB (f := 4) rfl (Or.inl (by decide +kernel)) (by decide) (by decide +kernel) (by decide)) (fun sh M hB => ?_)
  refine g_aload_n (q0 := 39) (j := 0) rfl dX1_init_38 rfl ?_
  refine g_sipush (q0 := 42) rfl dX1_init_39 (k := ?_)
  refine g_newB (q0 := 44) (n := 2880) rfl rfl ac_byte dX1_init_42 (by decide) (Nat.le_of_ble_eq_true rfl) (Nat.le_of_ble_eq_true rfl) ?_
  refine g_putC (q0 := 47) (t := 4) (fi := 5) rfl rfl ff_X1_27 dX1_init_44 rfl (gsh_old (cB_own hB)) rfl rfl (fun r h => by cases h; rfl) (fun G => by rw [gc_ref G (Int.natCast_nonneg _)]; exact ⟨rfl, rfl⟩) ?_
  refine gA_gen (cB [3] 2 sh0 M0 ([] ++ [(1, 120)] ++ [(1, 360)] ++ [(1, 120)] ++ [(6, 120)] ++ [(2, 2880)]) 6) (cB_arr hB (f := 5) rfl (Or.inr (fun b i => rfl)) (by decide) (by decide +kernel) (by decide)) (fun sh M hB => ?_)
  refine g_aload_n (q0 := 48) (j := 0) rfl dX1_init_47 rfl ?_
  refine g_bipush (q0 := 50) rfl dX1_init_48 (k := ?_)
  refine g_newI (q0 := 52) (n := 120) rfl rfl ac_int dX1_init_50 (by decide) (Nat.le_of_ble_eq_true rfl) (Nat.le_of_ble_eq_true rfl) ?_
  refine g_putC (q0 := 55) (t := 4) (fi := 6) rfl rfl ff_X1_31 dX1_init_52 rfl (gsh_old (cB_own hB)) rfl rfl (fun r h => by cases h; rfl) (fun G => by rw [gc_ref G (Int.natCast_nonneg _)]; exact ⟨rfl, rfl⟩) ?_
  refine gA_gen (cB [3] 2 sh0 M0 ([] ++ [(1, 120)] ++ [(1, 360)] ++ [(1, 120)] ++ [(6, 120)] ++ [(2, 2880)] ++ [(1, 120)]) 7) (cB_arr hB (f := 6) rfl (Or.inr (fun b i => rfl)) (by decide) (by decide +kernel) (by decide)) (fun sh M hB => ?_)
  refine g_aload_n (q0 := 56) (j := 0) rfl dX1_init_55 rfl ?_
  refine g_bipush (q0 := 58) rfl dX1_init_56 (k := ?_)
  refine g_newI (q0 := 60) (n := 120) rfl rfl ac_int dX1_init_58 (by decide) (Nat.le_of_ble_eq_true rfl) (Nat.le_of_ble_eq_true rfl) ?_
  refine g_putC (q0 := 63) (t := 4) (fi := 7) rfl rfl ff_X1_34 dX1_init_60 rfl (gsh_old (cB_own hB)) rfl rfl (fun r h => by cases h; rfl) (fun G => by rw [gc_ref G (Int.natCast_nonneg _)]; exact ⟨rfl, rfl⟩) ?_
  refine gA_gen (cB [3] 2 sh0 M0 ([] ++ [(1, 120)] ++ [(1, 360)] ++ [(1, 120)] ++ [(6, 120)] ++ [(2, 2880)] ++ [(1, 120)] ++ [(1, 120)]) 8) (cB_arr hB (f := 7) rfl (Or.inr (fun b i => rfl)) (by decide) (by decide +kernel) (by decide)) (fun sh M hB => ?_)
  refine g_aload_n (q0 := 64) (j := 0) rfl dX1_init_63 rfl ?_
  refine g_bipush (q0 := 66) rfl dX1_init_64 (k := ?_)
  refine g_newI (q0 := 68) (n := 120) rfl rfl ac_int dX1_init_66 (by decide) (Nat.le_of_ble_eq_true rfl) (Nat.le_of_ble_eq_true rfl) ?_
  refine g_putC (q0 := 71) (t := 4) (fi := 8) rfl rfl ff_X1_37 dX1_init_68 rfl (gsh_old (cB_own hB)) rfl rfl (fun r h => by cases h; rfl) (fun G => by rw [gc_ref G (Int.natCast_nonneg _)]; exact ⟨rfl, rfl⟩) ?_
  refine gA_gen (cB [3] 2 sh0 M0 ([] ++ [(1, 120)] ++ [(1, 360)] ++ [(1, 120)] ++ [(6, 120)] ++ [(2, 2880)] ++ [(1, 120)] ++ [(1, 120)] ++ [(1, 120)]) 9) (cB_arr hB (f := 8) rfl (Or.inr (fun b i => rfl)) (by decide) (by decide +kernel) (by decide)) (fun sh M hB => ?_)
  refine g_aload_n (q0 := 72) (j := 0) rfl dX1_init_71 rfl ?_
  refine g_bipush (q0 := 74) rfl dX1_init_72 (k := ?_)
  refine g_newI (q0 := 76) (n := 120) rfl rfl ac_int dX1_init_74 (by decide) (Nat.le_of_ble_eq_true rfl) (Nat.le_of_ble_eq_true rfl) ?_
  refine g_putC (q0 := 79) (t := 4) (fi := 9) rfl rfl ff_X1_40 dX1_init_76 rfl (gsh_old (cB_own hB)) rfl rfl (fun r h => by cases h; rfl) (fun G => by rw [gc_ref G (Int.natCast_nonneg _)]; exact ⟨rfl, rfl⟩) ?_
  refine gA_gen (cB [3] 2 sh0 M0 ([] ++ [(1, 120)] ++ [(1, 360)] ++ [(1, 120)] ++ [(6, 120)] ++ [(2, 2880)] ++ [(1, 120)] ++ [(1, 120)] ++ [(1, 120)] ++ [(1, 120)]) 10) (cB_arr hB (f := 9) rfl (Or.inr (fun b i => rfl)) (by decide) (by decide +kernel) (by decide)) (fun sh M hB => ?_)
  refine g_aload_n (q0 := 80) (j := 0) rfl dX1_init_79 rfl ?_
  refine g_new (q0 := 83) rfl gcl_4 rfl rfl cl_X1_43 it_X3 ini_X3 dX1_init_80 (Nat.le_of_ble_eq_true rfl) (Nat.le_of_ble_eq_true rfl) ?_
  refine g_dup (q0 := 84) rfl dX1_init_83 (k := ?_)
  refine g_bipush (q0 := 86) rfl dX1_init_84 (k := ?_)
  refine g_callI (as := [_]) (rest := [_, _]) mt_X3_init rfl mi_X3_init ml_X1_45 dX1_init_86 (q0 := 89) rfl rfl (Int.natCast_nonneg _) (ct_X3 (n := 120) (by decide)) rfl ⟨by decide, by decide⟩ ⟨Nat.le_of_ble_eq_true rfl, Nat.le_of_ble_eq_true rfl⟩ (Nat.le_of_ble_eq_true rfl) (fun r sh1 M1 hI hw1 hMw1 => ?_)
  have hr := hI.1
  subst hr
  refine g_putC (q0 := 92) (t := 4) (fi := 10) rfl rfl ff_X1_48 dX1_init_89 rfl (cB_objp hB hI) rfl rfl (fun r h => by cases h; rfl) (fun G => by rw [gc_ref G (Int.natCast_nonneg _)]; exact ⟨rfl, rfl⟩) ?_
  refine gA_gen (cB [3] 2 sh0 M0 ([] ++ [(1, 120)] ++ [(1, 360)] ++ [(1, 120)] ++ [(6, 120)] ++ [(2, 2880)] ++ [(1, 120)] ++ [(1, 120)] ++ [(1, 120)] ++ [(1, 120)] ++ (0, 4) :: kMrk 120) 11) (cB_obj hB hI (f := 10) rfl (by decide) (by decide +kernel) (by decide)) (fun sh M hB => ?_)
  refine g_aload_n (q0 := 93) (j := 0) rfl dX1_init_92 rfl ?_
  refine g_new (q0 := 96) rfl gcl_11 rfl rfl cl_X1_21 it_X10 ini_X10 dX1_init_93 (Nat.le_of_ble_eq_true rfl) (Nat.le_of_ble_eq_true rfl) ?_
  refine g_dup (q0 := 97) rfl dX1_init_96 (k := ?_)
  refine g_iconst (q0 := 98) rfl dX1_init_97 (k := ?_)
  refine g_callI (as := [_]) (rest := [_, _]) mt_X10_init rfl mi_X10_init ml_X1_52 dX1_init_98 (q0 := 101) rfl rfl (Int.natCast_nonneg _) (ct_X10 (n := 0) (by decide)) rfl ⟨by decide, by decide⟩ ⟨Nat.le_of_ble_eq_true rfl, Nat.le_of_ble_eq_true rfl⟩ (Nat.le_of_ble_eq_true rfl) (fun r sh1 M1 hI hw1 hMw1 => ?_)
  have hr := hI.1
  subst hr
  refine g_putC (q0 := 104) (t := 4) (fi := 11) rfl rfl ff_X1_53 dX1_init_101 rfl (cB_objp hB hI) rfl rfl (fun r h => by cases h; rfl) (fun G => by rw [gc_ref G (Int.natCast_nonneg _)]; exact ⟨rfl, rfl⟩) ?_
  refine gA_gen (cB [3] 2 sh0 M0 ([] ++ [(1, 120)] ++ [(1, 360)] ++ [(1, 120)] ++ [(6, 120)] ++ [(2, 2880)] ++ [(1, 120)] ++ [(1, 120)] ++ [(1, 120)] ++ [(1, 120)] ++ (0, 4) :: kMrk 120 ++ (0, 11) :: kTree 0) 12) (cB_obj hB hI (f := 11) rfl (by decide) (by decide +kernel) (by decide)) (fun sh M hB => ?_)
  refine g_iconst (q0 := 105) rfl dX1_init_104 (k := ?_)
  refine g_istore_n (q0 := 106) (j := 1) (lv2 := [_, _]) rfl dX1_init_105 (by decide) rfl rfl ?_
  refine gA_ck (c := 15 + 3 * 0) (d := 4325 + 35 * 0) rfl rfl ?_
  exact ct_X1_106 120 0 sh M rfl ⟨hB, fun i i0 i1 => by omega⟩
theorem dX8_init_0 : decode cX8_init 0 = .ok (.aload_n 0, 1) := by decide +kernel
theorem dX8_init_1 : decode cX8_init 1 = .ok (.invokespecial 3, 3) := by decide +kernel
theorem dX8_init_4 : decode cX8_init 4 = .ok (.aload_n 0, 1) := by decide +kernel
theorem dX8_init_5 : decode cX8_init 5 = .ok (.new 9, 3) := by decide +kernel
theorem dX8_init_8 : decode cX8_init 8 = .ok (.dup, 1) := by decide +kernel
theorem dX8_init_9 : decode cX8_init 9 = .ok (.invokespecial 11, 3) := by decide +kernel
theorem dX8_init_12 : decode cX8_init 12 = .ok (.putfield 12, 3) := by decide +kernel
theorem dX8_init_15 : decode cX8_init 15 = .ok (.aload_n 0, 1) := by decide +kernel
theorem dX8_init_16 : decode cX8_init 16 = .ok (.new 18, 3) := by decide +kernel
theorem dX8_init_19 : decode cX8_init 19 = .ok (.dup, 1) := by decide +kernel
theorem dX8_init_20 : decode cX8_init 20 = .ok (.invokespecial 20, 3) := by decide +kernel
theorem dX8_init_23 : decode cX8_init 23 = .ok (.putfield 21, 3) := by decide +kernel
theorem dX8_init_26 : decode cX8_init 26 = .ok (.aload_n 0, 1) := by decide +kernel
theorem dX8_init_27 : decode cX8_init 27 = .ok (.new 25, 3) := by decide +kernel
theorem dX8_init_30 : decode cX8_init 30 = .ok (.dup, 1) := by decide +kernel
theorem dX8_init_31 : decode cX8_init 31 = .ok (.bipush 120, 2) := by decide +kernel
theorem dX8_init_33 : decode cX8_init 33 = .ok (.invokespecial 27, 3) := by decide +kernel
theorem dX8_init_36 : decode cX8_init 36 = .ok (.putfield 30, 3) := by decide +kernel
theorem dX8_init_39 : decode cX8_init 39 = .ok (.aload_n 0, 1) := by decide +kernel
theorem dX8_init_40 : decode cX8_init 40 = .ok (.new 25, 3) := by decide +kernel
theorem dX8_init_43 : decode cX8_init 43 = .ok (.dup, 1) := by decide +kernel
theorem dX8_init_44 : decode cX8_init 44 = .ok (.iconst 1, 1) := by decide +kernel
theorem dX8_init_45 : decode cX8_init 45 = .ok (.invokespecial 27, 3) := by decide +kernel
theorem dX8_init_48 : decode cX8_init 48 = .ok (.putfield 34, 3) := by decide +kernel
theorem dX8_init_51 : decode cX8_init 51 = .ok (.aload_n 0, 1) := by decide +kernel
theorem dX8_init_52 : decode cX8_init 52 = .ok (.bipush 120, 2) := by decide +kernel
theorem dX8_init_54 : decode cX8_init 54 = .ok (.newarray .int, 2) := by decide +kernel
theorem dX8_init_56 : decode cX8_init 56 = .ok (.putfield 37, 3) := by decide +kernel
theorem dX8_init_59 : decode cX8_init 59 = .ok (.aload_n 0, 1) := by decide +kernel
theorem dX8_init_60 : decode cX8_init 60 = .ok (.bipush 120, 2) := by decide +kernel
theorem dX8_init_62 : decode cX8_init 62 = .ok (.newarray .int, 2) := by decide +kernel
theorem dX8_init_64 : decode cX8_init 64 = .ok (.putfield 41, 3) := by decide +kernel
theorem dX8_init_67 : decode cX8_init 67 = .ok (.aload_n 0, 1) := by decide +kernel
theorem dX8_init_68 : decode cX8_init 68 = .ok (.iconst 3, 1) := by decide +kernel
theorem dX8_init_69 : decode cX8_init 69 = .ok (.newarray .int, 2) := by decide +kernel
theorem dX8_init_71 : decode cX8_init 71 = .ok (.putfield 44, 3) := by decide +kernel
theorem dX8_init_74 : decode cX8_init 74 = .ok (.aload_n 0, 1) := by decide +kernel
theorem dX8_init_75 : decode cX8_init 75 = .ok (.iconst 3, 1) := by decide +kernel
theorem dX8_init_76 : decode cX8_init 76 = .ok (.newarray .boolean, 2) := by decide +kernel
theorem dX8_init_78 : decode cX8_init 78 = .ok (.putfield 47, 3) := by decide +kernel
theorem dX8_init_81 : decode cX8_init 81 = .ok (.return_, 1) := by decide +kernel
def kRwr : gS := [] ++ (0, 2) :: kCms ++ (0, 3) :: kDrf ++ (0, 4) :: kMrk 120 ++ (0, 4) :: kMrk 1 ++ [(1, 120)] ++ [(1, 120)] ++ [(1, 3)] ++ [(3, 3)]
theorem ct_X8 {sh0 : gS} {M0 : gM} : gC (gx 3 62 395 (9198)) yX8_init cX8_init 1 none [(4, (sh0.length : Int))] (sh0 ++ [(0, 9)]) (gN M0 (sh0.length : Int) (0, 9)) (cI 9 sh0 M0 (kRwr)) := by
  refine gC_ofA (lv := [_]) (by decide +kernel) (Nat.le_of_ble_eq_true rfl) rfl (fun hMw hav => ?_)
  refine gA_gen (cB [] 9 sh0 M0 [] 0) cB_0 (fun sh M hB => ?_)
  refine g_aload_n (q0 := 1) (j := 0) rfl dX8_init_0 rfl ?_
  refine g_objInit (q0 := 4) rfl (Int.natCast_nonneg _) ml_X8_3 mi_objectInit mc_objectInit dX8_init_1 (Nat.le_of_ble_eq_true rfl) (Nat.le_of_ble_eq_true rfl) ?_
  refine g_aload_n (q0 := 5) (j := 0) rfl dX8_init_4 rfl ?_
  refine g_new (q0 := 8) rfl gcl_2 rfl rfl cl_X8_9 it_X1 ini_X1 dX8_init_5 (Nat.le_of_ble_eq_true rfl) (Nat.le_of_ble_eq_true rfl) ?_
  refine g_dup (q0 := 9) rfl dX8_init_8 (k := ?_)
  refine g_callI (as := []) (rest := [_, _]) mt_X1_init rfl mi_X1_init ml_X8_11 dX8_init_9 (q0 := 12) rfl rfl (Int.natCast_nonneg _) (ct_X1) rfl ⟨by decide, by decide⟩ ⟨Nat.le_of_ble_eq_true rfl, Nat.le_of_ble_eq_true rfl⟩ (Nat.le_of_ble_eq_true rfl) (fun r sh1 M1 hI hw1 hMw1 => ?_)
  have hr := hI.1
  subst hr
  refine g_putC (q0 := 15) (t := 4) (fi := 0) rfl rfl ff_X8_12 dX8_init_12 rfl (cB_objp hB hI) rfl rfl (fun r h => by cases h; rfl) (fun G => by rw [gc_ref G (Int.natCast_nonneg _)]; exact ⟨rfl, rfl⟩) ?_
  refine gA_gen (cB [] 9 sh0 M0 ([] ++ (0, 2) :: kCms) 1) (cB_obj hB hI (f := 0) rfl (by decide) (by decide +kernel) (by decide)) (fun sh M hB => ?_)
  refine g_aload_n (q0 := 16) (j := 0) rfl dX8_init_15 rfl ?_
  refine g_new (q0 := 19) rfl gcl_3 rfl rfl cl_X8_18 it_X2 ini_X2 dX8_init_16 (Nat.le_of_ble_eq_true rfl) (Nat.le_of_ble_eq_true rfl) ?_
  refine g_dup (q0 := 20) rfl dX8_init_19 (k := ?_)
  refine g_callN (as := []) (rest := [_, _]) mt_X2_init rfl mi_X2_init (host := "CarriedHistory") (List.mem_of_getElem? (i := 2) rfl) dX8_init_20 (q0 := 23) rfl rfl (Int.natCast_nonneg _) (ct_X2) rfl ⟨by decide, by decide⟩ ⟨Nat.le_of_ble_eq_true rfl, Nat.le_of_ble_eq_true rfl⟩ (Nat.le_of_ble_eq_true rfl) (fun r sh1 M1 hI hw1 hMw1 => ?_)
  have hr := hI.1
  subst hr
  refine g_putC (q0 := 26) (t := 4) (fi := 1) rfl rfl ff_X8_21 dX8_init_23 rfl (cB_objp hB hI) rfl rfl (fun r h => by cases h; rfl) (fun G => by rw [gc_ref G (Int.natCast_nonneg _)]; exact ⟨rfl, rfl⟩) ?_
  refine gA_gen (cB [] 9 sh0 M0 ([] ++ (0, 2) :: kCms ++ (0, 3) :: kDrf) 2) (cB_obj hB hI (f := 1) rfl (by decide) (by decide +kernel) (by decide)) (fun sh M hB => ?_)
  refine g_aload_n (q0 := 27) (j := 0) rfl dX8_init_26 rfl ?_
  refine g_new (q0 := 30) rfl gcl_4 rfl rfl cl_X8_25 it_X3 ini_X3 dX8_init_27 (Nat.le_of_ble_eq_true rfl) (Nat.le_of_ble_eq_true rfl) ?_
  refine g_dup (q0 := 31) rfl dX8_init_30 (k := ?_)
  refine g_bipush (q0 := 33) rfl dX8_init_31 (k := ?_)
  refine g_callI (as := [_]) (rest := [_, _]) mt_X3_init rfl mi_X3_init ml_X8_27 dX8_init_33 (q0 := 36) rfl rfl (Int.natCast_nonneg _) (ct_X3 (n := 120) (by decide)) rfl ⟨by decide, by decide⟩ ⟨Nat.le_of_ble_eq_true rfl, Nat.le_of_ble_eq_true rfl⟩ (Nat.le_of_ble_eq_true rfl) (fun r sh1 M1 hI hw1 hMw1 => ?_)
  have hr := hI.1
  subst hr
  refine g_putC (q0 := 39) (t := 4) (fi := 2) rfl rfl ff_X8_30 dX8_init_36 rfl (cB_objp hB hI) rfl rfl (fun r h => by cases h; rfl) (fun G => by rw [gc_ref G (Int.natCast_nonneg _)]; exact ⟨rfl, rfl⟩) ?_
  refine gA_gen (cB [] 9 sh0 M0 ([] ++ (0, 2) :: kCms ++ (0, 3) :: kDrf ++ (0, 4) :: kMrk 120) 3) (cB_obj hB hI (f := 2) rfl (by decide) (by decide +kernel) (by decide)) (fun sh M hB => ?_)
  refine g_aload_n (q0 := 40) (j := 0) rfl dX8_init_39 rfl ?_
  refine g_new (q0 := 43) rfl gcl_4 rfl rfl cl_X8_25 it_X3 ini_X3 dX8_init_40 (Nat.le_of_ble_eq_true rfl) (Nat.le_of_ble_eq_true rfl) ?_
  refine g_dup (q0 := 44) rfl dX8_init_43 (k := ?_)
  refine g_iconst (q0 := 45) rfl dX8_init_44 (k := ?_)
  refine g_callI (as := [_]) (rest := [_, _]) mt_X3_init rfl mi_X3_init ml_X8_27 dX8_init_45 (q0 := 48) rfl rfl (Int.natCast_nonneg _) (ct_X3 (n := 1) (by decide)) rfl ⟨by decide, by decide⟩ ⟨Nat.le_of_ble_eq_true rfl, Nat.le_of_ble_eq_true rfl⟩ (Nat.le_of_ble_eq_true rfl) (fun r sh1 M1 hI hw1 hMw1 => ?_)
  have hr := hI.1
  subst hr
  refine g_putC (q0 := 51) (t := 4) (fi := 3) rfl rfl ff_X8_34 dX8_init_48 rfl (cB_objp hB hI) rfl rfl (fun r h => by cases h; rfl) (fun G => by rw [gc_ref G (Int.natCast_nonneg _)]; exact ⟨rfl, rfl⟩) ?_
  refine gA_gen (cB [] 9 sh0 M0 ([] ++ (0, 2) :: kCms ++ (0, 3) :: kDrf ++ (0, 4) :: kMrk 120 ++ (0, 4) :: kMrk 1) 4) (cB_obj hB hI (f := 3) rfl (by decide) (by decide +kernel) (by decide)) (fun sh M hB => ?_)
  refine g_aload_n (q0 := 52) (j := 0) rfl dX8_init_51 rfl ?_
  refine g_bipush (q0 := 54) rfl dX8_init_52 (k := ?_)
  refine g_newI (q0 := 56) (n := 120) rfl rfl ac_int dX8_init_54 (by decide) (Nat.le_of_ble_eq_true rfl) (Nat.le_of_ble_eq_true rfl) ?_
  refine g_putC (q0 := 59) (t := 4) (fi := 4) rfl rfl ff_X8_37 dX8_init_56 rfl (gsh_old (cB_own hB)) rfl rfl (fun r h => by cases h; rfl) (fun G => by rw [gc_ref G (Int.natCast_nonneg _)]; exact ⟨rfl, rfl⟩) ?_
  refine gA_gen (cB [] 9 sh0 M0 ([] ++ (0, 2) :: kCms ++ (0, 3) :: kDrf ++ (0, 4) :: kMrk 120 ++ (0, 4) :: kMrk 1 ++ [(1, 120)]) 5) (cB_arr hB (f := 4) rfl (Or.inr (fun b i => rfl)) (by decide) (by decide +kernel) (by decide)) (fun sh M hB => ?_)
  refine g_aload_n (q0 := 60) (j := 0) rfl dX8_init_59 rfl ?_
  refine g_bipush (q0 := 62) rfl dX8_init_60 (k := ?_)
  refine g_newI (q0 := 64) (n := 120) rfl rfl ac_int dX8_init_62 (by decide) (Nat.le_of_ble_eq_true rfl) (Nat.le_of_ble_eq_true rfl) ?_
  refine g_putC (q0 := 67) (t := 4) (fi := 5) rfl rfl ff_X8_41 dX8_init_64 rfl (gsh_old (cB_own hB)) rfl rfl (fun r h => by cases h; rfl) (fun G => by rw [gc_ref G (Int.natCast_nonneg _)]; exact ⟨rfl, rfl⟩) ?_
  refine gA_gen (cB [] 9 sh0 M0 ([] ++ (0, 2) :: kCms ++ (0, 3) :: kDrf ++ (0, 4) :: kMrk 120 ++ (0, 4) :: kMrk 1 ++ [(1, 120)] ++ [(1, 120)]) 6) (cB_arr hB (f := 5) rfl (Or.inr (fun b i => rfl)) (by decide) (by decide +kernel) (by decide)) (fun sh M hB => ?_)
  refine g_aload_n (q0 := 68) (j := 0) rfl dX8_init_67 rfl ?_
  refine g_iconst (q0 := 69) rfl dX8_init_68 (k := ?_)
  refine g_newI (q0 := 71) (n := 3) rfl rfl ac_int dX8_init_69 (by decide) (Nat.le_of_ble_eq_true rfl) (Nat.le_of_ble_eq_true rfl) ?_
  refine g_putC (q0 := 74) (t := 4) (fi := 8) rfl rfl ff_X8_44 dX8_init_71 rfl (gsh_old (cB_own hB)) rfl rfl (fun r h => by cases h; rfl) (fun G => by rw [gc_ref G (Int.natCast_nonneg _)]; exact ⟨rfl, rfl⟩) ?_
  refine gA_gen (cB [] 9 sh0 M0 ([] ++ (0, 2) :: kCms ++ (0, 3) :: kDrf ++ (0, 4) :: kMrk 120 ++ (0, 4) :: kMrk 1 ++ [(1, 120)] ++ [(1, 120)] ++ [(1, 3)]) 9) (cB_arr hB (f := 8) rfl (Or.inr (fun b i => rfl)) (by decide) (by decide +kernel) (by decide)) (fun sh M hB => ?_)
  refine g_aload_n (q0 := 75) (j := 0) rfl dX8_init_74 rfl ?_
  refine g_iconst (q0 := 76) rfl dX8_init_75 (k := ?_)
  refine g_newZ (q0 := 78) (n := 3) rfl rfl ac_boolean dX8_init_76 (by decide) (Nat.le_of_ble_eq_true rfl) (Nat.le_of_ble_eq_true rfl) ?_
  refine g_putC (q0 := 81) (t := 4) (fi := 9) rfl rfl ff_X8_47 dX8_init_78 rfl (gsh_old (cB_own hB)) rfl rfl (fun r h => by cases h; rfl) (fun G => by rw [gc_ref G (Int.natCast_nonneg _)]; exact ⟨rfl, rfl⟩) ?_
  refine gA_gen (cB [] 9 sh0 M0 ([] ++ (0, 2) :: kCms ++ (0, 3) :: kDrf ++ (0, 4) :: kMrk 120 ++ (0, 4) :: kMrk 1 ++ [(1, 120)] ++ [(1, 120)] ++ [(1, 3)] ++ [(3, 3)]) 10) (cB_arr hB (f := 9) rfl (Or.inr (fun b i => rfl)) (by decide) (by decide +kernel) (by decide)) (fun sh M hB => ?_)
  exact g_return dX8_init_81 rfl ⟨Nat.le_of_ble_eq_true rfl, Nat.le_of_ble_eq_true rfl⟩ (cI_of hB (by decide))
theorem dJ5_init_d00df_0 : decode cJ5_init_d00df 0 = .ok (.aload_n 0, 1) := by decide +kernel
theorem dJ5_init_d00df_1 : decode cJ5_init_d00df 1 = .ok (.invokespecial 3, 3) := by decide +kernel
theorem dJ5_init_d00df_4 : decode cJ5_init_d00df 4 = .ok (.getstatic 18, 3) := by decide +kernel
theorem dJ5_init_d00df_7 : decode cJ5_init_d00df 7 = .ok (.ifCond .eq 18, 3) := by decide +kernel
theorem dJ5_init_d00df_10 : decode cJ5_init_d00df 10 = .ok (.aload_n 0, 1) := by decide +kernel
theorem dJ5_init_d00df_11 : decode cJ5_init_d00df 11 = .ok (.iload_n 1, 1) := by decide +kernel
theorem dJ5_init_d00df_12 : decode cJ5_init_d00df 12 = .ok (.newarray .byte, 2) := by decide +kernel
theorem dJ5_init_d00df_14 : decode cJ5_init_d00df 14 = .ok (.putfield 15, 3) := by decide +kernel
theorem dJ5_init_d00df_17 : decode cJ5_init_d00df 17 = .ok (.aload_n 0, 1) := by decide +kernel
theorem dJ5_init_d00df_18 : decode cJ5_init_d00df 18 = .ok (.iconst 0, 1) := by decide +kernel
theorem dJ5_init_d00df_19 : decode cJ5_init_d00df 19 = .ok (.putfield 22, 3) := by decide +kernel
theorem dJ5_init_d00df_22 : decode cJ5_init_d00df 22 = .ok (.goto 16, 3) := by decide +kernel
theorem dJ5_init_d00df_25 : decode cJ5_init_d00df 25 = .ok (.aload_n 0, 1) := by decide +kernel
theorem dJ5_init_d00df_26 : decode cJ5_init_d00df 26 = .ok (.iload_n 1, 1) := by decide +kernel
theorem dJ5_init_d00df_27 : decode cJ5_init_d00df 27 = .ok (.invokestatic 26, 3) := by decide +kernel
theorem dJ5_init_d00df_30 : decode cJ5_init_d00df 30 = .ok (.putfield 15, 3) := by decide +kernel
theorem dJ5_init_d00df_33 : decode cJ5_init_d00df 33 = .ok (.aload_n 0, 1) := by decide +kernel
theorem dJ5_init_d00df_34 : decode cJ5_init_d00df 34 = .ok (.iconst 1, 1) := by decide +kernel
theorem dJ5_init_d00df_35 : decode cJ5_init_d00df 35 = .ok (.putfield 22, 3) := by decide +kernel
theorem dJ5_init_d00df_38 : decode cJ5_init_d00df 38 = .ok (.return_, 1) := by decide +kernel
theorem dJ4_init_da8c8_0 : decode cJ4_init_da8c8 0 = .ok (.aload_n 0, 1) := by decide +kernel
theorem dJ4_init_da8c8_1 : decode cJ4_init_da8c8 1 = .ok (.bipush 16, 2) := by decide +kernel
theorem dJ4_init_da8c8_3 : decode cJ4_init_da8c8 3 = .ok (.invokespecial 1, 3) := by decide +kernel
theorem dJ4_init_da8c8_6 : decode cJ4_init_da8c8 6 = .ok (.return_, 1) := by decide +kernel
def kSB : gS := [] ++ [(2, 16)]
theorem ct_J5 {sh0 : gS} {M0 : gM} : gC (gx 3 60 1 16) yJ5_init_d00df cJ5_init_d00df 2 none [(4, (sh0.length : Int)), (0, ((16 : Nat) : Int))] (sh0 ++ [(0, 0)]) (gN M0 (sh0.length : Int) (0, 0)) (cI 0 sh0 M0 kSB) := by
  refine gC_ofA (lv := [_, _]) (by decide +kernel) (Nat.le_of_ble_eq_true rfl) rfl (fun hMw hav => ?_)
  refine gA_gen (cB [] 0 sh0 M0 [] 0) cB_0 (fun sh M hB => ?_)
  refine g_aload_n (q0 := 1) (j := 0) rfl dJ5_init_d00df_0 rfl ?_
  refine g_objInit (q0 := 4) rfl (Int.natCast_nonneg _) ml_J5_3 mi_objectInit mc_objectInit dJ5_init_d00df_1 (Nat.le_of_ble_eq_true rfl) (Nat.le_of_ble_eq_true rfl) ?_
  refine g_gsCompact (q0 := 7) rfl fs_J5_18 dJ5_init_d00df_4 ?_
  refine g_if_eq (q0 := 10) (tgt := 25) rfl dJ5_init_d00df_7 (by decide) (fun h => absurd h (by decide)) (fun h => ?_)
  refine g_aload_n (q0 := 11) (j := 0) rfl dJ5_init_d00df_10 rfl ?_
  refine g_iload_n (q0 := 12) (j := 1) rfl dJ5_init_d00df_11 rfl ?_
  refine g_newB (q0 := 14) (n := 16) rfl rfl ac_byte dJ5_init_d00df_12 (by decide) (Nat.le_of_ble_eq_true rfl) (Nat.le_of_ble_eq_true rfl) ?_
  refine g_put (q0 := 17) (t := 4) (fi := 0) rfl rfl ff_J5_15 dJ5_init_d00df_14 rfl (gsh_old (cB_own hB)) rfl (fun G => by rw [gc_ref G (Int.natCast_nonneg _)]; exact ⟨rfl, rfl⟩) ?_
  refine gA_gen (cB [] 0 sh0 M0 ([] ++ [(2, 16)]) 1) (cB_arr hB (f := 0) rfl (Or.inr (fun b i => rfl)) (by decide) rfl (by decide)) (fun sh M hB => ?_)
  refine g_aload_n (q0 := 18) (j := 0) rfl dJ5_init_d00df_17 rfl ?_
  refine g_iconst (q0 := 19) rfl dJ5_init_d00df_18 (k := ?_)
  refine g_put (q0 := 22) (t := 0) (fi := 1) rfl rfl ff_J5_22 dJ5_init_d00df_19 rfl (cB_own hB) rfl (fun G => ⟨rfl, rfl⟩) ?_
  have e1 : M (sh0.length : Int) 1 = 0 := by rw [hB.2 1, if_neg (by decide)]; rfl
  have e2 : gU M (sh0.length : Int) 1 0 = M := by
    funext b i
    unfold gU
    split
    · rename_i q; rw [q.1, q.2, e1]
    · rfl
  rw [e2]
  refine g_goto (tgt := 38) dJ5_init_d00df_22 (by decide) ?_
  exact g_return dJ5_init_d00df_38 rfl ⟨Nat.le_of_ble_eq_true rfl, Nat.le_of_ble_eq_true rfl⟩ (cI_of hB (by decide))
theorem ct_J4 {sh0 : gS} {M0 : gM} : gC (gx 4 81 1 16) yJ4_init_da8c8 cJ4_init_da8c8 1 none [(4, (sh0.length : Int))] (sh0 ++ [(0, 0)]) (gN M0 (sh0.length : Int) (0, 0)) (cI 0 sh0 M0 kSB) := by
  refine gC_ofA (lv := [_]) (by decide +kernel) (Nat.le_of_ble_eq_true rfl) rfl (fun hMw hav => ?_)
  refine g_aload_n (q0 := 1) (j := 0) rfl dJ4_init_da8c8_0 rfl ?_
  refine g_bipush (q0 := 3) rfl dJ4_init_da8c8_1 (k := ?_)
  refine g_callI (as := [_]) (rest := []) mt_J5_init_d00df rfl mi_J5_init_d00df ml_J4_1 dJ4_init_da8c8_3 (q0 := 6) rfl rfl (Int.natCast_nonneg _) ct_J5 rfl ⟨by decide, by decide⟩ ⟨Nat.le_of_ble_eq_true rfl, Nat.le_of_ble_eq_true rfl⟩ (Nat.le_of_ble_eq_true rfl) (fun r sh1 M1 hI hw1 hMw1 => ?_)
  have hr := hI.1
  subst hr
  exact g_return dJ4_init_da8c8_6 rfl ⟨Nat.le_of_ble_eq_true rfl, Nat.le_of_ble_eq_true rfl⟩ hI
