-- ==== constructors
theorem dX9_init_0 : decode cX9_init 0 = .ok (.aload_n 0, 1) := by decide +kernel
theorem dX9_init_1 : decode cX9_init 1 = .ok (.invokespecial 3, 3) := by decide +kernel
theorem dX9_init_4 : decode cX9_init 4 = .ok (.aload_n 0, 1) := by decide +kernel
theorem dX9_init_5 : decode cX9_init 5 = .ok (.sipush 260, 3) := by decide +kernel
theorem dX9_init_8 : decode cX9_init 8 = .ok (.newarray .byte, 2) := by decide +kernel
theorem dX9_init_10 : decode cX9_init 10 = .ok (.putfield 9, 3) := by decide +kernel
theorem dX9_init_13 : decode cX9_init 13 = .ok (.return_, 1) := by decide +kernel
def kTpe : gS := [] ++ [(2, 260)]
theorem ct_X9 {sh0 : gS} {M0 : gM} : gC (gx 1 20 1 (260)) yX9_init cX9_init 1 none [(4, (sh0.length : Int))] (sh0 ++ [(0, 10)]) (gN M0 (sh0.length : Int) (0, 10)) (cI 10 sh0 M0 (kTpe)) := by
  refine gC_ofA (lv := [_]) (by decide +kernel) (Nat.le_of_ble_eq_true rfl) rfl (fun hMw hav => ?_)
  refine gA_gen (cB [] 10 sh0 M0 [] 0) cB_0 (fun sh M hB => ?_)
  refine g_aload_n (q0 := 1) (j := 0) rfl dX9_init_0 rfl ?_
  refine g_objInit (q0 := 4) rfl (Int.natCast_nonneg _) ml_X9_3 mi_objectInit mc_objectInit dX9_init_1 (Nat.le_of_ble_eq_true rfl) (Nat.le_of_ble_eq_true rfl) ?_
  refine g_aload_n (q0 := 5) (j := 0) rfl dX9_init_4 rfl ?_
  refine g_sipush (q0 := 8) rfl dX9_init_5 (k := ?_)
  refine g_newB (q0 := 10) (n := 260) rfl rfl ac_byte dX9_init_8 (by decide) (Nat.le_of_ble_eq_true rfl) (Nat.le_of_ble_eq_true rfl) ?_
  refine g_putC (q0 := 13) (t := 4) (fi := 0) rfl rfl ff_X9_9 dX9_init_10 rfl (gsh_old (cB_own hB)) rfl rfl (fun r h => by cases h; rfl) (fun G => by rw [gc_ref G (Int.natCast_nonneg _)]; exact ⟨rfl, rfl⟩) ?_
  refine gA_gen (cB [] 10 sh0 M0 ([] ++ [(2, 260)]) 1) (cB_arr hB (f := 0) rfl (Or.inr (fun b i => rfl)) (by decide) (by decide +kernel) (by decide)) (fun sh M hB => ?_)
  exact g_return dX9_init_13 rfl ⟨Nat.le_of_ble_eq_true rfl, Nat.le_of_ble_eq_true rfl⟩ (cI_of hB (by decide))
theorem dX10_init_0 : decode cX10_init 0 = .ok (.aload_n 0, 1) := by decide +kernel
theorem dX10_init_1 : decode cX10_init 1 = .ok (.invokespecial 3, 3) := by decide +kernel
theorem dX10_init_4 : decode cX10_init 4 = .ok (.aload_n 0, 1) := by decide +kernel
theorem dX10_init_5 : decode cX10_init 5 = .ok (.iload_n 1, 1) := by decide +kernel
theorem dX10_init_6 : decode cX10_init 6 = .ok (.newarray .int, 2) := by decide +kernel
theorem dX10_init_8 : decode cX10_init 8 = .ok (.putfield 9, 3) := by decide +kernel
theorem dX10_init_11 : decode cX10_init 11 = .ok (.aload_n 0, 1) := by decide +kernel
theorem dX10_init_12 : decode cX10_init 12 = .ok (.iload_n 1, 1) := by decide +kernel
theorem dX10_init_13 : decode cX10_init 13 = .ok (.newarray .int, 2) := by decide +kernel
theorem dX10_init_15 : decode cX10_init 15 = .ok (.putfield 15, 3) := by decide +kernel
theorem dX10_init_18 : decode cX10_init 18 = .ok (.return_, 1) := by decide +kernel
def kTree (n : Nat) : gS := [] ++ [(1, n)] ++ [(1, n)]
theorem ct_X10 {sh0 : gS} {M0 : gM} {n : Nat} (hn : n ≤ 1000) : gC (gx 1 20 2 (2 * n)) yX10_init cX10_init 2 none [(4, (sh0.length : Int)), (0, (n : Int))] (sh0 ++ [(0, 11)]) (gN M0 (sh0.length : Int) (0, 11)) (cI 11 sh0 M0 (kTree n)) := by
  refine gC_ofA (lv := [_, _]) (by decide +kernel) (Nat.le_of_ble_eq_true rfl) rfl (fun hMw hav => ?_)
  refine gA_gen (cB [] 11 sh0 M0 [] 0) cB_0 (fun sh M hB => ?_)
  refine g_aload_n (q0 := 1) (j := 0) rfl dX10_init_0 rfl ?_
  refine g_objInit (q0 := 4) rfl (Int.natCast_nonneg _) ml_X10_3 mi_objectInit mc_objectInit dX10_init_1 (Nat.le_of_ble_eq_true rfl) (Nat.le_of_ble_eq_true rfl) ?_
  refine g_aload_n (q0 := 5) (j := 0) rfl dX10_init_4 rfl ?_
  refine g_iload_n (q0 := 6) (j := 1) rfl dX10_init_5 rfl ?_
  refine g_newI (q0 := 8) (n := n) rfl rfl ac_int dX10_init_6 (by show _ ≤ 100000; omega) (Nat.le_of_ble_eq_true rfl) (by show 0 + n ≤ 2 * n; omega) ?_
  refine g_putC (q0 := 11) (t := 4) (fi := 0) rfl rfl ff_X10_9 dX10_init_8 rfl (gsh_old (cB_own hB)) rfl rfl (fun r h => by cases h; rfl) (fun G => by rw [gc_ref G (Int.natCast_nonneg _)]; exact ⟨rfl, rfl⟩) ?_
  refine gA_gen (cB [] 11 sh0 M0 ([] ++ [(1, n)]) 1) (cB_arr hB (f := 0) rfl (Or.inr (fun b i => rfl)) (by decide) rfl (by decide)) (fun sh M hB => ?_)
  refine g_aload_n (q0 := 12) (j := 0) rfl dX10_init_11 rfl ?_
  refine g_iload_n (q0 := 13) (j := 1) rfl dX10_init_12 rfl ?_
  refine g_newI (q0 := 15) (n := n) rfl rfl ac_int dX10_init_13 (by show _ ≤ 100000; omega) (Nat.le_of_ble_eq_true rfl) (by show 0 + n + n ≤ 2 * n; omega) ?_
  refine g_putC (q0 := 18) (t := 4) (fi := 1) rfl rfl ff_X10_15 dX10_init_15 rfl (gsh_old (cB_own hB)) rfl rfl (fun r h => by cases h; rfl) (fun G => by rw [gc_ref G (Int.natCast_nonneg _)]; exact ⟨rfl, rfl⟩) ?_
  refine gA_gen (cB [] 11 sh0 M0 ([] ++ [(1, n)] ++ [(1, n)]) 2) (cB_arr hB (f := 1) rfl (Or.inr (fun b i => rfl)) (by decide) rfl (by decide)) (fun sh M hB => ?_)
  exact g_return dX10_init_18 rfl ⟨Nat.le_of_ble_eq_true rfl, by show 0 + n + n ≤ 2 * n; omega⟩ (cI_of hB (by decide))
theorem dX3_init_0 : decode cX3_init 0 = .ok (.aload_n 0, 1) := by decide +kernel
theorem dX3_init_1 : decode cX3_init 1 = .ok (.invokespecial 3, 3) := by decide +kernel
theorem dX3_init_4 : decode cX3_init 4 = .ok (.aload_n 0, 1) := by decide +kernel
theorem dX3_init_5 : decode cX3_init 5 = .ok (.iload_n 1, 1) := by decide +kernel
theorem dX3_init_6 : decode cX3_init 6 = .ok (.newarray .long, 2) := by decide +kernel
theorem dX3_init_8 : decode cX3_init 8 = .ok (.putfield 9, 3) := by decide +kernel
theorem dX3_init_11 : decode cX3_init 11 = .ok (.aload_n 0, 1) := by decide +kernel
theorem dX3_init_12 : decode cX3_init 12 = .ok (.iload_n 1, 1) := by decide +kernel
theorem dX3_init_13 : decode cX3_init 13 = .ok (.newarray .long, 2) := by decide +kernel
theorem dX3_init_15 : decode cX3_init 15 = .ok (.putfield 15, 3) := by decide +kernel
theorem dX3_init_18 : decode cX3_init 18 = .ok (.return_, 1) := by decide +kernel
def kMrk (n : Nat) : gS := [] ++ [(4, n)] ++ [(4, n)]
theorem ct_X3 {sh0 : gS} {M0 : gM} {n : Nat} (hn : n ≤ 1000) : gC (gx 1 20 2 (2 * n)) yX3_init cX3_init 2 none [(4, (sh0.length : Int)), (0, (n : Int))] (sh0 ++ [(0, 4)]) (gN M0 (sh0.length : Int) (0, 4)) (cI 4 sh0 M0 (kMrk n)) := by
  refine gC_ofA (lv := [_, _]) (by decide +kernel) (Nat.le_of_ble_eq_true rfl) rfl (fun hMw hav => ?_)
  refine gA_gen (cB [] 4 sh0 M0 [] 0) cB_0 (fun sh M hB => ?_)
  refine g_aload_n (q0 := 1) (j := 0) rfl dX3_init_0 rfl ?_
  refine g_objInit (q0 := 4) rfl (Int.natCast_nonneg _) ml_X3_3 mi_objectInit mc_objectInit dX3_init_1 (Nat.le_of_ble_eq_true rfl) (Nat.le_of_ble_eq_true rfl) ?_
  refine g_aload_n (q0 := 5) (j := 0) rfl dX3_init_4 rfl ?_
  refine g_iload_n (q0 := 6) (j := 1) rfl dX3_init_5 rfl ?_
  refine g_newJ (q0 := 8) (n := n) rfl rfl ac_long dX3_init_6 (by show _ ≤ 100000; omega) (Nat.le_of_ble_eq_true rfl) (by show 0 + n ≤ 2 * n; omega) ?_
  refine g_putC (q0 := 11) (t := 4) (fi := 0) rfl rfl ff_X3_9 dX3_init_8 rfl (gsh_old (cB_own hB)) rfl rfl (fun r h => by cases h; rfl) (fun G => by rw [gc_ref G (Int.natCast_nonneg _)]; exact ⟨rfl, rfl⟩) ?_
  refine gA_gen (cB [] 4 sh0 M0 ([] ++ [(4, n)]) 1) (cB_arr hB (f := 0) rfl (Or.inr (fun b i => rfl)) (by decide) rfl (by decide)) (fun sh M hB => ?_)
  refine g_aload_n (q0 := 12) (j := 0) rfl dX3_init_11 rfl ?_
  refine g_iload_n (q0 := 13) (j := 1) rfl dX3_init_12 rfl ?_
  refine g_newJ (q0 := 15) (n := n) rfl rfl ac_long dX3_init_13 (by show _ ≤ 100000; omega) (Nat.le_of_ble_eq_true rfl) (by show 0 + n + n ≤ 2 * n; omega) ?_
  refine g_putC (q0 := 18) (t := 4) (fi := 1) rfl rfl ff_X3_15 dX3_init_15 rfl (gsh_old (cB_own hB)) rfl rfl (fun r h => by cases h; rfl) (fun G => by rw [gc_ref G (Int.natCast_nonneg _)]; exact ⟨rfl, rfl⟩) ?_
  refine gA_gen (cB [] 4 sh0 M0 ([] ++ [(4, n)] ++ [(4, n)]) 2) (cB_arr hB (f := 1) rfl (Or.inr (fun b i => rfl)) (by decide) rfl (by decide)) (fun sh M hB => ?_)
  exact g_return dX3_init_18 rfl ⟨Nat.le_of_ble_eq_true rfl, by show 0 + n + n ≤ 2 * n; omega⟩ (cI_of hB (by decide))
theorem dX4_init_0 : decode cX4_init 0 = .ok (.aload_n 0, 1) := by decide +kernel
theorem dX4_init_1 : decode cX4_init 1 = .ok (.invokespecial 3, 3) := by decide +kernel
theorem dX4_init_4 : decode cX4_init 4 = .ok (.aload_n 0, 1) := by decide +kernel
theorem dX4_init_5 : decode cX4_init 5 = .ok (.iload_n 1, 1) := by decide +kernel
theorem dX4_init_6 : decode cX4_init 6 = .ok (.newarray .int, 2) := by decide +kernel
theorem dX4_init_8 : decode cX4_init 8 = .ok (.putfield 9, 3) := by decide +kernel
theorem dX4_init_11 : decode cX4_init 11 = .ok (.aload_n 0, 1) := by decide +kernel
theorem dX4_init_12 : decode cX4_init 12 = .ok (.iload_n 1, 1) := by decide +kernel
theorem dX4_init_13 : decode cX4_init 13 = .ok (.newarray .int, 2) := by decide +kernel
theorem dX4_init_15 : decode cX4_init 15 = .ok (.putfield 15, 3) := by decide +kernel
theorem dX4_init_18 : decode cX4_init 18 = .ok (.return_, 1) := by decide +kernel
def kPrs (n : Nat) : gS := [] ++ [(1, n)] ++ [(1, n)]
theorem ct_X4 {sh0 : gS} {M0 : gM} {n : Nat} (hn : n ≤ 1000) : gC (gx 1 20 2 (2 * n)) yX4_init cX4_init 2 none [(4, (sh0.length : Int)), (0, (n : Int))] (sh0 ++ [(0, 5)]) (gN M0 (sh0.length : Int) (0, 5)) (cI 5 sh0 M0 (kPrs n)) := by
  refine gC_ofA (lv := [_, _]) (by decide +kernel) (Nat.le_of_ble_eq_true rfl) rfl (fun hMw hav => ?_)
  refine gA_gen (cB [] 5 sh0 M0 [] 0) cB_0 (fun sh M hB => ?_)
  refine g_aload_n (q0 := 1) (j := 0) rfl dX4_init_0 rfl ?_
  refine g_objInit (q0 := 4) rfl (Int.natCast_nonneg _) ml_X4_3 mi_objectInit mc_objectInit dX4_init_1 (Nat.le_of_ble_eq_true rfl) (Nat.le_of_ble_eq_true rfl) ?_
  refine g_aload_n (q0 := 5) (j := 0) rfl dX4_init_4 rfl ?_
  refine g_iload_n (q0 := 6) (j := 1) rfl dX4_init_5 rfl ?_
  refine g_newI (q0 := 8) (n := n) rfl rfl ac_int dX4_init_6 (by show _ ≤ 100000; omega) (Nat.le_of_ble_eq_true rfl) (by show 0 + n ≤ 2 * n; omega) ?_
  refine g_putC (q0 := 11) (t := 4) (fi := 1) rfl rfl ff_X4_9 dX4_init_8 rfl (gsh_old (cB_own hB)) rfl rfl (fun r h => by cases h; rfl) (fun G => by rw [gc_ref G (Int.natCast_nonneg _)]; exact ⟨rfl, rfl⟩) ?_
  refine gA_gen (cB [] 5 sh0 M0 ([] ++ [(1, n)]) 2) (cB_arr hB (f := 1) rfl (Or.inr (fun b i => rfl)) (by decide) rfl (by decide)) (fun sh M hB => ?_)
  refine g_aload_n (q0 := 12) (j := 0) rfl dX4_init_11 rfl ?_
  refine g_iload_n (q0 := 13) (j := 1) rfl dX4_init_12 rfl ?_
  refine g_newI (q0 := 15) (n := n) rfl rfl ac_int dX4_init_13 (by show _ ≤ 100000; omega) (Nat.le_of_ble_eq_true rfl) (by show 0 + n + n ≤ 2 * n; omega) ?_
  refine g_putC (q0 := 18) (t := 4) (fi := 2) rfl rfl ff_X4_15 dX4_init_15 rfl (gsh_old (cB_own hB)) rfl rfl (fun r h => by cases h; rfl) (fun G => by rw [gc_ref G (Int.natCast_nonneg _)]; exact ⟨rfl, rfl⟩) ?_
  refine gA_gen (cB [] 5 sh0 M0 ([] ++ [(1, n)] ++ [(1, n)]) 3) (cB_arr hB (f := 2) rfl (Or.inr (fun b i => rfl)) (by decide) rfl (by decide)) (fun sh M hB => ?_)
  exact g_return dX4_init_18 rfl ⟨Nat.le_of_ble_eq_true rfl, by show 0 + n + n ≤ 2 * n; omega⟩ (cI_of hB (by decide))
theorem dX7_init_0 : decode cX7_init 0 = .ok (.aload_n 0, 1) := by decide +kernel
theorem dX7_init_1 : decode cX7_init 1 = .ok (.invokespecial 3, 3) := by decide +kernel
theorem dX7_init_4 : decode cX7_init 4 = .ok (.aload_n 0, 1) := by decide +kernel
theorem dX7_init_5 : decode cX7_init 5 = .ok (.bipush 16, 2) := by decide +kernel
theorem dX7_init_7 : decode cX7_init 7 = .ok (.newarray .int, 2) := by decide +kernel
theorem dX7_init_9 : decode cX7_init 9 = .ok (.putfield 9, 3) := by decide +kernel
theorem dX7_init_12 : decode cX7_init 12 = .ok (.aload_n 0, 1) := by decide +kernel
theorem dX7_init_13 : decode cX7_init 13 = .ok (.bipush 16, 2) := by decide +kernel
theorem dX7_init_15 : decode cX7_init 15 = .ok (.newarray .int, 2) := by decide +kernel
theorem dX7_init_17 : decode cX7_init 17 = .ok (.putfield 15, 3) := by decide +kernel
theorem dX7_init_20 : decode cX7_init 20 = .ok (.aload_n 0, 1) := by decide +kernel
theorem dX7_init_21 : decode cX7_init 21 = .ok (.bipush 16, 2) := by decide +kernel
theorem dX7_init_23 : decode cX7_init 23 = .ok (.newarray .int, 2) := by decide +kernel
theorem dX7_init_25 : decode cX7_init 25 = .ok (.putfield 18, 3) := by decide +kernel
theorem dX7_init_28 : decode cX7_init 28 = .ok (.aload_n 0, 1) := by decide +kernel
theorem dX7_init_29 : decode cX7_init 29 = .ok (.bipush 16, 2) := by decide +kernel
theorem dX7_init_31 : decode cX7_init 31 = .ok (.newarray .int, 2) := by decide +kernel
theorem dX7_init_33 : decode cX7_init 33 = .ok (.putfield 21, 3) := by decide +kernel
theorem dX7_init_36 : decode cX7_init 36 = .ok (.return_, 1) := by decide +kernel
def kRfs : gS := [] ++ [(1, 16)] ++ [(1, 16)] ++ [(1, 16)] ++ [(1, 16)]
theorem ct_X7 {sh0 : gS} {M0 : gM} : gC (gx 1 20 4 (64)) yX7_init cX7_init 1 none [(4, (sh0.length : Int))] (sh0 ++ [(0, 8)]) (gN M0 (sh0.length : Int) (0, 8)) (cI 8 sh0 M0 (kRfs)) := by
  refine gC_ofA (lv := [_]) (by decide +kernel) (Nat.le_of_ble_eq_true rfl) rfl (fun hMw hav => ?_)
  refine gA_gen (cB [] 8 sh0 M0 [] 0) cB_0 (fun sh M hB => ?_)
  refine g_aload_n (q0 := 1) (j := 0) rfl dX7_init_0 rfl ?_
  refine g_objInit (q0 := 4) rfl (Int.natCast_nonneg _) ml_X7_3 mi_objectInit mc_objectInit dX7_init_1 (Nat.le_of_ble_eq_true rfl) (Nat.le_of_ble_eq_true rfl) ?_
  refine g_aload_n (q0 := 5) (j := 0) rfl dX7_init_4 rfl ?_
  refine g_bipush (q0 := 7) rfl dX7_init_5 (k := ?_)
  refine g_newI (q0 := 9) (n := 16) rfl rfl ac_int dX7_init_7 (by decide) (Nat.le_of_ble_eq_true rfl) (Nat.le_of_ble_eq_true rfl) ?_
  refine g_putC (q0 := 12) (t := 4) (fi := 1) rfl rfl ff_X7_9 dX7_init_9 rfl (gsh_old (cB_own hB)) rfl rfl (fun r h => by cases h; rfl) (fun G => by rw [gc_ref G (Int.natCast_nonneg _)]; exact ⟨rfl, rfl⟩) ?_
  refine gA_gen (cB [] 8 sh0 M0 ([] ++ [(1, 16)]) 2) (cB_arr hB (f := 1) rfl (Or.inr (fun b i => rfl)) (by decide) (by decide +kernel) (by decide)) (fun sh M hB => ?_)
  refine g_aload_n (q0 := 13) (j := 0) rfl dX7_init_12 rfl ?_
  refine g_bipush (q0 := 15) rfl dX7_init_13 (k := ?_)
  refine g_newI (q0 := 17) (n := 16) rfl rfl ac_int dX7_init_15 (by decide) (Nat.le_of_ble_eq_true rfl) (Nat.le_of_ble_eq_true rfl) ?_
  refine g_putC (q0 := 20) (t := 4) (fi := 2) rfl rfl ff_X7_15 dX7_init_17 rfl (gsh_old (cB_own hB)) rfl rfl (fun r h => by cases h; rfl) (fun G => by rw [gc_ref G (Int.natCast_nonneg _)]; exact ⟨rfl, rfl⟩) ?_
  refine gA_gen (cB [] 8 sh0 M0 ([] ++ [(1, 16)] ++ [(1, 16)]) 3) (cB_arr hB (f := 2) rfl (Or.inr (fun b i => rfl)) (by decide) (by decide +kernel) (by decide)) (fun sh M hB => ?_)
  refine g_aload_n (q0 := 21) (j := 0) rfl dX7_init_20 rfl ?_
  refine g_bipush (q0 := 23) rfl dX7_init_21 (k := ?_)
  refine g_newI (q0 := 25) (n := 16) rfl rfl ac_int dX7_init_23 (by decide) (Nat.le_of_ble_eq_true rfl) (Nat.le_of_ble_eq_true rfl) ?_
  refine g_putC (q0 := 28) (t := 4) (fi := 3) rfl rfl ff_X7_18 dX7_init_25 rfl (gsh_old (cB_own hB)) rfl rfl (fun r h => by cases h; rfl) (fun G => by rw [gc_ref G (Int.natCast_nonneg _)]; exact ⟨rfl, rfl⟩) ?_
  refine gA_gen (cB [] 8 sh0 M0 ([] ++ [(1, 16)] ++ [(1, 16)] ++ [(1, 16)]) 4) (cB_arr hB (f := 3) rfl (Or.inr (fun b i => rfl)) (by decide) (by decide +kernel) (by decide)) (fun sh M hB => ?_)
  refine g_aload_n (q0 := 29) (j := 0) rfl dX7_init_28 rfl ?_
  refine g_bipush (q0 := 31) rfl dX7_init_29 (k := ?_)
  refine g_newI (q0 := 33) (n := 16) rfl rfl ac_int dX7_init_31 (by decide) (Nat.le_of_ble_eq_true rfl) (Nat.le_of_ble_eq_true rfl) ?_
  refine g_putC (q0 := 36) (t := 4) (fi := 4) rfl rfl ff_X7_21 dX7_init_33 rfl (gsh_old (cB_own hB)) rfl rfl (fun r h => by cases h; rfl) (fun G => by rw [gc_ref G (Int.natCast_nonneg _)]; exact ⟨rfl, rfl⟩) ?_
  refine gA_gen (cB [] 8 sh0 M0 ([] ++ [(1, 16)] ++ [(1, 16)] ++ [(1, 16)] ++ [(1, 16)]) 5) (cB_arr hB (f := 4) rfl (Or.inr (fun b i => rfl)) (by decide) (by decide +kernel) (by decide)) (fun sh M hB => ?_)
  exact g_return dX7_init_36 rfl ⟨Nat.le_of_ble_eq_true rfl, Nat.le_of_ble_eq_true rfl⟩ (cI_of hB (by decide))
theorem dX2_init_0 : decode cX2_init 0 = .ok (.aload_n 0, 1) := by decide +kernel
theorem dX2_init_1 : decode cX2_init 1 = .ok (.invokespecial 3, 3) := by decide +kernel
theorem dX2_init_4 : decode cX2_init 4 = .ok (.aload_n 0, 1) := by decide +kernel
theorem dX2_init_5 : decode cX2_init 5 = .ok (.iconst 3, 1) := by decide +kernel
theorem dX2_init_6 : decode cX2_init 6 = .ok (.newarray .int, 2) := by decide +kernel
theorem dX2_init_8 : decode cX2_init 8 = .ok (.putfield 9, 3) := by decide +kernel
theorem dX2_init_11 : decode cX2_init 11 = .ok (.aload_n 0, 1) := by decide +kernel
theorem dX2_init_12 : decode cX2_init 12 = .ok (.new 15, 3) := by decide +kernel
theorem dX2_init_15 : decode cX2_init 15 = .ok (.dup, 1) := by decide +kernel
theorem dX2_init_16 : decode cX2_init 16 = .ok (.bipush 32, 2) := by decide +kernel
theorem dX2_init_18 : decode cX2_init 18 = .ok (.invokespecial 17, 3) := by decide +kernel
theorem dX2_init_21 : decode cX2_init 21 = .ok (.putfield 20, 3) := by decide +kernel
theorem dX2_init_24 : decode cX2_init 24 = .ok (.aload_n 0, 1) := by decide +kernel
theorem dX2_init_25 : decode cX2_init 25 = .ok (.bipush 24, 2) := by decide +kernel
theorem dX2_init_27 : decode cX2_init 27 = .ok (.newarray .byte, 2) := by decide +kernel
theorem dX2_init_29 : decode cX2_init 29 = .ok (.putfield 24, 3) := by decide +kernel
theorem dX2_init_32 : decode cX2_init 32 = .ok (.aload_n 0, 1) := by decide +kernel
theorem dX2_init_33 : decode cX2_init 33 = .ok (.new 15, 3) := by decide +kernel
theorem dX2_init_36 : decode cX2_init 36 = .ok (.dup, 1) := by decide +kernel
theorem dX2_init_37 : decode cX2_init 37 = .ok (.bipush 32, 2) := by decide +kernel
theorem dX2_init_39 : decode cX2_init 39 = .ok (.invokespecial 17, 3) := by decide +kernel
theorem dX2_init_42 : decode cX2_init 42 = .ok (.putfield 28, 3) := by decide +kernel
theorem dX2_init_45 : decode cX2_init 45 = .ok (.return_, 1) := by decide +kernel
def kDrf : gS := [] ++ [(1, 3)] ++ (0, 11) :: kTree 32 ++ [(2, 24)] ++ (0, 11) :: kTree 32
theorem ct_X2 {sh0 : gS} {M0 : gM} : gC (gx 2 41 8 (161)) yX2_init cX2_init 1 none [(4, (sh0.length : Int))] (sh0 ++ [(0, 3)]) (gN M0 (sh0.length : Int) (0, 3)) (cI 3 sh0 M0 (kDrf)) := by
  refine gC_ofA (lv := [_]) (by decide +kernel) (Nat.le_of_ble_eq_true rfl) rfl (fun hMw hav => ?_)
  refine gA_gen (cB [] 3 sh0 M0 [] 0) cB_0 (fun sh M hB => ?_)
  refine g_aload_n (q0 := 1) (j := 0) rfl dX2_init_0 rfl ?_
  refine g_objInit (q0 := 4) rfl (Int.natCast_nonneg _) ml_X2_3 mi_objectInit mc_objectInit dX2_init_1 (Nat.le_of_ble_eq_true rfl) (Nat.le_of_ble_eq_true rfl) ?_
  refine g_aload_n (q0 := 5) (j := 0) rfl dX2_init_4 rfl ?_
  refine g_iconst (q0 := 6) rfl dX2_init_5 (k := ?_)
  refine g_newI (q0 := 8) (n := 3) rfl rfl ac_int dX2_init_6 (by decide) (Nat.le_of_ble_eq_true rfl) (Nat.le_of_ble_eq_true rfl) ?_
  refine g_putC (q0 := 11) (t := 4) (fi := 0) rfl rfl ff_X2_9 dX2_init_8 rfl (gsh_old (cB_own hB)) rfl rfl (fun r h => by cases h; rfl) (fun G => by rw [gc_ref G (Int.natCast_nonneg _)]; exact ⟨rfl, rfl⟩) ?_
  refine gA_gen (cB [] 3 sh0 M0 ([] ++ [(1, 3)]) 1) (cB_arr hB (f := 0) rfl (Or.inr (fun b i => rfl)) (by decide) (by decide +kernel) (by decide)) (fun sh M hB => ?_)
  refine g_aload_n (q0 := 12) (j := 0) rfl dX2_init_11 rfl ?_
  refine g_new (q0 := 15) rfl gcl_11 rfl rfl cl_X2_15 it_X10 ini_X10 dX2_init_12 (Nat.le_of_ble_eq_true rfl) (Nat.le_of_ble_eq_true rfl) ?_
  refine g_dup (q0 := 16) rfl dX2_init_15 (k := ?_)
  refine g_bipush (q0 := 18) rfl dX2_init_16 (k := ?_)
  refine g_callI (as := [_]) (rest := [_, _]) mt_X10_init rfl mi_X10_init ml_X2_17 dX2_init_18 (q0 := 21) rfl rfl (Int.natCast_nonneg _) (ct_X10 (n := 32) (by decide)) rfl ⟨by decide, by decide⟩ ⟨Nat.le_of_ble_eq_true rfl, Nat.le_of_ble_eq_true rfl⟩ (Nat.le_of_ble_eq_true rfl) (fun r sh1 M1 hI hw1 hMw1 => ?_)
  have hr := hI.1
  subst hr
  refine g_putC (q0 := 24) (t := 4) (fi := 2) rfl rfl ff_X2_20 dX2_init_21 rfl (cB_objp hB hI) rfl rfl (fun r h => by cases h; rfl) (fun G => by rw [gc_ref G (Int.natCast_nonneg _)]; exact ⟨rfl, rfl⟩) ?_
  refine gA_gen (cB [] 3 sh0 M0 ([] ++ [(1, 3)] ++ (0, 11) :: kTree 32) 3) (cB_obj hB hI (f := 2) rfl (by decide) (by decide +kernel) (by decide)) (fun sh M hB => ?_)
  refine g_aload_n (q0 := 25) (j := 0) rfl dX2_init_24 rfl ?_
  refine g_bipush (q0 := 27) rfl dX2_init_25 (k := ?_)
  refine g_newB (q0 := 29) (n := 24) rfl rfl ac_byte dX2_init_27 (by decide) (Nat.le_of_ble_eq_true rfl) (Nat.le_of_ble_eq_true rfl) ?_
  refine g_putC (q0 := 32) (t := 4) (fi := 3) rfl rfl ff_X2_24 dX2_init_29 rfl (gsh_old (cB_own hB)) rfl rfl (fun r h => by cases h; rfl) (fun G => by rw [gc_ref G (Int.natCast_nonneg _)]; exact ⟨rfl, rfl⟩) ?_
  refine gA_gen (cB [] 3 sh0 M0 ([] ++ [(1, 3)] ++ (0, 11) :: kTree 32 ++ [(2, 24)]) 4) (cB_arr hB (f := 3) rfl (Or.inr (fun b i => rfl)) (by decide) (by decide +kernel) (by decide)) (fun sh M hB => ?_)
  refine g_aload_n (q0 := 33) (j := 0) rfl dX2_init_32 rfl ?_
  refine g_new (q0 := 36) rfl gcl_11 rfl rfl cl_X2_15 it_X10 ini_X10 dX2_init_33 (Nat.le_of_ble_eq_true rfl) (Nat.le_of_ble_eq_true rfl) ?_
  refine g_dup (q0 := 37) rfl dX2_init_36 (k := ?_)
  refine g_bipush (q0 := 39) rfl dX2_init_37 (k := ?_)
  refine g_callI (as := [_]) (rest := [_, _]) mt_X10_init rfl mi_X10_init ml_X2_17 dX2_init_39 (q0 := 42) rfl rfl (Int.natCast_nonneg _) (ct_X10 (n := 32) (by decide)) rfl ⟨by decide, by decide⟩ ⟨Nat.le_of_ble_eq_true rfl, Nat.le_of_ble_eq_true rfl⟩ (Nat.le_of_ble_eq_true rfl) (fun r sh1 M1 hI hw1 hMw1 => ?_)
  have hr := hI.1
  subst hr
  refine g_putC (q0 := 45) (t := 4) (fi := 7) rfl rfl ff_X2_28 dX2_init_42 rfl (cB_objp hB hI) rfl rfl (fun r h => by cases h; rfl) (fun G => by rw [gc_ref G (Int.natCast_nonneg _)]; exact ⟨rfl, rfl⟩) ?_
  refine gA_gen (cB [] 3 sh0 M0 ([] ++ [(1, 3)] ++ (0, 11) :: kTree 32 ++ [(2, 24)] ++ (0, 11) :: kTree 32) 8) (cB_obj hB hI (f := 7) rfl (by decide) (by decide +kernel) (by decide)) (fun sh M hB => ?_)
  exact g_return dX2_init_45 rfl ⟨Nat.le_of_ble_eq_true rfl, Nat.le_of_ble_eq_true rfl⟩ (cI_of hB (by decide))
theorem dX5_init_0 : decode cX5_init 0 = .ok (.aload_n 0, 1) := by decide +kernel
theorem dX5_init_1 : decode cX5_init 1 = .ok (.invokespecial 3, 3) := by decide +kernel
theorem dX5_init_4 : decode cX5_init 4 = .ok (.aload_n 0, 1) := by decide +kernel
theorem dX5_init_5 : decode cX5_init 5 = .ok (.new 9, 3) := by decide +kernel
theorem dX5_init_8 : decode cX5_init 8 = .ok (.dup, 1) := by decide +kernel
theorem dX5_init_9 : decode cX5_init 9 = .ok (.iconst 4, 1) := by decide +kernel
theorem dX5_init_10 : decode cX5_init 10 = .ok (.invokespecial 11, 3) := by decide +kernel
theorem dX5_init_13 : decode cX5_init 13 = .ok (.putfield 14, 3) := by decide +kernel
theorem dX5_init_16 : decode cX5_init 16 = .ok (.aload_n 0, 1) := by decide +kernel
theorem dX5_init_17 : decode cX5_init 17 = .ok (.new 9, 3) := by decide +kernel
theorem dX5_init_20 : decode cX5_init 20 = .ok (.dup, 1) := by decide +kernel
theorem dX5_init_21 : decode cX5_init 21 = .ok (.iconst 4, 1) := by decide +kernel
theorem dX5_init_22 : decode cX5_init 22 = .ok (.invokespecial 11, 3) := by decide +kernel
theorem dX5_init_25 : decode cX5_init 25 = .ok (.putfield 20, 3) := by decide +kernel
theorem dX5_init_28 : decode cX5_init 28 = .ok (.aload_n 0, 1) := by decide +kernel
theorem dX5_init_29 : decode cX5_init 29 = .ok (.new 9, 3) := by decide +kernel
theorem dX5_init_32 : decode cX5_init 32 = .ok (.dup, 1) := by decide +kernel
theorem dX5_init_33 : decode cX5_init 33 = .ok (.iconst 4, 1) := by decide +kernel
theorem dX5_init_34 : decode cX5_init 34 = .ok (.invokespecial 11, 3) := by decide +kernel
theorem dX5_init_37 : decode cX5_init 37 = .ok (.putfield 23, 3) := by decide +kernel
theorem dX5_init_40 : decode cX5_init 40 = .ok (.aload_n 0, 1) := by decide +kernel
theorem dX5_init_41 : decode cX5_init 41 = .ok (.new 9, 3) := by decide +kernel
theorem dX5_init_44 : decode cX5_init 44 = .ok (.dup, 1) := by decide +kernel
theorem dX5_init_45 : decode cX5_init 45 = .ok (.iconst 4, 1) := by decide +kernel
theorem dX5_init_46 : decode cX5_init 46 = .ok (.invokespecial 11, 3) := by decide +kernel
theorem dX5_init_49 : decode cX5_init 49 = .ok (.putfield 26, 3) := by decide +kernel
theorem dX5_init_52 : decode cX5_init 52 = .ok (.aload_n 0, 1) := by decide +kernel
theorem dX5_init_53 : decode cX5_init 53 = .ok (.new 9, 3) := by decide +kernel
theorem dX5_init_56 : decode cX5_init 56 = .ok (.dup, 1) := by decide +kernel
theorem dX5_init_57 : decode cX5_init 57 = .ok (.iconst 4, 1) := by decide +kernel
theorem dX5_init_58 : decode cX5_init 58 = .ok (.invokespecial 11, 3) := by decide +kernel
theorem dX5_init_61 : decode cX5_init 61 = .ok (.putfield 29, 3) := by decide +kernel
theorem dX5_init_64 : decode cX5_init 64 = .ok (.aload_n 0, 1) := by decide +kernel
theorem dX5_init_65 : decode cX5_init 65 = .ok (.new 9, 3) := by decide +kernel
theorem dX5_init_68 : decode cX5_init 68 = .ok (.dup, 1) := by decide +kernel
theorem dX5_init_69 : decode cX5_init 69 = .ok (.iconst 4, 1) := by decide +kernel
theorem dX5_init_70 : decode cX5_init 70 = .ok (.invokespecial 11, 3) := by decide +kernel
theorem dX5_init_73 : decode cX5_init 73 = .ok (.putfield 32, 3) := by decide +kernel
theorem dX5_init_76 : decode cX5_init 76 = .ok (.aload_n 0, 1) := by decide +kernel
theorem dX5_init_77 : decode cX5_init 77 = .ok (.new 9, 3) := by decide +kernel
theorem dX5_init_80 : decode cX5_init 80 = .ok (.dup, 1) := by decide +kernel
theorem dX5_init_81 : decode cX5_init 81 = .ok (.bipush 10, 2) := by decide +kernel
theorem dX5_init_83 : decode cX5_init 83 = .ok (.invokespecial 11, 3) := by decide +kernel
theorem dX5_init_86 : decode cX5_init 86 = .ok (.putfield 35, 3) := by decide +kernel
theorem dX5_init_89 : decode cX5_init 89 = .ok (.aload_n 0, 1) := by decide +kernel
theorem dX5_init_90 : decode cX5_init 90 = .ok (.bipush 120, 2) := by decide +kernel
theorem dX5_init_92 : decode cX5_init 92 = .ok (.newarray .int, 2) := by decide +kernel
theorem dX5_init_94 : decode cX5_init 94 = .ok (.putfield 38, 3) := by decide +kernel
theorem dX5_init_97 : decode cX5_init 97 = .ok (.aload_n 0, 1) := by decide +kernel
theorem dX5_init_98 : decode cX5_init 98 = .ok (.bipush 120, 2) := by decide +kernel
theorem dX5_init_100 : decode cX5_init 100 = .ok (.newarray .int, 2) := by decide +kernel
theorem dX5_init_102 : decode cX5_init 102 = .ok (.putfield 42, 3) := by decide +kernel
theorem dX5_init_105 : decode cX5_init 105 = .ok (.return_, 1) := by decide +kernel
def kPln : gS := [] ++ (0, 5) :: kPrs 4 ++ (0, 5) :: kPrs 4 ++ (0, 5) :: kPrs 4 ++ (0, 5) :: kPrs 4 ++ (0, 5) :: kPrs 4 ++ (0, 5) :: kPrs 4 ++ (0, 5) :: kPrs 10 ++ [(1, 120)] ++ [(1, 120)]
theorem ct_X5 {sh0 : gS} {M0 : gM} : gC (gx 2 41 23 (329)) yX5_init cX5_init 1 none [(4, (sh0.length : Int))] (sh0 ++ [(0, 6)]) (gN M0 (sh0.length : Int) (0, 6)) (cI 6 sh0 M0 (kPln)) := by
  refine gC_ofA (lv := [_]) (by decide +kernel) (Nat.le_of_ble_eq_true rfl) rfl (fun hMw hav => ?_)
  refine gA_gen (cB [] 6 sh0 M0 [] 0) cB_0 (fun sh M hB => ?_)
  refine g_aload_n (q0 := 1) (j := 0) rfl dX5_init_0 rfl ?_
  refine g_objInit (q0 := 4) rfl (Int.natCast_nonneg _) ml_X5_3 mi_objectInit mc_objectInit dX5_init_1 (Nat.le_of_ble_eq_true rfl) (Nat.le_of_ble_eq_true rfl) ?_
  refine g_aload_n (q0 := 5) (j := 0) rfl dX5_init_4 rfl ?_
  refine g_new (q0 := 8) rfl gcl_5 rfl rfl cl_X5_9 it_X4 ini_X4 dX5_init_5 (Nat.le_of_ble_eq_true rfl) (Nat.le_of_ble_eq_true rfl) ?_
  refine g_dup (q0 := 9) rfl dX5_init_8 (k := ?_)
  refine g_iconst (q0 := 10) rfl dX5_init_9 (k := ?_)
  refine g_callI (as := [_]) (rest := [_, _]) mt_X4_init rfl mi_X4_init ml_X5_11 dX5_init_10 (q0 := 13) rfl rfl (Int.natCast_nonneg _) (ct_X4 (n := 4) (by decide)) rfl ⟨by decide, by decide⟩ ⟨Nat.le_of_ble_eq_true rfl, Nat.le_of_ble_eq_true rfl⟩ (Nat.le_of_ble_eq_true rfl) (fun r sh1 M1 hI hw1 hMw1 => ?_)
  have hr := hI.1
  subst hr
  refine g_putC (q0 := 16) (t := 4) (fi := 4) rfl rfl ff_X5_14 dX5_init_13 rfl (cB_objp hB hI) rfl rfl (fun r h => by cases h; rfl) (fun G => by rw [gc_ref G (Int.natCast_nonneg _)]; exact ⟨rfl, rfl⟩) ?_
  refine gA_gen (cB [] 6 sh0 M0 ([] ++ (0, 5) :: kPrs 4) 5) (cB_obj hB hI (f := 4) rfl (by decide) (by decide +kernel) (by decide)) (fun sh M hB => ?_)
  refine g_aload_n (q0 := 17) (j := 0) rfl dX5_init_16 rfl ?_
  refine g_new (q0 := 20) rfl gcl_5 rfl rfl cl_X5_9 it_X4 ini_X4 dX5_init_17 (Nat.le_of_ble_eq_true rfl) (Nat.le_of_ble_eq_true rfl) ?_
  refine g_dup (q0 := 21) rfl dX5_init_20 (k := ?_)
  refine g_iconst (q0 := 22) rfl dX5_init_21 (k := ?_)
  refine g_callI (as := [_]) (rest := [_, _]) mt_X4_init rfl mi_X4_init ml_X5_11 dX5_init_22 (q0 := 25) rfl rfl (Int.natCast_nonneg _) (ct_X4 (n := 4) (by decide)) rfl ⟨by decide, by decide⟩ ⟨Nat.le_of_ble_eq_true rfl, Nat.le_of_ble_eq_true rfl⟩ (Nat.le_of_ble_eq_true rfl) (fun r sh1 M1 hI hw1 hMw1 => ?_)
  have hr := hI.1
  subst hr
  refine g_putC (q0 := 28) (t := 4) (fi := 5) rfl rfl ff_X5_20 dX5_init_25 rfl (cB_objp hB hI) rfl rfl (fun r h => by cases h; rfl) (fun G => by rw [gc_ref G (Int.natCast_nonneg _)]; exact ⟨rfl, rfl⟩) ?_
  refine gA_gen (cB [] 6 sh0 M0 ([] ++ (0, 5) :: kPrs 4 ++ (0, 5) :: kPrs 4) 6) (cB_obj hB hI (f := 5) rfl (by decide) (by decide +kernel) (by decide)) (fun sh M hB => ?_)
  refine g_aload_n (q0 := 29) (j := 0) rfl dX5_init_28 rfl ?_
  refine g_new (q0 := 32) rfl gcl_5 rfl rfl cl_X5_9 it_X4 ini_X4 dX5_init_29 (Nat.le_of_ble_eq_true rfl) (Nat.le_of_ble_eq_true rfl) ?_
  refine g_dup (q0 := 33) rfl dX5_init_32 (k := ?_)
  refine g_iconst (q0 := 34) rfl dX5_init_33 (k := ?_)
  refine g_callI (as := [_]) (rest := [_, _]) mt_X4_init rfl mi_X4_init ml_X5_11 dX5_init_34 (q0 := 37) rfl rfl (Int.natCast_nonneg _) (ct_X4 (n := 4) (by decide)) rfl ⟨by decide, by decide⟩ ⟨Nat.le_of_ble_eq_true rfl, Nat.le_of_ble_eq_true rfl⟩ (Nat.le_of_ble_eq_true rfl) (fun r sh1 M1 hI hw1 hMw1 => ?_)
  have hr := hI.1
  subst hr
  refine g_putC (q0 := 40) (t := 4) (fi := 6) rfl rfl ff_X5_23 dX5_init_37 rfl (cB_objp hB hI) rfl rfl (fun r h => by cases h; rfl) (fun G => by rw [gc_ref G (Int.natCast_nonneg _)]; exact ⟨rfl, rfl⟩) ?_
  refine gA_gen (cB [] 6 sh0 M0 ([] ++ (0, 5) :: kPrs 4 ++ (0, 5) :: kPrs 4 ++ (0, 5) :: kPrs 4) 7) (cB_obj hB hI (f := 6) rfl (by decide) (by decide +kernel) (by decide)) (fun sh M hB => ?_)
  refine g_aload_n (q0 := 41) (j := 0) rfl dX5_init_40 rfl ?_
  refine g_new (q0 := 44) rfl gcl_5 rfl rfl cl_X5_9 it_X4 ini_X4 dX5_init_41 (Nat.le_of_ble_eq_true rfl) (Nat.le_of_ble_eq_true rfl) ?_
  refine g_dup (q0 := 45) rfl dX5_init_44 (k := ?_)
  refine g_iconst (q0 := 46) rfl dX5_init_45 (k := ?_)
  refine g_callI (as := [_]) (rest := [_, _]) mt_X4_init rfl mi_X4_init ml_X5_11 dX5_init_46 (q0 := 49) rfl rfl (Int.natCast_nonneg _) (ct_X4 (n := 4) (by decide)) rfl ⟨by decide, by decide⟩ ⟨Nat.le_of_ble_eq_true rfl, Nat.le_of_ble_eq_true rfl⟩ (Nat.le_of_ble_eq_true rfl) (fun r sh1 M1 hI hw1 hMw1 => ?_)
  have hr := hI.1
  subst hr
  refine g_putC (q0 := 52) (t := 4) (fi := 7) rfl rfl ff_X5_26 dX5_init_49 rfl (cB_objp hB hI) rfl rfl (fun r h => by cases h; rfl) (fun G => by rw [gc_ref G (Int.natCast_nonneg _)]; exact ⟨rfl, rfl⟩) ?_
  refine gA_gen (cB [] 6 sh0 M0 ([] ++ (0, 5) :: kPrs 4 ++ (0, 5) :: kPrs 4 ++ (0, 5) :: kPrs 4 ++ (0, 5) :: kPrs 4) 8) (cB_obj hB hI (f := 7) rfl (by decide) (by decide +kernel) (by decide)) (fun sh M hB => ?_)
  refine g_aload_n (q0 := 53) (j := 0) rfl dX5_init_52 rfl ?_
  refine g_new (q0 := 56) rfl gcl_5 rfl rfl cl_X5_9 it_X4 ini_X4 dX5_init_53 (Nat.le_of_ble_eq_true rfl) (Nat.le_of_ble_eq_true rfl) ?_
  refine g_dup (q0 := 57) rfl dX5_init_56 (k := ?_)
  refine g_iconst (q0 := 58) rfl dX5_init_57 (k := ?_)
  refine g_callI (as := [_]) (rest := [_, _]) mt_X4_init rfl mi_X4_init ml_X5_11 dX5_init_58 (q0 := 61) rfl rfl (Int.natCast_nonneg _) (ct_X4 (n := 4) (by decide)) rfl ⟨by decide, by decide⟩ ⟨Nat.le_of_ble_eq_true rfl, Nat.le_of_ble_eq_true rfl⟩ (Nat.le_of_ble_eq_true rfl) (fun r sh1 M1 hI hw1 hMw1 => ?_)
  have hr := hI.1
  subst hr
  refine g_putC (q0 := 64) (t := 4) (fi := 8) rfl rfl ff_X5_29 dX5_init_61 rfl (cB_objp hB hI) rfl rfl (fun r h => by cases h; rfl) (fun G => by rw [gc_ref G (Int.natCast_nonneg _)]; exact ⟨rfl, rfl⟩) ?_
  refine gA_gen (cB [] 6 sh0 M0 ([] ++ (0, 5) :: kPrs 4 ++ (0, 5) :: kPrs 4 ++ (0, 5) :: kPrs 4 ++ (0, 5) :: kPrs 4 ++ (0, 5) :: kPrs 4) 9) (cB_obj hB hI (f := 8) rfl (by decide) (by decide +kernel) (by decide)) (fun sh M hB => ?_)
  refine g_aload_n (q0 := 65) (j := 0) rfl dX5_init_64 rfl ?_
  refine g_new (q0 := 68) rfl gcl_5 rfl rfl cl_X5_9 it_X4 ini_X4 dX5_init_65 (Nat.le_of_ble_eq_true rfl) (Nat.le_of_ble_eq_true rfl) ?_
  refine g_dup (q0 := 69) rfl dX5_init_68 (k := ?_)
  refine g_iconst (q0 := 70) rfl dX5_init_69 (k := ?_)
  refine g_callI (as := [_]) (rest := [_, _]) mt_X4_init rfl mi_X4_init ml_X5_11 dX5_init_70 (q0 := 73) rfl rfl (Int.natCast_nonneg _) (ct_X4 (n := 4) (by decide)) rfl ⟨by decide, by decide⟩ ⟨Nat.le_of_ble_eq_true rfl, Nat.le_of_ble_eq_true rfl⟩ (Nat.le_of_ble_eq_true rfl) (fun r sh1 M1 hI hw1 hMw1 => ?_)
  have hr := hI.1
  subst hr
  refine g_putC (q0 := 76) (t := 4) (fi := 9) rfl rfl ff_X5_32 dX5_init_73 rfl (cB_objp hB hI) rfl rfl (fun r h => by cases h; rfl) (fun G => by rw [gc_ref G (Int.natCast_nonneg _)]; exact ⟨rfl, rfl⟩) ?_
  refine gA_gen (cB [] 6 sh0 M0 ([] ++ (0, 5) :: kPrs 4 ++ (0, 5) :: kPrs 4 ++ (0, 5) :: kPrs 4 ++ (0, 5) :: kPrs 4 ++ (0, 5) :: kPrs 4 ++ (0, 5) :: kPrs 4) 10) (cB_obj hB hI (f := 9) rfl (by decide) (by decide +kernel) (by decide)) (fun sh M hB => ?_)
  refine g_aload_n (q0 := 77) (j := 0) rfl dX5_init_76 rfl ?_
  refine g_new (q0 := 80) rfl gcl_5 rfl rfl cl_X5_9 it_X4 ini_X4 dX5_init_77 (Nat.le_of_ble_eq_true rfl) (Nat.le_of_ble_eq_true rfl) ?_
  refine g_dup (q0 := 81) rfl dX5_init_80 (k := ?_)
  refine g_bipush (q0 := 83) rfl dX5_init_81 (k := ?_)
  refine g_callI (as := [_]) (rest := [_, _]) mt_X4_init rfl mi_X4_init ml_X5_11 dX5_init_83 (q0 := 86) rfl rfl (Int.natCast_nonneg _) (ct_X4 (n := 10) (by decide)) rfl ⟨by decide, by decide⟩ ⟨Nat.le_of_ble_eq_true rfl, Nat.le_of_ble_eq_true rfl⟩ (Nat.le_of_ble_eq_true rfl) (fun r sh1 M1 hI hw1 hMw1 => ?_)
  have hr := hI.1
  subst hr
  refine g_putC (q0 := 89) (t := 4) (fi := 10) rfl rfl ff_X5_35 dX5_init_86 rfl (cB_objp hB hI) rfl rfl (fun r h => by cases h; rfl) (fun G => by rw [gc_ref G (Int.natCast_nonneg _)]; exact ⟨rfl, rfl⟩) ?_
  refine gA_gen (cB [] 6 sh0 M0 ([] ++ (0, 5) :: kPrs 4 ++ (0, 5) :: kPrs 4 ++ (0, 5) :: kPrs 4 ++ (0, 5) :: kPrs 4 ++ (0, 5) :: kPrs 4 ++ (0, 5) :: kPrs 4 ++ (0, 5) :: kPrs 10) 11) (cB_obj hB hI (f := 10) rfl (by decide) (by decide +kernel) (by decide)) (fun sh M hB => ?_)
  refine g_aload_n (q0 := 90) (j := 0) rfl dX5_init_89 rfl ?_
  refine g_bipush (q0 := 92) rfl dX5_init_90 (k := ?_)
  refine g_newI (q0 := 94) (n := 120) rfl rfl ac_int dX5_init_92 (by decide) (Nat.le_of_ble_eq_true rfl) (Nat.le_of_ble_eq_true rfl) ?_
  refine g_putC (q0 := 97) (t := 4) (fi := 17) rfl rfl ff_X5_38 dX5_init_94 rfl (gsh_old (cB_own hB)) rfl rfl (fun r h => by cases h; rfl) (fun G => by rw [gc_ref G (Int.natCast_nonneg _)]; exact ⟨rfl, rfl⟩) ?_
  refine gA_gen (cB [] 6 sh0 M0 ([] ++ (0, 5) :: kPrs 4 ++ (0, 5) :: kPrs 4 ++ (0, 5) :: kPrs 4 ++ (0, 5) :: kPrs 4 ++ (0, 5) :: kPrs 4 ++ (0, 5) :: kPrs 4 ++ (0, 5) :: kPrs 10 ++ [(1, 120)]) 18) (cB_arr hB (f := 17) rfl (Or.inr (fun b i => rfl)) (by decide) (by decide +kernel) (by decide)) (fun sh M hB => ?_)
  refine g_aload_n (q0 := 98) (j := 0) rfl dX5_init_97 rfl ?_
  refine g_bipush (q0 := 100) rfl dX5_init_98 (k := ?_)
  refine g_newI (q0 := 102) (n := 120) rfl rfl ac_int dX5_init_100 (by decide) (Nat.le_of_ble_eq_true rfl) (Nat.le_of_ble_eq_true rfl) ?_
  refine g_putC (q0 := 105) (t := 4) (fi := 18) rfl rfl ff_X5_42 dX5_init_102 rfl (gsh_old (cB_own hB)) rfl rfl (fun r h => by cases h; rfl) (fun G => by rw [gc_ref G (Int.natCast_nonneg _)]; exact ⟨rfl, rfl⟩) ?_
  refine gA_gen (cB [] 6 sh0 M0 ([] ++ (0, 5) :: kPrs 4 ++ (0, 5) :: kPrs 4 ++ (0, 5) :: kPrs 4 ++ (0, 5) :: kPrs 4 ++ (0, 5) :: kPrs 4 ++ (0, 5) :: kPrs 4 ++ (0, 5) :: kPrs 10 ++ [(1, 120)] ++ [(1, 120)]) 19) (cB_arr hB (f := 18) rfl (Or.inr (fun b i => rfl)) (by decide) (by decide +kernel) (by decide)) (fun sh M hB => ?_)
  exact g_return dX5_init_105 rfl ⟨Nat.le_of_ble_eq_true rfl, Nat.le_of_ble_eq_true rfl⟩ (cI_of hB (by decide))
theorem dX6_init_0 : decode cX6_init 0 = .ok (.aload_n 0, 1) := by decide +kernel
theorem dX6_init_1 : decode cX6_init 1 = .ok (.invokespecial 3, 3) := by decide +kernel
theorem dX6_init_4 : decode cX6_init 4 = .ok (.aload_n 0, 1) := by decide +kernel
theorem dX6_init_5 : decode cX6_init 5 = .ok (.new 9, 3) := by decide +kernel
theorem dX6_init_8 : decode cX6_init 8 = .ok (.dup, 1) := by decide +kernel
theorem dX6_init_9 : decode cX6_init 9 = .ok (.invokespecial 11, 3) := by decide +kernel
theorem dX6_init_12 : decode cX6_init 12 = .ok (.putfield 12, 3) := by decide +kernel
theorem dX6_init_15 : decode cX6_init 15 = .ok (.return_, 1) := by decide +kernel
def kPtx : gS := [] ++ (0, 6) :: kPln
theorem ct_X6 {sh0 : gS} {M0 : gM} : gC (gx 3 61 24 (348)) yX6_init cX6_init 1 none [(4, (sh0.length : Int))] (sh0 ++ [(0, 7)]) (gN M0 (sh0.length : Int) (0, 7)) (cI 7 sh0 M0 (kPtx)) := by
  refine gC_ofA (lv := [_]) (by decide +kernel) (Nat.le_of_ble_eq_true rfl) rfl (fun hMw hav => ?_)
  refine gA_gen (cB [] 7 sh0 M0 [] 0) cB_0 (fun sh M hB => ?_)
  refine g_aload_n (q0 := 1) (j := 0) rfl dX6_init_0 rfl ?_
  refine g_objInit (q0 := 4) rfl (Int.natCast_nonneg _) ml_X6_3 mi_objectInit mc_objectInit dX6_init_1 (Nat.le_of_ble_eq_true rfl) (Nat.le_of_ble_eq_true rfl) ?_
  refine g_aload_n (q0 := 5) (j := 0) rfl dX6_init_4 rfl ?_
  refine g_new (q0 := 8) rfl gcl_6 rfl rfl cl_X6_9 it_X5 ini_X5 dX6_init_5 (Nat.le_of_ble_eq_true rfl) (Nat.le_of_ble_eq_true rfl) ?_
  refine g_dup (q0 := 9) rfl dX6_init_8 (k := ?_)
  refine g_callN (as := []) (rest := [_, _]) mt_X5_init rfl mi_X5_init (host := "CarriedHistory") (List.mem_of_getElem? (i := 5) rfl) dX6_init_9 (q0 := 12) rfl rfl (Int.natCast_nonneg _) (ct_X5) rfl ⟨by decide, by decide⟩ ⟨Nat.le_of_ble_eq_true rfl, Nat.le_of_ble_eq_true rfl⟩ (Nat.le_of_ble_eq_true rfl) (fun r sh1 M1 hI hw1 hMw1 => ?_)
  have hr := hI.1
  subst hr
  refine g_putC (q0 := 15) (t := 4) (fi := 0) rfl rfl ff_X6_12 dX6_init_12 rfl (cB_objp hB hI) rfl rfl (fun r h => by cases h; rfl) (fun G => by rw [gc_ref G (Int.natCast_nonneg _)]; exact ⟨rfl, rfl⟩) ?_
  refine gA_gen (cB [] 7 sh0 M0 ([] ++ (0, 6) :: kPln) 1) (cB_obj hB hI (f := 0) rfl (by decide) (by decide +kernel) (by decide)) (fun sh M hB => ?_)
  exact g_return dX6_init_15 rfl ⟨Nat.le_of_ble_eq_true rfl, Nat.le_of_ble_eq_true rfl⟩ (cI_of hB (by decide))
theorem dX0_init_0 : decode cX0_init 0 = .ok (.aload_n 0, 1) := by decide +kernel
theorem dX0_init_1 : decode cX0_init 1 = .ok (.invokespecial 3, 3) := by decide +kernel
theorem dX0_init_4 : decode cX0_init 4 = .ok (.aload_n 0, 1) := by decide +kernel
theorem dX0_init_5 : decode cX0_init 5 = .ok (.bipush 32, 2) := by decide +kernel
theorem dX0_init_7 : decode cX0_init 7 = .ok (.newarray .int, 2) := by decide +kernel
theorem dX0_init_9 : decode cX0_init 9 = .ok (.putfield 9, 3) := by decide +kernel
theorem dX0_init_12 : decode cX0_init 12 = .ok (.aload_n 0, 1) := by decide +kernel
theorem dX0_init_13 : decode cX0_init 13 = .ok (.bipush 32, 2) := by decide +kernel
theorem dX0_init_15 : decode cX0_init 15 = .ok (.newarray .int, 2) := by decide +kernel
theorem dX0_init_17 : decode cX0_init 17 = .ok (.putfield 15, 3) := by decide +kernel
theorem dX0_init_20 : decode cX0_init 20 = .ok (.aload_n 0, 1) := by decide +kernel
theorem dX0_init_21 : decode cX0_init 21 = .ok (.bipush 32, 2) := by decide +kernel
theorem dX0_init_23 : decode cX0_init 23 = .ok (.newarray .int, 2) := by decide +kernel
theorem dX0_init_25 : decode cX0_init 25 = .ok (.putfield 18, 3) := by decide +kernel
theorem dX0_init_28 : decode cX0_init 28 = .ok (.aload_n 0, 1) := by decide +kernel
theorem dX0_init_29 : decode cX0_init 29 = .ok (.bipush 32, 2) := by decide +kernel
theorem dX0_init_31 : decode cX0_init 31 = .ok (.newarray .int, 2) := by decide +kernel
theorem dX0_init_33 : decode cX0_init 33 = .ok (.putfield 21, 3) := by decide +kernel
theorem dX0_init_36 : decode cX0_init 36 = .ok (.aload_n 0, 1) := by decide +kernel
theorem dX0_init_37 : decode cX0_init 37 = .ok (.bipush 32, 2) := by decide +kernel
theorem dX0_init_39 : decode cX0_init 39 = .ok (.newarray .int, 2) := by decide +kernel
theorem dX0_init_41 : decode cX0_init 41 = .ok (.putfield 24, 3) := by decide +kernel
theorem dX0_init_44 : decode cX0_init 44 = .ok (.aload_n 0, 1) := by decide +kernel
theorem dX0_init_45 : decode cX0_init 45 = .ok (.bipush 16, 2) := by decide +kernel
theorem dX0_init_47 : decode cX0_init 47 = .ok (.newarray .int, 2) := by decide +kernel
theorem dX0_init_49 : decode cX0_init 49 = .ok (.putfield 27, 3) := by decide +kernel
theorem dX0_init_52 : decode cX0_init 52 = .ok (.aload_n 0, 1) := by decide +kernel
theorem dX0_init_53 : decode cX0_init 53 = .ok (.bipush 16, 2) := by decide +kernel
theorem dX0_init_55 : decode cX0_init 55 = .ok (.newarray .int, 2) := by decide +kernel
theorem dX0_init_57 : decode cX0_init 57 = .ok (.putfield 30, 3) := by decide +kernel
theorem dX0_init_60 : decode cX0_init 60 = .ok (.aload_n 0, 1) := by decide +kernel
theorem dX0_init_61 : decode cX0_init 61 = .ok (.bipush 16, 2) := by decide +kernel
theorem dX0_init_63 : decode cX0_init 63 = .ok (.newarray .float, 2) := by decide +kernel
theorem dX0_init_65 : decode cX0_init 65 = .ok (.putfield 33, 3) := by decide +kernel
theorem dX0_init_68 : decode cX0_init 68 = .ok (.aload_n 0, 1) := by decide +kernel
theorem dX0_init_69 : decode cX0_init 69 = .ok (.bipush 16, 2) := by decide +kernel
theorem dX0_init_71 : decode cX0_init 71 = .ok (.newarray .int, 2) := by decide +kernel
theorem dX0_init_73 : decode cX0_init 73 = .ok (.putfield 37, 3) := by decide +kernel
theorem dX0_init_76 : decode cX0_init 76 = .ok (.aload_n 0, 1) := by decide +kernel
theorem dX0_init_77 : decode cX0_init 77 = .ok (.bipush 16, 2) := by decide +kernel
theorem dX0_init_79 : decode cX0_init 79 = .ok (.newarray .int, 2) := by decide +kernel
theorem dX0_init_81 : decode cX0_init 81 = .ok (.putfield 40, 3) := by decide +kernel
theorem dX0_init_84 : decode cX0_init 84 = .ok (.aload_n 0, 1) := by decide +kernel
theorem dX0_init_85 : decode cX0_init 85 = .ok (.sipush 256, 3) := by decide +kernel
theorem dX0_init_88 : decode cX0_init 88 = .ok (.newarray .float, 2) := by decide +kernel
theorem dX0_init_90 : decode cX0_init 90 = .ok (.putfield 43, 3) := by decide +kernel
theorem dX0_init_93 : decode cX0_init 93 = .ok (.aload_n 0, 1) := by decide +kernel
theorem dX0_init_94 : decode cX0_init 94 = .ok (.bipush 6, 2) := by decide +kernel
theorem dX0_init_96 : decode cX0_init 96 = .ok (.newarray .int, 2) := by decide +kernel
theorem dX0_init_98 : decode cX0_init 98 = .ok (.putfield 46, 3) := by decide +kernel
theorem dX0_init_101 : decode cX0_init 101 = .ok (.aload_n 0, 1) := by decide +kernel
theorem dX0_init_102 : decode cX0_init 102 = .ok (.bipush 6, 2) := by decide +kernel
theorem dX0_init_104 : decode cX0_init 104 = .ok (.newarray .int, 2) := by decide +kernel
theorem dX0_init_106 : decode cX0_init 106 = .ok (.putfield 49, 3) := by decide +kernel
theorem dX0_init_109 : decode cX0_init 109 = .ok (.aload_n 0, 1) := by decide +kernel
theorem dX0_init_110 : decode cX0_init 110 = .ok (.bipush 7, 2) := by decide +kernel
theorem dX0_init_112 : decode cX0_init 112 = .ok (.newarray .int, 2) := by decide +kernel
theorem dX0_init_114 : decode cX0_init 114 = .ok (.putfield 52, 3) := by decide +kernel
theorem dX0_init_117 : decode cX0_init 117 = .ok (.return_, 1) := by decide +kernel
def kChg : gS := [] ++ [(1, 32)] ++ [(1, 32)] ++ [(1, 32)] ++ [(1, 32)] ++ [(1, 32)] ++ [(1, 16)] ++ [(1, 16)] ++ [(5, 16)] ++ [(1, 16)] ++ [(1, 16)] ++ [(5, 256)] ++ [(1, 6)] ++ [(1, 6)] ++ [(1, 7)]
theorem ct_X0 {sh0 : gS} {M0 : gM} : gC (gx 1 20 14 (515)) yX0_init cX0_init 1 none [(4, (sh0.length : Int))] (sh0 ++ [(0, 1)]) (gN M0 (sh0.length : Int) (0, 1)) (cI 1 sh0 M0 (kChg)) := by
  refine gC_ofA (lv := [_]) (by decide +kernel) (Nat.le_of_ble_eq_true rfl) rfl (fun hMw hav => ?_)
  refine gA_gen (cB [] 1 sh0 M0 [] 0) cB_0 (fun sh M hB => ?_)
  refine g_aload_n (q0 := 1) (j := 0) rfl dX0_init_0 rfl ?_
  refine g_objInit (q0 := 4) rfl (Int.natCast_nonneg _) ml_X0_3 mi_objectInit mc_objectInit dX0_init_1 (Nat.le_of_ble_eq_true rfl) (Nat.le_of_ble_eq_true rfl) ?_
  refine g_aload_n (q0 := 5) (j := 0) rfl dX0_init_4 rfl ?_
  refine g_bipush (q0 := 7) rfl dX0_init_5 (k := ?_)
  refine g_newI (q0 := 9) (n := 32) rfl rfl ac_int dX0_init_7 (by decide) (Nat.le_of_ble_eq_true rfl) (Nat.le_of_ble_eq_true rfl) ?_
  refine g_putC (q0 := 12) (t := 4) (fi := 1) rfl rfl ff_X0_9 dX0_init_9 rfl (gsh_old (cB_own hB)) rfl rfl (fun r h => by cases h; rfl) (fun G => by rw [gc_ref G (Int.natCast_nonneg _)]; exact ⟨rfl, rfl⟩) ?_
  refine gA_gen (cB [] 1 sh0 M0 ([] ++ [(1, 32)]) 2) (cB_arr hB (f := 1) rfl (Or.inr (fun b i => rfl)) (by decide) (by decide +kernel) (by decide)) (fun sh M hB => ?_)
  refine g_aload_n (q0 := 13) (j := 0) rfl dX0_init_12 rfl ?_
  refine g_bipush (q0 := 15) rfl dX0_init_13 (k := ?_)
  refine g_newI (q0 := 17) (n := 32) rfl rfl ac_int dX0_init_15 (by decide) (Nat.le_of_ble_eq_true rfl) (Nat.le_of_ble_eq_true rfl) ?_
  refine g_putC (q0 := 20) (t := 4) (fi := 2) rfl rfl ff_X0_15 dX0_init_17 rfl (gsh_old (cB_own hB)) rfl rfl (fun r h => by cases h; rfl) (fun G => by rw [gc_ref G (Int.natCast_nonneg _)]; exact ⟨rfl, rfl⟩) ?_
  refine gA_gen (cB [] 1 sh0 M0 ([] ++ [(1, 32)] ++ [(1, 32)]) 3) (cB_arr hB (f := 2) rfl (Or.inr (fun b i => rfl)) (by decide) (by decide +kernel) (by decide)) (fun sh M hB => ?_)
  refine g_aload_n (q0 := 21) (j := 0) rfl dX0_init_20 rfl ?_
  refine g_bipush (q0 := 23) rfl dX0_init_21 (k := ?_)
  refine g_newI (q0 := 25) (n := 32) rfl rfl ac_int dX0_init_23 (by decide) (Nat.le_of_ble_eq_true rfl) (Nat.le_of_ble_eq_true rfl) ?_
  refine g_putC (q0 := 28) (t := 4) (fi := 3) rfl rfl ff_X0_18 dX0_init_25 rfl (gsh_old (cB_own hB)) rfl rfl (fun r h => by cases h; rfl) (fun G => by rw [gc_ref G (Int.natCast_nonneg _)]; exact ⟨rfl, rfl⟩) ?_
  refine gA_gen (cB [] 1 sh0 M0 ([] ++ [(1, 32)] ++ [(1, 32)] ++ [(1, 32)]) 4) (cB_arr hB (f := 3) rfl (Or.inr (fun b i => rfl)) (by decide) (by decide +kernel) (by decide)) (fun sh M hB => ?_)
  refine g_aload_n (q0 := 29) (j := 0) rfl dX0_init_28 rfl ?_
  refine g_bipush (q0 := 31) rfl dX0_init_29 (k := ?_)
  refine g_newI (q0 := 33) (n := 32) rfl rfl ac_int dX0_init_31 (by decide) (Nat.le_of_ble_eq_true rfl) (Nat.le_of_ble_eq_true rfl) ?_
  refine g_putC (q0 := 36) (t := 4) (fi := 4) rfl rfl ff_X0_21 dX0_init_33 rfl (gsh_old (cB_own hB)) rfl rfl (fun r h => by cases h; rfl) (fun G => by rw [gc_ref G (Int.natCast_nonneg _)]; exact ⟨rfl, rfl⟩) ?_
  refine gA_gen (cB [] 1 sh0 M0 ([] ++ [(1, 32)] ++ [(1, 32)] ++ [(1, 32)] ++ [(1, 32)]) 5) (cB_arr hB (f := 4) rfl (Or.inr (fun b i => rfl)) (by decide) (by decide +kernel) (by decide)) (fun sh M hB => ?_)
  refine g_aload_n (q0 := 37) (j := 0) rfl dX0_init_36 rfl ?_
  refine g_bipush (q0 := 39) rfl dX0_init_37 (k := ?_)
  refine g_newI (q0 := 41) (n := 32) rfl rfl ac_int dX0_init_39 (by decide) (Nat.le_of_ble_eq_true rfl) (Nat.le_of_ble_eq_true rfl) ?_
  refine g_putC (q0 := 44) (t := 4) (fi := 5) rfl rfl ff_X0_24 dX0_init_41 rfl (gsh_old (cB_own hB)) rfl rfl (fun r h => by cases h; rfl) (fun G => by rw [gc_ref G (Int.natCast_nonneg _)]; exact ⟨rfl, rfl⟩) ?_
  refine gA_gen (cB [] 1 sh0 M0 ([] ++ [(1, 32)] ++ [(1, 32)] ++ [(1, 32)] ++ [(1, 32)] ++ [(1, 32)]) 6) (cB_arr hB (f := 5) rfl (Or.inr (fun b i => rfl)) (by decide) (by decide +kernel) (by decide)) (fun sh M hB => ?_)
  refine g_aload_n (q0 := 45) (j := 0) rfl dX0_init_44 rfl ?_
  refine g_bipush (q0 := 47) rfl dX0_init_45 (k := ?_)
  refine g_newI (q0 := 49) (n := 16) rfl rfl ac_int dX0_init_47 (by decide) (Nat.le_of_ble_eq_true rfl) (Nat.le_of_ble_eq_true rfl) ?_
  refine g_putC (q0 := 52) (t := 4) (fi := 7) rfl rfl ff_X0_27 dX0_init_49 rfl (gsh_old (cB_own hB)) rfl rfl (fun r h => by cases h; rfl) (fun G => by rw [gc_ref G (Int.natCast_nonneg _)]; exact ⟨rfl, rfl⟩) ?_
  refine gA_gen (cB [] 1 sh0 M0 ([] ++ [(1, 32)] ++ [(1, 32)] ++ [(1, 32)] ++ [(1, 32)] ++ [(1, 32)] ++ [(1, 16)]) 8) (cB_arr hB (f := 7) rfl (Or.inr (fun b i => rfl)) (by decide) (by decide +kernel) (by decide)) (fun sh M hB => ?_)
  refine g_aload_n (q0 := 53) (j := 0) rfl dX0_init_52 rfl ?_
  refine g_bipush (q0 := 55) rfl dX0_init_53 (k := ?_)
  refine g_newI (q0 := 57) (n := 16) rfl rfl ac_int dX0_init_55 (by decide) (Nat.le_of_ble_eq_true rfl) (Nat.le_of_ble_eq_true rfl) ?_
  refine g_putC (q0 := 60) (t := 4) (fi := 8) rfl rfl ff_X0_30 dX0_init_57 rfl (gsh_old (cB_own hB)) rfl rfl (fun r h => by cases h; rfl) (fun G => by rw [gc_ref G (Int.natCast_nonneg _)]; exact ⟨rfl, rfl⟩) ?_
  refine gA_gen (cB [] 1 sh0 M0 ([] ++ [(1, 32)] ++ [(1, 32)] ++ [(1, 32)] ++ [(1, 32)] ++ [(1, 32)] ++ [(1, 16)] ++ [(1, 16)]) 9) (cB_arr hB (f := 8) rfl (Or.inr (fun b i => rfl)) (by decide) (by decide +kernel) (by decide)) (fun sh M hB => ?_)
  refine g_aload_n (q0 := 61) (j := 0) rfl dX0_init_60 rfl ?_
  refine g_bipush (q0 := 63) rfl dX0_init_61 (k := ?_)
  refine g_newF (q0 := 65) (n := 16) rfl rfl ac_float dX0_init_63 (by decide) (Nat.le_of_ble_eq_true rfl) (Nat.le_of_ble_eq_true rfl) ?_
  refine g_putC (q0 := 68) (t := 4) (fi := 9) rfl rfl ff_X0_33 dX0_init_65 rfl (gsh_old (cB_own hB)) rfl rfl (fun r h => by cases h; rfl) (fun G => by rw [gc_ref G (Int.natCast_nonneg _)]; exact ⟨rfl, rfl⟩) ?_
  refine gA_gen (cB [] 1 sh0 M0 ([] ++ [(1, 32)] ++ [(1, 32)] ++ [(1, 32)] ++ [(1, 32)] ++ [(1, 32)] ++ [(1, 16)] ++ [(1, 16)] ++ [(5, 16)]) 10) (cB_arr hB (f := 9) rfl (Or.inr (fun b i => rfl)) (by decide) (by decide +kernel) (by decide)) (fun sh M hB => ?_)
  refine g_aload_n (q0 := 69) (j := 0) rfl dX0_init_68 rfl ?_
  refine g_bipush (q0 := 71) rfl dX0_init_69 (k := ?_)
  refine g_newI (q0 := 73) (n := 16) rfl rfl ac_int dX0_init_71 (by decide) (Nat.le_of_ble_eq_true rfl) (Nat.le_of_ble_eq_true rfl) ?_
  refine g_putC (q0 := 76) (t := 4) (fi := 12) rfl rfl ff_X0_37 dX0_init_73 rfl (gsh_old (cB_own hB)) rfl rfl (fun r h => by cases h; rfl) (fun G => by rw [gc_ref G (Int.natCast_nonneg _)]; exact ⟨rfl, rfl⟩) ?_
  refine gA_gen (cB [] 1 sh0 M0 ([] ++ [(1, 32)] ++ [(1, 32)] ++ [(1, 32)] ++ [(1, 32)] ++ [(1, 32)] ++ [(1, 16)] ++ [(1, 16)] ++ [(5, 16)] ++ [(1, 16)]) 13) (cB_arr hB (f := 12) rfl (Or.inr (fun b i => rfl)) (by decide) (by decide +kernel) (by decide)) (fun sh M hB => ?_)
  refine g_aload_n (q0 := 77) (j := 0) rfl dX0_init_76 rfl ?_
  refine g_bipush (q0 := 79) rfl dX0_init_77 (k := ?_)
  refine g_newI (q0 := 81) (n := 16) rfl rfl ac_int dX0_init_79 (by decide) (Nat.le_of_ble_eq_true rfl) (Nat.le_of_ble_eq_true rfl) ?_
  refine g_putC (q0 := 84) (t := 4) (fi := 13) rfl rfl ff_X0_40 dX0_init_81 rfl (gsh_old (cB_own hB)) rfl rfl (fun r h => by cases h; rfl) (fun G => by rw [gc_ref G (Int.natCast_nonneg _)]; exact ⟨rfl, rfl⟩) ?_
  refine gA_gen (cB [] 1 sh0 M0 ([] ++ [(1, 32)] ++ [(1, 32)] ++ [(1, 32)] ++ [(1, 32)] ++ [(1, 32)] ++ [(1, 16)] ++ [(1, 16)] ++ [(5, 16)] ++ [(1, 16)] ++ [(1, 16)]) 14) (cB_arr hB (f := 13) rfl (Or.inr (fun b i => rfl)) (by decide) (by decide +kernel) (by decide)) (fun sh M hB => ?_)
  refine g_aload_n (q0 := 85) (j := 0) rfl dX0_init_84 rfl ?_
  refine g_sipush (q0 := 88) rfl dX0_init_85 (k := ?_)
  refine g_newF (q0 := 90) (n := 256) rfl rfl ac_float dX0_init_88 (by decide) (Nat.le_of_ble_eq_true rfl) (Nat.le_of_ble_eq_true rfl) ?_
  refine g_putC (q0 := 93) (t := 4) (fi := 14) rfl rfl ff_X0_43 dX0_init_90 rfl (gsh_old (cB_own hB)) rfl rfl (fun r h => by cases h; rfl) (fun G => by rw [gc_ref G (Int.natCast_nonneg _)]; exact ⟨rfl, rfl⟩) ?_
  refine gA_gen (cB [] 1 sh0 M0 ([] ++ [(1, 32)] ++ [(1, 32)] ++ [(1, 32)] ++ [(1, 32)] ++ [(1, 32)] ++ [(1, 16)] ++ [(1, 16)] ++ [(5, 16)] ++ [(1, 16)] ++ [(1, 16)] ++ [(5, 256)]) 15) (cB_arr hB (f := 14) rfl (Or.inr (fun b i => rfl)) (by decide) (by decide +kernel) (by decide)) (fun sh M hB => ?_)
  refine g_aload_n (q0 := 94) (j := 0) rfl dX0_init_93 rfl ?_
  refine g_bipush (q0 := 96) rfl dX0_init_94 (k := ?_)
  refine g_newI (q0 := 98) (n := 6) rfl rfl ac_int dX0_init_96 (by decide) (Nat.le_of_ble_eq_true rfl) (Nat.le_of_ble_eq_true rfl) ?_
  refine g_putC (q0 := 101) (t := 4) (fi := 15) rfl rfl ff_X0_46 dX0_init_98 rfl (gsh_old (cB_own hB)) rfl rfl (fun r h => by cases h; rfl) (fun G => by rw [gc_ref G (Int.natCast_nonneg _)]; exact ⟨rfl, rfl⟩) ?_
  refine gA_gen (cB [] 1 sh0 M0 ([] ++ [(1, 32)] ++ [(1, 32)] ++ [(1, 32)] ++ [(1, 32)] ++ [(1, 32)] ++ [(1, 16)] ++ [(1, 16)] ++ [(5, 16)] ++ [(1, 16)] ++ [(1, 16)] ++ [(5, 256)] ++ [(1, 6)]) 16) (cB_arr hB (f := 15) rfl (Or.inr (fun b i => rfl)) (by decide) (by decide +kernel) (by decide)) (fun sh M hB => ?_)
  refine g_aload_n (q0 := 102) (j := 0) rfl dX0_init_101 rfl ?_
  refine g_bipush (q0 := 104) rfl dX0_init_102 (k := ?_)
  refine g_newI (q0 := 106) (n := 6) rfl rfl ac_int dX0_init_104 (by decide) (Nat.le_of_ble_eq_true rfl) (Nat.le_of_ble_eq_true rfl) ?_
  refine g_putC (q0 := 109) (t := 4) (fi := 16) rfl rfl ff_X0_49 dX0_init_106 rfl (gsh_old (cB_own hB)) rfl rfl (fun r h => by cases h; rfl) (fun G => by rw [gc_ref G (Int.natCast_nonneg _)]; exact ⟨rfl, rfl⟩) ?_
  refine gA_gen (cB [] 1 sh0 M0 ([] ++ [(1, 32)] ++ [(1, 32)] ++ [(1, 32)] ++ [(1, 32)] ++ [(1, 32)] ++ [(1, 16)] ++ [(1, 16)] ++ [(5, 16)] ++ [(1, 16)] ++ [(1, 16)] ++ [(5, 256)] ++ [(1, 6)] ++ [(1, 6)]) 17) (cB_arr hB (f := 16) rfl (Or.inr (fun b i => rfl)) (by decide) (by decide +kernel) (by decide)) (fun sh M hB => ?_)
  refine g_aload_n (q0 := 110) (j := 0) rfl dX0_init_109 rfl ?_
  refine g_bipush (q0 := 112) rfl dX0_init_110 (k := ?_)
  refine g_newI (q0 := 114) (n := 7) rfl rfl ac_int dX0_init_112 (by decide) (Nat.le_of_ble_eq_true rfl) (Nat.le_of_ble_eq_true rfl) ?_
  refine g_putC (q0 := 117) (t := 4) (fi := 17) rfl rfl ff_X0_52 dX0_init_114 rfl (gsh_old (cB_own hB)) rfl rfl (fun r h => by cases h; rfl) (fun G => by rw [gc_ref G (Int.natCast_nonneg _)]; exact ⟨rfl, rfl⟩) ?_
  refine gA_gen (cB [] 1 sh0 M0 ([] ++ [(1, 32)] ++ [(1, 32)] ++ [(1, 32)] ++ [(1, 32)] ++ [(1, 32)] ++ [(1, 16)] ++ [(1, 16)] ++ [(5, 16)] ++ [(1, 16)] ++ [(1, 16)] ++ [(5, 256)] ++ [(1, 6)] ++ [(1, 6)] ++ [(1, 7)]) 18) (cB_arr hB (f := 17) rfl (Or.inr (fun b i => rfl)) (by decide) (by decide +kernel) (by decide)) (fun sh M hB => ?_)
  exact g_return dX0_init_117 rfl ⟨Nat.le_of_ble_eq_true rfl, Nat.le_of_ble_eq_true rfl⟩ (cI_of hB (by decide))
