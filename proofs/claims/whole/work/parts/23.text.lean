-- ==== a COMMIT's text
theorem dX2_read_0 : decode cX2_read 0 = .ok (.aload_n 0, 1) := by decide +kernel
theorem dX2_read_1 : decode cX2_read 1 = .ok (.iconst 0, 1) := by decide +kernel
theorem dX2_read_2 : decode cX2_read 2 = .ok (.iconst 0, 1) := by decide +kernel
theorem dX2_read_3 : decode cX2_read 3 = .ok (.invokevirtual 58, 3) := by decide +kernel
theorem dX2_read_6 : decode cX2_read 6 = .ok (.aload_n 1, 1) := by decide +kernel
theorem dX2_read_7 : decode cX2_read 7 = .ok (.iload_n 2, 1) := by decide +kernel
theorem dX2_read_8 : decode cX2_read 8 = .ok (.invokevirtual 62, 3) := by decide +kernel
theorem dX2_read_11 : decode cX2_read 11 = .ok (.aload_n 1, 1) := by decide +kernel
theorem dX2_read_12 : decode cX2_read 12 = .ok (.invokevirtual 66, 3) := by decide +kernel
theorem dX2_read_15 : decode cX2_read 15 = .ok (.bipush 58, 2) := by decide +kernel
theorem dX2_read_17 : decode cX2_read 17 = .ok (.if_icmp .eq 12, 3) := by decide +kernel
theorem dX2_read_20 : decode cX2_read 20 = .ok (.aload_n 0, 1) := by decide +kernel
theorem dX2_read_21 : decode cX2_read 21 = .ok (.aload_n 1, 1) := by decide +kernel
theorem dX2_read_22 : decode cX2_read 22 = .ok (.aload_n 3, 1) := by decide +kernel
theorem dX2_read_23 : decode cX2_read 23 = .ok (.getfield 70, 3) := by decide +kernel
theorem dX2_read_26 : decode cX2_read 26 = .ok (.invokevirtual 71, 3) := by decide +kernel
theorem dX2_read_29 : decode cX2_read 29 = .ok (.aload_n 1, 1) := by decide +kernel
theorem dX2_read_30 : decode cX2_read 30 = .ok (.getfield 75, 3) := by decide +kernel
theorem dX2_read_33 : decode cX2_read 33 = .ok (.ifCond .ne 58, 3) := by decide +kernel
theorem dX2_read_36 : decode cX2_read 36 = .ok (.aload_n 1, 1) := by decide +kernel
theorem dX2_read_37 : decode cX2_read 37 = .ok (.bipush 58, 2) := by decide +kernel
theorem dX2_read_39 : decode cX2_read 39 = .ok (.invokevirtual 78, 3) := by decide +kernel
theorem dX2_read_42 : decode cX2_read 42 = .ok (.ifCond .eq 49, 3) := by decide +kernel
theorem dX2_read_45 : decode cX2_read 45 = .ok (.aload_n 0, 1) := by decide +kernel
theorem dX2_read_46 : decode cX2_read 46 = .ok (.getfield 31, 3) := by decide +kernel
theorem dX2_read_49 : decode cX2_read 49 = .ok (.ifCond .le 20, 3) := by decide +kernel
theorem dX2_read_52 : decode cX2_read 52 = .ok (.aload_n 0, 1) := by decide +kernel
theorem dX2_read_53 : decode cX2_read 53 = .ok (.getfield 20, 3) := by decide +kernel
theorem dX2_read_56 : decode cX2_read 56 = .ok (.aload_n 3, 1) := by decide +kernel
theorem dX2_read_57 : decode cX2_read 57 = .ok (.aload_n 0, 1) := by decide +kernel
theorem dX2_read_58 : decode cX2_read 58 = .ok (.getfield 9, 3) := by decide +kernel
theorem dX2_read_61 : decode cX2_read 61 = .ok (.iconst 0, 1) := by decide +kernel
theorem dX2_read_62 : decode cX2_read 62 = .ok (.iaload, 1) := by decide +kernel
theorem dX2_read_63 : decode cX2_read 63 = .ok (.invokevirtual 82, 3) := by decide +kernel
theorem dX2_read_66 : decode cX2_read 66 = .ok (.invokevirtual 85, 3) := by decide +kernel
theorem dX2_read_69 : decode cX2_read 69 = .ok (.aload_n 1, 1) := by decide +kernel
theorem dX2_read_70 : decode cX2_read 70 = .ok (.invokevirtual 89, 3) := by decide +kernel
theorem dX2_read_73 : decode cX2_read 73 = .ok (.ifCond .ne 18, 3) := by decide +kernel
theorem dX2_read_76 : decode cX2_read 76 = .ok (.aload_n 1, 1) := by decide +kernel
theorem dX2_read_77 : decode cX2_read 77 = .ok (.invokevirtual 66, 3) := by decide +kernel
theorem dX2_read_80 : decode cX2_read 80 = .ok (.bipush 58, 2) := by decide +kernel
theorem dX2_read_82 : decode cX2_read 82 = .ok (.if_icmp .eq 9, 3) := by decide +kernel
theorem dX2_read_85 : decode cX2_read 85 = .ok (.aload_n 0, 1) := by decide +kernel
theorem dX2_read_86 : decode cX2_read 86 = .ok (.aload_n 1, 1) := by decide +kernel
theorem dX2_read_87 : decode cX2_read 87 = .ok (.aload_n 3, 1) := by decide +kernel
theorem dX2_read_88 : decode cX2_read 88 = .ok (.invokevirtual 93, 3) := by decide +kernel
theorem dX2_read_91 : decode cX2_read 91 = .ok (.aload_n 1, 1) := by decide +kernel
theorem dX2_read_92 : decode cX2_read 92 = .ok (.getfield 75, 3) := by decide +kernel
theorem dX2_read_95 : decode cX2_read 95 = .ok (.ifCond .ne 24, 3) := by decide +kernel
theorem dX2_read_98 : decode cX2_read 98 = .ok (.aload_n 1, 1) := by decide +kernel
theorem dX2_read_99 : decode cX2_read 99 = .ok (.invokevirtual 89, 3) := by decide +kernel
theorem dX2_read_102 : decode cX2_read 102 = .ok (.ifCond .ne 17, 3) := by decide +kernel
theorem dX2_read_105 : decode cX2_read 105 = .ok (.aload_n 1, 1) := by decide +kernel
theorem dX2_read_106 : decode cX2_read 106 = .ok (.bipush 58, 2) := by decide +kernel
theorem dX2_read_108 : decode cX2_read 108 = .ok (.invokevirtual 78, 3) := by decide +kernel
theorem dX2_read_111 : decode cX2_read 111 = .ok (.ifCond .eq 8, 3) := by decide +kernel
theorem dX2_read_114 : decode cX2_read 114 = .ok (.aload_n 0, 1) := by decide +kernel
theorem dX2_read_115 : decode cX2_read 115 = .ok (.aload_n 1, 1) := by decide +kernel
theorem dX2_read_116 : decode cX2_read 116 = .ok (.invokevirtual 97, 3) := by decide +kernel
theorem dX2_read_119 : decode cX2_read 119 = .ok (.aload_n 1, 1) := by decide +kernel
theorem dX2_read_120 : decode cX2_read 120 = .ok (.getfield 75, 3) := by decide +kernel
theorem dX2_read_123 : decode cX2_read 123 = .ok (.ireturn, 1) := by decide +kernel
theorem pDigGo_ok : ∀ (k : Nat) (v : Int) (s : List Int) (p : Int), 0 ≤ v → (pDigGo k v s p).1 = 0 ∧ 0 ≤ (pDigGo k v s p).2.1 ∨ (pDigGo k v s p).1 = -2000 - (pDigGo k v s p).2.2.1
  | k, v, [], p, h => by
    cases k <;> exact Or.inl ⟨rfl, h⟩
  | 0, v, c :: s, p, h => by
    unfold pDigGo
    split
    · exact Or.inr rfl
    · exact Or.inl ⟨rfl, h⟩
  | k + 1, v, c :: s, p, h => by
    unfold pDigGo
    split
    · exact pDigGo_ok k (v * 10 + c - 48) s (p + 1) (by omega)
    · exact Or.inl ⟨rfl, h⟩
theorem pDigits_ok {k : Nat} {v : Int} {s : List Int} {p : Int} (hv : 0 ≤ v) (hp : 0 ≤ p) (h : (pDigits k v s p).1 = 0) (hq : 0 ≤ (pDigits k v s p).2.2.1) : 0 ≤ (pDigits k v s p).2.1 := by
  unfold pDigits at h hq ⊢
  split at h
  · rename_i hd4
    rw [if_pos hd4] at hq ⊢
    rcases pDigGo_ok k v s p hv with z | z
    · exact z.2
    · omega
  · have : -1000 - p = 0 := h
    omega
theorem pDigGo_pl : ∀ (k : Nat) (v : Int) (s : List Int) (p : Int), p ≤ (pDigGo k v s p).2.2.1
  | k, v, [], p => by cases k <;> exact Int.le_refl p
  | 0, v, c :: s, p => by unfold pDigGo; split <;> exact Int.le_refl p
  | k + 1, v, c :: s, p => by
    unfold pDigGo
    split
    · have := pDigGo_pl k (v * 10 + c - 48) s (p + 1); omega
    · exact Int.le_refl p
theorem pDigits_pl (k : Nat) (v : Int) (s : List Int) (p : Int) : p ≤ (pDigits k v s p).2.2.1 := by
  unfold pDigits
  split
  · exact pDigGo_pl k v s p
  · exact Int.le_refl p
/-- PARENTS that were read without a fault are there -/
theorem pParGo_ok (n : Int) : ∀ (k : Nat) (s : List Int) (p : Int) (d : kC), 0 ≤ p → (∀ q ∈ kPs d, 0 ≤ q ∧ q < n) → (pParGo n k s p d).1 = 0 → ∀ q ∈ kPs (pParGo n k s p d).2.2.2, 0 ≤ q ∧ q < n
  | 0, s, p, d, hp, hd9, h => by
    unfold pParGo at h ⊢
    split at h
    · have : -4000 - p = 0 := h; omega
    · have : -1000 - p = 0 := h; omega
  | k + 1, s, p, d, hp, hd9, h => by
    have hpl := pDigits_pl 3 0 s p
    unfold pParGo at h ⊢
    by_cases h1 : (pDigits 3 0 s p).1 = 0
    · rw [if_neg (fun e => e h1)] at h ⊢
      by_cases h2 : n ≤ (pDigits 3 0 s p).2.1
      · rw [if_pos h2] at h
        have : -9000 - p = 0 := h
        omega
      · rw [if_neg h2] at h ⊢
        by_cases h3 : (pDigits 3 0 s p).2.1 ∈ kPs d
        · rw [if_pos h3] at h
          have : -6000 - p = 0 := h
          omega
        · rw [if_neg h3] at h ⊢
          have hnew : ∀ q ∈ kPs (dAddP d (pDigits 3 0 s p).2.1), 0 ≤ q ∧ q < n := by
            intro q hq
            unfold dAddP at hq
            split at hq
            · rcases List.mem_append.mp hq with z | z
              · exact hd9 q z
              · rw [List.mem_singleton.mp z]
                exact ⟨pDigits_ok (by decide) hp h1 (by omega), by omega⟩
            · exact hd9 q hq
          by_cases h4 : hd (pDigits 3 0 s p).2.2.2 = 44
          · rw [if_pos h4] at h ⊢
            exact pParGo_ok n k _ _ _ (by omega) hnew h
          · rw [if_neg h4] at h ⊢
            exact hnew
    · rw [if_pos h1] at h
      exact absurd h h1
theorem pParGo_fs (n : Int) : ∀ (k : Nat) (s : List Int) (p : Int) (d : kC), kFs (pParGo n k s p d).2.2.2 = kFs d ∧ kMs (pParGo n k s p d).2.2.2 = kMs d
  | 0, s, p, d => by unfold pParGo; split <;> exact ⟨rfl, rfl⟩
  | k + 1, s, p, d => by
    have ha : ∀ v : Int, kFs (dAddP d v) = kFs d ∧ kMs (dAddP d v) = kMs d := fun v => by unfold dAddP; split <;> exact ⟨rfl, rfl⟩
    unfold pParGo
    split
    · exact ⟨rfl, rfl⟩
    · split
      · exact ha _
      · split
        · exact ha _
        · split
          · obtain ⟨a, b⟩ := pParGo_fs n k (pDigits 3 0 s p).2.2.2.tail ((pDigits 3 0 s p).2.2.1 + 1) (dAddP d (pDigits 3 0 s p).2.1)
            exact ⟨a.trans (ha _).1, b.trans (ha _).2⟩
          · exact ha _
def kSrt (cs : List kC) : Prop := ∀ c ∈ cs, dInv (kFs c)
def pT0 : kC := ([], [], [], 0, 0)
def pT1 (cs : List kC) (s : List Int) : pE := if hd s = 58 then (0, 0, s, pT0) else pParGo (cs.length : Int) 3 s 0 pT0
/-- the TREE that EDITS begin with -/
def pT2 (cs : List kC) (y : pE) : pE :=
  if y.1 = 0 then
    if hd y.2.2.1 = 58 then
      if y.2.2.1.tail ≠ [] ∧ hd y.2.2.1.tail ≠ 58 then pEdits cs 160 y.2.2.1.tail (y.2.1 + 1) (dFs y.2.2.2 (kFF cs y.2.2.2))
      else (0, y.2.1 + 1, y.2.2.1.tail, dFs y.2.2.2 (kFF cs y.2.2.2))
    else (-1000 - y.2.1, y.2.1, y.2.2.1, y.2.2.2)
  else y
def pT3 (y : pE) : pE :=
  if y.1 = 0 ∧ y.2.2.1 ≠ [] then
    if hd y.2.2.1 = 58 then pMsgGo 12 y.2.2.1.tail (y.2.1 + 1) y.2.2.2
    else (-1000 - y.2.1, y.2.1, y.2.2.1, y.2.2.2)
  else y
def pText (cs : List kC) (s : List Int) : pE := pT3 (pT2 cs (pT1 cs s))
theorem kFF_inv {cs : List kC} (hS : kSrt cs) (d : kC) : dInv (kFF cs d) := by
  unfold kFF
  split
  · exact ⟨Nat.zero_le _, List.Pairwise.nil⟩
  · split
    · rename_i h
      exact hS _ (List.mem_of_getElem? h)
    · exact ⟨Nat.zero_le _, List.Pairwise.nil⟩
theorem rdP_chain {sh : gS} {M M1 M2 : gM} {a f p f2 p2 : Int} {s s2 : List Int} {d d2 : kC} (h : rdP sh M a f p s d M1) (h2 : rdP sh M1 a f2 p2 s2 d2 M2) : rdP sh M a f2 p2 s2 d2 M2 :=
  ⟨h2.1, h2.2.1, h2.2.2.1, h2.2.2.2.1, fun b b1 b2 => by rw [h2.2.2.2.2 b b1 b2, h.2.2.2.2 b b1 b2]⟩
theorem gOK_tBeg {sh : gS} {M : gM} {n : Int} (h : gOK sh M) : gOK sh (tBeg M n) := gOK_o (f := 4) (gOK_o (f := 3) (gOK_o (f := 2) h (sh_1 h) rfl rfl) (sh_1 h) rfl rfl) (sh_1 h) rfl rfl
theorem sp_X2_read {sh : gS} {M : gM} {a : Int} {s : List Int} {n : Nat} {cs : List kC} (hOK : gOK sh M) (hC : cOk sh M cs) (hS : kSrt cs) (hB : tBy M s) (hL : M 1 1 = (s.length : Int)) (hn : n ≤ s.length) (hD : dSh sh a) :
    gC (gr 5 163) yX2_read cX2_read 4 (some (.int)) [(4, a), (4, 1), (0, (n : Int)), (4, 4)] sh M (gPm sh (fun r M1 => r = some (0, (pText cs (s.take n)).1) ∧ dOk sh M1 a (pText cs (s.take n)).2.2.2 ∧ gOK sh M1 ∧ ∀ b : Int, b ≠ 1 → (b < a ∨ a + 8 < b) → M1 b = M b)) := by
  obtain ⟨s1, s2, s3, s4, s5, s6, s7⟩ := id hD
  obtain ⟨s8, s9, s10, s11⟩ := id s3
  generalize hx : pText cs (s.take n) = x
  have hcl := hC.2.1
  generalize hQ : gPm sh (fun (r : Option gV) M1 => r = some (0, x.1) ∧ dOk sh M1 a x.2.2.2 ∧ gOK sh M1 ∧ ∀ b : Int, b ≠ 1 → (b < a ∨ a + 8 < b) → M1 b = M b) = Q
  have hy0 : ∀ z : Int, ff 0 z = z := fun z => by unfold ff; simp
  have h119 : ∀ (y : pE) (M1 : gM), rdP sh M a y.1 y.2.1 y.2.2.1 y.2.2.2 M1 → x = y →
      gA (gr 5 163) yX2_read cX2_read 4 (some (.int)) Q (0, 0) 119 [(4, a), (4, 1), (0, (n : Int)), (4, 4)] [] sh M1 := by
    intro y M1 hP hv
    obtain ⟨hT1, hf1, hD1, hO1, hF1⟩ := id hP
    refine g_aload_n (q0 := 120) (j := 1) rfl dX2_read_119 rfl ?_
    refine g_getf (q0 := 123) (t := 0) (fi := 4) rfl rfl ff_X2_75 dX2_read_120 rfl (sh_1 hO1) ?_
    refine g_ireturn dX2_read_123 rfl ⟨Nat.zero_le _, Nat.zero_le _⟩ ?_
    subst hQ
    rw [hv]
    exact ⟨rfl, by rw [hf1], hD1, hO1, hF1⟩
  have h91 : ∀ (y : pE) (M1 : gM), rdP sh M a y.1 y.2.1 y.2.2.1 y.2.2.2 M1 → x = pT3 y →
      gA (gr 5 163) yX2_read cX2_read 4 (some (.int)) Q (0, 0) 91 [(4, a), (4, 1), (0, (n : Int)), (4, 4)] [] sh M1 := by
    intro y M1 hP hv
    obtain ⟨hT1, hf1, hD1, hO1, hF1⟩ := id hP
    rw [pT3] at hv
    refine g_aload_n (q0 := 92) (j := 1) rfl dX2_read_91 rfl ?_
    refine g_getf (q0 := 95) (t := 0) (fi := 4) rfl rfl ff_X2_75 dX2_read_92 rfl (sh_1 hO1) ?_
    refine g_if_ne (q0 := 98) (tgt := 119) rfl dX2_read_95 (by decide) (fun h95 => ?_) (fun h95 => ?_)
    · rw [hf1] at h95
      rw [if_neg (fun e => h95 e.1)] at hv
      exact h119 y M1 hP hv
    · rw [hf1] at h95
      refine g_aload_n (q0 := 99) (j := 1) rfl dX2_read_98 rfl ?_
      refine g_callVp (as := []) (rest := []) mt_X9_isAtEnd mi_X9_isAtEnd se_X9_isAtEnd ml_X2_89 dX2_read_99 (q0 := 102) rfl rfl (sh_1 hO1) rfl rfl (sp_X9_isAtEnd hO1 hT1) rfl ⟨by decide, by decide⟩ (Nat.le_of_ble_eq_true rfl) ⟨Nat.zero_le _, Nat.zero_le _⟩ (fun hwc => ?_)
      by_cases hE : y.2.2.1 = []
      · rw [if_pos hE]
        rw [if_neg (fun e => e.2 hE)] at hv
        refine g_if_ne (q0 := 105) (tgt := 119) rfl dX2_read_102 (by decide) (fun h102 => ?_) (fun h102 => ?_)
        · exact h119 y M1 hP hv
        · omega
      · rw [if_neg hE]
        rw [if_pos ⟨h95, hE⟩] at hv
        rw [h95] at hP hf1
        refine g_if_ne (q0 := 105) (tgt := 119) rfl dX2_read_102 (by decide) (fun h102 => ?_) (fun h102 => ?_)
        · omega
        · refine g_aload_n (q0 := 106) (j := 1) rfl dX2_read_105 rfl ?_
          refine g_bipush (q0 := 108) rfl dX2_read_106 (k := ?_)
          refine g_callVm (as := [_]) (rest := []) mt_X9_expect mi_X9_expect se_X9_expect ml_X2_78 dX2_read_108 (q0 := 111) rfl rfl (sh_1 hO1) rfl rfl (sp_X9_expect hO1 hT1 (by decide)) rfl ⟨by decide, by decide⟩ (Nat.le_of_ble_eq_true rfl) ⟨Nat.zero_le _, Nat.zero_le _⟩ (fun r2 M2 hP2 hw2 hMw2 => ?_)
          obtain ⟨rfl, hM2, hT2⟩ := hP2
          rw [hf1, hy0] at hM2
          by_cases he : hd y.2.2.1 = 58
          · rw [if_pos he] at hM2 hT2 hv ⊢
            rw [hM2] at hT2
            have hP3 := rdP_t hP hT2
            rw [← hM2] at hP3
            obtain ⟨hT3, hf3, hD3, hO2, hF3⟩ := id hP3
            refine g_if_eq (q0 := 114) (tgt := 119) rfl dX2_read_111 (by decide) (fun h111 => ?_) (fun h111 => ?_)
            · exact absurd h111 (by simp)
            · refine g_aload_n (q0 := 115) (j := 0) rfl dX2_read_114 rfl ?_
              refine g_aload_n (q0 := 116) (j := 1) rfl dX2_read_115 rfl ?_
              refine g_callVm (as := [_]) (rest := []) mt_X2_readMessage mi_X2_readMessage se_X2_readMessage ml_X2_97 dX2_read_116 (q0 := 119) rfl rfl (by assumption) rfl rfl (sp_X2_readMessage hO2 hT3 hf3 hD3) rfl ⟨by decide, by decide⟩ (Nat.le_of_ble_eq_true rfl) ⟨Nat.zero_le _, Nat.zero_le _⟩ (fun r4 M4 hP4 hw4 hMw4 => ?_)
              obtain ⟨rfl, hP4⟩ := hP4
              exact h119 _ M4 (rdP_chain hP3 hP4) hv
          · rw [if_neg he] at hM2 hT2 hv ⊢
            rw [hM2] at hT2
            have hP3 := rdP_t hP hT2
            rw [← hM2] at hP3
            obtain ⟨hT3, hf3, hD3, hO2, hF3⟩ := id hP3
            refine g_if_eq (q0 := 114) (tgt := 119) rfl dX2_read_111 (by decide) (fun h111 => ?_) (fun h111 => ?_)
            · exact h119 (-1000 - y.2.1, y.2.1, y.2.2.1, y.2.2.2) M2 hP3 hv
            · exact absurd rfl h111
  have h69 : ∀ (s1 : List Int) (p1 : Int) (d1 : kC) (M1 : gM), rdP sh M a 0 p1 s1 d1 M1 → (∀ q ∈ kPs d1, 0 ≤ q ∧ q < (cs.length : Int)) → dInv (kFs d1) → x = pT3 (if s1 ≠ [] ∧ hd s1 ≠ 58 then pEdits cs 160 s1 p1 d1 else (0, p1, s1, d1)) →
      gA (gr 5 163) yX2_read cX2_read 4 (some (.int)) Q (0, 0) 69 [(4, a), (4, 1), (0, (n : Int)), (4, 4)] [] sh M1 := by
    intro s1 p1 d1 M1 hP hps hdi hv
    obtain ⟨hT1, hf1, hD1, hO1, hF1⟩ := id hP
    have hC1 : cOk sh M1 cs := cOk_fr hC (fun b b0 b1 => hF1 b (by omega) (by omega))
    refine g_aload_n (q0 := 70) (j := 1) rfl dX2_read_69 rfl ?_
    refine g_callVp (as := []) (rest := []) mt_X9_isAtEnd mi_X9_isAtEnd se_X9_isAtEnd ml_X2_89 dX2_read_70 (q0 := 73) rfl rfl (sh_1 hO1) rfl rfl (sp_X9_isAtEnd hO1 hT1) rfl ⟨by decide, by decide⟩ (Nat.le_of_ble_eq_true rfl) ⟨Nat.zero_le _, Nat.zero_le _⟩ (fun hwc => ?_)
    by_cases hE : s1 = []
    · rw [if_pos hE]
      rw [if_neg (fun e => e.1 hE)] at hv
      refine g_if_ne (q0 := 76) (tgt := 91) rfl dX2_read_73 (by decide) (fun h73 => ?_) (fun h73 => ?_)
      · exact h91 (0, p1, s1, d1) M1 hP hv
      · omega
    · rw [if_neg hE]
      refine g_if_ne (q0 := 76) (tgt := 91) rfl dX2_read_73 (by decide) (fun h73 => ?_) (fun h73 => ?_)
      · omega
      · refine g_aload_n (q0 := 77) (j := 1) rfl dX2_read_76 rfl ?_
        refine g_callVp (as := []) (rest := []) mt_X9_next mi_X9_next se_X9_next ml_X2_66 dX2_read_77 (q0 := 80) rfl rfl (sh_1 hO1) rfl rfl (sp_X9_next hO1 hT1) rfl ⟨by decide, by decide⟩ (Nat.le_of_ble_eq_true rfl) ⟨Nat.zero_le _, Nat.zero_le _⟩ (fun hwc => ?_)
        refine g_bipush (q0 := 82) rfl dX2_read_80 (k := ?_)
        refine g_icmp_eq (q0 := 85) (tgt := 91) rfl dX2_read_82 (by decide) (fun h82 => ?_) (fun h82 => ?_)
        · rw [if_neg (fun e => e.2 h82)] at hv
          exact h91 (0, p1, s1, d1) M1 hP hv
        · rw [if_pos ⟨hE, h82⟩] at hv
          refine g_aload_n (q0 := 86) (j := 0) rfl dX2_read_85 rfl ?_
          refine g_aload_n (q0 := 87) (j := 1) rfl dX2_read_86 rfl ?_
          refine g_aload_n (q0 := 88) (j := 3) rfl dX2_read_87 rfl ?_
          refine g_callVm (as := [_, _]) (rest := []) mt_X2_readEdits mi_X2_readEdits se_X2_readEdits ml_X2_93 dX2_read_88 (q0 := 91) rfl rfl (by assumption) rfl rfl (sp_X2_readEdits hO1 hC1 hT1 hf1 hD1 hps hdi) rfl ⟨by decide, by decide⟩ (Nat.le_of_ble_eq_true rfl) ⟨Nat.zero_le _, Nat.zero_le _⟩ (fun r4 M4 hP4 hw4 hMw4 => ?_)
          obtain ⟨rfl, hP4⟩ := hP4
          exact h91 _ M4 (rdP_chain hP hP4) hv
  have h29 : ∀ (y : pE) (M1 : gM), rdP sh M a y.1 y.2.1 y.2.2.1 y.2.2.2 M1 → (y.1 = 0 → ∀ q ∈ kPs y.2.2.2, 0 ≤ q ∧ q < (cs.length : Int)) → kFs y.2.2.2 = [] → x = pT3 (pT2 cs y) →
      gA (gr 5 163) yX2_read cX2_read 4 (some (.int)) Q (0, 0) 29 [(4, a), (4, 1), (0, (n : Int)), (4, 4)] [] sh M1 := by
    intro y M1 hP hps hfs hv
    obtain ⟨hT1, hf1, hD1, hO1, hF1⟩ := id hP
    rw [pT2] at hv
    refine g_aload_n (q0 := 30) (j := 1) rfl dX2_read_29 rfl ?_
    refine g_getf (q0 := 33) (t := 0) (fi := 4) rfl rfl ff_X2_75 dX2_read_30 rfl (sh_1 hO1) ?_
    refine g_if_ne (q0 := 36) (tgt := 91) rfl dX2_read_33 (by decide) (fun h33 => ?_) (fun h33 => ?_)
    · rw [hf1] at h33
      rw [if_neg h33] at hv
      exact h91 y M1 hP hv
    · rw [hf1] at h33
      rw [if_pos h33] at hv
      have hps := hps h33
      rw [h33] at hP hf1
      refine g_aload_n (q0 := 37) (j := 1) rfl dX2_read_36 rfl ?_
      refine g_bipush (q0 := 39) rfl dX2_read_37 (k := ?_)
      refine g_callVm (as := [_]) (rest := []) mt_X9_expect mi_X9_expect se_X9_expect ml_X2_78 dX2_read_39 (q0 := 42) rfl rfl (sh_1 hO1) rfl rfl (sp_X9_expect hO1 hT1 (by decide)) rfl ⟨by decide, by decide⟩ (Nat.le_of_ble_eq_true rfl) ⟨Nat.zero_le _, Nat.zero_le _⟩ (fun r2 M2 hP2 hw2 hMw2 => ?_)
      obtain ⟨rfl, hM2, hT2⟩ := hP2
      rw [hf1, hy0] at hM2
      by_cases he : hd y.2.2.1 = 58
      · rw [if_pos he] at hM2 hT2 hv ⊢
        rw [hM2] at hT2
        have hP3 := rdP_t hP hT2
        rw [← hM2] at hP3
        obtain ⟨hT3, hf3, hD3, hO2, hF3⟩ := id hP3
        have hC3 : cOk sh M2 cs := cOk_fr hC (fun b b0 b1 => hF3 b (by omega) (by omega))
        have hpc := hD3.2.1
        have hrw := hD3.2.2.2.1
        refine g_if_eq (q0 := 45) (tgt := 91) rfl dX2_read_42 (by decide) (fun h42 => ?_) (fun h42 => ?_)
        · exact absurd h42 (by simp)
        · refine g_aload_n (q0 := 46) (j := 0) rfl dX2_read_45 rfl ?_
          refine g_getf (q0 := 49) (t := 0) (fi := 1) rfl rfl ff_X2_31 dX2_read_46 rfl (by assumption) ?_
          refine g_if_le (q0 := 52) (tgt := 69) rfl dX2_read_49 (by decide) (fun h49 => ?_) (fun h49 => ?_)
          · have hnil : kPs y.2.2.2 = [] := List.length_eq_zero_iff.mp (by omega)
            have hff : dFs y.2.2.2 (kFF cs y.2.2.2) = y.2.2.2 := by
              rw [show kFF cs y.2.2.2 = kFs y.2.2.2 from by rw [hfs]; unfold kFF; rw [hnil]]
              rfl
            rw [hff] at hv
            exact h69 _ _ _ M2 hP3 hps (by rw [hfs]; exact ⟨Nat.zero_le _, List.Pairwise.nil⟩) hv
          · cases hk : kPs y.2.2.2 with
            | nil => rw [hk] at hpc; simp at hpc; omega
            | cons pp rr =>
              rw [hk] at hrw
              have hpv := (rw_cons hrw).1
              have hpr := hps pp (by rw [hk]; simp)
              obtain ⟨j, rfl⟩ : ∃ j : Nat, pp = (j : Int) := ⟨pp.toNat, by omega⟩
              have hcj : cs[j]? = some cs[j] := List.getElem?_eq_getElem (by omega)
              have hkff : kFF cs y.2.2.2 = kFs cs[j] := by
                unfold kFF
                rw [hk]
                simp only [Int.toNat_natCast, hcj]
              rw [hkff] at hv
              have hcr := cT_rng hC3 hcj
              have hw16 := ((hC3.2.2.2 j _ hcj).2.1).2.2.2.2.2.2
              have hcl3 := cOk_len hC3 hcj
              have hct := hcr.2.2
              have hcb : 20 ≤ cT M2 (j : Int) ∧ cT M2 (j : Int) + 2 < a := by unfold cT; omega
              refine g_aload_n (q0 := 53) (j := 0) rfl dX2_read_52 rfl ?_
              refine g_getp (q0 := 56) (b := a + 2) rfl ff_X2_20 dX2_read_53 rfl hO2 (by omega) (by assumption) rfl rfl ?_
              refine g_aload_n (q0 := 57) (j := 3) rfl dX2_read_56 rfl ?_
              refine g_aload_n (q0 := 58) (j := 0) rfl dX2_read_57 rfl ?_
              refine g_getp (q0 := 61) (b := a + 1) rfl ff_X2_9 dX2_read_58 rfl hO2 (by omega) (by assumption) rfl rfl ?_
              refine g_iconst (q0 := 62) rfl dX2_read_61 (k := ?_)
              refine g_iald (q0 := 63) rfl dX2_read_62 (by assumption) (by omega) (by omega) ?_
              rw [hpv]
              refine g_callVp (as := [_]) (rest := [_]) mt_X1_tree mi_X1_tree se_X1_tree ml_X2_82 dX2_read_63 (q0 := 66) rfl rfl (sh_4 hO1) rfl rfl (sp_X1_tree hO2 hC3 hcj) rfl ⟨by decide, by decide⟩ (Nat.le_of_ble_eq_true rfl) ⟨Nat.zero_le _, Nat.zero_le _⟩ (fun hwc => ?_)
              refine g_callVm (as := [_]) (rest := []) mt_X10_copy mi_X10_copy se_X10_copy ml_X2_85 dX2_read_66 (q0 := 69) rfl rfl (by assumption) rfl rfl (sp_X10_copy (fs := []) hO2 s3 (by decide) hct (by omega) (by omega)) rfl ⟨by decide, by decide⟩ (Nat.le_of_ble_eq_true rfl) ⟨Nat.zero_le _, Nat.zero_le _⟩ (fun r4 M4 hP4 hw4 hMw4 => ?_)
              obtain ⟨rfl, t1, hO4, t2⟩ := hP4
              have hP5 := rdP_d hP3 ⟨dOk_tree hD3 t1 (fun b b0 b1 b2 _ => t2 b b0 b1 b2), hO4, fun b hb => t2 b (by omega) (by omega) (by omega)⟩
              exact h69 _ _ _ M4 hP5 hps (hS cs[j] (List.mem_of_getElem? hcj)) hv
      · rw [if_neg he] at hM2 hT2 hv ⊢
        rw [hM2] at hT2
        have hP3 := rdP_t hP hT2
        rw [← hM2] at hP3
        obtain ⟨hT3, hf3, hD3, hO2, hF3⟩ := id hP3
        refine g_if_eq (q0 := 45) (tgt := 91) rfl dX2_read_42 (by decide) (fun h42 => ?_) (fun h42 => ?_)
        · exact h91 (-1000 - y.2.1, y.2.1, y.2.2.1, y.2.2.2) M2 hP3 hv
        · exact absurd rfl h42
  refine gC_ofA (lv := [_, _, _, _]) (by decide +kernel) (Nat.le_of_ble_eq_true rfl) rfl (fun hMw hav => ?_)
  refine g_aload_n (q0 := 1) (j := 0) rfl dX2_read_0 rfl ?_
  refine g_iconst (q0 := 2) rfl dX2_read_1 (k := ?_)
  refine g_iconst (q0 := 3) rfl dX2_read_2 (k := ?_)
  refine g_callVm (as := [_, _]) (rest := []) mt_X2_begin mi_X2_begin se_X2_begin ml_X2_58 dX2_read_3 (q0 := 6) rfl rfl (by assumption) rfl rfl (sp_X2_begin hOK hD) rfl ⟨by decide, by decide⟩ (Nat.le_of_ble_eq_true rfl) ⟨Nat.zero_le _, Nat.zero_le _⟩ (fun r1 M1 hP1 hw1 hMw1 => ?_)
  obtain ⟨rfl, hD1, hO1, hF1⟩ := hP1
  have hB1 : tBy M1 s := ⟨hB.1, fun j c hj => by rw [hF1 2 (by omega)]; exact hB.2 j c hj⟩
  have hL1 : M1 1 1 = (s.length : Int) := by rw [hF1 1 (by omega)]; exact hL
  refine g_aload_n (q0 := 7) (j := 1) rfl dX2_read_6 rfl ?_
  refine g_iload_n (q0 := 8) (j := 2) rfl dX2_read_7 rfl ?_
  refine g_callVm (as := [_]) (rest := []) mt_X9_begin mi_X9_begin se_X9_begin ml_X2_62 dX2_read_8 (q0 := 11) rfl rfl (sh_1 hOK) rfl rfl (sp_X9_begin hO1 hB1 hL1 hn) rfl ⟨by decide, by decide⟩ (Nat.le_of_ble_eq_true rfl) ⟨Nat.zero_le _, Nat.zero_le _⟩ (fun r2 M2 hP2 hw2 hMw2 => ?_)
  obtain ⟨rfl, hM2⟩ := hP2
  have hO2 : gOK sh M2 := by rw [hM2]; exact gOK_tBeg hO1
  have hP3 : rdP sh M a 0 0 (s.take n) pT0 M2 := by
    rw [hM2]
    have hb : ∀ b : Int, b ≠ 1 → tBeg M1 (n : Int) b = M1 b := fun b hb => by
      unfold tBeg
      rw [gU_cell _ _ _ hb, gU_cell _ _ _ hb, gU_cell _ _ _ hb]
    exact ⟨tBeg_in hB1 hn, by simp [tBeg, gU], dOk_keep hD1 (fun b b0 _ => hb b (by omega)), gOK_tBeg hO1, fun b b1 b2 => by rw [hb b b1, hF1 b b2]⟩
  obtain ⟨hT3, hf3, hD3, -, hF3⟩ := id hP3
  have hv : x = pT3 (pT2 cs (pT1 cs (s.take n))) := hx.symm
  refine g_aload_n (q0 := 12) (j := 1) rfl dX2_read_11 rfl ?_
  refine g_callVp (as := []) (rest := []) mt_X9_next mi_X9_next se_X9_next ml_X2_66 dX2_read_12 (q0 := 15) rfl rfl (sh_1 hOK) rfl rfl (sp_X9_next hO2 hT3) rfl ⟨by decide, by decide⟩ (Nat.le_of_ble_eq_true rfl) ⟨Nat.zero_le _, Nat.zero_le _⟩ (fun hwc => ?_)
  refine g_bipush (q0 := 17) rfl dX2_read_15 (k := ?_)
  refine g_icmp_eq (q0 := 20) (tgt := 29) rfl dX2_read_17 (by decide) (fun h17 => ?_) (fun h17 => ?_)
  · rw [pT1, if_pos h17] at hv
    exact h29 (0, 0, s.take n, pT0) M2 hP3 (fun _ q hq => by cases hq) rfl hv
  · rw [pT1, if_neg h17] at hv
    have e4 : M2 4 0 = (cs.length : Int) := by rw [hF3 4 (by decide) (by omega)]; exact hC.1
    refine g_aload_n (q0 := 21) (j := 0) rfl dX2_read_20 rfl ?_
    refine g_aload_n (q0 := 22) (j := 1) rfl dX2_read_21 rfl ?_
    refine g_aload_n (q0 := 23) (j := 3) rfl dX2_read_22 rfl ?_
    refine g_getf (q0 := 26) (t := 0) (fi := 0) rfl rfl ff_X2_70 dX2_read_23 rfl (sh_4 hOK) ?_
    rw [e4]
    refine g_callVm (as := [_, _]) (rest := []) mt_X2_readParents mi_X2_readParents se_X2_readParents ml_X2_71 dX2_read_26 (q0 := 29) rfl rfl (by assumption) rfl rfl (sp_X2_readParents hO2 hT3 hf3 hD3 rfl) rfl ⟨by decide, by decide⟩ (Nat.le_of_ble_eq_true rfl) ⟨Nat.zero_le _, Nat.zero_le _⟩ (fun r4 M4 hP4 hw4 hMw4 => ?_)
    obtain ⟨rfl, hP4⟩ := hP4
    exact h29 _ M4 (rdP_chain hP3 hP4) (fun h => pParGo_ok _ 3 _ 0 pT0 (by decide) (fun q hq => by cases hq) h) (pParGo_fs _ 3 _ 0 pT0).1 hv
