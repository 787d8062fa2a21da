-- ==== a COMMIT's text: MESSAGE and PARENTS
theorem dX2_readMessage_0 : decode cX2_readMessage 0 = .ok (.iconst 0, 1) := by decide +kernel
theorem dX2_readMessage_1 : decode cX2_readMessage 1 = .ok (.istore_n 2, 1) := by decide +kernel
theorem dX2_readMessage_2 : decode cX2_readMessage 2 = .ok (.iload_n 2, 1) := by decide +kernel
theorem dX2_readMessage_3 : decode cX2_readMessage 3 = .ok (.bipush 12, 2) := by decide +kernel
theorem dX2_readMessage_5 : decode cX2_readMessage 5 = .ok (.if_icmp .gt 83, 3) := by decide +kernel
theorem dX2_readMessage_8 : decode cX2_readMessage 8 = .ok (.aload_n 1, 1) := by decide +kernel
theorem dX2_readMessage_9 : decode cX2_readMessage 9 = .ok (.invokevirtual 89, 3) := by decide +kernel
theorem dX2_readMessage_12 : decode cX2_readMessage 12 = .ok (.ifCond .ne 76, 3) := by decide +kernel
theorem dX2_readMessage_15 : decode cX2_readMessage 15 = .ok (.iload_n 2, 1) := by decide +kernel
theorem dX2_readMessage_16 : decode cX2_readMessage 16 = .ok (.bipush 12, 2) := by decide +kernel
theorem dX2_readMessage_18 : decode cX2_readMessage 18 = .ok (.if_icmp .ne 13, 3) := by decide +kernel
theorem dX2_readMessage_21 : decode cX2_readMessage 21 = .ok (.aload_n 1, 1) := by decide +kernel
theorem dX2_readMessage_22 : decode cX2_readMessage 22 = .ok (.iconst 2, 1) := by decide +kernel
theorem dX2_readMessage_23 : decode cX2_readMessage 23 = .ok (.aload_n 1, 1) := by decide +kernel
theorem dX2_readMessage_24 : decode cX2_readMessage 24 = .ok (.getfield 101, 3) := by decide +kernel
theorem dX2_readMessage_27 : decode cX2_readMessage 27 = .ok (.invokevirtual 107, 3) := by decide +kernel
theorem dX2_readMessage_30 : decode cX2_readMessage 30 = .ok (.return_, 1) := by decide +kernel
theorem dX2_readMessage_31 : decode cX2_readMessage 31 = .ok (.aload_n 1, 1) := by decide +kernel
theorem dX2_readMessage_32 : decode cX2_readMessage 32 = .ok (.invokevirtual 104, 3) := by decide +kernel
theorem dX2_readMessage_35 : decode cX2_readMessage 35 = .ok (.ifCond .ne 29, 3) := by decide +kernel
theorem dX2_readMessage_38 : decode cX2_readMessage 38 = .ok (.aload_n 1, 1) := by decide +kernel
theorem dX2_readMessage_39 : decode cX2_readMessage 39 = .ok (.invokevirtual 170, 3) := by decide +kernel
theorem dX2_readMessage_42 : decode cX2_readMessage 42 = .ok (.ifCond .ne 22, 3) := by decide +kernel
theorem dX2_readMessage_45 : decode cX2_readMessage 45 = .ok (.aload_n 1, 1) := by decide +kernel
theorem dX2_readMessage_46 : decode cX2_readMessage 46 = .ok (.invokevirtual 66, 3) := by decide +kernel
theorem dX2_readMessage_49 : decode cX2_readMessage 49 = .ok (.bipush 35, 2) := by decide +kernel
theorem dX2_readMessage_51 : decode cX2_readMessage 51 = .ok (.if_icmp .eq 13, 3) := by decide +kernel
theorem dX2_readMessage_54 : decode cX2_readMessage 54 = .ok (.aload_n 1, 1) := by decide +kernel
theorem dX2_readMessage_55 : decode cX2_readMessage 55 = .ok (.iconst 1, 1) := by decide +kernel
theorem dX2_readMessage_56 : decode cX2_readMessage 56 = .ok (.aload_n 1, 1) := by decide +kernel
theorem dX2_readMessage_57 : decode cX2_readMessage 57 = .ok (.getfield 101, 3) := by decide +kernel
theorem dX2_readMessage_60 : decode cX2_readMessage 60 = .ok (.invokevirtual 107, 3) := by decide +kernel
theorem dX2_readMessage_63 : decode cX2_readMessage 63 = .ok (.return_, 1) := by decide +kernel
theorem dX2_readMessage_64 : decode cX2_readMessage 64 = .ok (.aload_n 0, 1) := by decide +kernel
theorem dX2_readMessage_65 : decode cX2_readMessage 65 = .ok (.aload_n 1, 1) := by decide +kernel
theorem dX2_readMessage_66 : decode cX2_readMessage 66 = .ok (.invokevirtual 66, 3) := by decide +kernel
theorem dX2_readMessage_69 : decode cX2_readMessage 69 = .ok (.invokevirtual 55, 3) := by decide +kernel
theorem dX2_readMessage_72 : decode cX2_readMessage 72 = .ok (.aload_n 1, 1) := by decide +kernel
theorem dX2_readMessage_73 : decode cX2_readMessage 73 = .ok (.dup, 1) := by decide +kernel
theorem dX2_readMessage_74 : decode cX2_readMessage 74 = .ok (.getfield 101, 3) := by decide +kernel
theorem dX2_readMessage_77 : decode cX2_readMessage 77 = .ok (.iconst 1, 1) := by decide +kernel
theorem dX2_readMessage_78 : decode cX2_readMessage 78 = .ok (.iadd, 1) := by decide +kernel
theorem dX2_readMessage_79 : decode cX2_readMessage 79 = .ok (.putfield 101, 3) := by decide +kernel
theorem dX2_readMessage_82 : decode cX2_readMessage 82 = .ok (.iinc 2 1, 3) := by decide +kernel
theorem dX2_readMessage_85 : decode cX2_readMessage 85 = .ok (.goto (-83), 3) := by decide +kernel
theorem dX2_readMessage_88 : decode cX2_readMessage 88 = .ok (.return_, 1) := by decide +kernel
theorem dX2_readParents_0 : decode cX2_readParents 0 = .ok (.iconst 0, 1) := by decide +kernel
theorem dX2_readParents_1 : decode cX2_readParents 1 = .ok (.istore_n 3, 1) := by decide +kernel
theorem dX2_readParents_2 : decode cX2_readParents 2 = .ok (.iload_n 3, 1) := by decide +kernel
theorem dX2_readParents_3 : decode cX2_readParents 3 = .ok (.iconst 3, 1) := by decide +kernel
theorem dX2_readParents_4 : decode cX2_readParents 4 = .ok (.if_icmp .gt 120, 3) := by decide +kernel
theorem dX2_readParents_7 : decode cX2_readParents 7 = .ok (.aload_n 1, 1) := by decide +kernel
theorem dX2_readParents_8 : decode cX2_readParents 8 = .ok (.getfield 101, 3) := by decide +kernel
theorem dX2_readParents_11 : decode cX2_readParents 11 = .ok (.istore 4, 2) := by decide +kernel
theorem dX2_readParents_13 : decode cX2_readParents 13 = .ok (.aload_n 0, 1) := by decide +kernel
theorem dX2_readParents_14 : decode cX2_readParents 14 = .ok (.getfield 31, 3) := by decide +kernel
theorem dX2_readParents_17 : decode cX2_readParents 17 = .ok (.iconst 3, 1) := by decide +kernel
theorem dX2_readParents_18 : decode cX2_readParents 18 = .ok (.if_icmp .ne 17, 3) := by decide +kernel
theorem dX2_readParents_21 : decode cX2_readParents 21 = .ok (.aload_n 1, 1) := by decide +kernel
theorem dX2_readParents_22 : decode cX2_readParents 22 = .ok (.invokevirtual 104, 3) := by decide +kernel
theorem dX2_readParents_25 : decode cX2_readParents 25 = .ok (.ifCond .eq 10, 3) := by decide +kernel
theorem dX2_readParents_28 : decode cX2_readParents 28 = .ok (.aload_n 1, 1) := by decide +kernel
theorem dX2_readParents_29 : decode cX2_readParents 29 = .ok (.iconst 4, 1) := by decide +kernel
theorem dX2_readParents_30 : decode cX2_readParents 30 = .ok (.iload 4, 2) := by decide +kernel
theorem dX2_readParents_32 : decode cX2_readParents 32 = .ok (.invokevirtual 107, 3) := by decide +kernel
theorem dX2_readParents_35 : decode cX2_readParents 35 = .ok (.aload_n 1, 1) := by decide +kernel
theorem dX2_readParents_36 : decode cX2_readParents 36 = .ok (.iconst 3, 1) := by decide +kernel
theorem dX2_readParents_37 : decode cX2_readParents 37 = .ok (.iconst 0, 1) := by decide +kernel
theorem dX2_readParents_38 : decode cX2_readParents 38 = .ok (.invokevirtual 110, 3) := by decide +kernel
theorem dX2_readParents_41 : decode cX2_readParents 41 = .ok (.istore 5, 2) := by decide +kernel
theorem dX2_readParents_43 : decode cX2_readParents 43 = .ok (.aload_n 1, 1) := by decide +kernel
theorem dX2_readParents_44 : decode cX2_readParents 44 = .ok (.getfield 75, 3) := by decide +kernel
theorem dX2_readParents_47 : decode cX2_readParents 47 = .ok (.ifCond .eq 4, 3) := by decide +kernel
theorem dX2_readParents_50 : decode cX2_readParents 50 = .ok (.return_, 1) := by decide +kernel
theorem dX2_readParents_51 : decode cX2_readParents 51 = .ok (.iload 5, 2) := by decide +kernel
theorem dX2_readParents_53 : decode cX2_readParents 53 = .ok (.iload_n 2, 1) := by decide +kernel
theorem dX2_readParents_54 : decode cX2_readParents 54 = .ok (.if_icmp .lt 14, 3) := by decide +kernel
theorem dX2_readParents_57 : decode cX2_readParents 57 = .ok (.aload_n 1, 1) := by decide +kernel
theorem dX2_readParents_58 : decode cX2_readParents 58 = .ok (.bipush 9, 2) := by decide +kernel
theorem dX2_readParents_60 : decode cX2_readParents 60 = .ok (.iload 4, 2) := by decide +kernel
theorem dX2_readParents_62 : decode cX2_readParents 62 = .ok (.invokevirtual 107, 3) := by decide +kernel
theorem dX2_readParents_65 : decode cX2_readParents 65 = .ok (.goto 20, 3) := by decide +kernel
theorem dX2_readParents_68 : decode cX2_readParents 68 = .ok (.aload_n 0, 1) := by decide +kernel
theorem dX2_readParents_69 : decode cX2_readParents 69 = .ok (.iload 5, 2) := by decide +kernel
theorem dX2_readParents_71 : decode cX2_readParents 71 = .ok (.invokevirtual 113, 3) := by decide +kernel
theorem dX2_readParents_74 : decode cX2_readParents 74 = .ok (.ifCond .eq 11, 3) := by decide +kernel
theorem dX2_readParents_77 : decode cX2_readParents 77 = .ok (.aload_n 1, 1) := by decide +kernel
theorem dX2_readParents_78 : decode cX2_readParents 78 = .ok (.bipush 6, 2) := by decide +kernel
theorem dX2_readParents_80 : decode cX2_readParents 80 = .ok (.iload 4, 2) := by decide +kernel
theorem dX2_readParents_82 : decode cX2_readParents 82 = .ok (.invokevirtual 107, 3) := by decide +kernel
theorem dX2_readParents_85 : decode cX2_readParents 85 = .ok (.aload_n 0, 1) := by decide +kernel
theorem dX2_readParents_86 : decode cX2_readParents 86 = .ok (.iload 5, 2) := by decide +kernel
theorem dX2_readParents_88 : decode cX2_readParents 88 = .ok (.invokevirtual 116, 3) := by decide +kernel
theorem dX2_readParents_91 : decode cX2_readParents 91 = .ok (.aload_n 1, 1) := by decide +kernel
theorem dX2_readParents_92 : decode cX2_readParents 92 = .ok (.getfield 75, 3) := by decide +kernel
theorem dX2_readParents_95 : decode cX2_readParents 95 = .ok (.ifCond .ne 12, 3) := by decide +kernel
theorem dX2_readParents_98 : decode cX2_readParents 98 = .ok (.aload_n 1, 1) := by decide +kernel
theorem dX2_readParents_99 : decode cX2_readParents 99 = .ok (.invokevirtual 66, 3) := by decide +kernel
theorem dX2_readParents_102 : decode cX2_readParents 102 = .ok (.bipush 44, 2) := by decide +kernel
theorem dX2_readParents_104 : decode cX2_readParents 104 = .ok (.if_icmp .eq 4, 3) := by decide +kernel
theorem dX2_readParents_107 : decode cX2_readParents 107 = .ok (.return_, 1) := by decide +kernel
theorem dX2_readParents_108 : decode cX2_readParents 108 = .ok (.aload_n 1, 1) := by decide +kernel
theorem dX2_readParents_109 : decode cX2_readParents 109 = .ok (.dup, 1) := by decide +kernel
theorem dX2_readParents_110 : decode cX2_readParents 110 = .ok (.getfield 101, 3) := by decide +kernel
theorem dX2_readParents_113 : decode cX2_readParents 113 = .ok (.iconst 1, 1) := by decide +kernel
theorem dX2_readParents_114 : decode cX2_readParents 114 = .ok (.iadd, 1) := by decide +kernel
theorem dX2_readParents_115 : decode cX2_readParents 115 = .ok (.putfield 101, 3) := by decide +kernel
theorem dX2_readParents_118 : decode cX2_readParents 118 = .ok (.iinc 3 1, 3) := by decide +kernel
theorem dX2_readParents_121 : decode cX2_readParents 121 = .ok (.goto (-119), 3) := by decide +kernel
theorem dX2_readParents_124 : decode cX2_readParents 124 = .ok (.return_, 1) := by decide +kernel
/-- the tape's predicate and the draft's, through what the reader changes: fault so far, place, rest, draft -/
def rdP (sh : gS) (M : gM) (a : Int) (f p : Int) (s : List Int) (d : kC) (M1 : gM) : Prop :=
  tpIn M1 p s ∧ M1 1 4 = f ∧ dOk sh M1 a d ∧ gOK sh M1 ∧ ∀ b : Int, b ≠ 1 → (b < a ∨ a + 8 < b) → M1 b = M b
theorem tpIn_keep {M M1 : gM} {p : Int} {s : List Int} (h : tpIn M p s) (h1 : M1 1 = M 1) (h2 : M1 2 = M 2) : tpIn M1 p s := by
  obtain ⟨a, b, c, d, e⟩ := h
  refine ⟨by rw [h1]; exact a, b, by rw [h1]; exact c, d, fun j x hx => ?_⟩
  rw [h2]
  exact e j x hx
theorem dOk_keep {sh : gS} {M M1 : gM} {a : Int} {d : kC} (h : dOk sh M a d) (hf : ∀ b : Int, a ≤ b → b ≤ a + 8 → M1 b = M b) : dOk sh M1 a d := by
  obtain ⟨s0, d1, d2, d3, d4, d5, d6, d7, d8, d9⟩ := h
  have e0 := hf a (by omega) (by omega)
  refine ⟨s0, by rw [e0]; exact d1, d2, by rw [hf (a + 1) (by omega) (by omega)]; exact d3, tOk_congr d4 (hf _ (by omega) (by omega)) (hf _ (by omega) (by omega)) (hf _ (by omega) (by omega)), by rw [e0]; exact d5, d6, by rw [hf (a + 5) (by omega) (by omega)]; exact d7, by rw [e0]; exact d8, by rw [e0]; exact d9⟩
theorem rdP_t {sh : gS} {M M1 : gM} {a f p p2 g : Int} {s s2 : List Int} {d : kC} (h : rdP sh M a f p s d M1) (ht : tpIn (tM M1 p2 g) p2 s2) : rdP sh M a g p2 s2 d (tM M1 p2 g) := by
  obtain ⟨h1, h2, h3, h4, h5⟩ := h
  have ha : 379 < a := h3.1.2.2.2.2.2.1
  exact ⟨ht, tM_f _ _ _, dOk_keep h3 (fun b hb _ => tM_cell _ _ _ (by omega)), gOK_tM h4, fun b b1 b2 => by rw [tM_cell _ _ _ b1, h5 b b1 b2]⟩
theorem rdP_d {sh : gS} {M M1 M2 : gM} {a f p : Int} {s : List Int} {d d2 : kC} (h : rdP sh M a f p s d M1) (hd : dPost sh M1 a d2 M2) : rdP sh M a f p s d2 M2 := by
  obtain ⟨h1, h2, h3, h4, h5⟩ := h
  obtain ⟨g1, g2, g3⟩ := hd
  have ha : 379 < a := h3.1.2.2.2.2.2.1
  exact ⟨tpIn_keep h1 (g3 1 (by omega)) (g3 2 (by omega)), by rw [g3 1 (by omega)]; exact h2, g1, g2, fun b b1 b2 => by rw [g3 b b2, h5 b b1 b2]⟩
theorem rdP_adv {sh : gS} {M M1 : gM} {a f p c : Int} {r : List Int} {d : kC} (h : rdP sh M a f p (c :: r) d M1) : rdP sh M a f (p + 1) r d (gU M1 1 2 (M1 1 2 + 1)) := by
  have e := (tadv h.1).1
  have t := (tadv h.1).2
  rw [e, ff0, h.2.1] at t
  rw [e, ff0, h.2.1]
  exact rdP_t h t
/-- a MESSAGE: fault, place, rest, what is added -/
def sgn (c : Int) : Prop := (48 ≤ c ∧ c ≤ 57) ∨ (97 ≤ c ∧ c ≤ 122) ∨ c = 35
def pMsgGo : Nat → List Int → Int → kC → Int × Int × List Int × kC
  | _, [], p, d => (0, p, [], d)
  | 0, c :: r, p, d => (-2000 - p, p, c :: r, d)
  | k + 1, c :: r, p, d => if (48 ≤ c ∧ c ≤ 57) ∨ (97 ≤ c ∧ c ≤ 122) ∨ c = 35 then pMsgGo k r (p + 1) (dAddM d c) else (-1000 - p, p, c :: r, d)
theorem sp_X2_readMessage {sh : gS} {M : gM} {a p : Int} {s : List Int} {d : kC} (hOK : gOK sh M) (hT : tpIn M p s) (h0 : M 1 4 = 0) (hD : dOk sh M a d) :
    gC (gr 1 22) yX2_readMessage cX2_readMessage 3 none [(4, a), (4, 1)] sh M (gPm sh (fun r M1 => r = none ∧ rdP sh M a (pMsgGo 12 s p d).1 (pMsgGo 12 s p d).2.1 (pMsgGo 12 s p d).2.2.1 (pMsgGo 12 s p d).2.2.2 M1)) := by
  have hsa := hD.1.1
  generalize hx : pMsgGo 12 s p d = x
  refine gC_ofA (lv := [_, _, _]) (by decide +kernel) (Nat.le_of_ble_eq_true rfl) rfl (fun hMw hav => ?_)
  have lp : ∀ (k n : Nat) (s1 : List Int) (q : Int) (d1 : kC) (M1 : gM), n + k = 12 → rdP sh M a 0 q s1 d1 M1 → pMsgGo k s1 q d1 = x →
      gA (gr 1 22) yX2_readMessage cX2_readMessage 3 none (gPm sh (fun r M1 => r = none ∧ rdP sh M a x.1 x.2.1 x.2.2.1 x.2.2.2 M1)) (0, 0) 2 [(4, a), (4, 1), (0, (n : Int))] [] sh M1 := by
    intro k
    induction k with
    | zero =>
      intro n s1 q d1 M1 hn hP hv
      obtain ⟨hT1, hf1, hD1, hO1, hF1⟩ := id hP
      have hl1 := tpIn_len hT1
      refine g_iload_n (q0 := 3) (j := 2) rfl dX2_readMessage_2 rfl ?_
      refine g_bipush (q0 := 5) rfl dX2_readMessage_3 (k := ?_)
      refine g_icmp_gt (q0 := 8) (tgt := 88) rfl dX2_readMessage_5 (by decide) (fun h5 => ?_) (fun h5 => ?_)
      · omega
      · refine g_aload_n (q0 := 9) (j := 1) rfl dX2_readMessage_8 rfl ?_
        refine g_callVp (as := []) (rest := []) mt_X9_isAtEnd mi_X9_isAtEnd se_X9_isAtEnd ml_X2_89 dX2_readMessage_9 (q0 := 12) rfl rfl (sh_1 hO1) rfl rfl (sp_X9_isAtEnd hO1 hT1) rfl ⟨by decide, by decide⟩ (Nat.le_of_ble_eq_true rfl) ⟨Nat.zero_le _, Nat.zero_le _⟩ (fun hwc => ?_)
        cases s1 with
        | nil =>
          rw [if_pos rfl]
          refine g_if_ne (q0 := 15) (tgt := 88) rfl dX2_readMessage_12 (by decide) (fun h12 => ?_) (fun h12 => ?_)
          · refine g_return dX2_readMessage_88 rfl ⟨Nat.zero_le _, Nat.zero_le _⟩ ?_
            rw [← hv]
            exact ⟨rfl, rfl, hP⟩
          · omega
        | cons c r =>
          rw [if_neg (fun e => by cases e)]
          simp only [List.length_cons] at hl1
          refine g_if_ne (q0 := 15) (tgt := 88) rfl dX2_readMessage_12 (by decide) (fun h12 => ?_) (fun h12 => ?_)
          · omega
          · refine g_iload_n (q0 := 16) (j := 2) rfl dX2_readMessage_15 rfl ?_
            refine g_bipush (q0 := 18) rfl dX2_readMessage_16 (k := ?_)
            refine g_icmp_ne (q0 := 21) (tgt := 31) rfl dX2_readMessage_18 (by decide) (fun h18 => ?_) (fun h18 => ?_)
            · omega
            · refine g_aload_n (q0 := 22) (j := 1) rfl dX2_readMessage_21 rfl ?_
              refine g_iconst (q0 := 23) rfl dX2_readMessage_22 (k := ?_)
              refine g_aload_n (q0 := 24) (j := 1) rfl dX2_readMessage_23 rfl ?_
              refine g_getf (q0 := 27) (t := 0) (fi := 2) rfl rfl ff_X2_101 dX2_readMessage_24 rfl (sh_1 hO1) ?_
              rw [hT1.1]
              refine g_callVm (as := [_, _]) (rest := []) mt_X9_fail mi_X9_fail se_X9_fail ml_X2_107 dX2_readMessage_27 (q0 := 30) rfl rfl (sh_1 hO1) rfl rfl (sp_X9_fail hO1 ⟨by omega, by omega⟩ ⟨by omega, by omega⟩) rfl ⟨by decide, by decide⟩ (Nat.le_of_ble_eq_true rfl) ⟨Nat.zero_le _, Nat.zero_le _⟩ (fun r1 M1 hP1 hw1 hMw1 => ?_)
              obtain ⟨rfl, rfl⟩ := hP1
              refine g_return dX2_readMessage_30 rfl ⟨Nat.zero_le _, Nat.zero_le _⟩ ?_
              rw [← hv]
              refine ⟨rfl, rfl, ?_⟩
              rw [hT1.1, hf1]
              exact rdP_t hP (tpIn_self hT1)
    | succ k ih =>
      intro n s1 q d1 M1 hn hP hv
      obtain ⟨hT1, hf1, hD1, hO1, hF1⟩ := id hP
      have hl1 := tpIn_len hT1
      have hq1 := hT1.1
      refine g_iload_n (q0 := 3) (j := 2) rfl dX2_readMessage_2 rfl ?_
      refine g_bipush (q0 := 5) rfl dX2_readMessage_3 (k := ?_)
      refine g_icmp_gt (q0 := 8) (tgt := 88) rfl dX2_readMessage_5 (by decide) (fun h5 => ?_) (fun h5 => ?_)
      · omega
      · refine g_aload_n (q0 := 9) (j := 1) rfl dX2_readMessage_8 rfl ?_
        refine g_callVp (as := []) (rest := []) mt_X9_isAtEnd mi_X9_isAtEnd se_X9_isAtEnd ml_X2_89 dX2_readMessage_9 (q0 := 12) rfl rfl (sh_1 hO1) rfl rfl (sp_X9_isAtEnd hO1 hT1) rfl ⟨by decide, by decide⟩ (Nat.le_of_ble_eq_true rfl) ⟨Nat.zero_le _, Nat.zero_le _⟩ (fun hwc => ?_)
        cases s1 with
        | nil =>
          rw [if_pos rfl]
          refine g_if_ne (q0 := 15) (tgt := 88) rfl dX2_readMessage_12 (by decide) (fun h12 => ?_) (fun h12 => ?_)
          · refine g_return dX2_readMessage_88 rfl ⟨Nat.zero_le _, Nat.zero_le _⟩ ?_
            rw [← hv]
            exact ⟨rfl, rfl, hP⟩
          · omega
        | cons c r =>
          rw [if_neg (fun e => by cases e)]
          simp only [List.length_cons] at hl1
          have hcr := tpIn_hd hT1
          have e0 : hd (c :: r) = c := rfl
          have h64 : ((48 ≤ c ∧ c ≤ 57) ∨ (97 ≤ c ∧ c ≤ 122) ∨ c = 35) → gA (gr 1 22) yX2_readMessage cX2_readMessage 3 none (gPm sh (fun r M1 => r = none ∧ rdP sh M a x.1 x.2.1 x.2.2.1 x.2.2.2 M1)) (0, 0) 64 [(4, a), (4, 1), (0, (n : Int))] [] sh M1 := by
            intro hsg
            rw [pMsgGo, if_pos hsg] at hv
            refine g_aload_n (q0 := 65) (j := 0) rfl dX2_readMessage_64 rfl ?_
            refine g_aload_n (q0 := 66) (j := 1) rfl dX2_readMessage_65 rfl ?_
            refine g_callVp (as := []) (rest := [_]) mt_X9_next mi_X9_next se_X9_next ml_X2_66 dX2_readMessage_66 (q0 := 69) rfl rfl (sh_1 hO1) rfl rfl (sp_X9_next hO1 hT1) rfl ⟨by decide, by decide⟩ (Nat.le_of_ble_eq_true rfl) ⟨Nat.zero_le _, Nat.zero_le _⟩ (fun hwc => ?_)
            rw [e0]
            refine g_callVm (as := [_]) (rest := []) mt_X2_addToMessage mi_X2_addToMessage se_X2_addToMessage ml_X2_55 dX2_readMessage_69 (q0 := 72) rfl rfl (by assumption) rfl rfl (sp_X2_addToMessage hO1 hD1 ⟨by omega, by omega⟩) rfl ⟨by decide, by decide⟩ (Nat.le_of_ble_eq_true rfl) ⟨Nat.zero_le _, Nat.zero_le _⟩ (fun r2 M2 hP2 hw2 hMw2 => ?_)
            obtain ⟨rfl, hP2⟩ := hP2
            have hP3 := rdP_d hP hP2
            obtain ⟨hT2, hf2, hD2, hO2, hF2⟩ := id hP3
            have hl2 := tpIn_len hT2
            have hq2 := hT2.1
            simp only [List.length_cons] at hl2
            refine g_aload_n (q0 := 73) (j := 1) rfl dX2_readMessage_72 rfl ?_
            refine g_dup (q0 := 74) rfl dX2_readMessage_73 (k := ?_)
            refine g_getf (q0 := 77) (t := 0) (fi := 2) rfl rfl ff_X2_101 dX2_readMessage_74 rfl (sh_1 hO1) ?_
            refine g_iconst (q0 := 78) rfl dX2_readMessage_77 (k := ?_)
            refine g_iadd (q0 := 79) rfl dX2_readMessage_78 (by omega) (by omega) ?_
            refine g_put (q0 := 82) (t := 0) (fi := 2) rfl rfl ff_X2_101 dX2_readMessage_79 rfl (sh_1 hO1) rfl (fun _ => ⟨rfl, rfl⟩) ?_
            refine g_iinc (q0 := 85) (lv2 := [_, _, _]) rfl dX2_readMessage_82 rfl (by decide) rfl rfl (by omega) (by omega) ?_
            refine g_goto (tgt := 2) dX2_readMessage_85 (by decide) ?_
            exact ih (n + 1) r (q + 1) _ _ (by omega) (rdP_adv hP3) hv
          have h54 : ¬ ((48 ≤ c ∧ c ≤ 57) ∨ (97 ≤ c ∧ c ≤ 122) ∨ c = 35) → gA (gr 1 22) yX2_readMessage cX2_readMessage 3 none (gPm sh (fun r M1 => r = none ∧ rdP sh M a x.1 x.2.1 x.2.2.1 x.2.2.2 M1)) (0, 0) 54 [(4, a), (4, 1), (0, (n : Int))] [] sh M1 := by
            intro hsg
            rw [pMsgGo, if_neg hsg] at hv
            refine g_aload_n (q0 := 55) (j := 1) rfl dX2_readMessage_54 rfl ?_
            refine g_iconst (q0 := 56) rfl dX2_readMessage_55 (k := ?_)
            refine g_aload_n (q0 := 57) (j := 1) rfl dX2_readMessage_56 rfl ?_
            refine g_getf (q0 := 60) (t := 0) (fi := 2) rfl rfl ff_X2_101 dX2_readMessage_57 rfl (sh_1 hO1) ?_
            rw [hT1.1]
            refine g_callVm (as := [_, _]) (rest := []) mt_X9_fail mi_X9_fail se_X9_fail ml_X2_107 dX2_readMessage_60 (q0 := 63) rfl rfl (sh_1 hO1) rfl rfl (sp_X9_fail hO1 ⟨by omega, by omega⟩ ⟨by omega, by omega⟩) rfl ⟨by decide, by decide⟩ (Nat.le_of_ble_eq_true rfl) ⟨Nat.zero_le _, Nat.zero_le _⟩ (fun r1 M1 hP1 hw1 hMw1 => ?_)
            obtain ⟨rfl, rfl⟩ := hP1
            refine g_return dX2_readMessage_63 rfl ⟨Nat.zero_le _, Nat.zero_le _⟩ ?_
            rw [← hv]
            refine ⟨rfl, rfl, ?_⟩
            rw [hT1.1, hf1]
            exact rdP_t hP (tpIn_self hT1)
          refine g_if_ne (q0 := 15) (tgt := 88) rfl dX2_readMessage_12 (by decide) (fun h12 => ?_) (fun h12 => ?_)
          · omega
          · refine g_iload_n (q0 := 16) (j := 2) rfl dX2_readMessage_15 rfl ?_
            refine g_bipush (q0 := 18) rfl dX2_readMessage_16 (k := ?_)
            refine g_icmp_ne (q0 := 21) (tgt := 31) rfl dX2_readMessage_18 (by decide) (fun h18 => ?_) (fun h18 => ?_)
            · refine g_aload_n (q0 := 32) (j := 1) rfl dX2_readMessage_31 rfl ?_
              refine g_callVp (as := []) (rest := []) mt_X9_isDigit mi_X9_isDigit se_X9_isDigit ml_X2_104 dX2_readMessage_32 (q0 := 35) rfl rfl (sh_1 hO1) rfl rfl (sp_X9_isDigit hO1 hT1) rfl ⟨by decide, by decide⟩ (Nat.le_of_ble_eq_true rfl) ⟨Nat.zero_le _, Nat.zero_le _⟩ (fun hwc => ?_)
              rw [e0]
              by_cases hdg : 48 ≤ c ∧ c ≤ 57
              · rw [if_pos hdg]
                refine g_if_ne (q0 := 38) (tgt := 64) rfl dX2_readMessage_35 (by decide) (fun h35 => ?_) (fun h35 => ?_)
                · exact h64 (Or.inl hdg)
                · omega
              · rw [if_neg hdg]
                refine g_if_ne (q0 := 38) (tgt := 64) rfl dX2_readMessage_35 (by decide) (fun h35 => ?_) (fun h35 => ?_)
                · omega
                · refine g_aload_n (q0 := 39) (j := 1) rfl dX2_readMessage_38 rfl ?_
                  refine g_callVp (as := []) (rest := []) mt_X9_isLetter mi_X9_isLetter se_X9_isLetter ml_X2_170 dX2_readMessage_39 (q0 := 42) rfl rfl (sh_1 hO1) rfl rfl (sp_X9_isLetter hO1 hT1) rfl ⟨by decide, by decide⟩ (Nat.le_of_ble_eq_true rfl) ⟨Nat.zero_le _, Nat.zero_le _⟩ (fun hwc => ?_)
                  rw [e0]
                  by_cases hlt : 97 ≤ c ∧ c ≤ 122
                  · rw [if_pos hlt]
                    refine g_if_ne (q0 := 45) (tgt := 64) rfl dX2_readMessage_42 (by decide) (fun h42 => ?_) (fun h42 => ?_)
                    · exact h64 (Or.inr (Or.inl hlt))
                    · omega
                  · rw [if_neg hlt]
                    refine g_if_ne (q0 := 45) (tgt := 64) rfl dX2_readMessage_42 (by decide) (fun h42 => ?_) (fun h42 => ?_)
                    · omega
                    · refine g_aload_n (q0 := 46) (j := 1) rfl dX2_readMessage_45 rfl ?_
                      refine g_callVp (as := []) (rest := []) mt_X9_next mi_X9_next se_X9_next ml_X2_66 dX2_readMessage_46 (q0 := 49) rfl rfl (sh_1 hO1) rfl rfl (sp_X9_next hO1 hT1) rfl ⟨by decide, by decide⟩ (Nat.le_of_ble_eq_true rfl) ⟨Nat.zero_le _, Nat.zero_le _⟩ (fun hwc => ?_)
                      rw [e0]
                      refine g_bipush (q0 := 51) rfl dX2_readMessage_49 (k := ?_)
                      refine g_icmp_eq (q0 := 54) (tgt := 64) rfl dX2_readMessage_51 (by decide) (fun h51 => ?_) (fun h51 => ?_)
                      · exact h64 (Or.inr (Or.inr h51))
                      · exact h54 (fun z => by omega)
            · omega
  refine g_iconst (q0 := 1) rfl dX2_readMessage_0 (k := ?_)
  refine g_istore_n (q0 := 2) (j := 2) (lv2 := [_, _, _]) rfl dX2_readMessage_1 (by decide) rfl rfl ?_
  exact lp 12 0 s p d M rfl ⟨hT, h0, hD, hOK, fun _ _ _ => rfl⟩ hx
-- the PARENTS: k more of them may come
def pParGo (n : Int) : Nat → List Int → Int → kC → Int × Int × List Int × kC
  | 0, s, p, d => if 48 ≤ hd s ∧ hd s ≤ 57 then
      (-4000 - p, (pDigits 3 0 s p).2.2.1, (pDigits 3 0 s p).2.2.2, d)
    else (-1000 - p, p, s, d)
  | k + 1, s, p, d =>
    if (pDigits 3 0 s p).1 ≠ 0 then ((pDigits 3 0 s p).1, (pDigits 3 0 s p).2.2.1, (pDigits 3 0 s p).2.2.2, d)
    else if n ≤ (pDigits 3 0 s p).2.1 then (-9000 - p, (pDigits 3 0 s p).2.2.1, (pDigits 3 0 s p).2.2.2, dAddP d (pDigits 3 0 s p).2.1)
    else if (pDigits 3 0 s p).2.1 ∈ kPs d then (-6000 - p, (pDigits 3 0 s p).2.2.1, (pDigits 3 0 s p).2.2.2, dAddP d (pDigits 3 0 s p).2.1)
    else if hd (pDigits 3 0 s p).2.2.2 = 44 then pParGo n k (pDigits 3 0 s p).2.2.2.tail ((pDigits 3 0 s p).2.2.1 + 1) (dAddP d (pDigits 3 0 s p).2.1)
    else (0, (pDigits 3 0 s p).2.2.1, (pDigits 3 0 s p).2.2.2, dAddP d (pDigits 3 0 s p).2.1)
theorem sp_X2_readParents {sh : gS} {M : gM} {a p n : Int} {s : List Int} {d : kC} (hOK : gOK sh M) (hT : tpIn M p s) (h0 : M 1 4 = 0) (hD : dOk sh M a d) (hps : kPs d = []) :
    gC (gr 2 46) yX2_readParents cX2_readParents 6 none [(4, a), (4, 1), (0, n)] sh M (gPm sh (fun r M1 => r = none ∧ rdP sh M a (pParGo n 3 s p d).1 (pParGo n 3 s p d).2.1 (pParGo n 3 s p d).2.2.1 (pParGo n 3 s p d).2.2.2 M1)) := by
  have hsa := hD.1.1
  generalize hx : pParGo n 3 s p d = x
  refine gC_ofA (lv := [_, _, _, _, _, _]) (by decide +kernel) (Nat.le_of_ble_eq_true rfl) rfl (fun hMw hav => ?_)
  have lp : ∀ (k m : Nat) (s1 : List Int) (q : Int) (d1 : kC) (M1 : gM) (w4 w5 : gV), gw w4 → gw w5 → m + k = 3 → (kPs d1).length = m → rdP sh M a 0 q s1 d1 M1 → pParGo n k s1 q d1 = x →
      gA (gr 2 46) yX2_readParents cX2_readParents 6 none (gPm sh (fun r M1 => r = none ∧ rdP sh M a x.1 x.2.1 x.2.2.1 x.2.2.2 M1)) (0, 0) 2 [(4, a), (4, 1), (0, n), (0, (m : Int)), w4, w5] [] sh M1 := by
    intro k
    induction k with
    | zero =>
      intro m s1 q d1 M1 w4 w5 hw4 hw5 hn hl hP hv
      obtain ⟨hT1, hf1, hD1, hO1, hF1⟩ := id hP
      have hl1 := tpIn_len hT1
      have hq1 := hT1.1
      have epc : M1 a 1 = 3 := by rw [hD1.2.1]; omega
      refine g_iload_n (q0 := 3) (j := 3) rfl dX2_readParents_2 rfl ?_
      refine g_iconst (q0 := 4) rfl dX2_readParents_3 (k := ?_)
      refine g_icmp_gt (q0 := 7) (tgt := 124) rfl dX2_readParents_4 (by decide) (fun h4 => ?_) (fun h4 => ?_)
      · omega
      · refine g_aload_n (q0 := 8) (j := 1) rfl dX2_readParents_7 rfl ?_
        refine g_getf (q0 := 11) (t := 0) (fi := 2) rfl rfl ff_X2_101 dX2_readParents_8 rfl (sh_1 hO1) ?_
        refine g_istore (q0 := 13) (j := 4) (lv2 := [_, _, _, _, _, _]) rfl dX2_readParents_11 (by decide) rfl rfl ?_
        refine g_aload_n (q0 := 14) (j := 0) rfl dX2_readParents_13 rfl ?_
        refine g_getf (q0 := 17) (t := 0) (fi := 1) rfl rfl ff_X2_31 dX2_readParents_14 rfl (by assumption) ?_
        refine g_iconst (q0 := 18) rfl dX2_readParents_17 (k := ?_)
        refine g_icmp_ne (q0 := 21) (tgt := 35) rfl dX2_readParents_18 (by decide) (fun h18 => ?_) (fun h18 => ?_)
        · exact absurd epc h18
        · refine g_aload_n (q0 := 22) (j := 1) rfl dX2_readParents_21 rfl ?_
          refine g_callVp (as := []) (rest := []) mt_X9_isDigit mi_X9_isDigit se_X9_isDigit ml_X2_104 dX2_readParents_22 (q0 := 25) rfl rfl (sh_1 hO1) rfl rfl (sp_X9_isDigit hO1 hT1) rfl ⟨by decide, by decide⟩ (Nat.le_of_ble_eq_true rfl) ⟨Nat.zero_le _, Nat.zero_le _⟩ (fun hwc => ?_)
          by_cases hdg : 48 ≤ hd s1 ∧ hd s1 ≤ 57
          · rw [if_pos hdg]
            rw [pParGo, if_pos hdg] at hv
            refine g_if_eq (q0 := 28) (tgt := 35) rfl dX2_readParents_25 (by decide) (fun h25 => ?_) (fun h25 => ?_)
            · omega
            · refine g_aload_n (q0 := 29) (j := 1) rfl dX2_readParents_28 rfl ?_
              refine g_iconst (q0 := 30) rfl dX2_readParents_29 (k := ?_)
              refine g_iload (q0 := 32) (j := 4) rfl dX2_readParents_30 rfl ?_
              rw [hT1.1]
              refine g_callVm (as := [_, _]) (rest := []) mt_X9_fail mi_X9_fail se_X9_fail ml_X2_107 dX2_readParents_32 (q0 := 35) rfl rfl (sh_1 hO1) rfl rfl (sp_X9_fail hO1 ⟨by omega, by omega⟩ ⟨by omega, by omega⟩) rfl ⟨by decide, by decide⟩ (Nat.le_of_ble_eq_true rfl) ⟨Nat.zero_le _, Nat.zero_le _⟩ (fun r2 M2 hP2 hw2 hMw2 => ?_)
              obtain ⟨rfl, hM2⟩ := hP2
              rw [hT1.1, hf1] at hM2
              have hP3 : rdP sh M a (-4000 - q) q s1 d1 M2 := by
                rw [hM2]
                exact rdP_t hP (tpIn_self hT1)
              obtain ⟨hT2, hf2, hD2, hO2, hF2⟩ := id hP3
              refine g_aload_n (q0 := 36) (j := 1) rfl dX2_readParents_35 rfl ?_
              refine g_iconst (q0 := 37) rfl dX2_readParents_36 (k := ?_)
              refine g_iconst (q0 := 38) rfl dX2_readParents_37 (k := ?_)
              refine g_callVm (as := [_, _]) (rest := []) mt_X9_digits mi_X9_digits se_X9_digits ml_X2_110 dX2_readParents_38 (q0 := 41) rfl rfl (sh_1 hO1) rfl rfl (sp_X9_digits (most := 3) hO2 hT2 (by decide) ⟨by decide, by decide⟩) rfl ⟨by decide, by decide⟩ (Nat.le_of_ble_eq_true rfl) ⟨Nat.zero_le _, Nat.zero_le _⟩ (fun r3 M3 hP4 hw3 hMw3 => ?_)
              obtain ⟨rfl, hM3, hT3⟩ := hP4
              rw [hf2, ff, if_neg (by omega)] at hM3
              have hP5 : rdP sh M a (-4000 - q) (pDigits 3 0 s1 q).2.2.1 (pDigits 3 0 s1 q).2.2.2 d1 M3 := by
                rw [hM3] at hT3 ⊢
                exact rdP_t hP3 hT3
              have hO3 := hP5.2.2.2.1
              have hf3 := hP5.2.1
              refine g_istore (q0 := 43) (j := 5) (lv2 := [_, _, _, _, _, _]) rfl dX2_readParents_41 (by decide) rfl rfl ?_
              refine g_aload_n (q0 := 44) (j := 1) rfl dX2_readParents_43 rfl ?_
              refine g_getf (q0 := 47) (t := 0) (fi := 4) rfl rfl ff_X2_75 dX2_readParents_44 rfl (sh_1 hO1) ?_
              refine g_if_eq (q0 := 50) (tgt := 51) rfl dX2_readParents_47 (by decide) (fun h47 => ?_) (fun h47 => ?_)
              · omega
              · refine g_return dX2_readParents_50 rfl ⟨Nat.zero_le _, Nat.zero_le _⟩ ?_
                rw [← hv]
                exact ⟨rfl, rfl, hP5⟩
          · rw [if_neg hdg]
            rw [pParGo, if_neg hdg] at hv
            have hpd : pDigits 3 0 s1 q = (-1000 - q, -1, q, s1) := by rw [pDigits, if_neg hdg]
            refine g_if_eq (q0 := 28) (tgt := 35) rfl dX2_readParents_25 (by decide) (fun h25 => ?_) (fun h25 => ?_)
            · refine g_aload_n (q0 := 36) (j := 1) rfl dX2_readParents_35 rfl ?_
              refine g_iconst (q0 := 37) rfl dX2_readParents_36 (k := ?_)
              refine g_iconst (q0 := 38) rfl dX2_readParents_37 (k := ?_)
              refine g_callVm (as := [_, _]) (rest := []) mt_X9_digits mi_X9_digits se_X9_digits ml_X2_110 dX2_readParents_38 (q0 := 41) rfl rfl (sh_1 hO1) rfl rfl (sp_X9_digits (most := 3) hO1 hT1 (by decide) ⟨by decide, by decide⟩) rfl ⟨by decide, by decide⟩ (Nat.le_of_ble_eq_true rfl) ⟨Nat.zero_le _, Nat.zero_le _⟩ (fun r3 M3 hP4 hw3 hMw3 => ?_)
              obtain ⟨rfl, hM3, hT3⟩ := hP4
              rw [hpd, hf1] at hM3
              rw [hpd] at hT3 hw3
              have hP5 : rdP sh M a (-1000 - q) q s1 d1 M3 := by
                rw [hM3]
                exact rdP_t hP (tpIn_self hT1)
              have hO3 := hP5.2.2.2.1
              have hf3 := hP5.2.1
              rw [hpd]
              refine g_istore (q0 := 43) (j := 5) (lv2 := [_, _, _, _, _, _]) rfl dX2_readParents_41 (by decide) rfl rfl ?_
              refine g_aload_n (q0 := 44) (j := 1) rfl dX2_readParents_43 rfl ?_
              refine g_getf (q0 := 47) (t := 0) (fi := 4) rfl rfl ff_X2_75 dX2_readParents_44 rfl (sh_1 hO1) ?_
              refine g_if_eq (q0 := 50) (tgt := 51) rfl dX2_readParents_47 (by decide) (fun h47 => ?_) (fun h47 => ?_)
              · omega
              · refine g_return dX2_readParents_50 rfl ⟨Nat.zero_le _, Nat.zero_le _⟩ ?_
                rw [← hv]
                exact ⟨rfl, rfl, hP5⟩
            · omega
    | succ k ih =>
      intro m s1 q d1 M1 w4 w5 hw4 hw5 hn hl hP hv
      obtain ⟨hT1, hf1, hD1, hO1, hF1⟩ := id hP
      have hl1 := tpIn_len hT1
      have hq1 := hT1.1
      have epc : M1 a 1 = (m : Int) := by rw [hD1.2.1]; omega
      rw [pParGo] at hv
      refine g_iload_n (q0 := 3) (j := 3) rfl dX2_readParents_2 rfl ?_
      refine g_iconst (q0 := 4) rfl dX2_readParents_3 (k := ?_)
      refine g_icmp_gt (q0 := 7) (tgt := 124) rfl dX2_readParents_4 (by decide) (fun h4 => ?_) (fun h4 => ?_)
      · omega
      · refine g_aload_n (q0 := 8) (j := 1) rfl dX2_readParents_7 rfl ?_
        refine g_getf (q0 := 11) (t := 0) (fi := 2) rfl rfl ff_X2_101 dX2_readParents_8 rfl (sh_1 hO1) ?_
        refine g_istore (q0 := 13) (j := 4) (lv2 := [_, _, _, _, _, _]) rfl dX2_readParents_11 (by decide) rfl rfl ?_
        refine g_aload_n (q0 := 14) (j := 0) rfl dX2_readParents_13 rfl ?_
        refine g_getf (q0 := 17) (t := 0) (fi := 1) rfl rfl ff_X2_31 dX2_readParents_14 rfl (by assumption) ?_
        refine g_iconst (q0 := 18) rfl dX2_readParents_17 (k := ?_)
        refine g_icmp_ne (q0 := 21) (tgt := 35) rfl dX2_readParents_18 (by decide) (fun h18 => ?_) (fun h18 => ?_)
        · refine g_aload_n (q0 := 36) (j := 1) rfl dX2_readParents_35 rfl ?_
          refine g_iconst (q0 := 37) rfl dX2_readParents_36 (k := ?_)
          refine g_iconst (q0 := 38) rfl dX2_readParents_37 (k := ?_)
          refine g_callVm (as := [_, _]) (rest := []) mt_X9_digits mi_X9_digits se_X9_digits ml_X2_110 dX2_readParents_38 (q0 := 41) rfl rfl (sh_1 hO1) rfl rfl (sp_X9_digits (most := 3) hO1 hT1 (by decide) ⟨by decide, by decide⟩) rfl ⟨by decide, by decide⟩ (Nat.le_of_ble_eq_true rfl) ⟨Nat.zero_le _, Nat.zero_le _⟩ (fun r3 M3 hP4 hw3 hMw3 => ?_)
          obtain ⟨rfl, hM3, hT3⟩ := hP4
          have hkv := hw3 _ rfl
          generalize pDigits 3 0 s1 q = y at hM3 hT3 hv hkv ⊢
          rw [hf1] at hM3
          have hff : ff 0 y.1 = y.1 := by unfold ff; simp
          rw [hff] at hM3
          have hP5 : rdP sh M a y.1 y.2.2.1 y.2.2.2 d1 M3 := by
            rw [hM3] at hT3 ⊢
            exact rdP_t hP hT3
          obtain ⟨hT5, hf5, hD5, hO3, hF5⟩ := id hP5
          have hl5 := tpIn_len hT5
          refine g_istore (q0 := 43) (j := 5) (lv2 := [_, _, _, _, _, _]) rfl dX2_readParents_41 (by decide) rfl rfl ?_
          refine g_aload_n (q0 := 44) (j := 1) rfl dX2_readParents_43 rfl ?_
          refine g_getf (q0 := 47) (t := 0) (fi := 4) rfl rfl ff_X2_75 dX2_readParents_44 rfl (sh_1 hO1) ?_
          refine g_if_eq (q0 := 50) (tgt := 51) rfl dX2_readParents_47 (by decide) (fun h47 => ?_) (fun h47 => ?_)
          · rw [hf5] at h47
            rw [if_neg (by omega)] at hv
            rw [h47] at hP5 hf5
            refine g_iload (q0 := 53) (j := 5) rfl dX2_readParents_51 rfl ?_
            refine g_iload_n (q0 := 54) (j := 2) rfl dX2_readParents_53 rfl ?_
            refine g_icmp_lt (q0 := 57) (tgt := 68) rfl dX2_readParents_54 (by decide) (fun h54 => ?_) (fun h54 => ?_)
            · rw [if_neg (by omega)] at hv
              refine g_aload_n (q0 := 69) (j := 0) rfl dX2_readParents_68 rfl ?_
              refine g_iload (q0 := 71) (j := 5) rfl dX2_readParents_69 rfl ?_
              refine g_callVp (as := [_]) (rest := []) mt_X2_hasParent mi_X2_hasParent se_X2_hasParent ml_X2_113 dX2_readParents_71 (q0 := 74) rfl rfl (by assumption) rfl rfl (sp_X2_hasParent hO3 hD5) rfl ⟨by decide, by decide⟩ (Nat.le_of_ble_eq_true rfl) ⟨Nat.zero_le _, Nat.zero_le _⟩ (fun hwc => ?_)
              by_cases hin : y.2.1 ∈ kPs d1
              · rw [decide_eq_true hin]
                rw [if_pos hin] at hv
                refine g_if_eq (q0 := 77) (tgt := 85) rfl dX2_readParents_74 (by decide) (fun h74 => ?_) (fun h74 => ?_)
                · exact absurd h74 (by decide)
                · refine g_aload_n (q0 := 78) (j := 1) rfl dX2_readParents_77 rfl ?_
                  refine g_bipush (q0 := 80) rfl dX2_readParents_78 (k := ?_)
                  refine g_iload (q0 := 82) (j := 4) rfl dX2_readParents_80 rfl ?_
                  rw [hq1]
                  refine g_callVm (as := [_, _]) (rest := []) mt_X9_fail mi_X9_fail se_X9_fail ml_X2_107 dX2_readParents_82 (q0 := 85) rfl rfl (sh_1 hO1) rfl rfl (sp_X9_fail hO3 ⟨by omega, by omega⟩ ⟨by omega, by omega⟩) rfl ⟨by decide, by decide⟩ (Nat.le_of_ble_eq_true rfl) ⟨Nat.zero_le _, Nat.zero_le _⟩ (fun r6 M6 hP6 hw6 hMw6 => ?_)
                  obtain ⟨rfl, hM6⟩ := hP6
                  rw [hT5.1, hf5] at hM6
                  have hP7 : rdP sh M a (-6000 - q) y.2.2.1 y.2.2.2 d1 M6 := by
                    rw [hM6]
                    exact rdP_t hP5 (tpIn_self hT5)
                  obtain ⟨hT7, hf7, hD7, hO6, hF7⟩ := id hP7
                  refine g_aload_n (q0 := 86) (j := 0) rfl dX2_readParents_85 rfl ?_
                  refine g_iload (q0 := 88) (j := 5) rfl dX2_readParents_86 rfl ?_
                  refine g_callVm (as := [_]) (rest := []) mt_X2_addParent mi_X2_addParent se_X2_addParent ml_X2_116 dX2_readParents_88 (q0 := 91) rfl rfl (by assumption) rfl rfl (sp_X2_addParent hO6 hD7) rfl ⟨by decide, by decide⟩ (Nat.le_of_ble_eq_true rfl) ⟨Nat.zero_le _, Nat.zero_le _⟩ (fun r8 M8 hP8 hw8 hMw8 => ?_)
                  obtain ⟨rfl, hP8⟩ := hP8
                  have hP9 := rdP_d hP7 hP8
                  obtain ⟨-, hf9, -, hO8, -⟩ := id hP9
                  refine g_aload_n (q0 := 92) (j := 1) rfl dX2_readParents_91 rfl ?_
                  refine g_getf (q0 := 95) (t := 0) (fi := 4) rfl rfl ff_X2_75 dX2_readParents_92 rfl (sh_1 hO1) ?_
                  refine g_if_ne (q0 := 98) (tgt := 107) rfl dX2_readParents_95 (by decide) (fun h95 => ?_) (fun h95 => ?_)
                  · refine g_return dX2_readParents_107 rfl ⟨Nat.zero_le _, Nat.zero_le _⟩ ?_
                    rw [← hv]
                    exact ⟨rfl, rfl, hP9⟩
                  · omega
              · rw [decide_eq_false hin]
                rw [if_neg hin] at hv
                refine g_if_eq (q0 := 77) (tgt := 85) rfl dX2_readParents_74 (by decide) (fun h74 => ?_) (fun h74 => ?_)
                · refine g_aload_n (q0 := 86) (j := 0) rfl dX2_readParents_85 rfl ?_
                  refine g_iload (q0 := 88) (j := 5) rfl dX2_readParents_86 rfl ?_
                  refine g_callVm (as := [_]) (rest := []) mt_X2_addParent mi_X2_addParent se_X2_addParent ml_X2_116 dX2_readParents_88 (q0 := 91) rfl rfl (by assumption) rfl rfl (sp_X2_addParent hO3 hD5) rfl ⟨by decide, by decide⟩ (Nat.le_of_ble_eq_true rfl) ⟨Nat.zero_le _, Nat.zero_le _⟩ (fun r8 M8 hP8 hw8 hMw8 => ?_)
                  obtain ⟨rfl, hP8⟩ := hP8
                  have hP9 := rdP_d hP5 hP8
                  obtain ⟨hT9, hf9, hD9, hO8, -⟩ := id hP9
                  have hl9 := tpIn_len hT9
                  have hq9 := hT9.1
                  refine g_aload_n (q0 := 92) (j := 1) rfl dX2_readParents_91 rfl ?_
                  refine g_getf (q0 := 95) (t := 0) (fi := 4) rfl rfl ff_X2_75 dX2_readParents_92 rfl (sh_1 hO1) ?_
                  refine g_if_ne (q0 := 98) (tgt := 107) rfl dX2_readParents_95 (by decide) (fun h95 => ?_) (fun h95 => ?_)
                  · omega
                  · refine g_aload_n (q0 := 99) (j := 1) rfl dX2_readParents_98 rfl ?_
                    refine g_callVp (as := []) (rest := []) mt_X9_next mi_X9_next se_X9_next ml_X2_66 dX2_readParents_99 (q0 := 102) rfl rfl (sh_1 hO1) rfl rfl (sp_X9_next hO8 hT9) rfl ⟨by decide, by decide⟩ (Nat.le_of_ble_eq_true rfl) ⟨Nat.zero_le _, Nat.zero_le _⟩ (fun hwc => ?_)
                    refine g_bipush (q0 := 104) rfl dX2_readParents_102 (k := ?_)
                    refine g_icmp_eq (q0 := 107) (tgt := 108) rfl dX2_readParents_104 (by decide) (fun h104 => ?_) (fun h104 => ?_)
                    · rw [if_pos h104] at hv
                      cases hy : y.2.2.2 with
                      | nil => rw [hy] at h104; exact absurd h104 (by decide)
                      | cons c r =>
                        rw [hy] at hv hP9 hl9
                        simp only [List.length_cons] at hl9
                        refine g_aload_n (q0 := 109) (j := 1) rfl dX2_readParents_108 rfl ?_
                        refine g_dup (q0 := 110) rfl dX2_readParents_109 (k := ?_)
                        refine g_getf (q0 := 113) (t := 0) (fi := 2) rfl rfl ff_X2_101 dX2_readParents_110 rfl (sh_1 hO1) ?_
                        refine g_iconst (q0 := 114) rfl dX2_readParents_113 (k := ?_)
                        refine g_iadd (q0 := 115) rfl dX2_readParents_114 (by omega) (by omega) ?_
                        refine g_put (q0 := 118) (t := 0) (fi := 2) rfl rfl ff_X2_101 dX2_readParents_115 rfl (sh_1 hO1) rfl (fun _ => ⟨rfl, rfl⟩) ?_
                        refine g_iinc (q0 := 121) (lv2 := [_, _, _, _, _, _]) rfl dX2_readParents_118 rfl (by decide) rfl rfl (by omega) (by omega) ?_
                        refine g_goto (tgt := 2) dX2_readParents_121 (by decide) ?_
                        have hap : (kPs (dAddP d1 y.2.1)).length = m + 1 := by
                          rw [dAddP, if_pos (by omega)]
                          show (kPs d1 ++ [y.2.1]).length = m + 1
                          simp; omega
                        exact ih (m + 1) r (y.2.2.1 + 1) _ _ _ _ ⟨by show -2147483648 ≤ M1 1 2; omega, by show M1 1 2 < 2147483648; omega⟩ hkv (by omega) hap (rdP_adv hP9) hv
                    · rw [if_neg h104] at hv
                      refine g_return dX2_readParents_107 rfl ⟨Nat.zero_le _, Nat.zero_le _⟩ ?_
                      rw [← hv]
                      exact ⟨rfl, rfl, hP9⟩
                · exact absurd rfl h74
            · rw [if_pos (by omega)] at hv
              refine g_aload_n (q0 := 58) (j := 1) rfl dX2_readParents_57 rfl ?_
              refine g_bipush (q0 := 60) rfl dX2_readParents_58 (k := ?_)
              refine g_iload (q0 := 62) (j := 4) rfl dX2_readParents_60 rfl ?_
              rw [hq1]
              refine g_callVm (as := [_, _]) (rest := []) mt_X9_fail mi_X9_fail se_X9_fail ml_X2_107 dX2_readParents_62 (q0 := 65) rfl rfl (sh_1 hO1) rfl rfl (sp_X9_fail hO3 ⟨by omega, by omega⟩ ⟨by omega, by omega⟩) rfl ⟨by decide, by decide⟩ (Nat.le_of_ble_eq_true rfl) ⟨Nat.zero_le _, Nat.zero_le _⟩ (fun r6 M6 hP6 hw6 hMw6 => ?_)
              obtain ⟨rfl, hM6⟩ := hP6
              rw [hT5.1, hf5] at hM6
              have hP7 : rdP sh M a (-9000 - q) y.2.2.1 y.2.2.2 d1 M6 := by
                rw [hM6]
                exact rdP_t hP5 (tpIn_self hT5)
              obtain ⟨hT7, hf7, hD7, hO6, hF7⟩ := id hP7
              refine g_goto (tgt := 85) dX2_readParents_65 (by decide) ?_
              refine g_aload_n (q0 := 86) (j := 0) rfl dX2_readParents_85 rfl ?_
              refine g_iload (q0 := 88) (j := 5) rfl dX2_readParents_86 rfl ?_
              refine g_callVm (as := [_]) (rest := []) mt_X2_addParent mi_X2_addParent se_X2_addParent ml_X2_116 dX2_readParents_88 (q0 := 91) rfl rfl (by assumption) rfl rfl (sp_X2_addParent hO6 hD7) rfl ⟨by decide, by decide⟩ (Nat.le_of_ble_eq_true rfl) ⟨Nat.zero_le _, Nat.zero_le _⟩ (fun r8 M8 hP8 hw8 hMw8 => ?_)
              obtain ⟨rfl, hP8⟩ := hP8
              have hP9 := rdP_d hP7 hP8
              obtain ⟨-, hf9, -, hO8, -⟩ := id hP9
              refine g_aload_n (q0 := 92) (j := 1) rfl dX2_readParents_91 rfl ?_
              refine g_getf (q0 := 95) (t := 0) (fi := 4) rfl rfl ff_X2_75 dX2_readParents_92 rfl (sh_1 hO1) ?_
              refine g_if_ne (q0 := 98) (tgt := 107) rfl dX2_readParents_95 (by decide) (fun h95 => ?_) (fun h95 => ?_)
              · refine g_return dX2_readParents_107 rfl ⟨Nat.zero_le _, Nat.zero_le _⟩ ?_
                rw [← hv]
                exact ⟨rfl, rfl, hP9⟩
              · omega
          · rw [hf5] at h47
            rw [if_pos h47] at hv
            refine g_return dX2_readParents_50 rfl ⟨Nat.zero_le _, Nat.zero_le _⟩ ?_
            rw [← hv]
            exact ⟨rfl, rfl, hP5⟩
        · omega
  refine g_iconst (q0 := 1) rfl dX2_readParents_0 (k := ?_)
  refine g_istore_n (q0 := 2) (j := 3) (lv2 := [_, _, _, _, _, _]) rfl dX2_readParents_1 (by decide) rfl rfl ?_
  exact lp 3 0 s p d M _ _ trivial trivial rfl (by rw [hps]; rfl) ⟨hT, h0, hD, hOK, fun _ _ _ => rfl⟩ hx
