-- ==== all COMMITS: children, marks, likeness
theorem dX1_isAs_0 : decode cX1_isAs 0 = .ok (.aload_n 0, 1) := by decide +kernel
theorem dX1_isAs_1 : decode cX1_isAs 1 = .ok (.getfield 34, 3) := by decide +kernel
theorem dX1_isAs_4 : decode cX1_isAs 4 = .ok (.iload_n 1, 1) := by decide +kernel
theorem dX1_isAs_5 : decode cX1_isAs 5 = .ok (.iaload, 1) := by decide +kernel
theorem dX1_isAs_6 : decode cX1_isAs 6 = .ok (.aload_n 2, 1) := by decide +kernel
theorem dX1_isAs_7 : decode cX1_isAs 7 = .ok (.getfield 110, 3) := by decide +kernel
theorem dX1_isAs_10 : decode cX1_isAs 10 = .ok (.if_icmp .ne 42, 3) := by decide +kernel
theorem dX1_isAs_13 : decode cX1_isAs 13 = .ok (.aload_n 0, 1) := by decide +kernel
theorem dX1_isAs_14 : decode cX1_isAs 14 = .ok (.getfield 37, 3) := by decide +kernel
theorem dX1_isAs_17 : decode cX1_isAs 17 = .ok (.iload_n 1, 1) := by decide +kernel
theorem dX1_isAs_18 : decode cX1_isAs 18 = .ok (.iaload, 1) := by decide +kernel
theorem dX1_isAs_19 : decode cX1_isAs 19 = .ok (.aload_n 2, 1) := by decide +kernel
theorem dX1_isAs_20 : decode cX1_isAs 20 = .ok (.getfield 112, 3) := by decide +kernel
theorem dX1_isAs_23 : decode cX1_isAs 23 = .ok (.if_icmp .ne 29, 3) := by decide +kernel
theorem dX1_isAs_26 : decode cX1_isAs 26 = .ok (.aload_n 0, 1) := by decide +kernel
theorem dX1_isAs_27 : decode cX1_isAs 27 = .ok (.getfield 9, 3) := by decide +kernel
theorem dX1_isAs_30 : decode cX1_isAs 30 = .ok (.iload_n 1, 1) := by decide +kernel
theorem dX1_isAs_31 : decode cX1_isAs 31 = .ok (.iaload, 1) := by decide +kernel
theorem dX1_isAs_32 : decode cX1_isAs 32 = .ok (.aload_n 2, 1) := by decide +kernel
theorem dX1_isAs_33 : decode cX1_isAs 33 = .ok (.getfield 114, 3) := by decide +kernel
theorem dX1_isAs_36 : decode cX1_isAs 36 = .ok (.if_icmp .ne 16, 3) := by decide +kernel
theorem dX1_isAs_39 : decode cX1_isAs 39 = .ok (.aload_n 0, 1) := by decide +kernel
theorem dX1_isAs_40 : decode cX1_isAs 40 = .ok (.getfield 31, 3) := by decide +kernel
theorem dX1_isAs_43 : decode cX1_isAs 43 = .ok (.iload_n 1, 1) := by decide +kernel
theorem dX1_isAs_44 : decode cX1_isAs 44 = .ok (.iaload, 1) := by decide +kernel
theorem dX1_isAs_45 : decode cX1_isAs 45 = .ok (.aload_n 2, 1) := by decide +kernel
theorem dX1_isAs_46 : decode cX1_isAs 46 = .ok (.getfield 116, 3) := by decide +kernel
theorem dX1_isAs_49 : decode cX1_isAs 49 = .ok (.if_icmp .eq 5, 3) := by decide +kernel
theorem dX1_isAs_52 : decode cX1_isAs 52 = .ok (.iconst 0, 1) := by decide +kernel
theorem dX1_isAs_53 : decode cX1_isAs 53 = .ok (.ireturn, 1) := by decide +kernel
theorem dX1_isAs_54 : decode cX1_isAs 54 = .ok (.iconst 0, 1) := by decide +kernel
theorem dX1_isAs_55 : decode cX1_isAs 55 = .ok (.istore_n 3, 1) := by decide +kernel
theorem dX1_isAs_56 : decode cX1_isAs 56 = .ok (.iload_n 3, 1) := by decide +kernel
theorem dX1_isAs_57 : decode cX1_isAs 57 = .ok (.aload_n 2, 1) := by decide +kernel
theorem dX1_isAs_58 : decode cX1_isAs 58 = .ok (.getfield 114, 3) := by decide +kernel
theorem dX1_isAs_61 : decode cX1_isAs 61 = .ok (.if_icmp .ge 26, 3) := by decide +kernel
theorem dX1_isAs_64 : decode cX1_isAs 64 = .ok (.aload_n 0, 1) := by decide +kernel
theorem dX1_isAs_65 : decode cX1_isAs 65 = .ok (.iload_n 1, 1) := by decide +kernel
theorem dX1_isAs_66 : decode cX1_isAs 66 = .ok (.iload_n 3, 1) := by decide +kernel
theorem dX1_isAs_67 : decode cX1_isAs 67 = .ok (.invokevirtual 61, 3) := by decide +kernel
theorem dX1_isAs_70 : decode cX1_isAs 70 = .ok (.aload_n 2, 1) := by decide +kernel
theorem dX1_isAs_71 : decode cX1_isAs 71 = .ok (.getfield 118, 3) := by decide +kernel
theorem dX1_isAs_74 : decode cX1_isAs 74 = .ok (.iload_n 3, 1) := by decide +kernel
theorem dX1_isAs_75 : decode cX1_isAs 75 = .ok (.iaload, 1) := by decide +kernel
theorem dX1_isAs_76 : decode cX1_isAs 76 = .ok (.if_icmp .eq 5, 3) := by decide +kernel
theorem dX1_isAs_79 : decode cX1_isAs 79 = .ok (.iconst 0, 1) := by decide +kernel
theorem dX1_isAs_80 : decode cX1_isAs 80 = .ok (.ireturn, 1) := by decide +kernel
theorem dX1_isAs_81 : decode cX1_isAs 81 = .ok (.iinc 3 1, 3) := by decide +kernel
theorem dX1_isAs_84 : decode cX1_isAs 84 = .ok (.goto (-28), 3) := by decide +kernel
theorem dX1_isAs_87 : decode cX1_isAs 87 = .ok (.iconst 0, 1) := by decide +kernel
theorem dX1_isAs_88 : decode cX1_isAs 88 = .ok (.istore_n 3, 1) := by decide +kernel
theorem dX1_isAs_89 : decode cX1_isAs 89 = .ok (.iload_n 3, 1) := by decide +kernel
theorem dX1_isAs_90 : decode cX1_isAs 90 = .ok (.aload_n 2, 1) := by decide +kernel
theorem dX1_isAs_91 : decode cX1_isAs 91 = .ok (.getfield 116, 3) := by decide +kernel
theorem dX1_isAs_94 : decode cX1_isAs 94 = .ok (.if_icmp .ge 26, 3) := by decide +kernel
theorem dX1_isAs_97 : decode cX1_isAs 97 = .ok (.aload_n 0, 1) := by decide +kernel
theorem dX1_isAs_98 : decode cX1_isAs 98 = .ok (.iload_n 1, 1) := by decide +kernel
theorem dX1_isAs_99 : decode cX1_isAs 99 = .ok (.iload_n 3, 1) := by decide +kernel
theorem dX1_isAs_100 : decode cX1_isAs 100 = .ok (.invokevirtual 119, 3) := by decide +kernel
theorem dX1_isAs_103 : decode cX1_isAs 103 = .ok (.aload_n 2, 1) := by decide +kernel
theorem dX1_isAs_104 : decode cX1_isAs 104 = .ok (.getfield 122, 3) := by decide +kernel
theorem dX1_isAs_107 : decode cX1_isAs 107 = .ok (.iload_n 3, 1) := by decide +kernel
theorem dX1_isAs_108 : decode cX1_isAs 108 = .ok (.baload, 1) := by decide +kernel
theorem dX1_isAs_109 : decode cX1_isAs 109 = .ok (.if_icmp .eq 5, 3) := by decide +kernel
theorem dX1_isAs_112 : decode cX1_isAs 112 = .ok (.iconst 0, 1) := by decide +kernel
theorem dX1_isAs_113 : decode cX1_isAs 113 = .ok (.ireturn, 1) := by decide +kernel
theorem dX1_isAs_114 : decode cX1_isAs 114 = .ok (.iinc 3 1, 3) := by decide +kernel
theorem dX1_isAs_117 : decode cX1_isAs 117 = .ok (.goto (-28), 3) := by decide +kernel
theorem dX1_isAs_120 : decode cX1_isAs 120 = .ok (.iconst 1, 1) := by decide +kernel
theorem dX1_isAs_121 : decode cX1_isAs 121 = .ok (.ireturn, 1) := by decide +kernel
def pCnt (k : Int) : List Int → Int
  | [] => 0
  | p :: r => (if p = k then 1 else 0) + pCnt k r
def kChl (k : Int) : List kC → Int
  | [] => 0
  | c :: r => pCnt k (kPs c) + kChl k r
theorem pCnt_rng (k : Int) : ∀ ps : List Int, 0 ≤ pCnt k ps ∧ pCnt k ps ≤ (ps.length : Int)
  | [] => ⟨Int.le_refl 0, Int.le_refl 0⟩
  | p :: r => by
    have := pCnt_rng k r
    simp only [pCnt, List.length_cons]
    split <;> omega
theorem sp_X1_childrenOf {sh : gS} {M : gM} {cs : List kC} {k : Nat} (hOK : gOK sh M) (hC : cOk sh M cs) (hk : k < cs.length) :
    gC (gr 1 22) yX1_childrenOf cX1_childrenOf 5 (some (.int)) [(4, 4), (0, (k : Int))] sh M (gPp sh M (0, kChl (k : Int) (cs.drop (k + 1)))) := by
  have h0 := hC.1
  have h1 := hC.2.1
  refine gC_ofA (lv := [_, _, _, _, _]) (by decide +kernel) (Nat.le_of_ble_eq_true rfl) rfl (fun hMw hav => ?_)
  have lp : ∀ (suf pre : List kC) (c : Nat) (acc : Int) (w : gV), gw w → cs = pre ++ suf → c = pre.length → 0 ≤ acc → acc ≤ 3 * (c : Int) → acc + kChl (k : Int) suf = kChl (k : Int) (cs.drop (k + 1)) →
      gA (gr 1 22) yX1_childrenOf cX1_childrenOf 5 (some (.int)) (gPp sh M (0, kChl (k : Int) (cs.drop (k + 1)))) (0, 0) 6 [(4, 4), (0, (k : Int)), (0, acc), (0, (c : Int)), w] [] sh M := by
    intro suf
    induction suf with
    | nil =>
      intro pre c acc w hw he hc a0 a1 hv
      have hl : cs.length = pre.length := by rw [he]; simp
      refine g_iload_n (q0 := 7) (j := 3) rfl dX1_childrenOf_6 rfl ?_
      refine g_aload_n (q0 := 8) (j := 0) rfl dX1_childrenOf_7 rfl ?_
      refine g_getf (q0 := 11) (t := 0) (fi := 0) rfl rfl ff_X1_57 dX1_childrenOf_8 rfl (sh_4 hOK) ?_
      refine g_icmp_ge (q0 := 14) (tgt := 54) rfl dX1_childrenOf_11 (by decide) (fun h11 => ?_) (fun h11 => ?_)
      · refine g_iload_n (q0 := 55) (j := 2) rfl dX1_childrenOf_54 rfl ?_
        refine g_ireturn dX1_childrenOf_55 rfl ⟨Nat.zero_le _, Nat.zero_le _⟩ ?_
        exact ⟨by rw [← hv, kChl, Int.add_zero], rfl, rfl⟩
      · omega
    | cons d r ih =>
      intro pre c acc w hw he hc a0 a1 hv
      have hl : cs.length = pre.length + r.length + 1 := by rw [he]; simp; omega
      have hkc : cs[c]? = some d := by rw [he, hc, List.getElem?_append_right (by omega)]; simp
      obtain ⟨⟨g1, g2, -⟩, g3, -⟩ := hC.2.2.2 c d hkc
      have g4 := g3.1
      rw [kChl] at hv
      have lq : ∀ (s2 s1 : List Int) (i acc2 : Int), kPs d = s1 ++ s2 → i = (s1.length : Int) → 0 ≤ acc2 → acc2 ≤ acc + i → acc2 + pCnt (k : Int) s2 = acc + pCnt (k : Int) (kPs d) →
          gA (gr 1 22) yX1_childrenOf cX1_childrenOf 5 (some (.int)) (gPp sh M (0, kChl (k : Int) (cs.drop (k + 1)))) (0, 0) 17 [(4, 4), (0, (k : Int)), (0, acc2), (0, (c : Int)), (0, i)] [] sh M := by
        intro s2
        induction s2 with
        | nil =>
          intro s1 i acc2 e1 e2 e3 e4 e5
          have hl2 : (kPs d).length = s1.length := by rw [e1]; simp
          rw [pCnt] at e5
          refine g_iload (q0 := 19) (j := 4) rfl dX1_childrenOf_17 rfl ?_
          refine g_aload_n (q0 := 20) (j := 0) rfl dX1_childrenOf_19 rfl ?_
          refine g_getp (q0 := 23) (b := 5) rfl ff_X1_9 dX1_childrenOf_20 rfl hOK (by decide) (sh_4 hOK) rfl (by decide) ?_
          refine g_iload_n (q0 := 24) (j := 3) rfl dX1_childrenOf_23 rfl ?_
          refine g_iald (q0 := 25) rfl dX1_childrenOf_24 (sh_5 hOK) (by omega) (by omega) ?_
          refine g_icmp_ge (q0 := 28) (tgt := 48) rfl dX1_childrenOf_25 (by decide) (fun h25 => ?_) (fun h25 => ?_)
          · refine g_iinc (q0 := 51) (lv2 := [_, _, _, _, _]) rfl dX1_childrenOf_48 rfl (by decide) rfl rfl (by omega) (by omega) ?_
            refine g_goto (tgt := 6) dX1_childrenOf_51 (by decide) ?_
            exact ih (pre ++ [d]) (c + 1) acc2 _ ⟨by show -2147483648 ≤ i; omega, by show i < 2147483648; omega⟩ (by rw [he]; simp) (by simp; omega) e3 (by omega) (by omega)
          · omega
        | cons p q ih2 =>
          intro s1 i acc2 e1 e2 e3 e4 e5
          have hl2 : (kPs d).length = s1.length + q.length + 1 := by rw [e1]; simp; omega
          have hp := (cPar hC hkc e1).1
          rw [← e2] at hp
          rw [pCnt] at e5
          refine g_iload (q0 := 19) (j := 4) rfl dX1_childrenOf_17 rfl ?_
          refine g_aload_n (q0 := 20) (j := 0) rfl dX1_childrenOf_19 rfl ?_
          refine g_getp (q0 := 23) (b := 5) rfl ff_X1_9 dX1_childrenOf_20 rfl hOK (by decide) (sh_4 hOK) rfl (by decide) ?_
          refine g_iload_n (q0 := 24) (j := 3) rfl dX1_childrenOf_23 rfl ?_
          refine g_iald (q0 := 25) rfl dX1_childrenOf_24 (sh_5 hOK) (by omega) (by omega) ?_
          refine g_icmp_ge (q0 := 28) (tgt := 48) rfl dX1_childrenOf_25 (by decide) (fun h25 => ?_) (fun h25 => ?_)
          · omega
          · refine g_aload_n (q0 := 29) (j := 0) rfl dX1_childrenOf_28 rfl ?_
            refine g_iload_n (q0 := 30) (j := 3) rfl dX1_childrenOf_29 rfl ?_
            refine g_iload (q0 := 32) (j := 4) rfl dX1_childrenOf_30 rfl ?_
            refine g_callVp (as := [_, _]) (rest := []) mt_X1_parent mi_X1_parent se_X1_parent ml_X1_61 dX1_childrenOf_32 (q0 := 35) rfl rfl (sh_4 hOK) rfl rfl (sp_X1_parent hOK ⟨by omega, by omega⟩ ⟨by omega, by omega⟩) rfl ⟨by decide, by decide⟩ (Nat.le_of_ble_eq_true rfl) ⟨Nat.zero_le _, Nat.zero_le _⟩ (fun hwc => ?_)
            rw [hp]
            refine g_iload_n (q0 := 36) (j := 1) rfl dX1_childrenOf_35 rfl ?_
            refine g_icmp_ne (q0 := 39) (tgt := 42) rfl dX1_childrenOf_36 (by decide) (fun h36 => ?_) (fun h36 => ?_)
            · rw [if_neg h36] at e5
              refine g_iinc (q0 := 45) (lv2 := [_, _, _, _, _]) rfl dX1_childrenOf_42 rfl (by decide) rfl rfl (by omega) (by omega) ?_
              refine g_goto (tgt := 17) dX1_childrenOf_45 (by decide) ?_
              exact ih2 (s1 ++ [p]) (i + 1) acc2 (by rw [e1]; simp) (by simp; omega) e3 (by omega) (by omega)
            · rw [if_pos h36] at e5
              refine g_iinc (q0 := 42) (lv2 := [_, _, _, _, _]) rfl dX1_childrenOf_39 rfl (by decide) rfl rfl (by omega) (by omega) ?_
              refine g_iinc (q0 := 45) (lv2 := [_, _, _, _, _]) rfl dX1_childrenOf_42 rfl (by decide) rfl rfl (by omega) (by omega) ?_
              refine g_goto (tgt := 17) dX1_childrenOf_45 (by decide) ?_
              exact ih2 (s1 ++ [p]) (i + 1) (acc2 + 1) (by rw [e1]; simp) (by simp; omega) (by omega) (by omega) (by omega)
      refine g_iload_n (q0 := 7) (j := 3) rfl dX1_childrenOf_6 rfl ?_
      refine g_aload_n (q0 := 8) (j := 0) rfl dX1_childrenOf_7 rfl ?_
      refine g_getf (q0 := 11) (t := 0) (fi := 0) rfl rfl ff_X1_57 dX1_childrenOf_8 rfl (sh_4 hOK) ?_
      refine g_icmp_ge (q0 := 14) (tgt := 54) rfl dX1_childrenOf_11 (by decide) (fun h11 => ?_) (fun h11 => ?_)
      · omega
      · refine g_iconst (q0 := 15) rfl dX1_childrenOf_14 (k := ?_)
        refine g_istore (q0 := 17) (j := 4) (lv2 := [_, _, _, _, _]) rfl dX1_childrenOf_15 (by decide) rfl rfl ?_
        exact lq (kPs d) [] 0 acc rfl rfl a0 (by omega) rfl
  refine g_iconst (q0 := 1) rfl dX1_childrenOf_0 (k := ?_)
  refine g_istore_n (q0 := 2) (j := 2) (lv2 := [_, _, _, _, _]) rfl dX1_childrenOf_1 (by decide) rfl rfl ?_
  refine g_iload_n (q0 := 3) (j := 1) rfl dX1_childrenOf_2 rfl ?_
  refine g_iconst (q0 := 4) rfl dX1_childrenOf_3 (k := ?_)
  refine g_iadd (q0 := 5) rfl dX1_childrenOf_4 (by omega) (by omega) ?_
  refine g_istore_n (q0 := 6) (j := 3) (lv2 := [_, _, _, _, _]) rfl dX1_childrenOf_5 (by decide) rfl rfl ?_
  exact lp (cs.drop (k + 1)) (cs.take (k + 1)) (k + 1) 0 _ trivial (List.take_append_drop _ _).symm (by rw [List.length_take]; omega) (Int.le_refl 0) (by omega) (by omega)
/-- the COMMITS of a HISTORY -/
def hMark (cs : List kC) (rs : List rF) (j : Nat) : Bool := rs.any (fun x => decide (j = x.2.2.1.toNat) || kAnc cs x.2.2.1.toNat j)
def rAt (cs : List kC) (rs : List rF) : Prop := ∀ x ∈ rs, 0 ≤ x.2.2.1 ∧ x.2.2.1 < (cs.length : Int)
theorem sp_X1_markHistory {sh : gS} {M : gM} {cs : List kC} {n : Nat} {a r h : Int} {rs : List rF} (hOK : gOK sh M) (hC : cOk sh M cs) (hR : rOk sh M h rs) (hat : rAt cs rs) (hT : mSh sh a n) (hr : 0 ≤ r ∧ r < n) (ha : 16 < a) (hd : h + 4 < a ∨ a + 2 < h) :
    gC (gr 1 23) yX1_markHistory cX1_markHistory 5 none [(4, 4), (4, h), (4, a), (0, r)] sh M (gPm sh (fun x M1 => x = none ∧ mPost sh M a r (hMark cs rs) M1)) := by
  have hl9 := hC.2.1
  have hT0 := hT
  obtain ⟨hs0, hs1, hs2, hlt, hn9⟩ := hT
  obtain ⟨⟨hr0, hr1, hr2, hr3, hr4, hlr⟩, hrl, hrc, hrw⟩ := hR
  refine gC_ofA (lv := [_, _, _, _, _]) (by decide +kernel) (Nat.le_of_ble_eq_true rfl) rfl (fun hMw hav => ?_)
  have lp : ∀ (suf pre : List rF) (i : Int) (M1 : gM), rs = pre ++ suf → i = (pre.length : Int) → mIs M1 a r (hMark cs pre) → gOK sh M1 → (∀ b : Int, b ≠ a + 1 → b ≠ a + 2 → M1 b = M b) → (∀ q : Int, q ≠ r → M1 (a + 1) q = M (a + 1) q ∧ M1 (a + 2) q = M (a + 2) q) →
      gA (gr 1 23) yX1_markHistory cX1_markHistory 5 none (gPm sh (fun x M1 => x = none ∧ mPost sh M a r (hMark cs rs) M1)) (0, 0) 8 [(4, 4), (4, h), (4, a), (0, r), (0, i)] [] sh M1 := by
    intro suf
    induction suf with
    | nil =>
      intro pre i M1 e1 e2 e3 hO e4 e5
      have ec : M1 h 0 = M h 0 := by rw [e4 h (by omega) (by omega)]
      have hl : rs.length = pre.length := by rw [e1]; simp
      refine g_iload (q0 := 10) (j := 4) rfl dX1_markHistory_8 rfl ?_
      refine g_aload_n (q0 := 11) (j := 1) rfl dX1_markHistory_10 rfl ?_
      refine g_getf (q0 := 14) (t := 0) (fi := 0) rfl rfl ff_X1_84 dX1_markHistory_11 rfl (by assumption) ?_
      refine g_icmp_ge (q0 := 17) (tgt := 51) rfl dX1_markHistory_14 (by decide) (fun h14 => ?_) (fun h14 => ?_)
      · refine g_return dX1_markHistory_51 rfl ⟨Nat.zero_le _, Nat.zero_le _⟩ ?_
        refine ⟨rfl, rfl, ?_, hO, e4, e5⟩
        rw [e1, List.append_nil]; exact e3
      · omega
    | cons x s ih =>
      intro pre i M1 e1 e2 e3 hO e4 e5
      have ec : M1 h 0 = M h 0 := by rw [e4 h (by omega) (by omega)]
      have ec3 : M1 (h + 3) i = x.2.2.1 := by
        rw [e4 (h + 3) (by omega) (by omega)]
        rw [e1] at hrw
        have := (rG_1 (rw_cons (rw_app hrw).2).1).2.2.1
        rwa [Int.zero_add, ← e2] at this
      have hl : rs.length = pre.length + s.length + 1 := by rw [e1]; simp; omega
      have hx := hat x (by rw [e1]; simp)
      obtain ⟨m, hm⟩ : ∃ m : Nat, x.2.2.1 = (m : Int) := ⟨x.2.2.1.toNat, by omega⟩
      have hmc : cs[m]? = some cs[m] := List.getElem?_eq_getElem (by omega)
      have hanc := (hC.2.2.2 m _ hmc).2.2.2.2.2
      rw [hm] at ec3
      refine g_iload (q0 := 10) (j := 4) rfl dX1_markHistory_8 rfl ?_
      refine g_aload_n (q0 := 11) (j := 1) rfl dX1_markHistory_10 rfl ?_
      refine g_getf (q0 := 14) (t := 0) (fi := 0) rfl rfl ff_X1_84 dX1_markHistory_11 rfl (by assumption) ?_
      refine g_icmp_ge (q0 := 17) (tgt := 51) rfl dX1_markHistory_14 (by decide) (fun h14 => ?_) (fun h14 => ?_)
      · omega
      · refine g_aload_n (q0 := 18) (j := 2) rfl dX1_markHistory_17 rfl ?_
        refine g_iload_n (q0 := 19) (j := 3) rfl dX1_markHistory_18 rfl ?_
        refine g_aload_n (q0 := 20) (j := 0) rfl dX1_markHistory_19 rfl ?_
        refine g_getp (q0 := 23) (b := 14) rfl ff_X1_48 dX1_markHistory_20 rfl hO (by decide) (sh_4 hO) rfl (by decide) ?_
        refine g_aload_n (q0 := 24) (j := 1) rfl dX1_markHistory_23 rfl ?_
        refine g_getp (q0 := 27) (b := h + 3) rfl ff_X1_87 dX1_markHistory_24 rfl hO (by omega) (by assumption) rfl rfl ?_
        refine g_iload (q0 := 29) (j := 4) rfl dX1_markHistory_27 rfl ?_
        refine g_iald (q0 := 30) rfl dX1_markHistory_29 (by assumption) (by omega) (by omega) ?_
        rw [ec3]
        refine g_callVm (as := [_, _, _]) (rest := []) mt_X3_putAll mi_X3_putAll se_X3_putAll ml_X1_76 dX1_markHistory_30 (q0 := 33) rfl rfl (by assumption) rfl rfl (sp_X3_putAll hO hT0 hr (mSh14 hO) ⟨by omega, by omega⟩ (Or.inr (Or.inr ha))) rfl ⟨by decide, by decide⟩ (Nat.le_of_ble_eq_true rfl) ⟨Nat.zero_le _, Nat.zero_le _⟩ (fun r2 M2 hP2 hw2 hMw2 => ?_)
        obtain ⟨rfl, b1, hO2, b2, b3⟩ := hP2
        have ed3 : M2 (h + 3) i = (m : Int) := by rw [b2 (h + 3) (by omega) (by omega)]; exact ec3
        refine g_aload_n (q0 := 34) (j := 2) rfl dX1_markHistory_33 rfl ?_
        refine g_iload_n (q0 := 35) (j := 3) rfl dX1_markHistory_34 rfl ?_
        refine g_aload_n (q0 := 36) (j := 1) rfl dX1_markHistory_35 rfl ?_
        refine g_getp (q0 := 39) (b := h + 3) rfl ff_X1_87 dX1_markHistory_36 rfl hO2 (by omega) (by assumption) rfl rfl ?_
        refine g_iload (q0 := 41) (j := 4) rfl dX1_markHistory_39 rfl ?_
        refine g_iald (q0 := 42) rfl dX1_markHistory_41 (by assumption) (by omega) (by omega) ?_
        rw [ed3]
        refine g_callVm (as := [_, _]) (rest := []) mt_X3_put mi_X3_put se_X3_put ml_X1_80 dX1_markHistory_42 (q0 := 45) rfl rfl (by assumption) rfl rfl (sp_X3_put hO2 hT0 hr (show m < 120 by omega)) rfl ⟨by decide, by decide⟩ (Nat.le_of_ble_eq_true rfl) ⟨Nat.zero_le _, Nat.zero_le _⟩ (fun r3 M3 hP3 hw3 hMw3 => ?_)
        obtain ⟨rfl, c1, hO3, c2, c3⟩ := hP3
        refine g_iinc (q0 := 48) (lv2 := [_, _, _, _, _]) rfl dX1_markHistory_45 rfl (by decide) rfl rfl (by omega) (by omega) ?_
        refine g_goto (tgt := 8) dX1_markHistory_48 (by decide) ?_
        refine ih (pre ++ [x]) (i + 1) M3 (by rw [e1]; simp) (by simp; omega) (fun j hj => ?_) hO3 (fun b h1 h2 => by rw [c2 b h1 h2, b2 b h1 h2, e4 b h1 h2]) (fun q hq => ⟨by rw [(c3 q hq).1, (b3 q hq).1, (e5 q hq).1], by rw [(c3 q hq).2, (b3 q hq).2, (e5 q hq).2]⟩)
        rw [c1 j hj]
        show (mB M2 a r j || decide (j = m)) = hMark cs (pre ++ [x]) j
        rw [b1 j hj]
        show ((mB M1 a r j || mB M1 14 (m : Int) j) || decide (j = m)) = hMark cs (pre ++ [x]) j
        rw [e3 j hj, mB_row (M := M) ⟨by rw [e4 _ (by omega) (by omega)], by rw [e4 _ (by omega) (by omega)]⟩, hanc j hj]
        unfold hMark
        rw [List.any_append, List.any_cons, List.any_nil, Bool.or_false, hm, Int.toNat_natCast, Bool.or_assoc, Bool.or_comm (kAnc cs m j)]
  refine g_aload_n (q0 := 1) (j := 2) rfl dX1_markHistory_0 rfl ?_
  refine g_iload_n (q0 := 2) (j := 3) rfl dX1_markHistory_1 rfl ?_
  refine g_callVm (as := [_]) (rest := []) mt_X3_clear mi_X3_clear se_X3_clear ml_X1_73 dX1_markHistory_2 (q0 := 5) rfl rfl (by assumption) rfl rfl (sp_X3_clear hOK hT0 hr) rfl ⟨by decide, by decide⟩ (Nat.le_of_ble_eq_true rfl) ⟨Nat.zero_le _, Nat.zero_le _⟩ (fun r1 M1 hP1 hw1 hMw1 => ?_)
  obtain ⟨rfl, a1, hO1, a2, a3⟩ := hP1
  refine g_iconst (q0 := 6) rfl dX1_markHistory_5 (k := ?_)
  refine g_istore (q0 := 8) (j := 4) (lv2 := [_, _, _, _, _]) rfl dX1_markHistory_6 (by decide) rfl rfl ?_
  exact lp rs [] 0 M1 rfl rfl a1 hO1 a2 a3
-- a COMMIT in the making
def dSh (sh : gS) (a : Int) : Prop := gsh sh a = some (0, 3) ∧ gsh sh (a + 1) = some (1, 3) ∧ tSh sh (a + 2) 32 ∧ gsh sh (a + 5) = some (2, 24) ∧ tSh sh (a + 6) 32 ∧ 379 < a ∧ a < 750
def dOk (sh : gS) (M : gM) (a : Int) (d : kC) : Prop :=
  dSh sh a ∧ M a 1 = ((kPs d).length : Int) ∧ (kPs d).length ≤ 3 ∧ rw_ (M (a + 1)) 0 (kPs d) ∧ tOk sh M (a + 2) 32 (kFs d) ∧ M a 4 = ((kMs d).length : Int) ∧ (kMs d).length ≤ 24 ∧ rw_ (M (a + 5)) 0 (kMs d) ∧ M a 5 = kWh d ∧ M a 6 = kHr d
/-- all but the TREE -/
abbrev kAs (c d : kC) : Prop := kWh c = kWh d ∧ kHr c = kHr d ∧ kPs c = kPs d ∧ kMs c = kMs d
theorem sp_X1_isAs {sh : gS} {M : gM} {cs : List kC} {k : Nat} {c d : kC} {a : Int} (hOK : gOK sh M) (hC : cOk sh M cs) (hk : cs[k]? = some c) (hD : dOk sh M a d) :
    gC (gr 1 22) yX1_isAs cX1_isAs 4 (some (.boolean)) [(4, 4), (0, (k : Int)), (4, a)] sh M (gPp sh M (0, bI (decide (kAs c d)))) := by
  have hl := cOk_len hC hk
  obtain ⟨⟨c1, c2, c3, c4, c5, c6⟩, w, -⟩ := hC.2.2.2 k c hk
  obtain ⟨w1, w2, w3, w4, -⟩ := w
  obtain ⟨⟨s1, s2, s3, s4, s5, s6, s7⟩, d1, d2, d3, d4, d5, d6, d7, d8, d9⟩ := hD
  have hno : ¬ kAs c d → gA (gr 1 22) yX1_isAs cX1_isAs 4 (some (.boolean)) (gPp sh M (0, bI (decide (kAs c d)))) (0, 0) 52 [(4, 4), (0, (k : Int)), (4, a), (9, 0)] [] sh M := by
    intro hn
    refine g_iconst (q0 := 53) rfl dX1_isAs_52 (k := ?_)
    refine g_zreturn dX1_isAs_53 rfl (by first | rfl | exact gnz (by omega)) ⟨Nat.zero_le _, Nat.zero_le _⟩ ?_
    exact ⟨by rw [decide_eq_false hn]; rfl, rfl, rfl⟩
  refine gC_ofA (lv := [_, _, _, _]) (by decide +kernel) (Nat.le_of_ble_eq_true rfl) rfl (fun hMw hav => ?_)
  refine g_aload_n (q0 := 1) (j := 0) rfl dX1_isAs_0 rfl ?_
  refine g_getp (q0 := 4) (b := 11) rfl ff_X1_34 dX1_isAs_1 rfl hOK (by decide) (sh_4 hOK) rfl (by decide) ?_
  refine g_iload_n (q0 := 5) (j := 1) rfl dX1_isAs_4 rfl ?_
  refine g_iald (q0 := 6) rfl dX1_isAs_5 (sh_11 hOK) (by omega) (by omega) ?_
  refine g_aload_n (q0 := 7) (j := 2) rfl dX1_isAs_6 rfl ?_
  refine g_getf (q0 := 10) (t := 0) (fi := 5) rfl rfl ff_X1_110 dX1_isAs_7 rfl (by assumption) ?_
  refine g_icmp_ne (q0 := 13) (tgt := 52) rfl dX1_isAs_10 (by decide) (fun h10 => ?_) (fun h10 => ?_)
  · exact hno (fun h => h10 (by rw [c5, d8]; exact h.1))
  · refine g_aload_n (q0 := 14) (j := 0) rfl dX1_isAs_13 rfl ?_
    refine g_getp (q0 := 17) (b := 12) rfl ff_X1_37 dX1_isAs_14 rfl hOK (by decide) (sh_4 hOK) rfl (by decide) ?_
    refine g_iload_n (q0 := 18) (j := 1) rfl dX1_isAs_17 rfl ?_
    refine g_iald (q0 := 19) rfl dX1_isAs_18 (sh_12 hOK) (by omega) (by omega) ?_
    refine g_aload_n (q0 := 20) (j := 2) rfl dX1_isAs_19 rfl ?_
    refine g_getf (q0 := 23) (t := 0) (fi := 6) rfl rfl ff_X1_112 dX1_isAs_20 rfl (by assumption) ?_
    refine g_icmp_ne (q0 := 26) (tgt := 52) rfl dX1_isAs_23 (by decide) (fun h23 => ?_) (fun h23 => ?_)
    · exact hno (fun h => h23 (by rw [c6, d9]; exact h.2.1))
    · refine g_aload_n (q0 := 27) (j := 0) rfl dX1_isAs_26 rfl ?_
      refine g_getp (q0 := 30) (b := 5) rfl ff_X1_9 dX1_isAs_27 rfl hOK (by decide) (sh_4 hOK) rfl (by decide) ?_
      refine g_iload_n (q0 := 31) (j := 1) rfl dX1_isAs_30 rfl ?_
      refine g_iald (q0 := 32) rfl dX1_isAs_31 (sh_5 hOK) (by omega) (by omega) ?_
      refine g_aload_n (q0 := 33) (j := 2) rfl dX1_isAs_32 rfl ?_
      refine g_getf (q0 := 36) (t := 0) (fi := 1) rfl rfl ff_X1_114 dX1_isAs_33 rfl (by assumption) ?_
      refine g_icmp_ne (q0 := 39) (tgt := 52) rfl dX1_isAs_36 (by decide) (fun h36 => ?_) (fun h36 => ?_)
      · exact hno (fun h => h36 (by rw [c1, d1, h.2.2.1]))
      · refine g_aload_n (q0 := 40) (j := 0) rfl dX1_isAs_39 rfl ?_
        refine g_getp (q0 := 43) (b := 10) rfl ff_X1_31 dX1_isAs_40 rfl hOK (by decide) (sh_4 hOK) rfl (by decide) ?_
        refine g_iload_n (q0 := 44) (j := 1) rfl dX1_isAs_43 rfl ?_
        refine g_iald (q0 := 45) rfl dX1_isAs_44 (sh_10 hOK) (by omega) (by omega) ?_
        refine g_aload_n (q0 := 46) (j := 2) rfl dX1_isAs_45 rfl ?_
        refine g_getf (q0 := 49) (t := 0) (fi := 4) rfl rfl ff_X1_116 dX1_isAs_46 rfl (by assumption) ?_
        refine g_icmp_eq (q0 := 52) (tgt := 54) rfl dX1_isAs_49 (by decide) (fun h49 => ?_) (fun h49 => ?_)
        · rw [c5, d8] at h10
          rw [c6, d9] at h23
          rw [c1, d1] at h36
          rw [c3, d5] at h49
          have lq : ∀ (u2 v2 u1 v1 : List Int) (i : Int), kMs c = u1 ++ u2 → kMs d = v1 ++ v2 → u1.length = v1.length → i = (u1.length : Int) → kPs c = kPs d → u1 = v1 →
              gA (gr 1 22) yX1_isAs cX1_isAs 4 (some (.boolean)) (gPp sh M (0, bI (decide (kAs c d)))) (0, 0) 89 [(4, 4), (0, (k : Int)), (4, a), (0, i)] [] sh M := by
            intro u2
            induction u2 with
            | nil =>
              intro v2 u1 v1 i e1 e2 e3 e4 e5 e6
              have hu : (kMs c).length = u1.length := by rw [e1]; simp
              have hv : (kMs d).length = v1.length + v2.length := by rw [e2]; simp
              refine g_iload_n (q0 := 90) (j := 3) rfl dX1_isAs_89 rfl ?_
              refine g_aload_n (q0 := 91) (j := 2) rfl dX1_isAs_90 rfl ?_
              refine g_getf (q0 := 94) (t := 0) (fi := 4) rfl rfl ff_X1_116 dX1_isAs_91 rfl (by assumption) ?_
              refine g_icmp_ge (q0 := 97) (tgt := 120) rfl dX1_isAs_94 (by decide) (fun h94 => ?_) (fun h94 => ?_)
              · refine g_iconst (q0 := 121) rfl dX1_isAs_120 (k := ?_)
                refine g_zreturn dX1_isAs_121 rfl (by first | rfl | exact gnz (by omega)) ⟨Nat.zero_le _, Nat.zero_le _⟩ ?_
                have : v2 = [] := List.length_eq_zero_iff.mp (by omega)
                refine ⟨?_, rfl, rfl⟩
                rw [decide_eq_true ⟨h10, h23, e5, by rw [e1, e2, e6, this]⟩]
                rfl
              · omega
            | cons x u2 ih =>
              intro v2 u1 v1 i e1 e2 e3 e4 e5 e6
              have hu : (kMs c).length = u1.length + u2.length + 1 := by rw [e1]; simp; omega
              have hv : (kMs d).length = v1.length + v2.length := by rw [e2]; simp
              cases v2 with
              | nil => simp at hv; omega
              | cons y v2 =>
                have q1 := c4
                rw [e1] at q1
                have q2 := (rw_cons (rw_app q1).2).1
                have q3 := d7
                rw [e2] at q3
                have q4 := (rw_cons (rw_app q3).2).1
                rw [← e4] at q2
                rw [Int.zero_add, ← e3, ← e4] at q4
                simp only [List.length_cons] at hv
                refine g_iload_n (q0 := 90) (j := 3) rfl dX1_isAs_89 rfl ?_
                refine g_aload_n (q0 := 91) (j := 2) rfl dX1_isAs_90 rfl ?_
                refine g_getf (q0 := 94) (t := 0) (fi := 4) rfl rfl ff_X1_116 dX1_isAs_91 rfl (by assumption) ?_
                refine g_icmp_ge (q0 := 97) (tgt := 120) rfl dX1_isAs_94 (by decide) (fun h94 => ?_) (fun h94 => ?_)
                · omega
                · refine g_aload_n (q0 := 98) (j := 0) rfl dX1_isAs_97 rfl ?_
                  refine g_iload_n (q0 := 99) (j := 1) rfl dX1_isAs_98 rfl ?_
                  refine g_iload_n (q0 := 100) (j := 3) rfl dX1_isAs_99 rfl ?_
                  refine g_callVp (as := [_, _]) (rest := []) mt_X1_messageByte mi_X1_messageByte se_X1_messageByte ml_X1_119 dX1_isAs_100 (q0 := 103) rfl rfl (sh_4 hOK) rfl rfl (sp_X1_messageByte hOK ⟨by omega, by omega⟩ ⟨by omega, by omega⟩) rfl ⟨by decide, by decide⟩ (Nat.le_of_ble_eq_true rfl) ⟨Nat.zero_le _, Nat.zero_le _⟩ (fun hwc => ?_)
                  rw [q2]
                  refine g_aload_n (q0 := 104) (j := 2) rfl dX1_isAs_103 rfl ?_
                  refine g_getp (q0 := 107) (b := a + 5) rfl ff_X1_122 dX1_isAs_104 rfl hOK (by omega) (by assumption) rfl rfl ?_
                  refine g_iload_n (q0 := 108) (j := 3) rfl dX1_isAs_107 rfl ?_
                  refine g_bald (q0 := 109) rfl dX1_isAs_108 (by assumption) (by omega) (by omega) ?_
                  refine g_icmp_eq (q0 := 112) (tgt := 114) rfl dX1_isAs_109 (by decide) (fun h109 => ?_) (fun h109 => ?_)
                  · rw [q4] at h109
                    refine g_iinc (q0 := 117) (lv2 := [_, _, _, _]) rfl dX1_isAs_114 rfl (by decide) rfl rfl (by omega) (by omega) ?_
                    refine g_goto (tgt := 89) dX1_isAs_117 (by decide) ?_
                    exact ih v2 (u1 ++ [x]) (v1 ++ [y]) (i + 1) (by rw [e1]; simp) (by rw [e2]; simp) (by simp; omega) (by simp; omega) e5 (by rw [e6, h109])
                  · rw [q4] at h109
                    refine g_iconst (q0 := 113) rfl dX1_isAs_112 (k := ?_)
                    refine g_zreturn dX1_isAs_113 rfl (by first | rfl | exact gnz (by omega)) ⟨Nat.zero_le _, Nat.zero_le _⟩ ?_
                    refine ⟨?_, rfl, rfl⟩
                    rw [decide_eq_false (fun h => h109 ?_)]
                    · rfl
                    · have := h.2.2.2
                      rw [e1, e2, e6] at this
                      have := List.append_cancel_left this
                      injection this
          have lp : ∀ (u2 v2 u1 v1 : List Int) (i : Int), kPs c = u1 ++ u2 → kPs d = v1 ++ v2 → u1.length = v1.length → i = (u1.length : Int) → u1 = v1 →
              gA (gr 1 22) yX1_isAs cX1_isAs 4 (some (.boolean)) (gPp sh M (0, bI (decide (kAs c d)))) (0, 0) 56 [(4, 4), (0, (k : Int)), (4, a), (0, i)] [] sh M := by
            intro u2
            induction u2 with
            | nil =>
              intro v2 u1 v1 i e1 e2 e3 e4 e6
              have hu : (kPs c).length = u1.length := by rw [e1]; simp
              have hv : (kPs d).length = v1.length + v2.length := by rw [e2]; simp
              refine g_iload_n (q0 := 57) (j := 3) rfl dX1_isAs_56 rfl ?_
              refine g_aload_n (q0 := 58) (j := 2) rfl dX1_isAs_57 rfl ?_
              refine g_getf (q0 := 61) (t := 0) (fi := 1) rfl rfl ff_X1_114 dX1_isAs_58 rfl (by assumption) ?_
              refine g_icmp_ge (q0 := 64) (tgt := 87) rfl dX1_isAs_61 (by decide) (fun h61 => ?_) (fun h61 => ?_)
              · refine g_iconst (q0 := 88) rfl dX1_isAs_87 (k := ?_)
                refine g_istore_n (q0 := 89) (j := 3) (lv2 := [_, _, _, _]) rfl dX1_isAs_88 (by decide) rfl rfl ?_
                have : v2 = [] := List.length_eq_zero_iff.mp (by omega)
                exact lq (kMs c) (kMs d) [] [] 0 rfl rfl rfl rfl (by rw [e1, e2, e6, this]) rfl
              · omega
            | cons x u2 ih =>
              intro v2 u1 v1 i e1 e2 e3 e4 e6
              have hu : (kPs c).length = u1.length + u2.length + 1 := by rw [e1]; simp; omega
              have hv : (kPs d).length = v1.length + v2.length := by rw [e2]; simp
              cases v2 with
              | nil => simp at hv; omega
              | cons y v2 =>
                have q1 := c2
                rw [e1] at q1
                have q2 := (rw_cons (rw_app q1).2).1
                have q3 := d3
                rw [e2] at q3
                have q4 := (rw_cons (rw_app q3).2).1
                rw [← e4] at q2
                rw [Int.zero_add, ← e3, ← e4] at q4
                simp only [List.length_cons] at hv
                refine g_iload_n (q0 := 57) (j := 3) rfl dX1_isAs_56 rfl ?_
                refine g_aload_n (q0 := 58) (j := 2) rfl dX1_isAs_57 rfl ?_
                refine g_getf (q0 := 61) (t := 0) (fi := 1) rfl rfl ff_X1_114 dX1_isAs_58 rfl (by assumption) ?_
                refine g_icmp_ge (q0 := 64) (tgt := 87) rfl dX1_isAs_61 (by decide) (fun h61 => ?_) (fun h61 => ?_)
                · omega
                · refine g_aload_n (q0 := 65) (j := 0) rfl dX1_isAs_64 rfl ?_
                  refine g_iload_n (q0 := 66) (j := 1) rfl dX1_isAs_65 rfl ?_
                  refine g_iload_n (q0 := 67) (j := 3) rfl dX1_isAs_66 rfl ?_
                  refine g_callVp (as := [_, _]) (rest := []) mt_X1_parent mi_X1_parent se_X1_parent ml_X1_61 dX1_isAs_67 (q0 := 70) rfl rfl (sh_4 hOK) rfl rfl (sp_X1_parent hOK ⟨by omega, by omega⟩ ⟨by omega, by omega⟩) rfl ⟨by decide, by decide⟩ (Nat.le_of_ble_eq_true rfl) ⟨Nat.zero_le _, Nat.zero_le _⟩ (fun hwc => ?_)
                  rw [q2]
                  refine g_aload_n (q0 := 71) (j := 2) rfl dX1_isAs_70 rfl ?_
                  refine g_getp (q0 := 74) (b := a + 1) rfl ff_X1_118 dX1_isAs_71 rfl hOK (by omega) (by assumption) rfl rfl ?_
                  refine g_iload_n (q0 := 75) (j := 3) rfl dX1_isAs_74 rfl ?_
                  refine g_iald (q0 := 76) rfl dX1_isAs_75 (by assumption) (by omega) (by omega) ?_
                  refine g_icmp_eq (q0 := 79) (tgt := 81) rfl dX1_isAs_76 (by decide) (fun h76 => ?_) (fun h76 => ?_)
                  · rw [q4] at h76
                    refine g_iinc (q0 := 84) (lv2 := [_, _, _, _]) rfl dX1_isAs_81 rfl (by decide) rfl rfl (by omega) (by omega) ?_
                    refine g_goto (tgt := 56) dX1_isAs_84 (by decide) ?_
                    exact ih v2 (u1 ++ [x]) (v1 ++ [y]) (i + 1) (by rw [e1]; simp) (by rw [e2]; simp) (by simp; omega) (by simp; omega) (by rw [e6, h76])
                  · rw [q4] at h76
                    refine g_iconst (q0 := 80) rfl dX1_isAs_79 (k := ?_)
                    refine g_zreturn dX1_isAs_80 rfl (by first | rfl | exact gnz (by omega)) ⟨Nat.zero_le _, Nat.zero_le _⟩ ?_
                    refine ⟨?_, rfl, rfl⟩
                    rw [decide_eq_false (fun h => h76 ?_)]
                    · rfl
                    · have := h.2.2.1
                      rw [e1, e2, e6] at this
                      have := List.append_cancel_left this
                      injection this
          refine g_iconst (q0 := 55) rfl dX1_isAs_54 (k := ?_)
          refine g_istore_n (q0 := 56) (j := 3) (lv2 := [_, _, _, _]) rfl dX1_isAs_55 (by decide) rfl rfl ?_
          exact lp (kPs c) (kPs d) [] [] 0 rfl rfl rfl rfl rfl
        · exact hno (fun h => h49 (by rw [c3, d5, h.2.2.2]))
