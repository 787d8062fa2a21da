-- ==== the call spelt, by the class
theorem dX11_spelt_0 : decode cX11_spelt 0 = .ok (.aload_n 0, 1) := by decide +kernel
theorem dX11_spelt_1 : decode cX11_spelt 1 = .ok (.getfield 27, 3) := by decide +kernel
theorem dX11_spelt_4 : decode cX11_spelt 4 = .ok (.iload_n 1, 1) := by decide +kernel
theorem dX11_spelt_5 : decode cX11_spelt 5 = .ok (.invokevirtual 152, 3) := by decide +kernel
theorem dX11_spelt_8 : decode cX11_spelt 8 = .ok (.ifCond .eq 14, 3) := by decide +kernel
theorem dX11_spelt_11 : decode cX11_spelt 11 = .ok (.iload_n 2, 1) := by decide +kernel
theorem dX11_spelt_12 : decode cX11_spelt 12 = .ok (.ifCond .lt 10, 3) := by decide +kernel
theorem dX11_spelt_15 : decode cX11_spelt 15 = .ok (.iload_n 2, 1) := by decide +kernel
theorem dX11_spelt_16 : decode cX11_spelt 16 = .ok (.sipush 600, 3) := by decide +kernel
theorem dX11_spelt_19 : decode cX11_spelt 19 = .ok (.if_icmp .lt 5, 3) := by decide +kernel
theorem dX11_spelt_22 : decode cX11_spelt 22 = .ok (.iconst (-1), 1) := by decide +kernel
theorem dX11_spelt_23 : decode cX11_spelt 23 = .ok (.ireturn, 1) := by decide +kernel
theorem dX11_spelt_24 : decode cX11_spelt 24 = .ok (.aload_n 0, 1) := by decide +kernel
theorem dX11_spelt_25 : decode cX11_spelt 25 = .ok (.getfield 88, 3) := by decide +kernel
theorem dX11_spelt_28 : decode cX11_spelt 28 = .ok (.iconst 0, 1) := by decide +kernel
theorem dX11_spelt_29 : decode cX11_spelt 29 = .ok (.invokevirtual 317, 3) := by decide +kernel
theorem dX11_spelt_32 : decode cX11_spelt 32 = .ok (.iconst 0, 1) := by decide +kernel
theorem dX11_spelt_33 : decode cX11_spelt 33 = .ok (.istore_n 3, 1) := by decide +kernel
theorem dX11_spelt_34 : decode cX11_spelt 34 = .ok (.iload_n 3, 1) := by decide +kernel
theorem dX11_spelt_35 : decode cX11_spelt 35 = .ok (.aload_n 0, 1) := by decide +kernel
theorem dX11_spelt_36 : decode cX11_spelt 36 = .ok (.getfield 27, 3) := by decide +kernel
theorem dX11_spelt_39 : decode cX11_spelt 39 = .ok (.getfield 295, 3) := by decide +kernel
theorem dX11_spelt_42 : decode cX11_spelt 42 = .ok (.iload_n 1, 1) := by decide +kernel
theorem dX11_spelt_43 : decode cX11_spelt 43 = .ok (.iaload, 1) := by decide +kernel
theorem dX11_spelt_44 : decode cX11_spelt 44 = .ok (.if_icmp .ge 40, 3) := by decide +kernel
theorem dX11_spelt_47 : decode cX11_spelt 47 = .ok (.iload_n 3, 1) := by decide +kernel
theorem dX11_spelt_48 : decode cX11_spelt 48 = .ok (.ifCond .le 13, 3) := by decide +kernel
theorem dX11_spelt_51 : decode cX11_spelt 51 = .ok (.aload_n 0, 1) := by decide +kernel
theorem dX11_spelt_52 : decode cX11_spelt 52 = .ok (.getfield 88, 3) := by decide +kernel
theorem dX11_spelt_55 : decode cX11_spelt 55 = .ok (.bipush 44, 2) := by decide +kernel
theorem dX11_spelt_57 : decode cX11_spelt 57 = .ok (.invokevirtual 320, 3) := by decide +kernel
theorem dX11_spelt_60 : decode cX11_spelt 60 = .ok (.pop, 1) := by decide +kernel
theorem dX11_spelt_61 : decode cX11_spelt 61 = .ok (.aload_n 0, 1) := by decide +kernel
theorem dX11_spelt_62 : decode cX11_spelt 62 = .ok (.getfield 88, 3) := by decide +kernel
theorem dX11_spelt_65 : decode cX11_spelt 65 = .ok (.aload_n 0, 1) := by decide +kernel
theorem dX11_spelt_66 : decode cX11_spelt 66 = .ok (.getfield 27, 3) := by decide +kernel
theorem dX11_spelt_69 : decode cX11_spelt 69 = .ok (.iload_n 1, 1) := by decide +kernel
theorem dX11_spelt_70 : decode cX11_spelt 70 = .ok (.iload_n 3, 1) := by decide +kernel
theorem dX11_spelt_71 : decode cX11_spelt 71 = .ok (.invokevirtual 314, 3) := by decide +kernel
theorem dX11_spelt_74 : decode cX11_spelt 74 = .ok (.invokevirtual 324, 3) := by decide +kernel
theorem dX11_spelt_77 : decode cX11_spelt 77 = .ok (.pop, 1) := by decide +kernel
theorem dX11_spelt_78 : decode cX11_spelt 78 = .ok (.iinc 3 1, 3) := by decide +kernel
theorem dX11_spelt_81 : decode cX11_spelt 81 = .ok (.goto (-47), 3) := by decide +kernel
theorem dX11_spelt_84 : decode cX11_spelt 84 = .ok (.aload_n 0, 1) := by decide +kernel
theorem dX11_spelt_85 : decode cX11_spelt 85 = .ok (.getfield 88, 3) := by decide +kernel
theorem dX11_spelt_88 : decode cX11_spelt 88 = .ok (.bipush 58, 2) := by decide +kernel
theorem dX11_spelt_90 : decode cX11_spelt 90 = .ok (.invokevirtual 320, 3) := by decide +kernel
theorem dX11_spelt_93 : decode cX11_spelt 93 = .ok (.pop, 1) := by decide +kernel
theorem dX11_spelt_94 : decode cX11_spelt 94 = .ok (.aload_n 0, 1) := by decide +kernel
theorem dX11_spelt_95 : decode cX11_spelt 95 = .ok (.getfield 27, 3) := by decide +kernel
theorem dX11_spelt_98 : decode cX11_spelt 98 = .ok (.iload_n 1, 1) := by decide +kernel
theorem dX11_spelt_99 : decode cX11_spelt 99 = .ok (.invokevirtual 155, 3) := by decide +kernel
theorem dX11_spelt_102 : decode cX11_spelt 102 = .ok (.aload_n 0, 1) := by decide +kernel
theorem dX11_spelt_103 : decode cX11_spelt 103 = .ok (.getfield 88, 3) := by decide +kernel
theorem dX11_spelt_106 : decode cX11_spelt 106 = .ok (.invokevirtual 327, 3) := by decide +kernel
theorem dX11_spelt_109 : decode cX11_spelt 109 = .ok (.aload_n 0, 1) := by decide +kernel
theorem dX11_spelt_110 : decode cX11_spelt 110 = .ok (.getfield 88, 3) := by decide +kernel
theorem dX11_spelt_113 : decode cX11_spelt 113 = .ok (.bipush 58, 2) := by decide +kernel
theorem dX11_spelt_115 : decode cX11_spelt 115 = .ok (.invokevirtual 320, 3) := by decide +kernel
theorem dX11_spelt_118 : decode cX11_spelt 118 = .ok (.pop, 1) := by decide +kernel
theorem dX11_spelt_119 : decode cX11_spelt 119 = .ok (.iconst 0, 1) := by decide +kernel
theorem dX11_spelt_120 : decode cX11_spelt 120 = .ok (.istore_n 3, 1) := by decide +kernel
theorem dX11_spelt_121 : decode cX11_spelt 121 = .ok (.iload_n 3, 1) := by decide +kernel
theorem dX11_spelt_122 : decode cX11_spelt 122 = .ok (.aload_n 0, 1) := by decide +kernel
theorem dX11_spelt_123 : decode cX11_spelt 123 = .ok (.getfield 27, 3) := by decide +kernel
theorem dX11_spelt_126 : decode cX11_spelt 126 = .ok (.getfield 298, 3) := by decide +kernel
theorem dX11_spelt_129 : decode cX11_spelt 129 = .ok (.iload_n 1, 1) := by decide +kernel
theorem dX11_spelt_130 : decode cX11_spelt 130 = .ok (.iaload, 1) := by decide +kernel
theorem dX11_spelt_131 : decode cX11_spelt 131 = .ok (.if_icmp .ge 27, 3) := by decide +kernel
theorem dX11_spelt_134 : decode cX11_spelt 134 = .ok (.aload_n 0, 1) := by decide +kernel
theorem dX11_spelt_135 : decode cX11_spelt 135 = .ok (.getfield 88, 3) := by decide +kernel
theorem dX11_spelt_138 : decode cX11_spelt 138 = .ok (.aload_n 0, 1) := by decide +kernel
theorem dX11_spelt_139 : decode cX11_spelt 139 = .ok (.getfield 27, 3) := by decide +kernel
theorem dX11_spelt_142 : decode cX11_spelt 142 = .ok (.iload_n 1, 1) := by decide +kernel
theorem dX11_spelt_143 : decode cX11_spelt 143 = .ok (.iload_n 3, 1) := by decide +kernel
theorem dX11_spelt_144 : decode cX11_spelt 144 = .ok (.invokevirtual 331, 3) := by decide +kernel
theorem dX11_spelt_147 : decode cX11_spelt 147 = .ok (.i2c, 1) := by decide +kernel
theorem dX11_spelt_148 : decode cX11_spelt 148 = .ok (.invokevirtual 320, 3) := by decide +kernel
theorem dX11_spelt_151 : decode cX11_spelt 151 = .ok (.pop, 1) := by decide +kernel
theorem dX11_spelt_152 : decode cX11_spelt 152 = .ok (.iinc 3 1, 3) := by decide +kernel
theorem dX11_spelt_155 : decode cX11_spelt 155 = .ok (.goto (-34), 3) := by decide +kernel
theorem dX11_spelt_158 : decode cX11_spelt 158 = .ok (.iload_n 2, 1) := by decide +kernel
theorem dX11_spelt_159 : decode cX11_spelt 159 = .ok (.aload_n 0, 1) := by decide +kernel
theorem dX11_spelt_160 : decode cX11_spelt 160 = .ok (.getfield 88, 3) := by decide +kernel
theorem dX11_spelt_163 : decode cX11_spelt 163 = .ok (.invokevirtual 334, 3) := by decide +kernel
theorem dX11_spelt_166 : decode cX11_spelt 166 = .ok (.if_icmp .ge 14, 3) := by decide +kernel
theorem dX11_spelt_169 : decode cX11_spelt 169 = .ok (.aload_n 0, 1) := by decide +kernel
theorem dX11_spelt_170 : decode cX11_spelt 170 = .ok (.getfield 88, 3) := by decide +kernel
theorem dX11_spelt_173 : decode cX11_spelt 173 = .ok (.iload_n 2, 1) := by decide +kernel
theorem dX11_spelt_174 : decode cX11_spelt 174 = .ok (.invokevirtual 337, 3) := by decide +kernel
theorem dX11_spelt_177 : decode cX11_spelt 177 = .ok (.goto 5, 3) := by decide +kernel
theorem dX11_spelt_180 : decode cX11_spelt 180 = .ok (.bipush (-2), 2) := by decide +kernel
theorem dX11_spelt_182 : decode cX11_spelt 182 = .ok (.ireturn, 1) := by decide +kernel
def spR : Nat → List Int → List Int
  | _, [] => []
  | i, p :: r => (if 0 < i then [44] else []) ++ (kDg p ++ spR (i + 1) r)
theorem spR_c (i : Nat) (p : Int) (r : List Int) : spR i (p :: r) = (if 0 < i then [44] else []) ++ (kDg p ++ spR (i + 1) r) := rfl
/-- a COMMIT, spelt -/
def kTx (c : kC) : List Int := spR 0 (kPs c) ++ (58 :: (spF 0 (kFs c) ++ (58 :: kMs c)))
def aSpelt (z : aS) (k at_ : Int) : Int := if bC (aCs z) k = true ∧ 0 ≤ at_ ∧ at_ < 600 then (match (aCs z)[k.toNat]? with | some c => (match (kTx c)[at_.toNat]? with | some v => v | none => -2) | none => -1) else -1
theorem spP_len (p : Int) : ∀ k x : Nat, (spP p x k).length ≤ 2 * k
  | 0, x => Nat.zero_le _
  | k + 1, x => by
    have := spP_len p k (x + 1)
    rw [spP_s, List.length_append, List.length_cons]
    by_cases h : 0 < x
    · rw [if_pos h, List.length_singleton]; omega
    · rw [if_neg h, List.length_nil]; omega
theorem dgS_len (c : Int) : ∀ n : Nat, (dgS c n).length = n
  | 0 => rfl
  | n + 1 => by
    have := dgS_len c n
    unfold dgS
    rw [List.length_cons, this]
theorem fT_len (f : gF) : (fT f).length ≤ 19 := by
  have h1 := spP_len f.1 (pNm f.1).toNat 0
  have h2 := dgS_len f.2 (dgN 6 f.2).toNat
  have h3 := dgN_rng 6 f.2
  have h4 := pNm_rng f.1
  unfold fT pT cT2
  rw [List.length_append, List.length_cons]
  omega
theorem spF_len : ∀ (fs : List gF) (i : Nat), (spF i fs).length ≤ 20 * fs.length
  | [], _ => Nat.zero_le _
  | f :: r, i => by
    have h1 := spF_len r (i + 1)
    have h2 := fT_len f
    rw [spF_c, List.length_append, List.length_append, List.length_cons]
    by_cases h : 0 < i
    · rw [if_pos h, List.length_singleton]; omega
    · rw [if_neg h, List.length_nil]; omega
theorem spR_len : ∀ (ps : List Int) (i : Nat), (spR i ps).length ≤ 4 * ps.length
  | [], _ => Nat.zero_le _
  | p :: r, i => by
    have h1 := spR_len r (i + 1)
    have h2 := kDg_len p
    rw [spR_c, List.length_append, List.length_append, List.length_cons]
    by_cases h : 0 < i
    · rw [if_pos h, List.length_singleton]; omega
    · rw [if_neg h, List.length_nil]; omega
theorem kTx_len {k : Int} {c : kC} (hw : kWf k c) : (kTx c).length ≤ 400 := by
  have h1 := spR_len (kPs c) 0
  have h2 := spF_len (kFs c) 0
  obtain ⟨w1, -, w2, -, -, -, w3⟩ := hw
  unfold kTx
  rw [List.length_append, List.length_cons, List.length_append, List.length_cons]
  omega
theorem drop_at {α : Type} {l : List α} {x : Nat} {p : α} {r : List α} (h : l.drop x = p :: r) : l[x]? = some p ∧ l.drop (x + 1) = r := by
  refine ⟨?_, ?_⟩
  · have e : (l.drop x)[0]? = some p := by rw [h]; rfl
    rw [List.getElem?_drop] at e
    exact e
  · rw [← List.drop_drop, h]; rfl
/-- what the call comes to -/
def sQ (sh : gS) (M : gM) (z : aS) (v : Int) : Option gV → gS → gM → Prop := fun r sh1 M1 => r = some (0, v) ∧ cS sh1 M1 z ∧ tF sh M sh1 M1 ∧ ∃ (i : Nat) (s : List Int), tX sh1 M1 i s
theorem sp_X11_spelt {sh : gS} {M : gM} {z : aS} {k at_ : Int} (hz : cS sh M z) (hkO : kOk (aCs z)) (hT : ∃ (i : Nat) (s : List Int), tX sh M i s) :
    gC (gx 11 244 5 1106) yX11_spelt cX11_spelt 4 (some (.int)) [(4, 0), (0, k), (0, at_)] sh M (sQ sh M z (aSpelt z k at_)) := by
  have hOK := hz.1
  have bad : ¬ (bC (aCs z) k = true ∧ 0 ≤ at_ ∧ at_ < 600) → sQ sh M z (aSpelt z k at_) (some (0, -1)) sh M := fun h => by
    unfold aSpelt
    rw [if_neg h]
    exact ⟨rfl, hz, tF_refl _ _, hT⟩
  refine gC_ofA (lv := [_, _, _, _]) (by decide +kernel) (Nat.le_of_ble_eq_true rfl) rfl (fun hMw hav => ?_)
  refine g_aload_n (q0 := 1) (j := 0) rfl dX11_spelt_0 rfl ?_
  refine g_getp (q0 := 4) (b := 4) rfl ff_X11_27 dX11_spelt_1 rfl hOK (by decide) (sh_0 hOK) rfl (by decide) ?_
  refine g_iload_n (q0 := 5) (j := 1) rfl dX11_spelt_4 rfl ?_
  refine g_callVp (as := [_]) (rest := []) mt_X1_has mi_X1_has se_X1_has ml_X11_152 dX11_spelt_5 (q0 := 8) rfl rfl (sh_4 hOK) rfl rfl (sp_X1_has hOK hz.2.1) rfl ⟨by decide, by decide⟩ (Nat.le_of_ble_eq_true rfl) ⟨Nat.zero_le _, Nat.zero_le _⟩ (fun hwc => ?_)
  refine g_if_eq (q0 := 11) (tgt := 22) rfl dX11_spelt_8 (by decide) (fun h8 => ?_) (fun h8 => ?_)
  · refine g_iconst (q0 := 23) rfl dX11_spelt_22 (k := ?_)
    refine g_ireturn dX11_spelt_23 rfl ⟨Nat.zero_le _, Nat.zero_le _⟩ ?_
    refine bad (fun q => ?_)
    have q1 := of_decide_eq_true q.1
    rw [if_pos q1] at h8
    exact absurd h8 (by decide)
  · have hk : 0 ≤ k ∧ k < ((aCs z).length : Int) := by
      by_cases q : 0 ≤ k ∧ k < ((aCs z).length : Int)
      · exact q
      · rw [if_neg q] at h8; exact absurd rfl h8
    refine g_iload_n (q0 := 12) (j := 2) rfl dX11_spelt_11 rfl ?_
    refine g_if_lt (q0 := 15) (tgt := 22) rfl dX11_spelt_12 (by decide) (fun h12 => ?_) (fun h12 => ?_)
    · refine g_iconst (q0 := 23) rfl dX11_spelt_22 (k := ?_)
      refine g_ireturn dX11_spelt_23 rfl ⟨Nat.zero_le _, Nat.zero_le _⟩ ?_
      exact bad (fun q => by omega)
    · refine g_iload_n (q0 := 16) (j := 2) rfl dX11_spelt_15 rfl ?_
      refine g_sipush (q0 := 19) rfl dX11_spelt_16 (k := ?_)
      refine g_icmp_lt (q0 := 22) (tgt := 24) rfl dX11_spelt_19 (by decide) (fun h19 => ?_) (fun h19 => ?_)
      · -- spelt
        obtain ⟨i, s0, hX⟩ := hT
        obtain ⟨kn, rfl⟩ : ∃ n : Nat, k = (n : Int) := ⟨k.toNat, by omega⟩
        have hkl : kn < (aCs z).length := by omega
        obtain ⟨c, hc⟩ : ∃ c, (aCs z)[kn]? = some c := ⟨_, List.getElem?_eq_getElem hkl⟩
        obtain ⟨hwf, htw, -⟩ := hkO kn c hc
        have hWl := kTx_len hwf
        have hi5 := hX.2.2.2.2.2.2.1
        have hlen := hz.2.1.2.1
        refine g_aload_n (q0 := 25) (j := 0) rfl dX11_spelt_24 rfl ?_
        refine g_getp (q0 := 28) (b := 475) rfl ff_X11_88 dX11_spelt_25 rfl hOK (by decide) (sh_0 hOK) rfl (by decide) ?_
        refine g_iconst (q0 := 29) rfl dX11_spelt_28 (k := ?_)
        refine g_callV (as := [_]) (rest := []) mt_J4_setLength_d00df mi_J4_setLength_d00df se_J4_setLength_d00df ml_X11_317 dX11_spelt_29 (q0 := 32) rfl rfl (sh_475 hOK) rfl rfl (sp_J4_setLength hX) rfl ⟨Nat.le_of_ble_eq_true rfl, Nat.le_of_ble_eq_true rfl⟩ ⟨Nat.zero_le _, Nat.zero_le _⟩ (Nat.le_of_ble_eq_true rfl) (fun r1 sh1 M1 hP1 hw1 hMw1 => ?_)
        obtain ⟨rfl, hX1, hF1⟩ := hP1
        refine tK_0 hX1 ?_
        have hX1' : tX sh1 M1 (tI i ([] : List Int).length) [] := by rw [tK_in hX1]; exact hX1
        have fin : ∀ (x : Nat) (sh2 : gS) (M2 : gM), tX sh2 M2 (tI i (kTx c).length) (kTx c) → tF sh M sh2 M2 →
            gA (gx 11 244 5 1106) yX11_spelt cX11_spelt 4 (some (.int)) (sQ sh M z (aSpelt z (kn : Int) at_)) (tK i (kTx c)) 158 [(4, 0), (0, (kn : Int)), (0, at_), (0, (x : Int))] [] sh2 M2 := by
          intro x sh2 M2 hX2 hF2
          have hz2 := cS_tF hz hF2 hX2.1
          have hO2 := hX2.1
          have good : bC (aCs z) (kn : Int) = true ∧ 0 ≤ at_ ∧ at_ < 600 := ⟨decide_eq_true hk, by omega, by omega⟩
          refine g_iload_n (q0 := 159) (j := 2) rfl dX11_spelt_158 rfl ?_
          refine g_aload_n (q0 := 160) (j := 0) rfl dX11_spelt_159 rfl ?_
          refine g_getp (q0 := 163) (b := 475) rfl ff_X11_88 dX11_spelt_160 rfl hO2 (by decide) (sh_0 hO2) rfl (by decide) ?_
          refine g_callVp (as := []) (rest := [_]) mt_J4_length_8abf5 mi_J4_length_8abf5 se_J4_length_8abf5 ml_X11_334 dX11_spelt_163 (q0 := 166) rfl rfl (sh_475 hO2) rfl rfl (sp_J4_length hX2) rfl ⟨Nat.le_of_ble_eq_true rfl, Nat.le_of_ble_eq_true rfl⟩ (Nat.le_of_ble_eq_true rfl) (tK_endM hi5) (fun hwc => ?_)
          refine g_icmp_ge (q0 := 169) (tgt := 180) rfl dX11_spelt_166 (by decide) (fun h166 => ?_) (fun h166 => ?_)
          · refine g_bipush (q0 := 182) rfl dX11_spelt_180 (k := ?_)
            refine g_ireturn dX11_spelt_182 rfl (tK_endM hi5) ?_
            refine ⟨?_, hz2, hF2, _, _, hX2⟩
            unfold aSpelt
            rw [if_pos good, Int.toNat_natCast, hc]
            show some (0, (-2 : Int)) = some (0, match (kTx c)[at_.toNat]? with | some v => v | none => -2)
            rw [List.getElem?_eq_none (by omega)]
          · obtain ⟨v, hv⟩ : ∃ v, (kTx c)[at_.toNat]? = some v := ⟨_, List.getElem?_eq_getElem (by omega)⟩
            have hch := sp_J4_charAt hX2 hv
            rw [show ((at_.toNat : Nat) : Int) = at_ by omega] at hch
            refine g_aload_n (q0 := 170) (j := 0) rfl dX11_spelt_169 rfl ?_
            refine g_getp (q0 := 173) (b := 475) rfl ff_X11_88 dX11_spelt_170 rfl hO2 (by decide) (sh_0 hO2) rfl (by decide) ?_
            refine g_iload_n (q0 := 174) (j := 2) rfl dX11_spelt_173 rfl ?_
            refine g_callVp (as := [_]) (rest := []) mt_J4_charAt_5068e mi_J4_charAt_5068e se_J4_charAt_5068e ml_X11_337 dX11_spelt_174 (q0 := 177) rfl rfl (sh_475 hO2) rfl rfl hch rfl ⟨Nat.le_of_ble_eq_true rfl, Nat.le_of_ble_eq_true rfl⟩ (Nat.le_of_ble_eq_true rfl) (tK_endM hi5) (fun hwc => ?_)
            refine g_goto (tgt := 182) dX11_spelt_177 (by decide) ?_
            refine g_ireturn dX11_spelt_182 rfl (tK_endM hi5) ?_
            refine ⟨?_, hz2, hF2, _, _, hX2⟩
            unfold aSpelt
            rw [if_pos good, Int.toNat_natCast, hc]
            show some (0, v) = some (0, match (kTx c)[at_.toNat]? with | some v => v | none => -2)
            rw [hv]
        have lm : ∀ (suf : List Int) (x : Nat) (sh2 : gS) (M2 : gM) (t : List Int), (kMs c).drop x = suf → t ++ suf = kTx c → tX sh2 M2 (tI i t.length) t → tF sh M sh2 M2 →
            gA (gx 11 244 5 1106) yX11_spelt cX11_spelt 4 (some (.int)) (sQ sh M z (aSpelt z (kn : Int) at_)) (tK i t) 121 [(4, 0), (0, (kn : Int)), (0, at_), (0, (x : Int))] [] sh2 M2 := by
          intro suf
          induction suf with
          | nil =>
            intro x sh2 M2 t hd ht hX2 hF2
            have e : t = kTx c := by rw [← ht]; exact (List.append_nil t).symm
            subst e
            have hz2 := cS_tF hz hF2 hX2.1
            have hO2 := hX2.1
            obtain ⟨⟨r1, r2, r3, r4, -⟩, -⟩ := hz2.2.1.2.2.2 kn c hc
            have hx := List.drop_eq_nil_iff.mp hd
            refine g_iload_n (q0 := 122) (j := 3) rfl dX11_spelt_121 rfl ?_
            refine g_aload_n (q0 := 123) (j := 0) rfl dX11_spelt_122 rfl ?_
            refine g_getp (q0 := 126) (b := 4) rfl ff_X11_27 dX11_spelt_123 rfl hO2 (by decide) (sh_0 hO2) rfl (by decide) ?_
            refine g_getp (q0 := 129) (b := 10) rfl ff_X11_298 dX11_spelt_126 rfl hO2 (by decide) (sh_4 hO2) rfl (by decide) ?_
            refine g_iload_n (q0 := 130) (j := 1) rfl dX11_spelt_129 rfl ?_
            refine g_iald (q0 := 131) rfl dX11_spelt_130 (sh_10 hO2) (by omega) (by omega) ?_
            rw [r3]
            refine g_icmp_ge (q0 := 134) (tgt := 158) rfl dX11_spelt_131 (by decide) (fun h131 => ?_) (fun h131 => ?_)
            · exact fin x sh2 M2 hX2 hF2
            · exact absurd h131 (by omega)
          | cons b r ih =>
            intro x sh2 M2 t hd ht hX2 hF2
            have hz2 := cS_tF hz hF2 hX2.1
            have hO2 := hX2.1
            obtain ⟨⟨r1, r2, r3, r4, -⟩, -⟩ := hz2.2.1.2.2.2 kn c hc
            obtain ⟨hb, hd2⟩ := drop_at hd
            have hxl := (List.getElem?_eq_some_iff.mp hb).1
            have hbr := hwf.2.2.2.1 b (List.mem_of_getElem? hb)
            have hml := hwf.2.2.1
            obtain ⟨-, e2, -⟩ := ch_id hbr.1 hbr.2
            have ht3 : (t ++ [b]) ++ r = kTx c := by rw [← ht, List.append_assoc]; rfl
            have hl3 := app_le ht3
            refine g_iload_n (q0 := 122) (j := 3) rfl dX11_spelt_121 rfl ?_
            refine g_aload_n (q0 := 123) (j := 0) rfl dX11_spelt_122 rfl ?_
            refine g_getp (q0 := 126) (b := 4) rfl ff_X11_27 dX11_spelt_123 rfl hO2 (by decide) (sh_0 hO2) rfl (by decide) ?_
            refine g_getp (q0 := 129) (b := 10) rfl ff_X11_298 dX11_spelt_126 rfl hO2 (by decide) (sh_4 hO2) rfl (by decide) ?_
            refine g_iload_n (q0 := 130) (j := 1) rfl dX11_spelt_129 rfl ?_
            refine g_iald (q0 := 131) rfl dX11_spelt_130 (sh_10 hO2) (by omega) (by omega) ?_
            rw [r3]
            refine g_icmp_ge (q0 := 134) (tgt := 158) rfl dX11_spelt_131 (by decide) (fun h131 => ?_) (fun h131 => ?_)
            · exact absurd h131 (by omega)
            · refine g_aload_n (q0 := 135) (j := 0) rfl dX11_spelt_134 rfl ?_
              refine g_getp (q0 := 138) (b := 475) rfl ff_X11_88 dX11_spelt_135 rfl hO2 (by decide) (sh_0 hO2) rfl (by decide) ?_
              refine g_aload_n (q0 := 139) (j := 0) rfl dX11_spelt_138 rfl ?_
              refine g_getp (q0 := 142) (b := 4) rfl ff_X11_27 dX11_spelt_139 rfl hO2 (by decide) (sh_0 hO2) rfl (by decide) ?_
              refine g_iload_n (q0 := 143) (j := 1) rfl dX11_spelt_142 rfl ?_
              refine g_iload_n (q0 := 144) (j := 3) rfl dX11_spelt_143 rfl ?_
              refine g_callVp (as := [_, _]) (rest := [_]) mt_X1_messageByte mi_X1_messageByte se_X1_messageByte ml_X11_331 dX11_spelt_144 (q0 := 147) rfl rfl (sh_4 hO2) rfl rfl (sp_X1_messageByte hO2 ⟨by omega, by omega⟩ ⟨by omega, by omega⟩) rfl ⟨Nat.le_of_ble_eq_true rfl, Nat.le_of_ble_eq_true rfl⟩ (Nat.le_of_ble_eq_true rfl) (tK_endM hi5) (fun hwc => ?_)
              rw [r4 x b hb]
              refine g_i2c (q0 := 148) rfl dX11_spelt_147 ?_
              rw [e2]
              refine g_callV (as := [_]) (rest := []) mt_J4_append_cf468 mi_J4_append_cf468 se_J4_append_cf468 ml_X11_320 dX11_spelt_148 (q0 := 151) rfl rfl (sh_475 hO2) rfl rfl (sp_appC hX2 hbr (by omega)) rfl ⟨Nat.le_of_ble_eq_true rfl, Nat.le_of_ble_eq_true rfl⟩ (tK_leM hi5 (app_le2 _ _)) (Nat.le_of_ble_eq_true rfl) (fun r3a sh3 M3 hP3 hw3 hMw3 => ?_)
              obtain ⟨rfl, hX3, hF3⟩ := tQ_use hP3 (app_le2 _ _) hF2
              refine tK_go hi5 (app_le2 _ _) ?_
              refine g_pop (q0 := 152) rfl dX11_spelt_151 (k := ?_)
              refine g_iinc (q0 := 155) (lv2 := [_, _, _, _]) rfl dX11_spelt_152 rfl (by decide) rfl rfl (by omega) (by omega) ?_
              refine g_goto (tgt := 121) dX11_spelt_155 (by decide) ?_
              exact ih (x + 1) sh3 M3 _ hd2 ht3 hX3 hF3
        have l1 : ∀ (suf : List Int) (x : Nat) (sh2 : gS) (M2 : gM) (t : List Int), (kPs c).drop x = suf → t ++ (spR x suf ++ (58 :: (spF 0 (kFs c) ++ (58 :: kMs c)))) = kTx c → tX sh2 M2 (tI i t.length) t → tF sh M sh2 M2 →
            gA (gx 11 244 5 1106) yX11_spelt cX11_spelt 4 (some (.int)) (sQ sh M z (aSpelt z (kn : Int) at_)) (tK i t) 34 [(4, 0), (0, (kn : Int)), (0, at_), (0, (x : Int))] [] sh2 M2 := by
          intro suf
          induction suf with
          | nil =>
            intro x sh2 M2 t hd ht hX2 hF2
            have hz2 := cS_tF hz hF2 hX2.1
            have hO2 := hX2.1
            obtain ⟨⟨r1, r2, r3, r4, -⟩, -⟩ := hz2.2.1.2.2.2 kn c hc
            have hx := List.drop_eq_nil_iff.mp hd
            have ht3 : (t ++ [58]) ++ (spF 0 (kFs c) ++ (58 :: kMs c)) = kTx c := by rw [← ht, List.append_assoc]; rfl
            have ht4 : ((t ++ [58]) ++ spF 0 (kFs c)) ++ (58 :: kMs c) = kTx c := by rw [← ht3, List.append_assoc (t ++ [58])]
            have ht5 : (((t ++ [58]) ++ spF 0 (kFs c)) ++ [58]) ++ kMs c = kTx c := by rw [← ht4, List.append_assoc ((t ++ [58]) ++ spF 0 (kFs c))]; rfl
            have hl3 := app_le ht3
            have hl4 := app_le ht4
            have hl5 := app_le ht5
            refine g_iload_n (q0 := 35) (j := 3) rfl dX11_spelt_34 rfl ?_
            refine g_aload_n (q0 := 36) (j := 0) rfl dX11_spelt_35 rfl ?_
            refine g_getp (q0 := 39) (b := 4) rfl ff_X11_27 dX11_spelt_36 rfl hO2 (by decide) (sh_0 hO2) rfl (by decide) ?_
            refine g_getp (q0 := 42) (b := 5) rfl ff_X11_295 dX11_spelt_39 rfl hO2 (by decide) (sh_4 hO2) rfl (by decide) ?_
            refine g_iload_n (q0 := 43) (j := 1) rfl dX11_spelt_42 rfl ?_
            refine g_iald (q0 := 44) rfl dX11_spelt_43 (sh_5 hO2) (by omega) (by omega) ?_
            rw [r1]
            refine g_icmp_ge (q0 := 47) (tgt := 84) rfl dX11_spelt_44 (by decide) (fun h44 => ?_) (fun h44 => ?_)
            · refine g_aload_n (q0 := 85) (j := 0) rfl dX11_spelt_84 rfl ?_
              refine g_getp (q0 := 88) (b := 475) rfl ff_X11_88 dX11_spelt_85 rfl hO2 (by decide) (sh_0 hO2) rfl (by decide) ?_
              refine g_bipush (q0 := 90) rfl dX11_spelt_88 (k := ?_)
              refine g_callV (as := [_]) (rest := []) mt_J4_append_cf468 mi_J4_append_cf468 se_J4_append_cf468 ml_X11_320 dX11_spelt_90 (q0 := 93) rfl rfl (sh_475 hO2) rfl rfl (sp_appC hX2 ⟨by decide, by decide⟩ (by omega)) rfl ⟨Nat.le_of_ble_eq_true rfl, Nat.le_of_ble_eq_true rfl⟩ (tK_leM hi5 (app_le2 _ _)) (Nat.le_of_ble_eq_true rfl) (fun r3a sh3 M3 hP3 hw3 hMw3 => ?_)
              obtain ⟨rfl, hX3, hF3⟩ := tQ_use hP3 (app_le2 _ _) hF2
              refine tK_go hi5 (app_le2 _ _) ?_
              have hz3 := cS_tF hz hF3 hX3.1
              have hO3 := hX3.1
              obtain ⟨t0, t1, t2⟩ := cT_rng hz3.2.1 hc
              refine g_pop (q0 := 94) rfl dX11_spelt_93 (k := ?_)
              refine g_aload_n (q0 := 95) (j := 0) rfl dX11_spelt_94 rfl ?_
              refine g_getp (q0 := 98) (b := 4) rfl ff_X11_27 dX11_spelt_95 rfl hO3 (by decide) (sh_0 hO3) rfl (by decide) ?_
              refine g_iload_n (q0 := 99) (j := 1) rfl dX11_spelt_98 rfl ?_
              refine g_callVp (as := [_]) (rest := []) mt_X1_tree mi_X1_tree se_X1_tree ml_X11_155 dX11_spelt_99 (q0 := 102) rfl rfl (sh_4 hO3) rfl rfl (sp_X1_tree hO3 hz3.2.1 hc) rfl ⟨Nat.le_of_ble_eq_true rfl, Nat.le_of_ble_eq_true rfl⟩ (Nat.le_of_ble_eq_true rfl) (tK_endM hi5) (fun hwc => ?_)
              have hTr : 0 ≤ cT M3 (kn : Int) ∧ cT M3 (kn : Int) < 400 := by unfold cT; omega
              have hTs : gsh sh3 (cT M3 (kn : Int)) = some (0, 11) := t2.1.1
              refine g_aload_n (q0 := 103) (j := 0) rfl dX11_spelt_102 rfl ?_
              refine g_getp (q0 := 106) (b := 475) rfl ff_X11_88 dX11_spelt_103 rfl hO3 (by decide) (sh_0 hO3) rfl (by decide) ?_
              refine g_callV (as := [_]) (rest := []) mt_X10_spell mi_X10_spell se_X10_spell ml_X11_327 dX11_spelt_106 (q0 := 109) rfl rfl (by assumption) rfl rfl (sp_X10_spell hX3 t2 hTr (fun f hf => by have := htw f hf; omega) (by omega)) rfl ⟨Nat.le_of_ble_eq_true rfl, Nat.le_of_ble_eq_true rfl⟩ (tK_leM hi5 (app_le2 _ _)) (Nat.le_of_ble_eq_true rfl) (fun r4a sh4 M4 hP4 hw4 hMw4 => ?_)
              obtain ⟨rfl, hX4, hF4⟩ := tQ_use hP4 (app_le2 _ _) hF3
              refine tK_go hi5 (app_le2 _ _) ?_
              have hO4 := hX4.1
              refine g_aload_n (q0 := 110) (j := 0) rfl dX11_spelt_109 rfl ?_
              refine g_getp (q0 := 113) (b := 475) rfl ff_X11_88 dX11_spelt_110 rfl hO4 (by decide) (sh_0 hO4) rfl (by decide) ?_
              refine g_bipush (q0 := 115) rfl dX11_spelt_113 (k := ?_)
              refine g_callV (as := [_]) (rest := []) mt_J4_append_cf468 mi_J4_append_cf468 se_J4_append_cf468 ml_X11_320 dX11_spelt_115 (q0 := 118) rfl rfl (sh_475 hO4) rfl rfl (sp_appC hX4 ⟨by decide, by decide⟩ (by omega)) rfl ⟨Nat.le_of_ble_eq_true rfl, Nat.le_of_ble_eq_true rfl⟩ (tK_leM hi5 (app_le2 _ _)) (Nat.le_of_ble_eq_true rfl) (fun r5a sh5 M5 hP5 hw5 hMw5 => ?_)
              obtain ⟨rfl, hX5, hF5⟩ := tQ_use hP5 (app_le2 _ _) hF4
              refine tK_go hi5 (app_le2 _ _) ?_
              refine g_pop (q0 := 119) rfl dX11_spelt_118 (k := ?_)
              refine g_iconst (q0 := 120) rfl dX11_spelt_119 (k := ?_)
              refine g_istore_n (q0 := 121) (j := 3) (lv2 := [_, _, _, _]) rfl dX11_spelt_120 (by decide) rfl rfl ?_
              exact lm (kMs c) 0 sh5 M5 _ rfl ht5 hX5 hF5
            · exact absurd h44 (by omega)
          | cons p r ih =>
            intro x sh2 M2 t hd ht hX2 hF2
            obtain ⟨hb, hd2⟩ := drop_at hd
            have hxl := (List.getElem?_eq_some_iff.mp hb).1
            have hbr := hwf.2.1 p (List.mem_of_getElem? hb)
            have hpl := hwf.1
            have nx : ∀ (sh3 : gS) (M3 : gM) (t3 : List Int), t3 ++ (kDg p ++ (spR (x + 1) r ++ (58 :: (spF 0 (kFs c) ++ (58 :: kMs c))))) = kTx c → tX sh3 M3 (tI i t3.length) t3 → tF sh M sh3 M3 →
                gA (gx 11 244 5 1106) yX11_spelt cX11_spelt 4 (some (.int)) (sQ sh M z (aSpelt z (kn : Int) at_)) (tK i t3) 61 [(4, 0), (0, (kn : Int)), (0, at_), (0, (x : Int))] [] sh3 M3 := by
              intro sh3 M3 t3 ht3 hX3 hF3
              have hz3 := cS_tF hz hF3 hX3.1
              have hO3 := hX3.1
              obtain ⟨⟨r1, r2, r3, r4, -⟩, -⟩ := hz3.2.1.2.2.2 kn c hc
              have ht4 : (t3 ++ kDg p) ++ (spR (x + 1) r ++ (58 :: (spF 0 (kFs c) ++ (58 :: kMs c)))) = kTx c := by rw [← ht3, List.append_assoc]
              have hl4 := app_le ht4
              have hl5 := app_le ht3
              refine g_aload_n (q0 := 62) (j := 0) rfl dX11_spelt_61 rfl ?_
              refine g_getp (q0 := 65) (b := 475) rfl ff_X11_88 dX11_spelt_62 rfl hO3 (by decide) (sh_0 hO3) rfl (by decide) ?_
              refine g_aload_n (q0 := 66) (j := 0) rfl dX11_spelt_65 rfl ?_
              refine g_getp (q0 := 69) (b := 4) rfl ff_X11_27 dX11_spelt_66 rfl hO3 (by decide) (sh_0 hO3) rfl (by decide) ?_
              refine g_iload_n (q0 := 70) (j := 1) rfl dX11_spelt_69 rfl ?_
              refine g_iload_n (q0 := 71) (j := 3) rfl dX11_spelt_70 rfl ?_
              refine g_callVp (as := [_, _]) (rest := [_]) mt_X1_parent mi_X1_parent se_X1_parent ml_X11_314 dX11_spelt_71 (q0 := 74) rfl rfl (sh_4 hO3) rfl rfl (sp_X1_parent hO3 ⟨by omega, by omega⟩ ⟨by omega, by omega⟩) rfl ⟨Nat.le_of_ble_eq_true rfl, Nat.le_of_ble_eq_true rfl⟩ (Nat.le_of_ble_eq_true rfl) (tK_endM hi5) (fun hwc => ?_)
              rw [r2 x p hb]
              refine g_callV (as := [_]) (rest := []) mt_J4_append_bf812 mi_J4_append_bf812 se_J4_append_bf812 ml_X11_324 dX11_spelt_74 (q0 := 77) rfl rfl (sh_475 hO3) rfl rfl (sp_appI hX3 ⟨hbr.1, by omega⟩ (by omega)) rfl ⟨Nat.le_of_ble_eq_true rfl, Nat.le_of_ble_eq_true rfl⟩ (tK_leM hi5 (app_le2 _ _)) (Nat.le_of_ble_eq_true rfl) (fun r4a sh4 M4 hP4 hw4 hMw4 => ?_)
              obtain ⟨rfl, hX4, hF4⟩ := tQ_use hP4 (app_le2 _ _) hF3
              refine tK_go hi5 (app_le2 _ _) ?_
              refine g_pop (q0 := 78) rfl dX11_spelt_77 (k := ?_)
              refine g_iinc (q0 := 81) (lv2 := [_, _, _, _]) rfl dX11_spelt_78 rfl (by decide) rfl rfl (by omega) (by omega) ?_
              refine g_goto (tgt := 34) dX11_spelt_81 (by decide) ?_
              exact ih (x + 1) sh4 M4 _ hd2 ht4 hX4 hF4
            have hz2 := cS_tF hz hF2 hX2.1
            have hO2 := hX2.1
            obtain ⟨⟨r1, r2, r3, r4, -⟩, -⟩ := hz2.2.1.2.2.2 kn c hc
            refine g_iload_n (q0 := 35) (j := 3) rfl dX11_spelt_34 rfl ?_
            refine g_aload_n (q0 := 36) (j := 0) rfl dX11_spelt_35 rfl ?_
            refine g_getp (q0 := 39) (b := 4) rfl ff_X11_27 dX11_spelt_36 rfl hO2 (by decide) (sh_0 hO2) rfl (by decide) ?_
            refine g_getp (q0 := 42) (b := 5) rfl ff_X11_295 dX11_spelt_39 rfl hO2 (by decide) (sh_4 hO2) rfl (by decide) ?_
            refine g_iload_n (q0 := 43) (j := 1) rfl dX11_spelt_42 rfl ?_
            refine g_iald (q0 := 44) rfl dX11_spelt_43 (sh_5 hO2) (by omega) (by omega) ?_
            rw [r1]
            refine g_icmp_ge (q0 := 47) (tgt := 84) rfl dX11_spelt_44 (by decide) (fun h44 => ?_) (fun h44 => ?_)
            · exact absurd h44 (by omega)
            · refine g_iload_n (q0 := 48) (j := 3) rfl dX11_spelt_47 rfl ?_
              refine g_if_le (q0 := 51) (tgt := 61) rfl dX11_spelt_48 (by decide) (fun h48 => ?_) (fun h48 => ?_)
              · have hx0 : x = 0 := by omega
                subst hx0
                refine nx sh2 M2 t ?_ hX2 hF2
                rw [← ht]
                rw [spR_c, if_neg (show ¬ 0 < 0 by decide), List.nil_append, List.append_assoc]
              · have ht3 : (t ++ [44]) ++ (kDg p ++ (spR (x + 1) r ++ (58 :: (spF 0 (kFs c) ++ (58 :: kMs c))))) = kTx c := by
                  rw [← ht]
                  rw [spR_c, if_pos (show 0 < x by omega), List.append_assoc, List.append_assoc, List.append_assoc]
                have hl3 := app_le ht3
                refine g_aload_n (q0 := 52) (j := 0) rfl dX11_spelt_51 rfl ?_
                refine g_getp (q0 := 55) (b := 475) rfl ff_X11_88 dX11_spelt_52 rfl hO2 (by decide) (sh_0 hO2) rfl (by decide) ?_
                refine g_bipush (q0 := 57) rfl dX11_spelt_55 (k := ?_)
                refine g_callV (as := [_]) (rest := []) mt_J4_append_cf468 mi_J4_append_cf468 se_J4_append_cf468 ml_X11_320 dX11_spelt_57 (q0 := 60) rfl rfl (sh_475 hO2) rfl rfl (sp_appC hX2 ⟨by decide, by decide⟩ (by omega)) rfl ⟨Nat.le_of_ble_eq_true rfl, Nat.le_of_ble_eq_true rfl⟩ (tK_leM hi5 (app_le2 _ _)) (Nat.le_of_ble_eq_true rfl) (fun r3a sh3 M3 hP3 hw3 hMw3 => ?_)
                obtain ⟨rfl, hX3, hF3⟩ := tQ_use hP3 (app_le2 _ _) hF2
                refine tK_go hi5 (app_le2 _ _) ?_
                refine g_pop (q0 := 61) rfl dX11_spelt_60 (k := ?_)
                exact nx sh3 M3 _ ht3 hX3 hF3
        refine g_iconst (q0 := 33) rfl dX11_spelt_32 (k := ?_)
        refine g_istore_n (q0 := 34) (j := 3) (lv2 := [_, _, _, _]) rfl dX11_spelt_33 (by decide) rfl rfl ?_
        exact l1 (kPs c) 0 sh1 M1 [] rfl rfl hX1' hF1
      · refine g_iconst (q0 := 23) rfl dX11_spelt_22 (k := ?_)
        refine g_ireturn dX11_spelt_23 rfl ⟨Nat.zero_le _, Nat.zero_le _⟩ ?_
        exact bad (fun q => by omega)
