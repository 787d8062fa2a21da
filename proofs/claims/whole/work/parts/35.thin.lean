-- ==== PARENTS' that are needless
theorem dX8_isNeedless_0 : decode cX8_isNeedless 0 = .ok (.iconst 0, 1) := by decide +kernel
theorem dX8_isNeedless_1 : decode cX8_isNeedless 1 = .ok (.istore_n 3, 1) := by decide +kernel
theorem dX8_isNeedless_2 : decode cX8_isNeedless 2 = .ok (.iload_n 3, 1) := by decide +kernel
theorem dX8_isNeedless_3 : decode cX8_isNeedless 3 = .ok (.aload_n 0, 1) := by decide +kernel
theorem dX8_isNeedless_4 : decode cX8_isNeedless 4 = .ok (.getfield 21, 3) := by decide +kernel
theorem dX8_isNeedless_7 : decode cX8_isNeedless 7 = .ok (.getfield 158, 3) := by decide +kernel
theorem dX8_isNeedless_10 : decode cX8_isNeedless 10 = .ok (.if_icmp .ge 69, 3) := by decide +kernel
theorem dX8_isNeedless_13 : decode cX8_isNeedless 13 = .ok (.aload_n 0, 1) := by decide +kernel
theorem dX8_isNeedless_14 : decode cX8_isNeedless 14 = .ok (.getfield 12, 3) := by decide +kernel
theorem dX8_isNeedless_17 : decode cX8_isNeedless 17 = .ok (.aload_n 0, 1) := by decide +kernel
theorem dX8_isNeedless_18 : decode cX8_isNeedless 18 = .ok (.getfield 21, 3) := by decide +kernel
theorem dX8_isNeedless_21 : decode cX8_isNeedless 21 = .ok (.getfield 161, 3) := by decide +kernel
theorem dX8_isNeedless_24 : decode cX8_isNeedless 24 = .ok (.iload_n 1, 1) := by decide +kernel
theorem dX8_isNeedless_25 : decode cX8_isNeedless 25 = .ok (.iaload, 1) := by decide +kernel
theorem dX8_isNeedless_26 : decode cX8_isNeedless 26 = .ok (.aload_n 0, 1) := by decide +kernel
theorem dX8_isNeedless_27 : decode cX8_isNeedless 27 = .ok (.getfield 21, 3) := by decide +kernel
theorem dX8_isNeedless_30 : decode cX8_isNeedless 30 = .ok (.getfield 161, 3) := by decide +kernel
theorem dX8_isNeedless_33 : decode cX8_isNeedless 33 = .ok (.iload_n 3, 1) := by decide +kernel
theorem dX8_isNeedless_34 : decode cX8_isNeedless 34 = .ok (.iaload, 1) := by decide +kernel
theorem dX8_isNeedless_35 : decode cX8_isNeedless 35 = .ok (.invokevirtual 229, 3) := by decide +kernel
theorem dX8_isNeedless_38 : decode cX8_isNeedless 38 = .ok (.istore 4, 2) := by decide +kernel
theorem dX8_isNeedless_40 : decode cX8_isNeedless 40 = .ok (.iload 4, 2) := by decide +kernel
theorem dX8_isNeedless_42 : decode cX8_isNeedless 42 = .ok (.ifCond .eq 31, 3) := by decide +kernel
theorem dX8_isNeedless_45 : decode cX8_isNeedless 45 = .ok (.iload_n 2, 1) := by decide +kernel
theorem dX8_isNeedless_46 : decode cX8_isNeedless 46 = .ok (.ifCond .eq 25, 3) := by decide +kernel
theorem dX8_isNeedless_49 : decode cX8_isNeedless 49 = .ok (.aload_n 0, 1) := by decide +kernel
theorem dX8_isNeedless_50 : decode cX8_isNeedless 50 = .ok (.getfield 30, 3) := by decide +kernel
theorem dX8_isNeedless_53 : decode cX8_isNeedless 53 = .ok (.aload_n 0, 1) := by decide +kernel
theorem dX8_isNeedless_54 : decode cX8_isNeedless 54 = .ok (.getfield 44, 3) := by decide +kernel
theorem dX8_isNeedless_57 : decode cX8_isNeedless 57 = .ok (.iload_n 3, 1) := by decide +kernel
theorem dX8_isNeedless_58 : decode cX8_isNeedless 58 = .ok (.iaload, 1) := by decide +kernel
theorem dX8_isNeedless_59 : decode cX8_isNeedless 59 = .ok (.aload_n 0, 1) := by decide +kernel
theorem dX8_isNeedless_60 : decode cX8_isNeedless 60 = .ok (.getfield 44, 3) := by decide +kernel
theorem dX8_isNeedless_63 : decode cX8_isNeedless 63 = .ok (.iload_n 1, 1) := by decide +kernel
theorem dX8_isNeedless_64 : decode cX8_isNeedless 64 = .ok (.iaload, 1) := by decide +kernel
theorem dX8_isNeedless_65 : decode cX8_isNeedless 65 = .ok (.invokevirtual 55, 3) := by decide +kernel
theorem dX8_isNeedless_68 : decode cX8_isNeedless 68 = .ok (.ifCond .ne 5, 3) := by decide +kernel
theorem dX8_isNeedless_71 : decode cX8_isNeedless 71 = .ok (.iconst 1, 1) := by decide +kernel
theorem dX8_isNeedless_72 : decode cX8_isNeedless 72 = .ok (.ireturn, 1) := by decide +kernel
theorem dX8_isNeedless_73 : decode cX8_isNeedless 73 = .ok (.iinc 3 1, 3) := by decide +kernel
theorem dX8_isNeedless_76 : decode cX8_isNeedless 76 = .ok (.goto (-74), 3) := by decide +kernel
theorem dX8_isNeedless_79 : decode cX8_isNeedless 79 = .ok (.iconst 0, 1) := by decide +kernel
theorem dX8_isNeedless_80 : decode cX8_isNeedless 80 = .ok (.ireturn, 1) := by decide +kernel
theorem dX8_bringsNothing_0 : decode cX8_bringsNothing 0 = .ok (.aload_n 0, 1) := by decide +kernel
theorem dX8_bringsNothing_1 : decode cX8_bringsNothing 1 = .ok (.getfield 21, 3) := by decide +kernel
theorem dX8_bringsNothing_4 : decode cX8_bringsNothing 4 = .ok (.getfield 158, 3) := by decide +kernel
theorem dX8_bringsNothing_7 : decode cX8_bringsNothing 7 = .ok (.ifCond .ne 22, 3) := by decide +kernel
theorem dX8_bringsNothing_10 : decode cX8_bringsNothing 10 = .ok (.aload_n 0, 1) := by decide +kernel
theorem dX8_bringsNothing_11 : decode cX8_bringsNothing 11 = .ok (.getfield 21, 3) := by decide +kernel
theorem dX8_bringsNothing_14 : decode cX8_bringsNothing 14 = .ok (.getfield 51, 3) := by decide +kernel
theorem dX8_bringsNothing_17 : decode cX8_bringsNothing 17 = .ok (.getfield 171, 3) := by decide +kernel
theorem dX8_bringsNothing_20 : decode cX8_bringsNothing 20 = .ok (.ifCond .ne 7, 3) := by decide +kernel
theorem dX8_bringsNothing_23 : decode cX8_bringsNothing 23 = .ok (.iconst 1, 1) := by decide +kernel
theorem dX8_bringsNothing_24 : decode cX8_bringsNothing 24 = .ok (.goto 4, 3) := by decide +kernel
theorem dX8_bringsNothing_27 : decode cX8_bringsNothing 27 = .ok (.iconst 0, 1) := by decide +kernel
theorem dX8_bringsNothing_28 : decode cX8_bringsNothing 28 = .ok (.ireturn, 1) := by decide +kernel
theorem dX8_bringsNothing_29 : decode cX8_bringsNothing 29 = .ok (.aload_n 0, 1) := by decide +kernel
theorem dX8_bringsNothing_30 : decode cX8_bringsNothing 30 = .ok (.getfield 21, 3) := by decide +kernel
theorem dX8_bringsNothing_33 : decode cX8_bringsNothing 33 = .ok (.getfield 158, 3) := by decide +kernel
theorem dX8_bringsNothing_36 : decode cX8_bringsNothing 36 = .ok (.iconst 1, 1) := by decide +kernel
theorem dX8_bringsNothing_37 : decode cX8_bringsNothing 37 = .ok (.if_icmp .ne 36, 3) := by decide +kernel
theorem dX8_bringsNothing_40 : decode cX8_bringsNothing 40 = .ok (.aload_n 0, 1) := by decide +kernel
theorem dX8_bringsNothing_41 : decode cX8_bringsNothing 41 = .ok (.getfield 12, 3) := by decide +kernel
theorem dX8_bringsNothing_44 : decode cX8_bringsNothing 44 = .ok (.aload_n 0, 1) := by decide +kernel
theorem dX8_bringsNothing_45 : decode cX8_bringsNothing 45 = .ok (.getfield 21, 3) := by decide +kernel
theorem dX8_bringsNothing_48 : decode cX8_bringsNothing 48 = .ok (.getfield 161, 3) := by decide +kernel
theorem dX8_bringsNothing_51 : decode cX8_bringsNothing 51 = .ok (.iconst 0, 1) := by decide +kernel
theorem dX8_bringsNothing_52 : decode cX8_bringsNothing 52 = .ok (.iaload, 1) := by decide +kernel
theorem dX8_bringsNothing_53 : decode cX8_bringsNothing 53 = .ok (.invokevirtual 127, 3) := by decide +kernel
theorem dX8_bringsNothing_56 : decode cX8_bringsNothing 56 = .ok (.aload_n 0, 1) := by decide +kernel
theorem dX8_bringsNothing_57 : decode cX8_bringsNothing 57 = .ok (.getfield 21, 3) := by decide +kernel
theorem dX8_bringsNothing_60 : decode cX8_bringsNothing 60 = .ok (.getfield 51, 3) := by decide +kernel
theorem dX8_bringsNothing_63 : decode cX8_bringsNothing 63 = .ok (.invokevirtual 225, 3) := by decide +kernel
theorem dX8_bringsNothing_66 : decode cX8_bringsNothing 66 = .ok (.ifCond .eq 7, 3) := by decide +kernel
theorem dX8_bringsNothing_69 : decode cX8_bringsNothing 69 = .ok (.iconst 1, 1) := by decide +kernel
theorem dX8_bringsNothing_70 : decode cX8_bringsNothing 70 = .ok (.goto 4, 3) := by decide +kernel
theorem dX8_bringsNothing_73 : decode cX8_bringsNothing 73 = .ok (.iconst 0, 1) := by decide +kernel
theorem dX8_bringsNothing_74 : decode cX8_bringsNothing 74 = .ok (.ireturn, 1) := by decide +kernel
def rNd (cs : List kC) (el : Nat → Nat → Bool) (pi ci : Nat) (u : Bool) : List Int → List Int → Bool
  | p :: ps, c :: ca => if kAnc cs p.toNat pi && !(u && el c.toNat ci) then true else rNd cs el pi ci u ps ca
  | _, _ => false
def eldOk (M : gM) (cs : List kC) (el : Nat → Nat → Bool) : Prop := ∀ k : Nat, k < cs.length → mIs M 389 (k : Int) (el k)
theorem sp_X8_isNeedless {sh : gS} {M : gM} {cs : List kC} {el : Nat → Nat → Bool} {d : kC} {ca : List Int} {i pi ci : Nat} {u : Bool} (hOK : gOK sh M) (hC : cOk sh M cs) (hD : dOk sh M 380 d) (hca : rw_ (M 397) 0 ca) (hcl : ca.length = (kPs d).length) (hE : eldOk M cs el) (hps : ∀ p ∈ kPs d, 0 ≤ p ∧ p < (cs.length : Int)) (hcs : ∀ p ∈ ca, 0 ≤ p ∧ p < (cs.length : Int)) (hpi : (kPs d)[i]? = some (pi : Int)) (hci : ca[i]? = some (ci : Int)) :
    gC (gr 2 44) yX8_isNeedless cX8_isNeedless 5 (some (.boolean)) [(4, 3), (0, (i : Int)), (0, bI u)] sh M (gPp sh M (0, bI (rNd cs el pi ci u (kPs d) ca))) := by
  have hlen := hC.2.1
  obtain ⟨s0, d1, d2, d3, -⟩ := hD
  rw [show (380 : Int) + 1 = 381 from rfl] at d3
  have hil := (List.getElem?_eq_some_iff.mp hpi).1
  have epi := d3 i _ hpi
  have eci := hca i _ hci
  rw [Int.zero_add] at epi eci
  have hpim := hps _ (List.mem_of_getElem? hpi)
  have hcim := hcs _ (List.mem_of_getElem? hci)
  generalize hx : rNd cs el pi ci u (kPs d) ca = x
  refine gC_ofA (lv := [_, _, _, _, _]) (by decide +kernel) (Nat.le_of_ble_eq_true rfl) rfl (fun hMw hav => ?_)
  have lp : ∀ (p2 c2 p1 c1 : List Int) (j : Int) (w4 : gV), gw w4 → kPs d = p1 ++ p2 → ca = c1 ++ c2 → p1.length = c1.length → j = (p1.length : Int) → rNd cs el pi ci u p2 c2 = x →
      gA (gr 2 44) yX8_isNeedless cX8_isNeedless 5 (some (.boolean)) (gPp sh M (0, bI x)) (0, 0) 2 [(4, 3), (0, (i : Int)), (0, bI u), (0, j), w4] [] sh M := by
    intro p2
    induction p2 with
    | nil =>
      intro c2 p1 c1 j w4 g4 e1 e2 e3 e4 hv
      have hl1 : (kPs d).length = p1.length := by rw [e1]; simp
      refine g_iload_n (q0 := 3) (j := 3) rfl dX8_isNeedless_2 rfl ?_
      refine g_aload_n (q0 := 4) (j := 0) rfl dX8_isNeedless_3 rfl ?_
      refine g_getp (q0 := 7) (b := 380) rfl ff_X8_21 dX8_isNeedless_4 rfl hOK (by decide) (sh_3 hOK) rfl (by decide) ?_
      refine g_getf (q0 := 10) (t := 0) (fi := 1) rfl rfl ff_X8_158 dX8_isNeedless_7 rfl (sh_380 hOK) ?_
      refine g_icmp_ge (q0 := 13) (tgt := 79) rfl dX8_isNeedless_10 (by decide) (fun h10 => ?_) (fun h10 => ?_)
      · refine g_iconst (q0 := 80) rfl dX8_isNeedless_79 (k := ?_)
        refine g_zreturn dX8_isNeedless_80 rfl (by first | rfl | exact gnz (by omega)) ⟨Nat.zero_le _, Nat.zero_le _⟩ ?_
        exact ⟨by rw [← hv]; cases c2 <;> rfl, rfl, rfl⟩
      · omega
    | cons p p2 ih =>
      intro c2 p1 c1 j w4 g4 e1 e2 e3 e4 hv
      have hl1 : (kPs d).length = p1.length + p2.length + 1 := by rw [e1]; simp; omega
      cases c2 with
      | nil => rw [e2] at hcl; simp at hcl; omega
      | cons c c2 =>
        have q1 := d3
        rw [e1] at q1
        have q2 := (rw_cons (rw_app q1).2).1
        rw [Int.zero_add, ← e4] at q2
        have q3 := hca
        rw [e2] at q3
        have q4 := (rw_cons (rw_app q3).2).1
        rw [Int.zero_add, ← e3, ← e4] at q4
        have hpr := hps p (by rw [e1]; simp)
        have hcr := hcs c (by rw [e2]; simp)
        obtain ⟨m, hm⟩ : ∃ m : Nat, p = (m : Int) := ⟨p.toNat, by omega⟩
        obtain ⟨n, hn⟩ : ∃ n : Nat, c = (n : Int) := ⟨c.toNat, by omega⟩
        have hmc : cs[m]? = some cs[m] := List.getElem?_eq_getElem (by omega)
        rw [rNd, hm, hn, Int.toNat_natCast, Int.toNat_natCast] at hv
        have hnext : (kAnc cs m pi && !(u && el n ci)) = false → gA (gr 2 44) yX8_isNeedless cX8_isNeedless 5 (some (.boolean)) (gPp sh M (0, bI x)) (0, 0) 73 [(4, 3), (0, (i : Int)), (0, bI u), (0, j), (0, bI (kAnc cs m pi))] [] sh M := by
          intro hz
          rw [if_neg (by rw [hz]; decide)] at hv
          have hkw : gw (0, bI (kAnc cs m pi)) := by cases kAnc cs m pi <;> exact ⟨by decide, by decide⟩
          clear hz
          refine g_iinc (q0 := 76) (lv2 := [_, _, _, _, _]) rfl dX8_isNeedless_73 rfl (by decide) rfl rfl (by omega) (by omega) ?_
          refine g_goto (tgt := 2) dX8_isNeedless_76 (by decide) ?_
          exact ih c2 (p1 ++ [p]) (c1 ++ [c]) (j + 1) _ hkw (by rw [e1]; simp) (by rw [e2]; simp) (by simp [e3]) (by simp; omega) hv
        have hyes : (kAnc cs m pi && !(u && el n ci)) = true → gA (gr 2 44) yX8_isNeedless cX8_isNeedless 5 (some (.boolean)) (gPp sh M (0, bI x)) (0, 0) 71 [(4, 3), (0, (i : Int)), (0, bI u), (0, j), (0, bI (kAnc cs m pi))] [] sh M := by
          intro hz
          rw [if_pos hz] at hv
          clear hz
          refine g_iconst (q0 := 72) rfl dX8_isNeedless_71 (k := ?_)
          refine g_zreturn dX8_isNeedless_72 rfl (by first | rfl | exact gnz (by omega)) ⟨Nat.zero_le _, Nat.zero_le _⟩ ?_
          exact ⟨by rw [← hv]; rfl, rfl, rfl⟩
        refine g_iload_n (q0 := 3) (j := 3) rfl dX8_isNeedless_2 rfl ?_
        refine g_aload_n (q0 := 4) (j := 0) rfl dX8_isNeedless_3 rfl ?_
        refine g_getp (q0 := 7) (b := 380) rfl ff_X8_21 dX8_isNeedless_4 rfl hOK (by decide) (sh_3 hOK) rfl (by decide) ?_
        refine g_getf (q0 := 10) (t := 0) (fi := 1) rfl rfl ff_X8_158 dX8_isNeedless_7 rfl (sh_380 hOK) ?_
        refine g_icmp_ge (q0 := 13) (tgt := 79) rfl dX8_isNeedless_10 (by decide) (fun h10 => ?_) (fun h10 => ?_)
        · omega
        · refine g_aload_n (q0 := 14) (j := 0) rfl dX8_isNeedless_13 rfl ?_
          refine g_getp (q0 := 17) (b := 4) rfl ff_X8_12 dX8_isNeedless_14 rfl hOK (by decide) (sh_3 hOK) rfl (by decide) ?_
          refine g_aload_n (q0 := 18) (j := 0) rfl dX8_isNeedless_17 rfl ?_
          refine g_getp (q0 := 21) (b := 380) rfl ff_X8_21 dX8_isNeedless_18 rfl hOK (by decide) (sh_3 hOK) rfl (by decide) ?_
          refine g_getp (q0 := 24) (b := 381) rfl ff_X8_161 dX8_isNeedless_21 rfl hOK (by decide) (sh_380 hOK) rfl (by decide) ?_
          refine g_iload_n (q0 := 25) (j := 1) rfl dX8_isNeedless_24 rfl ?_
          refine g_iald (q0 := 26) rfl dX8_isNeedless_25 (sh_381 hOK) (by omega) (by omega) ?_
          refine g_aload_n (q0 := 27) (j := 0) rfl dX8_isNeedless_26 rfl ?_
          refine g_getp (q0 := 30) (b := 380) rfl ff_X8_21 dX8_isNeedless_27 rfl hOK (by decide) (sh_3 hOK) rfl (by decide) ?_
          refine g_getp (q0 := 33) (b := 381) rfl ff_X8_161 dX8_isNeedless_30 rfl hOK (by decide) (sh_380 hOK) rfl (by decide) ?_
          refine g_iload_n (q0 := 34) (j := 3) rfl dX8_isNeedless_33 rfl ?_
          refine g_iald (q0 := 35) rfl dX8_isNeedless_34 (sh_381 hOK) (by omega) (by omega) ?_
          rw [epi, q2, hm]
          refine g_callVp (as := [_, _]) (rest := []) mt_X1_isAbove mi_X1_isAbove se_X1_isAbove ml_X8_229 dX8_isNeedless_35 (q0 := 38) rfl rfl (sh_4 hOK) rfl rfl (sp_X1_isAbove hOK hC hmc (show pi < 120 by omega)) rfl ⟨by decide, by decide⟩ (Nat.le_of_ble_eq_true rfl) ⟨Nat.zero_le _, Nat.zero_le _⟩ (fun hwc => ?_)
          refine g_istore (q0 := 40) (j := 4) (lv2 := [_, _, _, _, _]) rfl dX8_isNeedless_38 (by decide) rfl rfl ?_
          refine g_iload (q0 := 42) (j := 4) rfl dX8_isNeedless_40 rfl ?_
          refine g_if_eq (q0 := 45) (tgt := 73) rfl dX8_isNeedless_42 (by decide) (fun h42 => ?_) (fun h42 => ?_)
          · exact hnext (by rw [bI_f h42]; rfl)
          · have hk := bI_t h42
            cases u with
            | false =>
              refine g_iload_n (q0 := 46) (j := 2) rfl dX8_isNeedless_45 rfl ?_
              refine g_if_eq (q0 := 49) (tgt := 71) rfl dX8_isNeedless_46 (by decide) (fun h46 => ?_) (fun h46 => ?_)
              · exact hyes (by rw [hk]; rfl)
              · exact absurd rfl h46
            | true =>
              refine g_iload_n (q0 := 46) (j := 2) rfl dX8_isNeedless_45 rfl ?_
              refine g_if_eq (q0 := 49) (tgt := 71) rfl dX8_isNeedless_46 (by decide) (fun h46 => ?_) (fun h46 => ?_)
              · exact absurd h46 (by decide)
              · refine g_aload_n (q0 := 50) (j := 0) rfl dX8_isNeedless_49 rfl ?_
                refine g_getp (q0 := 53) (b := 389) rfl ff_X8_30 dX8_isNeedless_50 rfl hOK (by decide) (sh_3 hOK) rfl (by decide) ?_
                refine g_aload_n (q0 := 54) (j := 0) rfl dX8_isNeedless_53 rfl ?_
                refine g_getp (q0 := 57) (b := 397) rfl ff_X8_44 dX8_isNeedless_54 rfl hOK (by decide) (sh_3 hOK) rfl (by decide) ?_
                refine g_iload_n (q0 := 58) (j := 3) rfl dX8_isNeedless_57 rfl ?_
                refine g_iald (q0 := 59) rfl dX8_isNeedless_58 (sh_397 hOK) (by omega) (by omega) ?_
                refine g_aload_n (q0 := 60) (j := 0) rfl dX8_isNeedless_59 rfl ?_
                refine g_getp (q0 := 63) (b := 397) rfl ff_X8_44 dX8_isNeedless_60 rfl hOK (by decide) (sh_3 hOK) rfl (by decide) ?_
                refine g_iload_n (q0 := 64) (j := 1) rfl dX8_isNeedless_63 rfl ?_
                refine g_iald (q0 := 65) rfl dX8_isNeedless_64 (sh_397 hOK) (by omega) (by omega) ?_
                rw [q4, eci, hn]
                refine g_callVp (as := [_, _]) (rest := []) mt_X3_has mi_X3_has se_X3_has ml_X8_55 dX8_isNeedless_65 (q0 := 68) rfl rfl (sh_389 hOK) rfl rfl (sp_X3_has hOK (mSh389 hOK) ⟨by omega, by omega⟩) rfl ⟨by decide, by decide⟩ (Nat.le_of_ble_eq_true rfl) ⟨Nat.zero_le _, Nat.zero_le _⟩ (fun hwc => ?_)
                rw [mHas_of (hE n (by omega)) ci (by omega)]
                refine g_if_ne (q0 := 71) (tgt := 73) rfl dX8_isNeedless_68 (by decide) (fun h68 => ?_) (fun h68 => ?_)
                · have h9 : el n ci = true := bI_t h68
                  exact hnext (by rw [hk, h9]; rfl)
                · have h9 : el n ci = false := bI_f (by omega)
                  exact hyes (by rw [hk, h9]; rfl)
  refine g_iconst (q0 := 1) rfl dX8_isNeedless_0 (k := ?_)
  refine g_istore_n (q0 := 2) (j := 3) (lv2 := [_, _, _, _, _]) rfl dX8_isNeedless_1 (by decide) rfl rfl ?_
  exact lp (kPs d) ca [] [] 0 _ trivial rfl rfl rfl rfl hx
def rBn (cs : List kC) (d : kC) : Bool := match kPs d with
  | [] => decide (kFs d = [])
  | [p] => match cs[p.toNat]? with
    | some c => decide (kFs c = kFs d)
    | none => false
  | _ => false
theorem sp_X8_bringsNothing {sh : gS} {M : gM} {cs : List kC} {d : kC} (hOK : gOK sh M) (hC : cOk sh M cs) (hD : dOk sh M 380 d) (hps : ∀ p ∈ kPs d, 0 ≤ p ∧ p < (cs.length : Int)) :
    gC (gr 1 22) yX8_bringsNothing cX8_bringsNothing 1 (some (.boolean)) [(4, 3)] sh M (gPp sh M (0, bI (rBn cs d))) := by
  have hlen := hC.2.1
  obtain ⟨s0, d1, d2, d3, d4, -⟩ := hD
  rw [show (380 : Int) + 1 = 381 from rfl] at d3
  rw [show (380 : Int) + 2 = 382 from rfl] at d4
  have hc := tOk_c d4
  have s382 := sh_382 hOK
  generalize hx : rBn cs d = x
  unfold rBn at hx
  refine gC_ofA (lv := [_]) (by decide +kernel) (Nat.le_of_ble_eq_true rfl) rfl (fun hMw hav => ?_)
  cases hk : kPs d with
  | nil =>
    rw [hk] at hx d1
    simp only [List.length_nil] at d1
    refine g_aload_n (q0 := 1) (j := 0) rfl dX8_bringsNothing_0 rfl ?_
    refine g_getp (q0 := 4) (b := 380) rfl ff_X8_21 dX8_bringsNothing_1 rfl hOK (by decide) (sh_3 hOK) rfl (by decide) ?_
    refine g_getf (q0 := 7) (t := 0) (fi := 1) rfl rfl ff_X8_158 dX8_bringsNothing_4 rfl (sh_380 hOK) ?_
    refine g_if_ne (q0 := 10) (tgt := 29) rfl dX8_bringsNothing_7 (by decide) (fun h7 => ?_) (fun h7 => ?_)
    · omega
    · refine g_aload_n (q0 := 11) (j := 0) rfl dX8_bringsNothing_10 rfl ?_
      refine g_getp (q0 := 14) (b := 380) rfl ff_X8_21 dX8_bringsNothing_11 rfl hOK (by decide) (sh_3 hOK) rfl (by decide) ?_
      refine g_getp (q0 := 17) (b := 382) rfl ff_X8_51 dX8_bringsNothing_14 rfl hOK (by decide) (sh_380 hOK) rfl (by decide) ?_
      refine g_getf (q0 := 20) (t := 0) (fi := 2) rfl rfl ff_X8_171 dX8_bringsNothing_17 rfl (sh_382 hOK) ?_
      refine g_if_ne (q0 := 23) (tgt := 27) rfl dX8_bringsNothing_20 (by decide) (fun h20 => ?_) (fun h20 => ?_)
      · refine g_iconst (q0 := 28) rfl dX8_bringsNothing_27 (k := ?_)
        refine g_zreturn dX8_bringsNothing_28 rfl (by first | rfl | exact gnz (by omega)) ⟨Nat.zero_le _, Nat.zero_le _⟩ ?_
        have hne : ¬ kFs d = [] := fun q => by rw [q] at hc; simp at hc; omega
        exact ⟨by rw [← hx]; simp only [decide_eq_false hne]; rfl, rfl, rfl⟩
      · refine g_iconst (q0 := 24) rfl dX8_bringsNothing_23 (k := ?_)
        refine g_goto (tgt := 28) dX8_bringsNothing_24 (by decide) ?_
        refine g_zreturn dX8_bringsNothing_28 rfl (by first | rfl | exact gnz (by omega)) ⟨Nat.zero_le _, Nat.zero_le _⟩ ?_
        have he : kFs d = [] := List.length_eq_zero_iff.mp (by omega)
        exact ⟨by rw [← hx]; simp only [decide_eq_true he]; rfl, rfl, rfl⟩
  | cons p r =>
    rw [hk] at hx d1 d3 hps
    simp only [List.length_cons] at d1
    cases r with
    | nil =>
      have hpr := hps p (by simp)
      obtain ⟨m, hm⟩ : ∃ m : Nat, p = (m : Int) := ⟨p.toNat, by omega⟩
      have hmc : cs[m]? = some cs[m] := List.getElem?_eq_getElem (by omega)
      have ep := (rw_cons d3).1
      rw [hm] at ep
      simp only [hm, Int.toNat_natCast, hmc] at hx
      have hct := (cT_rng hC hmc).2.2
      obtain ⟨⟨z0, z1, z2, z3⟩, -⟩ := id hct
      simp only [List.length_nil] at d1
      refine g_aload_n (q0 := 1) (j := 0) rfl dX8_bringsNothing_0 rfl ?_
      refine g_getp (q0 := 4) (b := 380) rfl ff_X8_21 dX8_bringsNothing_1 rfl hOK (by decide) (sh_3 hOK) rfl (by decide) ?_
      refine g_getf (q0 := 7) (t := 0) (fi := 1) rfl rfl ff_X8_158 dX8_bringsNothing_4 rfl (sh_380 hOK) ?_
      refine g_if_ne (q0 := 10) (tgt := 29) rfl dX8_bringsNothing_7 (by decide) (fun h7 => ?_) (fun h7 => ?_)
      · refine g_aload_n (q0 := 30) (j := 0) rfl dX8_bringsNothing_29 rfl ?_
        refine g_getp (q0 := 33) (b := 380) rfl ff_X8_21 dX8_bringsNothing_30 rfl hOK (by decide) (sh_3 hOK) rfl (by decide) ?_
        refine g_getf (q0 := 36) (t := 0) (fi := 1) rfl rfl ff_X8_158 dX8_bringsNothing_33 rfl (sh_380 hOK) ?_
        refine g_iconst (q0 := 37) rfl dX8_bringsNothing_36 (k := ?_)
        refine g_icmp_ne (q0 := 40) (tgt := 73) rfl dX8_bringsNothing_37 (by decide) (fun h37 => ?_) (fun h37 => ?_)
        · omega
        · refine g_aload_n (q0 := 41) (j := 0) rfl dX8_bringsNothing_40 rfl ?_
          refine g_getp (q0 := 44) (b := 4) rfl ff_X8_12 dX8_bringsNothing_41 rfl hOK (by decide) (sh_3 hOK) rfl (by decide) ?_
          refine g_aload_n (q0 := 45) (j := 0) rfl dX8_bringsNothing_44 rfl ?_
          refine g_getp (q0 := 48) (b := 380) rfl ff_X8_21 dX8_bringsNothing_45 rfl hOK (by decide) (sh_3 hOK) rfl (by decide) ?_
          refine g_getp (q0 := 51) (b := 381) rfl ff_X8_161 dX8_bringsNothing_48 rfl hOK (by decide) (sh_380 hOK) rfl (by decide) ?_
          refine g_iconst (q0 := 52) rfl dX8_bringsNothing_51 (k := ?_)
          refine g_iald (q0 := 53) rfl dX8_bringsNothing_52 (sh_381 hOK) (by omega) (by omega) ?_
          rw [ep]
          refine g_callVp (as := [_]) (rest := []) mt_X1_tree mi_X1_tree se_X1_tree ml_X8_127 dX8_bringsNothing_53 (q0 := 56) rfl rfl (sh_4 hOK) rfl rfl (sp_X1_tree hOK hC hmc) rfl ⟨by decide, by decide⟩ (Nat.le_of_ble_eq_true rfl) ⟨Nat.zero_le _, Nat.zero_le _⟩ (fun hwc => ?_)
          refine g_aload_n (q0 := 57) (j := 0) rfl dX8_bringsNothing_56 rfl ?_
          refine g_getp (q0 := 60) (b := 380) rfl ff_X8_21 dX8_bringsNothing_57 rfl hOK (by decide) (sh_3 hOK) rfl (by decide) ?_
          refine g_getp (q0 := 63) (b := 382) rfl ff_X8_51 dX8_bringsNothing_60 rfl hOK (by decide) (sh_380 hOK) rfl (by decide) ?_
          refine g_callVp (as := [_]) (rest := []) mt_X10_isLike mi_X10_isLike se_X10_isLike ml_X8_225 dX8_bringsNothing_63 (q0 := 66) rfl rfl (by assumption) rfl rfl (sp_X10_isLike hOK hct d4) rfl ⟨by decide, by decide⟩ (Nat.le_of_ble_eq_true rfl) ⟨Nat.zero_le _, Nat.zero_le _⟩ (fun hwc => ?_)
          refine g_if_eq (q0 := 69) (tgt := 73) rfl dX8_bringsNothing_66 (by decide) (fun h66 => ?_) (fun h66 => ?_)
          · refine g_iconst (q0 := 74) rfl dX8_bringsNothing_73 (k := ?_)
            refine g_zreturn dX8_bringsNothing_74 rfl (by first | rfl | exact gnz (by omega)) ⟨Nat.zero_le _, Nat.zero_le _⟩ ?_
            exact ⟨by rw [← hx, bI_f h66]; rfl, rfl, rfl⟩
          · refine g_iconst (q0 := 70) rfl dX8_bringsNothing_69 (k := ?_)
            refine g_goto (tgt := 74) dX8_bringsNothing_70 (by decide) ?_
            refine g_zreturn dX8_bringsNothing_74 rfl (by first | rfl | exact gnz (by omega)) ⟨Nat.zero_le _, Nat.zero_le _⟩ ?_
            exact ⟨by rw [← hx, bI_t h66]; rfl, rfl, rfl⟩
      · omega
    | cons q r =>
      simp only [List.length_cons] at d1
      refine g_aload_n (q0 := 1) (j := 0) rfl dX8_bringsNothing_0 rfl ?_
      refine g_getp (q0 := 4) (b := 380) rfl ff_X8_21 dX8_bringsNothing_1 rfl hOK (by decide) (sh_3 hOK) rfl (by decide) ?_
      refine g_getf (q0 := 7) (t := 0) (fi := 1) rfl rfl ff_X8_158 dX8_bringsNothing_4 rfl (sh_380 hOK) ?_
      refine g_if_ne (q0 := 10) (tgt := 29) rfl dX8_bringsNothing_7 (by decide) (fun h7 => ?_) (fun h7 => ?_)
      · refine g_aload_n (q0 := 30) (j := 0) rfl dX8_bringsNothing_29 rfl ?_
        refine g_getp (q0 := 33) (b := 380) rfl ff_X8_21 dX8_bringsNothing_30 rfl hOK (by decide) (sh_3 hOK) rfl (by decide) ?_
        refine g_getf (q0 := 36) (t := 0) (fi := 1) rfl rfl ff_X8_158 dX8_bringsNothing_33 rfl (sh_380 hOK) ?_
        refine g_iconst (q0 := 37) rfl dX8_bringsNothing_36 (k := ?_)
        refine g_icmp_ne (q0 := 40) (tgt := 73) rfl dX8_bringsNothing_37 (by decide) (fun h37 => ?_) (fun h37 => ?_)
        · refine g_iconst (q0 := 74) rfl dX8_bringsNothing_73 (k := ?_)
          refine g_zreturn dX8_bringsNothing_74 rfl (by first | rfl | exact gnz (by omega)) ⟨Nat.zero_le _, Nat.zero_le _⟩ ?_
          exact ⟨by rw [← hx]; rfl, rfl, rfl⟩
        · omega
      · omega
