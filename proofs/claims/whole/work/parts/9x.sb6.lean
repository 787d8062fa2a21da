-- ==== the text: a TREE, a COMMIT, by the class; the call spelt
theorem tT_app {sh e : gS} {M : gM} {t : Int} {n : Nat} {fs : List gF} (h : tOk sh M t n fs) : tOk (sh ++ e) M t n fs :=
  ⟨⟨gsh_app h.1.1, gsh_app h.1.2.1, gsh_app h.1.2.2.1, h.1.2.2.2⟩, h.2⟩
theorem cOk_app {sh e : gS} {M : gM} {cs : List kC} (h : cOk sh M cs) : cOk (sh ++ e) M cs := by
  obtain ⟨h1, h2, h3, h4⟩ := h
  refine ⟨h1, h2, h3, fun k c hk => ?_⟩
  obtain ⟨a, b, c2, d, f⟩ := h4 k c hk
  exact ⟨a, b, c2, tT_app d, f⟩
theorem rOk_app {sh e : gS} {M : gM} {a : Int} {rs : List rF} (h : rOk sh M a rs) : rOk (sh ++ e) M a rs := by
  obtain ⟨⟨a1, a2, a3, a4, a5, a6⟩, h2⟩ := h
  exact ⟨⟨gsh_app a1, gsh_app a2, gsh_app a3, gsh_app a4, gsh_app a5, a6⟩, h2⟩
theorem qSh_app {sh e : gS} {a : Int} {n : Nat} (h : qSh sh a n) : qSh (sh ++ e) a n := by
  obtain ⟨a1, a2, a3, a4⟩ := h
  exact ⟨gsh_app a1, gsh_app a2, gsh_app a3, a4⟩
theorem qOk_app {sh e : gS} {M : gM} {a : Int} {n : Nat} {ps : List (Int × Int)} (h : qOk sh M a n ps) : qOk (sh ++ e) M a n ps := ⟨qSh_app h.1, h.2⟩
theorem plOk_app {sh e : gS} {M : gM} {a : Int} {pl : kP} (h : plOk sh M a pl) : plOk (sh ++ e) M a pl := by
  obtain ⟨⟨s0, q1, q2, q3, q4, q5, q6, q7, s8, s9, s10⟩, p1, p2, p3⟩ := h
  exact ⟨⟨gsh_app s0, qSh_app q1, qSh_app q2, qSh_app q3, qSh_app q4, qSh_app q5, qSh_app q6, qSh_app q7, gsh_app s8, gsh_app s9, s10⟩, fun i hi => qOk_app (p1 i hi), qOk_app p2, p3⟩
theorem gOK_app {sh e : gS} {M : gM} (h : gOK sh M) : gOK (sh ++ e) M := by
  have hl := gOK_len h
  refine ⟨fun n q hn => ?_, fun a c j d ha hs ho => h.2.1 a c j d ha ?_ ho, h.2.2⟩
  · have h1 := h.1 n q hn
    rw [List.getElem?_append_left (List.getElem?_eq_some_iff.mp h1).1]
    exact h1
  · obtain ⟨h0, h1⟩ := gsh_nn hs
    rw [List.getElem?_append_left (by omega)] at h1
    have h2 := gsh_of h1
    rw [Int.toNat_of_nonneg h0] at h2
    exact h2
theorem cS_app {sh e : gS} {M : gM} {z : aS} (h : cS sh M z) : cS (sh ++ e) M z := by
  obtain ⟨h0, h1, h2, h3, h4, h5⟩ := h
  exact ⟨gOK_app h0, cOk_app h1, h2, fun i i0 i1 => ⟨rOk_app (h3 i i0 i1).1, rOk_app (h3 i i0 i1).2⟩, fun p p0 p1 => ⟨plOk_app (h4 p p0 p1).1, plOk_app (h4 p p0 p1).2⟩, h5⟩
theorem cS_tF {sh sh1 : gS} {M M1 : gM} {z : aS} (h : cS sh M z) (hF : tF sh M sh1 M1) (hO : gOK sh1 M1) : cS sh1 M1 z := by
  obtain ⟨⟨e, rfl⟩, hf⟩ := hF
  exact cS_keep (cS_app h) hO (fun b hb => hf b (by omega) (by omega) (by omega))
theorem tK_leM {i f lo f2 lo2 : Nat} {a b : List Int} (hi : i ≤ 5) (h1 : a.length ≤ b.length) : (tK i a).1 + (tR f lo (tI i a.length) b).cells ≤ (gx f2 lo2 5 1106).cells ∧ (tK i a).2 + (tR f lo (tI i a.length) b).slots ≤ (gx f2 lo2 5 1106).slots := by
  obtain ⟨h2, h3⟩ := tK_le (f := f) (lo := lo) (f2 := f2) (lo2 := lo2) hi h1 (Nat.le_refl _)
  have h4 := tI_le (L := b.length) hi
  have h5 := tS_mono h4 (Nat.le_refl 5)
  have h6 : tS 5 = 1106 := rfl
  refine ⟨Nat.le_trans h2 ?_, Nat.le_trans h3 ?_⟩
  · show txC i (tI i b.length) ≤ 5
    unfold txC; omega
  · show txD i (tI i b.length) ≤ 1106
    unfold txD; omega
theorem tK_endM {i f lo : Nat} {a : List Int} (hi : i ≤ 5) : (tK i a).1 ≤ (gx f lo 5 1106).cells ∧ (tK i a).2 ≤ (gx f lo 5 1106).slots := by
  have h4 := tI_le (L := a.length) hi
  have h5 := tS_mono h4 (Nat.le_refl 5)
  have h6 : tS 5 = 1106 := rfl
  refine ⟨?_, ?_⟩
  · show txC i (tI i a.length) ≤ 5
    unfold txC; omega
  · show txD i (tI i a.length) ≤ 1106
    unfold txD; omega
theorem sp_X10_spell {sh : gS} {M : gM} {i : Nat} {s : List Int} (hX : tX sh M i s) {T : Int} {n : Nat} {fs : List gF} (hT : tOk sh M T n fs) (hTr : 0 ≤ T ∧ T < 400) (hw : ∀ f ∈ fs, 0 ≤ f.2 ∧ f.2 < 2147483648) (hL : (s ++ spF 0 fs).length ≤ 574) :
    gC (tR 10 222 i (s ++ spF 0 fs)) yX10_spell cX10_spell 3 none [(4, T), (4, 475)] sh M (tQ none sh M i (s ++ spF 0 fs)) := by
  have hOK := hX.1
  have hi5 := hX.2.2.2.2.2.2.1
  obtain ⟨⟨sT0, sT1, sT2, -⟩, hn32, hsuf, hfl⟩ := hT
  have hfr : ∀ (sh1 : gS) (M1 : gM), tF sh M sh1 M1 → M1 T = M T ∧ M1 (T + 1) = M (T + 1) ∧ M1 (T + 2) = M (T + 2) ∧ gsh sh1 T = some (0, 11) ∧ gsh sh1 (T + 1) = some (1, n) ∧ gsh sh1 (T + 2) = some (1, n) :=
    fun sh1 M1 h => ⟨h.2 T (by omega) (by omega) (by omega), h.2 (T + 1) (by omega) (by omega) (by omega), h.2 (T + 2) (by omega) (by omega) (by omega), tF_sh h sT0, tF_sh h sT1, tF_sh h sT2⟩
  have lp : ∀ (suf : List gF) (x : Nat) (sh1 : gS) (M1 : gM) (t : List Int), x + suf.length ≤ n → tSuf M T (x : Int) suf → (∀ f ∈ suf, 0 ≤ f.2 ∧ f.2 < 2147483648) → t ++ spF x suf = s ++ spF 0 fs → tX sh1 M1 (tI i t.length) t → tF sh M sh1 M1 →
      gA (tR 10 222 i (s ++ spF 0 fs)) yX10_spell cX10_spell 3 none (tQ none sh M i (s ++ spF 0 fs)) (tK i t) 2 [(4, T), (4, 475), (0, (x : Int))] [] sh1 M1 := by
    intro suf
    induction suf with
    | nil =>
      intro x sh1 M1 t hxn hs hws ht hX1 hF1
      have e : t = s ++ spF 0 fs := by rw [← ht]; exact (List.append_nil t).symm
      subst e
      obtain ⟨e0, e1, e2, z0, z1, z2⟩ := hfr sh1 M1 hF1
      have hct := tSuf_nil hs
      have hO1 := hX1.1
      refine g_iload_n (q0 := 3) (j := 2) rfl dX10_spell_2 rfl ?_
      refine g_aload_n (q0 := 4) (j := 0) rfl dX10_spell_3 rfl ?_
      refine g_getf (q0 := 7) (t := 0) (fi := 2) rfl rfl ff_X10_23 dX10_spell_4 rfl (by assumption) ?_
      rw [e0, hct]
      refine g_icmp_ge (q0 := 10) (tgt := 54) rfl dX10_spell_7 (by decide) (fun h7 => ?_) (fun h7 => ?_)
      · refine g_return dX10_spell_54 rfl (tK_end hi5 (Nat.le_refl _)) ?_
        exact ⟨rfl, hX1, hF1⟩
      · exact absurd h7 (by omega)
    | cons f r ih =>
      intro x sh1 M1 t hxn hs hws ht hX1 hF1
      obtain ⟨q0, q1, q2, q3, q4, q5⟩ := tSuf_cons hs
      obtain ⟨hwf, hwr⟩ := List.forall_mem_cons.mp hws
      rw [List.length_cons] at hxn
      have nx : ∀ (sh2 : gS) (M2 : gM) (t2 : List Int), t2 ++ (fT f ++ spF (x + 1) r) = s ++ spF 0 fs → tX sh2 M2 (tI i t2.length) t2 → tF sh M sh2 M2 →
          gA (tR 10 222 i (s ++ spF 0 fs)) yX10_spell cX10_spell 3 none (tQ none sh M i (s ++ spF 0 fs)) (tK i t2) 21 [(4, T), (4, 475), (0, (x : Int))] [] sh2 M2 := by
        intro sh2 M2 t2 ht2 hX2 hF2
        obtain ⟨e0, e1, e2, z0, z1, z2⟩ := hfr sh2 M2 hF2
        have hO2 := hX2.1
        have ht3 : (t2 ++ pT f.1) ++ (61 :: (cT2 f.2 ++ spF (x + 1) r)) = s ++ spF 0 fs := by
          rw [← ht2]
          simp only [fT, List.append_assoc, List.cons_append]
        have ht4 : ((t2 ++ pT f.1) ++ [61]) ++ (cT2 f.2 ++ spF (x + 1) r) = s ++ spF 0 fs := by rw [← ht3, List.append_assoc]; rfl
        have ht5 : (((t2 ++ pT f.1) ++ [61]) ++ cT2 f.2) ++ spF (x + 1) r = s ++ spF 0 fs := by rw [← ht4, List.append_assoc]
        have hl3 := app_le ht3
        have hl4 := app_le ht4
        have hl5 := app_le ht5
        refine g_aload_n (q0 := 22) (j := 1) rfl dX10_spell_21 rfl ?_
        refine g_aload_n (q0 := 23) (j := 0) rfl dX10_spell_22 rfl ?_
        refine g_getp (q0 := 26) (b := T + 1) rfl ff_X10_9 dX10_spell_23 rfl hO2 (by omega) (by assumption) rfl rfl ?_
        refine g_iload_n (q0 := 27) (j := 2) rfl dX10_spell_26 rfl ?_
        refine g_iald (q0 := 28) rfl dX10_spell_27 (by assumption) (by omega) (by omega) ?_
        rw [e1, q2]
        refine g_callS (as := [_, _]) (rest := []) mt_X10_spellPath ms_X10_spellPath ml_X10_62 dX10_spell_28 (q0 := 31) rfl rfl (sp_X10_spellPath hX2 q4 (Nat.le_trans hl3 hL)) rfl ⟨Nat.le_of_ble_eq_true rfl, Nat.le_of_ble_eq_true rfl⟩ (tK_le hi5 (app_le2 _ _) hl3) (Nat.le_of_ble_eq_true rfl) (fun r3 sh3 M3 hP3 hw3 hMw3 => ?_)
        obtain ⟨rfl, hX3, hF3⟩ := tQ_use hP3 (app_le2 _ _) hF2
        refine tK_go hi5 (app_le2 _ _) ?_
        have hO3 := hX3.1
        refine g_aload_n (q0 := 32) (j := 1) rfl dX10_spell_31 rfl ?_
        refine g_bipush (q0 := 34) rfl dX10_spell_32 (k := ?_)
        refine g_callV (as := [_]) (rest := []) mt_J4_append_cf468 mi_J4_append_cf468 se_J4_append_cf468 ml_X10_56 dX10_spell_34 (q0 := 37) rfl rfl (sh_475 hO3) rfl rfl (sp_appC hX3 ⟨by decide, by decide⟩ (Nat.le_trans hl4 hL)) rfl ⟨Nat.le_of_ble_eq_true rfl, Nat.le_of_ble_eq_true rfl⟩ (tK_le hi5 (app_le2 _ _) hl4) (Nat.le_of_ble_eq_true rfl) (fun r4 sh4 M4 hP4 hw4 hMw4 => ?_)
        obtain ⟨rfl, hX4, hF4⟩ := tQ_use hP4 (app_le2 _ _) hF3
        refine tK_go hi5 (app_le2 _ _) ?_
        have hO4 := hX4.1
        obtain ⟨e0, e1, e2, z0, z1, z2⟩ := hfr sh4 M4 hF4
        refine g_pop (q0 := 38) rfl dX10_spell_37 (k := ?_)
        refine g_aload_n (q0 := 39) (j := 1) rfl dX10_spell_38 rfl ?_
        refine g_aload_n (q0 := 40) (j := 0) rfl dX10_spell_39 rfl ?_
        refine g_getp (q0 := 43) (b := T + 2) rfl ff_X10_15 dX10_spell_40 rfl hO4 (by omega) (by assumption) rfl rfl ?_
        refine g_iload_n (q0 := 44) (j := 2) rfl dX10_spell_43 rfl ?_
        refine g_iald (q0 := 45) rfl dX10_spell_44 (by assumption) (by omega) (by omega) ?_
        rw [e2, q3]
        refine g_callS (as := [_, _]) (rest := []) mt_X10_spellContent ms_X10_spellContent ml_X10_66 dX10_spell_45 (q0 := 48) rfl rfl (sp_X10_spellContent hX4 hwf (Nat.le_trans hl5 hL)) rfl ⟨Nat.le_of_ble_eq_true rfl, Nat.le_of_ble_eq_true rfl⟩ (tK_le hi5 (app_le2 _ _) hl5) (Nat.le_of_ble_eq_true rfl) (fun r5 sh5 M5 hP5 hw5 hMw5 => ?_)
        obtain ⟨rfl, hX5, hF5⟩ := tQ_use hP5 (app_le2 _ _) hF4
        refine tK_go hi5 (app_le2 _ _) ?_
        refine g_iinc (q0 := 51) (lv2 := [_, _, _]) rfl dX10_spell_48 rfl (by decide) rfl rfl (by omega) (by omega) ?_
        refine g_goto (tgt := 2) dX10_spell_51 (by decide) ?_
        exact ih (x + 1) sh5 M5 _ (by omega) (by exact_mod_cast q5) hwr ht5 hX5 hF5
      obtain ⟨e0, e1, e2, z0, z1, z2⟩ := hfr sh1 M1 hF1
      have hO1 := hX1.1
      refine g_iload_n (q0 := 3) (j := 2) rfl dX10_spell_2 rfl ?_
      refine g_aload_n (q0 := 4) (j := 0) rfl dX10_spell_3 rfl ?_
      refine g_getf (q0 := 7) (t := 0) (fi := 2) rfl rfl ff_X10_23 dX10_spell_4 rfl (by assumption) ?_
      rw [e0]
      refine g_icmp_ge (q0 := 10) (tgt := 54) rfl dX10_spell_7 (by decide) (fun h7 => ?_) (fun h7 => ?_)
      · exact absurd h7 (by omega)
      · refine g_iload_n (q0 := 11) (j := 2) rfl dX10_spell_10 rfl ?_
        refine g_if_le (q0 := 14) (tgt := 21) rfl dX10_spell_11 (by decide) (fun h11 => ?_) (fun h11 => ?_)
        · have hx0 : x = 0 := by omega
          subst hx0
          refine nx sh1 M1 t ?_ hX1 hF1
          rw [← ht]
          rw [spF_c, if_neg (show ¬ 0 < 0 by decide)]
          rfl
        · have ht3 : (t ++ [59]) ++ (fT f ++ spF (x + 1) r) = s ++ spF 0 fs := by
            rw [← ht, List.append_assoc]
            rw [spF_c, if_pos (show 0 < x by omega)]
          have hl3 := app_le ht3
          refine g_aload_n (q0 := 15) (j := 1) rfl dX10_spell_14 rfl ?_
          refine g_bipush (q0 := 17) rfl dX10_spell_15 (k := ?_)
          refine g_callV (as := [_]) (rest := []) mt_J4_append_cf468 mi_J4_append_cf468 se_J4_append_cf468 ml_X10_56 dX10_spell_17 (q0 := 20) rfl rfl (sh_475 hO1) rfl rfl (sp_appC hX1 ⟨by decide, by decide⟩ (Nat.le_trans hl3 hL)) rfl ⟨Nat.le_of_ble_eq_true rfl, Nat.le_of_ble_eq_true rfl⟩ (tK_le hi5 (app_le2 _ _) hl3) (Nat.le_of_ble_eq_true rfl) (fun r3 sh3 M3 hP3 hw3 hMw3 => ?_)
          obtain ⟨rfl, hX3, hF3⟩ := tQ_use hP3 (app_le2 _ _) hF1
          refine tK_go hi5 (app_le2 _ _) ?_
          refine g_pop (q0 := 21) rfl dX10_spell_20 (k := ?_)
          exact nx sh3 M3 _ ht3 hX3 hF3
  refine gC_ofA (lv := [_, _, _]) (by decide +kernel) (Nat.le_of_ble_eq_true rfl) rfl (fun hMw hav => ?_)
  refine g_iconst (q0 := 1) rfl dX10_spell_0 (k := ?_)
  refine g_istore_n (q0 := 2) (j := 2) (lv2 := [_, _, _]) rfl dX10_spell_1 (by decide) rfl rfl ?_
  refine tK_0 hX ?_
  refine lp fs 0 sh M s (by omega) hsuf hw rfl (by rw [tK_in hX]; exact hX) (tF_refl _ _)
