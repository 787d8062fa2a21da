-- ==== the call spelt, by the reference, to its end
theorem emR_fr {M0 M1 : gM} {t : List Int} (hE : emR M0 M1 t) : gFr [] [50, 51] M0 M1 := by
  refine ⟨fun b hb b0 => ?_, fun j hj => hE.2 711 j (fun _ => ⟨fun q => hj (by rw [q]; exact List.mem_cons_self), fun q => hj (by rw [q]; exact List.mem_cons_of_mem _ List.mem_cons_self)⟩)⟩
  funext j
  exact hE.2 b j (fun q => absurd q b0)
theorem emR_st {M0 M1 : gM} {t : List Int} {z : aS} (hE : emR M0 M1 t) (hz : uSt M0 z) : uSt M1 z :=
  uSt_keep hz (emR_fr hE) (fun b hb => by cases hb) ⟨by decide, by decide, by decide, by decide⟩
theorem s_spellsFile {M0 M1 : gM} {t : List Int} {T : Int} {fs : List gF} {j : Nat} {f : gF} (hT : uT M0 T fs) (hj : fs[j]? = some f) (hp : pW f.1) (hc : cRg f.2) (hE : emR M0 M1 t) (h0 : 0 ≤ M0 711 50 ∧ M0 711 50 ≤ 1000) (hl : t.length ≤ 900) :
    ∃ M2, F_spellsFile M1 T (j : Int) = some M2 ∧ emR M0 M2 (t ++ fT f) := by
  obtain ⟨p, c⟩ := f
  dsimp only at hp hc
  have hpn := pNm_rng p
  have hdn := dgN_rng 6 c
  have hd1 := dgN_pos hc
  have hcr : 10 ≤ c ∧ c < 2000000 := hc
  rw [eq_spellsFile, gI_bb (s_pathAt (emR_T hE hT) hj)]
  dsimp only
  have l67 : ∀ (k i : Nat) (M3 : gM) (t3 : List Int), emR M0 M3 t3 → i + 1 + k = (dgN 6 c).toNat → F_spellsFile_67 M3 T (j : Int) p ((10 ^ i : Nat) : Int) ((i : Int) + 1) = F_spellsFile_102 M3 T (j : Int) p ((10 ^ ((dgN 6 c).toNat - 1) : Nat) : Int) c := by
    intro k
    induction k with
    | zero =>
      intro i M3 t3 hE3 hi
      rw [eq_spellsFile_67, gI_bb (show F_contentAt M3 T (j : Int) = some c from s_contentAt (emR_T hE3 hT) hj), gI_bb (show F_digits c = some (dgN 6 c) from s_digits (by omega) (by omega)), if_neg (by omega), gI_bb (show F_contentAt M3 T (j : Int) = some c from s_contentAt (emR_T hE3 hT) hj), show (dgN 6 c).toNat - 1 = i by omega]
    | succ k ih =>
      intro i M3 t3 hE3 hi
      obtain ⟨p1, p2⟩ := ten_pow (k := i + 1) (by omega)
      have e : ((10 ^ i : Nat) : Int) * 10 = ((10 ^ (i + 1) : Nat) : Int) := by rw [Nat.pow_succ, Int.natCast_mul]; rfl
      rw [eq_spellsFile_67, gI_bb (show F_contentAt M3 T (j : Int) = some c from s_contentAt (emR_T hE3 hT) hj), gI_bb (show F_digits c = some (dgN 6 c) from s_digits (by omega) (by omega)), if_pos (by omega), e, gw32_id (by omega) (by omega), gw32_id (by omega) (by omega), show (i : Int) + 1 + 1 = ((i + 1 : Nat) : Int) + 1 by omega]
      exact ih (i + 1) M3 t3 hE3 (by omega)
  have lp : ∀ (k x : Nat) (M3 : gM) (t3 : List Int), x + k = (pNm p).toNat → t3.length ≤ 930 - 2 * k → emR M0 M3 t3 → ∃ M2, F_spellsFile_10 M3 T (j : Int) p (x : Int) = some M2 ∧ emR M0 M2 (t3 ++ (spP p x k ++ (61 :: cT2 c))) := by
    intro k
    induction k with
    | zero =>
      intro x M3 t3 hx hl3 hE3
      rw [eq_spellsFile_10, gI_bb (s_names hp), if_neg (by omega)]
      obtain ⟨M4, e4, hE4⟩ := s_spells (c := 61) hE3 h0 (by omega)
      rw [e4]
      show ∃ M2, F_spellsFile_67 M4 T (j : Int) p 1 1 = some M2 ∧ _
      have e := l67 ((dgN 6 c).toNat - 1) 0 M4 _ hE4 (by omega)
      have e' : F_spellsFile_67 M4 T (j : Int) p 1 1 = _ := e
      rw [e']
      obtain ⟨M5, e5, hE5⟩ := s_digs (T := T) (j := (j : Int)) (p := p) (c := c) ⟨by omega, by omega⟩ h0 ((dgN 6 c).toNat - 1) M4 (t3 ++ [61]) (by omega) (by rw [List.length_append, List.length_singleton]; omega) hE4
      refine ⟨M5, e5, ?_⟩
      have e6 : t3 ++ (spP p x 0 ++ (61 :: cT2 c)) = t3 ++ [61] ++ dgS c ((dgN 6 c).toNat - 1 + 1) := by
        rw [show (dgN 6 c).toNat - 1 + 1 = (dgN 6 c).toNat by omega, List.append_assoc]
        rfl
      rw [e6]
      exact hE5
    | succ k ih =>
      intro x M3 t3 hx hl3 hE3
      have hpr := pg_rng p x
      have nx : ∀ (M4 : gM) (t4 : List Int), t4.length ≤ 930 - 2 * k - 1 → emR M0 M4 t4 → ∃ M2, Option.bind (F_spells M4 (gw32 ((96 : Int) + (gand (gshr p (gw32 ((25 : Int) - (gw32 ((5 : Int) * (x : Int)))))) 31)))) (fun m46 => F_spellsFile_10 m46 T (j : Int) p (gw32 ((x : Int) + 1))) = some M2 ∧ emR M0 M2 (t4 ++ ((96 + pg p x) :: (spP p (x + 1) k ++ (61 :: cT2 c)))) := by
        intro M4 t4 hl4 hE4
        rw [gw32_id (z := (5 : Int) * (x : Int)) (by omega) (by omega), gw32_id (z := (25 : Int) - 5 * (x : Int)) (by omega) (by omega), pg_ofs hp.1 hp.2.1 (by omega), gw32_id (z := (96 : Int) + pg p x) (by omega) (by omega), gw32_id (z := (x : Int) + 1) (by omega) (by omega)]
        obtain ⟨M5, e5, hE5⟩ := s_spells (c := 96 + pg p x) hE4 h0 (by omega)
        rw [e5]
        obtain ⟨M6, e6, hE6⟩ := ih (x + 1) M5 (t4 ++ [96 + pg p x]) (by omega) (by rw [List.length_append, List.length_singleton]; omega) hE5
        refine ⟨M6, ?_, ?_⟩
        · rw [← e6]
          show F_spellsFile_10 M5 T (j : Int) p ((x : Int) + 1) = _
          congr 1
        · rw [List.append_assoc] at hE6
          exact hE6
      rw [eq_spellsFile_10, gI_bb (s_names hp), if_pos (by omega)]
      by_cases hx0 : (0 : Int) < (x : Int)
      · rw [if_pos hx0]
        obtain ⟨M4, e4, hE4⟩ := s_spells (c := 47) hE3 h0 (by omega)
        rw [e4]
        obtain ⟨M6, e6, hE6⟩ := nx M4 (t3 ++ [47]) (by rw [List.length_append, List.length_singleton]; omega) hE4
        refine ⟨M6, e6, ?_⟩
        rw [spP_s, if_pos (show 0 < x by omega)]
        rw [List.append_assoc] at hE6
        exact hE6
      · rw [if_neg hx0]
        obtain ⟨M6, e6, hE6⟩ := nx M3 t3 (by omega) hE3
        refine ⟨M6, e6, ?_⟩
        rw [spP_s, if_neg (show ¬ 0 < x by omega)]
        exact hE6
  obtain ⟨M2, e2, hE2⟩ := lp (pNm p).toNat 0 M1 t (by omega) (by omega) hE
  exact ⟨M2, e2, hE2⟩
theorem s_spelt {M : gM} {z : aS} {k at_ : Int} (hz : uSt M z) (hO : kOk (aCs z)) (hT : kTen (aCs z)) : ∃ M1, F_spelt M k at_ = some (aSpelt z k at_, M1) ∧ uSt M1 z := by
  have hC := hz.1
  rw [eq_spelt, gI_bb (s_isCommit hC k)]
  by_cases hk : 0 ≤ k ∧ k < ((aCs z).length : Int)
  · rw [decide_eq_true hk, if_neg bIt, gI_bb s_in]
    by_cases ha : 0 ≤ at_ ∧ at_ ≤ 599
    · rw [decide_eq_true ha, if_neg bIt]
      obtain ⟨kn, rfl⟩ : ∃ n : Nat, k = (n : Int) := ⟨k.toNat, by omega⟩
      have hkl : kn < (aCs z).length := by omega
      obtain ⟨c, hc⟩ : ∃ c, (aCs z)[kn]? = some c := ⟨_, List.getElem?_eq_getElem hkl⟩
      obtain ⟨hwf, htw, -⟩ := hO kn c hc
      have hten := hT c (List.mem_of_getElem? hc)
      have hWl := kTx_len hwf
      have hlen := hC.2.1
      have hpl := hwf.1
      have hml := hwf.2.2.1
      have hfl := hwf.2.2.2.2.2.2
      generalize hM0 : gU (gU M 711 50 at_) 711 51 (-2) = M0
      have h50 : M0 711 50 = at_ := by rw [← hM0, gU_idx (by decide), gU_same]
      have h51 : M0 711 51 = -2 := by rw [← hM0, gU_same]
      have hz0 : uSt M0 z := by
        refine uSt_keep (A := []) (F := [50, 51]) hz ⟨fun b hb b0 => ?_, fun j hj => ?_⟩ (fun b hb => by cases hb) ⟨by decide, by decide, by decide, by decide⟩
        · rw [← hM0, gU_cell _ _ _ b0, gU_cell _ _ _ b0]
        · rw [← hM0, gU_idx (fun q => hj (by rw [q]; exact List.mem_cons_of_mem _ List.mem_cons_self)), gU_idx (fun q => hj (by rw [q]; exact List.mem_cons_self))]
      have h0 : 0 ≤ M0 711 50 ∧ M0 711 50 ≤ 1000 := by rw [h50]; omega
      have hrow : ∀ {M1 : gM} {t : List Int}, emR M0 M1 t → uRowC M1 (kn : Int) c := fun hE => (emR_st hE hz0).1.2.2 kn c hc
      have hTx : uT M0 (kn : Int) (kFs c) := (hz0.1.2.2 kn c hc).2.2.2.2.2.2
      have l3 : ∀ (suf : List Int) (x : Nat) (M1 : gM) (t : List Int), (kMs c).drop x = suf → t ++ suf = kTx c → emR M0 M1 t → ∃ M2, F_spelt_118 M1 (kn : Int) at_ (x : Int) = some (M2 711 51, M2) ∧ emR M0 M2 (kTx c) := by
        intro suf
        induction suf with
        | nil =>
          intro x M1 t hd ht hE
          have hx := List.drop_eq_nil_iff.mp hd
          obtain ⟨r1, r2, r3, r4, -⟩ := hrow hE
          rw [eq_spelt_118, if_pos (by omega), r3, if_neg (by omega)]
          rw [List.append_nil] at ht
          subst ht
          exact ⟨M1, rfl, hE⟩
        | cons b r ih =>
          intro x M1 t hd ht hE
          obtain ⟨hb, hd2⟩ := drop_at hd
          have hxl := (List.getElem?_eq_some_iff.mp hb).1
          obtain ⟨r1, r2, r3, r4, -⟩ := hrow hE
          have hll := app_le ht
          rw [eq_spelt_118, if_pos (by omega), r3, if_pos (by omega), gw32_id (z := (24 : Int) * (kn : Int)) (by omega) (by omega), gw32_id (z := (24 : Int) * (kn : Int) + (x : Int)) (by omega) (by omega), if_pos (by omega), r4 x b hb]
          obtain ⟨M2, e2, hE2⟩ := s_spells (c := b) hE h0 (by omega)
          rw [gI_bb e2, gw32_id (by omega) (by omega)]
          exact ih (x + 1) M2 (t ++ [b]) hd2 (by rw [← ht, List.append_assoc]; rfl) hE2
      have l2 : ∀ (suf : List gF) (x : Nat) (M1 : gM) (t : List Int), (kFs c).drop x = suf → t ++ (spF x suf ++ (58 :: kMs c)) = kTx c → emR M0 M1 t → ∃ M2, F_spelt_78 M1 (kn : Int) at_ (x : Int) = some (M2 711 51, M2) ∧ emR M0 M2 (kTx c) := by
        intro suf
        induction suf with
        | nil =>
          intro x M1 t hd ht hE
          have hx := List.drop_eq_nil_iff.mp hd
          obtain ⟨-, -, -, -, -, -, r7⟩ := hrow hE
          have hll := app_le ht
          rw [eq_spelt_78, if_pos (by omega), r7.2.1, if_neg (by omega)]
          obtain ⟨M2, e2, hE2⟩ := s_spells (c := 58) hE h0 (by omega)
          rw [gI_bb e2]
          exact l3 (kMs c) 0 M2 (t ++ [58]) rfl (by rw [← ht, List.append_assoc]; rfl) hE2
        | cons f r ih =>
          intro x M1 t hd ht hE
          obtain ⟨hb, hd2⟩ := drop_at hd
          have hxl := (List.getElem?_eq_some_iff.mp hb).1
          obtain ⟨-, -, -, -, -, -, r7⟩ := hrow hE
          have hfm := List.mem_of_getElem? hb
          have hll := app_le ht
          have nx : ∀ (M3 : gM) (t3 : List Int), t3 ++ (fT f ++ (spF (x + 1) r ++ (58 :: kMs c))) = kTx c → emR M0 M3 t3 → ∃ M2, Option.bind (F_spellsFile M3 (kn : Int) (x : Int)) (fun m101 => F_spelt_78 m101 (kn : Int) at_ (gw32 ((x : Int) + 1))) = some (M2 711 51, M2) ∧ emR M0 M2 (kTx c) := by
            intro M3 t3 ht3 hE3
            have hl3 := app_le ht3
            obtain ⟨M4, e4, hE4⟩ := s_spellsFile hTx hb (htw f hfm).1 (hten f hfm) hE3 h0 (by omega)
            rw [gI_bb e4, gw32_id (by omega) (by omega)]
            exact ih (x + 1) M4 (t3 ++ fT f) hd2 (by rw [← ht3, List.append_assoc]) hE4
          rw [eq_spelt_78, if_pos (by omega), r7.2.1, if_pos (by omega)]
          by_cases hx0 : (0 : Int) < (x : Int)
          · rw [if_pos hx0]
            obtain ⟨M2, e2, hE2⟩ := s_spells (c := 59) hE h0 (by omega)
            rw [gI_bb e2]
            refine nx M2 (t ++ [59]) ?_ hE2
            rw [← ht]
            rw [spF_c, if_pos (show 0 < x by omega), List.append_assoc, List.append_assoc, List.append_assoc]
          · rw [if_neg hx0]
            refine nx M1 t ?_ hE
            rw [← ht]
            rw [spF_c, if_neg (show ¬ 0 < x by omega), List.nil_append, List.append_assoc]
      have l1 : ∀ (suf : List Int) (x : Nat) (M1 : gM) (t : List Int), (kPs c).drop x = suf → t ++ (spR x suf ++ (58 :: (spF 0 (kFs c) ++ (58 :: kMs c)))) = kTx c → emR M0 M1 t → ∃ M2, F_spelt_34 M1 (kn : Int) at_ (x : Int) = some (M2 711 51, M2) ∧ emR M0 M2 (kTx c) := by
        intro suf
        induction suf with
        | nil =>
          intro x M1 t hd ht hE
          have hx := List.drop_eq_nil_iff.mp hd
          obtain ⟨r1, -⟩ := hrow hE
          have hll := app_le ht
          rw [eq_spelt_34, if_pos (by omega), r1, if_neg (by omega)]
          obtain ⟨M2, e2, hE2⟩ := s_spells (c := 58) hE h0 (by omega)
          rw [gI_bb e2]
          exact l2 (kFs c) 0 M2 (t ++ [58]) rfl (by rw [← ht, List.append_assoc]; rfl) hE2
        | cons p r ih =>
          intro x M1 t hd ht hE
          obtain ⟨hb, hd2⟩ := drop_at hd
          have hxl := (List.getElem?_eq_some_iff.mp hb).1
          obtain ⟨r1, -⟩ := hrow hE
          have hpr := hwf.2.1 p (List.mem_of_getElem? hb)
          have hll := app_le ht
          have nx : ∀ (M3 : gM) (t3 : List Int), t3 ++ (kDg p ++ (spR (x + 1) r ++ (58 :: (spF 0 (kFs c) ++ (58 :: kMs c))))) = kTx c → emR M0 M3 t3 → ∃ M2, Option.bind (F_parentAt M3 (kn : Int) (x : Int)) (fun r58 => Option.bind (F_spellsNumber M3 r58) (fun m61 => F_spelt_34 m61 (kn : Int) at_ (gw32 ((x : Int) + 1)))) = some (M2 711 51, M2) ∧ emR M0 M2 (kTx c) := by
            intro M3 t3 ht3 hE3
            have hl3 := app_le ht3
            obtain ⟨M4, e4, hE4⟩ := s_spellsNumber (x := p) ⟨hpr.1, by omega⟩ hE3 h0 (by omega)
            rw [gI_bb (s_parentAt (emR_st hE3 hz0).1 hc hpl hb), gI_bb e4, gw32_id (by omega) (by omega)]
            exact ih (x + 1) M4 (t3 ++ kDg p) hd2 (by rw [← ht3, List.append_assoc]) hE4
          rw [eq_spelt_34, if_pos (by omega), r1, if_pos (by omega)]
          by_cases hx0 : (0 : Int) < (x : Int)
          · rw [if_pos hx0]
            obtain ⟨M2, e2, hE2⟩ := s_spells (c := 44) hE h0 (by omega)
            rw [gI_bb e2]
            refine nx M2 (t ++ [44]) ?_ hE2
            rw [← ht]
            rw [spR_c, if_pos (show 0 < x by omega), List.append_assoc, List.append_assoc, List.append_assoc]
          · rw [if_neg hx0]
            refine nx M1 t ?_ hE
            rw [← ht]
            rw [spR_c, if_neg (show ¬ 0 < x by omega), List.nil_append, List.append_assoc]
      obtain ⟨M2, e2, hE2⟩ := l1 (kPs c) 0 M0 [] rfl rfl (emR_0 M0)
      refine ⟨M2, ?_, emR_st hE2 hz0⟩
      have e2' : F_spelt_34 M0 (kn : Int) at_ 0 = some (M2 711 51, M2) := e2
      rw [e2']
      congr 2
      have e3 := congrArg Prod.snd hE2.1
      have e4 := emS_2 (kTx c) (M0 711 50, M0 711 51) h0.1
      rw [← e3] at e4
      show M2 711 51 = _
      unfold aSpelt
      rw [if_pos ⟨decide_eq_true hk, by omega, by omega⟩, Int.toNat_natCast, hc]
      rw [h50, h51] at e4
      exact e4
    · rw [decide_eq_false ha, if_pos bIf]
      refine ⟨M, ?_, hz⟩
      unfold aSpelt
      rw [if_neg (fun q => ha ⟨q.2.1, by have := q.2.2; omega⟩)]
  · rw [decide_eq_false hk, if_pos bIf]
    refine ⟨M, ?_, hz⟩
    unfold aSpelt
    rw [if_neg (fun q => hk (of_decide_eq_true q.1))]
