-- ==== the text: what is spelt, by the class
theorem dX10_spellPath_0 : decode cX10_spellPath 0 = .ok (.iload_n 1, 1) := by decide +kernel
theorem dX10_spellPath_1 : decode cX10_spellPath 1 = .ok (.invokestatic 18, 3) := by decide +kernel
theorem dX10_spellPath_4 : decode cX10_spellPath 4 = .ok (.istore_n 2, 1) := by decide +kernel
theorem dX10_spellPath_5 : decode cX10_spellPath 5 = .ok (.iconst 0, 1) := by decide +kernel
theorem dX10_spellPath_6 : decode cX10_spellPath 6 = .ok (.istore_n 3, 1) := by decide +kernel
theorem dX10_spellPath_7 : decode cX10_spellPath 7 = .ok (.iload_n 3, 1) := by decide +kernel
theorem dX10_spellPath_8 : decode cX10_spellPath 8 = .ok (.iload_n 2, 1) := by decide +kernel
theorem dX10_spellPath_9 : decode cX10_spellPath 9 = .ok (.if_icmp .ge 42, 3) := by decide +kernel
theorem dX10_spellPath_12 : decode cX10_spellPath 12 = .ok (.iload_n 3, 1) := by decide +kernel
theorem dX10_spellPath_13 : decode cX10_spellPath 13 = .ok (.ifCond .le 10, 3) := by decide +kernel
theorem dX10_spellPath_16 : decode cX10_spellPath 16 = .ok (.aload_n 0, 1) := by decide +kernel
theorem dX10_spellPath_17 : decode cX10_spellPath 17 = .ok (.bipush 47, 2) := by decide +kernel
theorem dX10_spellPath_19 : decode cX10_spellPath 19 = .ok (.invokevirtual 56, 3) := by decide +kernel
theorem dX10_spellPath_22 : decode cX10_spellPath 22 = .ok (.pop, 1) := by decide +kernel
theorem dX10_spellPath_23 : decode cX10_spellPath 23 = .ok (.aload_n 0, 1) := by decide +kernel
theorem dX10_spellPath_24 : decode cX10_spellPath 24 = .ok (.bipush 97, 2) := by decide +kernel
theorem dX10_spellPath_26 : decode cX10_spellPath 26 = .ok (.iload_n 1, 1) := by decide +kernel
theorem dX10_spellPath_27 : decode cX10_spellPath 27 = .ok (.bipush 25, 2) := by decide +kernel
theorem dX10_spellPath_29 : decode cX10_spellPath 29 = .ok (.iconst 5, 1) := by decide +kernel
theorem dX10_spellPath_30 : decode cX10_spellPath 30 = .ok (.iload_n 3, 1) := by decide +kernel
theorem dX10_spellPath_31 : decode cX10_spellPath 31 = .ok (.imul, 1) := by decide +kernel
theorem dX10_spellPath_32 : decode cX10_spellPath 32 = .ok (.isub, 1) := by decide +kernel
theorem dX10_spellPath_33 : decode cX10_spellPath 33 = .ok (.iushr, 1) := by decide +kernel
theorem dX10_spellPath_34 : decode cX10_spellPath 34 = .ok (.bipush 31, 2) := by decide +kernel
theorem dX10_spellPath_36 : decode cX10_spellPath 36 = .ok (.iand, 1) := by decide +kernel
theorem dX10_spellPath_37 : decode cX10_spellPath 37 = .ok (.iadd, 1) := by decide +kernel
theorem dX10_spellPath_38 : decode cX10_spellPath 38 = .ok (.iconst 1, 1) := by decide +kernel
theorem dX10_spellPath_39 : decode cX10_spellPath 39 = .ok (.isub, 1) := by decide +kernel
theorem dX10_spellPath_40 : decode cX10_spellPath 40 = .ok (.i2c, 1) := by decide +kernel
theorem dX10_spellPath_41 : decode cX10_spellPath 41 = .ok (.invokevirtual 56, 3) := by decide +kernel
theorem dX10_spellPath_44 : decode cX10_spellPath 44 = .ok (.pop, 1) := by decide +kernel
theorem dX10_spellPath_45 : decode cX10_spellPath 45 = .ok (.iinc 3 1, 3) := by decide +kernel
theorem dX10_spellPath_48 : decode cX10_spellPath 48 = .ok (.goto (-41), 3) := by decide +kernel
theorem dX10_spellPath_51 : decode cX10_spellPath 51 = .ok (.return_, 1) := by decide +kernel
theorem dX10_spellContent_0 : decode cX10_spellContent 0 = .ok (.iload_n 1, 1) := by decide +kernel
theorem dX10_spellContent_1 : decode cX10_spellContent 1 = .ok (.invokestatic 69, 3) := by decide +kernel
theorem dX10_spellContent_4 : decode cX10_spellContent 4 = .ok (.istore_n 2, 1) := by decide +kernel
theorem dX10_spellContent_5 : decode cX10_spellContent 5 = .ok (.iconst 0, 1) := by decide +kernel
theorem dX10_spellContent_6 : decode cX10_spellContent 6 = .ok (.istore_n 3, 1) := by decide +kernel
theorem dX10_spellContent_7 : decode cX10_spellContent 7 = .ok (.iload_n 3, 1) := by decide +kernel
theorem dX10_spellContent_8 : decode cX10_spellContent 8 = .ok (.iload_n 2, 1) := by decide +kernel
theorem dX10_spellContent_9 : decode cX10_spellContent 9 = .ok (.if_icmp .ge 27, 3) := by decide +kernel
theorem dX10_spellContent_12 : decode cX10_spellContent 12 = .ok (.aload_n 0, 1) := by decide +kernel
theorem dX10_spellContent_13 : decode cX10_spellContent 13 = .ok (.bipush 48, 2) := by decide +kernel
theorem dX10_spellContent_15 : decode cX10_spellContent 15 = .ok (.iload_n 1, 1) := by decide +kernel
theorem dX10_spellContent_16 : decode cX10_spellContent 16 = .ok (.iload_n 2, 1) := by decide +kernel
theorem dX10_spellContent_17 : decode cX10_spellContent 17 = .ok (.iconst 1, 1) := by decide +kernel
theorem dX10_spellContent_18 : decode cX10_spellContent 18 = .ok (.isub, 1) := by decide +kernel
theorem dX10_spellContent_19 : decode cX10_spellContent 19 = .ok (.iload_n 3, 1) := by decide +kernel
theorem dX10_spellContent_20 : decode cX10_spellContent 20 = .ok (.isub, 1) := by decide +kernel
theorem dX10_spellContent_21 : decode cX10_spellContent 21 = .ok (.invokestatic 74, 3) := by decide +kernel
theorem dX10_spellContent_24 : decode cX10_spellContent 24 = .ok (.iadd, 1) := by decide +kernel
theorem dX10_spellContent_25 : decode cX10_spellContent 25 = .ok (.i2c, 1) := by decide +kernel
theorem dX10_spellContent_26 : decode cX10_spellContent 26 = .ok (.invokevirtual 56, 3) := by decide +kernel
theorem dX10_spellContent_29 : decode cX10_spellContent 29 = .ok (.pop, 1) := by decide +kernel
theorem dX10_spellContent_30 : decode cX10_spellContent 30 = .ok (.iinc 3 1, 3) := by decide +kernel
theorem dX10_spellContent_33 : decode cX10_spellContent 33 = .ok (.goto (-26), 3) := by decide +kernel
theorem dX10_spellContent_36 : decode cX10_spellContent 36 = .ok (.return_, 1) := by decide +kernel
theorem dX10_spell_0 : decode cX10_spell 0 = .ok (.iconst 0, 1) := by decide +kernel
theorem dX10_spell_1 : decode cX10_spell 1 = .ok (.istore_n 2, 1) := by decide +kernel
theorem dX10_spell_2 : decode cX10_spell 2 = .ok (.iload_n 2, 1) := by decide +kernel
theorem dX10_spell_3 : decode cX10_spell 3 = .ok (.aload_n 0, 1) := by decide +kernel
theorem dX10_spell_4 : decode cX10_spell 4 = .ok (.getfield 23, 3) := by decide +kernel
theorem dX10_spell_7 : decode cX10_spell 7 = .ok (.if_icmp .ge 47, 3) := by decide +kernel
theorem dX10_spell_10 : decode cX10_spell 10 = .ok (.iload_n 2, 1) := by decide +kernel
theorem dX10_spell_11 : decode cX10_spell 11 = .ok (.ifCond .le 10, 3) := by decide +kernel
theorem dX10_spell_14 : decode cX10_spell 14 = .ok (.aload_n 1, 1) := by decide +kernel
theorem dX10_spell_15 : decode cX10_spell 15 = .ok (.bipush 59, 2) := by decide +kernel
theorem dX10_spell_17 : decode cX10_spell 17 = .ok (.invokevirtual 56, 3) := by decide +kernel
theorem dX10_spell_20 : decode cX10_spell 20 = .ok (.pop, 1) := by decide +kernel
theorem dX10_spell_21 : decode cX10_spell 21 = .ok (.aload_n 1, 1) := by decide +kernel
theorem dX10_spell_22 : decode cX10_spell 22 = .ok (.aload_n 0, 1) := by decide +kernel
theorem dX10_spell_23 : decode cX10_spell 23 = .ok (.getfield 9, 3) := by decide +kernel
theorem dX10_spell_26 : decode cX10_spell 26 = .ok (.iload_n 2, 1) := by decide +kernel
theorem dX10_spell_27 : decode cX10_spell 27 = .ok (.iaload, 1) := by decide +kernel
theorem dX10_spell_28 : decode cX10_spell 28 = .ok (.invokestatic 62, 3) := by decide +kernel
theorem dX10_spell_31 : decode cX10_spell 31 = .ok (.aload_n 1, 1) := by decide +kernel
theorem dX10_spell_32 : decode cX10_spell 32 = .ok (.bipush 61, 2) := by decide +kernel
theorem dX10_spell_34 : decode cX10_spell 34 = .ok (.invokevirtual 56, 3) := by decide +kernel
theorem dX10_spell_37 : decode cX10_spell 37 = .ok (.pop, 1) := by decide +kernel
theorem dX10_spell_38 : decode cX10_spell 38 = .ok (.aload_n 1, 1) := by decide +kernel
theorem dX10_spell_39 : decode cX10_spell 39 = .ok (.aload_n 0, 1) := by decide +kernel
theorem dX10_spell_40 : decode cX10_spell 40 = .ok (.getfield 15, 3) := by decide +kernel
theorem dX10_spell_43 : decode cX10_spell 43 = .ok (.iload_n 2, 1) := by decide +kernel
theorem dX10_spell_44 : decode cX10_spell 44 = .ok (.iaload, 1) := by decide +kernel
theorem dX10_spell_45 : decode cX10_spell 45 = .ok (.invokestatic 66, 3) := by decide +kernel
theorem dX10_spell_48 : decode cX10_spell 48 = .ok (.iinc 2 1, 3) := by decide +kernel
theorem dX10_spell_51 : decode cX10_spell 51 = .ok (.goto (-49), 3) := by decide +kernel
theorem dX10_spell_54 : decode cX10_spell 54 = .ok (.return_, 1) := by decide +kernel
abbrev tK (i : Nat) (t : List Int) : Nat × Nat := (txC i (tI i t.length), txD i (tI i t.length))
abbrev tR (f lo i : Nat) (t : List Int) : Room := gx f lo (txC i (tI i t.length)) (txD i (tI i t.length))
def tQ (rv : Option gV) (sh : gS) (M : gM) (i : Nat) (t : List Int) : Option gV → gS → gM → Prop := fun r sh1 M1 => r = rv ∧ tX sh1 M1 (tI i t.length) t ∧ tF sh M sh1 M1
theorem tK_le {i f lo f2 lo2 : Nat} {a b e : List Int} (hi : i ≤ 5) (h1 : a.length ≤ b.length) (h2 : b.length ≤ e.length) : (tK i a).1 + (tR f lo (tI i a.length) b).cells ≤ (tR f2 lo2 i e).cells ∧ (tK i a).2 + (tR f lo (tI i a.length) b).slots ≤ (tR f2 lo2 i e).slots := by
  show txC i (tI i a.length) + txC (tI i a.length) (tI (tI i a.length) b.length) ≤ txC i (tI i e.length) ∧ txD i (tI i a.length) + txD (tI i a.length) (tI (tI i a.length) b.length) ≤ txD i (tI i e.length)
  rw [tI_tI h1, txC_add (tI_ge i _).1 (tI_mono h1), txD_add (tI_ge i _).1 (tI_mono h1) (tI_le hi)]
  exact ⟨txC_le (tI_mono h2), txD_le (tI_mono h2) (tI_le hi)⟩
theorem tK_end {i f lo : Nat} {a e : List Int} (hi : i ≤ 5) (h : a.length ≤ e.length) : (tK i a).1 ≤ (tR f lo i e).cells ∧ (tK i a).2 ≤ (tR f lo i e).slots :=
  ⟨txC_le (tI_mono h), txD_le (tI_mono h) (tI_le hi)⟩
theorem tK_go {R : Room} {y : MethodName} {cc : ByteArray} {nL : Nat} {ret : Option FieldType} {Q : Option gV → gS → gM → Prop} {pc : Nat} {lv st : List gV} {sh : gS} {M : gM} {i f lo : Nat} {a b : List Int} (hi : i ≤ 5) (h1 : a.length ≤ b.length) (h : gA R y cc nL ret Q (tK i b) pc lv st sh M) :
    gA R y cc nL ret Q ((tK i a).1 + (tR f lo (tI i a.length) b).cells, (tK i a).2 + (tR f lo (tI i a.length) b).slots) pc lv st sh M := by
  refine gA_ck (c := txC i (tI i b.length)) (d := txD i (tI i b.length)) ?_ ?_ h
  · show txC i (tI i a.length) + txC (tI i a.length) (tI (tI i a.length) b.length) = _
    rw [tI_tI h1, txC_add (tI_ge i _).1 (tI_mono h1)]
  · show txD i (tI i a.length) + txD (tI i a.length) (tI (tI i a.length) b.length) = _
    rw [tI_tI h1, txD_add (tI_ge i _).1 (tI_mono h1) (tI_le hi)]
theorem tK_in {sh : gS} {M : gM} {i : Nat} {s : List Int} (hX : tX sh M i s) : tI i s.length = i := tI_same hX.2.2.2.2.2.2.1 hX.2.2.2.2.2.1
theorem tK_0 {R : Room} {y : MethodName} {cc : ByteArray} {nL : Nat} {ret : Option FieldType} {Q : Option gV → gS → gM → Prop} {pc : Nat} {lv st : List gV} {sh sh0 : gS} {M M0 : gM} {i : Nat} {a : List Int} (hX : tX sh0 M0 i a) (h : gA R y cc nL ret Q (tK i a) pc lv st sh M) :
    gA R y cc nL ret Q (0, 0) pc lv st sh M := by
  refine gA_ck (c := txC i (tI i a.length)) (d := txD i (tI i a.length)) ?_ ?_ h
  · rw [tK_in hX, txC_0]
  · rw [tK_in hX, txD_0]
theorem tQ_use {rv : Option gV} {sh sh1 sh2 : gS} {M M1 M2 : gM} {i : Nat} {a b : List Int} {r : Option gV} (h : tQ rv sh1 M1 (tI i a.length) b r sh2 M2) (h1 : a.length ≤ b.length) (hF : tF sh M sh1 M1) : r = rv ∧ tX sh2 M2 (tI i b.length) b ∧ tF sh M sh2 M2 := by
  obtain ⟨h2, h3, h4⟩ := h
  rw [tI_tI h1] at h3
  exact ⟨h2, h3, tF_trans hF h4⟩
theorem app_le {a b w : List Int} (h : a ++ b = w) : a.length ≤ w.length := by rw [← h, List.length_append]; omega
theorem app_le2 (a b : List Int) : a.length ≤ (a ++ b).length := by rw [List.length_append]; omega
theorem sp_appC {sh : gS} {M : gM} {i : Nat} {s : List Int} (hX : tX sh M i s) {c : Int} (hc : 0 ≤ c ∧ c < 128) (hL : (s ++ [c]).length ≤ 574) :
    gC (tR 8 178 i (s ++ [c])) yJ4_append_cf468 cJ4_append_cf468 2 (some (.object "java/lang/StringBuilder")) [(4, 475), (0, c)] sh M (tQ (some (4, 475)) sh M i (s ++ [c])) := by
  have e : (s ++ [c]).length = s.length + 1 := by rw [List.length_append]; rfl
  rw [e] at hL
  have h := sp_J4_appendC hX hc hL
  unfold tQ tR
  rw [e]
  exact h
theorem sp_appI {sh : gS} {M : gM} {i : Nat} {s : List Int} (hX : tX sh M i s) {x : Int} (hx : 0 ≤ x ∧ x < 120) (hL : s.length + 3 ≤ 574) :
    gC (tR 6 135 i (s ++ kDg x)) yJ4_append_bf812 cJ4_append_bf812 2 (some (.object "java/lang/StringBuilder")) [(4, 475), (0, x)] sh M (tQ (some (4, 475)) sh M i (s ++ kDg x)) := by
  have e : (s ++ kDg x).length = s.length + (kDg x).length := List.length_append
  have h := sp_J4_appendI hX hx hL
  unfold tQ tR
  rw [e]
  exact h
/-- a PATH, from its NAME x on -/
def spP (p : Int) : Nat → Nat → List Int
  | _, 0 => []
  | x, k + 1 => (if 0 < x then [47] else []) ++ ((96 + pg p x) :: spP p (x + 1) k)
theorem spP_s (p : Int) (x k : Nat) : spP p x (k + 1) = (if 0 < x then [47] else []) ++ ((96 + pg p x) :: spP p (x + 1) k) := rfl
def pT (p : Int) : List Int := spP p 0 (pNm p).toNat
def cT2 (c : Int) : List Int := dgS c (dgN 6 c).toNat
def fT (f : gF) : List Int := pT f.1 ++ (61 :: cT2 f.2)
def spF : Nat → List gF → List Int
  | _, [] => []
  | i, f :: r => (if 0 < i then [59] else []) ++ (fT f ++ spF (i + 1) r)
theorem spF_c (i : Nat) (f : gF) (r : List gF) : spF i (f :: r) = (if 0 < i then [59] else []) ++ (fT f ++ spF (i + 1) r) := rfl
theorem sp_X10_spellPath {sh : gS} {M : gM} {i : Nat} {s : List Int} (hX : tX sh M i s) {p : Int} (hp : 0 ≤ p ∧ p < 1073741824) (hL : (s ++ pT p).length ≤ 574) :
    gC (tR 9 199 i (s ++ pT p)) yX10_spellPath cX10_spellPath 4 none [(4, 475), (0, p)] sh M (tQ none sh M i (s ++ pT p)) := by
  have hOK := hX.1
  have hi5 := hX.2.2.2.2.2.2.1
  have hpn := pNm_rng p
  have lp : ∀ (k x : Nat) (sh1 : gS) (M1 : gM) (t : List Int), x + k = (pNm p).toNat → t ++ spP p x k = s ++ pT p → tX sh1 M1 (tI i t.length) t → tF sh M sh1 M1 →
      gA (tR 9 199 i (s ++ pT p)) yX10_spellPath cX10_spellPath 4 none (tQ none sh M i (s ++ pT p)) (tK i t) 7 [(4, 475), (0, p), (0, pNm p), (0, (x : Int))] [] sh1 M1 := by
    intro k
    induction k with
    | zero =>
      intro x sh1 M1 t hx ht hX1 hF1
      have e : t = s ++ pT p := by rw [← ht]; exact (List.append_nil t).symm
      subst e
      refine g_iload_n (q0 := 8) (j := 3) rfl dX10_spellPath_7 rfl ?_
      refine g_iload_n (q0 := 9) (j := 2) rfl dX10_spellPath_8 rfl ?_
      refine g_icmp_ge (q0 := 12) (tgt := 51) rfl dX10_spellPath_9 (by decide) (fun h9 => ?_) (fun h9 => ?_)
      · refine g_return dX10_spellPath_51 rfl (tK_end hi5 (Nat.le_refl _)) ?_
        exact ⟨rfl, hX1, hF1⟩
      · exact absurd h9 (by omega)
    | succ k ih =>
      intro x sh1 M1 t hx ht hX1 hF1
      have hpr := pg_rng p x
      obtain ⟨-, e2, -⟩ := ch_id (x := 96 + pg p x) (by omega) (by omega)
      have nx : ∀ (sh2 : gS) (M2 : gM) (t2 : List Int), t2 ++ ((96 + pg p x) :: spP p (x + 1) k) = s ++ pT p → tX sh2 M2 (tI i t2.length) t2 → tF sh M sh2 M2 →
          gA (tR 9 199 i (s ++ pT p)) yX10_spellPath cX10_spellPath 4 none (tQ none sh M i (s ++ pT p)) (tK i t2) 23 [(4, 475), (0, p), (0, pNm p), (0, (x : Int))] [] sh2 M2 := by
        intro sh2 M2 t2 ht2 hX2 hF2
        have hO2 := hX2.1
        have ht3 : (t2 ++ [96 + pg p x]) ++ spP p (x + 1) k = s ++ pT p := by rw [← ht2, List.append_assoc]; rfl
        have hl3 := app_le ht3
        refine g_aload_n (q0 := 24) (j := 0) rfl dX10_spellPath_23 rfl ?_
        refine g_bipush (q0 := 26) rfl dX10_spellPath_24 (k := ?_)
        refine g_iload_n (q0 := 27) (j := 1) rfl dX10_spellPath_26 rfl ?_
        refine g_bipush (q0 := 29) rfl dX10_spellPath_27 (k := ?_)
        refine g_iconst (q0 := 30) rfl dX10_spellPath_29 (k := ?_)
        refine g_iload_n (q0 := 31) (j := 3) rfl dX10_spellPath_30 rfl ?_
        refine g_imul (q0 := 32) rfl dX10_spellPath_31 (by omega) (by omega) ?_
        refine g_isub (q0 := 33) rfl dX10_spellPath_32 (by omega) (by omega) ?_
        refine g_iushr (q0 := 34) rfl dX10_spellPath_33 ?_
        refine g_bipush (q0 := 36) rfl dX10_spellPath_34 (k := ?_)
        refine g_iand (q0 := 37) rfl dX10_spellPath_36 ?_
        rw [pg_of hp.1 hp.2 (by omega)]
        refine g_iadd (q0 := 38) rfl dX10_spellPath_37 (by omega) (by omega) ?_
        refine g_iconst (q0 := 39) rfl dX10_spellPath_38 (k := ?_)
        refine g_isub (q0 := 40) rfl dX10_spellPath_39 (by omega) (by omega) ?_
        rw [show (97 : Int) + pg p x - 1 = 96 + pg p x by omega]
        refine g_i2c (q0 := 41) rfl dX10_spellPath_40 ?_
        rw [e2]
        refine g_callV (as := [_]) (rest := []) mt_J4_append_cf468 mi_J4_append_cf468 se_J4_append_cf468 ml_X10_56 dX10_spellPath_41 (q0 := 44) rfl rfl (sh_475 hO2) rfl rfl (sp_appC hX2 ⟨by omega, by omega⟩ (Nat.le_trans hl3 hL)) rfl ⟨Nat.le_of_ble_eq_true rfl, Nat.le_of_ble_eq_true rfl⟩ (tK_le hi5 (app_le2 _ _) hl3) (Nat.le_of_ble_eq_true rfl) (fun r3 sh3 M3 hP3 hw3 hMw3 => ?_)
        obtain ⟨rfl, hX3, hF3⟩ := tQ_use hP3 (app_le2 _ _) hF2
        refine tK_go hi5 (app_le2 _ _) ?_
        refine g_pop (q0 := 45) rfl dX10_spellPath_44 (k := ?_)
        refine g_iinc (q0 := 48) (lv2 := [_, _, _, _]) rfl dX10_spellPath_45 rfl (by decide) rfl rfl (by omega) (by omega) ?_
        refine g_goto (tgt := 7) dX10_spellPath_48 (by decide) ?_
        exact ih (x + 1) sh3 M3 _ (by omega) ht3 hX3 hF3
      have hO1 := hX1.1
      refine g_iload_n (q0 := 8) (j := 3) rfl dX10_spellPath_7 rfl ?_
      refine g_iload_n (q0 := 9) (j := 2) rfl dX10_spellPath_8 rfl ?_
      refine g_icmp_ge (q0 := 12) (tgt := 51) rfl dX10_spellPath_9 (by decide) (fun h9 => ?_) (fun h9 => ?_)
      · exact absurd h9 (by omega)
      · refine g_iload_n (q0 := 13) (j := 3) rfl dX10_spellPath_12 rfl ?_
        refine g_if_le (q0 := 16) (tgt := 23) rfl dX10_spellPath_13 (by decide) (fun h13 => ?_) (fun h13 => ?_)
        · have hx0 : x = 0 := by omega
          subst hx0
          refine nx sh1 M1 t ?_ hX1 hF1
          rw [← ht]
          rw [spP_s, if_neg (show ¬ 0 < 0 by decide)]
          rfl
        · have ht3 : (t ++ [47]) ++ ((96 + pg p x) :: spP p (x + 1) k) = s ++ pT p := by
            rw [← ht, List.append_assoc]
            rw [spP_s, if_pos (show 0 < x by omega)]
          have hl3 := app_le ht3
          refine g_aload_n (q0 := 17) (j := 0) rfl dX10_spellPath_16 rfl ?_
          refine g_bipush (q0 := 19) rfl dX10_spellPath_17 (k := ?_)
          refine g_callV (as := [_]) (rest := []) mt_J4_append_cf468 mi_J4_append_cf468 se_J4_append_cf468 ml_X10_56 dX10_spellPath_19 (q0 := 22) rfl rfl (sh_475 hO1) rfl rfl (sp_appC hX1 ⟨by decide, by decide⟩ (Nat.le_trans hl3 hL)) rfl ⟨Nat.le_of_ble_eq_true rfl, Nat.le_of_ble_eq_true rfl⟩ (tK_le hi5 (app_le2 _ _) hl3) (Nat.le_of_ble_eq_true rfl) (fun r3 sh3 M3 hP3 hw3 hMw3 => ?_)
          obtain ⟨rfl, hX3, hF3⟩ := tQ_use hP3 (app_le2 _ _) hF1
          refine tK_go hi5 (app_le2 _ _) ?_
          refine g_pop (q0 := 23) rfl dX10_spellPath_22 (k := ?_)
          exact nx sh3 M3 _ ht3 hX3 hF3
  refine gC_ofA (lv := [_, _, _, _]) (by decide +kernel) (Nat.le_of_ble_eq_true rfl) rfl (fun hMw hav => ?_)
  refine g_iload_n (q0 := 1) (j := 1) rfl dX10_spellPath_0 rfl ?_
  refine g_callSp (as := [_]) (rest := []) mt_X10_namesIn ms_X10_namesIn ml_X10_18 dX10_spellPath_1 (q0 := 4) rfl rfl (sp_X10_namesIn hp) rfl ⟨Nat.le_of_ble_eq_true rfl, Nat.le_of_ble_eq_true rfl⟩ (Nat.le_of_ble_eq_true rfl) ⟨Nat.zero_le _, Nat.zero_le _⟩ (fun hwc => ?_)
  refine g_istore_n (q0 := 5) (j := 2) (lv2 := [_, _, _, _]) rfl dX10_spellPath_4 (by decide) rfl rfl ?_
  refine g_iconst (q0 := 6) rfl dX10_spellPath_5 (k := ?_)
  refine g_istore_n (q0 := 7) (j := 3) (lv2 := [_, _, _, _]) rfl dX10_spellPath_6 (by decide) rfl rfl ?_
  refine tK_0 hX ?_
  refine lp (pNm p).toNat 0 sh M s (by omega) rfl (by rw [tK_in hX]; exact hX) (tF_refl _ _)
theorem sp_X10_spellContent {sh : gS} {M : gM} {i : Nat} {s : List Int} (hX : tX sh M i s) {c : Int} (hc : 0 ≤ c ∧ c < 2147483648) (hL : (s ++ cT2 c).length ≤ 574) :
    gC (tR 9 199 i (s ++ cT2 c)) yX10_spellContent cX10_spellContent 4 none [(4, 475), (0, c)] sh M (tQ none sh M i (s ++ cT2 c)) := by
  have hOK := hX.1
  have hi5 := hX.2.2.2.2.2.2.1
  have hdn := dgN_rng 6 c
  have lp : ∀ (k x : Nat) (sh1 : gS) (M1 : gM) (t : List Int), x + k = (dgN 6 c).toNat → t ++ dgS c k = s ++ cT2 c → tX sh1 M1 (tI i t.length) t → tF sh M sh1 M1 →
      gA (tR 9 199 i (s ++ cT2 c)) yX10_spellContent cX10_spellContent 4 none (tQ none sh M i (s ++ cT2 c)) (tK i t) 7 [(4, 475), (0, c), (0, dgN 6 c), (0, (x : Int))] [] sh1 M1 := by
    intro k
    induction k with
    | zero =>
      intro x sh1 M1 t hx ht hX1 hF1
      have e : t = s ++ cT2 c := by rw [← ht]; exact (List.append_nil t).symm
      subst e
      refine g_iload_n (q0 := 8) (j := 3) rfl dX10_spellContent_7 rfl ?_
      refine g_iload_n (q0 := 9) (j := 2) rfl dX10_spellContent_8 rfl ?_
      refine g_icmp_ge (q0 := 12) (tgt := 36) rfl dX10_spellContent_9 (by decide) (fun h9 => ?_) (fun h9 => ?_)
      · refine g_return dX10_spellContent_36 rfl (tK_end hi5 (Nat.le_refl _)) ?_
        exact ⟨rfl, hX1, hF1⟩
      · exact absurd h9 (by omega)
    | succ k ih =>
      intro x sh1 M1 t hx ht hX1 hF1
      have hbr := dgB_rng k c
      obtain ⟨-, e2, -⟩ := ch_id (x := 48 + dgB k c) (by omega) (by omega)
      have ht3 : (t ++ [48 + dgB k c]) ++ dgS c k = s ++ cT2 c := by rw [← ht, List.append_assoc]; rfl
      have hl3 := app_le ht3
      have hO1 := hX1.1
      refine g_iload_n (q0 := 8) (j := 3) rfl dX10_spellContent_7 rfl ?_
      refine g_iload_n (q0 := 9) (j := 2) rfl dX10_spellContent_8 rfl ?_
      refine g_icmp_ge (q0 := 12) (tgt := 36) rfl dX10_spellContent_9 (by decide) (fun h9 => ?_) (fun h9 => ?_)
      · exact absurd h9 (by omega)
      · refine g_aload_n (q0 := 13) (j := 0) rfl dX10_spellContent_12 rfl ?_
        refine g_bipush (q0 := 15) rfl dX10_spellContent_13 (k := ?_)
        refine g_iload_n (q0 := 16) (j := 1) rfl dX10_spellContent_15 rfl ?_
        refine g_iload_n (q0 := 17) (j := 2) rfl dX10_spellContent_16 rfl ?_
        refine g_iconst (q0 := 18) rfl dX10_spellContent_17 (k := ?_)
        refine g_isub (q0 := 19) rfl dX10_spellContent_18 (by omega) (by omega) ?_
        refine g_iload_n (q0 := 20) (j := 3) rfl dX10_spellContent_19 rfl ?_
        refine g_isub (q0 := 21) rfl dX10_spellContent_20 (by omega) (by omega) ?_
        rw [show dgN 6 c - 1 - (x : Int) = (k : Int) by omega]
        refine g_callSp (as := [_, _]) (rest := [_, _]) mt_X0_digitFromBehind ms_X0_digitFromBehind ml_X10_74 dX10_spellContent_21 (q0 := 24) rfl rfl (sp_X0_digitFromBehind hc (by omega)) rfl ⟨Nat.le_of_ble_eq_true rfl, Nat.le_of_ble_eq_true rfl⟩ (Nat.le_of_ble_eq_true rfl) (tK_end hi5 (Nat.le_trans (app_le2 _ _) hl3)) (fun hwc => ?_)
        refine g_iadd (q0 := 25) rfl dX10_spellContent_24 (by omega) (by omega) ?_
        refine g_i2c (q0 := 26) rfl dX10_spellContent_25 ?_
        rw [e2]
        refine g_callV (as := [_]) (rest := []) mt_J4_append_cf468 mi_J4_append_cf468 se_J4_append_cf468 ml_X10_56 dX10_spellContent_26 (q0 := 29) rfl rfl (sh_475 hO1) rfl rfl (sp_appC hX1 ⟨by omega, by omega⟩ (Nat.le_trans hl3 hL)) rfl ⟨Nat.le_of_ble_eq_true rfl, Nat.le_of_ble_eq_true rfl⟩ (tK_le hi5 (app_le2 _ _) hl3) (Nat.le_of_ble_eq_true rfl) (fun r3 sh3 M3 hP3 hw3 hMw3 => ?_)
        obtain ⟨rfl, hX3, hF3⟩ := tQ_use hP3 (app_le2 _ _) hF1
        refine tK_go hi5 (app_le2 _ _) ?_
        refine g_pop (q0 := 30) rfl dX10_spellContent_29 (k := ?_)
        refine g_iinc (q0 := 33) (lv2 := [_, _, _, _]) rfl dX10_spellContent_30 rfl (by decide) rfl rfl (by omega) (by omega) ?_
        refine g_goto (tgt := 7) dX10_spellContent_33 (by decide) ?_
        exact ih (x + 1) sh3 M3 _ (by omega) ht3 hX3 hF3
  refine gC_ofA (lv := [_, _, _, _]) (by decide +kernel) (Nat.le_of_ble_eq_true rfl) rfl (fun hMw hav => ?_)
  refine g_iload_n (q0 := 1) (j := 1) rfl dX10_spellContent_0 rfl ?_
  refine g_callSp (as := [_]) (rest := []) mt_X0_digitsIn ms_X0_digitsIn ml_X10_69 dX10_spellContent_1 (q0 := 4) rfl rfl (sp_X0_digitsIn hc) rfl ⟨Nat.le_of_ble_eq_true rfl, Nat.le_of_ble_eq_true rfl⟩ (Nat.le_of_ble_eq_true rfl) ⟨Nat.zero_le _, Nat.zero_le _⟩ (fun hwc => ?_)
  refine g_istore_n (q0 := 5) (j := 2) (lv2 := [_, _, _, _]) rfl dX10_spellContent_4 (by decide) rfl rfl ?_
  refine g_iconst (q0 := 6) rfl dX10_spellContent_5 (k := ?_)
  refine g_istore_n (q0 := 7) (j := 3) (lv2 := [_, _, _, _]) rfl dX10_spellContent_6 (by decide) rfl rfl ?_
  refine tK_0 hX ?_
  refine lp (dgN 6 c).toNat 0 sh M s (by omega) rfl (by rw [tK_in hX]; exact hX) (tF_refl _ _)
