-- ==== ELDERS
theorem dX8_isOfPlan_0 : decode cX8_isOfPlan 0 = .ok (.aload_n 0, 1) := by decide +kernel
theorem dX8_isOfPlan_1 : decode cX8_isOfPlan 1 = .ok (.getfield 34, 3) := by decide +kernel
theorem dX8_isOfPlan_4 : decode cX8_isOfPlan 4 = .ok (.iconst 0, 1) := by decide +kernel
theorem dX8_isOfPlan_5 : decode cX8_isOfPlan 5 = .ok (.iload_n 1, 1) := by decide +kernel
theorem dX8_isOfPlan_6 : decode cX8_isOfPlan 6 = .ok (.invokevirtual 55, 3) := by decide +kernel
theorem dX8_isOfPlan_9 : decode cX8_isOfPlan 9 = .ok (.ireturn, 1) := by decide +kernel
def kEldR (pl : kP) : List kC → Nat → Nat → Bool
  | [], _, _ => false
  | c :: o, k, j => if k = o.length then (kForeL c pl (o.length : Int)).any (fun p => p.toNat == j || kEldR pl o p.toNat j) else kEldR pl o k j
/-- whether j is an ELDER of k by a plan -/
def kEld (cs : List kC) (pl : kP) (k j : Nat) : Bool := kEldR pl cs.reverse k j
theorem kEld_app (cs : List kC) (d : kC) (pl : kP) (k j : Nat) : kEld (cs ++ [d]) pl k j = if k = cs.length then (kForeL d pl (cs.length : Int)).any (fun p => p.toNat == j || kEld cs pl p.toNat j) else kEld cs pl k j := by
  unfold kEld
  rw [List.reverse_append]
  show kEldR pl (d :: cs.reverse) k j = _
  rw [kEldR, List.length_reverse]
theorem any_congr_mem {α : Type} {xs : List α} {f g : α → Bool} (h : ∀ x ∈ xs, f x = g x) : xs.any f = xs.any g := by
  induction xs with
  | nil => rfl
  | cons a r ih =>
    rw [List.any_cons, List.any_cons, h a List.mem_cons_self, ih (fun x hx => h x (List.mem_cons_of_mem _ hx))]
/-- the FORE of each COMMIT lies below it -/
def kForeOk (cs : List kC) (pl : kP) : Prop := ∀ (k : Nat) (c : kC), cs[k]? = some c → ∀ p ∈ kForeL c pl (k : Int), 0 ≤ p ∧ p < (k : Int)
theorem kForeOk_pre {cs : List kC} {d : kC} {pl : kP} (h : kForeOk (cs ++ [d]) pl) : kForeOk cs pl := fun k c hk => h k c (by rw [List.getElem?_append_left (List.getElem?_eq_some_iff.mp hk).1]; exact hk)
theorem kEld_eqR (pl : kP) : ∀ (n : Nat) (cs : List kC), cs.length = n → kForeOk cs pl → ∀ (k : Nat) (c : kC) (j : Nat), cs[k]? = some c → kEld cs pl k j = (kForeL c pl (k : Int)).any (fun p => p.toNat == j || kEld cs pl p.toNat j)
  | 0, cs, hl, _, k, c, j, hk => by
    rw [List.length_eq_zero_iff.mp hl] at hk
    simp at hk
  | n + 1, cs, hl, hf, k, c, j, hk => by
    obtain ⟨ys, y, rfl, hy⟩ := ls_snoc hl
    have hkl := (List.getElem?_eq_some_iff.mp hk).1
    rw [List.length_append, List.length_singleton] at hkl
    have hfk := hf k c hk
    by_cases hz : k = ys.length
    · subst hz
      rw [List.getElem?_append_right (Nat.le_refl _), Nat.sub_self] at hk
      cases hk
      rw [kEld_app, if_pos rfl]
      refine any_congr_mem (fun p hp => ?_)
      have := hfk p hp
      rw [kEld_app, if_neg (by omega)]
    · rw [List.getElem?_append_left (by omega)] at hk
      rw [kEld_app, if_neg hz, kEld_eqR pl n ys hy (kForeOk_pre hf) k c j hk]
      refine any_congr_mem (fun p hp => ?_)
      have := hfk p hp
      rw [kEld_app, if_neg (by omega)]
theorem kEld_eq {cs : List kC} {pl : kP} (hf : kForeOk cs pl) {k : Nat} {c : kC} (hk : cs[k]? = some c) (j : Nat) : kEld cs pl k j = (kForeL c pl (k : Int)).any (fun p => p.toNat == j || kEld cs pl p.toNat j) := kEld_eqR pl cs.length cs rfl hf k c j hk
theorem mSh389 {sh : gS} {M : gM} (h : gOK sh M) : mSh sh 389 120 := ⟨sh_389 h, sh_390 h, sh_391 h, by decide, by decide⟩
theorem mSh392 {sh : gS} {M : gM} (h : gOK sh M) : mSh sh 392 1 := ⟨sh_392 h, sh_393 h, sh_394 h, by decide, by decide⟩
theorem sp_X8_isOfPlan {sh : gS} {M : gM} {k : Int} (hOK : gOK sh M) :
    gC (gr 1 22) yX8_isOfPlan cX8_isOfPlan 2 (some (.boolean)) [(4, 3), (0, k)] sh M (gPp sh M (0, bI (mHas M 392 0 k))) := by
  have hb := bI_01 (mHas M 392 0 k)
  refine gC_ofA (lv := [_, _]) (by decide +kernel) (Nat.le_of_ble_eq_true rfl) rfl (fun hMw hav => ?_)
  refine g_aload_n (q0 := 1) (j := 0) rfl dX8_isOfPlan_0 rfl ?_
  refine g_getp (q0 := 4) (b := 392) rfl ff_X8_34 dX8_isOfPlan_1 rfl hOK (by decide) (sh_3 hOK) rfl (by decide) ?_
  refine g_iconst (q0 := 5) rfl dX8_isOfPlan_4 (k := ?_)
  refine g_iload_n (q0 := 6) (j := 1) rfl dX8_isOfPlan_5 rfl ?_
  refine g_callVp (as := [_, _]) (rest := []) mt_X3_has mi_X3_has se_X3_has ml_X8_55 dX8_isOfPlan_6 (q0 := 9) rfl rfl (sh_392 hOK) rfl rfl (sp_X3_has hOK (mSh392 hOK) ⟨by decide, by decide⟩) rfl ⟨by decide, by decide⟩ (Nat.le_of_ble_eq_true rfl) ⟨Nat.zero_le _, Nat.zero_le _⟩ (fun hwc => ?_)
  refine g_zreturn dX8_isOfPlan_9 rfl (by first | rfl | exact gnz (by omega)) ⟨Nat.zero_le _, Nat.zero_le _⟩ ?_
  exact ⟨rfl, rfl, rfl⟩
