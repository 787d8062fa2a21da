-- ==== the law, from its entry
section
variable {l : Launch} {G : gG} {p : Program} {e : Env} {s : State} {m : MethodId} {args : Array Value} {below : List Frame} {meth : Method} {c : Code} {Z : State → Prop}
theorem lw_entry {b : Nat} (hb33 : G.2.2.2 33 = some b) (hL : scL G ≤ 3072) (hend : ∀ (cc cd : Nat) (i : Int) (sh : gS) (M : gM), cc ≤ 600000 → cd ≤ 7302249 → gB l G p e s m args below meth c Z room_1 yL_law cL_law 4 ret (cc, cd) 1501 [(5, 33), (4, 0), (4, 711), (0, i)] [(0, 1)] sh M) (M0 : gM) :
    gB l G p e s m args below meth c Z room_1 yL_law cL_law 4 ret (0, 0) 0 [(5, 33), (9, 0), (9, 0), (9, 0)] [] [] M0 := by
  refine q_new (q0 := 3) rfl gcl_12 rfl rfl cl_L_7 it_X11 ini_X11 dL_law_0 (Nat.le_of_ble_eq_true rfl) (Nat.le_of_ble_eq_true rfl) ?_
  refine q_dup (q0 := 4) rfl dL_law_3 (k := ?_)
  refine q_callI (as := []) (rest := [_]) mt_X11_init rfl mi_X11_init ml_L_9 dL_law_4 (q0 := 7) rfl rfl (Int.natCast_nonneg _) (ct_X11 (sh0 := []) (M0 := M0)) rfl ⟨Nat.le_of_ble_eq_true rfl, Nat.le_of_ble_eq_true rfl⟩ ⟨Nat.le_of_ble_eq_true rfl, Nat.le_of_ble_eq_true rfl⟩ (Nat.le_of_ble_eq_true rfl) (fun r sh1 M1 hI hw1 hMw1 => ?_)
  have hr := hI.1
  subst hr
  refine q_astore_n (q0 := 8) (j := 1) (lv2 := [_, _, _, _]) rfl dL_law_7 (by decide) rfl rfl ?_
  refine q_new (q0 := 11) rfl gcl_13 rfl rfl cl_L_10 it_X12 ini_X12 dL_law_8 (Nat.le_of_ble_eq_true rfl) (Nat.le_of_ble_eq_true rfl) ?_
  refine q_dup (q0 := 12) rfl dL_law_11 (k := ?_)
  refine q_callI (as := []) (rest := [_]) mt_X12_init rfl mi_X12_init ml_L_12 dL_law_12 (q0 := 15) rfl rfl (Int.natCast_nonneg _) (ct_X12 (sh0 := sh1) (M0 := M1)) rfl ⟨Nat.le_of_ble_eq_true rfl, Nat.le_of_ble_eq_true rfl⟩ ⟨Nat.le_of_ble_eq_true rfl, Nat.le_of_ble_eq_true rfl⟩ (Nat.le_of_ble_eq_true rfl) (fun r2 sh2 M2 hI2 hw2 hMw2 => ?_)
  have hr := hI2.1
  subst hr
  have hl : sh1.length = 711 := by
    rw [hI.2.1.1]
    show (kM1 ++ kPla 4).length + 1 = 711
    rw [show (kM1 ++ kPla 4).length = 710 from kX11_len]
  have hb := bth_of hI hI2
  refine q_astore_n (q0 := 16) (j := 2) (lv2 := [_, _, _, _]) rfl dL_law_15 (by decide) rfl rfl ?_
  refine q_iconst (q0 := 17) rfl dL_law_16 (k := ?_)
  refine q_istore_n (q0 := 18) (j := 3) (lv2 := [_, _, _, _]) rfl dL_law_17 (by decide) rfl rfl ?_
  rw [hl]
  refine gB_ck (a2 := 758) (b2 := 32395) (Nat.le_of_ble_eq_true rfl) (Nat.le_of_ble_eq_true rfl) ?_
  exact lw_loop hb33 hL hend 512 0 758 32395 sh2 M2 z0 (Int.le_refl _) (by decide) (by show scL G < 0 + 6 + 6 * ((512 : Nat) : Int); omega) (Nat.le_of_ble_eq_true rfl) (Nat.le_of_ble_eq_true rfl) ⟨bth_cS hb, bth_uSt hb, z0_I, 0, [], bth_tX hb⟩
end
