-- ==== a float of a far constant
section
variable {p : Program} {l : Launch} {e : Env} {R : Room} {s : State} {m : MethodId} {args : Array Value} {below : List Frame} {meth : Method} {c : Code} {H : Heap} {locs : List Loc} {cells slots : Nat} {Q : State → Prop}
variable {cc : ByteArray} {pc : Nat} {ls : Array Slot} {rest : List Value}
theorem fu_ldcwF {T : State} (X : Stand p l e R s m args below meth c T locs cells slots) (hexec : p.tables.exec = Jvm.exec) {own : String} {index : Nat} {b : UInt32} (hown : s.vm.findClass own = some m.cls)
    (hconst : (Cond.constantFloat own index b).before args s = true) {g : JFrame} (hg : g.method = m) (hdg : decode c.code g.pc = .ok (.ldc_w index, 3)) :
    ∀ target, Steps p.tables e below (T.setTop { g with pc := g.pc + 3, stack := .float b :: g.stack }) target → Steps p.tables e below (T.setTop g) target := by
  obtain ⟨k, cf, hk, hcf, hcp⟩ := Cond.constantFloat_spec hown hconst
  obtain ⟨k', hk', he⟩ := X.warmed.alike.2.2 _ _ hk
  intro target hrest
  subst hg
  jvm_step X.here [hexec, hdg, show ldc_w.sem index = ldc.sem index from rfl, ldc.wp_float (s := T) (f := g) X.here.top hk' (by rw [he]; exact hcf) hcp]
  exact hrest
theorem fu_ldcwf (hexec : p.tables.exec = Jvm.exec) (hb : c.code = cc) {own : String} {index : Nat} {v : UInt32} (hown : s.vm.findClass own = some m.cls) (hconst : (Jvm.Cond.constantFloat own index v).before args s = true) (hdg : decode cc pc = .ok (.ldc_w index, 3)) (k : W p l e R s m args below meth c H locs cells slots Q (F0 m (pc + 3) ls (.float v :: rest))) : W p l e R s m args below meth c H locs cells slots Q (F0 m pc ls rest) := by
  intro T hT X
  obtain ⟨t, a, b⟩ := k T hT X
  exact ⟨t, fu_ldcwF X hexec hown hconst (g := F0 m pc ls rest) rfl (by rw [hb]; exact hdg) t a, b⟩
end
section
variable {R : Room} {y : MethodName} {cc : ByteArray} {nL : Nat} {ret : Option FieldType} {Q : Option gV → gS → gM → Prop} {ck : Nat × Nat} {pc : Nat} {lv st : List gV} {sh : gS} {M : gM}
theorem g_ldcwf {q0 : Nat} (hq0 : pc + 3 = q0) {z : UInt32} {idx : Nat} (hw : Cond.constantFloat y.cls idx z ∈ gAll) (hd : decode cc pc = .ok (.ldc_w idx, 3))
    (k : gA R y cc nL ret Q ck q0 lv ((2, gfl z) :: st) sh M) : gA R y cc nL ret Q ck pc lv st sh M := by
  subst hq0
  intro l G p e s m args below meth c H locs ls hC hH hlw hsw hl hS hB
  obtain ⟨hx, hb, hml, hr, hown, hts, hlk, hnm, hK⟩ := id hC
  refine fu_ldcwf (v := z) (own := y.cls) hx hb hown (hts _ hw) hd ?_
  have h9 := k l G p e s m args below meth c H locs ls hC hH hlw (List.forall_mem_cons.mpr ⟨gw_fl _, hsw⟩) hl hS hB
  rw [List.map_cons, gc_fl] at h9
  exact h9
end
-- ==== spells
theorem dX12_spells_0 : decode cX12_spells 0 = .ok (.aload_n 0, 1) := by decide +kernel
theorem dX12_spells_1 : decode cX12_spells 1 = .ok (.getfield 662, 3) := by decide +kernel
theorem dX12_spells_4 : decode cX12_spells 4 = .ok (.ifCond .ne 8, 3) := by decide +kernel
theorem dX12_spells_7 : decode cX12_spells 7 = .ok (.aload_n 0, 1) := by decide +kernel
theorem dX12_spells_8 : decode cX12_spells 8 = .ok (.iload_n 1, 1) := by decide +kernel
theorem dX12_spells_9 : decode cX12_spells 9 = .ok (.putfield 665, 3) := by decide +kernel
theorem dX12_spells_12 : decode cX12_spells 12 = .ok (.aload_n 0, 1) := by decide +kernel
theorem dX12_spells_13 : decode cX12_spells 13 = .ok (.aload_n 0, 1) := by decide +kernel
theorem dX12_spells_14 : decode cX12_spells 14 = .ok (.getfield 662, 3) := by decide +kernel
theorem dX12_spells_17 : decode cX12_spells 17 = .ok (.iconst 1, 1) := by decide +kernel
theorem dX12_spells_18 : decode cX12_spells 18 = .ok (.isub, 1) := by decide +kernel
theorem dX12_spells_19 : decode cX12_spells 19 = .ok (.putfield 662, 3) := by decide +kernel
theorem dX12_spells_22 : decode cX12_spells 22 = .ok (.return_, 1) := by decide +kernel
noncomputable def F_spells (M : gM) (a1 : Int) : Option (gM) := (if (M 711 50) = 0 then
    some (gU (gU M 711 51 a1) 711 50 (gw32 (((gU M 711 51 a1) 711 50) - (1 : Int))))
  else
    some (gU M 711 50 (gw32 ((M 711 50) - (1 : Int)))))
theorem eq_spells (M : gM) (a1 : Int) : F_spells M a1 = (if (M 711 50) = 0 then
    some (gU (gU M 711 51 a1) 711 50 (gw32 (((gU M 711 51 a1) 711 50) - (1 : Int))))
  else
    some (gU M 711 50 (gw32 ((M 711 50) - (1 : Int))))) := rfl
theorem fr_spells {M : gM} {a1 : Int} {b : gM} (h : F_spells M a1 = some b) : gFr [] [50, 51] M b := by
  rw [eq_spells] at h
  rcases gI_or h with h | h
  · rw [← Option.some.inj h]
    exact (gFr_f (gFr_f (gFr_r [] [50, 51] _) (.tail _ (.head _))) (.head _))
  · rw [← Option.some.inj h]
    exact (gFr_f (gFr_r [] [50, 51] _) (.head _))
theorem ok_spells {sh : gS} {M : gM} {a1 : Int} {b : gM} (hOK : gOK sh M) (h : F_spells M a1 = some b) : gC (gr 0 0) yX12_spells cX12_spells 2 none [(4, 711), (0, a1)] sh M (gPq sh none b) := by
  rw [eq_spells] at h
  refine gC_ofA (lv := [_, _]) (by decide +kernel) (Nat.le_of_ble_eq_true rfl) rfl (fun hMw hav => ?_)
  refine g_aload_n (q0 := 1) (j := 0) rfl dX12_spells_0 rfl ?_
  refine g_getf (q0 := 4) (t := 0) (fi := 50) rfl rfl ff_X12_662 dX12_spells_1 rfl (sh_711 hOK) ?_
  refine g_if_ne (q0 := 7) (tgt := 12) rfl dX12_spells_4 (by decide) (fun h4 => ?_) (fun h4 => ?_)
  · replace h := gI_neg h4 h
    refine g_aload_n (q0 := 13) (j := 0) rfl dX12_spells_12 rfl ?_
    refine g_aload_n (q0 := 14) (j := 0) rfl dX12_spells_13 rfl ?_
    refine g_getf (q0 := 17) (t := 0) (fi := 50) rfl rfl ff_X12_662 dX12_spells_14 rfl (sh_711 hOK) ?_
    refine g_iconst (q0 := 18) rfl dX12_spells_17 (k := ?_)
    refine g_isubw (q0 := 19) rfl dX12_spells_18 ?_
    refine g_put (q0 := 22) (t := 0) (fi := 50) rfl rfl ff_X12_662 dX12_spells_19 rfl (sh_711 hOK) rfl (fun _ => ⟨rfl, rfl⟩) ?_
    have hOK1 : gOK sh (gU M 711 50 (gw32 ((M 711 50) - (1 : Int)))) := gOK_o hOK (sh_711 hOK) (f := 50) rfl rfl
    rw [← Option.some.inj h]
    refine g_return dX12_spells_22 rfl ⟨Nat.zero_le _, Nat.zero_le _⟩ ?_
    exact ⟨rfl, rfl, rfl⟩
  · replace h := gI_pos h4 h
    refine g_aload_n (q0 := 8) (j := 0) rfl dX12_spells_7 rfl ?_
    refine g_iload_n (q0 := 9) (j := 1) rfl dX12_spells_8 rfl ?_
    refine g_put (q0 := 12) (t := 0) (fi := 51) rfl rfl ff_X12_665 dX12_spells_9 rfl (sh_711 hOK) rfl (fun _ => ⟨rfl, rfl⟩) ?_
    have hOK2 : gOK sh (gU M 711 51 a1) := gOK_o hOK (sh_711 hOK) (f := 51) rfl rfl
    refine g_aload_n (q0 := 13) (j := 0) rfl dX12_spells_12 rfl ?_
    refine g_aload_n (q0 := 14) (j := 0) rfl dX12_spells_13 rfl ?_
    refine g_getf (q0 := 17) (t := 0) (fi := 50) rfl rfl ff_X12_662 dX12_spells_14 rfl (sh_711 hOK2) ?_
    refine g_iconst (q0 := 18) rfl dX12_spells_17 (k := ?_)
    refine g_isubw (q0 := 19) rfl dX12_spells_18 ?_
    refine g_put (q0 := 22) (t := 0) (fi := 50) rfl rfl ff_X12_662 dX12_spells_19 rfl (sh_711 hOK2) rfl (fun _ => ⟨rfl, rfl⟩) ?_
    have hOK3 : gOK sh (gU (gU M 711 51 a1) 711 50 (gw32 (((gU M 711 51 a1) 711 50) - (1 : Int)))) := gOK_o hOK2 (sh_711 hOK2) (f := 50) rfl rfl
    rw [← Option.some.inj h]
    refine g_return dX12_spells_22 rfl ⟨Nat.zero_le _, Nat.zero_le _⟩ ?_
    exact ⟨rfl, rfl, rfl⟩
-- ==== spellsNumber
theorem dX12_spellsNumber_0 : decode cX12_spellsNumber 0 = .ok (.iload_n 1, 1) := by decide +kernel
theorem dX12_spellsNumber_1 : decode cX12_spellsNumber 1 = .ok (.bipush 99, 2) := by decide +kernel
theorem dX12_spellsNumber_3 : decode cX12_spellsNumber 3 = .ok (.if_icmp .le 14, 3) := by decide +kernel
theorem dX12_spellsNumber_6 : decode cX12_spellsNumber 6 = .ok (.aload_n 0, 1) := by decide +kernel
theorem dX12_spellsNumber_7 : decode cX12_spellsNumber 7 = .ok (.bipush 48, 2) := by decide +kernel
theorem dX12_spellsNumber_9 : decode cX12_spellsNumber 9 = .ok (.iload_n 1, 1) := by decide +kernel
theorem dX12_spellsNumber_10 : decode cX12_spellsNumber 10 = .ok (.bipush 100, 2) := by decide +kernel
theorem dX12_spellsNumber_12 : decode cX12_spellsNumber 12 = .ok (.idiv, 1) := by decide +kernel
theorem dX12_spellsNumber_13 : decode cX12_spellsNumber 13 = .ok (.iadd, 1) := by decide +kernel
theorem dX12_spellsNumber_14 : decode cX12_spellsNumber 14 = .ok (.invokevirtual 668, 3) := by decide +kernel
theorem dX12_spellsNumber_17 : decode cX12_spellsNumber 17 = .ok (.iload_n 1, 1) := by decide +kernel
theorem dX12_spellsNumber_18 : decode cX12_spellsNumber 18 = .ok (.bipush 9, 2) := by decide +kernel
theorem dX12_spellsNumber_20 : decode cX12_spellsNumber 20 = .ok (.if_icmp .le 17, 3) := by decide +kernel
theorem dX12_spellsNumber_23 : decode cX12_spellsNumber 23 = .ok (.aload_n 0, 1) := by decide +kernel
theorem dX12_spellsNumber_24 : decode cX12_spellsNumber 24 = .ok (.bipush 48, 2) := by decide +kernel
theorem dX12_spellsNumber_26 : decode cX12_spellsNumber 26 = .ok (.iload_n 1, 1) := by decide +kernel
theorem dX12_spellsNumber_27 : decode cX12_spellsNumber 27 = .ok (.bipush 10, 2) := by decide +kernel
theorem dX12_spellsNumber_29 : decode cX12_spellsNumber 29 = .ok (.idiv, 1) := by decide +kernel
theorem dX12_spellsNumber_30 : decode cX12_spellsNumber 30 = .ok (.bipush 10, 2) := by decide +kernel
theorem dX12_spellsNumber_32 : decode cX12_spellsNumber 32 = .ok (.irem, 1) := by decide +kernel
theorem dX12_spellsNumber_33 : decode cX12_spellsNumber 33 = .ok (.iadd, 1) := by decide +kernel
theorem dX12_spellsNumber_34 : decode cX12_spellsNumber 34 = .ok (.invokevirtual 668, 3) := by decide +kernel
theorem dX12_spellsNumber_37 : decode cX12_spellsNumber 37 = .ok (.aload_n 0, 1) := by decide +kernel
theorem dX12_spellsNumber_38 : decode cX12_spellsNumber 38 = .ok (.bipush 48, 2) := by decide +kernel
theorem dX12_spellsNumber_40 : decode cX12_spellsNumber 40 = .ok (.iload_n 1, 1) := by decide +kernel
theorem dX12_spellsNumber_41 : decode cX12_spellsNumber 41 = .ok (.bipush 10, 2) := by decide +kernel
theorem dX12_spellsNumber_43 : decode cX12_spellsNumber 43 = .ok (.irem, 1) := by decide +kernel
theorem dX12_spellsNumber_44 : decode cX12_spellsNumber 44 = .ok (.iadd, 1) := by decide +kernel
theorem dX12_spellsNumber_45 : decode cX12_spellsNumber 45 = .ok (.invokevirtual 668, 3) := by decide +kernel
theorem dX12_spellsNumber_48 : decode cX12_spellsNumber 48 = .ok (.return_, 1) := by decide +kernel
noncomputable def st_spellsNumber : Nat × List Int × gM → Option ((Nat × List Int × gM) ⊕ (gM))
  | (0, [x1], M) => (if (9 : Int) < x1 then
      (Option.bind (F_spells M (gw32 ((48 : Int) + (grem (gdiv x1 10) 10)))) (fun m34 =>
        (Option.bind (F_spells m34 (gw32 ((48 : Int) + (grem x1 10)))) (fun m45 =>
          some (.inr m45)))))
    else
      (Option.bind (F_spells M (gw32 ((48 : Int) + (grem x1 10)))) (fun m45 =>
        some (.inr m45))))
  | _ => none
theorem sk_spellsNumber_17 (k : Nat × List Int × gM → Option (gM)) (M : gM) (x1 : Int) : gWk k (st_spellsNumber (0, [x1], M)) = (if (9 : Int) < x1 then
    (Option.bind (F_spells M (gw32 ((48 : Int) + (grem (gdiv x1 10) 10)))) (fun m34 =>
      (Option.bind (F_spells m34 (gw32 ((48 : Int) + (grem x1 10)))) (fun m45 =>
        some m45))))
  else
    (Option.bind (F_spells M (gw32 ((48 : Int) + (grem x1 10)))) (fun m45 =>
      some m45))) := by
  simp only [st_spellsNumber, gWk_ite, gWk_bind, gWk_inl, gWk_inr, gWk_none]
noncomputable def F_spellsNumber_17 (M : gM) (x1 : Int) : Option (gM) := gWh (st_spellsNumber) (0, [x1], M)
theorem eq_spellsNumber_17 (M : gM) (x1 : Int) : F_spellsNumber_17 M x1 = (if (9 : Int) < x1 then
    (Option.bind (F_spells M (gw32 ((48 : Int) + (grem (gdiv x1 10) 10)))) (fun m34 =>
      (Option.bind (F_spells m34 (gw32 ((48 : Int) + (grem x1 10)))) (fun m45 =>
        some m45))))
  else
    (Option.bind (F_spells M (gw32 ((48 : Int) + (grem x1 10)))) (fun m45 =>
      some m45))) := (gWh_eq _).trans (sk_spellsNumber_17 _ M x1)
noncomputable def F_spellsNumber (M : gM) (a1 : Int) : Option (gM) := (if (99 : Int) < a1 then
    (Option.bind (F_spells M (gw32 ((48 : Int) + (gdiv a1 100)))) (fun m14 =>
      F_spellsNumber_17 m14 a1))
  else
    F_spellsNumber_17 M a1)
theorem eq_spellsNumber (M : gM) (a1 : Int) : F_spellsNumber M a1 = (if (99 : Int) < a1 then
    (Option.bind (F_spells M (gw32 ((48 : Int) + (gdiv a1 100)))) (fun m14 =>
      F_spellsNumber_17 m14 a1))
  else
    F_spellsNumber_17 M a1) := rfl
theorem frp_spellsNumber : ∀ (s : Nat × List Int × gM) (b : gM), gWh (st_spellsNumber) s = some b → (∀ (x1 : Int) (M : gM), s = (0, [x1], M) → gFr [] [50, 51] M b) := by
  refine gWh_ind (fun k hk s b h => ?_)
  · rintro x1 M rfl
    rw [sk_spellsNumber_17] at h
    rcases gI_or h with h | h
    · obtain ⟨m34, e34, h⟩ := gI_bd h
      obtain ⟨m45, e45, h⟩ := gI_bd h
      rw [← Option.some.inj h]
      exact (gFr_t (gFr_t (gFr_r [] [50, 51] _) (fr_spells (b := m34) e34) (by first | decide | simp) (by decide)) (fr_spells (b := m45) e45) (by first | decide | simp) (by decide))
    · obtain ⟨m45, e45, h⟩ := gI_bd h
      rw [← Option.some.inj h]
      exact (gFr_t (gFr_r [] [50, 51] _) (fr_spells (b := m45) e45) (by first | decide | simp) (by decide))
theorem fr_spellsNumber_17 {M : gM} {x1 : Int} {b : gM} (h : F_spellsNumber_17 M x1 = some b) : gFr [] [50, 51] M b :=
  (frp_spellsNumber _ _ h) _ _ rfl
theorem fr_spellsNumber {M : gM} {a1 : Int} {b : gM} (h : F_spellsNumber M a1 = some b) : gFr [] [50, 51] M b := by
  rw [eq_spellsNumber] at h
  rcases gI_or h with h | h
  · obtain ⟨m14, e14, h⟩ := gI_bd h
    exact gFr_t (gFr_t (gFr_r [] [50, 51] _) (fr_spells (b := m14) e14) (by first | decide | simp) (by decide)) (fr_spellsNumber_17 h) (fun _ z => z) (fun _ z => z)
  · exact gFr_t (gFr_r [] [50, 51] _) (fr_spellsNumber_17 h) (fun _ z => z) (fun _ z => z)
theorem okp_spellsNumber {sh : gS} : ∀ (s : Nat × List Int × gM) (b : gM), gWh (st_spellsNumber) s = some b → (∀ (x1 : Int) (M : gM), s = (0, [x1], M) → gOK sh M → gA (gr 1 21) yX12_spellsNumber cX12_spellsNumber 2 none (gPq sh none b) (0, 0) 17 [(4, 711), (0, x1)] [] sh M) := by
  refine gWh_ind (fun k hk s b h => ?_)
  · rintro x1 M rfl hOK
    rw [sk_spellsNumber_17] at h
    refine g_iload_n (q0 := 18) (j := 1) rfl dX12_spellsNumber_17 rfl ?_
    refine g_bipush (q0 := 20) rfl dX12_spellsNumber_18 (k := ?_)
    refine g_icmp_le (q0 := 23) (tgt := 37) rfl dX12_spellsNumber_20 (by decide) (fun h20 => ?_) (fun h20 => ?_)
    · replace h := gI_neg (Int.not_lt.mpr h20) h
      refine g_aload_n (q0 := 38) (j := 0) rfl dX12_spellsNumber_37 rfl ?_
      refine g_bipush (q0 := 40) rfl dX12_spellsNumber_38 (k := ?_)
      refine g_iload_n (q0 := 41) (j := 1) rfl dX12_spellsNumber_40 rfl ?_
      refine g_bipush (q0 := 43) rfl dX12_spellsNumber_41 (k := ?_)
      refine g_irem (q0 := 44) rfl dX12_spellsNumber_43 (by decide) ?_
      refine g_iaddw (q0 := 45) rfl dX12_spellsNumber_44 ?_
      obtain ⟨m45, e45, h⟩ := gI_bd h
      refine g_callVq0 (as := [_]) (rest := []) mt_X12_spells mi_X12_spells se_X12_spells ml_X12_668 dX12_spellsNumber_45 (q0 := 48) rfl rfl (sh_711 hOK) rfl rfl (ok_spells hOK e45) rfl ⟨by decide, by decide⟩ (Nat.le_of_ble_eq_true rfl) ⟨Nat.zero_le _, Nat.zero_le _⟩ ?_
      have hOK1 : gOK sh m45 := gOK_fr hOK (fr_spells (b := m45) e45) (by first | decide | (intro a ha; simp only [List.mem_cons, List.not_mem_nil, or_false] at ha; omega)) (by decide)
      rw [← Option.some.inj h]
      refine g_return dX12_spellsNumber_48 rfl ⟨Nat.zero_le _, Nat.zero_le _⟩ ?_
      exact ⟨rfl, rfl, rfl⟩
    · replace h := gI_pos h20 h
      refine g_aload_n (q0 := 24) (j := 0) rfl dX12_spellsNumber_23 rfl ?_
      refine g_bipush (q0 := 26) rfl dX12_spellsNumber_24 (k := ?_)
      refine g_iload_n (q0 := 27) (j := 1) rfl dX12_spellsNumber_26 rfl ?_
      refine g_bipush (q0 := 29) rfl dX12_spellsNumber_27 (k := ?_)
      refine g_idiv (q0 := 30) rfl dX12_spellsNumber_29 (by decide) ?_
      refine g_bipush (q0 := 32) rfl dX12_spellsNumber_30 (k := ?_)
      refine g_irem (q0 := 33) rfl dX12_spellsNumber_32 (by decide) ?_
      refine g_iaddw (q0 := 34) rfl dX12_spellsNumber_33 ?_
      obtain ⟨m34, e34, h⟩ := gI_bd h
      refine g_callVq0 (as := [_]) (rest := []) mt_X12_spells mi_X12_spells se_X12_spells ml_X12_668 dX12_spellsNumber_34 (q0 := 37) rfl rfl (sh_711 hOK) rfl rfl (ok_spells hOK e34) rfl ⟨by decide, by decide⟩ (Nat.le_of_ble_eq_true rfl) ⟨Nat.zero_le _, Nat.zero_le _⟩ ?_
      have hOK2 : gOK sh m34 := gOK_fr hOK (fr_spells (b := m34) e34) (by first | decide | (intro a ha; simp only [List.mem_cons, List.not_mem_nil, or_false] at ha; omega)) (by decide)
      refine g_aload_n (q0 := 38) (j := 0) rfl dX12_spellsNumber_37 rfl ?_
      refine g_bipush (q0 := 40) rfl dX12_spellsNumber_38 (k := ?_)
      refine g_iload_n (q0 := 41) (j := 1) rfl dX12_spellsNumber_40 rfl ?_
      refine g_bipush (q0 := 43) rfl dX12_spellsNumber_41 (k := ?_)
      refine g_irem (q0 := 44) rfl dX12_spellsNumber_43 (by decide) ?_
      refine g_iaddw (q0 := 45) rfl dX12_spellsNumber_44 ?_
      obtain ⟨m45, e45, h⟩ := gI_bd h
      refine g_callVq0 (as := [_]) (rest := []) mt_X12_spells mi_X12_spells se_X12_spells ml_X12_668 dX12_spellsNumber_45 (q0 := 48) rfl rfl (sh_711 hOK2) rfl rfl (ok_spells hOK2 e45) rfl ⟨by decide, by decide⟩ (Nat.le_of_ble_eq_true rfl) ⟨Nat.zero_le _, Nat.zero_le _⟩ ?_
      have hOK3 : gOK sh m45 := gOK_fr hOK2 (fr_spells (b := m45) e45) (by first | decide | (intro a ha; simp only [List.mem_cons, List.not_mem_nil, or_false] at ha; omega)) (by decide)
      rw [← Option.some.inj h]
      refine g_return dX12_spellsNumber_48 rfl ⟨Nat.zero_le _, Nat.zero_le _⟩ ?_
      exact ⟨rfl, rfl, rfl⟩
theorem ok_spellsNumber_17 {sh : gS} {M : gM} {x1 : Int} {b : gM} (hOK : gOK sh M) (h : F_spellsNumber_17 M x1 = some b) : gA (gr 1 21) yX12_spellsNumber cX12_spellsNumber 2 none (gPq sh none b) (0, 0) 17 [(4, 711), (0, x1)] [] sh M :=
  (okp_spellsNumber _ _ h) _ _ rfl hOK
theorem ok_spellsNumber {sh : gS} {M : gM} {a1 : Int} {b : gM} (hOK : gOK sh M) (h : F_spellsNumber M a1 = some b) : gC (gr 1 21) yX12_spellsNumber cX12_spellsNumber 2 none [(4, 711), (0, a1)] sh M (gPq sh none b) := by
  rw [eq_spellsNumber] at h
  refine gC_ofA (lv := [_, _]) (by decide +kernel) (Nat.le_of_ble_eq_true rfl) rfl (fun hMw hav => ?_)
  refine g_iload_n (q0 := 1) (j := 1) rfl dX12_spellsNumber_0 rfl ?_
  refine g_bipush (q0 := 3) rfl dX12_spellsNumber_1 (k := ?_)
  refine g_icmp_le (q0 := 6) (tgt := 17) rfl dX12_spellsNumber_3 (by decide) (fun h3 => ?_) (fun h3 => ?_)
  · replace h := gI_neg (Int.not_lt.mpr h3) h
    exact ok_spellsNumber_17 hOK h
  · replace h := gI_pos h3 h
    refine g_aload_n (q0 := 7) (j := 0) rfl dX12_spellsNumber_6 rfl ?_
    refine g_bipush (q0 := 9) rfl dX12_spellsNumber_7 (k := ?_)
    refine g_iload_n (q0 := 10) (j := 1) rfl dX12_spellsNumber_9 rfl ?_
    refine g_bipush (q0 := 12) rfl dX12_spellsNumber_10 (k := ?_)
    refine g_idiv (q0 := 13) rfl dX12_spellsNumber_12 (by decide) ?_
    refine g_iaddw (q0 := 14) rfl dX12_spellsNumber_13 ?_
    obtain ⟨m14, e14, h⟩ := gI_bd h
    refine g_callVq0 (as := [_]) (rest := []) mt_X12_spells mi_X12_spells se_X12_spells ml_X12_668 dX12_spellsNumber_14 (q0 := 17) rfl rfl (sh_711 hOK) rfl rfl (ok_spells hOK e14) rfl ⟨by decide, by decide⟩ (Nat.le_of_ble_eq_true rfl) ⟨Nat.zero_le _, Nat.zero_le _⟩ ?_
    have hOK4 : gOK sh m14 := gOK_fr hOK (fr_spells (b := m14) e14) (by first | decide | (intro a ha; simp only [List.mem_cons, List.not_mem_nil, or_false] at ha; omega)) (by decide)
    exact ok_spellsNumber_17 hOK4 h
-- ==== spellsFile
theorem dX12_spellsFile_0 : decode cX12_spellsFile 0 = .ok (.aload_n 0, 1) := by decide +kernel
theorem dX12_spellsFile_1 : decode cX12_spellsFile 1 = .ok (.iload_n 1, 1) := by decide +kernel
theorem dX12_spellsFile_2 : decode cX12_spellsFile 2 = .ok (.iload_n 2, 1) := by decide +kernel
theorem dX12_spellsFile_3 : decode cX12_spellsFile 3 = .ok (.invokevirtual 162, 3) := by decide +kernel
theorem dX12_spellsFile_6 : decode cX12_spellsFile 6 = .ok (.istore_n 3, 1) := by decide +kernel
theorem dX12_spellsFile_7 : decode cX12_spellsFile 7 = .ok (.iconst 0, 1) := by decide +kernel
theorem dX12_spellsFile_8 : decode cX12_spellsFile 8 = .ok (.istore 4, 2) := by decide +kernel
theorem dX12_spellsFile_10 : decode cX12_spellsFile 10 = .ok (.iload 4, 2) := by decide +kernel
theorem dX12_spellsFile_12 : decode cX12_spellsFile 12 = .ok (.iload_n 3, 1) := by decide +kernel
theorem dX12_spellsFile_13 : decode cX12_spellsFile 13 = .ok (.invokestatic 150, 3) := by decide +kernel
theorem dX12_spellsFile_16 : decode cX12_spellsFile 16 = .ok (.if_icmp .ge 39, 3) := by decide +kernel
theorem dX12_spellsFile_19 : decode cX12_spellsFile 19 = .ok (.iload 4, 2) := by decide +kernel
theorem dX12_spellsFile_21 : decode cX12_spellsFile 21 = .ok (.ifCond .le 9, 3) := by decide +kernel
theorem dX12_spellsFile_24 : decode cX12_spellsFile 24 = .ok (.aload_n 0, 1) := by decide +kernel
theorem dX12_spellsFile_25 : decode cX12_spellsFile 25 = .ok (.bipush 47, 2) := by decide +kernel
theorem dX12_spellsFile_27 : decode cX12_spellsFile 27 = .ok (.invokevirtual 668, 3) := by decide +kernel
theorem dX12_spellsFile_30 : decode cX12_spellsFile 30 = .ok (.aload_n 0, 1) := by decide +kernel
theorem dX12_spellsFile_31 : decode cX12_spellsFile 31 = .ok (.bipush 96, 2) := by decide +kernel
theorem dX12_spellsFile_33 : decode cX12_spellsFile 33 = .ok (.iload_n 3, 1) := by decide +kernel
theorem dX12_spellsFile_34 : decode cX12_spellsFile 34 = .ok (.bipush 25, 2) := by decide +kernel
theorem dX12_spellsFile_36 : decode cX12_spellsFile 36 = .ok (.iconst 5, 1) := by decide +kernel
theorem dX12_spellsFile_37 : decode cX12_spellsFile 37 = .ok (.iload 4, 2) := by decide +kernel
theorem dX12_spellsFile_39 : decode cX12_spellsFile 39 = .ok (.imul, 1) := by decide +kernel
theorem dX12_spellsFile_40 : decode cX12_spellsFile 40 = .ok (.isub, 1) := by decide +kernel
theorem dX12_spellsFile_41 : decode cX12_spellsFile 41 = .ok (.ishr, 1) := by decide +kernel
theorem dX12_spellsFile_42 : decode cX12_spellsFile 42 = .ok (.bipush 31, 2) := by decide +kernel
theorem dX12_spellsFile_44 : decode cX12_spellsFile 44 = .ok (.iand, 1) := by decide +kernel
theorem dX12_spellsFile_45 : decode cX12_spellsFile 45 = .ok (.iadd, 1) := by decide +kernel
theorem dX12_spellsFile_46 : decode cX12_spellsFile 46 = .ok (.invokevirtual 668, 3) := by decide +kernel
theorem dX12_spellsFile_49 : decode cX12_spellsFile 49 = .ok (.iinc 4 1, 3) := by decide +kernel
theorem dX12_spellsFile_52 : decode cX12_spellsFile 52 = .ok (.goto (-42), 3) := by decide +kernel
theorem dX12_spellsFile_55 : decode cX12_spellsFile 55 = .ok (.aload_n 0, 1) := by decide +kernel
theorem dX12_spellsFile_56 : decode cX12_spellsFile 56 = .ok (.bipush 61, 2) := by decide +kernel
theorem dX12_spellsFile_58 : decode cX12_spellsFile 58 = .ok (.invokevirtual 668, 3) := by decide +kernel
theorem dX12_spellsFile_61 : decode cX12_spellsFile 61 = .ok (.iconst 1, 1) := by decide +kernel
theorem dX12_spellsFile_62 : decode cX12_spellsFile 62 = .ok (.istore 4, 2) := by decide +kernel
theorem dX12_spellsFile_64 : decode cX12_spellsFile 64 = .ok (.iconst 1, 1) := by decide +kernel
theorem dX12_spellsFile_65 : decode cX12_spellsFile 65 = .ok (.istore 5, 2) := by decide +kernel
theorem dX12_spellsFile_67 : decode cX12_spellsFile 67 = .ok (.iload 5, 2) := by decide +kernel
theorem dX12_spellsFile_69 : decode cX12_spellsFile 69 = .ok (.aload_n 0, 1) := by decide +kernel
theorem dX12_spellsFile_70 : decode cX12_spellsFile 70 = .ok (.iload_n 1, 1) := by decide +kernel
theorem dX12_spellsFile_71 : decode cX12_spellsFile 71 = .ok (.iload_n 2, 1) := by decide +kernel
theorem dX12_spellsFile_72 : decode cX12_spellsFile 72 = .ok (.invokevirtual 169, 3) := by decide +kernel
theorem dX12_spellsFile_75 : decode cX12_spellsFile 75 = .ok (.invokestatic 486, 3) := by decide +kernel
theorem dX12_spellsFile_78 : decode cX12_spellsFile 78 = .ok (.if_icmp .ge 16, 3) := by decide +kernel
theorem dX12_spellsFile_81 : decode cX12_spellsFile 81 = .ok (.iload 4, 2) := by decide +kernel
theorem dX12_spellsFile_83 : decode cX12_spellsFile 83 = .ok (.bipush 10, 2) := by decide +kernel
theorem dX12_spellsFile_85 : decode cX12_spellsFile 85 = .ok (.imul, 1) := by decide +kernel
theorem dX12_spellsFile_86 : decode cX12_spellsFile 86 = .ok (.istore 4, 2) := by decide +kernel
theorem dX12_spellsFile_88 : decode cX12_spellsFile 88 = .ok (.iinc 5 1, 3) := by decide +kernel
theorem dX12_spellsFile_91 : decode cX12_spellsFile 91 = .ok (.goto (-24), 3) := by decide +kernel
theorem dX12_spellsFile_94 : decode cX12_spellsFile 94 = .ok (.aload_n 0, 1) := by decide +kernel
theorem dX12_spellsFile_95 : decode cX12_spellsFile 95 = .ok (.iload_n 1, 1) := by decide +kernel
theorem dX12_spellsFile_96 : decode cX12_spellsFile 96 = .ok (.iload_n 2, 1) := by decide +kernel
theorem dX12_spellsFile_97 : decode cX12_spellsFile 97 = .ok (.invokevirtual 169, 3) := by decide +kernel
theorem dX12_spellsFile_100 : decode cX12_spellsFile 100 = .ok (.istore 5, 2) := by decide +kernel
theorem dX12_spellsFile_102 : decode cX12_spellsFile 102 = .ok (.iload 4, 2) := by decide +kernel
theorem dX12_spellsFile_104 : decode cX12_spellsFile 104 = .ok (.ifCond .le 28, 3) := by decide +kernel
theorem dX12_spellsFile_107 : decode cX12_spellsFile 107 = .ok (.aload_n 0, 1) := by decide +kernel
theorem dX12_spellsFile_108 : decode cX12_spellsFile 108 = .ok (.bipush 48, 2) := by decide +kernel
theorem dX12_spellsFile_110 : decode cX12_spellsFile 110 = .ok (.iload 5, 2) := by decide +kernel
theorem dX12_spellsFile_112 : decode cX12_spellsFile 112 = .ok (.iload 4, 2) := by decide +kernel
theorem dX12_spellsFile_114 : decode cX12_spellsFile 114 = .ok (.idiv, 1) := by decide +kernel
theorem dX12_spellsFile_115 : decode cX12_spellsFile 115 = .ok (.bipush 10, 2) := by decide +kernel
theorem dX12_spellsFile_117 : decode cX12_spellsFile 117 = .ok (.irem, 1) := by decide +kernel
theorem dX12_spellsFile_118 : decode cX12_spellsFile 118 = .ok (.iadd, 1) := by decide +kernel
theorem dX12_spellsFile_119 : decode cX12_spellsFile 119 = .ok (.invokevirtual 668, 3) := by decide +kernel
theorem dX12_spellsFile_122 : decode cX12_spellsFile 122 = .ok (.iload 4, 2) := by decide +kernel
theorem dX12_spellsFile_124 : decode cX12_spellsFile 124 = .ok (.bipush 10, 2) := by decide +kernel
theorem dX12_spellsFile_126 : decode cX12_spellsFile 126 = .ok (.idiv, 1) := by decide +kernel
theorem dX12_spellsFile_127 : decode cX12_spellsFile 127 = .ok (.istore 4, 2) := by decide +kernel
theorem dX12_spellsFile_129 : decode cX12_spellsFile 129 = .ok (.goto (-27), 3) := by decide +kernel
theorem dX12_spellsFile_132 : decode cX12_spellsFile 132 = .ok (.return_, 1) := by decide +kernel
noncomputable def st_spellsFile : Nat × List Int × gM → Option ((Nat × List Int × gM) ⊕ (gM))
  | (0, [x1, x2, x3, x4], M) => (Option.bind (F_names x3) (fun r13 =>
      (if x4 < r13 then
        (if (0 : Int) < x4 then
          (Option.bind (F_spells M 47) (fun m27 =>
            (Option.bind (F_spells m27 (gw32 ((96 : Int) + (gand (gshr x3 (gw32 ((25 : Int) - (gw32 ((5 : Int) * x4))))) 31)))) (fun m46 =>
              some (.inl (0, [x1, x2, x3, (gw32 (x4 + 1))], m46))))))
        else
          (Option.bind (F_spells M (gw32 ((96 : Int) + (gand (gshr x3 (gw32 ((25 : Int) - (gw32 ((5 : Int) * x4))))) 31)))) (fun m46 =>
            some (.inl (0, [x1, x2, x3, (gw32 (x4 + 1))], m46)))))
      else
        (Option.bind (F_spells M 61) (fun m58 =>
          some (.inl (1, [x1, x2, x3, 1, 1], m58)))))))
  | (1, [x1, x2, x3, x4, x5], M) => (Option.bind (F_contentAt M x1 x2) (fun r72 =>
      (Option.bind (F_digits r72) (fun r75 =>
        (if x5 < r75 then
          some (.inl (1, [x1, x2, x3, (gw32 (x4 * (10 : Int))), (gw32 (x5 + 1))], M))
        else
          (Option.bind (F_contentAt M x1 x2) (fun r97 =>
            some (.inl (2, [x1, x2, x3, x4, r97], M)))))))))
  | (2, [x1, x2, x3, x4, x5], M) => (if (0 : Int) < x4 then
      (if x4 ≠ 0 then
        (Option.bind (F_spells M (gw32 ((48 : Int) + (grem (gdiv x5 x4) 10)))) (fun m119 =>
          some (.inl (2, [x1, x2, x3, (gdiv x4 10), x5], m119))))
      else none)
    else
      some (.inr M))
  | _ => none
theorem sk_spellsFile_10 (k : Nat × List Int × gM → Option (gM)) (M : gM) (x1 x2 x3 x4 : Int) : gWk k (st_spellsFile (0, [x1, x2, x3, x4], M)) = (Option.bind (F_names x3) (fun r13 =>
    (if x4 < r13 then
      (if (0 : Int) < x4 then
        (Option.bind (F_spells M 47) (fun m27 =>
          (Option.bind (F_spells m27 (gw32 ((96 : Int) + (gand (gshr x3 (gw32 ((25 : Int) - (gw32 ((5 : Int) * x4))))) 31)))) (fun m46 =>
            k (0, [x1, x2, x3, (gw32 (x4 + 1))], m46)))))
      else
        (Option.bind (F_spells M (gw32 ((96 : Int) + (gand (gshr x3 (gw32 ((25 : Int) - (gw32 ((5 : Int) * x4))))) 31)))) (fun m46 =>
          k (0, [x1, x2, x3, (gw32 (x4 + 1))], m46))))
    else
      (Option.bind (F_spells M 61) (fun m58 =>
        k (1, [x1, x2, x3, 1, 1], m58)))))) := by
  simp only [st_spellsFile, gWk_ite, gWk_bind, gWk_inl, gWk_inr, gWk_none]
theorem sk_spellsFile_67 (k : Nat × List Int × gM → Option (gM)) (M : gM) (x1 x2 x3 x4 x5 : Int) : gWk k (st_spellsFile (1, [x1, x2, x3, x4, x5], M)) = (Option.bind (F_contentAt M x1 x2) (fun r72 =>
    (Option.bind (F_digits r72) (fun r75 =>
      (if x5 < r75 then
        k (1, [x1, x2, x3, (gw32 (x4 * (10 : Int))), (gw32 (x5 + 1))], M)
      else
        (Option.bind (F_contentAt M x1 x2) (fun r97 =>
          k (2, [x1, x2, x3, x4, r97], M)))))))) := by
  simp only [st_spellsFile, gWk_ite, gWk_bind, gWk_inl, gWk_inr, gWk_none]
theorem sk_spellsFile_102 (k : Nat × List Int × gM → Option (gM)) (M : gM) (x1 x2 x3 x4 x5 : Int) : gWk k (st_spellsFile (2, [x1, x2, x3, x4, x5], M)) = (if (0 : Int) < x4 then
    (if x4 ≠ 0 then
      (Option.bind (F_spells M (gw32 ((48 : Int) + (grem (gdiv x5 x4) 10)))) (fun m119 =>
        k (2, [x1, x2, x3, (gdiv x4 10), x5], m119)))
    else none)
  else
    some M) := by
  simp only [st_spellsFile, gWk_ite, gWk_bind, gWk_inl, gWk_inr, gWk_none]
noncomputable def F_spellsFile_10 (M : gM) (x1 x2 x3 x4 : Int) : Option (gM) := gWh (st_spellsFile) (0, [x1, x2, x3, x4], M)
noncomputable def F_spellsFile_67 (M : gM) (x1 x2 x3 x4 x5 : Int) : Option (gM) := gWh (st_spellsFile) (1, [x1, x2, x3, x4, x5], M)
noncomputable def F_spellsFile_102 (M : gM) (x1 x2 x3 x4 x5 : Int) : Option (gM) := gWh (st_spellsFile) (2, [x1, x2, x3, x4, x5], M)
theorem eq_spellsFile_10 (M : gM) (x1 x2 x3 x4 : Int) : F_spellsFile_10 M x1 x2 x3 x4 = (Option.bind (F_names x3) (fun r13 =>
    (if x4 < r13 then
      (if (0 : Int) < x4 then
        (Option.bind (F_spells M 47) (fun m27 =>
          (Option.bind (F_spells m27 (gw32 ((96 : Int) + (gand (gshr x3 (gw32 ((25 : Int) - (gw32 ((5 : Int) * x4))))) 31)))) (fun m46 =>
            F_spellsFile_10 m46 x1 x2 x3 (gw32 (x4 + 1))))))
      else
        (Option.bind (F_spells M (gw32 ((96 : Int) + (gand (gshr x3 (gw32 ((25 : Int) - (gw32 ((5 : Int) * x4))))) 31)))) (fun m46 =>
          F_spellsFile_10 m46 x1 x2 x3 (gw32 (x4 + 1)))))
    else
      (Option.bind (F_spells M 61) (fun m58 =>
        F_spellsFile_67 m58 x1 x2 x3 1 1))))) := (gWh_eq _).trans (sk_spellsFile_10 _ M x1 x2 x3 x4)
theorem eq_spellsFile_67 (M : gM) (x1 x2 x3 x4 x5 : Int) : F_spellsFile_67 M x1 x2 x3 x4 x5 = (Option.bind (F_contentAt M x1 x2) (fun r72 =>
    (Option.bind (F_digits r72) (fun r75 =>
      (if x5 < r75 then
        F_spellsFile_67 M x1 x2 x3 (gw32 (x4 * (10 : Int))) (gw32 (x5 + 1))
      else
        (Option.bind (F_contentAt M x1 x2) (fun r97 =>
          F_spellsFile_102 M x1 x2 x3 x4 r97))))))) := (gWh_eq _).trans (sk_spellsFile_67 _ M x1 x2 x3 x4 x5)
theorem eq_spellsFile_102 (M : gM) (x1 x2 x3 x4 x5 : Int) : F_spellsFile_102 M x1 x2 x3 x4 x5 = (if (0 : Int) < x4 then
    (if x4 ≠ 0 then
      (Option.bind (F_spells M (gw32 ((48 : Int) + (grem (gdiv x5 x4) 10)))) (fun m119 =>
        F_spellsFile_102 m119 x1 x2 x3 (gdiv x4 10) x5))
    else none)
  else
    some M) := (gWh_eq _).trans (sk_spellsFile_102 _ M x1 x2 x3 x4 x5)
noncomputable def F_spellsFile (M : gM) (a1 a2 : Int) : Option (gM) := (Option.bind (F_pathAt M a1 a2) (fun r3 =>
    F_spellsFile_10 M a1 a2 r3 0))
theorem eq_spellsFile (M : gM) (a1 a2 : Int) : F_spellsFile M a1 a2 = (Option.bind (F_pathAt M a1 a2) (fun r3 =>
    F_spellsFile_10 M a1 a2 r3 0)) := rfl
theorem frp_spellsFile : ∀ (s : Nat × List Int × gM) (b : gM), gWh (st_spellsFile) s = some b → (∀ (x1 x2 x3 x4 : Int) (M : gM), s = (0, [x1, x2, x3, x4], M) → gFr [] [50, 51] M b) ∧ (∀ (x1 x2 x3 x4 x5 : Int) (M : gM), s = (1, [x1, x2, x3, x4, x5], M) → gFr [] [50, 51] M b) ∧ (∀ (x1 x2 x3 x4 x5 : Int) (M : gM), s = (2, [x1, x2, x3, x4, x5], M) → gFr [] [50, 51] M b) := by
  refine gWh_ind (fun k hk s b h => ⟨?_, ?_, ?_⟩)
  · rintro x1 x2 x3 x4 M rfl
    rw [sk_spellsFile_10] at h
    obtain ⟨r13, e13, h⟩ := gI_bd h
    rcases gI_or h with h | h
    · rcases gI_or h with h | h
      · obtain ⟨m27, e27, h⟩ := gI_bd h
        obtain ⟨m46, e46, h⟩ := gI_bd h
        exact gFr_t (gFr_t (gFr_t (gFr_r [] [50, 51] _) (fr_spells (b := m27) e27) (by first | decide | simp) (by decide)) (fr_spells (b := m46) e46) (by first | decide | simp) (by decide)) ((hk _ _ h).1 _ _ _ _ _ rfl) (fun _ z => z) (fun _ z => z)
      · obtain ⟨m46, e46, h⟩ := gI_bd h
        exact gFr_t (gFr_t (gFr_r [] [50, 51] _) (fr_spells (b := m46) e46) (by first | decide | simp) (by decide)) ((hk _ _ h).1 _ _ _ _ _ rfl) (fun _ z => z) (fun _ z => z)
    · obtain ⟨m58, e58, h⟩ := gI_bd h
      exact gFr_t (gFr_t (gFr_r [] [50, 51] _) (fr_spells (b := m58) e58) (by first | decide | simp) (by decide)) ((hk _ _ h).2.1 _ _ _ _ _ _ rfl) (fun _ z => z) (fun _ z => z)
  · rintro x1 x2 x3 x4 x5 M rfl
    rw [sk_spellsFile_67] at h
    obtain ⟨r72, e72, h⟩ := gI_bd h
    obtain ⟨r75, e75, h⟩ := gI_bd h
    rcases gI_or h with h | h
    · exact gFr_t (gFr_r [] [50, 51] _) ((hk _ _ h).2.1 _ _ _ _ _ _ rfl) (fun _ z => z) (fun _ z => z)
    · obtain ⟨r97, e97, h⟩ := gI_bd h
      exact gFr_t (gFr_r [] [50, 51] _) ((hk _ _ h).2.2 _ _ _ _ _ _ rfl) (fun _ z => z) (fun _ z => z)
  · rintro x1 x2 x3 x4 x5 M rfl
    rw [sk_spellsFile_102] at h
    rcases gI_or h with h | h
    · obtain ⟨g5, h⟩ := gI_gd h
      obtain ⟨m119, e119, h⟩ := gI_bd h
      exact gFr_t (gFr_t (gFr_r [] [50, 51] _) (fr_spells (b := m119) e119) (by first | decide | simp) (by decide)) ((hk _ _ h).2.2 _ _ _ _ _ _ rfl) (fun _ z => z) (fun _ z => z)
    · rw [← Option.some.inj h]
      exact (gFr_r [] [50, 51] _)
theorem fr_spellsFile_10 {M : gM} {x1 x2 x3 x4 : Int} {b : gM} (h : F_spellsFile_10 M x1 x2 x3 x4 = some b) : gFr [] [50, 51] M b :=
  (frp_spellsFile _ _ h).1 _ _ _ _ _ rfl
theorem fr_spellsFile_67 {M : gM} {x1 x2 x3 x4 x5 : Int} {b : gM} (h : F_spellsFile_67 M x1 x2 x3 x4 x5 = some b) : gFr [] [50, 51] M b :=
  (frp_spellsFile _ _ h).2.1 _ _ _ _ _ _ rfl
theorem fr_spellsFile_102 {M : gM} {x1 x2 x3 x4 x5 : Int} {b : gM} (h : F_spellsFile_102 M x1 x2 x3 x4 x5 = some b) : gFr [] [50, 51] M b :=
  (frp_spellsFile _ _ h).2.2 _ _ _ _ _ _ rfl
theorem fr_spellsFile {M : gM} {a1 a2 : Int} {b : gM} (h : F_spellsFile M a1 a2 = some b) : gFr [] [50, 51] M b := by
  rw [eq_spellsFile] at h
  obtain ⟨r3, e3, h⟩ := gI_bd h
  exact gFr_t (gFr_r [] [50, 51] _) (fr_spellsFile_10 h) (fun _ z => z) (fun _ z => z)
theorem okp_spellsFile {sh : gS} : ∀ (s : Nat × List Int × gM) (b : gM), gWh (st_spellsFile) s = some b → (∀ (x1 x2 x3 x4 : Int) (M : gM), s = (0, [x1, x2, x3, x4], M) → gOK sh M → gA (gr 2 42) yX12_spellsFile cX12_spellsFile 6 none (gPq sh none b) (0, 0) 10 [(4, 711), (0, x1), (0, x2), (0, x3), (0, x4), (9, 0)] [] sh M) ∧ (∀ (x1 x2 x3 x4 x5 : Int) (M : gM), s = (1, [x1, x2, x3, x4, x5], M) → gOK sh M → gA (gr 2 42) yX12_spellsFile cX12_spellsFile 6 none (gPq sh none b) (0, 0) 67 [(4, 711), (0, x1), (0, x2), (0, x3), (0, x4), (0, x5)] [] sh M) ∧ (∀ (x1 x2 x3 x4 x5 : Int) (M : gM), s = (2, [x1, x2, x3, x4, x5], M) → gOK sh M → gA (gr 2 42) yX12_spellsFile cX12_spellsFile 6 none (gPq sh none b) (0, 0) 102 [(4, 711), (0, x1), (0, x2), (0, x3), (0, x4), (0, x5)] [] sh M) := by
  refine gWh_ind (fun k hk s b h => ⟨?_, ?_, ?_⟩)
  · rintro x1 x2 x3 x4 M rfl hOK
    rw [sk_spellsFile_10] at h
    refine g_iload (q0 := 12) (j := 4) rfl dX12_spellsFile_10 rfl ?_
    refine g_iload_n (q0 := 13) (j := 3) rfl dX12_spellsFile_12 rfl ?_
    obtain ⟨r13, e13, h⟩ := gI_bd h
    refine g_callSq1 (as := [_]) (rest := [_]) mt_X12_names ms_X12_names ml_X12_150 dX12_spellsFile_13 (q0 := 16) rfl rfl (ok_names hOK e13) rfl ⟨by decide, by decide⟩ (Nat.le_of_ble_eq_true rfl) ⟨Nat.zero_le _, Nat.zero_le _⟩ ?_
    refine g_icmp_ge (q0 := 19) (tgt := 55) rfl dX12_spellsFile_16 (by decide) (fun h16 => ?_) (fun h16 => ?_)
    · replace h := gI_neg (Int.not_lt.mpr h16) h
      refine g_aload_n (q0 := 56) (j := 0) rfl dX12_spellsFile_55 rfl ?_
      refine g_bipush (q0 := 58) rfl dX12_spellsFile_56 (k := ?_)
      obtain ⟨m58, e58, h⟩ := gI_bd h
      refine g_callVq0 (as := [_]) (rest := []) mt_X12_spells mi_X12_spells se_X12_spells ml_X12_668 dX12_spellsFile_58 (q0 := 61) rfl rfl (sh_711 hOK) rfl rfl (ok_spells hOK e58) rfl ⟨by decide, by decide⟩ (Nat.le_of_ble_eq_true rfl) ⟨Nat.zero_le _, Nat.zero_le _⟩ ?_
      have hOK1 : gOK sh m58 := gOK_fr hOK (fr_spells (b := m58) e58) (by first | decide | (intro a ha; simp only [List.mem_cons, List.not_mem_nil, or_false] at ha; omega)) (by decide)
      refine g_iconst (q0 := 62) rfl dX12_spellsFile_61 (k := ?_)
      refine g_istore (q0 := 64) (j := 4) (lv2 := [_, _, _, _, _, _]) rfl dX12_spellsFile_62 (by decide) rfl rfl ?_
      refine g_iconst (q0 := 65) rfl dX12_spellsFile_64 (k := ?_)
      refine g_istore (q0 := 67) (j := 5) (lv2 := [_, _, _, _, _, _]) rfl dX12_spellsFile_65 (by decide) rfl rfl ?_
      exact (hk _ _ h).2.1 _ _ _ _ _ _ rfl hOK1
    · replace h := gI_pos h16 h
      refine g_iload (q0 := 21) (j := 4) rfl dX12_spellsFile_19 rfl ?_
      refine g_if_le (q0 := 24) (tgt := 30) rfl dX12_spellsFile_21 (by decide) (fun h21 => ?_) (fun h21 => ?_)
      · replace h := gI_neg (Int.not_lt.mpr h21) h
        refine g_aload_n (q0 := 31) (j := 0) rfl dX12_spellsFile_30 rfl ?_
        refine g_bipush (q0 := 33) rfl dX12_spellsFile_31 (k := ?_)
        refine g_iload_n (q0 := 34) (j := 3) rfl dX12_spellsFile_33 rfl ?_
        refine g_bipush (q0 := 36) rfl dX12_spellsFile_34 (k := ?_)
        refine g_iconst (q0 := 37) rfl dX12_spellsFile_36 (k := ?_)
        refine g_iload (q0 := 39) (j := 4) rfl dX12_spellsFile_37 rfl ?_
        refine g_imulw (q0 := 40) rfl dX12_spellsFile_39 ?_
        refine g_isubw (q0 := 41) rfl dX12_spellsFile_40 ?_
        refine g_ishr (q0 := 42) rfl dX12_spellsFile_41 ?_
        refine g_bipush (q0 := 44) rfl dX12_spellsFile_42 (k := ?_)
        refine g_iand (q0 := 45) rfl dX12_spellsFile_44 ?_
        refine g_iaddw (q0 := 46) rfl dX12_spellsFile_45 ?_
        obtain ⟨m46, e46, h⟩ := gI_bd h
        refine g_callVq0 (as := [_]) (rest := []) mt_X12_spells mi_X12_spells se_X12_spells ml_X12_668 dX12_spellsFile_46 (q0 := 49) rfl rfl (sh_711 hOK) rfl rfl (ok_spells hOK e46) rfl ⟨by decide, by decide⟩ (Nat.le_of_ble_eq_true rfl) ⟨Nat.zero_le _, Nat.zero_le _⟩ ?_
        have hOK2 : gOK sh m46 := gOK_fr hOK (fr_spells (b := m46) e46) (by first | decide | (intro a ha; simp only [List.mem_cons, List.not_mem_nil, or_false] at ha; omega)) (by decide)
        refine g_iincw (q0 := 52) (lv2 := [_, _, _, _, _, _]) rfl dX12_spellsFile_49 rfl (by decide) rfl rfl ?_
        refine g_goto (tgt := 10) dX12_spellsFile_52 (by decide) ?_
        exact (hk _ _ h).1 _ _ _ _ _ rfl hOK2
      · replace h := gI_pos h21 h
        refine g_aload_n (q0 := 25) (j := 0) rfl dX12_spellsFile_24 rfl ?_
        refine g_bipush (q0 := 27) rfl dX12_spellsFile_25 (k := ?_)
        obtain ⟨m27, e27, h⟩ := gI_bd h
        refine g_callVq0 (as := [_]) (rest := []) mt_X12_spells mi_X12_spells se_X12_spells ml_X12_668 dX12_spellsFile_27 (q0 := 30) rfl rfl (sh_711 hOK) rfl rfl (ok_spells hOK e27) rfl ⟨by decide, by decide⟩ (Nat.le_of_ble_eq_true rfl) ⟨Nat.zero_le _, Nat.zero_le _⟩ ?_
        have hOK3 : gOK sh m27 := gOK_fr hOK (fr_spells (b := m27) e27) (by first | decide | (intro a ha; simp only [List.mem_cons, List.not_mem_nil, or_false] at ha; omega)) (by decide)
        refine g_aload_n (q0 := 31) (j := 0) rfl dX12_spellsFile_30 rfl ?_
        refine g_bipush (q0 := 33) rfl dX12_spellsFile_31 (k := ?_)
        refine g_iload_n (q0 := 34) (j := 3) rfl dX12_spellsFile_33 rfl ?_
        refine g_bipush (q0 := 36) rfl dX12_spellsFile_34 (k := ?_)
        refine g_iconst (q0 := 37) rfl dX12_spellsFile_36 (k := ?_)
        refine g_iload (q0 := 39) (j := 4) rfl dX12_spellsFile_37 rfl ?_
        refine g_imulw (q0 := 40) rfl dX12_spellsFile_39 ?_
        refine g_isubw (q0 := 41) rfl dX12_spellsFile_40 ?_
        refine g_ishr (q0 := 42) rfl dX12_spellsFile_41 ?_
        refine g_bipush (q0 := 44) rfl dX12_spellsFile_42 (k := ?_)
        refine g_iand (q0 := 45) rfl dX12_spellsFile_44 ?_
        refine g_iaddw (q0 := 46) rfl dX12_spellsFile_45 ?_
        obtain ⟨m46, e46, h⟩ := gI_bd h
        refine g_callVq0 (as := [_]) (rest := []) mt_X12_spells mi_X12_spells se_X12_spells ml_X12_668 dX12_spellsFile_46 (q0 := 49) rfl rfl (sh_711 hOK3) rfl rfl (ok_spells hOK3 e46) rfl ⟨by decide, by decide⟩ (Nat.le_of_ble_eq_true rfl) ⟨Nat.zero_le _, Nat.zero_le _⟩ ?_
        have hOK4 : gOK sh m46 := gOK_fr hOK3 (fr_spells (b := m46) e46) (by first | decide | (intro a ha; simp only [List.mem_cons, List.not_mem_nil, or_false] at ha; omega)) (by decide)
        refine g_iincw (q0 := 52) (lv2 := [_, _, _, _, _, _]) rfl dX12_spellsFile_49 rfl (by decide) rfl rfl ?_
        refine g_goto (tgt := 10) dX12_spellsFile_52 (by decide) ?_
        exact (hk _ _ h).1 _ _ _ _ _ rfl hOK4
  · rintro x1 x2 x3 x4 x5 M rfl hOK
    rw [sk_spellsFile_67] at h
    refine g_iload (q0 := 69) (j := 5) rfl dX12_spellsFile_67 rfl ?_
    refine g_aload_n (q0 := 70) (j := 0) rfl dX12_spellsFile_69 rfl ?_
    refine g_iload_n (q0 := 71) (j := 1) rfl dX12_spellsFile_70 rfl ?_
    refine g_iload_n (q0 := 72) (j := 2) rfl dX12_spellsFile_71 rfl ?_
    obtain ⟨r72, e72, h⟩ := gI_bd h
    refine g_callVq1 (as := [_, _]) (rest := [_]) mt_X12_contentAt mi_X12_contentAt se_X12_contentAt ml_X12_169 dX12_spellsFile_72 (q0 := 75) rfl rfl (sh_711 hOK) rfl rfl (ok_contentAt hOK e72) rfl ⟨by decide, by decide⟩ (Nat.le_of_ble_eq_true rfl) ⟨Nat.zero_le _, Nat.zero_le _⟩ ?_
    obtain ⟨r75, e75, h⟩ := gI_bd h
    refine g_callSq1 (as := [_]) (rest := [_]) mt_X12_digits ms_X12_digits ml_X12_486 dX12_spellsFile_75 (q0 := 78) rfl rfl (ok_digits hOK e75) rfl ⟨by decide, by decide⟩ (Nat.le_of_ble_eq_true rfl) ⟨Nat.zero_le _, Nat.zero_le _⟩ ?_
    refine g_icmp_ge (q0 := 81) (tgt := 94) rfl dX12_spellsFile_78 (by decide) (fun h78 => ?_) (fun h78 => ?_)
    · replace h := gI_neg (Int.not_lt.mpr h78) h
      refine g_aload_n (q0 := 95) (j := 0) rfl dX12_spellsFile_94 rfl ?_
      refine g_iload_n (q0 := 96) (j := 1) rfl dX12_spellsFile_95 rfl ?_
      refine g_iload_n (q0 := 97) (j := 2) rfl dX12_spellsFile_96 rfl ?_
      obtain ⟨r97, e97, h⟩ := gI_bd h
      refine g_callVq1 (as := [_, _]) (rest := []) mt_X12_contentAt mi_X12_contentAt se_X12_contentAt ml_X12_169 dX12_spellsFile_97 (q0 := 100) rfl rfl (sh_711 hOK) rfl rfl (ok_contentAt hOK e97) rfl ⟨by decide, by decide⟩ (Nat.le_of_ble_eq_true rfl) ⟨Nat.zero_le _, Nat.zero_le _⟩ ?_
      refine g_istore (q0 := 102) (j := 5) (lv2 := [_, _, _, _, _, _]) rfl dX12_spellsFile_100 (by decide) rfl rfl ?_
      exact (hk _ _ h).2.2 _ _ _ _ _ _ rfl hOK
    · replace h := gI_pos h78 h
      refine g_iload (q0 := 83) (j := 4) rfl dX12_spellsFile_81 rfl ?_
      refine g_bipush (q0 := 85) rfl dX12_spellsFile_83 (k := ?_)
      refine g_imulw (q0 := 86) rfl dX12_spellsFile_85 ?_
      refine g_istore (q0 := 88) (j := 4) (lv2 := [_, _, _, _, _, _]) rfl dX12_spellsFile_86 (by decide) rfl rfl ?_
      refine g_iincw (q0 := 91) (lv2 := [_, _, _, _, _, _]) rfl dX12_spellsFile_88 rfl (by decide) rfl rfl ?_
      refine g_goto (tgt := 67) dX12_spellsFile_91 (by decide) ?_
      exact (hk _ _ h).2.1 _ _ _ _ _ _ rfl hOK
  · rintro x1 x2 x3 x4 x5 M rfl hOK
    rw [sk_spellsFile_102] at h
    refine g_iload (q0 := 104) (j := 4) rfl dX12_spellsFile_102 rfl ?_
    refine g_if_le (q0 := 107) (tgt := 132) rfl dX12_spellsFile_104 (by decide) (fun h104 => ?_) (fun h104 => ?_)
    · replace h := gI_neg (Int.not_lt.mpr h104) h
      rw [← Option.some.inj h]
      refine g_return dX12_spellsFile_132 rfl ⟨Nat.zero_le _, Nat.zero_le _⟩ ?_
      exact ⟨rfl, rfl, rfl⟩
    · replace h := gI_pos h104 h
      refine g_aload_n (q0 := 108) (j := 0) rfl dX12_spellsFile_107 rfl ?_
      refine g_bipush (q0 := 110) rfl dX12_spellsFile_108 (k := ?_)
      refine g_iload (q0 := 112) (j := 5) rfl dX12_spellsFile_110 rfl ?_
      refine g_iload (q0 := 114) (j := 4) rfl dX12_spellsFile_112 rfl ?_
      obtain ⟨g5, h⟩ := gI_gd h
      refine g_idiv (q0 := 115) rfl dX12_spellsFile_114 g5 ?_
      refine g_bipush (q0 := 117) rfl dX12_spellsFile_115 (k := ?_)
      refine g_irem (q0 := 118) rfl dX12_spellsFile_117 (by decide) ?_
      refine g_iaddw (q0 := 119) rfl dX12_spellsFile_118 ?_
      obtain ⟨m119, e119, h⟩ := gI_bd h
      refine g_callVq0 (as := [_]) (rest := []) mt_X12_spells mi_X12_spells se_X12_spells ml_X12_668 dX12_spellsFile_119 (q0 := 122) rfl rfl (sh_711 hOK) rfl rfl (ok_spells hOK e119) rfl ⟨by decide, by decide⟩ (Nat.le_of_ble_eq_true rfl) ⟨Nat.zero_le _, Nat.zero_le _⟩ ?_
      have hOK6 : gOK sh m119 := gOK_fr hOK (fr_spells (b := m119) e119) (by first | decide | (intro a ha; simp only [List.mem_cons, List.not_mem_nil, or_false] at ha; omega)) (by decide)
      refine g_iload (q0 := 124) (j := 4) rfl dX12_spellsFile_122 rfl ?_
      refine g_bipush (q0 := 126) rfl dX12_spellsFile_124 (k := ?_)
      refine g_idiv (q0 := 127) rfl dX12_spellsFile_126 (by decide) ?_
      refine g_istore (q0 := 129) (j := 4) (lv2 := [_, _, _, _, _, _]) rfl dX12_spellsFile_127 (by decide) rfl rfl ?_
      refine g_goto (tgt := 102) dX12_spellsFile_129 (by decide) ?_
      exact (hk _ _ h).2.2 _ _ _ _ _ _ rfl hOK6
theorem ok_spellsFile_10 {sh : gS} {M : gM} {x1 x2 x3 x4 : Int} {b : gM} (hOK : gOK sh M) (h : F_spellsFile_10 M x1 x2 x3 x4 = some b) : gA (gr 2 42) yX12_spellsFile cX12_spellsFile 6 none (gPq sh none b) (0, 0) 10 [(4, 711), (0, x1), (0, x2), (0, x3), (0, x4), (9, 0)] [] sh M :=
  (okp_spellsFile _ _ h).1 _ _ _ _ _ rfl hOK
theorem ok_spellsFile_67 {sh : gS} {M : gM} {x1 x2 x3 x4 x5 : Int} {b : gM} (hOK : gOK sh M) (h : F_spellsFile_67 M x1 x2 x3 x4 x5 = some b) : gA (gr 2 42) yX12_spellsFile cX12_spellsFile 6 none (gPq sh none b) (0, 0) 67 [(4, 711), (0, x1), (0, x2), (0, x3), (0, x4), (0, x5)] [] sh M :=
  (okp_spellsFile _ _ h).2.1 _ _ _ _ _ _ rfl hOK
theorem ok_spellsFile_102 {sh : gS} {M : gM} {x1 x2 x3 x4 x5 : Int} {b : gM} (hOK : gOK sh M) (h : F_spellsFile_102 M x1 x2 x3 x4 x5 = some b) : gA (gr 2 42) yX12_spellsFile cX12_spellsFile 6 none (gPq sh none b) (0, 0) 102 [(4, 711), (0, x1), (0, x2), (0, x3), (0, x4), (0, x5)] [] sh M :=
  (okp_spellsFile _ _ h).2.2 _ _ _ _ _ _ rfl hOK
theorem ok_spellsFile {sh : gS} {M : gM} {a1 a2 : Int} {b : gM} (hOK : gOK sh M) (h : F_spellsFile M a1 a2 = some b) : gC (gr 2 42) yX12_spellsFile cX12_spellsFile 6 none [(4, 711), (0, a1), (0, a2)] sh M (gPq sh none b) := by
  rw [eq_spellsFile] at h
  refine gC_ofA (lv := [_, _, _, _, _, _]) (by decide +kernel) (Nat.le_of_ble_eq_true rfl) rfl (fun hMw hav => ?_)
  refine g_aload_n (q0 := 1) (j := 0) rfl dX12_spellsFile_0 rfl ?_
  refine g_iload_n (q0 := 2) (j := 1) rfl dX12_spellsFile_1 rfl ?_
  refine g_iload_n (q0 := 3) (j := 2) rfl dX12_spellsFile_2 rfl ?_
  obtain ⟨r3, e3, h⟩ := gI_bd h
  refine g_callVq1 (as := [_, _]) (rest := []) mt_X12_pathAt mi_X12_pathAt se_X12_pathAt ml_X12_162 dX12_spellsFile_3 (q0 := 6) rfl rfl (sh_711 hOK) rfl rfl (ok_pathAt hOK e3) rfl ⟨by decide, by decide⟩ (Nat.le_of_ble_eq_true rfl) ⟨Nat.zero_le _, Nat.zero_le _⟩ ?_
  refine g_istore_n (q0 := 7) (j := 3) (lv2 := [_, _, _, _, _, _]) rfl dX12_spellsFile_6 (by decide) rfl rfl ?_
  refine g_iconst (q0 := 8) rfl dX12_spellsFile_7 (k := ?_)
  refine g_istore (q0 := 10) (j := 4) (lv2 := [_, _, _, _, _, _]) rfl dX12_spellsFile_8 (by decide) rfl rfl ?_
  exact ok_spellsFile_10 hOK h
-- ==== spelt
theorem dX12_spelt_0 : decode cX12_spelt 0 = .ok (.aload_n 0, 1) := by decide +kernel
theorem dX12_spelt_1 : decode cX12_spelt 1 = .ok (.iload_n 1, 1) := by decide +kernel
theorem dX12_spelt_2 : decode cX12_spelt 2 = .ok (.invokevirtual 229, 3) := by decide +kernel
theorem dX12_spelt_5 : decode cX12_spelt 5 = .ok (.ifCond .eq 14, 3) := by decide +kernel
theorem dX12_spelt_8 : decode cX12_spelt 8 = .ok (.iload_n 2, 1) := by decide +kernel
theorem dX12_spelt_9 : decode cX12_spelt 9 = .ok (.iconst 0, 1) := by decide +kernel
theorem dX12_spelt_10 : decode cX12_spelt 10 = .ok (.sipush 599, 3) := by decide +kernel
theorem dX12_spelt_13 : decode cX12_spelt 13 = .ok (.invokestatic 182, 3) := by decide +kernel
theorem dX12_spelt_16 : decode cX12_spelt 16 = .ok (.ifCond .ne 5, 3) := by decide +kernel
theorem dX12_spelt_19 : decode cX12_spelt 19 = .ok (.iconst (-1), 1) := by decide +kernel
theorem dX12_spelt_20 : decode cX12_spelt 20 = .ok (.ireturn, 1) := by decide +kernel
theorem dX12_spelt_21 : decode cX12_spelt 21 = .ok (.aload_n 0, 1) := by decide +kernel
theorem dX12_spelt_22 : decode cX12_spelt 22 = .ok (.iload_n 2, 1) := by decide +kernel
theorem dX12_spelt_23 : decode cX12_spelt 23 = .ok (.putfield 662, 3) := by decide +kernel
theorem dX12_spelt_26 : decode cX12_spelt 26 = .ok (.aload_n 0, 1) := by decide +kernel
theorem dX12_spelt_27 : decode cX12_spelt 27 = .ok (.bipush (-2), 2) := by decide +kernel
theorem dX12_spelt_29 : decode cX12_spelt 29 = .ok (.putfield 665, 3) := by decide +kernel
theorem dX12_spelt_32 : decode cX12_spelt 32 = .ok (.iconst 0, 1) := by decide +kernel
theorem dX12_spelt_33 : decode cX12_spelt 33 = .ok (.istore_n 3, 1) := by decide +kernel
theorem dX12_spelt_34 : decode cX12_spelt 34 = .ok (.iload_n 3, 1) := by decide +kernel
theorem dX12_spelt_35 : decode cX12_spelt 35 = .ok (.aload_n 0, 1) := by decide +kernel
theorem dX12_spelt_36 : decode cX12_spelt 36 = .ok (.getfield 7, 3) := by decide +kernel
theorem dX12_spelt_39 : decode cX12_spelt 39 = .ok (.iload_n 1, 1) := by decide +kernel
theorem dX12_spelt_40 : decode cX12_spelt 40 = .ok (.iaload, 1) := by decide +kernel
theorem dX12_spelt_41 : decode cX12_spelt 41 = .ok (.if_icmp .ge 29, 3) := by decide +kernel
theorem dX12_spelt_44 : decode cX12_spelt 44 = .ok (.iload_n 3, 1) := by decide +kernel
theorem dX12_spelt_45 : decode cX12_spelt 45 = .ok (.ifCond .le 9, 3) := by decide +kernel
theorem dX12_spelt_48 : decode cX12_spelt 48 = .ok (.aload_n 0, 1) := by decide +kernel
theorem dX12_spelt_49 : decode cX12_spelt 49 = .ok (.bipush 44, 2) := by decide +kernel
theorem dX12_spelt_51 : decode cX12_spelt 51 = .ok (.invokevirtual 668, 3) := by decide +kernel
theorem dX12_spelt_54 : decode cX12_spelt 54 = .ok (.aload_n 0, 1) := by decide +kernel
theorem dX12_spelt_55 : decode cX12_spelt 55 = .ok (.aload_n 0, 1) := by decide +kernel
theorem dX12_spelt_56 : decode cX12_spelt 56 = .ok (.iload_n 1, 1) := by decide +kernel
theorem dX12_spelt_57 : decode cX12_spelt 57 = .ok (.iload_n 3, 1) := by decide +kernel
theorem dX12_spelt_58 : decode cX12_spelt 58 = .ok (.invokevirtual 192, 3) := by decide +kernel
theorem dX12_spelt_61 : decode cX12_spelt 61 = .ok (.invokevirtual 671, 3) := by decide +kernel
theorem dX12_spelt_64 : decode cX12_spelt 64 = .ok (.iinc 3 1, 3) := by decide +kernel
theorem dX12_spelt_67 : decode cX12_spelt 67 = .ok (.goto (-33), 3) := by decide +kernel
theorem dX12_spelt_70 : decode cX12_spelt 70 = .ok (.aload_n 0, 1) := by decide +kernel
theorem dX12_spelt_71 : decode cX12_spelt 71 = .ok (.bipush 58, 2) := by decide +kernel
theorem dX12_spelt_73 : decode cX12_spelt 73 = .ok (.invokevirtual 668, 3) := by decide +kernel
theorem dX12_spelt_76 : decode cX12_spelt 76 = .ok (.iconst 0, 1) := by decide +kernel
theorem dX12_spelt_77 : decode cX12_spelt 77 = .ok (.istore_n 3, 1) := by decide +kernel
theorem dX12_spelt_78 : decode cX12_spelt 78 = .ok (.iload_n 3, 1) := by decide +kernel
theorem dX12_spelt_79 : decode cX12_spelt 79 = .ok (.aload_n 0, 1) := by decide +kernel
theorem dX12_spelt_80 : decode cX12_spelt 80 = .ok (.getfield 28, 3) := by decide +kernel
theorem dX12_spelt_83 : decode cX12_spelt 83 = .ok (.iload_n 1, 1) := by decide +kernel
theorem dX12_spelt_84 : decode cX12_spelt 84 = .ok (.iaload, 1) := by decide +kernel
theorem dX12_spelt_85 : decode cX12_spelt 85 = .ok (.if_icmp .ge 25, 3) := by decide +kernel
theorem dX12_spelt_88 : decode cX12_spelt 88 = .ok (.iload_n 3, 1) := by decide +kernel
theorem dX12_spelt_89 : decode cX12_spelt 89 = .ok (.ifCond .le 9, 3) := by decide +kernel
theorem dX12_spelt_92 : decode cX12_spelt 92 = .ok (.aload_n 0, 1) := by decide +kernel
theorem dX12_spelt_93 : decode cX12_spelt 93 = .ok (.bipush 59, 2) := by decide +kernel
theorem dX12_spelt_95 : decode cX12_spelt 95 = .ok (.invokevirtual 668, 3) := by decide +kernel
theorem dX12_spelt_98 : decode cX12_spelt 98 = .ok (.aload_n 0, 1) := by decide +kernel
theorem dX12_spelt_99 : decode cX12_spelt 99 = .ok (.iload_n 1, 1) := by decide +kernel
theorem dX12_spelt_100 : decode cX12_spelt 100 = .ok (.iload_n 3, 1) := by decide +kernel
theorem dX12_spelt_101 : decode cX12_spelt 101 = .ok (.invokevirtual 674, 3) := by decide +kernel
theorem dX12_spelt_104 : decode cX12_spelt 104 = .ok (.iinc 3 1, 3) := by decide +kernel
theorem dX12_spelt_107 : decode cX12_spelt 107 = .ok (.goto (-29), 3) := by decide +kernel
theorem dX12_spelt_110 : decode cX12_spelt 110 = .ok (.aload_n 0, 1) := by decide +kernel
theorem dX12_spelt_111 : decode cX12_spelt 111 = .ok (.bipush 58, 2) := by decide +kernel
theorem dX12_spelt_113 : decode cX12_spelt 113 = .ok (.invokevirtual 668, 3) := by decide +kernel
theorem dX12_spelt_116 : decode cX12_spelt 116 = .ok (.iconst 0, 1) := by decide +kernel
theorem dX12_spelt_117 : decode cX12_spelt 117 = .ok (.istore_n 3, 1) := by decide +kernel
theorem dX12_spelt_118 : decode cX12_spelt 118 = .ok (.iload_n 3, 1) := by decide +kernel
theorem dX12_spelt_119 : decode cX12_spelt 119 = .ok (.aload_n 0, 1) := by decide +kernel
theorem dX12_spelt_120 : decode cX12_spelt 120 = .ok (.getfield 22, 3) := by decide +kernel
theorem dX12_spelt_123 : decode cX12_spelt 123 = .ok (.iload_n 1, 1) := by decide +kernel
theorem dX12_spelt_124 : decode cX12_spelt 124 = .ok (.iaload, 1) := by decide +kernel
theorem dX12_spelt_125 : decode cX12_spelt 125 = .ok (.if_icmp .ge 24, 3) := by decide +kernel
theorem dX12_spelt_128 : decode cX12_spelt 128 = .ok (.aload_n 0, 1) := by decide +kernel
theorem dX12_spelt_129 : decode cX12_spelt 129 = .ok (.aload_n 0, 1) := by decide +kernel
theorem dX12_spelt_130 : decode cX12_spelt 130 = .ok (.getfield 25, 3) := by decide +kernel
theorem dX12_spelt_133 : decode cX12_spelt 133 = .ok (.bipush 24, 2) := by decide +kernel
theorem dX12_spelt_135 : decode cX12_spelt 135 = .ok (.iload_n 1, 1) := by decide +kernel
theorem dX12_spelt_136 : decode cX12_spelt 136 = .ok (.imul, 1) := by decide +kernel
theorem dX12_spelt_137 : decode cX12_spelt 137 = .ok (.iload_n 3, 1) := by decide +kernel
theorem dX12_spelt_138 : decode cX12_spelt 138 = .ok (.iadd, 1) := by decide +kernel
theorem dX12_spelt_139 : decode cX12_spelt 139 = .ok (.iaload, 1) := by decide +kernel
theorem dX12_spelt_140 : decode cX12_spelt 140 = .ok (.invokevirtual 668, 3) := by decide +kernel
theorem dX12_spelt_143 : decode cX12_spelt 143 = .ok (.iinc 3 1, 3) := by decide +kernel
theorem dX12_spelt_146 : decode cX12_spelt 146 = .ok (.goto (-28), 3) := by decide +kernel
theorem dX12_spelt_149 : decode cX12_spelt 149 = .ok (.aload_n 0, 1) := by decide +kernel
theorem dX12_spelt_150 : decode cX12_spelt 150 = .ok (.getfield 665, 3) := by decide +kernel
theorem dX12_spelt_153 : decode cX12_spelt 153 = .ok (.ireturn, 1) := by decide +kernel
noncomputable def st_spelt : Nat × List Int × gM → Option ((Nat × List Int × gM) ⊕ (Int × gM))
  | (0, [x1, x2, x3], M) => (if 0 ≤ x1 ∧ x1 < 120 then
      (if x3 < (M 712 x1) then
        (if (0 : Int) < x3 then
          (Option.bind (F_spells M 44) (fun m51 =>
            (Option.bind (F_parentAt m51 x1 x3) (fun r58 =>
              (Option.bind (F_spellsNumber m51 r58) (fun m61 =>
                some (.inl (0, [x1, x2, (gw32 (x3 + 1))], m61))))))))
        else
          (Option.bind (F_parentAt M x1 x3) (fun r58 =>
            (Option.bind (F_spellsNumber M r58) (fun m61 =>
              some (.inl (0, [x1, x2, (gw32 (x3 + 1))], m61)))))))
      else
        (Option.bind (F_spells M 58) (fun m73 =>
          some (.inl (1, [x1, x2, 0], m73)))))
    else none)
  | (1, [x1, x2, x3], M) => (if 0 ≤ x1 ∧ x1 < 123 then
      (if x3 < (M 718 x1) then
        (if (0 : Int) < x3 then
          (Option.bind (F_spells M 59) (fun m95 =>
            (Option.bind (F_spellsFile m95 x1 x3) (fun m101 =>
              some (.inl (1, [x1, x2, (gw32 (x3 + 1))], m101))))))
        else
          (Option.bind (F_spellsFile M x1 x3) (fun m101 =>
            some (.inl (1, [x1, x2, (gw32 (x3 + 1))], m101)))))
      else
        (Option.bind (F_spells M 58) (fun m113 =>
          some (.inl (2, [x1, x2, 0], m113)))))
    else none)
  | (2, [x1, x2, x3], M) => (if 0 ≤ x1 ∧ x1 < 120 then
      (if x3 < (M 716 x1) then
        (if 0 ≤ (gw32 ((gw32 ((24 : Int) * x1)) + x3)) ∧ (gw32 ((gw32 ((24 : Int) * x1)) + x3)) < 2880 then
          (Option.bind (F_spells M (M 717 (gw32 ((gw32 ((24 : Int) * x1)) + x3)))) (fun m140 =>
            some (.inl (2, [x1, x2, (gw32 (x3 + 1))], m140))))
        else none)
      else
        some (.inr ((M 711 51), M)))
    else none)
  | _ => none
theorem sk_spelt_34 (k : Nat × List Int × gM → Option (Int × gM)) (M : gM) (x1 x2 x3 : Int) : gWk k (st_spelt (0, [x1, x2, x3], M)) = (if 0 ≤ x1 ∧ x1 < 120 then
    (if x3 < (M 712 x1) then
      (if (0 : Int) < x3 then
        (Option.bind (F_spells M 44) (fun m51 =>
          (Option.bind (F_parentAt m51 x1 x3) (fun r58 =>
            (Option.bind (F_spellsNumber m51 r58) (fun m61 =>
              k (0, [x1, x2, (gw32 (x3 + 1))], m61)))))))
      else
        (Option.bind (F_parentAt M x1 x3) (fun r58 =>
          (Option.bind (F_spellsNumber M r58) (fun m61 =>
            k (0, [x1, x2, (gw32 (x3 + 1))], m61))))))
    else
      (Option.bind (F_spells M 58) (fun m73 =>
        k (1, [x1, x2, 0], m73))))
  else none) := by
  simp only [st_spelt, gWk_ite, gWk_bind, gWk_inl, gWk_inr, gWk_none]
theorem sk_spelt_78 (k : Nat × List Int × gM → Option (Int × gM)) (M : gM) (x1 x2 x3 : Int) : gWk k (st_spelt (1, [x1, x2, x3], M)) = (if 0 ≤ x1 ∧ x1 < 123 then
    (if x3 < (M 718 x1) then
      (if (0 : Int) < x3 then
        (Option.bind (F_spells M 59) (fun m95 =>
          (Option.bind (F_spellsFile m95 x1 x3) (fun m101 =>
            k (1, [x1, x2, (gw32 (x3 + 1))], m101)))))
      else
        (Option.bind (F_spellsFile M x1 x3) (fun m101 =>
          k (1, [x1, x2, (gw32 (x3 + 1))], m101))))
    else
      (Option.bind (F_spells M 58) (fun m113 =>
        k (2, [x1, x2, 0], m113))))
  else none) := by
  simp only [st_spelt, gWk_ite, gWk_bind, gWk_inl, gWk_inr, gWk_none]
theorem sk_spelt_118 (k : Nat × List Int × gM → Option (Int × gM)) (M : gM) (x1 x2 x3 : Int) : gWk k (st_spelt (2, [x1, x2, x3], M)) = (if 0 ≤ x1 ∧ x1 < 120 then
    (if x3 < (M 716 x1) then
      (if 0 ≤ (gw32 ((gw32 ((24 : Int) * x1)) + x3)) ∧ (gw32 ((gw32 ((24 : Int) * x1)) + x3)) < 2880 then
        (Option.bind (F_spells M (M 717 (gw32 ((gw32 ((24 : Int) * x1)) + x3)))) (fun m140 =>
          k (2, [x1, x2, (gw32 (x3 + 1))], m140)))
      else none)
    else
      some ((M 711 51), M))
  else none) := by
  simp only [st_spelt, gWk_ite, gWk_bind, gWk_inl, gWk_inr, gWk_none]
noncomputable def F_spelt_34 (M : gM) (x1 x2 x3 : Int) : Option (Int × gM) := gWh (st_spelt) (0, [x1, x2, x3], M)
noncomputable def F_spelt_78 (M : gM) (x1 x2 x3 : Int) : Option (Int × gM) := gWh (st_spelt) (1, [x1, x2, x3], M)
noncomputable def F_spelt_118 (M : gM) (x1 x2 x3 : Int) : Option (Int × gM) := gWh (st_spelt) (2, [x1, x2, x3], M)
theorem eq_spelt_34 (M : gM) (x1 x2 x3 : Int) : F_spelt_34 M x1 x2 x3 = (if 0 ≤ x1 ∧ x1 < 120 then
    (if x3 < (M 712 x1) then
      (if (0 : Int) < x3 then
        (Option.bind (F_spells M 44) (fun m51 =>
          (Option.bind (F_parentAt m51 x1 x3) (fun r58 =>
            (Option.bind (F_spellsNumber m51 r58) (fun m61 =>
              F_spelt_34 m61 x1 x2 (gw32 (x3 + 1))))))))
      else
        (Option.bind (F_parentAt M x1 x3) (fun r58 =>
          (Option.bind (F_spellsNumber M r58) (fun m61 =>
            F_spelt_34 m61 x1 x2 (gw32 (x3 + 1)))))))
    else
      (Option.bind (F_spells M 58) (fun m73 =>
        F_spelt_78 m73 x1 x2 0)))
  else none) := (gWh_eq _).trans (sk_spelt_34 _ M x1 x2 x3)
theorem eq_spelt_78 (M : gM) (x1 x2 x3 : Int) : F_spelt_78 M x1 x2 x3 = (if 0 ≤ x1 ∧ x1 < 123 then
    (if x3 < (M 718 x1) then
      (if (0 : Int) < x3 then
        (Option.bind (F_spells M 59) (fun m95 =>
          (Option.bind (F_spellsFile m95 x1 x3) (fun m101 =>
            F_spelt_78 m101 x1 x2 (gw32 (x3 + 1))))))
      else
        (Option.bind (F_spellsFile M x1 x3) (fun m101 =>
          F_spelt_78 m101 x1 x2 (gw32 (x3 + 1)))))
    else
      (Option.bind (F_spells M 58) (fun m113 =>
        F_spelt_118 m113 x1 x2 0)))
  else none) := (gWh_eq _).trans (sk_spelt_78 _ M x1 x2 x3)
theorem eq_spelt_118 (M : gM) (x1 x2 x3 : Int) : F_spelt_118 M x1 x2 x3 = (if 0 ≤ x1 ∧ x1 < 120 then
    (if x3 < (M 716 x1) then
      (if 0 ≤ (gw32 ((gw32 ((24 : Int) * x1)) + x3)) ∧ (gw32 ((gw32 ((24 : Int) * x1)) + x3)) < 2880 then
        (Option.bind (F_spells M (M 717 (gw32 ((gw32 ((24 : Int) * x1)) + x3)))) (fun m140 =>
          F_spelt_118 m140 x1 x2 (gw32 (x3 + 1))))
      else none)
    else
      some ((M 711 51), M))
  else none) := (gWh_eq _).trans (sk_spelt_118 _ M x1 x2 x3)
noncomputable def F_spelt (M : gM) (a1 a2 : Int) : Option (Int × gM) := (Option.bind (F_isCommit M a1) (fun r2 =>
    (if r2 = 0 then
      some (-1, M)
    else
      (Option.bind (F_in a2 0 599) (fun r13 =>
        (if r13 = 0 then
          some (-1, M)
        else
          F_spelt_34 (gU (gU M 711 50 a2) 711 51 (-2)) a1 a2 0))))))
theorem eq_spelt (M : gM) (a1 a2 : Int) : F_spelt M a1 a2 = (Option.bind (F_isCommit M a1) (fun r2 =>
    (if r2 = 0 then
      some (-1, M)
    else
      (Option.bind (F_in a2 0 599) (fun r13 =>
        (if r13 = 0 then
          some (-1, M)
        else
          F_spelt_34 (gU (gU M 711 50 a2) 711 51 (-2)) a1 a2 0)))))) := rfl
theorem frp_spelt : ∀ (s : Nat × List Int × gM) (b : Int × gM), gWh (st_spelt) s = some b → (∀ (x1 x2 x3 : Int) (M : gM), s = (0, [x1, x2, x3], M) → gFr [] [50, 51] M b.2) ∧ (∀ (x1 x2 x3 : Int) (M : gM), s = (1, [x1, x2, x3], M) → gFr [] [50, 51] M b.2) ∧ (∀ (x1 x2 x3 : Int) (M : gM), s = (2, [x1, x2, x3], M) → gFr [] [50, 51] M b.2) := by
  refine gWh_ind (fun k hk s b h => ⟨?_, ?_, ?_⟩)
  · rintro x1 x2 x3 M rfl
    rw [sk_spelt_34] at h
    obtain ⟨g1, h⟩ := gI_gd h
    rcases gI_or h with h | h
    · rcases gI_or h with h | h
      · obtain ⟨m51, e51, h⟩ := gI_bd h
        obtain ⟨r58, e58, h⟩ := gI_bd h
        obtain ⟨m61, e61, h⟩ := gI_bd h
        exact gFr_t (gFr_t (gFr_t (gFr_r [] [50, 51] _) (fr_spells (b := m51) e51) (by first | decide | simp) (by decide)) (fr_spellsNumber (b := m61) e61) (by first | decide | simp) (by decide)) ((hk _ _ h).1 _ _ _ _ rfl) (fun _ z => z) (fun _ z => z)
      · obtain ⟨r58, e58, h⟩ := gI_bd h
        obtain ⟨m61, e61, h⟩ := gI_bd h
        exact gFr_t (gFr_t (gFr_r [] [50, 51] _) (fr_spellsNumber (b := m61) e61) (by first | decide | simp) (by decide)) ((hk _ _ h).1 _ _ _ _ rfl) (fun _ z => z) (fun _ z => z)
    · obtain ⟨m73, e73, h⟩ := gI_bd h
      exact gFr_t (gFr_t (gFr_r [] [50, 51] _) (fr_spells (b := m73) e73) (by first | decide | simp) (by decide)) ((hk _ _ h).2.1 _ _ _ _ rfl) (fun _ z => z) (fun _ z => z)
  · rintro x1 x2 x3 M rfl
    rw [sk_spelt_78] at h
    obtain ⟨g6, h⟩ := gI_gd h
    rcases gI_or h with h | h
    · rcases gI_or h with h | h
      · obtain ⟨m95, e95, h⟩ := gI_bd h
        obtain ⟨m101, e101, h⟩ := gI_bd h
        exact gFr_t (gFr_t (gFr_t (gFr_r [] [50, 51] _) (fr_spells (b := m95) e95) (by first | decide | simp) (by decide)) (fr_spellsFile (b := m101) e101) (by first | decide | simp) (by decide)) ((hk _ _ h).2.1 _ _ _ _ rfl) (fun _ z => z) (fun _ z => z)
      · obtain ⟨m101, e101, h⟩ := gI_bd h
        exact gFr_t (gFr_t (gFr_r [] [50, 51] _) (fr_spellsFile (b := m101) e101) (by first | decide | simp) (by decide)) ((hk _ _ h).2.1 _ _ _ _ rfl) (fun _ z => z) (fun _ z => z)
    · obtain ⟨m113, e113, h⟩ := gI_bd h
      exact gFr_t (gFr_t (gFr_r [] [50, 51] _) (fr_spells (b := m113) e113) (by first | decide | simp) (by decide)) ((hk _ _ h).2.2 _ _ _ _ rfl) (fun _ z => z) (fun _ z => z)
  · rintro x1 x2 x3 M rfl
    rw [sk_spelt_118] at h
    obtain ⟨g11, h⟩ := gI_gd h
    rcases gI_or h with h | h
    · obtain ⟨g12, h⟩ := gI_gd h
      obtain ⟨m140, e140, h⟩ := gI_bd h
      exact gFr_t (gFr_t (gFr_r [] [50, 51] _) (fr_spells (b := m140) e140) (by first | decide | simp) (by decide)) ((hk _ _ h).2.2 _ _ _ _ rfl) (fun _ z => z) (fun _ z => z)
    · rw [← Option.some.inj h]
      exact (gFr_r [] [50, 51] _)
theorem fr_spelt_34 {M : gM} {x1 x2 x3 : Int} {b : Int × gM} (h : F_spelt_34 M x1 x2 x3 = some b) : gFr [] [50, 51] M b.2 :=
  (frp_spelt _ _ h).1 _ _ _ _ rfl
theorem fr_spelt_78 {M : gM} {x1 x2 x3 : Int} {b : Int × gM} (h : F_spelt_78 M x1 x2 x3 = some b) : gFr [] [50, 51] M b.2 :=
  (frp_spelt _ _ h).2.1 _ _ _ _ rfl
theorem fr_spelt_118 {M : gM} {x1 x2 x3 : Int} {b : Int × gM} (h : F_spelt_118 M x1 x2 x3 = some b) : gFr [] [50, 51] M b.2 :=
  (frp_spelt _ _ h).2.2 _ _ _ _ rfl
theorem fr_spelt {M : gM} {a1 a2 : Int} {b : Int × gM} (h : F_spelt M a1 a2 = some b) : gFr [] [50, 51] M b.2 := by
  rw [eq_spelt] at h
  obtain ⟨r2, e2, h⟩ := gI_bd h
  rcases gI_or h with h | h
  · rw [← Option.some.inj h]
    exact (gFr_r [] [50, 51] _)
  · obtain ⟨r13, e13, h⟩ := gI_bd h
    rcases gI_or h with h | h
    · rw [← Option.some.inj h]
      exact (gFr_r [] [50, 51] _)
    · exact gFr_t (gFr_f (gFr_f (gFr_r [] [50, 51] _) (.head _)) (.tail _ (.head _))) (fr_spelt_34 h) (fun _ z => z) (fun _ z => z)
theorem okp_spelt {sh : gS} : ∀ (s : Nat × List Int × gM) (b : Int × gM), gWh (st_spelt) s = some b → (∀ (x1 x2 x3 : Int) (M : gM), s = (0, [x1, x2, x3], M) → gOK sh M → gA (gr 3 67) yX12_spelt cX12_spelt 4 (some (.int)) (gPq sh (some (0, b.1)) b.2) (0, 0) 34 [(4, 711), (0, x1), (0, x2), (0, x3)] [] sh M) ∧ (∀ (x1 x2 x3 : Int) (M : gM), s = (1, [x1, x2, x3], M) → gOK sh M → gA (gr 3 67) yX12_spelt cX12_spelt 4 (some (.int)) (gPq sh (some (0, b.1)) b.2) (0, 0) 78 [(4, 711), (0, x1), (0, x2), (0, x3)] [] sh M) ∧ (∀ (x1 x2 x3 : Int) (M : gM), s = (2, [x1, x2, x3], M) → gOK sh M → gA (gr 3 67) yX12_spelt cX12_spelt 4 (some (.int)) (gPq sh (some (0, b.1)) b.2) (0, 0) 118 [(4, 711), (0, x1), (0, x2), (0, x3)] [] sh M) := by
  refine gWh_ind (fun k hk s b h => ⟨?_, ?_, ?_⟩)
  · rintro x1 x2 x3 M rfl hOK
    rw [sk_spelt_34] at h
    refine g_iload_n (q0 := 35) (j := 3) rfl dX12_spelt_34 rfl ?_
    refine g_aload_n (q0 := 36) (j := 0) rfl dX12_spelt_35 rfl ?_
    refine g_getp (q0 := 39) (b := 712) rfl ff_X12_7 dX12_spelt_36 rfl hOK (by decide) (sh_711 hOK) rfl (by decide) ?_
    refine g_iload_n (q0 := 40) (j := 1) rfl dX12_spelt_39 rfl ?_
    obtain ⟨g1, h⟩ := gI_gd h
    refine g_iald (q0 := 41) rfl dX12_spelt_40 (sh_712 hOK) g1.1 g1.2 ?_
    refine g_icmp_ge (q0 := 44) (tgt := 70) rfl dX12_spelt_41 (by decide) (fun h41 => ?_) (fun h41 => ?_)
    · replace h := gI_neg (Int.not_lt.mpr h41) h
      refine g_aload_n (q0 := 71) (j := 0) rfl dX12_spelt_70 rfl ?_
      refine g_bipush (q0 := 73) rfl dX12_spelt_71 (k := ?_)
      obtain ⟨m73, e73, h⟩ := gI_bd h
      refine g_callVq0 (as := [_]) (rest := []) mt_X12_spells mi_X12_spells se_X12_spells ml_X12_668 dX12_spelt_73 (q0 := 76) rfl rfl (sh_711 hOK) rfl rfl (ok_spells hOK e73) rfl ⟨by decide, by decide⟩ (Nat.le_of_ble_eq_true rfl) ⟨Nat.zero_le _, Nat.zero_le _⟩ ?_
      have hOK2 : gOK sh m73 := gOK_fr hOK (fr_spells (b := m73) e73) (by first | decide | (intro a ha; simp only [List.mem_cons, List.not_mem_nil, or_false] at ha; omega)) (by decide)
      refine g_iconst (q0 := 77) rfl dX12_spelt_76 (k := ?_)
      refine g_istore_n (q0 := 78) (j := 3) (lv2 := [_, _, _, _]) rfl dX12_spelt_77 (by decide) rfl rfl ?_
      exact (hk _ _ h).2.1 _ _ _ _ rfl hOK2
    · replace h := gI_pos h41 h
      refine g_iload_n (q0 := 45) (j := 3) rfl dX12_spelt_44 rfl ?_
      refine g_if_le (q0 := 48) (tgt := 54) rfl dX12_spelt_45 (by decide) (fun h45 => ?_) (fun h45 => ?_)
      · replace h := gI_neg (Int.not_lt.mpr h45) h
        refine g_aload_n (q0 := 55) (j := 0) rfl dX12_spelt_54 rfl ?_
        refine g_aload_n (q0 := 56) (j := 0) rfl dX12_spelt_55 rfl ?_
        refine g_iload_n (q0 := 57) (j := 1) rfl dX12_spelt_56 rfl ?_
        refine g_iload_n (q0 := 58) (j := 3) rfl dX12_spelt_57 rfl ?_
        obtain ⟨r58, e58, h⟩ := gI_bd h
        refine g_callVq1 (as := [_, _]) (rest := [_]) mt_X12_parentAt mi_X12_parentAt se_X12_parentAt ml_X12_192 dX12_spelt_58 (q0 := 61) rfl rfl (sh_711 hOK) rfl rfl (ok_parentAt hOK e58) rfl ⟨by decide, by decide⟩ (Nat.le_of_ble_eq_true rfl) ⟨Nat.zero_le _, Nat.zero_le _⟩ ?_
        obtain ⟨m61, e61, h⟩ := gI_bd h
        refine g_callVq0 (as := [_]) (rest := []) mt_X12_spellsNumber mi_X12_spellsNumber se_X12_spellsNumber ml_X12_671 dX12_spelt_61 (q0 := 64) rfl rfl (sh_711 hOK) rfl rfl (ok_spellsNumber hOK e61) rfl ⟨by decide, by decide⟩ (Nat.le_of_ble_eq_true rfl) ⟨Nat.zero_le _, Nat.zero_le _⟩ ?_
        have hOK3 : gOK sh m61 := gOK_fr hOK (fr_spellsNumber (b := m61) e61) (by first | decide | (intro a ha; simp only [List.mem_cons, List.not_mem_nil, or_false] at ha; omega)) (by decide)
        refine g_iincw (q0 := 67) (lv2 := [_, _, _, _]) rfl dX12_spelt_64 rfl (by decide) rfl rfl ?_
        refine g_goto (tgt := 34) dX12_spelt_67 (by decide) ?_
        exact (hk _ _ h).1 _ _ _ _ rfl hOK3
      · replace h := gI_pos h45 h
        refine g_aload_n (q0 := 49) (j := 0) rfl dX12_spelt_48 rfl ?_
        refine g_bipush (q0 := 51) rfl dX12_spelt_49 (k := ?_)
        obtain ⟨m51, e51, h⟩ := gI_bd h
        refine g_callVq0 (as := [_]) (rest := []) mt_X12_spells mi_X12_spells se_X12_spells ml_X12_668 dX12_spelt_51 (q0 := 54) rfl rfl (sh_711 hOK) rfl rfl (ok_spells hOK e51) rfl ⟨by decide, by decide⟩ (Nat.le_of_ble_eq_true rfl) ⟨Nat.zero_le _, Nat.zero_le _⟩ ?_
        have hOK4 : gOK sh m51 := gOK_fr hOK (fr_spells (b := m51) e51) (by first | decide | (intro a ha; simp only [List.mem_cons, List.not_mem_nil, or_false] at ha; omega)) (by decide)
        refine g_aload_n (q0 := 55) (j := 0) rfl dX12_spelt_54 rfl ?_
        refine g_aload_n (q0 := 56) (j := 0) rfl dX12_spelt_55 rfl ?_
        refine g_iload_n (q0 := 57) (j := 1) rfl dX12_spelt_56 rfl ?_
        refine g_iload_n (q0 := 58) (j := 3) rfl dX12_spelt_57 rfl ?_
        obtain ⟨r58, e58, h⟩ := gI_bd h
        refine g_callVq1 (as := [_, _]) (rest := [_]) mt_X12_parentAt mi_X12_parentAt se_X12_parentAt ml_X12_192 dX12_spelt_58 (q0 := 61) rfl rfl (sh_711 hOK4) rfl rfl (ok_parentAt hOK4 e58) rfl ⟨by decide, by decide⟩ (Nat.le_of_ble_eq_true rfl) ⟨Nat.zero_le _, Nat.zero_le _⟩ ?_
        obtain ⟨m61, e61, h⟩ := gI_bd h
        refine g_callVq0 (as := [_]) (rest := []) mt_X12_spellsNumber mi_X12_spellsNumber se_X12_spellsNumber ml_X12_671 dX12_spelt_61 (q0 := 64) rfl rfl (sh_711 hOK4) rfl rfl (ok_spellsNumber hOK4 e61) rfl ⟨by decide, by decide⟩ (Nat.le_of_ble_eq_true rfl) ⟨Nat.zero_le _, Nat.zero_le _⟩ ?_
        have hOK5 : gOK sh m61 := gOK_fr hOK4 (fr_spellsNumber (b := m61) e61) (by first | decide | (intro a ha; simp only [List.mem_cons, List.not_mem_nil, or_false] at ha; omega)) (by decide)
        refine g_iincw (q0 := 67) (lv2 := [_, _, _, _]) rfl dX12_spelt_64 rfl (by decide) rfl rfl ?_
        refine g_goto (tgt := 34) dX12_spelt_67 (by decide) ?_
        exact (hk _ _ h).1 _ _ _ _ rfl hOK5
  · rintro x1 x2 x3 M rfl hOK
    rw [sk_spelt_78] at h
    refine g_iload_n (q0 := 79) (j := 3) rfl dX12_spelt_78 rfl ?_
    refine g_aload_n (q0 := 80) (j := 0) rfl dX12_spelt_79 rfl ?_
    refine g_getp (q0 := 83) (b := 718) rfl ff_X12_28 dX12_spelt_80 rfl hOK (by decide) (sh_711 hOK) rfl (by decide) ?_
    refine g_iload_n (q0 := 84) (j := 1) rfl dX12_spelt_83 rfl ?_
    obtain ⟨g6, h⟩ := gI_gd h
    refine g_iald (q0 := 85) rfl dX12_spelt_84 (sh_718 hOK) g6.1 g6.2 ?_
    refine g_icmp_ge (q0 := 88) (tgt := 110) rfl dX12_spelt_85 (by decide) (fun h85 => ?_) (fun h85 => ?_)
    · replace h := gI_neg (Int.not_lt.mpr h85) h
      refine g_aload_n (q0 := 111) (j := 0) rfl dX12_spelt_110 rfl ?_
      refine g_bipush (q0 := 113) rfl dX12_spelt_111 (k := ?_)
      obtain ⟨m113, e113, h⟩ := gI_bd h
      refine g_callVq0 (as := [_]) (rest := []) mt_X12_spells mi_X12_spells se_X12_spells ml_X12_668 dX12_spelt_113 (q0 := 116) rfl rfl (sh_711 hOK) rfl rfl (ok_spells hOK e113) rfl ⟨by decide, by decide⟩ (Nat.le_of_ble_eq_true rfl) ⟨Nat.zero_le _, Nat.zero_le _⟩ ?_
      have hOK7 : gOK sh m113 := gOK_fr hOK (fr_spells (b := m113) e113) (by first | decide | (intro a ha; simp only [List.mem_cons, List.not_mem_nil, or_false] at ha; omega)) (by decide)
      refine g_iconst (q0 := 117) rfl dX12_spelt_116 (k := ?_)
      refine g_istore_n (q0 := 118) (j := 3) (lv2 := [_, _, _, _]) rfl dX12_spelt_117 (by decide) rfl rfl ?_
      exact (hk _ _ h).2.2 _ _ _ _ rfl hOK7
    · replace h := gI_pos h85 h
      refine g_iload_n (q0 := 89) (j := 3) rfl dX12_spelt_88 rfl ?_
      refine g_if_le (q0 := 92) (tgt := 98) rfl dX12_spelt_89 (by decide) (fun h89 => ?_) (fun h89 => ?_)
      · replace h := gI_neg (Int.not_lt.mpr h89) h
        refine g_aload_n (q0 := 99) (j := 0) rfl dX12_spelt_98 rfl ?_
        refine g_iload_n (q0 := 100) (j := 1) rfl dX12_spelt_99 rfl ?_
        refine g_iload_n (q0 := 101) (j := 3) rfl dX12_spelt_100 rfl ?_
        obtain ⟨m101, e101, h⟩ := gI_bd h
        refine g_callVq0 (as := [_, _]) (rest := []) mt_X12_spellsFile mi_X12_spellsFile se_X12_spellsFile ml_X12_674 dX12_spelt_101 (q0 := 104) rfl rfl (sh_711 hOK) rfl rfl (ok_spellsFile hOK e101) rfl ⟨by decide, by decide⟩ (Nat.le_of_ble_eq_true rfl) ⟨Nat.zero_le _, Nat.zero_le _⟩ ?_
        have hOK8 : gOK sh m101 := gOK_fr hOK (fr_spellsFile (b := m101) e101) (by first | decide | (intro a ha; simp only [List.mem_cons, List.not_mem_nil, or_false] at ha; omega)) (by decide)
        refine g_iincw (q0 := 107) (lv2 := [_, _, _, _]) rfl dX12_spelt_104 rfl (by decide) rfl rfl ?_
        refine g_goto (tgt := 78) dX12_spelt_107 (by decide) ?_
        exact (hk _ _ h).2.1 _ _ _ _ rfl hOK8
      · replace h := gI_pos h89 h
        refine g_aload_n (q0 := 93) (j := 0) rfl dX12_spelt_92 rfl ?_
        refine g_bipush (q0 := 95) rfl dX12_spelt_93 (k := ?_)
        obtain ⟨m95, e95, h⟩ := gI_bd h
        refine g_callVq0 (as := [_]) (rest := []) mt_X12_spells mi_X12_spells se_X12_spells ml_X12_668 dX12_spelt_95 (q0 := 98) rfl rfl (sh_711 hOK) rfl rfl (ok_spells hOK e95) rfl ⟨by decide, by decide⟩ (Nat.le_of_ble_eq_true rfl) ⟨Nat.zero_le _, Nat.zero_le _⟩ ?_
        have hOK9 : gOK sh m95 := gOK_fr hOK (fr_spells (b := m95) e95) (by first | decide | (intro a ha; simp only [List.mem_cons, List.not_mem_nil, or_false] at ha; omega)) (by decide)
        refine g_aload_n (q0 := 99) (j := 0) rfl dX12_spelt_98 rfl ?_
        refine g_iload_n (q0 := 100) (j := 1) rfl dX12_spelt_99 rfl ?_
        refine g_iload_n (q0 := 101) (j := 3) rfl dX12_spelt_100 rfl ?_
        obtain ⟨m101, e101, h⟩ := gI_bd h
        refine g_callVq0 (as := [_, _]) (rest := []) mt_X12_spellsFile mi_X12_spellsFile se_X12_spellsFile ml_X12_674 dX12_spelt_101 (q0 := 104) rfl rfl (sh_711 hOK9) rfl rfl (ok_spellsFile hOK9 e101) rfl ⟨by decide, by decide⟩ (Nat.le_of_ble_eq_true rfl) ⟨Nat.zero_le _, Nat.zero_le _⟩ ?_
        have hOK10 : gOK sh m101 := gOK_fr hOK9 (fr_spellsFile (b := m101) e101) (by first | decide | (intro a ha; simp only [List.mem_cons, List.not_mem_nil, or_false] at ha; omega)) (by decide)
        refine g_iincw (q0 := 107) (lv2 := [_, _, _, _]) rfl dX12_spelt_104 rfl (by decide) rfl rfl ?_
        refine g_goto (tgt := 78) dX12_spelt_107 (by decide) ?_
        exact (hk _ _ h).2.1 _ _ _ _ rfl hOK10
  · rintro x1 x2 x3 M rfl hOK
    rw [sk_spelt_118] at h
    refine g_iload_n (q0 := 119) (j := 3) rfl dX12_spelt_118 rfl ?_
    refine g_aload_n (q0 := 120) (j := 0) rfl dX12_spelt_119 rfl ?_
    refine g_getp (q0 := 123) (b := 716) rfl ff_X12_22 dX12_spelt_120 rfl hOK (by decide) (sh_711 hOK) rfl (by decide) ?_
    refine g_iload_n (q0 := 124) (j := 1) rfl dX12_spelt_123 rfl ?_
    obtain ⟨g11, h⟩ := gI_gd h
    refine g_iald (q0 := 125) rfl dX12_spelt_124 (sh_716 hOK) g11.1 g11.2 ?_
    refine g_icmp_ge (q0 := 128) (tgt := 149) rfl dX12_spelt_125 (by decide) (fun h125 => ?_) (fun h125 => ?_)
    · replace h := gI_neg (Int.not_lt.mpr h125) h
      refine g_aload_n (q0 := 150) (j := 0) rfl dX12_spelt_149 rfl ?_
      refine g_getf (q0 := 153) (t := 0) (fi := 51) rfl rfl ff_X12_665 dX12_spelt_150 rfl (sh_711 hOK) ?_
      rw [← Option.some.inj h]
      refine g_ireturn dX12_spelt_153 rfl ⟨Nat.zero_le _, Nat.zero_le _⟩ ?_
      exact ⟨rfl, rfl, rfl⟩
    · replace h := gI_pos h125 h
      refine g_aload_n (q0 := 129) (j := 0) rfl dX12_spelt_128 rfl ?_
      refine g_aload_n (q0 := 130) (j := 0) rfl dX12_spelt_129 rfl ?_
      refine g_getp (q0 := 133) (b := 717) rfl ff_X12_25 dX12_spelt_130 rfl hOK (by decide) (sh_711 hOK) rfl (by decide) ?_
      refine g_bipush (q0 := 135) rfl dX12_spelt_133 (k := ?_)
      refine g_iload_n (q0 := 136) (j := 1) rfl dX12_spelt_135 rfl ?_
      refine g_imulw (q0 := 137) rfl dX12_spelt_136 ?_
      refine g_iload_n (q0 := 138) (j := 3) rfl dX12_spelt_137 rfl ?_
      refine g_iaddw (q0 := 139) rfl dX12_spelt_138 ?_
      obtain ⟨g12, h⟩ := gI_gd h
      refine g_iald (q0 := 140) rfl dX12_spelt_139 (sh_717 hOK) g12.1 g12.2 ?_
      obtain ⟨m140, e140, h⟩ := gI_bd h
      refine g_callVq0 (as := [_]) (rest := []) mt_X12_spells mi_X12_spells se_X12_spells ml_X12_668 dX12_spelt_140 (q0 := 143) rfl rfl (sh_711 hOK) rfl rfl (ok_spells hOK e140) rfl ⟨by decide, by decide⟩ (Nat.le_of_ble_eq_true rfl) ⟨Nat.zero_le _, Nat.zero_le _⟩ ?_
      have hOK13 : gOK sh m140 := gOK_fr hOK (fr_spells (b := m140) e140) (by first | decide | (intro a ha; simp only [List.mem_cons, List.not_mem_nil, or_false] at ha; omega)) (by decide)
      refine g_iincw (q0 := 146) (lv2 := [_, _, _, _]) rfl dX12_spelt_143 rfl (by decide) rfl rfl ?_
      refine g_goto (tgt := 118) dX12_spelt_146 (by decide) ?_
      exact (hk _ _ h).2.2 _ _ _ _ rfl hOK13
theorem ok_spelt_34 {sh : gS} {M : gM} {x1 x2 x3 : Int} {b : Int × gM} (hOK : gOK sh M) (h : F_spelt_34 M x1 x2 x3 = some b) : gA (gr 3 67) yX12_spelt cX12_spelt 4 (some (.int)) (gPq sh (some (0, b.1)) b.2) (0, 0) 34 [(4, 711), (0, x1), (0, x2), (0, x3)] [] sh M :=
  (okp_spelt _ _ h).1 _ _ _ _ rfl hOK
theorem ok_spelt_78 {sh : gS} {M : gM} {x1 x2 x3 : Int} {b : Int × gM} (hOK : gOK sh M) (h : F_spelt_78 M x1 x2 x3 = some b) : gA (gr 3 67) yX12_spelt cX12_spelt 4 (some (.int)) (gPq sh (some (0, b.1)) b.2) (0, 0) 78 [(4, 711), (0, x1), (0, x2), (0, x3)] [] sh M :=
  (okp_spelt _ _ h).2.1 _ _ _ _ rfl hOK
theorem ok_spelt_118 {sh : gS} {M : gM} {x1 x2 x3 : Int} {b : Int × gM} (hOK : gOK sh M) (h : F_spelt_118 M x1 x2 x3 = some b) : gA (gr 3 67) yX12_spelt cX12_spelt 4 (some (.int)) (gPq sh (some (0, b.1)) b.2) (0, 0) 118 [(4, 711), (0, x1), (0, x2), (0, x3)] [] sh M :=
  (okp_spelt _ _ h).2.2 _ _ _ _ rfl hOK
theorem ok_spelt {sh : gS} {M : gM} {a1 a2 : Int} {b : Int × gM} (hOK : gOK sh M) (h : F_spelt M a1 a2 = some b) : gC (gr 3 67) yX12_spelt cX12_spelt 4 (some (.int)) [(4, 711), (0, a1), (0, a2)] sh M (gPq sh (some (0, b.1)) b.2) := by
  rw [eq_spelt] at h
  refine gC_ofA (lv := [_, _, _, _]) (by decide +kernel) (Nat.le_of_ble_eq_true rfl) rfl (fun hMw hav => ?_)
  refine g_aload_n (q0 := 1) (j := 0) rfl dX12_spelt_0 rfl ?_
  refine g_iload_n (q0 := 2) (j := 1) rfl dX12_spelt_1 rfl ?_
  obtain ⟨r2, e2, h⟩ := gI_bd h
  refine g_callVq1 (as := [_]) (rest := []) mt_X12_isCommit mi_X12_isCommit se_X12_isCommit ml_X12_229 dX12_spelt_2 (q0 := 5) rfl rfl (sh_711 hOK) rfl rfl (ok_isCommit hOK e2) rfl ⟨by decide, by decide⟩ (Nat.le_of_ble_eq_true rfl) ⟨Nat.zero_le _, Nat.zero_le _⟩ ?_
  refine g_if_eq (q0 := 8) (tgt := 19) rfl dX12_spelt_5 (by decide) (fun h5 => ?_) (fun h5 => ?_)
  · replace h := gI_pos h5 h
    refine g_iconst (q0 := 20) rfl dX12_spelt_19 (k := ?_)
    rw [← Option.some.inj h]
    refine g_ireturn dX12_spelt_20 rfl ⟨Nat.zero_le _, Nat.zero_le _⟩ ?_
    exact ⟨rfl, rfl, rfl⟩
  · replace h := gI_neg h5 h
    refine g_iload_n (q0 := 9) (j := 2) rfl dX12_spelt_8 rfl ?_
    refine g_iconst (q0 := 10) rfl dX12_spelt_9 (k := ?_)
    refine g_sipush (q0 := 13) rfl dX12_spelt_10 (k := ?_)
    obtain ⟨r13, e13, h⟩ := gI_bd h
    refine g_callSq1 (as := [_, _, _]) (rest := []) mt_X12_in ms_X12_in ml_X12_182 dX12_spelt_13 (q0 := 16) rfl rfl (ok_in hOK e13) rfl ⟨by decide, by decide⟩ (Nat.le_of_ble_eq_true rfl) ⟨Nat.zero_le _, Nat.zero_le _⟩ ?_
    refine g_if_ne (q0 := 19) (tgt := 21) rfl dX12_spelt_16 (by decide) (fun h16 => ?_) (fun h16 => ?_)
    · replace h := gI_neg h16 h
      refine g_aload_n (q0 := 22) (j := 0) rfl dX12_spelt_21 rfl ?_
      refine g_iload_n (q0 := 23) (j := 2) rfl dX12_spelt_22 rfl ?_
      refine g_put (q0 := 26) (t := 0) (fi := 50) rfl rfl ff_X12_662 dX12_spelt_23 rfl (sh_711 hOK) rfl (fun _ => ⟨rfl, rfl⟩) ?_
      have hOK14 : gOK sh (gU M 711 50 a2) := gOK_o hOK (sh_711 hOK) (f := 50) rfl rfl
      refine g_aload_n (q0 := 27) (j := 0) rfl dX12_spelt_26 rfl ?_
      refine g_bipush (q0 := 29) rfl dX12_spelt_27 (k := ?_)
      refine g_put (q0 := 32) (t := 0) (fi := 51) rfl rfl ff_X12_665 dX12_spelt_29 rfl (sh_711 hOK14) rfl (fun _ => ⟨rfl, rfl⟩) ?_
      have hOK15 : gOK sh (gU (gU M 711 50 a2) 711 51 (-2)) := gOK_o hOK14 (sh_711 hOK14) (f := 51) rfl rfl
      refine g_iconst (q0 := 33) rfl dX12_spelt_32 (k := ?_)
      refine g_istore_n (q0 := 34) (j := 3) (lv2 := [_, _, _, _]) rfl dX12_spelt_33 (by decide) rfl rfl ?_
      exact ok_spelt_34 hOK15 h
    · replace h := gI_pos h16 h
      refine g_iconst (q0 := 20) rfl dX12_spelt_19 (k := ?_)
      rw [← Option.some.inj h]
      refine g_ireturn dX12_spelt_20 rfl ⟨Nat.zero_le _, Nat.zero_le _⟩ ?_
      exact ⟨rfl, rfl, rfl⟩
-- ==== isNewEntry
theorem dX12_isNewEntry_0 : decode cX12_isNewEntry 0 = .ok (.bipush 25, 2) := by decide +kernel
theorem dX12_isNewEntry_2 : decode cX12_isNewEntry 2 = .ok (.iconst 5, 1) := by decide +kernel
theorem dX12_isNewEntry_3 : decode cX12_isNewEntry 3 = .ok (.iload_n 3, 1) := by decide +kernel
theorem dX12_isNewEntry_4 : decode cX12_isNewEntry 4 = .ok (.imul, 1) := by decide +kernel
theorem dX12_isNewEntry_5 : decode cX12_isNewEntry 5 = .ok (.isub, 1) := by decide +kernel
theorem dX12_isNewEntry_6 : decode cX12_isNewEntry 6 = .ok (.istore 4, 2) := by decide +kernel
theorem dX12_isNewEntry_8 : decode cX12_isNewEntry 8 = .ok (.iload_n 2, 1) := by decide +kernel
theorem dX12_isNewEntry_9 : decode cX12_isNewEntry 9 = .ok (.ifCond .eq 26, 3) := by decide +kernel
theorem dX12_isNewEntry_12 : decode cX12_isNewEntry 12 = .ok (.aload_n 0, 1) := by decide +kernel
theorem dX12_isNewEntry_13 : decode cX12_isNewEntry 13 = .ok (.iload_n 1, 1) := by decide +kernel
theorem dX12_isNewEntry_14 : decode cX12_isNewEntry 14 = .ok (.iload_n 2, 1) := by decide +kernel
theorem dX12_isNewEntry_15 : decode cX12_isNewEntry 15 = .ok (.iconst 1, 1) := by decide +kernel
theorem dX12_isNewEntry_16 : decode cX12_isNewEntry 16 = .ok (.isub, 1) := by decide +kernel
theorem dX12_isNewEntry_17 : decode cX12_isNewEntry 17 = .ok (.invokevirtual 162, 3) := by decide +kernel
theorem dX12_isNewEntry_20 : decode cX12_isNewEntry 20 = .ok (.iload 4, 2) := by decide +kernel
theorem dX12_isNewEntry_22 : decode cX12_isNewEntry 22 = .ok (.ishr, 1) := by decide +kernel
theorem dX12_isNewEntry_23 : decode cX12_isNewEntry 23 = .ok (.aload_n 0, 1) := by decide +kernel
theorem dX12_isNewEntry_24 : decode cX12_isNewEntry 24 = .ok (.iload_n 1, 1) := by decide +kernel
theorem dX12_isNewEntry_25 : decode cX12_isNewEntry 25 = .ok (.iload_n 2, 1) := by decide +kernel
theorem dX12_isNewEntry_26 : decode cX12_isNewEntry 26 = .ok (.invokevirtual 162, 3) := by decide +kernel
theorem dX12_isNewEntry_29 : decode cX12_isNewEntry 29 = .ok (.iload 4, 2) := by decide +kernel
theorem dX12_isNewEntry_31 : decode cX12_isNewEntry 31 = .ok (.ishr, 1) := by decide +kernel
theorem dX12_isNewEntry_32 : decode cX12_isNewEntry 32 = .ok (.if_icmp .eq 7, 3) := by decide +kernel
theorem dX12_isNewEntry_35 : decode cX12_isNewEntry 35 = .ok (.iconst 1, 1) := by decide +kernel
theorem dX12_isNewEntry_36 : decode cX12_isNewEntry 36 = .ok (.goto 4, 3) := by decide +kernel
theorem dX12_isNewEntry_39 : decode cX12_isNewEntry 39 = .ok (.iconst 0, 1) := by decide +kernel
theorem dX12_isNewEntry_40 : decode cX12_isNewEntry 40 = .ok (.ireturn, 1) := by decide +kernel
noncomputable def F_isNewEntry (M : gM) (a1 a2 a3 : Int) : Option (Int) := (if a2 = 0 then
    some 1
  else
    (Option.bind (F_pathAt M a1 (gw32 (a2 - (1 : Int)))) (fun r17 =>
      (Option.bind (F_pathAt M a1 a2) (fun r26 =>
        (if (gshr r17 (gw32 ((25 : Int) - (gw32 ((5 : Int) * a3))))) = (gshr r26 (gw32 ((25 : Int) - (gw32 ((5 : Int) * a3))))) then
          some 0
        else
          some 1))))))
theorem eq_isNewEntry (M : gM) (a1 a2 a3 : Int) : F_isNewEntry M a1 a2 a3 = (if a2 = 0 then
    some 1
  else
    (Option.bind (F_pathAt M a1 (gw32 (a2 - (1 : Int)))) (fun r17 =>
      (Option.bind (F_pathAt M a1 a2) (fun r26 =>
        (if (gshr r17 (gw32 ((25 : Int) - (gw32 ((5 : Int) * a3))))) = (gshr r26 (gw32 ((25 : Int) - (gw32 ((5 : Int) * a3))))) then
          some 0
        else
          some 1)))))) := rfl
theorem bo_isNewEntry {M : gM} {a1 a2 a3 : Int} {b : Int} (h : F_isNewEntry M a1 a2 a3 = some b) : b = 0 ∨ b = 1 := by
  rw [eq_isNewEntry] at h
  rcases gI_or h with h | h
  · rw [← Option.some.inj h]
    exact (Or.inr rfl)
  · obtain ⟨r17, e17, h⟩ := gI_bd h
    obtain ⟨r26, e26, h⟩ := gI_bd h
    rcases gI_or h with h | h
    · rw [← Option.some.inj h]
      exact (Or.inl rfl)
    · rw [← Option.some.inj h]
      exact (Or.inr rfl)
theorem ok_isNewEntry {sh : gS} {M : gM} {a1 a2 a3 : Int} {b : Int} (hOK : gOK sh M) (h : F_isNewEntry M a1 a2 a3 = some b) : gC (gr 2 42) yX12_isNewEntry cX12_isNewEntry 5 (some (.boolean)) [(4, 711), (0, a1), (0, a2), (0, a3)] sh M (gPq sh (some (0, b)) M) := by
  rw [eq_isNewEntry] at h
  refine gC_ofA (lv := [_, _, _, _, _]) (by decide +kernel) (Nat.le_of_ble_eq_true rfl) rfl (fun hMw hav => ?_)
  refine g_bipush (q0 := 2) rfl dX12_isNewEntry_0 (k := ?_)
  refine g_iconst (q0 := 3) rfl dX12_isNewEntry_2 (k := ?_)
  refine g_iload_n (q0 := 4) (j := 3) rfl dX12_isNewEntry_3 rfl ?_
  refine g_imulw (q0 := 5) rfl dX12_isNewEntry_4 ?_
  refine g_isubw (q0 := 6) rfl dX12_isNewEntry_5 ?_
  refine g_istore (q0 := 8) (j := 4) (lv2 := [_, _, _, _, _]) rfl dX12_isNewEntry_6 (by decide) rfl rfl ?_
  refine g_iload_n (q0 := 9) (j := 2) rfl dX12_isNewEntry_8 rfl ?_
  refine g_if_eq (q0 := 12) (tgt := 35) rfl dX12_isNewEntry_9 (by decide) (fun h9 => ?_) (fun h9 => ?_)
  · replace h := gI_pos h9 h
    refine g_iconst (q0 := 36) rfl dX12_isNewEntry_35 (k := ?_)
    refine g_goto (tgt := 40) dX12_isNewEntry_36 (by decide) ?_
    rw [← Option.some.inj h]
    refine g_zreturn dX12_isNewEntry_40 rfl (gnz (Or.inr rfl)) ⟨Nat.zero_le _, Nat.zero_le _⟩ ?_
    exact ⟨rfl, rfl, rfl⟩
  · replace h := gI_neg h9 h
    refine g_aload_n (q0 := 13) (j := 0) rfl dX12_isNewEntry_12 rfl ?_
    refine g_iload_n (q0 := 14) (j := 1) rfl dX12_isNewEntry_13 rfl ?_
    refine g_iload_n (q0 := 15) (j := 2) rfl dX12_isNewEntry_14 rfl ?_
    refine g_iconst (q0 := 16) rfl dX12_isNewEntry_15 (k := ?_)
    refine g_isubw (q0 := 17) rfl dX12_isNewEntry_16 ?_
    obtain ⟨r17, e17, h⟩ := gI_bd h
    refine g_callVq1 (as := [_, _]) (rest := []) mt_X12_pathAt mi_X12_pathAt se_X12_pathAt ml_X12_162 dX12_isNewEntry_17 (q0 := 20) rfl rfl (sh_711 hOK) rfl rfl (ok_pathAt hOK e17) rfl ⟨by decide, by decide⟩ (Nat.le_of_ble_eq_true rfl) ⟨Nat.zero_le _, Nat.zero_le _⟩ ?_
    refine g_iload (q0 := 22) (j := 4) rfl dX12_isNewEntry_20 rfl ?_
    refine g_ishr (q0 := 23) rfl dX12_isNewEntry_22 ?_
    refine g_aload_n (q0 := 24) (j := 0) rfl dX12_isNewEntry_23 rfl ?_
    refine g_iload_n (q0 := 25) (j := 1) rfl dX12_isNewEntry_24 rfl ?_
    refine g_iload_n (q0 := 26) (j := 2) rfl dX12_isNewEntry_25 rfl ?_
    obtain ⟨r26, e26, h⟩ := gI_bd h
    refine g_callVq1 (as := [_, _]) (rest := [_]) mt_X12_pathAt mi_X12_pathAt se_X12_pathAt ml_X12_162 dX12_isNewEntry_26 (q0 := 29) rfl rfl (sh_711 hOK) rfl rfl (ok_pathAt hOK e26) rfl ⟨by decide, by decide⟩ (Nat.le_of_ble_eq_true rfl) ⟨Nat.zero_le _, Nat.zero_le _⟩ ?_
    refine g_iload (q0 := 31) (j := 4) rfl dX12_isNewEntry_29 rfl ?_
    refine g_ishr (q0 := 32) rfl dX12_isNewEntry_31 ?_
    refine g_icmp_eq (q0 := 35) (tgt := 39) rfl dX12_isNewEntry_32 (by decide) (fun h32 => ?_) (fun h32 => ?_)
    · replace h := gI_pos h32 h
      refine g_iconst (q0 := 40) rfl dX12_isNewEntry_39 (k := ?_)
      rw [← Option.some.inj h]
      refine g_zreturn dX12_isNewEntry_40 rfl (gnz (Or.inl rfl)) ⟨Nat.zero_le _, Nat.zero_le _⟩ ?_
      exact ⟨rfl, rfl, rfl⟩
    · replace h := gI_neg h32 h
      refine g_iconst (q0 := 36) rfl dX12_isNewEntry_35 (k := ?_)
      refine g_goto (tgt := 40) dX12_isNewEntry_36 (by decide) ?_
      rw [← Option.some.inj h]
      refine g_zreturn dX12_isNewEntry_40 rfl (gnz (Or.inr rfl)) ⟨Nat.zero_le _, Nat.zero_le _⟩ ?_
      exact ⟨rfl, rfl, rfl⟩
-- ==== lookAt
theorem dX12_lookAt_0 : decode cX12_lookAt 0 = .ok (.aload_n 0, 1) := by decide +kernel
theorem dX12_lookAt_1 : decode cX12_lookAt 1 = .ok (.iload_n 1, 1) := by decide +kernel
theorem dX12_lookAt_2 : decode cX12_lookAt 2 = .ok (.iload_n 2, 1) := by decide +kernel
theorem dX12_lookAt_3 : decode cX12_lookAt 3 = .ok (.invokevirtual 303, 3) := by decide +kernel
theorem dX12_lookAt_6 : decode cX12_lookAt 6 = .ok (.istore 4, 2) := by decide +kernel
theorem dX12_lookAt_8 : decode cX12_lookAt 8 = .ok (.iload_n 3, 1) := by decide +kernel
theorem dX12_lookAt_9 : decode cX12_lookAt 9 = .ok (.ifCond .ne 6, 3) := by decide +kernel
theorem dX12_lookAt_12 : decode cX12_lookAt 12 = .ok (.iload 4, 2) := by decide +kernel
theorem dX12_lookAt_14 : decode cX12_lookAt 14 = .ok (.ireturn, 1) := by decide +kernel
theorem dX12_lookAt_15 : decode cX12_lookAt 15 = .ok (.iload_n 3, 1) := by decide +kernel
theorem dX12_lookAt_16 : decode cX12_lookAt 16 = .ok (.iconst 1, 1) := by decide +kernel
theorem dX12_lookAt_17 : decode cX12_lookAt 17 = .ok (.if_icmp .ne 10, 3) := by decide +kernel
theorem dX12_lookAt_20 : decode cX12_lookAt 20 = .ok (.aload_n 0, 1) := by decide +kernel
theorem dX12_lookAt_21 : decode cX12_lookAt 21 = .ok (.iload_n 1, 1) := by decide +kernel
theorem dX12_lookAt_22 : decode cX12_lookAt 22 = .ok (.iload_n 2, 1) := by decide +kernel
theorem dX12_lookAt_23 : decode cX12_lookAt 23 = .ok (.invokevirtual 175, 3) := by decide +kernel
theorem dX12_lookAt_26 : decode cX12_lookAt 26 = .ok (.ireturn, 1) := by decide +kernel
theorem dX12_lookAt_27 : decode cX12_lookAt 27 = .ok (.iload 4, 2) := by decide +kernel
theorem dX12_lookAt_29 : decode cX12_lookAt 29 = .ok (.iconst 2, 1) := by decide +kernel
theorem dX12_lookAt_30 : decode cX12_lookAt 30 = .ok (.if_icmp .eq 5, 3) := by decide +kernel
theorem dX12_lookAt_33 : decode cX12_lookAt 33 = .ok (.iconst 0, 1) := by decide +kernel
theorem dX12_lookAt_34 : decode cX12_lookAt 34 = .ok (.ireturn, 1) := by decide +kernel
theorem dX12_lookAt_35 : decode cX12_lookAt 35 = .ok (.iload_n 2, 1) := by decide +kernel
theorem dX12_lookAt_36 : decode cX12_lookAt 36 = .ok (.invokestatic 150, 3) := by decide +kernel
theorem dX12_lookAt_39 : decode cX12_lookAt 39 = .ok (.istore 5, 2) := by decide +kernel
theorem dX12_lookAt_41 : decode cX12_lookAt 41 = .ok (.iconst 0, 1) := by decide +kernel
theorem dX12_lookAt_42 : decode cX12_lookAt 42 = .ok (.istore 6, 2) := by decide +kernel
theorem dX12_lookAt_44 : decode cX12_lookAt 44 = .ok (.iconst 1, 1) := by decide +kernel
theorem dX12_lookAt_45 : decode cX12_lookAt 45 = .ok (.istore 7, 2) := by decide +kernel
theorem dX12_lookAt_47 : decode cX12_lookAt 47 = .ok (.iconst 0, 1) := by decide +kernel
theorem dX12_lookAt_48 : decode cX12_lookAt 48 = .ok (.istore 8, 2) := by decide +kernel
theorem dX12_lookAt_50 : decode cX12_lookAt 50 = .ok (.iload 8, 2) := by decide +kernel
theorem dX12_lookAt_52 : decode cX12_lookAt 52 = .ok (.aload_n 0, 1) := by decide +kernel
theorem dX12_lookAt_53 : decode cX12_lookAt 53 = .ok (.getfield 28, 3) := by decide +kernel
theorem dX12_lookAt_56 : decode cX12_lookAt 56 = .ok (.iload_n 1, 1) := by decide +kernel
theorem dX12_lookAt_57 : decode cX12_lookAt 57 = .ok (.iaload, 1) := by decide +kernel
theorem dX12_lookAt_58 : decode cX12_lookAt 58 = .ok (.if_icmp .ge 73, 3) := by decide +kernel
theorem dX12_lookAt_61 : decode cX12_lookAt 61 = .ok (.iload_n 2, 1) := by decide +kernel
theorem dX12_lookAt_62 : decode cX12_lookAt 62 = .ok (.aload_n 0, 1) := by decide +kernel
theorem dX12_lookAt_63 : decode cX12_lookAt 63 = .ok (.iload_n 1, 1) := by decide +kernel
theorem dX12_lookAt_64 : decode cX12_lookAt 64 = .ok (.iload 8, 2) := by decide +kernel
theorem dX12_lookAt_66 : decode cX12_lookAt 66 = .ok (.invokevirtual 162, 3) := by decide +kernel
theorem dX12_lookAt_69 : decode cX12_lookAt 69 = .ok (.invokestatic 154, 3) := by decide +kernel
theorem dX12_lookAt_72 : decode cX12_lookAt 72 = .ok (.ifCond .ne 6, 3) := by decide +kernel
theorem dX12_lookAt_75 : decode cX12_lookAt 75 = .ok (.goto 50, 3) := by decide +kernel
theorem dX12_lookAt_78 : decode cX12_lookAt 78 = .ok (.aload_n 0, 1) := by decide +kernel
theorem dX12_lookAt_79 : decode cX12_lookAt 79 = .ok (.iload_n 1, 1) := by decide +kernel
theorem dX12_lookAt_80 : decode cX12_lookAt 80 = .ok (.iload 8, 2) := by decide +kernel
theorem dX12_lookAt_82 : decode cX12_lookAt 82 = .ok (.iload 5, 2) := by decide +kernel
theorem dX12_lookAt_84 : decode cX12_lookAt 84 = .ok (.invokevirtual 677, 3) := by decide +kernel
theorem dX12_lookAt_87 : decode cX12_lookAt 87 = .ok (.ifCond .eq 9, 3) := by decide +kernel
theorem dX12_lookAt_90 : decode cX12_lookAt 90 = .ok (.iload 6, 2) := by decide +kernel
theorem dX12_lookAt_92 : decode cX12_lookAt 92 = .ok (.iconst 1, 1) := by decide +kernel
theorem dX12_lookAt_93 : decode cX12_lookAt 93 = .ok (.iadd, 1) := by decide +kernel
theorem dX12_lookAt_94 : decode cX12_lookAt 94 = .ok (.istore 6, 2) := by decide +kernel
theorem dX12_lookAt_96 : decode cX12_lookAt 96 = .ok (.iload 7, 2) := by decide +kernel
theorem dX12_lookAt_98 : decode cX12_lookAt 98 = .ok (.ifCond .eq 24, 3) := by decide +kernel
theorem dX12_lookAt_101 : decode cX12_lookAt 101 = .ok (.aload_n 0, 1) := by decide +kernel
theorem dX12_lookAt_102 : decode cX12_lookAt 102 = .ok (.iload_n 1, 1) := by decide +kernel
theorem dX12_lookAt_103 : decode cX12_lookAt 103 = .ok (.iload 8, 2) := by decide +kernel
theorem dX12_lookAt_105 : decode cX12_lookAt 105 = .ok (.invokevirtual 162, 3) := by decide +kernel
theorem dX12_lookAt_108 : decode cX12_lookAt 108 = .ok (.invokestatic 150, 3) := by decide +kernel
theorem dX12_lookAt_111 : decode cX12_lookAt 111 = .ok (.iload 5, 2) := by decide +kernel
theorem dX12_lookAt_113 : decode cX12_lookAt 113 = .ok (.iconst 1, 1) := by decide +kernel
theorem dX12_lookAt_114 : decode cX12_lookAt 114 = .ok (.iadd, 1) := by decide +kernel
theorem dX12_lookAt_115 : decode cX12_lookAt 115 = .ok (.if_icmp .ne 7, 3) := by decide +kernel
theorem dX12_lookAt_118 : decode cX12_lookAt 118 = .ok (.iconst 1, 1) := by decide +kernel
theorem dX12_lookAt_119 : decode cX12_lookAt 119 = .ok (.goto 4, 3) := by decide +kernel
theorem dX12_lookAt_122 : decode cX12_lookAt 122 = .ok (.iconst 0, 1) := by decide +kernel
theorem dX12_lookAt_123 : decode cX12_lookAt 123 = .ok (.istore 7, 2) := by decide +kernel
theorem dX12_lookAt_125 : decode cX12_lookAt 125 = .ok (.iinc 8 1, 3) := by decide +kernel
theorem dX12_lookAt_128 : decode cX12_lookAt 128 = .ok (.goto (-78), 3) := by decide +kernel
theorem dX12_lookAt_131 : decode cX12_lookAt 131 = .ok (.iload_n 3, 1) := by decide +kernel
theorem dX12_lookAt_132 : decode cX12_lookAt 132 = .ok (.iconst 2, 1) := by decide +kernel
theorem dX12_lookAt_133 : decode cX12_lookAt 133 = .ok (.if_icmp .ne 16, 3) := by decide +kernel
theorem dX12_lookAt_136 : decode cX12_lookAt 136 = .ok (.iload 7, 2) := by decide +kernel
theorem dX12_lookAt_138 : decode cX12_lookAt 138 = .ok (.ifCond .eq 7, 3) := by decide +kernel
theorem dX12_lookAt_141 : decode cX12_lookAt 141 = .ok (.iconst 1, 1) := by decide +kernel
theorem dX12_lookAt_142 : decode cX12_lookAt 142 = .ok (.goto 9, 3) := by decide +kernel
theorem dX12_lookAt_145 : decode cX12_lookAt 145 = .ok (.iconst 0, 1) := by decide +kernel
theorem dX12_lookAt_146 : decode cX12_lookAt 146 = .ok (.goto 5, 3) := by decide +kernel
theorem dX12_lookAt_149 : decode cX12_lookAt 149 = .ok (.iload 6, 2) := by decide +kernel
theorem dX12_lookAt_151 : decode cX12_lookAt 151 = .ok (.ireturn, 1) := by decide +kernel
noncomputable def st_lookAt (M : gM) : Nat × List Int → Option ((Nat × List Int) ⊕ (Int))
  | (0, [x1, x2, x3, x4, x5, x6, x7, x8]) => (if 0 ≤ x1 ∧ x1 < 123 then
      (if x8 < (M 718 x1) then
        (Option.bind (F_pathAt M x1 x8) (fun r66 =>
          (Option.bind (F_begins x2 r66) (fun r69 =>
            (if r69 = 0 then
              some (.inl (0, [x1, x2, x3, x4, x5, x6, x7, (gw32 (x8 + 1))]))
            else
              (Option.bind (F_isNewEntry M x1 x8 x5) (fun r84 =>
                (if r84 = 0 then
                  some (.inl (1, [x1, x2, x3, x4, x5, x6, x7, x8]))
                else
                  some (.inl (1, [x1, x2, x3, x4, x5, (gw32 (x6 + (1 : Int))), x7, x8]))))))))))
      else
        (if x3 = 2 then
          (if x7 = 0 then
            some (.inr 0)
          else
            some (.inr 1))
        else
          some (.inr x6)))
    else none)
  | (1, [x1, x2, x3, x4, x5, x6, x7, x8]) => (if x7 = 0 then
      some (.inl (0, [x1, x2, x3, x4, x5, x6, 0, (gw32 (x8 + 1))]))
    else
      (Option.bind (F_pathAt M x1 x8) (fun r105 =>
        (Option.bind (F_names r105) (fun r108 =>
          (if r108 = (gw32 (x5 + (1 : Int))) then
            some (.inl (0, [x1, x2, x3, x4, x5, x6, 1, (gw32 (x8 + 1))]))
          else
            some (.inl (0, [x1, x2, x3, x4, x5, x6, 0, (gw32 (x8 + 1))]))))))))
  | _ => none
theorem sk_lookAt_50 (k : Nat × List Int → Option (Int)) (M : gM) (x1 x2 x3 x4 x5 x6 x7 x8 : Int) : gWk k (st_lookAt M (0, [x1, x2, x3, x4, x5, x6, x7, x8])) = (if 0 ≤ x1 ∧ x1 < 123 then
    (if x8 < (M 718 x1) then
      (Option.bind (F_pathAt M x1 x8) (fun r66 =>
        (Option.bind (F_begins x2 r66) (fun r69 =>
          (if r69 = 0 then
            k (0, [x1, x2, x3, x4, x5, x6, x7, (gw32 (x8 + 1))])
          else
            (Option.bind (F_isNewEntry M x1 x8 x5) (fun r84 =>
              (if r84 = 0 then
                k (1, [x1, x2, x3, x4, x5, x6, x7, x8])
              else
                k (1, [x1, x2, x3, x4, x5, (gw32 (x6 + (1 : Int))), x7, x8])))))))))
    else
      (if x3 = 2 then
        (if x7 = 0 then
          some 0
        else
          some 1)
      else
        some x6))
  else none) := by
  simp only [st_lookAt, gWk_ite, gWk_bind, gWk_inl, gWk_inr, gWk_none]
theorem sk_lookAt_96 (k : Nat × List Int → Option (Int)) (M : gM) (x1 x2 x3 x4 x5 x6 x7 x8 : Int) : gWk k (st_lookAt M (1, [x1, x2, x3, x4, x5, x6, x7, x8])) = (if x7 = 0 then
    k (0, [x1, x2, x3, x4, x5, x6, 0, (gw32 (x8 + 1))])
  else
    (Option.bind (F_pathAt M x1 x8) (fun r105 =>
      (Option.bind (F_names r105) (fun r108 =>
        (if r108 = (gw32 (x5 + (1 : Int))) then
          k (0, [x1, x2, x3, x4, x5, x6, 1, (gw32 (x8 + 1))])
        else
          k (0, [x1, x2, x3, x4, x5, x6, 0, (gw32 (x8 + 1))]))))))) := by
  simp only [st_lookAt, gWk_ite, gWk_bind, gWk_inl, gWk_inr, gWk_none]
noncomputable def F_lookAt_50 (M : gM) (x1 x2 x3 x4 x5 x6 x7 x8 : Int) : Option (Int) := gWh (st_lookAt M) (0, [x1, x2, x3, x4, x5, x6, x7, x8])
noncomputable def F_lookAt_96 (M : gM) (x1 x2 x3 x4 x5 x6 x7 x8 : Int) : Option (Int) := gWh (st_lookAt M) (1, [x1, x2, x3, x4, x5, x6, x7, x8])
theorem eq_lookAt_50 (M : gM) (x1 x2 x3 x4 x5 x6 x7 x8 : Int) : F_lookAt_50 M x1 x2 x3 x4 x5 x6 x7 x8 = (if 0 ≤ x1 ∧ x1 < 123 then
    (if x8 < (M 718 x1) then
      (Option.bind (F_pathAt M x1 x8) (fun r66 =>
        (Option.bind (F_begins x2 r66) (fun r69 =>
          (if r69 = 0 then
            F_lookAt_50 M x1 x2 x3 x4 x5 x6 x7 (gw32 (x8 + 1))
          else
            (Option.bind (F_isNewEntry M x1 x8 x5) (fun r84 =>
              (if r84 = 0 then
                F_lookAt_96 M x1 x2 x3 x4 x5 x6 x7 x8
              else
                F_lookAt_96 M x1 x2 x3 x4 x5 (gw32 (x6 + (1 : Int))) x7 x8))))))))
    else
      (if x3 = 2 then
        (if x7 = 0 then
          some 0
        else
          some 1)
      else
        some x6))
  else none) := (gWh_eq _).trans (sk_lookAt_50 _ M x1 x2 x3 x4 x5 x6 x7 x8)
theorem eq_lookAt_96 (M : gM) (x1 x2 x3 x4 x5 x6 x7 x8 : Int) : F_lookAt_96 M x1 x2 x3 x4 x5 x6 x7 x8 = (if x7 = 0 then
    F_lookAt_50 M x1 x2 x3 x4 x5 x6 0 (gw32 (x8 + 1))
  else
    (Option.bind (F_pathAt M x1 x8) (fun r105 =>
      (Option.bind (F_names r105) (fun r108 =>
        (if r108 = (gw32 (x5 + (1 : Int))) then
          F_lookAt_50 M x1 x2 x3 x4 x5 x6 1 (gw32 (x8 + 1))
        else
          F_lookAt_50 M x1 x2 x3 x4 x5 x6 0 (gw32 (x8 + 1)))))))) := (gWh_eq _).trans (sk_lookAt_96 _ M x1 x2 x3 x4 x5 x6 x7 x8)
noncomputable def F_lookAt (M : gM) (a1 a2 a3 : Int) : Option (Int) := (Option.bind (F_kindAt M a1 a2) (fun r3 =>
    (if a3 = 0 then
      some r3
    else
      (if a3 = 1 then
        (Option.bind (F_filesBelow M a1 a2) (fun r23 =>
          some r23))
      else
        (if r3 = 2 then
          (Option.bind (F_names a2) (fun r36 =>
            F_lookAt_50 M a1 a2 a3 r3 r36 0 1 0))
        else
          some 0)))))
theorem eq_lookAt (M : gM) (a1 a2 a3 : Int) : F_lookAt M a1 a2 a3 = (Option.bind (F_kindAt M a1 a2) (fun r3 =>
    (if a3 = 0 then
      some r3
    else
      (if a3 = 1 then
        (Option.bind (F_filesBelow M a1 a2) (fun r23 =>
          some r23))
      else
        (if r3 = 2 then
          (Option.bind (F_names a2) (fun r36 =>
            F_lookAt_50 M a1 a2 a3 r3 r36 0 1 0))
        else
          some 0))))) := rfl
theorem okp_lookAt {sh : gS} {M : gM} : ∀ (s : Nat × List Int) (b : Int), gWh (st_lookAt M) s = some b → (∀ (x1 x2 x3 x4 x5 x6 x7 x8 : Int), s = (0, [x1, x2, x3, x4, x5, x6, x7, x8]) → gOK sh M → gA (gr 5 110) yX12_lookAt cX12_lookAt 9 (some (.int)) (gPq sh (some (0, b)) M) (0, 0) 50 [(4, 711), (0, x1), (0, x2), (0, x3), (0, x4), (0, x5), (0, x6), (0, x7), (0, x8)] [] sh M) ∧ (∀ (x1 x2 x3 x4 x5 x6 x7 x8 : Int), s = (1, [x1, x2, x3, x4, x5, x6, x7, x8]) → gOK sh M → gA (gr 5 110) yX12_lookAt cX12_lookAt 9 (some (.int)) (gPq sh (some (0, b)) M) (0, 0) 96 [(4, 711), (0, x1), (0, x2), (0, x3), (0, x4), (0, x5), (0, x6), (0, x7), (0, x8)] [] sh M) := by
  refine gWh_ind (fun k hk s b h => ⟨?_, ?_⟩)
  · rintro x1 x2 x3 x4 x5 x6 x7 x8 rfl hOK
    rw [sk_lookAt_50] at h
    refine g_iload (q0 := 52) (j := 8) rfl dX12_lookAt_50 rfl ?_
    refine g_aload_n (q0 := 53) (j := 0) rfl dX12_lookAt_52 rfl ?_
    refine g_getp (q0 := 56) (b := 718) rfl ff_X12_28 dX12_lookAt_53 rfl hOK (by decide) (sh_711 hOK) rfl (by decide) ?_
    refine g_iload_n (q0 := 57) (j := 1) rfl dX12_lookAt_56 rfl ?_
    obtain ⟨g1, h⟩ := gI_gd h
    refine g_iald (q0 := 58) rfl dX12_lookAt_57 (sh_718 hOK) g1.1 g1.2 ?_
    refine g_icmp_ge (q0 := 61) (tgt := 131) rfl dX12_lookAt_58 (by decide) (fun h58 => ?_) (fun h58 => ?_)
    · replace h := gI_neg (Int.not_lt.mpr h58) h
      refine g_iload_n (q0 := 132) (j := 3) rfl dX12_lookAt_131 rfl ?_
      refine g_iconst (q0 := 133) rfl dX12_lookAt_132 (k := ?_)
      refine g_icmp_ne (q0 := 136) (tgt := 149) rfl dX12_lookAt_133 (by decide) (fun h133 => ?_) (fun h133 => ?_)
      · replace h := gI_neg h133 h
        refine g_iload (q0 := 151) (j := 6) rfl dX12_lookAt_149 rfl ?_
        rw [← Option.some.inj h]
        refine g_ireturn dX12_lookAt_151 rfl ⟨Nat.zero_le _, Nat.zero_le _⟩ ?_
        exact ⟨rfl, rfl, rfl⟩
      · replace h := gI_pos h133 h
        refine g_iload (q0 := 138) (j := 7) rfl dX12_lookAt_136 rfl ?_
        refine g_if_eq (q0 := 141) (tgt := 145) rfl dX12_lookAt_138 (by decide) (fun h138 => ?_) (fun h138 => ?_)
        · replace h := gI_pos h138 h
          refine g_iconst (q0 := 146) rfl dX12_lookAt_145 (k := ?_)
          refine g_goto (tgt := 151) dX12_lookAt_146 (by decide) ?_
          rw [← Option.some.inj h]
          refine g_ireturn dX12_lookAt_151 rfl ⟨Nat.zero_le _, Nat.zero_le _⟩ ?_
          exact ⟨rfl, rfl, rfl⟩
        · replace h := gI_neg h138 h
          refine g_iconst (q0 := 142) rfl dX12_lookAt_141 (k := ?_)
          refine g_goto (tgt := 151) dX12_lookAt_142 (by decide) ?_
          rw [← Option.some.inj h]
          refine g_ireturn dX12_lookAt_151 rfl ⟨Nat.zero_le _, Nat.zero_le _⟩ ?_
          exact ⟨rfl, rfl, rfl⟩
    · replace h := gI_pos h58 h
      refine g_iload_n (q0 := 62) (j := 2) rfl dX12_lookAt_61 rfl ?_
      refine g_aload_n (q0 := 63) (j := 0) rfl dX12_lookAt_62 rfl ?_
      refine g_iload_n (q0 := 64) (j := 1) rfl dX12_lookAt_63 rfl ?_
      refine g_iload (q0 := 66) (j := 8) rfl dX12_lookAt_64 rfl ?_
      obtain ⟨r66, e66, h⟩ := gI_bd h
      refine g_callVq1 (as := [_, _]) (rest := [_]) mt_X12_pathAt mi_X12_pathAt se_X12_pathAt ml_X12_162 dX12_lookAt_66 (q0 := 69) rfl rfl (sh_711 hOK) rfl rfl (ok_pathAt hOK e66) rfl ⟨by decide, by decide⟩ (Nat.le_of_ble_eq_true rfl) ⟨Nat.zero_le _, Nat.zero_le _⟩ ?_
      obtain ⟨r69, e69, h⟩ := gI_bd h
      refine g_callSq1 (as := [_, _]) (rest := []) mt_X12_begins ms_X12_begins ml_X12_154 dX12_lookAt_69 (q0 := 72) rfl rfl (ok_begins hOK e69) rfl ⟨by decide, by decide⟩ (Nat.le_of_ble_eq_true rfl) ⟨Nat.zero_le _, Nat.zero_le _⟩ ?_
      refine g_if_ne (q0 := 75) (tgt := 78) rfl dX12_lookAt_72 (by decide) (fun h72 => ?_) (fun h72 => ?_)
      · replace h := gI_neg h72 h
        refine g_aload_n (q0 := 79) (j := 0) rfl dX12_lookAt_78 rfl ?_
        refine g_iload_n (q0 := 80) (j := 1) rfl dX12_lookAt_79 rfl ?_
        refine g_iload (q0 := 82) (j := 8) rfl dX12_lookAt_80 rfl ?_
        refine g_iload (q0 := 84) (j := 5) rfl dX12_lookAt_82 rfl ?_
        obtain ⟨r84, e84, h⟩ := gI_bd h
        refine g_callVq1 (as := [_, _, _]) (rest := []) mt_X12_isNewEntry mi_X12_isNewEntry se_X12_isNewEntry ml_X12_677 dX12_lookAt_84 (q0 := 87) rfl rfl (sh_711 hOK) rfl rfl (ok_isNewEntry hOK e84) rfl ⟨by decide, by decide⟩ (Nat.le_of_ble_eq_true rfl) ⟨Nat.zero_le _, Nat.zero_le _⟩ ?_
        refine g_if_eq (q0 := 90) (tgt := 96) rfl dX12_lookAt_87 (by decide) (fun h87 => ?_) (fun h87 => ?_)
        · replace h := gI_pos h87 h
          exact (hk _ _ h).2 _ _ _ _ _ _ _ _ rfl hOK
        · replace h := gI_neg h87 h
          refine g_iload (q0 := 92) (j := 6) rfl dX12_lookAt_90 rfl ?_
          refine g_iconst (q0 := 93) rfl dX12_lookAt_92 (k := ?_)
          refine g_iaddw (q0 := 94) rfl dX12_lookAt_93 ?_
          refine g_istore (q0 := 96) (j := 6) (lv2 := [_, _, _, _, _, _, _, _, _]) rfl dX12_lookAt_94 (by decide) rfl rfl ?_
          exact (hk _ _ h).2 _ _ _ _ _ _ _ _ rfl hOK
      · replace h := gI_pos h72 h
        refine g_goto (tgt := 125) dX12_lookAt_75 (by decide) ?_
        refine g_iincw (q0 := 128) (lv2 := [_, _, _, _, _, _, _, _, _]) rfl dX12_lookAt_125 rfl (by decide) rfl rfl ?_
        refine g_goto (tgt := 50) dX12_lookAt_128 (by decide) ?_
        exact (hk _ _ h).1 _ _ _ _ _ _ _ _ rfl hOK
  · rintro x1 x2 x3 x4 x5 x6 x7 x8 rfl hOK
    rw [sk_lookAt_96] at h
    refine g_iload (q0 := 98) (j := 7) rfl dX12_lookAt_96 rfl ?_
    refine g_if_eq (q0 := 101) (tgt := 122) rfl dX12_lookAt_98 (by decide) (fun h98 => ?_) (fun h98 => ?_)
    · replace h := gI_pos h98 h
      refine g_iconst (q0 := 123) rfl dX12_lookAt_122 (k := ?_)
      refine g_istore (q0 := 125) (j := 7) (lv2 := [_, _, _, _, _, _, _, _, _]) rfl dX12_lookAt_123 (by decide) rfl rfl ?_
      refine g_iincw (q0 := 128) (lv2 := [_, _, _, _, _, _, _, _, _]) rfl dX12_lookAt_125 rfl (by decide) rfl rfl ?_
      refine g_goto (tgt := 50) dX12_lookAt_128 (by decide) ?_
      exact (hk _ _ h).1 _ _ _ _ _ _ _ _ rfl hOK
    · replace h := gI_neg h98 h
      refine g_aload_n (q0 := 102) (j := 0) rfl dX12_lookAt_101 rfl ?_
      refine g_iload_n (q0 := 103) (j := 1) rfl dX12_lookAt_102 rfl ?_
      refine g_iload (q0 := 105) (j := 8) rfl dX12_lookAt_103 rfl ?_
      obtain ⟨r105, e105, h⟩ := gI_bd h
      refine g_callVq1 (as := [_, _]) (rest := []) mt_X12_pathAt mi_X12_pathAt se_X12_pathAt ml_X12_162 dX12_lookAt_105 (q0 := 108) rfl rfl (sh_711 hOK) rfl rfl (ok_pathAt hOK e105) rfl ⟨by decide, by decide⟩ (Nat.le_of_ble_eq_true rfl) ⟨Nat.zero_le _, Nat.zero_le _⟩ ?_
      obtain ⟨r108, e108, h⟩ := gI_bd h
      refine g_callSq1 (as := [_]) (rest := []) mt_X12_names ms_X12_names ml_X12_150 dX12_lookAt_108 (q0 := 111) rfl rfl (ok_names hOK e108) rfl ⟨by decide, by decide⟩ (Nat.le_of_ble_eq_true rfl) ⟨Nat.zero_le _, Nat.zero_le _⟩ ?_
      refine g_iload (q0 := 113) (j := 5) rfl dX12_lookAt_111 rfl ?_
      refine g_iconst (q0 := 114) rfl dX12_lookAt_113 (k := ?_)
      refine g_iaddw (q0 := 115) rfl dX12_lookAt_114 ?_
      refine g_icmp_ne (q0 := 118) (tgt := 122) rfl dX12_lookAt_115 (by decide) (fun h115 => ?_) (fun h115 => ?_)
      · replace h := gI_neg h115 h
        refine g_iconst (q0 := 123) rfl dX12_lookAt_122 (k := ?_)
        refine g_istore (q0 := 125) (j := 7) (lv2 := [_, _, _, _, _, _, _, _, _]) rfl dX12_lookAt_123 (by decide) rfl rfl ?_
        refine g_iincw (q0 := 128) (lv2 := [_, _, _, _, _, _, _, _, _]) rfl dX12_lookAt_125 rfl (by decide) rfl rfl ?_
        refine g_goto (tgt := 50) dX12_lookAt_128 (by decide) ?_
        exact (hk _ _ h).1 _ _ _ _ _ _ _ _ rfl hOK
      · replace h := gI_pos h115 h
        refine g_iconst (q0 := 119) rfl dX12_lookAt_118 (k := ?_)
        refine g_goto (tgt := 123) dX12_lookAt_119 (by decide) ?_
        refine g_istore (q0 := 125) (j := 7) (lv2 := [_, _, _, _, _, _, _, _, _]) rfl dX12_lookAt_123 (by decide) rfl rfl ?_
        refine g_iincw (q0 := 128) (lv2 := [_, _, _, _, _, _, _, _, _]) rfl dX12_lookAt_125 rfl (by decide) rfl rfl ?_
        refine g_goto (tgt := 50) dX12_lookAt_128 (by decide) ?_
        exact (hk _ _ h).1 _ _ _ _ _ _ _ _ rfl hOK
theorem ok_lookAt_50 {sh : gS} {M : gM} {x1 x2 x3 x4 x5 x6 x7 x8 : Int} {b : Int} (hOK : gOK sh M) (h : F_lookAt_50 M x1 x2 x3 x4 x5 x6 x7 x8 = some b) : gA (gr 5 110) yX12_lookAt cX12_lookAt 9 (some (.int)) (gPq sh (some (0, b)) M) (0, 0) 50 [(4, 711), (0, x1), (0, x2), (0, x3), (0, x4), (0, x5), (0, x6), (0, x7), (0, x8)] [] sh M :=
  (okp_lookAt _ _ h).1 _ _ _ _ _ _ _ _ rfl hOK
theorem ok_lookAt_96 {sh : gS} {M : gM} {x1 x2 x3 x4 x5 x6 x7 x8 : Int} {b : Int} (hOK : gOK sh M) (h : F_lookAt_96 M x1 x2 x3 x4 x5 x6 x7 x8 = some b) : gA (gr 5 110) yX12_lookAt cX12_lookAt 9 (some (.int)) (gPq sh (some (0, b)) M) (0, 0) 96 [(4, 711), (0, x1), (0, x2), (0, x3), (0, x4), (0, x5), (0, x6), (0, x7), (0, x8)] [] sh M :=
  (okp_lookAt _ _ h).2 _ _ _ _ _ _ _ _ rfl hOK
theorem ok_lookAt {sh : gS} {M : gM} {a1 a2 a3 : Int} {b : Int} (hOK : gOK sh M) (h : F_lookAt M a1 a2 a3 = some b) : gC (gr 5 110) yX12_lookAt cX12_lookAt 9 (some (.int)) [(4, 711), (0, a1), (0, a2), (0, a3)] sh M (gPq sh (some (0, b)) M) := by
  rw [eq_lookAt] at h
  refine gC_ofA (lv := [_, _, _, _, _, _, _, _, _]) (by decide +kernel) (Nat.le_of_ble_eq_true rfl) rfl (fun hMw hav => ?_)
  refine g_aload_n (q0 := 1) (j := 0) rfl dX12_lookAt_0 rfl ?_
  refine g_iload_n (q0 := 2) (j := 1) rfl dX12_lookAt_1 rfl ?_
  refine g_iload_n (q0 := 3) (j := 2) rfl dX12_lookAt_2 rfl ?_
  obtain ⟨r3, e3, h⟩ := gI_bd h
  refine g_callVq1 (as := [_, _]) (rest := []) mt_X12_kindAt mi_X12_kindAt se_X12_kindAt ml_X12_303 dX12_lookAt_3 (q0 := 6) rfl rfl (sh_711 hOK) rfl rfl (ok_kindAt hOK e3) rfl ⟨by decide, by decide⟩ (Nat.le_of_ble_eq_true rfl) ⟨Nat.zero_le _, Nat.zero_le _⟩ ?_
  refine g_istore (q0 := 8) (j := 4) (lv2 := [_, _, _, _, _, _, _, _, _]) rfl dX12_lookAt_6 (by decide) rfl rfl ?_
  refine g_iload_n (q0 := 9) (j := 3) rfl dX12_lookAt_8 rfl ?_
  refine g_if_ne (q0 := 12) (tgt := 15) rfl dX12_lookAt_9 (by decide) (fun h9 => ?_) (fun h9 => ?_)
  · replace h := gI_neg h9 h
    refine g_iload_n (q0 := 16) (j := 3) rfl dX12_lookAt_15 rfl ?_
    refine g_iconst (q0 := 17) rfl dX12_lookAt_16 (k := ?_)
    refine g_icmp_ne (q0 := 20) (tgt := 27) rfl dX12_lookAt_17 (by decide) (fun h17 => ?_) (fun h17 => ?_)
    · replace h := gI_neg h17 h
      refine g_iload (q0 := 29) (j := 4) rfl dX12_lookAt_27 rfl ?_
      refine g_iconst (q0 := 30) rfl dX12_lookAt_29 (k := ?_)
      refine g_icmp_eq (q0 := 33) (tgt := 35) rfl dX12_lookAt_30 (by decide) (fun h30 => ?_) (fun h30 => ?_)
      · replace h := gI_pos h30 h
        refine g_iload_n (q0 := 36) (j := 2) rfl dX12_lookAt_35 rfl ?_
        obtain ⟨r36, e36, h⟩ := gI_bd h
        refine g_callSq1 (as := [_]) (rest := []) mt_X12_names ms_X12_names ml_X12_150 dX12_lookAt_36 (q0 := 39) rfl rfl (ok_names hOK e36) rfl ⟨by decide, by decide⟩ (Nat.le_of_ble_eq_true rfl) ⟨Nat.zero_le _, Nat.zero_le _⟩ ?_
        refine g_istore (q0 := 41) (j := 5) (lv2 := [_, _, _, _, _, _, _, _, _]) rfl dX12_lookAt_39 (by decide) rfl rfl ?_
        refine g_iconst (q0 := 42) rfl dX12_lookAt_41 (k := ?_)
        refine g_istore (q0 := 44) (j := 6) (lv2 := [_, _, _, _, _, _, _, _, _]) rfl dX12_lookAt_42 (by decide) rfl rfl ?_
        refine g_iconst (q0 := 45) rfl dX12_lookAt_44 (k := ?_)
        refine g_istore (q0 := 47) (j := 7) (lv2 := [_, _, _, _, _, _, _, _, _]) rfl dX12_lookAt_45 (by decide) rfl rfl ?_
        refine g_iconst (q0 := 48) rfl dX12_lookAt_47 (k := ?_)
        refine g_istore (q0 := 50) (j := 8) (lv2 := [_, _, _, _, _, _, _, _, _]) rfl dX12_lookAt_48 (by decide) rfl rfl ?_
        exact ok_lookAt_50 hOK h
      · replace h := gI_neg h30 h
        refine g_iconst (q0 := 34) rfl dX12_lookAt_33 (k := ?_)
        rw [← Option.some.inj h]
        refine g_ireturn dX12_lookAt_34 rfl ⟨Nat.zero_le _, Nat.zero_le _⟩ ?_
        exact ⟨rfl, rfl, rfl⟩
    · replace h := gI_pos h17 h
      refine g_aload_n (q0 := 21) (j := 0) rfl dX12_lookAt_20 rfl ?_
      refine g_iload_n (q0 := 22) (j := 1) rfl dX12_lookAt_21 rfl ?_
      refine g_iload_n (q0 := 23) (j := 2) rfl dX12_lookAt_22 rfl ?_
      obtain ⟨r23, e23, h⟩ := gI_bd h
      refine g_callVq1 (as := [_, _]) (rest := []) mt_X12_filesBelow mi_X12_filesBelow se_X12_filesBelow ml_X12_175 dX12_lookAt_23 (q0 := 26) rfl rfl (sh_711 hOK) rfl rfl (ok_filesBelow hOK e23) rfl ⟨by decide, by decide⟩ (Nat.le_of_ble_eq_true rfl) ⟨Nat.zero_le _, Nat.zero_le _⟩ ?_
      rw [← Option.some.inj h]
      refine g_ireturn dX12_lookAt_26 rfl ⟨Nat.zero_le _, Nat.zero_le _⟩ ?_
      exact ⟨rfl, rfl, rfl⟩
  · replace h := gI_pos h9 h
    refine g_iload (q0 := 14) (j := 4) rfl dX12_lookAt_12 rfl ?_
    rw [← Option.some.inj h]
    refine g_ireturn dX12_lookAt_14 rfl ⟨Nat.zero_le _, Nat.zero_le _⟩ ?_
    exact ⟨rfl, rfl, rfl⟩
-- ==== readsWholePath
theorem dX12_readsWholePath_0 : decode cX12_readsWholePath 0 = .ok (.aload_n 0, 1) := by decide +kernel
theorem dX12_readsWholePath_1 : decode cX12_readsWholePath 1 = .ok (.iload_n 1, 1) := by decide +kernel
theorem dX12_readsWholePath_2 : decode cX12_readsWholePath 2 = .ok (.invokevirtual 338, 3) := by decide +kernel
theorem dX12_readsWholePath_5 : decode cX12_readsWholePath 5 = .ok (.aload_n 0, 1) := by decide +kernel
theorem dX12_readsWholePath_6 : decode cX12_readsWholePath 6 = .ok (.bipush 6, 2) := by decide +kernel
theorem dX12_readsWholePath_8 : decode cX12_readsWholePath 8 = .ok (.invokevirtual 294, 3) := by decide +kernel
theorem dX12_readsWholePath_11 : decode cX12_readsWholePath 11 = .ok (.ifCond .eq 30, 3) := by decide +kernel
theorem dX12_readsWholePath_14 : decode cX12_readsWholePath 14 = .ok (.aload_n 0, 1) := by decide +kernel
theorem dX12_readsWholePath_15 : decode cX12_readsWholePath 15 = .ok (.getfield 256, 3) := by decide +kernel
theorem dX12_readsWholePath_18 : decode cX12_readsWholePath 18 = .ok (.aload_n 0, 1) := by decide +kernel
theorem dX12_readsWholePath_19 : decode cX12_readsWholePath 19 = .ok (.getfield 259, 3) := by decide +kernel
theorem dX12_readsWholePath_22 : decode cX12_readsWholePath 22 = .ok (.if_icmp .eq 15, 3) := by decide +kernel
theorem dX12_readsWholePath_25 : decode cX12_readsWholePath 25 = .ok (.aload_n 0, 1) := by decide +kernel
theorem dX12_readsWholePath_26 : decode cX12_readsWholePath 26 = .ok (.iconst 1, 1) := by decide +kernel
theorem dX12_readsWholePath_27 : decode cX12_readsWholePath 27 = .ok (.aload_n 0, 1) := by decide +kernel
theorem dX12_readsWholePath_28 : decode cX12_readsWholePath 28 = .ok (.getfield 256, 3) := by decide +kernel
theorem dX12_readsWholePath_31 : decode cX12_readsWholePath 31 = .ok (.invokevirtual 269, 3) := by decide +kernel
theorem dX12_readsWholePath_34 : decode cX12_readsWholePath 34 = .ok (.ifCond .eq 7, 3) := by decide +kernel
theorem dX12_readsWholePath_37 : decode cX12_readsWholePath 37 = .ok (.iconst 1, 1) := by decide +kernel
theorem dX12_readsWholePath_38 : decode cX12_readsWholePath 38 = .ok (.goto 4, 3) := by decide +kernel
theorem dX12_readsWholePath_41 : decode cX12_readsWholePath 41 = .ok (.iconst 0, 1) := by decide +kernel
theorem dX12_readsWholePath_42 : decode cX12_readsWholePath 42 = .ok (.istore_n 2, 1) := by decide +kernel
theorem dX12_readsWholePath_43 : decode cX12_readsWholePath 43 = .ok (.aload_n 0, 1) := by decide +kernel
theorem dX12_readsWholePath_44 : decode cX12_readsWholePath 44 = .ok (.iconst 0, 1) := by decide +kernel
theorem dX12_readsWholePath_45 : decode cX12_readsWholePath 45 = .ok (.putfield 249, 3) := by decide +kernel
theorem dX12_readsWholePath_48 : decode cX12_readsWholePath 48 = .ok (.iload_n 2, 1) := by decide +kernel
theorem dX12_readsWholePath_49 : decode cX12_readsWholePath 49 = .ok (.ireturn, 1) := by decide +kernel
noncomputable def F_readsWholePath (M : gM) (a1 : Int) : Option (Int × gM) := (Option.bind (F_beginsText M a1) (fun m2 =>
    (Option.bind (F_readsPath m2 6) (fun p8 =>
      (if p8.1 = 0 then
        some (0, (gU p8.2 711 18 0))
      else
        (if (p8.2 711 19) = (p8.2 711 20) then
          some (1, (gU p8.2 711 18 0))
        else
          (Option.bind (F_wrongAt p8.2 1 (p8.2 711 19)) (fun p31 =>
            (if p31.1 = 0 then
              some (0, (gU p31.2 711 18 0))
            else
              some (1, (gU p31.2 711 18 0)))))))))))
theorem eq_readsWholePath (M : gM) (a1 : Int) : F_readsWholePath M a1 = (Option.bind (F_beginsText M a1) (fun m2 =>
    (Option.bind (F_readsPath m2 6) (fun p8 =>
      (if p8.1 = 0 then
        some (0, (gU p8.2 711 18 0))
      else
        (if (p8.2 711 19) = (p8.2 711 20) then
          some (1, (gU p8.2 711 18 0))
        else
          (Option.bind (F_wrongAt p8.2 1 (p8.2 711 19)) (fun p31 =>
            (if p31.1 = 0 then
              some (0, (gU p31.2 711 18 0))
            else
              some (1, (gU p31.2 711 18 0))))))))))) := rfl
theorem fr_readsWholePath {M : gM} {a1 : Int} {b : Int × gM} (h : F_readsWholePath M a1 = some b) : gFr [] [18, 19, 20, 21, 23] M b.2 := by
  rw [eq_readsWholePath] at h
  obtain ⟨m2, e2, h⟩ := gI_bd h
  obtain ⟨p8, e8, h⟩ := gI_bd h
  rcases gI_or h with h | h
  · rw [← Option.some.inj h]
    exact (gFr_f (gFr_t (gFr_t (gFr_r [] [18, 19, 20, 21, 23] _) (fr_beginsText (b := m2) e2) (by first | decide | simp) (by decide)) (fr_readsPath (b := p8) e8) (by first | decide | simp) (by decide)) (.head _))
  · rcases gI_or h with h | h
    · rw [← Option.some.inj h]
      exact (gFr_f (gFr_t (gFr_t (gFr_r [] [18, 19, 20, 21, 23] _) (fr_beginsText (b := m2) e2) (by first | decide | simp) (by decide)) (fr_readsPath (b := p8) e8) (by first | decide | simp) (by decide)) (.head _))
    · obtain ⟨p31, e31, h⟩ := gI_bd h
      rcases gI_or h with h | h
      · rw [← Option.some.inj h]
        exact (gFr_f (gFr_t (gFr_t (gFr_t (gFr_r [] [18, 19, 20, 21, 23] _) (fr_beginsText (b := m2) e2) (by first | decide | simp) (by decide)) (fr_readsPath (b := p8) e8) (by first | decide | simp) (by decide)) (fr_wrongAt (b := p31) e31) (by first | decide | simp) (by decide)) (.head _))
      · rw [← Option.some.inj h]
        exact (gFr_f (gFr_t (gFr_t (gFr_t (gFr_r [] [18, 19, 20, 21, 23] _) (fr_beginsText (b := m2) e2) (by first | decide | simp) (by decide)) (fr_readsPath (b := p8) e8) (by first | decide | simp) (by decide)) (fr_wrongAt (b := p31) e31) (by first | decide | simp) (by decide)) (.head _))
theorem bo_readsWholePath {M : gM} {a1 : Int} {b : Int × gM} (h : F_readsWholePath M a1 = some b) : b.1 = 0 ∨ b.1 = 1 := by
  rw [eq_readsWholePath] at h
  obtain ⟨m2, e2, h⟩ := gI_bd h
  obtain ⟨p8, e8, h⟩ := gI_bd h
  rcases gI_or h with h | h
  · rw [← Option.some.inj h]
    exact (Or.inl rfl)
  · rcases gI_or h with h | h
    · rw [← Option.some.inj h]
      exact (Or.inr rfl)
    · obtain ⟨p31, e31, h⟩ := gI_bd h
      rcases gI_or h with h | h
      · rw [← Option.some.inj h]
        exact (Or.inl rfl)
      · rw [← Option.some.inj h]
        exact (Or.inr rfl)
theorem ok_readsWholePath {sh : gS} {M : gM} {a1 : Int} {b : Int × gM} (hOK : gOK sh M) (h : F_readsWholePath M a1 = some b) : gC (gr 3 64) yX12_readsWholePath cX12_readsWholePath 3 (some (.boolean)) [(4, 711), (0, a1)] sh M (gPq sh (some (0, b.1)) b.2) := by
  rw [eq_readsWholePath] at h
  refine gC_ofA (lv := [_, _, _]) (by decide +kernel) (Nat.le_of_ble_eq_true rfl) rfl (fun hMw hav => ?_)
  refine g_aload_n (q0 := 1) (j := 0) rfl dX12_readsWholePath_0 rfl ?_
  refine g_iload_n (q0 := 2) (j := 1) rfl dX12_readsWholePath_1 rfl ?_
  obtain ⟨m2, e2, h⟩ := gI_bd h
  refine g_callVq0 (as := [_]) (rest := []) mt_X12_beginsText mi_X12_beginsText se_X12_beginsText ml_X12_338 dX12_readsWholePath_2 (q0 := 5) rfl rfl (sh_711 hOK) rfl rfl (ok_beginsText hOK e2) rfl ⟨by decide, by decide⟩ (Nat.le_of_ble_eq_true rfl) ⟨Nat.zero_le _, Nat.zero_le _⟩ ?_
  have hOK1 : gOK sh m2 := gOK_fr hOK (fr_beginsText (b := m2) e2) (by first | decide | (intro a ha; simp only [List.mem_cons, List.not_mem_nil, or_false] at ha; omega)) (by decide)
  refine g_aload_n (q0 := 6) (j := 0) rfl dX12_readsWholePath_5 rfl ?_
  refine g_bipush (q0 := 8) rfl dX12_readsWholePath_6 (k := ?_)
  obtain ⟨p8, e8, h⟩ := gI_bd h
  refine g_callVq1 (as := [_]) (rest := []) mt_X12_readsPath mi_X12_readsPath se_X12_readsPath ml_X12_294 dX12_readsWholePath_8 (q0 := 11) rfl rfl (sh_711 hOK1) rfl rfl (ok_readsPath hOK1 e8) rfl ⟨by decide, by decide⟩ (Nat.le_of_ble_eq_true rfl) ⟨Nat.zero_le _, Nat.zero_le _⟩ ?_
  have hOK2 : gOK sh p8.2 := gOK_fr hOK1 (fr_readsPath (b := p8) e8) (by first | decide | (intro a ha; simp only [List.mem_cons, List.not_mem_nil, or_false] at ha; omega)) (by decide)
  refine g_if_eq (q0 := 14) (tgt := 41) rfl dX12_readsWholePath_11 (by decide) (fun h11 => ?_) (fun h11 => ?_)
  · replace h := gI_pos h11 h
    refine g_iconst (q0 := 42) rfl dX12_readsWholePath_41 (k := ?_)
    refine g_istore_n (q0 := 43) (j := 2) (lv2 := [_, _, _]) rfl dX12_readsWholePath_42 (by decide) rfl rfl ?_
    refine g_aload_n (q0 := 44) (j := 0) rfl dX12_readsWholePath_43 rfl ?_
    refine g_iconst (q0 := 45) rfl dX12_readsWholePath_44 (k := ?_)
    refine g_put (q0 := 48) (t := 0) (fi := 18) rfl rfl ff_X12_249 dX12_readsWholePath_45 rfl (sh_711 hOK2) rfl (fun _ => ⟨rfl, rfl⟩) ?_
    have hOK3 : gOK sh (gU p8.2 711 18 0) := gOK_o hOK2 (sh_711 hOK2) (f := 18) rfl rfl
    refine g_iload_n (q0 := 49) (j := 2) rfl dX12_readsWholePath_48 rfl ?_
    rw [← Option.some.inj h]
    refine g_zreturn dX12_readsWholePath_49 rfl (gnz (Or.inl rfl)) ⟨Nat.zero_le _, Nat.zero_le _⟩ ?_
    exact ⟨rfl, rfl, rfl⟩
  · replace h := gI_neg h11 h
    refine g_aload_n (q0 := 15) (j := 0) rfl dX12_readsWholePath_14 rfl ?_
    refine g_getf (q0 := 18) (t := 0) (fi := 19) rfl rfl ff_X12_256 dX12_readsWholePath_15 rfl (sh_711 hOK2) ?_
    refine g_aload_n (q0 := 19) (j := 0) rfl dX12_readsWholePath_18 rfl ?_
    refine g_getf (q0 := 22) (t := 0) (fi := 20) rfl rfl ff_X12_259 dX12_readsWholePath_19 rfl (sh_711 hOK2) ?_
    refine g_icmp_eq (q0 := 25) (tgt := 37) rfl dX12_readsWholePath_22 (by decide) (fun h22 => ?_) (fun h22 => ?_)
    · replace h := gI_pos h22 h
      refine g_iconst (q0 := 38) rfl dX12_readsWholePath_37 (k := ?_)
      refine g_goto (tgt := 42) dX12_readsWholePath_38 (by decide) ?_
      refine g_istore_n (q0 := 43) (j := 2) (lv2 := [_, _, _]) rfl dX12_readsWholePath_42 (by decide) rfl rfl ?_
      refine g_aload_n (q0 := 44) (j := 0) rfl dX12_readsWholePath_43 rfl ?_
      refine g_iconst (q0 := 45) rfl dX12_readsWholePath_44 (k := ?_)
      refine g_put (q0 := 48) (t := 0) (fi := 18) rfl rfl ff_X12_249 dX12_readsWholePath_45 rfl (sh_711 hOK2) rfl (fun _ => ⟨rfl, rfl⟩) ?_
      have hOK4 : gOK sh (gU p8.2 711 18 0) := gOK_o hOK2 (sh_711 hOK2) (f := 18) rfl rfl
      refine g_iload_n (q0 := 49) (j := 2) rfl dX12_readsWholePath_48 rfl ?_
      rw [← Option.some.inj h]
      refine g_zreturn dX12_readsWholePath_49 rfl (gnz (Or.inr rfl)) ⟨Nat.zero_le _, Nat.zero_le _⟩ ?_
      exact ⟨rfl, rfl, rfl⟩
    · replace h := gI_neg h22 h
      refine g_aload_n (q0 := 26) (j := 0) rfl dX12_readsWholePath_25 rfl ?_
      refine g_iconst (q0 := 27) rfl dX12_readsWholePath_26 (k := ?_)
      refine g_aload_n (q0 := 28) (j := 0) rfl dX12_readsWholePath_27 rfl ?_
      refine g_getf (q0 := 31) (t := 0) (fi := 19) rfl rfl ff_X12_256 dX12_readsWholePath_28 rfl (sh_711 hOK2) ?_
      obtain ⟨p31, e31, h⟩ := gI_bd h
      refine g_callVq1 (as := [_, _]) (rest := []) mt_X12_wrongAt mi_X12_wrongAt se_X12_wrongAt ml_X12_269 dX12_readsWholePath_31 (q0 := 34) rfl rfl (sh_711 hOK2) rfl rfl (ok_wrongAt hOK2 e31) rfl ⟨by decide, by decide⟩ (Nat.le_of_ble_eq_true rfl) ⟨Nat.zero_le _, Nat.zero_le _⟩ ?_
      have hOK5 : gOK sh p31.2 := gOK_fr hOK2 (fr_wrongAt (b := p31) e31) (by first | decide | (intro a ha; simp only [List.mem_cons, List.not_mem_nil, or_false] at ha; omega)) (by decide)
      refine g_if_eq (q0 := 37) (tgt := 41) rfl dX12_readsWholePath_34 (by decide) (fun h34 => ?_) (fun h34 => ?_)
      · replace h := gI_pos h34 h
        refine g_iconst (q0 := 42) rfl dX12_readsWholePath_41 (k := ?_)
        refine g_istore_n (q0 := 43) (j := 2) (lv2 := [_, _, _]) rfl dX12_readsWholePath_42 (by decide) rfl rfl ?_
        refine g_aload_n (q0 := 44) (j := 0) rfl dX12_readsWholePath_43 rfl ?_
        refine g_iconst (q0 := 45) rfl dX12_readsWholePath_44 (k := ?_)
        refine g_put (q0 := 48) (t := 0) (fi := 18) rfl rfl ff_X12_249 dX12_readsWholePath_45 rfl (sh_711 hOK5) rfl (fun _ => ⟨rfl, rfl⟩) ?_
        have hOK6 : gOK sh (gU p31.2 711 18 0) := gOK_o hOK5 (sh_711 hOK5) (f := 18) rfl rfl
        refine g_iload_n (q0 := 49) (j := 2) rfl dX12_readsWholePath_48 rfl ?_
        rw [← Option.some.inj h]
        refine g_zreturn dX12_readsWholePath_49 rfl (gnz (Or.inl rfl)) ⟨Nat.zero_le _, Nat.zero_le _⟩ ?_
        exact ⟨rfl, rfl, rfl⟩
      · replace h := gI_neg h34 h
        refine g_iconst (q0 := 38) rfl dX12_readsWholePath_37 (k := ?_)
        refine g_goto (tgt := 42) dX12_readsWholePath_38 (by decide) ?_
        refine g_istore_n (q0 := 43) (j := 2) (lv2 := [_, _, _]) rfl dX12_readsWholePath_42 (by decide) rfl rfl ?_
        refine g_aload_n (q0 := 44) (j := 0) rfl dX12_readsWholePath_43 rfl ?_
        refine g_iconst (q0 := 45) rfl dX12_readsWholePath_44 (k := ?_)
        refine g_put (q0 := 48) (t := 0) (fi := 18) rfl rfl ff_X12_249 dX12_readsWholePath_45 rfl (sh_711 hOK5) rfl (fun _ => ⟨rfl, rfl⟩) ?_
        have hOK7 : gOK sh (gU p31.2 711 18 0) := gOK_o hOK5 (sh_711 hOK5) (f := 18) rfl rfl
        refine g_iload_n (q0 := 49) (j := 2) rfl dX12_readsWholePath_48 rfl ?_
        rw [← Option.some.inj h]
        refine g_zreturn dX12_readsWholePath_49 rfl (gnz (Or.inr rfl)) ⟨Nat.zero_le _, Nat.zero_le _⟩ ?_
        exact ⟨rfl, rfl, rfl⟩
-- ==== look
theorem dX12_look_0 : decode cX12_look 0 = .ok (.aload_n 0, 1) := by decide +kernel
theorem dX12_look_1 : decode cX12_look 1 = .ok (.iload_n 1, 1) := by decide +kernel
theorem dX12_look_2 : decode cX12_look 2 = .ok (.invokevirtual 229, 3) := by decide +kernel
theorem dX12_look_5 : decode cX12_look 5 = .ok (.ifCond .eq 30, 3) := by decide +kernel
theorem dX12_look_8 : decode cX12_look 8 = .ok (.iload_n 2, 1) := by decide +kernel
theorem dX12_look_9 : decode cX12_look 9 = .ok (.iconst 1, 1) := by decide +kernel
theorem dX12_look_10 : decode cX12_look 10 = .ok (.bipush 11, 2) := by decide +kernel
theorem dX12_look_12 : decode cX12_look 12 = .ok (.invokestatic 182, 3) := by decide +kernel
theorem dX12_look_15 : decode cX12_look 15 = .ok (.ifCond .eq 20, 3) := by decide +kernel
theorem dX12_look_18 : decode cX12_look 18 = .ok (.iload_n 3, 1) := by decide +kernel
theorem dX12_look_19 : decode cX12_look 19 = .ok (.iconst 0, 1) := by decide +kernel
theorem dX12_look_20 : decode cX12_look 20 = .ok (.iconst 3, 1) := by decide +kernel
theorem dX12_look_21 : decode cX12_look 21 = .ok (.invokestatic 182, 3) := by decide +kernel
theorem dX12_look_24 : decode cX12_look 24 = .ok (.ifCond .eq 11, 3) := by decide +kernel
theorem dX12_look_27 : decode cX12_look 27 = .ok (.iload_n 2, 1) := by decide +kernel
theorem dX12_look_28 : decode cX12_look 28 = .ok (.aload_n 0, 1) := by decide +kernel
theorem dX12_look_29 : decode cX12_look 29 = .ok (.getfield 249, 3) := by decide +kernel
theorem dX12_look_32 : decode cX12_look 32 = .ok (.if_icmp .le 5, 3) := by decide +kernel
theorem dX12_look_35 : decode cX12_look 35 = .ok (.iconst (-1), 1) := by decide +kernel
theorem dX12_look_36 : decode cX12_look 36 = .ok (.ireturn, 1) := by decide +kernel
theorem dX12_look_37 : decode cX12_look 37 = .ok (.aload_n 0, 1) := by decide +kernel
theorem dX12_look_38 : decode cX12_look 38 = .ok (.iload_n 2, 1) := by decide +kernel
theorem dX12_look_39 : decode cX12_look 39 = .ok (.invokevirtual 680, 3) := by decide +kernel
theorem dX12_look_42 : decode cX12_look 42 = .ok (.ifCond .eq 16, 3) := by decide +kernel
theorem dX12_look_45 : decode cX12_look 45 = .ok (.aload_n 0, 1) := by decide +kernel
theorem dX12_look_46 : decode cX12_look 46 = .ok (.iload_n 1, 1) := by decide +kernel
theorem dX12_look_47 : decode cX12_look 47 = .ok (.aload_n 0, 1) := by decide +kernel
theorem dX12_look_48 : decode cX12_look 48 = .ok (.getfield 278, 3) := by decide +kernel
theorem dX12_look_51 : decode cX12_look 51 = .ok (.iload_n 3, 1) := by decide +kernel
theorem dX12_look_52 : decode cX12_look 52 = .ok (.invokevirtual 683, 3) := by decide +kernel
theorem dX12_look_55 : decode cX12_look 55 = .ok (.goto 7, 3) := by decide +kernel
theorem dX12_look_58 : decode cX12_look 58 = .ok (.aload_n 0, 1) := by decide +kernel
theorem dX12_look_59 : decode cX12_look 59 = .ok (.getfield 262, 3) := by decide +kernel
theorem dX12_look_62 : decode cX12_look 62 = .ok (.ireturn, 1) := by decide +kernel
noncomputable def F_look (M : gM) (a1 a2 a3 : Int) : Option (Int × gM) := (Option.bind (F_isCommit M a1) (fun r2 =>
    (if r2 = 0 then
      some (-1, M)
    else
      (Option.bind (F_in a2 1 11) (fun r12 =>
        (if r12 = 0 then
          some (-1, M)
        else
          (Option.bind (F_in a3 0 3) (fun r21 =>
            (if r21 = 0 then
              some (-1, M)
            else
              (if (M 711 18) < a2 then
                some (-1, M)
              else
                (Option.bind (F_readsWholePath M a2) (fun p39 =>
                  (if p39.1 = 0 then
                    some ((p39.2 711 21), p39.2)
                  else
                    (Option.bind (F_lookAt p39.2 a1 (p39.2 711 23) a3) (fun r52 =>
                      some (r52, p39.2))))))))))))))))
theorem eq_look (M : gM) (a1 a2 a3 : Int) : F_look M a1 a2 a3 = (Option.bind (F_isCommit M a1) (fun r2 =>
    (if r2 = 0 then
      some (-1, M)
    else
      (Option.bind (F_in a2 1 11) (fun r12 =>
        (if r12 = 0 then
          some (-1, M)
        else
          (Option.bind (F_in a3 0 3) (fun r21 =>
            (if r21 = 0 then
              some (-1, M)
            else
              (if (M 711 18) < a2 then
                some (-1, M)
              else
                (Option.bind (F_readsWholePath M a2) (fun p39 =>
                  (if p39.1 = 0 then
                    some ((p39.2 711 21), p39.2)
                  else
                    (Option.bind (F_lookAt p39.2 a1 (p39.2 711 23) a3) (fun r52 =>
                      some (r52, p39.2)))))))))))))))) := rfl
theorem fr_look {M : gM} {a1 a2 a3 : Int} {b : Int × gM} (h : F_look M a1 a2 a3 = some b) : gFr [] [18, 19, 20, 21, 23] M b.2 := by
  rw [eq_look] at h
  obtain ⟨r2, e2, h⟩ := gI_bd h
  rcases gI_or h with h | h
  · rw [← Option.some.inj h]
    exact (gFr_r [] [18, 19, 20, 21, 23] _)
  · obtain ⟨r12, e12, h⟩ := gI_bd h
    rcases gI_or h with h | h
    · rw [← Option.some.inj h]
      exact (gFr_r [] [18, 19, 20, 21, 23] _)
    · obtain ⟨r21, e21, h⟩ := gI_bd h
      rcases gI_or h with h | h
      · rw [← Option.some.inj h]
        exact (gFr_r [] [18, 19, 20, 21, 23] _)
      · rcases gI_or h with h | h
        · rw [← Option.some.inj h]
          exact (gFr_r [] [18, 19, 20, 21, 23] _)
        · obtain ⟨p39, e39, h⟩ := gI_bd h
          rcases gI_or h with h | h
          · rw [← Option.some.inj h]
            exact (gFr_t (gFr_r [] [18, 19, 20, 21, 23] _) (fr_readsWholePath (b := p39) e39) (by first | decide | simp) (by decide))
          · obtain ⟨r52, e52, h⟩ := gI_bd h
            rw [← Option.some.inj h]
            exact (gFr_t (gFr_r [] [18, 19, 20, 21, 23] _) (fr_readsWholePath (b := p39) e39) (by first | decide | simp) (by decide))
theorem ok_look {sh : gS} {M : gM} {a1 a2 a3 : Int} {b : Int × gM} (hOK : gOK sh M) (h : F_look M a1 a2 a3 = some b) : gC (gr 6 138) yX12_look cX12_look 4 (some (.int)) [(4, 711), (0, a1), (0, a2), (0, a3)] sh M (gPq sh (some (0, b.1)) b.2) := by
  rw [eq_look] at h
  refine gC_ofA (lv := [_, _, _, _]) (by decide +kernel) (Nat.le_of_ble_eq_true rfl) rfl (fun hMw hav => ?_)
  refine g_aload_n (q0 := 1) (j := 0) rfl dX12_look_0 rfl ?_
  refine g_iload_n (q0 := 2) (j := 1) rfl dX12_look_1 rfl ?_
  obtain ⟨r2, e2, h⟩ := gI_bd h
  refine g_callVq1 (as := [_]) (rest := []) mt_X12_isCommit mi_X12_isCommit se_X12_isCommit ml_X12_229 dX12_look_2 (q0 := 5) rfl rfl (sh_711 hOK) rfl rfl (ok_isCommit hOK e2) rfl ⟨by decide, by decide⟩ (Nat.le_of_ble_eq_true rfl) ⟨Nat.zero_le _, Nat.zero_le _⟩ ?_
  refine g_if_eq (q0 := 8) (tgt := 35) rfl dX12_look_5 (by decide) (fun h5 => ?_) (fun h5 => ?_)
  · replace h := gI_pos h5 h
    refine g_iconst (q0 := 36) rfl dX12_look_35 (k := ?_)
    rw [← Option.some.inj h]
    refine g_ireturn dX12_look_36 rfl ⟨Nat.zero_le _, Nat.zero_le _⟩ ?_
    exact ⟨rfl, rfl, rfl⟩
  · replace h := gI_neg h5 h
    refine g_iload_n (q0 := 9) (j := 2) rfl dX12_look_8 rfl ?_
    refine g_iconst (q0 := 10) rfl dX12_look_9 (k := ?_)
    refine g_bipush (q0 := 12) rfl dX12_look_10 (k := ?_)
    obtain ⟨r12, e12, h⟩ := gI_bd h
    refine g_callSq1 (as := [_, _, _]) (rest := []) mt_X12_in ms_X12_in ml_X12_182 dX12_look_12 (q0 := 15) rfl rfl (ok_in hOK e12) rfl ⟨by decide, by decide⟩ (Nat.le_of_ble_eq_true rfl) ⟨Nat.zero_le _, Nat.zero_le _⟩ ?_
    refine g_if_eq (q0 := 18) (tgt := 35) rfl dX12_look_15 (by decide) (fun h15 => ?_) (fun h15 => ?_)
    · replace h := gI_pos h15 h
      refine g_iconst (q0 := 36) rfl dX12_look_35 (k := ?_)
      rw [← Option.some.inj h]
      refine g_ireturn dX12_look_36 rfl ⟨Nat.zero_le _, Nat.zero_le _⟩ ?_
      exact ⟨rfl, rfl, rfl⟩
    · replace h := gI_neg h15 h
      refine g_iload_n (q0 := 19) (j := 3) rfl dX12_look_18 rfl ?_
      refine g_iconst (q0 := 20) rfl dX12_look_19 (k := ?_)
      refine g_iconst (q0 := 21) rfl dX12_look_20 (k := ?_)
      obtain ⟨r21, e21, h⟩ := gI_bd h
      refine g_callSq1 (as := [_, _, _]) (rest := []) mt_X12_in ms_X12_in ml_X12_182 dX12_look_21 (q0 := 24) rfl rfl (ok_in hOK e21) rfl ⟨by decide, by decide⟩ (Nat.le_of_ble_eq_true rfl) ⟨Nat.zero_le _, Nat.zero_le _⟩ ?_
      refine g_if_eq (q0 := 27) (tgt := 35) rfl dX12_look_24 (by decide) (fun h24 => ?_) (fun h24 => ?_)
      · replace h := gI_pos h24 h
        refine g_iconst (q0 := 36) rfl dX12_look_35 (k := ?_)
        rw [← Option.some.inj h]
        refine g_ireturn dX12_look_36 rfl ⟨Nat.zero_le _, Nat.zero_le _⟩ ?_
        exact ⟨rfl, rfl, rfl⟩
      · replace h := gI_neg h24 h
        refine g_iload_n (q0 := 28) (j := 2) rfl dX12_look_27 rfl ?_
        refine g_aload_n (q0 := 29) (j := 0) rfl dX12_look_28 rfl ?_
        refine g_getf (q0 := 32) (t := 0) (fi := 18) rfl rfl ff_X12_249 dX12_look_29 rfl (sh_711 hOK) ?_
        refine g_icmp_le (q0 := 35) (tgt := 37) rfl dX12_look_32 (by decide) (fun h32 => ?_) (fun h32 => ?_)
        · replace h := gI_neg (Int.not_lt.mpr h32) h
          refine g_aload_n (q0 := 38) (j := 0) rfl dX12_look_37 rfl ?_
          refine g_iload_n (q0 := 39) (j := 2) rfl dX12_look_38 rfl ?_
          obtain ⟨p39, e39, h⟩ := gI_bd h
          refine g_callVq1 (as := [_]) (rest := []) mt_X12_readsWholePath mi_X12_readsWholePath se_X12_readsWholePath ml_X12_680 dX12_look_39 (q0 := 42) rfl rfl (sh_711 hOK) rfl rfl (ok_readsWholePath hOK e39) rfl ⟨by decide, by decide⟩ (Nat.le_of_ble_eq_true rfl) ⟨Nat.zero_le _, Nat.zero_le _⟩ ?_
          have hOK1 : gOK sh p39.2 := gOK_fr hOK (fr_readsWholePath (b := p39) e39) (by first | decide | (intro a ha; simp only [List.mem_cons, List.not_mem_nil, or_false] at ha; omega)) (by decide)
          refine g_if_eq (q0 := 45) (tgt := 58) rfl dX12_look_42 (by decide) (fun h42 => ?_) (fun h42 => ?_)
          · replace h := gI_pos h42 h
            refine g_aload_n (q0 := 59) (j := 0) rfl dX12_look_58 rfl ?_
            refine g_getf (q0 := 62) (t := 0) (fi := 21) rfl rfl ff_X12_262 dX12_look_59 rfl (sh_711 hOK1) ?_
            rw [← Option.some.inj h]
            refine g_ireturn dX12_look_62 rfl ⟨Nat.zero_le _, Nat.zero_le _⟩ ?_
            exact ⟨rfl, rfl, rfl⟩
          · replace h := gI_neg h42 h
            refine g_aload_n (q0 := 46) (j := 0) rfl dX12_look_45 rfl ?_
            refine g_iload_n (q0 := 47) (j := 1) rfl dX12_look_46 rfl ?_
            refine g_aload_n (q0 := 48) (j := 0) rfl dX12_look_47 rfl ?_
            refine g_getf (q0 := 51) (t := 0) (fi := 23) rfl rfl ff_X12_278 dX12_look_48 rfl (sh_711 hOK1) ?_
            refine g_iload_n (q0 := 52) (j := 3) rfl dX12_look_51 rfl ?_
            obtain ⟨r52, e52, h⟩ := gI_bd h
            refine g_callVq1 (as := [_, _, _]) (rest := []) mt_X12_lookAt mi_X12_lookAt se_X12_lookAt ml_X12_683 dX12_look_52 (q0 := 55) rfl rfl (sh_711 hOK1) rfl rfl (ok_lookAt hOK1 e52) rfl ⟨by decide, by decide⟩ (Nat.le_of_ble_eq_true rfl) ⟨Nat.zero_le _, Nat.zero_le _⟩ ?_
            refine g_goto (tgt := 62) dX12_look_55 (by decide) ?_
            rw [← Option.some.inj h]
            refine g_ireturn dX12_look_62 rfl ⟨Nat.zero_le _, Nat.zero_le _⟩ ?_
            exact ⟨rfl, rfl, rfl⟩
        · replace h := gI_pos h32 h
          refine g_iconst (q0 := 36) rfl dX12_look_35 (k := ?_)
          rw [← Option.some.inj h]
          refine g_ireturn dX12_look_36 rfl ⟨Nat.zero_le _, Nat.zero_le _⟩ ?_
          exact ⟨rfl, rfl, rfl⟩
-- ==== hasChild
theorem dX12_hasChild_0 : decode cX12_hasChild 0 = .ok (.iload_n 1, 1) := by decide +kernel
theorem dX12_hasChild_1 : decode cX12_hasChild 1 = .ok (.iconst 1, 1) := by decide +kernel
theorem dX12_hasChild_2 : decode cX12_hasChild 2 = .ok (.iadd, 1) := by decide +kernel
theorem dX12_hasChild_3 : decode cX12_hasChild 3 = .ok (.istore_n 3, 1) := by decide +kernel
theorem dX12_hasChild_4 : decode cX12_hasChild 4 = .ok (.iload_n 3, 1) := by decide +kernel
theorem dX12_hasChild_5 : decode cX12_hasChild 5 = .ok (.aload_n 0, 1) := by decide +kernel
theorem dX12_hasChild_6 : decode cX12_hasChild 6 = .ok (.getfield 178, 3) := by decide +kernel
theorem dX12_hasChild_9 : decode cX12_hasChild 9 = .ok (.if_icmp .ge 48, 3) := by decide +kernel
theorem dX12_hasChild_12 : decode cX12_hasChild 12 = .ok (.iconst 0, 1) := by decide +kernel
theorem dX12_hasChild_13 : decode cX12_hasChild 13 = .ok (.istore 4, 2) := by decide +kernel
theorem dX12_hasChild_15 : decode cX12_hasChild 15 = .ok (.iload 4, 2) := by decide +kernel
theorem dX12_hasChild_17 : decode cX12_hasChild 17 = .ok (.aload_n 0, 1) := by decide +kernel
theorem dX12_hasChild_18 : decode cX12_hasChild 18 = .ok (.getfield 7, 3) := by decide +kernel
theorem dX12_hasChild_21 : decode cX12_hasChild 21 = .ok (.iload_n 3, 1) := by decide +kernel
theorem dX12_hasChild_22 : decode cX12_hasChild 22 = .ok (.iaload, 1) := by decide +kernel
theorem dX12_hasChild_23 : decode cX12_hasChild 23 = .ok (.if_icmp .ge 28, 3) := by decide +kernel
theorem dX12_hasChild_26 : decode cX12_hasChild 26 = .ok (.aload_n 2, 1) := by decide +kernel
theorem dX12_hasChild_27 : decode cX12_hasChild 27 = .ok (.iload_n 3, 1) := by decide +kernel
theorem dX12_hasChild_28 : decode cX12_hasChild 28 = .ok (.baload, 1) := by decide +kernel
theorem dX12_hasChild_29 : decode cX12_hasChild 29 = .ok (.ifCond .eq 22, 3) := by decide +kernel
theorem dX12_hasChild_32 : decode cX12_hasChild 32 = .ok (.aload_n 0, 1) := by decide +kernel
theorem dX12_hasChild_33 : decode cX12_hasChild 33 = .ok (.iload_n 3, 1) := by decide +kernel
theorem dX12_hasChild_34 : decode cX12_hasChild 34 = .ok (.iload 4, 2) := by decide +kernel
theorem dX12_hasChild_36 : decode cX12_hasChild 36 = .ok (.invokevirtual 192, 3) := by decide +kernel
theorem dX12_hasChild_39 : decode cX12_hasChild 39 = .ok (.iload_n 1, 1) := by decide +kernel
theorem dX12_hasChild_40 : decode cX12_hasChild 40 = .ok (.if_icmp .ne 5, 3) := by decide +kernel
theorem dX12_hasChild_43 : decode cX12_hasChild 43 = .ok (.iconst 1, 1) := by decide +kernel
theorem dX12_hasChild_44 : decode cX12_hasChild 44 = .ok (.ireturn, 1) := by decide +kernel
theorem dX12_hasChild_45 : decode cX12_hasChild 45 = .ok (.iinc 4 1, 3) := by decide +kernel
theorem dX12_hasChild_48 : decode cX12_hasChild 48 = .ok (.goto (-33), 3) := by decide +kernel
theorem dX12_hasChild_51 : decode cX12_hasChild 51 = .ok (.iinc 3 1, 3) := by decide +kernel
theorem dX12_hasChild_54 : decode cX12_hasChild 54 = .ok (.goto (-50), 3) := by decide +kernel
theorem dX12_hasChild_57 : decode cX12_hasChild 57 = .ok (.iconst 0, 1) := by decide +kernel
theorem dX12_hasChild_58 : decode cX12_hasChild 58 = .ok (.ireturn, 1) := by decide +kernel
noncomputable def st_hasChild (M : gM) : Nat × List Int → Option ((Nat × List Int) ⊕ (Int))
  | (0, [x1, a2, x3]) => (if gRw a2 then
      (if x3 < (M 711 0) then
        some (.inl (1, [x1, a2, x3, 0]))
      else
        some (.inr 0))
    else none)
  | (1, [x1, a2, x3, x4]) => (if gRw a2 then
      (if 0 ≤ x3 ∧ x3 < 120 then
        (if x4 < (M 712 x3) then
          (if (M a2 x3) = 0 then
            some (.inl (0, [x1, a2, (gw32 (x3 + 1))]))
          else
            (Option.bind (F_parentAt M x3 x4) (fun r36 =>
              (if r36 = x1 then
                some (.inr 1)
              else
                some (.inl (1, [x1, a2, x3, (gw32 (x4 + 1))]))))))
        else
          some (.inl (0, [x1, a2, (gw32 (x3 + 1))])))
      else none)
    else none)
  | _ => none
theorem sk_hasChild_4 (k : Nat × List Int → Option (Int)) (M : gM) (x1 a2 x3 : Int) : gWk k (st_hasChild M (0, [x1, a2, x3])) = (if gRw a2 then
    (if x3 < (M 711 0) then
      k (1, [x1, a2, x3, 0])
    else
      some 0)
  else none) := by
  simp only [st_hasChild, gWk_ite, gWk_bind, gWk_inl, gWk_inr, gWk_none]
theorem sk_hasChild_15 (k : Nat × List Int → Option (Int)) (M : gM) (x1 a2 x3 x4 : Int) : gWk k (st_hasChild M (1, [x1, a2, x3, x4])) = (if gRw a2 then
    (if 0 ≤ x3 ∧ x3 < 120 then
      (if x4 < (M 712 x3) then
        (if (M a2 x3) = 0 then
          k (0, [x1, a2, (gw32 (x3 + 1))])
        else
          (Option.bind (F_parentAt M x3 x4) (fun r36 =>
            (if r36 = x1 then
              some 1
            else
              k (1, [x1, a2, x3, (gw32 (x4 + 1))])))))
      else
        k (0, [x1, a2, (gw32 (x3 + 1))]))
    else none)
  else none) := by
  simp only [st_hasChild, gWk_ite, gWk_bind, gWk_inl, gWk_inr, gWk_none]
noncomputable def F_hasChild_4 (M : gM) (x1 a2 x3 : Int) : Option (Int) := gWh (st_hasChild M) (0, [x1, a2, x3])
noncomputable def F_hasChild_15 (M : gM) (x1 a2 x3 x4 : Int) : Option (Int) := gWh (st_hasChild M) (1, [x1, a2, x3, x4])
theorem eq_hasChild_4 (M : gM) (x1 a2 x3 : Int) : F_hasChild_4 M x1 a2 x3 = (if gRw a2 then
    (if x3 < (M 711 0) then
      F_hasChild_15 M x1 a2 x3 0
    else
      some 0)
  else none) := (gWh_eq _).trans (sk_hasChild_4 _ M x1 a2 x3)
theorem eq_hasChild_15 (M : gM) (x1 a2 x3 x4 : Int) : F_hasChild_15 M x1 a2 x3 x4 = (if gRw a2 then
    (if 0 ≤ x3 ∧ x3 < 120 then
      (if x4 < (M 712 x3) then
        (if (M a2 x3) = 0 then
          F_hasChild_4 M x1 a2 (gw32 (x3 + 1))
        else
          (Option.bind (F_parentAt M x3 x4) (fun r36 =>
            (if r36 = x1 then
              some 1
            else
              F_hasChild_15 M x1 a2 x3 (gw32 (x4 + 1))))))
      else
        F_hasChild_4 M x1 a2 (gw32 (x3 + 1)))
    else none)
  else none) := (gWh_eq _).trans (sk_hasChild_15 _ M x1 a2 x3 x4)
noncomputable def F_hasChild (M : gM) (a1 a2 : Int) : Option (Int) := (if gRw a2 then
    F_hasChild_4 M a1 a2 (gw32 (a1 + (1 : Int)))
  else none)
theorem eq_hasChild (M : gM) (a1 a2 : Int) : F_hasChild M a1 a2 = (if gRw a2 then
    F_hasChild_4 M a1 a2 (gw32 (a1 + (1 : Int)))
  else none) := rfl
theorem bop_hasChild {M : gM} : ∀ (s : Nat × List Int) (b : Int), gWh (st_hasChild M) s = some b → (∀ (x1 a2 x3 : Int), s = (0, [x1, a2, x3]) → b = 0 ∨ b = 1) ∧ (∀ (x1 a2 x3 x4 : Int), s = (1, [x1, a2, x3, x4]) → b = 0 ∨ b = 1) := by
  refine gWh_ind (fun k hk s b h => ⟨?_, ?_⟩)
  · rintro x1 a2 x3 rfl
    rw [sk_hasChild_4] at h
    obtain ⟨gr_a2, h⟩ := gI_gd h
    rcases gI_or h with h | h
    · exact (hk _ _ h).2 _ _ _ _ rfl
    · rw [← Option.some.inj h]
      exact (Or.inl rfl)
  · rintro x1 a2 x3 x4 rfl
    rw [sk_hasChild_15] at h
    obtain ⟨gr_a2, h⟩ := gI_gd h
    obtain ⟨g1, h⟩ := gI_gd h
    rcases gI_or h with h | h
    · rcases gI_or h with h | h
      · exact (hk _ _ h).1 _ _ _ rfl
      · obtain ⟨r36, e36, h⟩ := gI_bd h
        rcases gI_or h with h | h
        · rw [← Option.some.inj h]
          exact (Or.inr rfl)
        · exact (hk _ _ h).2 _ _ _ _ rfl
    · exact (hk _ _ h).1 _ _ _ rfl
theorem bo_hasChild_4 {M : gM} {x1 a2 x3 : Int} {b : Int} (h : F_hasChild_4 M x1 a2 x3 = some b) : b = 0 ∨ b = 1 :=
  (bop_hasChild _ _ h).1 _ _ _ rfl
theorem bo_hasChild_15 {M : gM} {x1 a2 x3 x4 : Int} {b : Int} (h : F_hasChild_15 M x1 a2 x3 x4 = some b) : b = 0 ∨ b = 1 :=
  (bop_hasChild _ _ h).2 _ _ _ _ rfl
theorem bo_hasChild {M : gM} {a1 a2 : Int} {b : Int} (h : F_hasChild M a1 a2 = some b) : b = 0 ∨ b = 1 := by
  rw [eq_hasChild] at h
  obtain ⟨gr_a2, h⟩ := gI_gd h
  exact bo_hasChild_4 h
theorem okp_hasChild {sh : gS} {M : gM} : ∀ (s : Nat × List Int) (b : Int), gWh (st_hasChild M) s = some b → (∀ (x1 a2 x3 : Int), s = (0, [x1, a2, x3]) → gOK sh M → gA (gr 1 22) yX12_hasChild cX12_hasChild 5 (some (.boolean)) (gPq sh (some (0, b)) M) (0, 0) 4 [(4, 711), (0, x1), (4, a2), (0, x3), (9, 0)] [] sh M) ∧ (∀ (x1 a2 x3 x4 : Int), s = (1, [x1, a2, x3, x4]) → gOK sh M → gA (gr 1 22) yX12_hasChild cX12_hasChild 5 (some (.boolean)) (gPq sh (some (0, b)) M) (0, 0) 15 [(4, 711), (0, x1), (4, a2), (0, x3), (0, x4)] [] sh M) := by
  refine gWh_ind (fun k hk s b h => ⟨?_, ?_⟩)
  · rintro x1 a2 x3 rfl hOK
    rw [sk_hasChild_4] at h
    obtain ⟨gr_a2, h⟩ := gI_gd h
    refine g_iload_n (q0 := 5) (j := 3) rfl dX12_hasChild_4 rfl ?_
    refine g_aload_n (q0 := 6) (j := 0) rfl dX12_hasChild_5 rfl ?_
    refine g_getf (q0 := 9) (t := 0) (fi := 0) rfl rfl ff_X12_178 dX12_hasChild_6 rfl (sh_711 hOK) ?_
    refine g_icmp_ge (q0 := 12) (tgt := 57) rfl dX12_hasChild_9 (by decide) (fun h9 => ?_) (fun h9 => ?_)
    · replace h := gI_neg (Int.not_lt.mpr h9) h
      refine g_iconst (q0 := 58) rfl dX12_hasChild_57 (k := ?_)
      rw [← Option.some.inj h]
      refine g_zreturn dX12_hasChild_58 rfl (gnz (Or.inl rfl)) ⟨Nat.zero_le _, Nat.zero_le _⟩ ?_
      exact ⟨rfl, rfl, rfl⟩
    · replace h := gI_pos h9 h
      refine g_iconst (q0 := 13) rfl dX12_hasChild_12 (k := ?_)
      refine g_istore (q0 := 15) (j := 4) (lv2 := [_, _, _, _, _]) rfl dX12_hasChild_13 (by decide) rfl rfl ?_
      exact (hk _ _ h).2 _ _ _ _ rfl hOK
  · rintro x1 a2 x3 x4 rfl hOK
    rw [sk_hasChild_15] at h
    obtain ⟨gr_a2, h⟩ := gI_gd h
    refine g_iload (q0 := 17) (j := 4) rfl dX12_hasChild_15 rfl ?_
    refine g_aload_n (q0 := 18) (j := 0) rfl dX12_hasChild_17 rfl ?_
    refine g_getp (q0 := 21) (b := 712) rfl ff_X12_7 dX12_hasChild_18 rfl hOK (by decide) (sh_711 hOK) rfl (by decide) ?_
    refine g_iload_n (q0 := 22) (j := 3) rfl dX12_hasChild_21 rfl ?_
    obtain ⟨g1, h⟩ := gI_gd h
    refine g_iald (q0 := 23) rfl dX12_hasChild_22 (sh_712 hOK) g1.1 g1.2 ?_
    refine g_icmp_ge (q0 := 26) (tgt := 51) rfl dX12_hasChild_23 (by decide) (fun h23 => ?_) (fun h23 => ?_)
    · replace h := gI_neg (Int.not_lt.mpr h23) h
      refine g_iincw (q0 := 54) (lv2 := [_, _, _, _, _]) rfl dX12_hasChild_51 rfl (by decide) rfl rfl ?_
      refine g_goto (tgt := 4) dX12_hasChild_54 (by decide) ?_
      refine gA_jk (lv1 := [_, _, _, _, (9, 0)]) ⟨.inl rfl, .inl rfl, .inl rfl, .inl rfl, .inr rfl, trivial⟩ ?_
      exact (hk _ _ h).1 _ _ _ rfl hOK
    · replace h := gI_pos h23 h
      refine g_aload_n (q0 := 27) (j := 2) rfl dX12_hasChild_26 rfl ?_
      refine g_iload_n (q0 := 28) (j := 3) rfl dX12_hasChild_27 rfl ?_
      refine g_zald (q0 := 29) rfl dX12_hasChild_28 (gRw_sh hOK gr_a2) g1.1 g1.2 ?_
      refine g_if_eq (q0 := 32) (tgt := 51) rfl dX12_hasChild_29 (by decide) (fun h29 => ?_) (fun h29 => ?_)
      · replace h := gI_pos h29 h
        refine g_iincw (q0 := 54) (lv2 := [_, _, _, _, _]) rfl dX12_hasChild_51 rfl (by decide) rfl rfl ?_
        refine g_goto (tgt := 4) dX12_hasChild_54 (by decide) ?_
        refine gA_jk (lv1 := [_, _, _, _, (9, 0)]) ⟨.inl rfl, .inl rfl, .inl rfl, .inl rfl, .inr rfl, trivial⟩ ?_
        exact (hk _ _ h).1 _ _ _ rfl hOK
      · replace h := gI_neg h29 h
        refine g_aload_n (q0 := 33) (j := 0) rfl dX12_hasChild_32 rfl ?_
        refine g_iload_n (q0 := 34) (j := 3) rfl dX12_hasChild_33 rfl ?_
        refine g_iload (q0 := 36) (j := 4) rfl dX12_hasChild_34 rfl ?_
        obtain ⟨r36, e36, h⟩ := gI_bd h
        refine g_callVq1 (as := [_, _]) (rest := []) mt_X12_parentAt mi_X12_parentAt se_X12_parentAt ml_X12_192 dX12_hasChild_36 (q0 := 39) rfl rfl (sh_711 hOK) rfl rfl (ok_parentAt hOK e36) rfl ⟨by decide, by decide⟩ (Nat.le_of_ble_eq_true rfl) ⟨Nat.zero_le _, Nat.zero_le _⟩ ?_
        refine g_iload_n (q0 := 40) (j := 1) rfl dX12_hasChild_39 rfl ?_
        refine g_icmp_ne (q0 := 43) (tgt := 45) rfl dX12_hasChild_40 (by decide) (fun h40 => ?_) (fun h40 => ?_)
        · replace h := gI_neg h40 h
          refine g_iincw (q0 := 48) (lv2 := [_, _, _, _, _]) rfl dX12_hasChild_45 rfl (by decide) rfl rfl ?_
          refine g_goto (tgt := 15) dX12_hasChild_48 (by decide) ?_
          exact (hk _ _ h).2 _ _ _ _ rfl hOK
        · replace h := gI_pos h40 h
          refine g_iconst (q0 := 44) rfl dX12_hasChild_43 (k := ?_)
          rw [← Option.some.inj h]
          refine g_zreturn dX12_hasChild_44 rfl (gnz (Or.inr rfl)) ⟨Nat.zero_le _, Nat.zero_le _⟩ ?_
          exact ⟨rfl, rfl, rfl⟩
theorem ok_hasChild_4 {sh : gS} {M : gM} {x1 a2 x3 : Int} {b : Int} (hOK : gOK sh M) (h : F_hasChild_4 M x1 a2 x3 = some b) : gA (gr 1 22) yX12_hasChild cX12_hasChild 5 (some (.boolean)) (gPq sh (some (0, b)) M) (0, 0) 4 [(4, 711), (0, x1), (4, a2), (0, x3), (9, 0)] [] sh M :=
  (okp_hasChild _ _ h).1 _ _ _ rfl hOK
theorem ok_hasChild_15 {sh : gS} {M : gM} {x1 a2 x3 x4 : Int} {b : Int} (hOK : gOK sh M) (h : F_hasChild_15 M x1 a2 x3 x4 = some b) : gA (gr 1 22) yX12_hasChild cX12_hasChild 5 (some (.boolean)) (gPq sh (some (0, b)) M) (0, 0) 15 [(4, 711), (0, x1), (4, a2), (0, x3), (0, x4)] [] sh M :=
  (okp_hasChild _ _ h).2 _ _ _ _ rfl hOK
theorem ok_hasChild {sh : gS} {M : gM} {a1 a2 : Int} {b : Int} (hOK : gOK sh M) (h : F_hasChild M a1 a2 = some b) : gC (gr 1 22) yX12_hasChild cX12_hasChild 5 (some (.boolean)) [(4, 711), (0, a1), (4, a2)] sh M (gPq sh (some (0, b)) M) := by
  rw [eq_hasChild] at h
  refine gC_ofA (lv := [_, _, _, _, _]) (by decide +kernel) (Nat.le_of_ble_eq_true rfl) rfl (fun hMw hav => ?_)
  obtain ⟨gr_a2, h⟩ := gI_gd h
  refine g_iload_n (q0 := 1) (j := 1) rfl dX12_hasChild_0 rfl ?_
  refine g_iconst (q0 := 2) rfl dX12_hasChild_1 (k := ?_)
  refine g_iaddw (q0 := 3) rfl dX12_hasChild_2 ?_
  refine g_istore_n (q0 := 4) (j := 3) (lv2 := [_, _, _, _, _]) rfl dX12_hasChild_3 (by decide) rfl rfl ?_
  exact ok_hasChild_4 hOK h
-- ==== isFirstTree
theorem dX12_isFirstTree_0 : decode cX12_isFirstTree 0 = .ok (.iconst 0, 1) := by decide +kernel
theorem dX12_isFirstTree_1 : decode cX12_isFirstTree 1 = .ok (.istore_n 3, 1) := by decide +kernel
theorem dX12_isFirstTree_2 : decode cX12_isFirstTree 2 = .ok (.iload_n 3, 1) := by decide +kernel
theorem dX12_isFirstTree_3 : decode cX12_isFirstTree 3 = .ok (.iload_n 1, 1) := by decide +kernel
theorem dX12_isFirstTree_4 : decode cX12_isFirstTree 4 = .ok (.if_icmp .ge 26, 3) := by decide +kernel
theorem dX12_isFirstTree_7 : decode cX12_isFirstTree 7 = .ok (.aload_n 2, 1) := by decide +kernel
theorem dX12_isFirstTree_8 : decode cX12_isFirstTree 8 = .ok (.iload_n 3, 1) := by decide +kernel
theorem dX12_isFirstTree_9 : decode cX12_isFirstTree 9 = .ok (.baload, 1) := by decide +kernel
theorem dX12_isFirstTree_10 : decode cX12_isFirstTree 10 = .ok (.ifCond .eq 14, 3) := by decide +kernel
theorem dX12_isFirstTree_13 : decode cX12_isFirstTree 13 = .ok (.aload_n 0, 1) := by decide +kernel
theorem dX12_isFirstTree_14 : decode cX12_isFirstTree 14 = .ok (.iload_n 3, 1) := by decide +kernel
theorem dX12_isFirstTree_15 : decode cX12_isFirstTree 15 = .ok (.iload_n 1, 1) := by decide +kernel
theorem dX12_isFirstTree_16 : decode cX12_isFirstTree 16 = .ok (.invokevirtual 195, 3) := by decide +kernel
theorem dX12_isFirstTree_19 : decode cX12_isFirstTree 19 = .ok (.ifCond .eq 5, 3) := by decide +kernel
theorem dX12_isFirstTree_22 : decode cX12_isFirstTree 22 = .ok (.iconst 0, 1) := by decide +kernel
theorem dX12_isFirstTree_23 : decode cX12_isFirstTree 23 = .ok (.ireturn, 1) := by decide +kernel
theorem dX12_isFirstTree_24 : decode cX12_isFirstTree 24 = .ok (.iinc 3 1, 3) := by decide +kernel
theorem dX12_isFirstTree_27 : decode cX12_isFirstTree 27 = .ok (.goto (-25), 3) := by decide +kernel
theorem dX12_isFirstTree_30 : decode cX12_isFirstTree 30 = .ok (.iconst 1, 1) := by decide +kernel
theorem dX12_isFirstTree_31 : decode cX12_isFirstTree 31 = .ok (.ireturn, 1) := by decide +kernel
noncomputable def st_isFirstTree (M : gM) : Nat × List Int → Option ((Nat × List Int) ⊕ (Int))
  | (0, [x1, a2, x3]) => (if gRw a2 then
      (if x3 < x1 then
        (if 0 ≤ x3 ∧ x3 < 120 then
          (if (M a2 x3) = 0 then
            some (.inl (0, [x1, a2, (gw32 (x3 + 1))]))
          else
            (Option.bind (F_areLike M x3 x1) (fun r16 =>
              (if r16 = 0 then
                some (.inl (0, [x1, a2, (gw32 (x3 + 1))]))
              else
                some (.inr 0)))))
        else none)
      else
        some (.inr 1))
    else none)
  | _ => none
theorem sk_isFirstTree_2 (k : Nat × List Int → Option (Int)) (M : gM) (x1 a2 x3 : Int) : gWk k (st_isFirstTree M (0, [x1, a2, x3])) = (if gRw a2 then
    (if x3 < x1 then
      (if 0 ≤ x3 ∧ x3 < 120 then
        (if (M a2 x3) = 0 then
          k (0, [x1, a2, (gw32 (x3 + 1))])
        else
          (Option.bind (F_areLike M x3 x1) (fun r16 =>
            (if r16 = 0 then
              k (0, [x1, a2, (gw32 (x3 + 1))])
            else
              some 0))))
      else none)
    else
      some 1)
  else none) := by
  simp only [st_isFirstTree, gWk_ite, gWk_bind, gWk_inl, gWk_inr, gWk_none]
noncomputable def F_isFirstTree_2 (M : gM) (x1 a2 x3 : Int) : Option (Int) := gWh (st_isFirstTree M) (0, [x1, a2, x3])
theorem eq_isFirstTree_2 (M : gM) (x1 a2 x3 : Int) : F_isFirstTree_2 M x1 a2 x3 = (if gRw a2 then
    (if x3 < x1 then
      (if 0 ≤ x3 ∧ x3 < 120 then
        (if (M a2 x3) = 0 then
          F_isFirstTree_2 M x1 a2 (gw32 (x3 + 1))
        else
          (Option.bind (F_areLike M x3 x1) (fun r16 =>
            (if r16 = 0 then
              F_isFirstTree_2 M x1 a2 (gw32 (x3 + 1))
            else
              some 0))))
      else none)
    else
      some 1)
  else none) := (gWh_eq _).trans (sk_isFirstTree_2 _ M x1 a2 x3)
noncomputable def F_isFirstTree (M : gM) (a1 a2 : Int) : Option (Int) := (if gRw a2 then
    F_isFirstTree_2 M a1 a2 0
  else none)
theorem eq_isFirstTree (M : gM) (a1 a2 : Int) : F_isFirstTree M a1 a2 = (if gRw a2 then
    F_isFirstTree_2 M a1 a2 0
  else none) := rfl
theorem bop_isFirstTree {M : gM} : ∀ (s : Nat × List Int) (b : Int), gWh (st_isFirstTree M) s = some b → (∀ (x1 a2 x3 : Int), s = (0, [x1, a2, x3]) → b = 0 ∨ b = 1) := by
  refine gWh_ind (fun k hk s b h => ?_)
  · rintro x1 a2 x3 rfl
    rw [sk_isFirstTree_2] at h
    obtain ⟨gr_a2, h⟩ := gI_gd h
    rcases gI_or h with h | h
    · obtain ⟨g1, h⟩ := gI_gd h
      rcases gI_or h with h | h
      · exact (hk _ _ h) _ _ _ rfl
      · obtain ⟨r16, e16, h⟩ := gI_bd h
        rcases gI_or h with h | h
        · exact (hk _ _ h) _ _ _ rfl
        · rw [← Option.some.inj h]
          exact (Or.inl rfl)
    · rw [← Option.some.inj h]
      exact (Or.inr rfl)
theorem bo_isFirstTree_2 {M : gM} {x1 a2 x3 : Int} {b : Int} (h : F_isFirstTree_2 M x1 a2 x3 = some b) : b = 0 ∨ b = 1 :=
  (bop_isFirstTree _ _ h) _ _ _ rfl
theorem bo_isFirstTree {M : gM} {a1 a2 : Int} {b : Int} (h : F_isFirstTree M a1 a2 = some b) : b = 0 ∨ b = 1 := by
  rw [eq_isFirstTree] at h
  obtain ⟨gr_a2, h⟩ := gI_gd h
  exact bo_isFirstTree_2 h
theorem okp_isFirstTree {sh : gS} {M : gM} : ∀ (s : Nat × List Int) (b : Int), gWh (st_isFirstTree M) s = some b → (∀ (x1 a2 x3 : Int), s = (0, [x1, a2, x3]) → gOK sh M → gA (gr 3 65) yX12_isFirstTree cX12_isFirstTree 4 (some (.boolean)) (gPq sh (some (0, b)) M) (0, 0) 2 [(4, 711), (0, x1), (4, a2), (0, x3)] [] sh M) := by
  refine gWh_ind (fun k hk s b h => ?_)
  · rintro x1 a2 x3 rfl hOK
    rw [sk_isFirstTree_2] at h
    obtain ⟨gr_a2, h⟩ := gI_gd h
    refine g_iload_n (q0 := 3) (j := 3) rfl dX12_isFirstTree_2 rfl ?_
    refine g_iload_n (q0 := 4) (j := 1) rfl dX12_isFirstTree_3 rfl ?_
    refine g_icmp_ge (q0 := 7) (tgt := 30) rfl dX12_isFirstTree_4 (by decide) (fun h4 => ?_) (fun h4 => ?_)
    · replace h := gI_neg (Int.not_lt.mpr h4) h
      refine g_iconst (q0 := 31) rfl dX12_isFirstTree_30 (k := ?_)
      rw [← Option.some.inj h]
      refine g_zreturn dX12_isFirstTree_31 rfl (gnz (Or.inr rfl)) ⟨Nat.zero_le _, Nat.zero_le _⟩ ?_
      exact ⟨rfl, rfl, rfl⟩
    · replace h := gI_pos h4 h
      refine g_aload_n (q0 := 8) (j := 2) rfl dX12_isFirstTree_7 rfl ?_
      refine g_iload_n (q0 := 9) (j := 3) rfl dX12_isFirstTree_8 rfl ?_
      obtain ⟨g1, h⟩ := gI_gd h
      refine g_zald (q0 := 10) rfl dX12_isFirstTree_9 (gRw_sh hOK gr_a2) g1.1 g1.2 ?_
      refine g_if_eq (q0 := 13) (tgt := 24) rfl dX12_isFirstTree_10 (by decide) (fun h10 => ?_) (fun h10 => ?_)
      · replace h := gI_pos h10 h
        refine g_iincw (q0 := 27) (lv2 := [_, _, _, _]) rfl dX12_isFirstTree_24 rfl (by decide) rfl rfl ?_
        refine g_goto (tgt := 2) dX12_isFirstTree_27 (by decide) ?_
        exact (hk _ _ h) _ _ _ rfl hOK
      · replace h := gI_neg h10 h
        refine g_aload_n (q0 := 14) (j := 0) rfl dX12_isFirstTree_13 rfl ?_
        refine g_iload_n (q0 := 15) (j := 3) rfl dX12_isFirstTree_14 rfl ?_
        refine g_iload_n (q0 := 16) (j := 1) rfl dX12_isFirstTree_15 rfl ?_
        obtain ⟨r16, e16, h⟩ := gI_bd h
        refine g_callVq1 (as := [_, _]) (rest := []) mt_X12_areLike mi_X12_areLike se_X12_areLike ml_X12_195 dX12_isFirstTree_16 (q0 := 19) rfl rfl (sh_711 hOK) rfl rfl (ok_areLike hOK e16) rfl ⟨by decide, by decide⟩ (Nat.le_of_ble_eq_true rfl) ⟨Nat.zero_le _, Nat.zero_le _⟩ ?_
        refine g_if_eq (q0 := 22) (tgt := 24) rfl dX12_isFirstTree_19 (by decide) (fun h19 => ?_) (fun h19 => ?_)
        · replace h := gI_pos h19 h
          refine g_iincw (q0 := 27) (lv2 := [_, _, _, _]) rfl dX12_isFirstTree_24 rfl (by decide) rfl rfl ?_
          refine g_goto (tgt := 2) dX12_isFirstTree_27 (by decide) ?_
          exact (hk _ _ h) _ _ _ rfl hOK
        · replace h := gI_neg h19 h
          refine g_iconst (q0 := 23) rfl dX12_isFirstTree_22 (k := ?_)
          rw [← Option.some.inj h]
          refine g_zreturn dX12_isFirstTree_23 rfl (gnz (Or.inl rfl)) ⟨Nat.zero_le _, Nat.zero_le _⟩ ?_
          exact ⟨rfl, rfl, rfl⟩
theorem ok_isFirstTree_2 {sh : gS} {M : gM} {x1 a2 x3 : Int} {b : Int} (hOK : gOK sh M) (h : F_isFirstTree_2 M x1 a2 x3 = some b) : gA (gr 3 65) yX12_isFirstTree cX12_isFirstTree 4 (some (.boolean)) (gPq sh (some (0, b)) M) (0, 0) 2 [(4, 711), (0, x1), (4, a2), (0, x3)] [] sh M :=
  (okp_isFirstTree _ _ h) _ _ _ rfl hOK
theorem ok_isFirstTree {sh : gS} {M : gM} {a1 a2 : Int} {b : Int} (hOK : gOK sh M) (h : F_isFirstTree M a1 a2 = some b) : gC (gr 3 65) yX12_isFirstTree cX12_isFirstTree 4 (some (.boolean)) [(4, 711), (0, a1), (4, a2)] sh M (gPq sh (some (0, b)) M) := by
  rw [eq_isFirstTree] at h
  refine gC_ofA (lv := [_, _, _, _]) (by decide +kernel) (Nat.le_of_ble_eq_true rfl) rfl (fun hMw hav => ?_)
  obtain ⟨gr_a2, h⟩ := gI_gd h
  refine g_iconst (q0 := 1) rfl dX12_isFirstTree_0 (k := ?_)
  refine g_istore_n (q0 := 2) (j := 3) (lv2 := [_, _, _, _]) rfl dX12_isFirstTree_1 (by decide) rfl rfl ?_
  exact ok_isFirstTree_2 hOK h
-- ==== counts
theorem dX12_counts_0 : decode cX12_counts 0 = .ok (.iload_n 2, 1) := by decide +kernel
theorem dX12_counts_1 : decode cX12_counts 1 = .ok (.tableswitch 82 1 4 #[31, 33, 48, 64], 31) := by decide +kernel
theorem dX12_counts_32 : decode cX12_counts 32 = .ok (.iconst 1, 1) := by decide +kernel
theorem dX12_counts_33 : decode cX12_counts 33 = .ok (.ireturn, 1) := by decide +kernel
theorem dX12_counts_34 : decode cX12_counts 34 = .ok (.aload_n 0, 1) := by decide +kernel
theorem dX12_counts_35 : decode cX12_counts 35 = .ok (.getfield 7, 3) := by decide +kernel
theorem dX12_counts_38 : decode cX12_counts 38 = .ok (.iload_n 1, 1) := by decide +kernel
theorem dX12_counts_39 : decode cX12_counts 39 = .ok (.iaload, 1) := by decide +kernel
theorem dX12_counts_40 : decode cX12_counts 40 = .ok (.ifCond .ne 7, 3) := by decide +kernel
theorem dX12_counts_43 : decode cX12_counts 43 = .ok (.iconst 1, 1) := by decide +kernel
theorem dX12_counts_44 : decode cX12_counts 44 = .ok (.goto 4, 3) := by decide +kernel
theorem dX12_counts_47 : decode cX12_counts 47 = .ok (.iconst 0, 1) := by decide +kernel
theorem dX12_counts_48 : decode cX12_counts 48 = .ok (.ireturn, 1) := by decide +kernel
theorem dX12_counts_49 : decode cX12_counts 49 = .ok (.aload_n 0, 1) := by decide +kernel
theorem dX12_counts_50 : decode cX12_counts 50 = .ok (.getfield 7, 3) := by decide +kernel
theorem dX12_counts_53 : decode cX12_counts 53 = .ok (.iload_n 1, 1) := by decide +kernel
theorem dX12_counts_54 : decode cX12_counts 54 = .ok (.iaload, 1) := by decide +kernel
theorem dX12_counts_55 : decode cX12_counts 55 = .ok (.iconst 1, 1) := by decide +kernel
theorem dX12_counts_56 : decode cX12_counts 56 = .ok (.if_icmp .le 7, 3) := by decide +kernel
theorem dX12_counts_59 : decode cX12_counts 59 = .ok (.iconst 1, 1) := by decide +kernel
theorem dX12_counts_60 : decode cX12_counts 60 = .ok (.goto 4, 3) := by decide +kernel
theorem dX12_counts_63 : decode cX12_counts 63 = .ok (.iconst 0, 1) := by decide +kernel
theorem dX12_counts_64 : decode cX12_counts 64 = .ok (.ireturn, 1) := by decide +kernel
theorem dX12_counts_65 : decode cX12_counts 65 = .ok (.aload_n 0, 1) := by decide +kernel
theorem dX12_counts_66 : decode cX12_counts 66 = .ok (.iload_n 1, 1) := by decide +kernel
theorem dX12_counts_67 : decode cX12_counts 67 = .ok (.aload_n 0, 1) := by decide +kernel
theorem dX12_counts_68 : decode cX12_counts 68 = .ok (.getfield 47, 3) := by decide +kernel
theorem dX12_counts_71 : decode cX12_counts 71 = .ok (.invokevirtual 686, 3) := by decide +kernel
theorem dX12_counts_74 : decode cX12_counts 74 = .ok (.ifCond .ne 7, 3) := by decide +kernel
theorem dX12_counts_77 : decode cX12_counts 77 = .ok (.iconst 1, 1) := by decide +kernel
theorem dX12_counts_78 : decode cX12_counts 78 = .ok (.goto 4, 3) := by decide +kernel
theorem dX12_counts_81 : decode cX12_counts 81 = .ok (.iconst 0, 1) := by decide +kernel
theorem dX12_counts_82 : decode cX12_counts 82 = .ok (.ireturn, 1) := by decide +kernel
theorem dX12_counts_83 : decode cX12_counts 83 = .ok (.aload_n 0, 1) := by decide +kernel
theorem dX12_counts_84 : decode cX12_counts 84 = .ok (.iload_n 1, 1) := by decide +kernel
theorem dX12_counts_85 : decode cX12_counts 85 = .ok (.aload_n 0, 1) := by decide +kernel
theorem dX12_counts_86 : decode cX12_counts 86 = .ok (.getfield 47, 3) := by decide +kernel
theorem dX12_counts_89 : decode cX12_counts 89 = .ok (.invokevirtual 690, 3) := by decide +kernel
theorem dX12_counts_92 : decode cX12_counts 92 = .ok (.ireturn, 1) := by decide +kernel
noncomputable def F_counts (M : gM) (a1 a2 : Int) : Option (Int) := (if a2 = 1 then
    some 1
  else
    (if a2 = 2 then
      (if 0 ≤ a1 ∧ a1 < 120 then
        (if (M 712 a1) = 0 then
          some 1
        else
          some 0)
      else none)
    else
      (if a2 = 3 then
        (if 0 ≤ a1 ∧ a1 < 120 then
          (if (1 : Int) < (M 712 a1) then
            some 1
          else
            some 0)
        else none)
      else
        (if a2 = 4 then
          (Option.bind (F_hasChild M a1 724) (fun r71 =>
            (if r71 = 0 then
              some 1
            else
              some 0)))
        else
          (Option.bind (F_isFirstTree M a1 724) (fun r89 =>
            some r89))))))
theorem eq_counts (M : gM) (a1 a2 : Int) : F_counts M a1 a2 = (if a2 = 1 then
    some 1
  else
    (if a2 = 2 then
      (if 0 ≤ a1 ∧ a1 < 120 then
        (if (M 712 a1) = 0 then
          some 1
        else
          some 0)
      else none)
    else
      (if a2 = 3 then
        (if 0 ≤ a1 ∧ a1 < 120 then
          (if (1 : Int) < (M 712 a1) then
            some 1
          else
            some 0)
        else none)
      else
        (if a2 = 4 then
          (Option.bind (F_hasChild M a1 724) (fun r71 =>
            (if r71 = 0 then
              some 1
            else
              some 0)))
        else
          (Option.bind (F_isFirstTree M a1 724) (fun r89 =>
            some r89)))))) := rfl
theorem bo_counts {M : gM} {a1 a2 : Int} {b : Int} (h : F_counts M a1 a2 = some b) : b = 0 ∨ b = 1 := by
  rw [eq_counts] at h
  rcases gI_or h with h | h
  · rw [← Option.some.inj h]
    exact (Or.inr rfl)
  · rcases gI_or h with h | h
    · obtain ⟨g2, h⟩ := gI_gd h
      rcases gI_or h with h | h
      · rw [← Option.some.inj h]
        exact (Or.inr rfl)
      · rw [← Option.some.inj h]
        exact (Or.inl rfl)
    · rcases gI_or h with h | h
      · obtain ⟨g1, h⟩ := gI_gd h
        rcases gI_or h with h | h
        · rw [← Option.some.inj h]
          exact (Or.inr rfl)
        · rw [← Option.some.inj h]
          exact (Or.inl rfl)
      · rcases gI_or h with h | h
        · obtain ⟨r71, e71, h⟩ := gI_bd h
          rcases gI_or h with h | h
          · rw [← Option.some.inj h]
            exact (Or.inr rfl)
          · rw [← Option.some.inj h]
            exact (Or.inl rfl)
        · obtain ⟨r89, e89, h⟩ := gI_bd h
          rw [← Option.some.inj h]
          exact (bo_isFirstTree (b := r89) e89)
theorem ok_counts {sh : gS} {M : gM} {a1 a2 : Int} {b : Int} (hOK : gOK sh M) (h : F_counts M a1 a2 = some b) : gC (gr 4 88) yX12_counts cX12_counts 3 (some (.boolean)) [(4, 711), (0, a1), (0, a2)] sh M (gPq sh (some (0, b)) M) := by
  rw [eq_counts] at h
  refine gC_ofA (lv := [_, _, _]) (by decide +kernel) (Nat.le_of_ble_eq_true rfl) rfl (fun hMw hav => ?_)
  refine g_iload_n (q0 := 1) (j := 2) rfl dX12_counts_0 rfl ?_
  by_cases hs0 : a2 = 1
  · replace h := gI_pos hs0 h
    refine g_tabIn (off := 31) (tgt := 32) dX12_counts_1 (by omega) (by omega) (by rw [hs0]; rfl) (by decide) ?_
    refine g_iconst (q0 := 33) rfl dX12_counts_32 (k := ?_)
    rw [← Option.some.inj h]
    refine g_zreturn dX12_counts_33 rfl (gnz (Or.inr rfl)) ⟨Nat.zero_le _, Nat.zero_le _⟩ ?_
    exact ⟨rfl, rfl, rfl⟩
  · replace h := gI_neg hs0 h
    by_cases hs1 : a2 = 2
    · replace h := gI_pos hs1 h
      refine g_tabIn (off := 33) (tgt := 34) dX12_counts_1 (by omega) (by omega) (by rw [hs1]; rfl) (by decide) ?_
      refine g_aload_n (q0 := 35) (j := 0) rfl dX12_counts_34 rfl ?_
      refine g_getp (q0 := 38) (b := 712) rfl ff_X12_7 dX12_counts_35 rfl hOK (by decide) (sh_711 hOK) rfl (by decide) ?_
      refine g_iload_n (q0 := 39) (j := 1) rfl dX12_counts_38 rfl ?_
      obtain ⟨g2, h⟩ := gI_gd h
      refine g_iald (q0 := 40) rfl dX12_counts_39 (sh_712 hOK) g2.1 g2.2 ?_
      refine g_if_ne (q0 := 43) (tgt := 47) rfl dX12_counts_40 (by decide) (fun h40 => ?_) (fun h40 => ?_)
      · replace h := gI_neg h40 h
        refine g_iconst (q0 := 48) rfl dX12_counts_47 (k := ?_)
        rw [← Option.some.inj h]
        refine g_zreturn dX12_counts_48 rfl (gnz (Or.inl rfl)) ⟨Nat.zero_le _, Nat.zero_le _⟩ ?_
        exact ⟨rfl, rfl, rfl⟩
      · replace h := gI_pos h40 h
        refine g_iconst (q0 := 44) rfl dX12_counts_43 (k := ?_)
        refine g_goto (tgt := 48) dX12_counts_44 (by decide) ?_
        rw [← Option.some.inj h]
        refine g_zreturn dX12_counts_48 rfl (gnz (Or.inr rfl)) ⟨Nat.zero_le _, Nat.zero_le _⟩ ?_
        exact ⟨rfl, rfl, rfl⟩
    · replace h := gI_neg hs1 h
      by_cases hs2 : a2 = 3
      · replace h := gI_pos hs2 h
        refine g_tabIn (off := 48) (tgt := 49) dX12_counts_1 (by omega) (by omega) (by rw [hs2]; rfl) (by decide) ?_
        refine g_aload_n (q0 := 50) (j := 0) rfl dX12_counts_49 rfl ?_
        refine g_getp (q0 := 53) (b := 712) rfl ff_X12_7 dX12_counts_50 rfl hOK (by decide) (sh_711 hOK) rfl (by decide) ?_
        refine g_iload_n (q0 := 54) (j := 1) rfl dX12_counts_53 rfl ?_
        obtain ⟨g1, h⟩ := gI_gd h
        refine g_iald (q0 := 55) rfl dX12_counts_54 (sh_712 hOK) g1.1 g1.2 ?_
        refine g_iconst (q0 := 56) rfl dX12_counts_55 (k := ?_)
        refine g_icmp_le (q0 := 59) (tgt := 63) rfl dX12_counts_56 (by decide) (fun h56 => ?_) (fun h56 => ?_)
        · replace h := gI_neg (Int.not_lt.mpr h56) h
          refine g_iconst (q0 := 64) rfl dX12_counts_63 (k := ?_)
          rw [← Option.some.inj h]
          refine g_zreturn dX12_counts_64 rfl (gnz (Or.inl rfl)) ⟨Nat.zero_le _, Nat.zero_le _⟩ ?_
          exact ⟨rfl, rfl, rfl⟩
        · replace h := gI_pos h56 h
          refine g_iconst (q0 := 60) rfl dX12_counts_59 (k := ?_)
          refine g_goto (tgt := 64) dX12_counts_60 (by decide) ?_
          rw [← Option.some.inj h]
          refine g_zreturn dX12_counts_64 rfl (gnz (Or.inr rfl)) ⟨Nat.zero_le _, Nat.zero_le _⟩ ?_
          exact ⟨rfl, rfl, rfl⟩
      · replace h := gI_neg hs2 h
        by_cases hs3 : a2 = 4
        · replace h := gI_pos hs3 h
          refine g_tabIn (off := 64) (tgt := 65) dX12_counts_1 (by omega) (by omega) (by rw [hs3]; rfl) (by decide) ?_
          refine g_aload_n (q0 := 66) (j := 0) rfl dX12_counts_65 rfl ?_
          refine g_iload_n (q0 := 67) (j := 1) rfl dX12_counts_66 rfl ?_
          refine g_aload_n (q0 := 68) (j := 0) rfl dX12_counts_67 rfl ?_
          refine g_getp (q0 := 71) (b := 724) rfl ff_X12_47 dX12_counts_68 rfl hOK (by decide) (sh_711 hOK) rfl (by decide) ?_
          obtain ⟨r71, e71, h⟩ := gI_bd h
          refine g_callVq1 (as := [_, _]) (rest := []) mt_X12_hasChild mi_X12_hasChild se_X12_hasChild ml_X12_686 dX12_counts_71 (q0 := 74) rfl rfl (sh_711 hOK) rfl rfl (ok_hasChild hOK e71) rfl ⟨by decide, by decide⟩ (Nat.le_of_ble_eq_true rfl) ⟨Nat.zero_le _, Nat.zero_le _⟩ ?_
          refine g_if_ne (q0 := 77) (tgt := 81) rfl dX12_counts_74 (by decide) (fun h74 => ?_) (fun h74 => ?_)
          · replace h := gI_neg h74 h
            refine g_iconst (q0 := 82) rfl dX12_counts_81 (k := ?_)
            rw [← Option.some.inj h]
            refine g_zreturn dX12_counts_82 rfl (gnz (Or.inl rfl)) ⟨Nat.zero_le _, Nat.zero_le _⟩ ?_
            exact ⟨rfl, rfl, rfl⟩
          · replace h := gI_pos h74 h
            refine g_iconst (q0 := 78) rfl dX12_counts_77 (k := ?_)
            refine g_goto (tgt := 82) dX12_counts_78 (by decide) ?_
            rw [← Option.some.inj h]
            refine g_zreturn dX12_counts_82 rfl (gnz (Or.inr rfl)) ⟨Nat.zero_le _, Nat.zero_le _⟩ ?_
            exact ⟨rfl, rfl, rfl⟩
        · replace h := gI_neg hs3 h
          refine g_tabOut (tgt := 83) dX12_counts_1 (by omega) (by decide) ?_
          refine g_aload_n (q0 := 84) (j := 0) rfl dX12_counts_83 rfl ?_
          refine g_iload_n (q0 := 85) (j := 1) rfl dX12_counts_84 rfl ?_
          refine g_aload_n (q0 := 86) (j := 0) rfl dX12_counts_85 rfl ?_
          refine g_getp (q0 := 89) (b := 724) rfl ff_X12_47 dX12_counts_86 rfl hOK (by decide) (sh_711 hOK) rfl (by decide) ?_
          obtain ⟨r89, e89, h⟩ := gI_bd h
          refine g_callVq1 (as := [_, _]) (rest := []) mt_X12_isFirstTree mi_X12_isFirstTree se_X12_isFirstTree ml_X12_690 dX12_counts_89 (q0 := 92) rfl rfl (sh_711 hOK) rfl rfl (ok_isFirstTree hOK e89) rfl ⟨by decide, by decide⟩ (Nat.le_of_ble_eq_true rfl) ⟨Nat.zero_le _, Nat.zero_le _⟩ ?_
          rw [← Option.some.inj h]
          refine g_zreturn dX12_counts_92 rfl (gnz (bo_isFirstTree (b := r89) e89)) ⟨Nat.zero_le _, Nat.zero_le _⟩ ?_
          exact ⟨rfl, rfl, rfl⟩
-- ==== historyIs
theorem dX12_historyIs_0 : decode cX12_historyIs 0 = .ok (.iload_n 1, 1) := by decide +kernel
theorem dX12_historyIs_1 : decode cX12_historyIs 1 = .ok (.invokestatic 353, 3) := by decide +kernel
theorem dX12_historyIs_4 : decode cX12_historyIs 4 = .ok (.ifCond .eq 13, 3) := by decide +kernel
theorem dX12_historyIs_7 : decode cX12_historyIs 7 = .ok (.iload_n 2, 1) := by decide +kernel
theorem dX12_historyIs_8 : decode cX12_historyIs 8 = .ok (.iconst 0, 1) := by decide +kernel
theorem dX12_historyIs_9 : decode cX12_historyIs 9 = .ok (.bipush 6, 2) := by decide +kernel
theorem dX12_historyIs_11 : decode cX12_historyIs 11 = .ok (.invokestatic 182, 3) := by decide +kernel
theorem dX12_historyIs_14 : decode cX12_historyIs 14 = .ok (.ifCond .ne 5, 3) := by decide +kernel
theorem dX12_historyIs_17 : decode cX12_historyIs 17 = .ok (.iconst (-1), 1) := by decide +kernel
theorem dX12_historyIs_18 : decode cX12_historyIs 18 = .ok (.ireturn, 1) := by decide +kernel
theorem dX12_historyIs_19 : decode cX12_historyIs 19 = .ok (.iload_n 2, 1) := by decide +kernel
theorem dX12_historyIs_20 : decode cX12_historyIs 20 = .ok (.ifCond .ne 9, 3) := by decide +kernel
theorem dX12_historyIs_23 : decode cX12_historyIs 23 = .ok (.aload_n 0, 1) := by decide +kernel
theorem dX12_historyIs_24 : decode cX12_historyIs 24 = .ok (.iload_n 1, 1) := by decide +kernel
theorem dX12_historyIs_25 : decode cX12_historyIs 25 = .ok (.invokevirtual 356, 3) := by decide +kernel
theorem dX12_historyIs_28 : decode cX12_historyIs 28 = .ok (.ireturn, 1) := by decide +kernel
theorem dX12_historyIs_29 : decode cX12_historyIs 29 = .ok (.aload_n 0, 1) := by decide +kernel
theorem dX12_historyIs_30 : decode cX12_historyIs 30 = .ok (.iload_n 1, 1) := by decide +kernel
theorem dX12_historyIs_31 : decode cX12_historyIs 31 = .ok (.aload_n 0, 1) := by decide +kernel
theorem dX12_historyIs_32 : decode cX12_historyIs 32 = .ok (.getfield 47, 3) := by decide +kernel
theorem dX12_historyIs_35 : decode cX12_historyIs 35 = .ok (.invokevirtual 659, 3) := by decide +kernel
theorem dX12_historyIs_38 : decode cX12_historyIs 38 = .ok (.aload_n 0, 1) := by decide +kernel
theorem dX12_historyIs_39 : decode cX12_historyIs 39 = .ok (.invokevirtual 233, 3) := by decide +kernel
theorem dX12_historyIs_42 : decode cX12_historyIs 42 = .ok (.iload_n 2, 1) := by decide +kernel
theorem dX12_historyIs_43 : decode cX12_historyIs 43 = .ok (.iconst 5, 1) := by decide +kernel
theorem dX12_historyIs_44 : decode cX12_historyIs 44 = .ok (.if_icmp .ne 8, 3) := by decide +kernel
theorem dX12_historyIs_47 : decode cX12_historyIs 47 = .ok (.bipush (-2), 2) := by decide +kernel
theorem dX12_historyIs_49 : decode cX12_historyIs 49 = .ok (.goto 4, 3) := by decide +kernel
theorem dX12_historyIs_52 : decode cX12_historyIs 52 = .ok (.iconst 0, 1) := by decide +kernel
theorem dX12_historyIs_53 : decode cX12_historyIs 53 = .ok (.istore_n 3, 1) := by decide +kernel
theorem dX12_historyIs_54 : decode cX12_historyIs 54 = .ok (.iconst 0, 1) := by decide +kernel
theorem dX12_historyIs_55 : decode cX12_historyIs 55 = .ok (.istore 4, 2) := by decide +kernel
theorem dX12_historyIs_57 : decode cX12_historyIs 57 = .ok (.iload 4, 2) := by decide +kernel
theorem dX12_historyIs_59 : decode cX12_historyIs 59 = .ok (.aload_n 0, 1) := by decide +kernel
theorem dX12_historyIs_60 : decode cX12_historyIs 60 = .ok (.getfield 178, 3) := by decide +kernel
theorem dX12_historyIs_63 : decode cX12_historyIs 63 = .ok (.if_icmp .ge 56, 3) := by decide +kernel
theorem dX12_historyIs_66 : decode cX12_historyIs 66 = .ok (.aload_n 0, 1) := by decide +kernel
theorem dX12_historyIs_67 : decode cX12_historyIs 67 = .ok (.getfield 47, 3) := by decide +kernel
theorem dX12_historyIs_70 : decode cX12_historyIs 70 = .ok (.iload 4, 2) := by decide +kernel
theorem dX12_historyIs_72 : decode cX12_historyIs 72 = .ok (.baload, 1) := by decide +kernel
theorem dX12_historyIs_73 : decode cX12_historyIs 73 = .ok (.ifCond .ne 6, 3) := by decide +kernel
theorem dX12_historyIs_76 : decode cX12_historyIs 76 = .ok (.goto 37, 3) := by decide +kernel
theorem dX12_historyIs_79 : decode cX12_historyIs 79 = .ok (.iload_n 2, 1) := by decide +kernel
theorem dX12_historyIs_80 : decode cX12_historyIs 80 = .ok (.iconst 5, 1) := by decide +kernel
theorem dX12_historyIs_81 : decode cX12_historyIs 81 = .ok (.if_icmp .ne 18, 3) := by decide +kernel
theorem dX12_historyIs_84 : decode cX12_historyIs 84 = .ok (.iload_n 3, 1) := by decide +kernel
theorem dX12_historyIs_85 : decode cX12_historyIs 85 = .ok (.aload_n 0, 1) := by decide +kernel
theorem dX12_historyIs_86 : decode cX12_historyIs 86 = .ok (.getfield 50, 3) := by decide +kernel
theorem dX12_historyIs_89 : decode cX12_historyIs 89 = .ok (.iload 4, 2) := by decide +kernel
theorem dX12_historyIs_91 : decode cX12_historyIs 91 = .ok (.iaload, 1) := by decide +kernel
theorem dX12_historyIs_92 : decode cX12_historyIs 92 = .ok (.invokestatic 217, 3) := by decide +kernel
theorem dX12_historyIs_95 : decode cX12_historyIs 95 = .ok (.istore_n 3, 1) := by decide +kernel
theorem dX12_historyIs_96 : decode cX12_historyIs 96 = .ok (.goto 17, 3) := by decide +kernel
theorem dX12_historyIs_99 : decode cX12_historyIs 99 = .ok (.aload_n 0, 1) := by decide +kernel
theorem dX12_historyIs_100 : decode cX12_historyIs 100 = .ok (.iload 4, 2) := by decide +kernel
theorem dX12_historyIs_102 : decode cX12_historyIs 102 = .ok (.iload_n 2, 1) := by decide +kernel
theorem dX12_historyIs_103 : decode cX12_historyIs 103 = .ok (.invokevirtual 693, 3) := by decide +kernel
theorem dX12_historyIs_106 : decode cX12_historyIs 106 = .ok (.ifCond .eq 7, 3) := by decide +kernel
theorem dX12_historyIs_109 : decode cX12_historyIs 109 = .ok (.iload_n 3, 1) := by decide +kernel
theorem dX12_historyIs_110 : decode cX12_historyIs 110 = .ok (.iconst 1, 1) := by decide +kernel
theorem dX12_historyIs_111 : decode cX12_historyIs 111 = .ok (.iadd, 1) := by decide +kernel
theorem dX12_historyIs_112 : decode cX12_historyIs 112 = .ok (.istore_n 3, 1) := by decide +kernel
theorem dX12_historyIs_113 : decode cX12_historyIs 113 = .ok (.iinc 4 1, 3) := by decide +kernel
theorem dX12_historyIs_116 : decode cX12_historyIs 116 = .ok (.goto (-59), 3) := by decide +kernel
theorem dX12_historyIs_119 : decode cX12_historyIs 119 = .ok (.iload_n 3, 1) := by decide +kernel
theorem dX12_historyIs_120 : decode cX12_historyIs 120 = .ok (.ireturn, 1) := by decide +kernel
noncomputable def st_historyIs : Nat × List Int × gM → Option ((Nat × List Int × gM) ⊕ (Int × gM))
  | (0, [x1, x2, x3, x4], M) => (if x4 < (M 711 0) then
      (if 0 ≤ x4 ∧ x4 < 120 then
        (if (M 724 x4) = 0 then
          some (.inl (0, [x1, x2, x3, (gw32 (x4 + 1))], M))
        else
          (if x2 = 5 then
            (Option.bind (F_max x3 (M 725 x4)) (fun r92 =>
              some (.inl (0, [x1, x2, r92, (gw32 (x4 + 1))], M))))
          else
            (Option.bind (F_counts M x4 x2) (fun r103 =>
              (if r103 = 0 then
                some (.inl (0, [x1, x2, x3, (gw32 (x4 + 1))], M))
              else
                some (.inl (0, [x1, x2, (gw32 (x3 + (1 : Int))), (gw32 (x4 + 1))], M)))))))
      else none)
    else
      some (.inr (x3, M)))
  | _ => none
theorem sk_historyIs_57 (k : Nat × List Int × gM → Option (Int × gM)) (M : gM) (x1 x2 x3 x4 : Int) : gWk k (st_historyIs (0, [x1, x2, x3, x4], M)) = (if x4 < (M 711 0) then
    (if 0 ≤ x4 ∧ x4 < 120 then
      (if (M 724 x4) = 0 then
        k (0, [x1, x2, x3, (gw32 (x4 + 1))], M)
      else
        (if x2 = 5 then
          (Option.bind (F_max x3 (M 725 x4)) (fun r92 =>
            k (0, [x1, x2, r92, (gw32 (x4 + 1))], M)))
        else
          (Option.bind (F_counts M x4 x2) (fun r103 =>
            (if r103 = 0 then
              k (0, [x1, x2, x3, (gw32 (x4 + 1))], M)
            else
              k (0, [x1, x2, (gw32 (x3 + (1 : Int))), (gw32 (x4 + 1))], M))))))
    else none)
  else
    some (x3, M)) := by
  simp only [st_historyIs, gWk_ite, gWk_bind, gWk_inl, gWk_inr, gWk_none]
noncomputable def F_historyIs_57 (M : gM) (x1 x2 x3 x4 : Int) : Option (Int × gM) := gWh (st_historyIs) (0, [x1, x2, x3, x4], M)
theorem eq_historyIs_57 (M : gM) (x1 x2 x3 x4 : Int) : F_historyIs_57 M x1 x2 x3 x4 = (if x4 < (M 711 0) then
    (if 0 ≤ x4 ∧ x4 < 120 then
      (if (M 724 x4) = 0 then
        F_historyIs_57 M x1 x2 x3 (gw32 (x4 + 1))
      else
        (if x2 = 5 then
          (Option.bind (F_max x3 (M 725 x4)) (fun r92 =>
            F_historyIs_57 M x1 x2 r92 (gw32 (x4 + 1))))
        else
          (Option.bind (F_counts M x4 x2) (fun r103 =>
            (if r103 = 0 then
              F_historyIs_57 M x1 x2 x3 (gw32 (x4 + 1))
            else
              F_historyIs_57 M x1 x2 (gw32 (x3 + (1 : Int))) (gw32 (x4 + 1)))))))
    else none)
  else
    some (x3, M)) := (gWh_eq _).trans (sk_historyIs_57 _ M x1 x2 x3 x4)
noncomputable def F_historyIs (M : gM) (a1 a2 : Int) : Option (Int × gM) := (Option.bind (F_isHistory a1) (fun r1 =>
    (if r1 = 0 then
      some (-1, M)
    else
      (Option.bind (F_in a2 0 6) (fun r11 =>
        (if r11 = 0 then
          some (-1, M)
        else
          (if a2 = 0 then
            (Option.bind (F_refs M a1) (fun r25 =>
              some (r25, M)))
          else
            (Option.bind (F_marksHistory M a1 724) (fun m35 =>
              (Option.bind (F_laysHeights m35) (fun m39 =>
                (if a2 = 5 then
                  F_historyIs_57 m39 a1 a2 (-2) 0
                else
                  F_historyIs_57 m39 a1 a2 0 0))))))))))))
theorem eq_historyIs (M : gM) (a1 a2 : Int) : F_historyIs M a1 a2 = (Option.bind (F_isHistory a1) (fun r1 =>
    (if r1 = 0 then
      some (-1, M)
    else
      (Option.bind (F_in a2 0 6) (fun r11 =>
        (if r11 = 0 then
          some (-1, M)
        else
          (if a2 = 0 then
            (Option.bind (F_refs M a1) (fun r25 =>
              some (r25, M)))
          else
            (Option.bind (F_marksHistory M a1 724) (fun m35 =>
              (Option.bind (F_laysHeights m35) (fun m39 =>
                (if a2 = 5 then
                  F_historyIs_57 m39 a1 a2 (-2) 0
                else
                  F_historyIs_57 m39 a1 a2 0 0)))))))))))) := rfl
theorem frp_historyIs : ∀ (s : Nat × List Int × gM) (b : Int × gM), gWh (st_historyIs) s = some b → (∀ (x1 x2 x3 x4 : Int) (M : gM), s = (0, [x1, x2, x3, x4], M) → gFr [724, 725] [] M b.2) := by
  refine gWh_ind (fun k hk s b h => ?_)
  · rintro x1 x2 x3 x4 M rfl
    rw [sk_historyIs_57] at h
    rcases gI_or h with h | h
    · obtain ⟨g1, h⟩ := gI_gd h
      rcases gI_or h with h | h
      · exact gFr_t (gFr_r [724, 725] [] _) ((hk _ _ h) _ _ _ _ _ rfl) (fun _ z => z) (fun _ z => z)
      · rcases gI_or h with h | h
        · obtain ⟨r92, e92, h⟩ := gI_bd h
          exact gFr_t (gFr_r [724, 725] [] _) ((hk _ _ h) _ _ _ _ _ rfl) (fun _ z => z) (fun _ z => z)
        · obtain ⟨r103, e103, h⟩ := gI_bd h
          rcases gI_or h with h | h
          · exact gFr_t (gFr_r [724, 725] [] _) ((hk _ _ h) _ _ _ _ _ rfl) (fun _ z => z) (fun _ z => z)
          · exact gFr_t (gFr_r [724, 725] [] _) ((hk _ _ h) _ _ _ _ _ rfl) (fun _ z => z) (fun _ z => z)
    · rw [← Option.some.inj h]
      exact (gFr_r [724, 725] [] _)
theorem fr_historyIs_57 {M : gM} {x1 x2 x3 x4 : Int} {b : Int × gM} (h : F_historyIs_57 M x1 x2 x3 x4 = some b) : gFr [724, 725] [] M b.2 :=
  (frp_historyIs _ _ h) _ _ _ _ _ rfl
theorem fr_historyIs {M : gM} {a1 a2 : Int} {b : Int × gM} (h : F_historyIs M a1 a2 = some b) : gFr [724, 725] [] M b.2 := by
  rw [eq_historyIs] at h
  obtain ⟨r1, e1, h⟩ := gI_bd h
  rcases gI_or h with h | h
  · rw [← Option.some.inj h]
    exact (gFr_r [724, 725] [] _)
  · obtain ⟨r11, e11, h⟩ := gI_bd h
    rcases gI_or h with h | h
    · rw [← Option.some.inj h]
      exact (gFr_r [724, 725] [] _)
    · rcases gI_or h with h | h
      · obtain ⟨r25, e25, h⟩ := gI_bd h
        rw [← Option.some.inj h]
        exact (gFr_r [724, 725] [] _)
      · obtain ⟨m35, e35, h⟩ := gI_bd h
        obtain ⟨m39, e39, h⟩ := gI_bd h
        rcases gI_or h with h | h
        · exact gFr_t (gFr_t (gFr_t (gFr_r [724, 725] [] _) (fr_marksHistory (b := m35) e35) (by first | decide | simp) (by decide)) (fr_laysHeights (b := m39) e39) (by first | decide | simp) (by decide)) (fr_historyIs_57 h) (fun _ z => z) (fun _ z => z)
        · exact gFr_t (gFr_t (gFr_t (gFr_r [724, 725] [] _) (fr_marksHistory (b := m35) e35) (by first | decide | simp) (by decide)) (fr_laysHeights (b := m39) e39) (by first | decide | simp) (by decide)) (fr_historyIs_57 h) (fun _ z => z) (fun _ z => z)
theorem okp_historyIs {sh : gS} : ∀ (s : Nat × List Int × gM) (b : Int × gM), gWh (st_historyIs) s = some b → (∀ (x1 x2 x3 x4 : Int) (M : gM), s = (0, [x1, x2, x3, x4], M) → gOK sh M → gA (gr 5 110) yX12_historyIs cX12_historyIs 5 (some (.int)) (gPq sh (some (0, b.1)) b.2) (0, 0) 57 [(4, 711), (0, x1), (0, x2), (0, x3), (0, x4)] [] sh M) := by
  refine gWh_ind (fun k hk s b h => ?_)
  · rintro x1 x2 x3 x4 M rfl hOK
    rw [sk_historyIs_57] at h
    refine g_iload (q0 := 59) (j := 4) rfl dX12_historyIs_57 rfl ?_
    refine g_aload_n (q0 := 60) (j := 0) rfl dX12_historyIs_59 rfl ?_
    refine g_getf (q0 := 63) (t := 0) (fi := 0) rfl rfl ff_X12_178 dX12_historyIs_60 rfl (sh_711 hOK) ?_
    refine g_icmp_ge (q0 := 66) (tgt := 119) rfl dX12_historyIs_63 (by decide) (fun h63 => ?_) (fun h63 => ?_)
    · replace h := gI_neg (Int.not_lt.mpr h63) h
      refine g_iload_n (q0 := 120) (j := 3) rfl dX12_historyIs_119 rfl ?_
      rw [← Option.some.inj h]
      refine g_ireturn dX12_historyIs_120 rfl ⟨Nat.zero_le _, Nat.zero_le _⟩ ?_
      exact ⟨rfl, rfl, rfl⟩
    · replace h := gI_pos h63 h
      refine g_aload_n (q0 := 67) (j := 0) rfl dX12_historyIs_66 rfl ?_
      refine g_getp (q0 := 70) (b := 724) rfl ff_X12_47 dX12_historyIs_67 rfl hOK (by decide) (sh_711 hOK) rfl (by decide) ?_
      refine g_iload (q0 := 72) (j := 4) rfl dX12_historyIs_70 rfl ?_
      obtain ⟨g1, h⟩ := gI_gd h
      refine g_zald (q0 := 73) rfl dX12_historyIs_72 (sh_724 hOK) g1.1 g1.2 ?_
      refine g_if_ne (q0 := 76) (tgt := 79) rfl dX12_historyIs_73 (by decide) (fun h73 => ?_) (fun h73 => ?_)
      · replace h := gI_neg h73 h
        refine g_iload_n (q0 := 80) (j := 2) rfl dX12_historyIs_79 rfl ?_
        refine g_iconst (q0 := 81) rfl dX12_historyIs_80 (k := ?_)
        refine g_icmp_ne (q0 := 84) (tgt := 99) rfl dX12_historyIs_81 (by decide) (fun h81 => ?_) (fun h81 => ?_)
        · replace h := gI_neg h81 h
          refine g_aload_n (q0 := 100) (j := 0) rfl dX12_historyIs_99 rfl ?_
          refine g_iload (q0 := 102) (j := 4) rfl dX12_historyIs_100 rfl ?_
          refine g_iload_n (q0 := 103) (j := 2) rfl dX12_historyIs_102 rfl ?_
          obtain ⟨r103, e103, h⟩ := gI_bd h
          refine g_callVq1 (as := [_, _]) (rest := []) mt_X12_counts mi_X12_counts se_X12_counts ml_X12_693 dX12_historyIs_103 (q0 := 106) rfl rfl (sh_711 hOK) rfl rfl (ok_counts hOK e103) rfl ⟨by decide, by decide⟩ (Nat.le_of_ble_eq_true rfl) ⟨Nat.zero_le _, Nat.zero_le _⟩ ?_
          refine g_if_eq (q0 := 109) (tgt := 113) rfl dX12_historyIs_106 (by decide) (fun h106 => ?_) (fun h106 => ?_)
          · replace h := gI_pos h106 h
            refine g_iincw (q0 := 116) (lv2 := [_, _, _, _, _]) rfl dX12_historyIs_113 rfl (by decide) rfl rfl ?_
            refine g_goto (tgt := 57) dX12_historyIs_116 (by decide) ?_
            exact (hk _ _ h) _ _ _ _ _ rfl hOK
          · replace h := gI_neg h106 h
            refine g_iload_n (q0 := 110) (j := 3) rfl dX12_historyIs_109 rfl ?_
            refine g_iconst (q0 := 111) rfl dX12_historyIs_110 (k := ?_)
            refine g_iaddw (q0 := 112) rfl dX12_historyIs_111 ?_
            refine g_istore_n (q0 := 113) (j := 3) (lv2 := [_, _, _, _, _]) rfl dX12_historyIs_112 (by decide) rfl rfl ?_
            refine g_iincw (q0 := 116) (lv2 := [_, _, _, _, _]) rfl dX12_historyIs_113 rfl (by decide) rfl rfl ?_
            refine g_goto (tgt := 57) dX12_historyIs_116 (by decide) ?_
            exact (hk _ _ h) _ _ _ _ _ rfl hOK
        · replace h := gI_pos h81 h
          refine g_iload_n (q0 := 85) (j := 3) rfl dX12_historyIs_84 rfl ?_
          refine g_aload_n (q0 := 86) (j := 0) rfl dX12_historyIs_85 rfl ?_
          refine g_getp (q0 := 89) (b := 725) rfl ff_X12_50 dX12_historyIs_86 rfl hOK (by decide) (sh_711 hOK) rfl (by decide) ?_
          refine g_iload (q0 := 91) (j := 4) rfl dX12_historyIs_89 rfl ?_
          refine g_iald (q0 := 92) rfl dX12_historyIs_91 (sh_725 hOK) g1.1 g1.2 ?_
          obtain ⟨r92, e92, h⟩ := gI_bd h
          refine g_callSq1 (as := [_, _]) (rest := []) mt_X12_max ms_X12_max ml_X12_217 dX12_historyIs_92 (q0 := 95) rfl rfl (ok_max hOK e92) rfl ⟨by decide, by decide⟩ (Nat.le_of_ble_eq_true rfl) ⟨Nat.zero_le _, Nat.zero_le _⟩ ?_
          refine g_istore_n (q0 := 96) (j := 3) (lv2 := [_, _, _, _, _]) rfl dX12_historyIs_95 (by decide) rfl rfl ?_
          refine g_goto (tgt := 113) dX12_historyIs_96 (by decide) ?_
          refine g_iincw (q0 := 116) (lv2 := [_, _, _, _, _]) rfl dX12_historyIs_113 rfl (by decide) rfl rfl ?_
          refine g_goto (tgt := 57) dX12_historyIs_116 (by decide) ?_
          exact (hk _ _ h) _ _ _ _ _ rfl hOK
      · replace h := gI_pos h73 h
        refine g_goto (tgt := 113) dX12_historyIs_76 (by decide) ?_
        refine g_iincw (q0 := 116) (lv2 := [_, _, _, _, _]) rfl dX12_historyIs_113 rfl (by decide) rfl rfl ?_
        refine g_goto (tgt := 57) dX12_historyIs_116 (by decide) ?_
        exact (hk _ _ h) _ _ _ _ _ rfl hOK
theorem ok_historyIs_57 {sh : gS} {M : gM} {x1 x2 x3 x4 : Int} {b : Int × gM} (hOK : gOK sh M) (h : F_historyIs_57 M x1 x2 x3 x4 = some b) : gA (gr 5 110) yX12_historyIs cX12_historyIs 5 (some (.int)) (gPq sh (some (0, b.1)) b.2) (0, 0) 57 [(4, 711), (0, x1), (0, x2), (0, x3), (0, x4)] [] sh M :=
  (okp_historyIs _ _ h) _ _ _ _ _ rfl hOK
theorem ok_historyIs {sh : gS} {M : gM} {a1 a2 : Int} {b : Int × gM} (hOK : gOK sh M) (h : F_historyIs M a1 a2 = some b) : gC (gr 5 110) yX12_historyIs cX12_historyIs 5 (some (.int)) [(4, 711), (0, a1), (0, a2)] sh M (gPq sh (some (0, b.1)) b.2) := by
  rw [eq_historyIs] at h
  refine gC_ofA (lv := [_, _, _, _, _]) (by decide +kernel) (Nat.le_of_ble_eq_true rfl) rfl (fun hMw hav => ?_)
  refine g_iload_n (q0 := 1) (j := 1) rfl dX12_historyIs_0 rfl ?_
  obtain ⟨r1, e1, h⟩ := gI_bd h
  refine g_callSq1 (as := [_]) (rest := []) mt_X12_isHistory ms_X12_isHistory ml_X12_353 dX12_historyIs_1 (q0 := 4) rfl rfl (ok_isHistory hOK e1) rfl ⟨by decide, by decide⟩ (Nat.le_of_ble_eq_true rfl) ⟨Nat.zero_le _, Nat.zero_le _⟩ ?_
  refine g_if_eq (q0 := 7) (tgt := 17) rfl dX12_historyIs_4 (by decide) (fun h4 => ?_) (fun h4 => ?_)
  · replace h := gI_pos h4 h
    refine g_iconst (q0 := 18) rfl dX12_historyIs_17 (k := ?_)
    rw [← Option.some.inj h]
    refine g_ireturn dX12_historyIs_18 rfl ⟨Nat.zero_le _, Nat.zero_le _⟩ ?_
    exact ⟨rfl, rfl, rfl⟩
  · replace h := gI_neg h4 h
    refine g_iload_n (q0 := 8) (j := 2) rfl dX12_historyIs_7 rfl ?_
    refine g_iconst (q0 := 9) rfl dX12_historyIs_8 (k := ?_)
    refine g_bipush (q0 := 11) rfl dX12_historyIs_9 (k := ?_)
    obtain ⟨r11, e11, h⟩ := gI_bd h
    refine g_callSq1 (as := [_, _, _]) (rest := []) mt_X12_in ms_X12_in ml_X12_182 dX12_historyIs_11 (q0 := 14) rfl rfl (ok_in hOK e11) rfl ⟨by decide, by decide⟩ (Nat.le_of_ble_eq_true rfl) ⟨Nat.zero_le _, Nat.zero_le _⟩ ?_
    refine g_if_ne (q0 := 17) (tgt := 19) rfl dX12_historyIs_14 (by decide) (fun h14 => ?_) (fun h14 => ?_)
    · replace h := gI_neg h14 h
      refine g_iload_n (q0 := 20) (j := 2) rfl dX12_historyIs_19 rfl ?_
      refine g_if_ne (q0 := 23) (tgt := 29) rfl dX12_historyIs_20 (by decide) (fun h20 => ?_) (fun h20 => ?_)
      · replace h := gI_neg h20 h
        refine g_aload_n (q0 := 30) (j := 0) rfl dX12_historyIs_29 rfl ?_
        refine g_iload_n (q0 := 31) (j := 1) rfl dX12_historyIs_30 rfl ?_
        refine g_aload_n (q0 := 32) (j := 0) rfl dX12_historyIs_31 rfl ?_
        refine g_getp (q0 := 35) (b := 724) rfl ff_X12_47 dX12_historyIs_32 rfl hOK (by decide) (sh_711 hOK) rfl (by decide) ?_
        obtain ⟨m35, e35, h⟩ := gI_bd h
        refine g_callVq0 (as := [_, _]) (rest := []) mt_X12_marksHistory mi_X12_marksHistory se_X12_marksHistory ml_X12_659 dX12_historyIs_35 (q0 := 38) rfl rfl (sh_711 hOK) rfl rfl (ok_marksHistory hOK e35) rfl ⟨by decide, by decide⟩ (Nat.le_of_ble_eq_true rfl) ⟨Nat.zero_le _, Nat.zero_le _⟩ ?_
        have hOK2 : gOK sh m35 := gOK_fr hOK (fr_marksHistory (b := m35) e35) (by first | decide | (intro a ha; simp only [List.mem_cons, List.not_mem_nil, or_false] at ha; omega)) (by decide)
        refine g_aload_n (q0 := 39) (j := 0) rfl dX12_historyIs_38 rfl ?_
        obtain ⟨m39, e39, h⟩ := gI_bd h
        refine g_callVq0 (as := []) (rest := []) mt_X12_laysHeights mi_X12_laysHeights se_X12_laysHeights ml_X12_233 dX12_historyIs_39 (q0 := 42) rfl rfl (sh_711 hOK2) rfl rfl (ok_laysHeights hOK2 e39) rfl ⟨by decide, by decide⟩ (Nat.le_of_ble_eq_true rfl) ⟨Nat.zero_le _, Nat.zero_le _⟩ ?_
        have hOK3 : gOK sh m39 := gOK_fr hOK2 (fr_laysHeights (b := m39) e39) (by first | decide | (intro a ha; simp only [List.mem_cons, List.not_mem_nil, or_false] at ha; omega)) (by decide)
        refine g_iload_n (q0 := 43) (j := 2) rfl dX12_historyIs_42 rfl ?_
        refine g_iconst (q0 := 44) rfl dX12_historyIs_43 (k := ?_)
        refine g_icmp_ne (q0 := 47) (tgt := 52) rfl dX12_historyIs_44 (by decide) (fun h44 => ?_) (fun h44 => ?_)
        · replace h := gI_neg h44 h
          refine g_iconst (q0 := 53) rfl dX12_historyIs_52 (k := ?_)
          refine g_istore_n (q0 := 54) (j := 3) (lv2 := [_, _, _, _, _]) rfl dX12_historyIs_53 (by decide) rfl rfl ?_
          refine g_iconst (q0 := 55) rfl dX12_historyIs_54 (k := ?_)
          refine g_istore (q0 := 57) (j := 4) (lv2 := [_, _, _, _, _]) rfl dX12_historyIs_55 (by decide) rfl rfl ?_
          exact ok_historyIs_57 hOK3 h
        · replace h := gI_pos h44 h
          refine g_bipush (q0 := 49) rfl dX12_historyIs_47 (k := ?_)
          refine g_goto (tgt := 53) dX12_historyIs_49 (by decide) ?_
          refine g_istore_n (q0 := 54) (j := 3) (lv2 := [_, _, _, _, _]) rfl dX12_historyIs_53 (by decide) rfl rfl ?_
          refine g_iconst (q0 := 55) rfl dX12_historyIs_54 (k := ?_)
          refine g_istore (q0 := 57) (j := 4) (lv2 := [_, _, _, _, _]) rfl dX12_historyIs_55 (by decide) rfl rfl ?_
          exact ok_historyIs_57 hOK3 h
      · replace h := gI_pos h20 h
        refine g_aload_n (q0 := 24) (j := 0) rfl dX12_historyIs_23 rfl ?_
        refine g_iload_n (q0 := 25) (j := 1) rfl dX12_historyIs_24 rfl ?_
        obtain ⟨r25, e25, h⟩ := gI_bd h
        refine g_callVq1 (as := [_]) (rest := []) mt_X12_refs mi_X12_refs se_X12_refs ml_X12_356 dX12_historyIs_25 (q0 := 28) rfl rfl (sh_711 hOK) rfl rfl (ok_refs hOK e25) rfl ⟨by decide, by decide⟩ (Nat.le_of_ble_eq_true rfl) ⟨Nat.zero_le _, Nat.zero_le _⟩ ?_
        rw [← Option.some.inj h]
        refine g_ireturn dX12_historyIs_28 rfl ⟨Nat.zero_le _, Nat.zero_le _⟩ ?_
        exact ⟨rfl, rfl, rfl⟩
    · replace h := gI_pos h14 h
      refine g_iconst (q0 := 18) rfl dX12_historyIs_17 (k := ?_)
      rw [← Option.some.inj h]
      refine g_ireturn dX12_historyIs_18 rfl ⟨Nat.zero_le _, Nat.zero_le _⟩ ?_
      exact ⟨rfl, rfl, rfl⟩
-- ==== nextListed
theorem dX12_nextListed_0 : decode cX12_nextListed 0 = .ok (.iconst (-1), 1) := by decide +kernel
theorem dX12_nextListed_1 : decode cX12_nextListed 1 = .ok (.istore_n 1, 1) := by decide +kernel
theorem dX12_nextListed_2 : decode cX12_nextListed 2 = .ok (.iconst 0, 1) := by decide +kernel
theorem dX12_nextListed_3 : decode cX12_nextListed 3 = .ok (.istore_n 2, 1) := by decide +kernel
theorem dX12_nextListed_4 : decode cX12_nextListed 4 = .ok (.iload_n 2, 1) := by decide +kernel
theorem dX12_nextListed_5 : decode cX12_nextListed 5 = .ok (.aload_n 0, 1) := by decide +kernel
theorem dX12_nextListed_6 : decode cX12_nextListed 6 = .ok (.getfield 178, 3) := by decide +kernel
theorem dX12_nextListed_9 : decode cX12_nextListed 9 = .ok (.if_icmp .ge 52, 3) := by decide +kernel
theorem dX12_nextListed_12 : decode cX12_nextListed 12 = .ok (.aload_n 0, 1) := by decide +kernel
theorem dX12_nextListed_13 : decode cX12_nextListed 13 = .ok (.getfield 114, 3) := by decide +kernel
theorem dX12_nextListed_16 : decode cX12_nextListed 16 = .ok (.iload_n 2, 1) := by decide +kernel
theorem dX12_nextListed_17 : decode cX12_nextListed 17 = .ok (.baload, 1) := by decide +kernel
theorem dX12_nextListed_18 : decode cX12_nextListed 18 = .ok (.ifCond .eq 37, 3) := by decide +kernel
theorem dX12_nextListed_21 : decode cX12_nextListed 21 = .ok (.aload_n 0, 1) := by decide +kernel
theorem dX12_nextListed_22 : decode cX12_nextListed 22 = .ok (.iload_n 2, 1) := by decide +kernel
theorem dX12_nextListed_23 : decode cX12_nextListed 23 = .ok (.aload_n 0, 1) := by decide +kernel
theorem dX12_nextListed_24 : decode cX12_nextListed 24 = .ok (.getfield 114, 3) := by decide +kernel
theorem dX12_nextListed_27 : decode cX12_nextListed 27 = .ok (.invokevirtual 686, 3) := by decide +kernel
theorem dX12_nextListed_30 : decode cX12_nextListed 30 = .ok (.ifCond .ne 25, 3) := by decide +kernel
theorem dX12_nextListed_33 : decode cX12_nextListed 33 = .ok (.iload_n 1, 1) := by decide +kernel
theorem dX12_nextListed_34 : decode cX12_nextListed 34 = .ok (.iconst (-1), 1) := by decide +kernel
theorem dX12_nextListed_35 : decode cX12_nextListed 35 = .ok (.if_icmp .eq 18, 3) := by decide +kernel
theorem dX12_nextListed_38 : decode cX12_nextListed 38 = .ok (.aload_n 0, 1) := by decide +kernel
theorem dX12_nextListed_39 : decode cX12_nextListed 39 = .ok (.getfield 19, 3) := by decide +kernel
theorem dX12_nextListed_42 : decode cX12_nextListed 42 = .ok (.iload_n 2, 1) := by decide +kernel
theorem dX12_nextListed_43 : decode cX12_nextListed 43 = .ok (.iaload, 1) := by decide +kernel
theorem dX12_nextListed_44 : decode cX12_nextListed 44 = .ok (.aload_n 0, 1) := by decide +kernel
theorem dX12_nextListed_45 : decode cX12_nextListed 45 = .ok (.getfield 19, 3) := by decide +kernel
theorem dX12_nextListed_48 : decode cX12_nextListed 48 = .ok (.iload_n 1, 1) := by decide +kernel
theorem dX12_nextListed_49 : decode cX12_nextListed 49 = .ok (.iaload, 1) := by decide +kernel
theorem dX12_nextListed_50 : decode cX12_nextListed 50 = .ok (.if_icmp .lt 5, 3) := by decide +kernel
theorem dX12_nextListed_53 : decode cX12_nextListed 53 = .ok (.iload_n 2, 1) := by decide +kernel
theorem dX12_nextListed_54 : decode cX12_nextListed 54 = .ok (.istore_n 1, 1) := by decide +kernel
theorem dX12_nextListed_55 : decode cX12_nextListed 55 = .ok (.iinc 2 1, 3) := by decide +kernel
theorem dX12_nextListed_58 : decode cX12_nextListed 58 = .ok (.goto (-54), 3) := by decide +kernel
theorem dX12_nextListed_61 : decode cX12_nextListed 61 = .ok (.iload_n 1, 1) := by decide +kernel
theorem dX12_nextListed_62 : decode cX12_nextListed 62 = .ok (.ireturn, 1) := by decide +kernel
noncomputable def st_nextListed (M : gM) : Nat × List Int → Option ((Nat × List Int) ⊕ (Int))
  | (0, [x1, x2]) => (if x2 < (M 711 0) then
      (if 0 ≤ x2 ∧ x2 < 120 then
        (if (M 746 x2) = 0 then
          some (.inl (0, [x1, (gw32 (x2 + 1))]))
        else
          (Option.bind (F_hasChild M x2 746) (fun r27 =>
            (if r27 = 0 then
              (if x1 = -1 then
                some (.inl (0, [x2, (gw32 (x2 + 1))]))
              else
                (if 0 ≤ x1 ∧ x1 < 120 then
                  (if (M 715 x2) < (M 715 x1) then
                    some (.inl (0, [x1, (gw32 (x2 + 1))]))
                  else
                    some (.inl (0, [x2, (gw32 (x2 + 1))])))
                else none))
            else
              some (.inl (0, [x1, (gw32 (x2 + 1))]))))))
      else none)
    else
      some (.inr x1))
  | _ => none
theorem sk_nextListed_4 (k : Nat × List Int → Option (Int)) (M : gM) (x1 x2 : Int) : gWk k (st_nextListed M (0, [x1, x2])) = (if x2 < (M 711 0) then
    (if 0 ≤ x2 ∧ x2 < 120 then
      (if (M 746 x2) = 0 then
        k (0, [x1, (gw32 (x2 + 1))])
      else
        (Option.bind (F_hasChild M x2 746) (fun r27 =>
          (if r27 = 0 then
            (if x1 = -1 then
              k (0, [x2, (gw32 (x2 + 1))])
            else
              (if 0 ≤ x1 ∧ x1 < 120 then
                (if (M 715 x2) < (M 715 x1) then
                  k (0, [x1, (gw32 (x2 + 1))])
                else
                  k (0, [x2, (gw32 (x2 + 1))]))
              else none))
          else
            k (0, [x1, (gw32 (x2 + 1))])))))
    else none)
  else
    some x1) := by
  simp only [st_nextListed, gWk_ite, gWk_bind, gWk_inl, gWk_inr, gWk_none]
noncomputable def F_nextListed_4 (M : gM) (x1 x2 : Int) : Option (Int) := gWh (st_nextListed M) (0, [x1, x2])
theorem eq_nextListed_4 (M : gM) (x1 x2 : Int) : F_nextListed_4 M x1 x2 = (if x2 < (M 711 0) then
    (if 0 ≤ x2 ∧ x2 < 120 then
      (if (M 746 x2) = 0 then
        F_nextListed_4 M x1 (gw32 (x2 + 1))
      else
        (Option.bind (F_hasChild M x2 746) (fun r27 =>
          (if r27 = 0 then
            (if x1 = -1 then
              F_nextListed_4 M x2 (gw32 (x2 + 1))
            else
              (if 0 ≤ x1 ∧ x1 < 120 then
                (if (M 715 x2) < (M 715 x1) then
                  F_nextListed_4 M x1 (gw32 (x2 + 1))
                else
                  F_nextListed_4 M x2 (gw32 (x2 + 1)))
              else none))
          else
            F_nextListed_4 M x1 (gw32 (x2 + 1))))))
    else none)
  else
    some x1) := (gWh_eq _).trans (sk_nextListed_4 _ M x1 x2)
noncomputable def F_nextListed (M : gM) : Option (Int) := F_nextListed_4 M (-1) 0
theorem eq_nextListed (M : gM) : F_nextListed M = F_nextListed_4 M (-1) 0 := rfl
theorem okp_nextListed {sh : gS} {M : gM} : ∀ (s : Nat × List Int) (b : Int), gWh (st_nextListed M) s = some b → (∀ (x1 x2 : Int), s = (0, [x1, x2]) → gOK sh M → gA (gr 2 46) yX12_nextListed cX12_nextListed 3 (some (.int)) (gPq sh (some (0, b)) M) (0, 0) 4 [(4, 711), (0, x1), (0, x2)] [] sh M) := by
  refine gWh_ind (fun k hk s b h => ?_)
  · rintro x1 x2 rfl hOK
    rw [sk_nextListed_4] at h
    refine g_iload_n (q0 := 5) (j := 2) rfl dX12_nextListed_4 rfl ?_
    refine g_aload_n (q0 := 6) (j := 0) rfl dX12_nextListed_5 rfl ?_
    refine g_getf (q0 := 9) (t := 0) (fi := 0) rfl rfl ff_X12_178 dX12_nextListed_6 rfl (sh_711 hOK) ?_
    refine g_icmp_ge (q0 := 12) (tgt := 61) rfl dX12_nextListed_9 (by decide) (fun h9 => ?_) (fun h9 => ?_)
    · replace h := gI_neg (Int.not_lt.mpr h9) h
      refine g_iload_n (q0 := 62) (j := 1) rfl dX12_nextListed_61 rfl ?_
      rw [← Option.some.inj h]
      refine g_ireturn dX12_nextListed_62 rfl ⟨Nat.zero_le _, Nat.zero_le _⟩ ?_
      exact ⟨rfl, rfl, rfl⟩
    · replace h := gI_pos h9 h
      refine g_aload_n (q0 := 13) (j := 0) rfl dX12_nextListed_12 rfl ?_
      refine g_getp (q0 := 16) (b := 746) rfl ff_X12_114 dX12_nextListed_13 rfl hOK (by decide) (sh_711 hOK) rfl (by decide) ?_
      refine g_iload_n (q0 := 17) (j := 2) rfl dX12_nextListed_16 rfl ?_
      obtain ⟨g1, h⟩ := gI_gd h
      refine g_zald (q0 := 18) rfl dX12_nextListed_17 (sh_746 hOK) g1.1 g1.2 ?_
      refine g_if_eq (q0 := 21) (tgt := 55) rfl dX12_nextListed_18 (by decide) (fun h18 => ?_) (fun h18 => ?_)
      · replace h := gI_pos h18 h
        refine g_iincw (q0 := 58) (lv2 := [_, _, _]) rfl dX12_nextListed_55 rfl (by decide) rfl rfl ?_
        refine g_goto (tgt := 4) dX12_nextListed_58 (by decide) ?_
        exact (hk _ _ h) _ _ rfl hOK
      · replace h := gI_neg h18 h
        refine g_aload_n (q0 := 22) (j := 0) rfl dX12_nextListed_21 rfl ?_
        refine g_iload_n (q0 := 23) (j := 2) rfl dX12_nextListed_22 rfl ?_
        refine g_aload_n (q0 := 24) (j := 0) rfl dX12_nextListed_23 rfl ?_
        refine g_getp (q0 := 27) (b := 746) rfl ff_X12_114 dX12_nextListed_24 rfl hOK (by decide) (sh_711 hOK) rfl (by decide) ?_
        obtain ⟨r27, e27, h⟩ := gI_bd h
        refine g_callVq1 (as := [_, _]) (rest := []) mt_X12_hasChild mi_X12_hasChild se_X12_hasChild ml_X12_686 dX12_nextListed_27 (q0 := 30) rfl rfl (sh_711 hOK) rfl rfl (ok_hasChild hOK e27) rfl ⟨by decide, by decide⟩ (Nat.le_of_ble_eq_true rfl) ⟨Nat.zero_le _, Nat.zero_le _⟩ ?_
        refine g_if_ne (q0 := 33) (tgt := 55) rfl dX12_nextListed_30 (by decide) (fun h30 => ?_) (fun h30 => ?_)
        · replace h := gI_neg h30 h
          refine g_iincw (q0 := 58) (lv2 := [_, _, _]) rfl dX12_nextListed_55 rfl (by decide) rfl rfl ?_
          refine g_goto (tgt := 4) dX12_nextListed_58 (by decide) ?_
          exact (hk _ _ h) _ _ rfl hOK
        · replace h := gI_pos h30 h
          refine g_iload_n (q0 := 34) (j := 1) rfl dX12_nextListed_33 rfl ?_
          refine g_iconst (q0 := 35) rfl dX12_nextListed_34 (k := ?_)
          refine g_icmp_eq (q0 := 38) (tgt := 53) rfl dX12_nextListed_35 (by decide) (fun h35 => ?_) (fun h35 => ?_)
          · replace h := gI_pos h35 h
            refine g_iload_n (q0 := 54) (j := 2) rfl dX12_nextListed_53 rfl ?_
            refine g_istore_n (q0 := 55) (j := 1) (lv2 := [_, _, _]) rfl dX12_nextListed_54 (by decide) rfl rfl ?_
            refine g_iincw (q0 := 58) (lv2 := [_, _, _]) rfl dX12_nextListed_55 rfl (by decide) rfl rfl ?_
            refine g_goto (tgt := 4) dX12_nextListed_58 (by decide) ?_
            exact (hk _ _ h) _ _ rfl hOK
          · replace h := gI_neg h35 h
            refine g_aload_n (q0 := 39) (j := 0) rfl dX12_nextListed_38 rfl ?_
            refine g_getp (q0 := 42) (b := 715) rfl ff_X12_19 dX12_nextListed_39 rfl hOK (by decide) (sh_711 hOK) rfl (by decide) ?_
            refine g_iload_n (q0 := 43) (j := 2) rfl dX12_nextListed_42 rfl ?_
            refine g_iald (q0 := 44) rfl dX12_nextListed_43 (sh_715 hOK) g1.1 g1.2 ?_
            refine g_aload_n (q0 := 45) (j := 0) rfl dX12_nextListed_44 rfl ?_
            refine g_getp (q0 := 48) (b := 715) rfl ff_X12_19 dX12_nextListed_45 rfl hOK (by decide) (sh_711 hOK) rfl (by decide) ?_
            refine g_iload_n (q0 := 49) (j := 1) rfl dX12_nextListed_48 rfl ?_
            obtain ⟨g2, h⟩ := gI_gd h
            refine g_iald (q0 := 50) rfl dX12_nextListed_49 (sh_715 hOK) g2.1 g2.2 ?_
            refine g_icmp_lt (q0 := 53) (tgt := 55) rfl dX12_nextListed_50 (by decide) (fun h50 => ?_) (fun h50 => ?_)
            · replace h := gI_pos h50 h
              refine g_iincw (q0 := 58) (lv2 := [_, _, _]) rfl dX12_nextListed_55 rfl (by decide) rfl rfl ?_
              refine g_goto (tgt := 4) dX12_nextListed_58 (by decide) ?_
              exact (hk _ _ h) _ _ rfl hOK
            · replace h := gI_neg (Int.not_lt.mpr h50) h
              refine g_iload_n (q0 := 54) (j := 2) rfl dX12_nextListed_53 rfl ?_
              refine g_istore_n (q0 := 55) (j := 1) (lv2 := [_, _, _]) rfl dX12_nextListed_54 (by decide) rfl rfl ?_
              refine g_iincw (q0 := 58) (lv2 := [_, _, _]) rfl dX12_nextListed_55 rfl (by decide) rfl rfl ?_
              refine g_goto (tgt := 4) dX12_nextListed_58 (by decide) ?_
              exact (hk _ _ h) _ _ rfl hOK
theorem ok_nextListed_4 {sh : gS} {M : gM} {x1 x2 : Int} {b : Int} (hOK : gOK sh M) (h : F_nextListed_4 M x1 x2 = some b) : gA (gr 2 46) yX12_nextListed cX12_nextListed 3 (some (.int)) (gPq sh (some (0, b)) M) (0, 0) 4 [(4, 711), (0, x1), (0, x2)] [] sh M :=
  (okp_nextListed _ _ h) _ _ rfl hOK
theorem ok_nextListed {sh : gS} {M : gM} {b : Int} (hOK : gOK sh M) (h : F_nextListed M = some b) : gC (gr 2 46) yX12_nextListed cX12_nextListed 3 (some (.int)) [(4, 711)] sh M (gPq sh (some (0, b)) M) := by
  rw [eq_nextListed] at h
  refine gC_ofA (lv := [_, _, _]) (by decide +kernel) (Nat.le_of_ble_eq_true rfl) rfl (fun hMw hav => ?_)
  refine g_iconst (q0 := 1) rfl dX12_nextListed_0 (k := ?_)
  refine g_istore_n (q0 := 2) (j := 1) (lv2 := [_, _, _]) rfl dX12_nextListed_1 (by decide) rfl rfl ?_
  refine g_iconst (q0 := 3) rfl dX12_nextListed_2 (k := ?_)
  refine g_istore_n (q0 := 4) (j := 2) (lv2 := [_, _, _]) rfl dX12_nextListed_3 (by decide) rfl rfl ?_
  exact ok_nextListed_4 hOK h
-- ==== listing
theorem dX12_listing_0 : decode cX12_listing 0 = .ok (.iload_n 1, 1) := by decide +kernel
theorem dX12_listing_1 : decode cX12_listing 1 = .ok (.invokestatic 353, 3) := by decide +kernel
theorem dX12_listing_4 : decode cX12_listing 4 = .ok (.ifCond .eq 13, 3) := by decide +kernel
theorem dX12_listing_7 : decode cX12_listing 7 = .ok (.iload_n 2, 1) := by decide +kernel
theorem dX12_listing_8 : decode cX12_listing 8 = .ok (.iconst 0, 1) := by decide +kernel
theorem dX12_listing_9 : decode cX12_listing 9 = .ok (.bipush 119, 2) := by decide +kernel
theorem dX12_listing_11 : decode cX12_listing 11 = .ok (.invokestatic 182, 3) := by decide +kernel
theorem dX12_listing_14 : decode cX12_listing 14 = .ok (.ifCond .ne 5, 3) := by decide +kernel
theorem dX12_listing_17 : decode cX12_listing 17 = .ok (.iconst (-1), 1) := by decide +kernel
theorem dX12_listing_18 : decode cX12_listing 18 = .ok (.ireturn, 1) := by decide +kernel
theorem dX12_listing_19 : decode cX12_listing 19 = .ok (.aload_n 0, 1) := by decide +kernel
theorem dX12_listing_20 : decode cX12_listing 20 = .ok (.iload_n 1, 1) := by decide +kernel
theorem dX12_listing_21 : decode cX12_listing 21 = .ok (.aload_n 0, 1) := by decide +kernel
theorem dX12_listing_22 : decode cX12_listing 22 = .ok (.getfield 114, 3) := by decide +kernel
theorem dX12_listing_25 : decode cX12_listing 25 = .ok (.invokevirtual 659, 3) := by decide +kernel
theorem dX12_listing_28 : decode cX12_listing 28 = .ok (.aload_n 0, 1) := by decide +kernel
theorem dX12_listing_29 : decode cX12_listing 29 = .ok (.invokevirtual 696, 3) := by decide +kernel
theorem dX12_listing_32 : decode cX12_listing 32 = .ok (.istore_n 3, 1) := by decide +kernel
theorem dX12_listing_33 : decode cX12_listing 33 = .ok (.iconst 0, 1) := by decide +kernel
theorem dX12_listing_34 : decode cX12_listing 34 = .ok (.istore 4, 2) := by decide +kernel
theorem dX12_listing_36 : decode cX12_listing 36 = .ok (.iload 4, 2) := by decide +kernel
theorem dX12_listing_38 : decode cX12_listing 38 = .ok (.iload_n 2, 1) := by decide +kernel
theorem dX12_listing_39 : decode cX12_listing 39 = .ok (.if_icmp .ge 26, 3) := by decide +kernel
theorem dX12_listing_42 : decode cX12_listing 42 = .ok (.iload_n 3, 1) := by decide +kernel
theorem dX12_listing_43 : decode cX12_listing 43 = .ok (.iconst (-1), 1) := by decide +kernel
theorem dX12_listing_44 : decode cX12_listing 44 = .ok (.if_icmp .eq 21, 3) := by decide +kernel
theorem dX12_listing_47 : decode cX12_listing 47 = .ok (.aload_n 0, 1) := by decide +kernel
theorem dX12_listing_48 : decode cX12_listing 48 = .ok (.getfield 114, 3) := by decide +kernel
theorem dX12_listing_51 : decode cX12_listing 51 = .ok (.iload_n 3, 1) := by decide +kernel
theorem dX12_listing_52 : decode cX12_listing 52 = .ok (.iconst 0, 1) := by decide +kernel
theorem dX12_listing_53 : decode cX12_listing 53 = .ok (.bastore, 1) := by decide +kernel
theorem dX12_listing_54 : decode cX12_listing 54 = .ok (.aload_n 0, 1) := by decide +kernel
theorem dX12_listing_55 : decode cX12_listing 55 = .ok (.invokevirtual 696, 3) := by decide +kernel
theorem dX12_listing_58 : decode cX12_listing 58 = .ok (.istore_n 3, 1) := by decide +kernel
theorem dX12_listing_59 : decode cX12_listing 59 = .ok (.iinc 4 1, 3) := by decide +kernel
theorem dX12_listing_62 : decode cX12_listing 62 = .ok (.goto (-26), 3) := by decide +kernel
theorem dX12_listing_65 : decode cX12_listing 65 = .ok (.iload_n 3, 1) := by decide +kernel
theorem dX12_listing_66 : decode cX12_listing 66 = .ok (.iconst (-1), 1) := by decide +kernel
theorem dX12_listing_67 : decode cX12_listing 67 = .ok (.if_icmp .ne 8, 3) := by decide +kernel
theorem dX12_listing_70 : decode cX12_listing 70 = .ok (.bipush (-4), 2) := by decide +kernel
theorem dX12_listing_72 : decode cX12_listing 72 = .ok (.goto 4, 3) := by decide +kernel
theorem dX12_listing_75 : decode cX12_listing 75 = .ok (.iload_n 3, 1) := by decide +kernel
theorem dX12_listing_76 : decode cX12_listing 76 = .ok (.ireturn, 1) := by decide +kernel
noncomputable def st_listing : Nat × List Int × gM → Option ((Nat × List Int × gM) ⊕ (Int × gM))
  | (0, [x1, x2, x3, x4], M) => (if x4 < x2 then
      (if x3 = -1 then
        (if x3 = -1 then
          some (.inr (-4, M))
        else
          some (.inr (x3, M)))
      else
        (if 0 ≤ x3 ∧ x3 < 120 then
          (Option.bind (F_nextListed (gU M 746 x3 0)) (fun r55 =>
            some (.inl (0, [x1, x2, r55, (gw32 (x4 + 1))], (gU M 746 x3 0)))))
        else none))
    else
      (if x3 = -1 then
        some (.inr (-4, M))
      else
        some (.inr (x3, M))))
  | _ => none
theorem sk_listing_36 (k : Nat × List Int × gM → Option (Int × gM)) (M : gM) (x1 x2 x3 x4 : Int) : gWk k (st_listing (0, [x1, x2, x3, x4], M)) = (if x4 < x2 then
    (if x3 = -1 then
      (if x3 = -1 then
        some (-4, M)
      else
        some (x3, M))
    else
      (if 0 ≤ x3 ∧ x3 < 120 then
        (Option.bind (F_nextListed (gU M 746 x3 0)) (fun r55 =>
          k (0, [x1, x2, r55, (gw32 (x4 + 1))], (gU M 746 x3 0))))
      else none))
  else
    (if x3 = -1 then
      some (-4, M)
    else
      some (x3, M))) := by
  simp only [st_listing, gWk_ite, gWk_bind, gWk_inl, gWk_inr, gWk_none]
noncomputable def F_listing_36 (M : gM) (x1 x2 x3 x4 : Int) : Option (Int × gM) := gWh (st_listing) (0, [x1, x2, x3, x4], M)
theorem eq_listing_36 (M : gM) (x1 x2 x3 x4 : Int) : F_listing_36 M x1 x2 x3 x4 = (if x4 < x2 then
    (if x3 = -1 then
      (if x3 = -1 then
        some (-4, M)
      else
        some (x3, M))
    else
      (if 0 ≤ x3 ∧ x3 < 120 then
        (Option.bind (F_nextListed (gU M 746 x3 0)) (fun r55 =>
          F_listing_36 (gU M 746 x3 0) x1 x2 r55 (gw32 (x4 + 1))))
      else none))
  else
    (if x3 = -1 then
      some (-4, M)
    else
      some (x3, M))) := (gWh_eq _).trans (sk_listing_36 _ M x1 x2 x3 x4)
noncomputable def F_listing (M : gM) (a1 a2 : Int) : Option (Int × gM) := (Option.bind (F_isHistory a1) (fun r1 =>
    (if r1 = 0 then
      some (-1, M)
    else
      (Option.bind (F_in a2 0 119) (fun r11 =>
        (if r11 = 0 then
          some (-1, M)
        else
          (Option.bind (F_marksHistory M a1 746) (fun m25 =>
            (Option.bind (F_nextListed m25) (fun r29 =>
              F_listing_36 m25 a1 a2 r29 0))))))))))
theorem eq_listing (M : gM) (a1 a2 : Int) : F_listing M a1 a2 = (Option.bind (F_isHistory a1) (fun r1 =>
    (if r1 = 0 then
      some (-1, M)
    else
      (Option.bind (F_in a2 0 119) (fun r11 =>
        (if r11 = 0 then
          some (-1, M)
        else
          (Option.bind (F_marksHistory M a1 746) (fun m25 =>
            (Option.bind (F_nextListed m25) (fun r29 =>
              F_listing_36 m25 a1 a2 r29 0)))))))))) := rfl
theorem frp_listing : ∀ (s : Nat × List Int × gM) (b : Int × gM), gWh (st_listing) s = some b → (∀ (x1 x2 x3 x4 : Int) (M : gM), s = (0, [x1, x2, x3, x4], M) → gFr [746] [] M b.2) := by
  refine gWh_ind (fun k hk s b h => ?_)
  · rintro x1 x2 x3 x4 M rfl
    rw [sk_listing_36] at h
    rcases gI_or h with h | h
    · rcases gI_or h with h | h
      · rcases gI_or h with h | h
        · rw [← Option.some.inj h]
          exact (gFr_r [746] [] _)
        · rw [← Option.some.inj h]
          exact (gFr_r [746] [] _)
      · obtain ⟨g1, h⟩ := gI_gd h
        obtain ⟨r55, e55, h⟩ := gI_bd h
        exact gFr_t (gFr_a (gFr_r [746] [] _) (.head _) (by decide)) ((hk _ _ h) _ _ _ _ _ rfl) (fun _ z => z) (fun _ z => z)
    · rcases gI_or h with h | h
      · rw [← Option.some.inj h]
        exact (gFr_r [746] [] _)
      · rw [← Option.some.inj h]
        exact (gFr_r [746] [] _)
theorem fr_listing_36 {M : gM} {x1 x2 x3 x4 : Int} {b : Int × gM} (h : F_listing_36 M x1 x2 x3 x4 = some b) : gFr [746] [] M b.2 :=
  (frp_listing _ _ h) _ _ _ _ _ rfl
theorem fr_listing {M : gM} {a1 a2 : Int} {b : Int × gM} (h : F_listing M a1 a2 = some b) : gFr [746] [] M b.2 := by
  rw [eq_listing] at h
  obtain ⟨r1, e1, h⟩ := gI_bd h
  rcases gI_or h with h | h
  · rw [← Option.some.inj h]
    exact (gFr_r [746] [] _)
  · obtain ⟨r11, e11, h⟩ := gI_bd h
    rcases gI_or h with h | h
    · rw [← Option.some.inj h]
      exact (gFr_r [746] [] _)
    · obtain ⟨m25, e25, h⟩ := gI_bd h
      obtain ⟨r29, e29, h⟩ := gI_bd h
      exact gFr_t (gFr_t (gFr_r [746] [] _) (fr_marksHistory (b := m25) e25) (by first | decide | simp) (by decide)) (fr_listing_36 h) (fun _ z => z) (fun _ z => z)
theorem okp_listing {sh : gS} : ∀ (s : Nat × List Int × gM) (b : Int × gM), gWh (st_listing) s = some b → (∀ (x1 x2 x3 x4 : Int) (M : gM), s = (0, [x1, x2, x3, x4], M) → gOK sh M → gA (gr 3 68) yX12_listing cX12_listing 5 (some (.int)) (gPq sh (some (0, b.1)) b.2) (0, 0) 36 [(4, 711), (0, x1), (0, x2), (0, x3), (0, x4)] [] sh M) := by
  refine gWh_ind (fun k hk s b h => ?_)
  · rintro x1 x2 x3 x4 M rfl hOK
    rw [sk_listing_36] at h
    refine g_iload (q0 := 38) (j := 4) rfl dX12_listing_36 rfl ?_
    refine g_iload_n (q0 := 39) (j := 2) rfl dX12_listing_38 rfl ?_
    refine g_icmp_ge (q0 := 42) (tgt := 65) rfl dX12_listing_39 (by decide) (fun h39 => ?_) (fun h39 => ?_)
    · replace h := gI_neg (Int.not_lt.mpr h39) h
      refine g_iload_n (q0 := 66) (j := 3) rfl dX12_listing_65 rfl ?_
      refine g_iconst (q0 := 67) rfl dX12_listing_66 (k := ?_)
      refine g_icmp_ne (q0 := 70) (tgt := 75) rfl dX12_listing_67 (by decide) (fun h67 => ?_) (fun h67 => ?_)
      · replace h := gI_neg h67 h
        refine g_iload_n (q0 := 76) (j := 3) rfl dX12_listing_75 rfl ?_
        rw [← Option.some.inj h]
        refine g_ireturn dX12_listing_76 rfl ⟨Nat.zero_le _, Nat.zero_le _⟩ ?_
        exact ⟨rfl, rfl, rfl⟩
      · replace h := gI_pos h67 h
        refine g_bipush (q0 := 72) rfl dX12_listing_70 (k := ?_)
        refine g_goto (tgt := 76) dX12_listing_72 (by decide) ?_
        rw [← Option.some.inj h]
        refine g_ireturn dX12_listing_76 rfl ⟨Nat.zero_le _, Nat.zero_le _⟩ ?_
        exact ⟨rfl, rfl, rfl⟩
    · replace h := gI_pos h39 h
      refine g_iload_n (q0 := 43) (j := 3) rfl dX12_listing_42 rfl ?_
      refine g_iconst (q0 := 44) rfl dX12_listing_43 (k := ?_)
      refine g_icmp_eq (q0 := 47) (tgt := 65) rfl dX12_listing_44 (by decide) (fun h44 => ?_) (fun h44 => ?_)
      · replace h := gI_pos h44 h
        refine g_iload_n (q0 := 66) (j := 3) rfl dX12_listing_65 rfl ?_
        refine g_iconst (q0 := 67) rfl dX12_listing_66 (k := ?_)
        refine g_icmp_ne (q0 := 70) (tgt := 75) rfl dX12_listing_67 (by decide) (fun h67 => ?_) (fun h67 => ?_)
        · replace h := gI_neg h67 h
          refine g_iload_n (q0 := 76) (j := 3) rfl dX12_listing_75 rfl ?_
          rw [← Option.some.inj h]
          refine g_ireturn dX12_listing_76 rfl ⟨Nat.zero_le _, Nat.zero_le _⟩ ?_
          exact ⟨rfl, rfl, rfl⟩
        · replace h := gI_pos h67 h
          refine g_bipush (q0 := 72) rfl dX12_listing_70 (k := ?_)
          refine g_goto (tgt := 76) dX12_listing_72 (by decide) ?_
          rw [← Option.some.inj h]
          refine g_ireturn dX12_listing_76 rfl ⟨Nat.zero_le _, Nat.zero_le _⟩ ?_
          exact ⟨rfl, rfl, rfl⟩
      · replace h := gI_neg h44 h
        refine g_aload_n (q0 := 48) (j := 0) rfl dX12_listing_47 rfl ?_
        refine g_getp (q0 := 51) (b := 746) rfl ff_X12_114 dX12_listing_48 rfl hOK (by decide) (sh_711 hOK) rfl (by decide) ?_
        refine g_iload_n (q0 := 52) (j := 3) rfl dX12_listing_51 rfl ?_
        refine g_iconst (q0 := 53) rfl dX12_listing_52 (k := ?_)
        obtain ⟨g1, h⟩ := gI_gd h
        refine g_zast (q0 := 54) rfl dX12_listing_53 (sh_746 hOK) g1.1 g1.2 (Or.inl rfl) ?_
        have hOK2 : gOK sh (gU M 746 x3 0) := gOK_z hOK (sh_746 hOK)
        refine g_aload_n (q0 := 55) (j := 0) rfl dX12_listing_54 rfl ?_
        obtain ⟨r55, e55, h⟩ := gI_bd h
        refine g_callVq1 (as := []) (rest := []) mt_X12_nextListed mi_X12_nextListed se_X12_nextListed ml_X12_696 dX12_listing_55 (q0 := 58) rfl rfl (sh_711 hOK2) rfl rfl (ok_nextListed hOK2 e55) rfl ⟨by decide, by decide⟩ (Nat.le_of_ble_eq_true rfl) ⟨Nat.zero_le _, Nat.zero_le _⟩ ?_
        refine g_istore_n (q0 := 59) (j := 3) (lv2 := [_, _, _, _, _]) rfl dX12_listing_58 (by decide) rfl rfl ?_
        refine g_iincw (q0 := 62) (lv2 := [_, _, _, _, _]) rfl dX12_listing_59 rfl (by decide) rfl rfl ?_
        refine g_goto (tgt := 36) dX12_listing_62 (by decide) ?_
        exact (hk _ _ h) _ _ _ _ _ rfl hOK2
theorem ok_listing_36 {sh : gS} {M : gM} {x1 x2 x3 x4 : Int} {b : Int × gM} (hOK : gOK sh M) (h : F_listing_36 M x1 x2 x3 x4 = some b) : gA (gr 3 68) yX12_listing cX12_listing 5 (some (.int)) (gPq sh (some (0, b.1)) b.2) (0, 0) 36 [(4, 711), (0, x1), (0, x2), (0, x3), (0, x4)] [] sh M :=
  (okp_listing _ _ h) _ _ _ _ _ rfl hOK
theorem ok_listing {sh : gS} {M : gM} {a1 a2 : Int} {b : Int × gM} (hOK : gOK sh M) (h : F_listing M a1 a2 = some b) : gC (gr 3 68) yX12_listing cX12_listing 5 (some (.int)) [(4, 711), (0, a1), (0, a2)] sh M (gPq sh (some (0, b.1)) b.2) := by
  rw [eq_listing] at h
  refine gC_ofA (lv := [_, _, _, _, _]) (by decide +kernel) (Nat.le_of_ble_eq_true rfl) rfl (fun hMw hav => ?_)
  refine g_iload_n (q0 := 1) (j := 1) rfl dX12_listing_0 rfl ?_
  obtain ⟨r1, e1, h⟩ := gI_bd h
  refine g_callSq1 (as := [_]) (rest := []) mt_X12_isHistory ms_X12_isHistory ml_X12_353 dX12_listing_1 (q0 := 4) rfl rfl (ok_isHistory hOK e1) rfl ⟨by decide, by decide⟩ (Nat.le_of_ble_eq_true rfl) ⟨Nat.zero_le _, Nat.zero_le _⟩ ?_
  refine g_if_eq (q0 := 7) (tgt := 17) rfl dX12_listing_4 (by decide) (fun h4 => ?_) (fun h4 => ?_)
  · replace h := gI_pos h4 h
    refine g_iconst (q0 := 18) rfl dX12_listing_17 (k := ?_)
    rw [← Option.some.inj h]
    refine g_ireturn dX12_listing_18 rfl ⟨Nat.zero_le _, Nat.zero_le _⟩ ?_
    exact ⟨rfl, rfl, rfl⟩
  · replace h := gI_neg h4 h
    refine g_iload_n (q0 := 8) (j := 2) rfl dX12_listing_7 rfl ?_
    refine g_iconst (q0 := 9) rfl dX12_listing_8 (k := ?_)
    refine g_bipush (q0 := 11) rfl dX12_listing_9 (k := ?_)
    obtain ⟨r11, e11, h⟩ := gI_bd h
    refine g_callSq1 (as := [_, _, _]) (rest := []) mt_X12_in ms_X12_in ml_X12_182 dX12_listing_11 (q0 := 14) rfl rfl (ok_in hOK e11) rfl ⟨by decide, by decide⟩ (Nat.le_of_ble_eq_true rfl) ⟨Nat.zero_le _, Nat.zero_le _⟩ ?_
    refine g_if_ne (q0 := 17) (tgt := 19) rfl dX12_listing_14 (by decide) (fun h14 => ?_) (fun h14 => ?_)
    · replace h := gI_neg h14 h
      refine g_aload_n (q0 := 20) (j := 0) rfl dX12_listing_19 rfl ?_
      refine g_iload_n (q0 := 21) (j := 1) rfl dX12_listing_20 rfl ?_
      refine g_aload_n (q0 := 22) (j := 0) rfl dX12_listing_21 rfl ?_
      refine g_getp (q0 := 25) (b := 746) rfl ff_X12_114 dX12_listing_22 rfl hOK (by decide) (sh_711 hOK) rfl (by decide) ?_
      obtain ⟨m25, e25, h⟩ := gI_bd h
      refine g_callVq0 (as := [_, _]) (rest := []) mt_X12_marksHistory mi_X12_marksHistory se_X12_marksHistory ml_X12_659 dX12_listing_25 (q0 := 28) rfl rfl (sh_711 hOK) rfl rfl (ok_marksHistory hOK e25) rfl ⟨by decide, by decide⟩ (Nat.le_of_ble_eq_true rfl) ⟨Nat.zero_le _, Nat.zero_le _⟩ ?_
      have hOK3 : gOK sh m25 := gOK_fr hOK (fr_marksHistory (b := m25) e25) (by first | decide | (intro a ha; simp only [List.mem_cons, List.not_mem_nil, or_false] at ha; omega)) (by decide)
      refine g_aload_n (q0 := 29) (j := 0) rfl dX12_listing_28 rfl ?_
      obtain ⟨r29, e29, h⟩ := gI_bd h
      refine g_callVq1 (as := []) (rest := []) mt_X12_nextListed mi_X12_nextListed se_X12_nextListed ml_X12_696 dX12_listing_29 (q0 := 32) rfl rfl (sh_711 hOK3) rfl rfl (ok_nextListed hOK3 e29) rfl ⟨by decide, by decide⟩ (Nat.le_of_ble_eq_true rfl) ⟨Nat.zero_le _, Nat.zero_le _⟩ ?_
      refine g_istore_n (q0 := 33) (j := 3) (lv2 := [_, _, _, _, _]) rfl dX12_listing_32 (by decide) rfl rfl ?_
      refine g_iconst (q0 := 34) rfl dX12_listing_33 (k := ?_)
      refine g_istore (q0 := 36) (j := 4) (lv2 := [_, _, _, _, _]) rfl dX12_listing_34 (by decide) rfl rfl ?_
      exact ok_listing_36 hOK3 h
    · replace h := gI_pos h14 h
      refine g_iconst (q0 := 18) rfl dX12_listing_17 (k := ?_)
      rw [← Option.some.inj h]
      refine g_ireturn dX12_listing_18 rfl ⟨Nat.zero_le _, Nat.zero_le _⟩ ?_
      exact ⟨rfl, rfl, rfl⟩
-- ==== line
theorem dX12_line_0 : decode cX12_line 0 = .ok (.aload_n 0, 1) := by decide +kernel
theorem dX12_line_1 : decode cX12_line 1 = .ok (.iload_n 1, 1) := by decide +kernel
theorem dX12_line_2 : decode cX12_line 2 = .ok (.invokevirtual 229, 3) := by decide +kernel
theorem dX12_line_5 : decode cX12_line 5 = .ok (.ifCond .eq 13, 3) := by decide +kernel
theorem dX12_line_8 : decode cX12_line 8 = .ok (.iload_n 2, 1) := by decide +kernel
theorem dX12_line_9 : decode cX12_line 9 = .ok (.iconst 0, 1) := by decide +kernel
theorem dX12_line_10 : decode cX12_line 10 = .ok (.bipush 119, 2) := by decide +kernel
theorem dX12_line_12 : decode cX12_line 12 = .ok (.invokestatic 182, 3) := by decide +kernel
theorem dX12_line_15 : decode cX12_line 15 = .ok (.ifCond .ne 5, 3) := by decide +kernel
theorem dX12_line_18 : decode cX12_line 18 = .ok (.iconst (-1), 1) := by decide +kernel
theorem dX12_line_19 : decode cX12_line 19 = .ok (.ireturn, 1) := by decide +kernel
theorem dX12_line_20 : decode cX12_line 20 = .ok (.iload_n 1, 1) := by decide +kernel
theorem dX12_line_21 : decode cX12_line 21 = .ok (.istore_n 3, 1) := by decide +kernel
theorem dX12_line_22 : decode cX12_line 22 = .ok (.iconst 0, 1) := by decide +kernel
theorem dX12_line_23 : decode cX12_line 23 = .ok (.istore 4, 2) := by decide +kernel
theorem dX12_line_25 : decode cX12_line 25 = .ok (.iload 4, 2) := by decide +kernel
theorem dX12_line_27 : decode cX12_line 27 = .ok (.iload_n 2, 1) := by decide +kernel
theorem dX12_line_28 : decode cX12_line 28 = .ok (.if_icmp .ge 20, 3) := by decide +kernel
theorem dX12_line_31 : decode cX12_line 31 = .ok (.iload_n 3, 1) := by decide +kernel
theorem dX12_line_32 : decode cX12_line 32 = .ok (.iconst (-1), 1) := by decide +kernel
theorem dX12_line_33 : decode cX12_line 33 = .ok (.if_icmp .eq 15, 3) := by decide +kernel
theorem dX12_line_36 : decode cX12_line 36 = .ok (.aload_n 0, 1) := by decide +kernel
theorem dX12_line_37 : decode cX12_line 37 = .ok (.iload_n 3, 1) := by decide +kernel
theorem dX12_line_38 : decode cX12_line 38 = .ok (.invokevirtual 647, 3) := by decide +kernel
theorem dX12_line_41 : decode cX12_line 41 = .ok (.istore_n 3, 1) := by decide +kernel
theorem dX12_line_42 : decode cX12_line 42 = .ok (.iinc 4 1, 3) := by decide +kernel
theorem dX12_line_45 : decode cX12_line 45 = .ok (.goto (-20), 3) := by decide +kernel
theorem dX12_line_48 : decode cX12_line 48 = .ok (.iload_n 3, 1) := by decide +kernel
theorem dX12_line_49 : decode cX12_line 49 = .ok (.iconst (-1), 1) := by decide +kernel
theorem dX12_line_50 : decode cX12_line 50 = .ok (.if_icmp .ne 8, 3) := by decide +kernel
theorem dX12_line_53 : decode cX12_line 53 = .ok (.bipush (-4), 2) := by decide +kernel
theorem dX12_line_55 : decode cX12_line 55 = .ok (.goto 4, 3) := by decide +kernel
theorem dX12_line_58 : decode cX12_line 58 = .ok (.iload_n 3, 1) := by decide +kernel
theorem dX12_line_59 : decode cX12_line 59 = .ok (.ireturn, 1) := by decide +kernel
noncomputable def st_line (M : gM) : Nat × List Int → Option ((Nat × List Int) ⊕ (Int))
  | (0, [x1, x2, x3, x4]) => (if x4 < x2 then
      (if x3 = -1 then
        (if x3 = -1 then
          some (.inr (-4))
        else
          some (.inr x3))
      else
        (Option.bind (F_before M x3) (fun r38 =>
          some (.inl (0, [x1, x2, r38, (gw32 (x4 + 1))])))))
    else
      (if x3 = -1 then
        some (.inr (-4))
      else
        some (.inr x3)))
  | _ => none
theorem sk_line_25 (k : Nat × List Int → Option (Int)) (M : gM) (x1 x2 x3 x4 : Int) : gWk k (st_line M (0, [x1, x2, x3, x4])) = (if x4 < x2 then
    (if x3 = -1 then
      (if x3 = -1 then
        some (-4)
      else
        some x3)
    else
      (Option.bind (F_before M x3) (fun r38 =>
        k (0, [x1, x2, r38, (gw32 (x4 + 1))]))))
  else
    (if x3 = -1 then
      some (-4)
    else
      some x3)) := by
  simp only [st_line, gWk_ite, gWk_bind, gWk_inl, gWk_inr, gWk_none]
noncomputable def F_line_25 (M : gM) (x1 x2 x3 x4 : Int) : Option (Int) := gWh (st_line M) (0, [x1, x2, x3, x4])
theorem eq_line_25 (M : gM) (x1 x2 x3 x4 : Int) : F_line_25 M x1 x2 x3 x4 = (if x4 < x2 then
    (if x3 = -1 then
      (if x3 = -1 then
        some (-4)
      else
        some x3)
    else
      (Option.bind (F_before M x3) (fun r38 =>
        F_line_25 M x1 x2 r38 (gw32 (x4 + 1)))))
  else
    (if x3 = -1 then
      some (-4)
    else
      some x3)) := (gWh_eq _).trans (sk_line_25 _ M x1 x2 x3 x4)
noncomputable def F_line (M : gM) (a1 a2 : Int) : Option (Int) := (Option.bind (F_isCommit M a1) (fun r2 =>
    (if r2 = 0 then
      some (-1)
    else
      (Option.bind (F_in a2 0 119) (fun r12 =>
        (if r12 = 0 then
          some (-1)
        else
          F_line_25 M a1 a2 a1 0))))))
theorem eq_line (M : gM) (a1 a2 : Int) : F_line M a1 a2 = (Option.bind (F_isCommit M a1) (fun r2 =>
    (if r2 = 0 then
      some (-1)
    else
      (Option.bind (F_in a2 0 119) (fun r12 =>
        (if r12 = 0 then
          some (-1)
        else
          F_line_25 M a1 a2 a1 0)))))) := rfl
theorem okp_line {sh : gS} {M : gM} : ∀ (s : Nat × List Int) (b : Int), gWh (st_line M) s = some b → (∀ (x1 x2 x3 x4 : Int), s = (0, [x1, x2, x3, x4]) → gOK sh M → gA (gr 2 43) yX12_line cX12_line 5 (some (.int)) (gPq sh (some (0, b)) M) (0, 0) 25 [(4, 711), (0, x1), (0, x2), (0, x3), (0, x4)] [] sh M) := by
  refine gWh_ind (fun k hk s b h => ?_)
  · rintro x1 x2 x3 x4 rfl hOK
    rw [sk_line_25] at h
    refine g_iload (q0 := 27) (j := 4) rfl dX12_line_25 rfl ?_
    refine g_iload_n (q0 := 28) (j := 2) rfl dX12_line_27 rfl ?_
    refine g_icmp_ge (q0 := 31) (tgt := 48) rfl dX12_line_28 (by decide) (fun h28 => ?_) (fun h28 => ?_)
    · replace h := gI_neg (Int.not_lt.mpr h28) h
      refine g_iload_n (q0 := 49) (j := 3) rfl dX12_line_48 rfl ?_
      refine g_iconst (q0 := 50) rfl dX12_line_49 (k := ?_)
      refine g_icmp_ne (q0 := 53) (tgt := 58) rfl dX12_line_50 (by decide) (fun h50 => ?_) (fun h50 => ?_)
      · replace h := gI_neg h50 h
        refine g_iload_n (q0 := 59) (j := 3) rfl dX12_line_58 rfl ?_
        rw [← Option.some.inj h]
        refine g_ireturn dX12_line_59 rfl ⟨Nat.zero_le _, Nat.zero_le _⟩ ?_
        exact ⟨rfl, rfl, rfl⟩
      · replace h := gI_pos h50 h
        refine g_bipush (q0 := 55) rfl dX12_line_53 (k := ?_)
        refine g_goto (tgt := 59) dX12_line_55 (by decide) ?_
        rw [← Option.some.inj h]
        refine g_ireturn dX12_line_59 rfl ⟨Nat.zero_le _, Nat.zero_le _⟩ ?_
        exact ⟨rfl, rfl, rfl⟩
    · replace h := gI_pos h28 h
      refine g_iload_n (q0 := 32) (j := 3) rfl dX12_line_31 rfl ?_
      refine g_iconst (q0 := 33) rfl dX12_line_32 (k := ?_)
      refine g_icmp_eq (q0 := 36) (tgt := 48) rfl dX12_line_33 (by decide) (fun h33 => ?_) (fun h33 => ?_)
      · replace h := gI_pos h33 h
        refine g_iload_n (q0 := 49) (j := 3) rfl dX12_line_48 rfl ?_
        refine g_iconst (q0 := 50) rfl dX12_line_49 (k := ?_)
        refine g_icmp_ne (q0 := 53) (tgt := 58) rfl dX12_line_50 (by decide) (fun h50 => ?_) (fun h50 => ?_)
        · replace h := gI_neg h50 h
          refine g_iload_n (q0 := 59) (j := 3) rfl dX12_line_58 rfl ?_
          rw [← Option.some.inj h]
          refine g_ireturn dX12_line_59 rfl ⟨Nat.zero_le _, Nat.zero_le _⟩ ?_
          exact ⟨rfl, rfl, rfl⟩
        · replace h := gI_pos h50 h
          refine g_bipush (q0 := 55) rfl dX12_line_53 (k := ?_)
          refine g_goto (tgt := 59) dX12_line_55 (by decide) ?_
          rw [← Option.some.inj h]
          refine g_ireturn dX12_line_59 rfl ⟨Nat.zero_le _, Nat.zero_le _⟩ ?_
          exact ⟨rfl, rfl, rfl⟩
      · replace h := gI_neg h33 h
        refine g_aload_n (q0 := 37) (j := 0) rfl dX12_line_36 rfl ?_
        refine g_iload_n (q0 := 38) (j := 3) rfl dX12_line_37 rfl ?_
        obtain ⟨r38, e38, h⟩ := gI_bd h
        refine g_callVq1 (as := [_]) (rest := []) mt_X12_before mi_X12_before se_X12_before ml_X12_647 dX12_line_38 (q0 := 41) rfl rfl (sh_711 hOK) rfl rfl (ok_before hOK e38) rfl ⟨by decide, by decide⟩ (Nat.le_of_ble_eq_true rfl) ⟨Nat.zero_le _, Nat.zero_le _⟩ ?_
        refine g_istore_n (q0 := 42) (j := 3) (lv2 := [_, _, _, _, _]) rfl dX12_line_41 (by decide) rfl rfl ?_
        refine g_iincw (q0 := 45) (lv2 := [_, _, _, _, _]) rfl dX12_line_42 rfl (by decide) rfl rfl ?_
        refine g_goto (tgt := 25) dX12_line_45 (by decide) ?_
        exact (hk _ _ h) _ _ _ _ rfl hOK
theorem ok_line_25 {sh : gS} {M : gM} {x1 x2 x3 x4 : Int} {b : Int} (hOK : gOK sh M) (h : F_line_25 M x1 x2 x3 x4 = some b) : gA (gr 2 43) yX12_line cX12_line 5 (some (.int)) (gPq sh (some (0, b)) M) (0, 0) 25 [(4, 711), (0, x1), (0, x2), (0, x3), (0, x4)] [] sh M :=
  (okp_line _ _ h) _ _ _ _ rfl hOK
theorem ok_line {sh : gS} {M : gM} {a1 a2 : Int} {b : Int} (hOK : gOK sh M) (h : F_line M a1 a2 = some b) : gC (gr 2 43) yX12_line cX12_line 5 (some (.int)) [(4, 711), (0, a1), (0, a2)] sh M (gPq sh (some (0, b)) M) := by
  rw [eq_line] at h
  refine gC_ofA (lv := [_, _, _, _, _]) (by decide +kernel) (Nat.le_of_ble_eq_true rfl) rfl (fun hMw hav => ?_)
  refine g_aload_n (q0 := 1) (j := 0) rfl dX12_line_0 rfl ?_
  refine g_iload_n (q0 := 2) (j := 1) rfl dX12_line_1 rfl ?_
  obtain ⟨r2, e2, h⟩ := gI_bd h
  refine g_callVq1 (as := [_]) (rest := []) mt_X12_isCommit mi_X12_isCommit se_X12_isCommit ml_X12_229 dX12_line_2 (q0 := 5) rfl rfl (sh_711 hOK) rfl rfl (ok_isCommit hOK e2) rfl ⟨by decide, by decide⟩ (Nat.le_of_ble_eq_true rfl) ⟨Nat.zero_le _, Nat.zero_le _⟩ ?_
  refine g_if_eq (q0 := 8) (tgt := 18) rfl dX12_line_5 (by decide) (fun h5 => ?_) (fun h5 => ?_)
  · replace h := gI_pos h5 h
    refine g_iconst (q0 := 19) rfl dX12_line_18 (k := ?_)
    rw [← Option.some.inj h]
    refine g_ireturn dX12_line_19 rfl ⟨Nat.zero_le _, Nat.zero_le _⟩ ?_
    exact ⟨rfl, rfl, rfl⟩
  · replace h := gI_neg h5 h
    refine g_iload_n (q0 := 9) (j := 2) rfl dX12_line_8 rfl ?_
    refine g_iconst (q0 := 10) rfl dX12_line_9 (k := ?_)
    refine g_bipush (q0 := 12) rfl dX12_line_10 (k := ?_)
    obtain ⟨r12, e12, h⟩ := gI_bd h
    refine g_callSq1 (as := [_, _, _]) (rest := []) mt_X12_in ms_X12_in ml_X12_182 dX12_line_12 (q0 := 15) rfl rfl (ok_in hOK e12) rfl ⟨by decide, by decide⟩ (Nat.le_of_ble_eq_true rfl) ⟨Nat.zero_le _, Nat.zero_le _⟩ ?_
    refine g_if_ne (q0 := 18) (tgt := 20) rfl dX12_line_15 (by decide) (fun h15 => ?_) (fun h15 => ?_)
    · replace h := gI_neg h15 h
      refine g_iload_n (q0 := 21) (j := 1) rfl dX12_line_20 rfl ?_
      refine g_istore_n (q0 := 22) (j := 3) (lv2 := [_, _, _, _, _]) rfl dX12_line_21 (by decide) rfl rfl ?_
      refine g_iconst (q0 := 23) rfl dX12_line_22 (k := ?_)
      refine g_istore (q0 := 25) (j := 4) (lv2 := [_, _, _, _, _]) rfl dX12_line_23 (by decide) rfl rfl ?_
      exact ok_line_25 hOK h
    · replace h := gI_pos h15 h
      refine g_iconst (q0 := 19) rfl dX12_line_18 (k := ?_)
      rw [← Option.some.inj h]
      refine g_ireturn dX12_line_19 rfl ⟨Nat.zero_le _, Nat.zero_le _⟩ ?_
      exact ⟨rfl, rfl, rfl⟩
-- ==== isRefApart
theorem dX12_isRefApart_0 : decode cX12_isRefApart 0 = .ok (.aload_n 0, 1) := by decide +kernel
theorem dX12_isRefApart_1 : decode cX12_isRefApart 1 = .ok (.getfield 57, 3) := by decide +kernel
theorem dX12_isRefApart_4 : decode cX12_isRefApart 4 = .ok (.bipush 52, 2) := by decide +kernel
theorem dX12_isRefApart_6 : decode cX12_isRefApart 6 = .ok (.iload_n 1, 1) := by decide +kernel
theorem dX12_isRefApart_7 : decode cX12_isRefApart 7 = .ok (.imul, 1) := by decide +kernel
theorem dX12_isRefApart_8 : decode cX12_isRefApart 8 = .ok (.iload_n 3, 1) := by decide +kernel
theorem dX12_isRefApart_9 : decode cX12_isRefApart 9 = .ok (.iadd, 1) := by decide +kernel
theorem dX12_isRefApart_10 : decode cX12_isRefApart 10 = .ok (.iaload, 1) := by decide +kernel
theorem dX12_isRefApart_11 : decode cX12_isRefApart 11 = .ok (.aload_n 0, 1) := by decide +kernel
theorem dX12_isRefApart_12 : decode cX12_isRefApart 12 = .ok (.getfield 57, 3) := by decide +kernel
theorem dX12_isRefApart_15 : decode cX12_isRefApart 15 = .ok (.bipush 52, 2) := by decide +kernel
theorem dX12_isRefApart_17 : decode cX12_isRefApart 17 = .ok (.iload_n 2, 1) := by decide +kernel
theorem dX12_isRefApart_18 : decode cX12_isRefApart 18 = .ok (.imul, 1) := by decide +kernel
theorem dX12_isRefApart_19 : decode cX12_isRefApart 19 = .ok (.iload_n 3, 1) := by decide +kernel
theorem dX12_isRefApart_20 : decode cX12_isRefApart 20 = .ok (.iadd, 1) := by decide +kernel
theorem dX12_isRefApart_21 : decode cX12_isRefApart 21 = .ok (.iaload, 1) := by decide +kernel
theorem dX12_isRefApart_22 : decode cX12_isRefApart 22 = .ok (.if_icmp .eq 7, 3) := by decide +kernel
theorem dX12_isRefApart_25 : decode cX12_isRefApart 25 = .ok (.iconst 1, 1) := by decide +kernel
theorem dX12_isRefApart_26 : decode cX12_isRefApart 26 = .ok (.goto 4, 3) := by decide +kernel
theorem dX12_isRefApart_29 : decode cX12_isRefApart 29 = .ok (.iconst 0, 1) := by decide +kernel
theorem dX12_isRefApart_30 : decode cX12_isRefApart 30 = .ok (.ireturn, 1) := by decide +kernel
noncomputable def F_isRefApart (M : gM) (a1 a2 a3 : Int) : Option (Int) := (if 0 ≤ (gw32 ((gw32 ((52 : Int) * a1)) + a3)) ∧ (gw32 ((gw32 ((52 : Int) * a1)) + a3)) < 208 then
    (if 0 ≤ (gw32 ((gw32 ((52 : Int) * a2)) + a3)) ∧ (gw32 ((gw32 ((52 : Int) * a2)) + a3)) < 208 then
      (if (M 727 (gw32 ((gw32 ((52 : Int) * a1)) + a3))) = (M 727 (gw32 ((gw32 ((52 : Int) * a2)) + a3))) then
        some 0
      else
        some 1)
    else none)
  else none)
theorem eq_isRefApart (M : gM) (a1 a2 a3 : Int) : F_isRefApart M a1 a2 a3 = (if 0 ≤ (gw32 ((gw32 ((52 : Int) * a1)) + a3)) ∧ (gw32 ((gw32 ((52 : Int) * a1)) + a3)) < 208 then
    (if 0 ≤ (gw32 ((gw32 ((52 : Int) * a2)) + a3)) ∧ (gw32 ((gw32 ((52 : Int) * a2)) + a3)) < 208 then
      (if (M 727 (gw32 ((gw32 ((52 : Int) * a1)) + a3))) = (M 727 (gw32 ((gw32 ((52 : Int) * a2)) + a3))) then
        some 0
      else
        some 1)
    else none)
  else none) := rfl
theorem bo_isRefApart {M : gM} {a1 a2 a3 : Int} {b : Int} (h : F_isRefApart M a1 a2 a3 = some b) : b = 0 ∨ b = 1 := by
  rw [eq_isRefApart] at h
  obtain ⟨g1, h⟩ := gI_gd h
  obtain ⟨g2, h⟩ := gI_gd h
  rcases gI_or h with h | h
  · rw [← Option.some.inj h]
    exact (Or.inl rfl)
  · rw [← Option.some.inj h]
    exact (Or.inr rfl)
theorem ok_isRefApart {sh : gS} {M : gM} {a1 a2 a3 : Int} {b : Int} (hOK : gOK sh M) (h : F_isRefApart M a1 a2 a3 = some b) : gC (gr 0 0) yX12_isRefApart cX12_isRefApart 4 (some (.boolean)) [(4, 711), (0, a1), (0, a2), (0, a3)] sh M (gPq sh (some (0, b)) M) := by
  rw [eq_isRefApart] at h
  refine gC_ofA (lv := [_, _, _, _]) (by decide +kernel) (Nat.le_of_ble_eq_true rfl) rfl (fun hMw hav => ?_)
  refine g_aload_n (q0 := 1) (j := 0) rfl dX12_isRefApart_0 rfl ?_
  refine g_getp (q0 := 4) (b := 727) rfl ff_X12_57 dX12_isRefApart_1 rfl hOK (by decide) (sh_711 hOK) rfl (by decide) ?_
  refine g_bipush (q0 := 6) rfl dX12_isRefApart_4 (k := ?_)
  refine g_iload_n (q0 := 7) (j := 1) rfl dX12_isRefApart_6 rfl ?_
  refine g_imulw (q0 := 8) rfl dX12_isRefApart_7 ?_
  refine g_iload_n (q0 := 9) (j := 3) rfl dX12_isRefApart_8 rfl ?_
  refine g_iaddw (q0 := 10) rfl dX12_isRefApart_9 ?_
  obtain ⟨g1, h⟩ := gI_gd h
  refine g_iald (q0 := 11) rfl dX12_isRefApart_10 (sh_727 hOK) g1.1 g1.2 ?_
  refine g_aload_n (q0 := 12) (j := 0) rfl dX12_isRefApart_11 rfl ?_
  refine g_getp (q0 := 15) (b := 727) rfl ff_X12_57 dX12_isRefApart_12 rfl hOK (by decide) (sh_711 hOK) rfl (by decide) ?_
  refine g_bipush (q0 := 17) rfl dX12_isRefApart_15 (k := ?_)
  refine g_iload_n (q0 := 18) (j := 2) rfl dX12_isRefApart_17 rfl ?_
  refine g_imulw (q0 := 19) rfl dX12_isRefApart_18 ?_
  refine g_iload_n (q0 := 20) (j := 3) rfl dX12_isRefApart_19 rfl ?_
  refine g_iaddw (q0 := 21) rfl dX12_isRefApart_20 ?_
  obtain ⟨g2, h⟩ := gI_gd h
  refine g_iald (q0 := 22) rfl dX12_isRefApart_21 (sh_727 hOK) g2.1 g2.2 ?_
  refine g_icmp_eq (q0 := 25) (tgt := 29) rfl dX12_isRefApart_22 (by decide) (fun h22 => ?_) (fun h22 => ?_)
  · replace h := gI_pos h22 h
    refine g_iconst (q0 := 30) rfl dX12_isRefApart_29 (k := ?_)
    rw [← Option.some.inj h]
    refine g_zreturn dX12_isRefApart_30 rfl (gnz (Or.inl rfl)) ⟨Nat.zero_le _, Nat.zero_le _⟩ ?_
    exact ⟨rfl, rfl, rfl⟩
  · replace h := gI_neg h22 h
    refine g_iconst (q0 := 26) rfl dX12_isRefApart_25 (k := ?_)
    refine g_goto (tgt := 30) dX12_isRefApart_26 (by decide) ?_
    rw [← Option.some.inj h]
    refine g_zreturn dX12_isRefApart_30 rfl (gnz (Or.inr rfl)) ⟨Nat.zero_le _, Nat.zero_le _⟩ ?_
    exact ⟨rfl, rfl, rfl⟩
-- ==== apart
theorem dX12_apart_0 : decode cX12_apart 0 = .ok (.iload_n 1, 1) := by decide +kernel
theorem dX12_apart_1 : decode cX12_apart 1 = .ok (.invokestatic 353, 3) := by decide +kernel
theorem dX12_apart_4 : decode cX12_apart 4 = .ok (.ifCond .eq 19, 3) := by decide +kernel
theorem dX12_apart_7 : decode cX12_apart 7 = .ok (.iload_n 2, 1) := by decide +kernel
theorem dX12_apart_8 : decode cX12_apart 8 = .ok (.invokestatic 353, 3) := by decide +kernel
theorem dX12_apart_11 : decode cX12_apart 11 = .ok (.ifCond .eq 12, 3) := by decide +kernel
theorem dX12_apart_14 : decode cX12_apart 14 = .ok (.iload_n 3, 1) := by decide +kernel
theorem dX12_apart_15 : decode cX12_apart 15 = .ok (.iconst 0, 1) := by decide +kernel
theorem dX12_apart_16 : decode cX12_apart 16 = .ok (.iconst 3, 1) := by decide +kernel
theorem dX12_apart_17 : decode cX12_apart 17 = .ok (.invokestatic 182, 3) := by decide +kernel
theorem dX12_apart_20 : decode cX12_apart 20 = .ok (.ifCond .ne 5, 3) := by decide +kernel
theorem dX12_apart_23 : decode cX12_apart 23 = .ok (.iconst (-1), 1) := by decide +kernel
theorem dX12_apart_24 : decode cX12_apart 24 = .ok (.ireturn, 1) := by decide +kernel
theorem dX12_apart_25 : decode cX12_apart 25 = .ok (.aload_n 0, 1) := by decide +kernel
theorem dX12_apart_26 : decode cX12_apart 26 = .ok (.iload_n 1, 1) := by decide +kernel
theorem dX12_apart_27 : decode cX12_apart 27 = .ok (.aload_n 0, 1) := by decide +kernel
theorem dX12_apart_28 : decode cX12_apart 28 = .ok (.getfield 43, 3) := by decide +kernel
theorem dX12_apart_31 : decode cX12_apart 31 = .ok (.invokevirtual 659, 3) := by decide +kernel
theorem dX12_apart_34 : decode cX12_apart 34 = .ok (.aload_n 0, 1) := by decide +kernel
theorem dX12_apart_35 : decode cX12_apart 35 = .ok (.iload_n 2, 1) := by decide +kernel
theorem dX12_apart_36 : decode cX12_apart 36 = .ok (.aload_n 0, 1) := by decide +kernel
theorem dX12_apart_37 : decode cX12_apart 37 = .ok (.getfield 47, 3) := by decide +kernel
theorem dX12_apart_40 : decode cX12_apart 40 = .ok (.invokevirtual 659, 3) := by decide +kernel
theorem dX12_apart_43 : decode cX12_apart 43 = .ok (.iconst 0, 1) := by decide +kernel
theorem dX12_apart_44 : decode cX12_apart 44 = .ok (.istore 4, 2) := by decide +kernel
theorem dX12_apart_46 : decode cX12_apart 46 = .ok (.iconst 0, 1) := by decide +kernel
theorem dX12_apart_47 : decode cX12_apart 47 = .ok (.istore 5, 2) := by decide +kernel
theorem dX12_apart_49 : decode cX12_apart 49 = .ok (.iload 5, 2) := by decide +kernel
theorem dX12_apart_51 : decode cX12_apart 51 = .ok (.bipush 52, 2) := by decide +kernel
theorem dX12_apart_53 : decode cX12_apart 53 = .ok (.if_icmp .ge 31, 3) := by decide +kernel
theorem dX12_apart_56 : decode cX12_apart 56 = .ok (.iload_n 3, 1) := by decide +kernel
theorem dX12_apart_57 : decode cX12_apart 57 = .ok (.iconst 3, 1) := by decide +kernel
theorem dX12_apart_58 : decode cX12_apart 58 = .ok (.if_icmp .ne 26, 3) := by decide +kernel
theorem dX12_apart_61 : decode cX12_apart 61 = .ok (.aload_n 0, 1) := by decide +kernel
theorem dX12_apart_62 : decode cX12_apart 62 = .ok (.iload_n 1, 1) := by decide +kernel
theorem dX12_apart_63 : decode cX12_apart 63 = .ok (.iload_n 2, 1) := by decide +kernel
theorem dX12_apart_64 : decode cX12_apart 64 = .ok (.iload 5, 2) := by decide +kernel
theorem dX12_apart_66 : decode cX12_apart 66 = .ok (.invokevirtual 699, 3) := by decide +kernel
theorem dX12_apart_69 : decode cX12_apart 69 = .ok (.ifCond .eq 9, 3) := by decide +kernel
theorem dX12_apart_72 : decode cX12_apart 72 = .ok (.iload 4, 2) := by decide +kernel
theorem dX12_apart_74 : decode cX12_apart 74 = .ok (.iconst 1, 1) := by decide +kernel
theorem dX12_apart_75 : decode cX12_apart 75 = .ok (.iadd, 1) := by decide +kernel
theorem dX12_apart_76 : decode cX12_apart 76 = .ok (.istore 4, 2) := by decide +kernel
theorem dX12_apart_78 : decode cX12_apart 78 = .ok (.iinc 5 1, 3) := by decide +kernel
theorem dX12_apart_81 : decode cX12_apart 81 = .ok (.goto (-32), 3) := by decide +kernel
theorem dX12_apart_84 : decode cX12_apart 84 = .ok (.iconst 0, 1) := by decide +kernel
theorem dX12_apart_85 : decode cX12_apart 85 = .ok (.istore 5, 2) := by decide +kernel
theorem dX12_apart_87 : decode cX12_apart 87 = .ok (.iload 5, 2) := by decide +kernel
theorem dX12_apart_89 : decode cX12_apart 89 = .ok (.aload_n 0, 1) := by decide +kernel
theorem dX12_apart_90 : decode cX12_apart 90 = .ok (.getfield 178, 3) := by decide +kernel
theorem dX12_apart_93 : decode cX12_apart 93 = .ok (.if_icmp .ge 117, 3) := by decide +kernel
theorem dX12_apart_96 : decode cX12_apart 96 = .ok (.iload_n 3, 1) := by decide +kernel
theorem dX12_apart_97 : decode cX12_apart 97 = .ok (.iconst 3, 1) := by decide +kernel
theorem dX12_apart_98 : decode cX12_apart 98 = .ok (.if_icmp .ge 112, 3) := by decide +kernel
theorem dX12_apart_101 : decode cX12_apart 101 = .ok (.iload_n 3, 1) := by decide +kernel
theorem dX12_apart_102 : decode cX12_apart 102 = .ok (.ifCond .ne 31, 3) := by decide +kernel
theorem dX12_apart_105 : decode cX12_apart 105 = .ok (.aload_n 0, 1) := by decide +kernel
theorem dX12_apart_106 : decode cX12_apart 106 = .ok (.getfield 43, 3) := by decide +kernel
theorem dX12_apart_109 : decode cX12_apart 109 = .ok (.iload 5, 2) := by decide +kernel
theorem dX12_apart_111 : decode cX12_apart 111 = .ok (.baload, 1) := by decide +kernel
theorem dX12_apart_112 : decode cX12_apart 112 = .ok (.ifCond .eq 17, 3) := by decide +kernel
theorem dX12_apart_115 : decode cX12_apart 115 = .ok (.aload_n 0, 1) := by decide +kernel
theorem dX12_apart_116 : decode cX12_apart 116 = .ok (.getfield 47, 3) := by decide +kernel
theorem dX12_apart_119 : decode cX12_apart 119 = .ok (.iload 5, 2) := by decide +kernel
theorem dX12_apart_121 : decode cX12_apart 121 = .ok (.baload, 1) := by decide +kernel
theorem dX12_apart_122 : decode cX12_apart 122 = .ok (.ifCond .ne 7, 3) := by decide +kernel
theorem dX12_apart_125 : decode cX12_apart 125 = .ok (.iconst 1, 1) := by decide +kernel
theorem dX12_apart_126 : decode cX12_apart 126 = .ok (.goto 65, 3) := by decide +kernel
theorem dX12_apart_129 : decode cX12_apart 129 = .ok (.iconst 0, 1) := by decide +kernel
theorem dX12_apart_130 : decode cX12_apart 130 = .ok (.goto 61, 3) := by decide +kernel
theorem dX12_apart_133 : decode cX12_apart 133 = .ok (.iload_n 3, 1) := by decide +kernel
theorem dX12_apart_134 : decode cX12_apart 134 = .ok (.iconst 1, 1) := by decide +kernel
theorem dX12_apart_135 : decode cX12_apart 135 = .ok (.if_icmp .ne 31, 3) := by decide +kernel
theorem dX12_apart_138 : decode cX12_apart 138 = .ok (.aload_n 0, 1) := by decide +kernel
theorem dX12_apart_139 : decode cX12_apart 139 = .ok (.getfield 43, 3) := by decide +kernel
theorem dX12_apart_142 : decode cX12_apart 142 = .ok (.iload 5, 2) := by decide +kernel
theorem dX12_apart_144 : decode cX12_apart 144 = .ok (.baload, 1) := by decide +kernel
theorem dX12_apart_145 : decode cX12_apart 145 = .ok (.ifCond .eq 17, 3) := by decide +kernel
theorem dX12_apart_148 : decode cX12_apart 148 = .ok (.aload_n 0, 1) := by decide +kernel
theorem dX12_apart_149 : decode cX12_apart 149 = .ok (.getfield 47, 3) := by decide +kernel
theorem dX12_apart_152 : decode cX12_apart 152 = .ok (.iload 5, 2) := by decide +kernel
theorem dX12_apart_154 : decode cX12_apart 154 = .ok (.baload, 1) := by decide +kernel
theorem dX12_apart_155 : decode cX12_apart 155 = .ok (.ifCond .eq 7, 3) := by decide +kernel
theorem dX12_apart_158 : decode cX12_apart 158 = .ok (.iconst 1, 1) := by decide +kernel
theorem dX12_apart_159 : decode cX12_apart 159 = .ok (.goto 32, 3) := by decide +kernel
theorem dX12_apart_162 : decode cX12_apart 162 = .ok (.iconst 0, 1) := by decide +kernel
theorem dX12_apart_163 : decode cX12_apart 163 = .ok (.goto 28, 3) := by decide +kernel
theorem dX12_apart_166 : decode cX12_apart 166 = .ok (.aload_n 0, 1) := by decide +kernel
theorem dX12_apart_167 : decode cX12_apart 167 = .ok (.getfield 43, 3) := by decide +kernel
theorem dX12_apart_170 : decode cX12_apart 170 = .ok (.iload 5, 2) := by decide +kernel
theorem dX12_apart_172 : decode cX12_apart 172 = .ok (.baload, 1) := by decide +kernel
theorem dX12_apart_173 : decode cX12_apart 173 = .ok (.ifCond .ne 17, 3) := by decide +kernel
theorem dX12_apart_176 : decode cX12_apart 176 = .ok (.aload_n 0, 1) := by decide +kernel
theorem dX12_apart_177 : decode cX12_apart 177 = .ok (.getfield 47, 3) := by decide +kernel
theorem dX12_apart_180 : decode cX12_apart 180 = .ok (.iload 5, 2) := by decide +kernel
theorem dX12_apart_182 : decode cX12_apart 182 = .ok (.baload, 1) := by decide +kernel
theorem dX12_apart_183 : decode cX12_apart 183 = .ok (.ifCond .eq 7, 3) := by decide +kernel
theorem dX12_apart_186 : decode cX12_apart 186 = .ok (.iconst 1, 1) := by decide +kernel
theorem dX12_apart_187 : decode cX12_apart 187 = .ok (.goto 4, 3) := by decide +kernel
theorem dX12_apart_190 : decode cX12_apart 190 = .ok (.iconst 0, 1) := by decide +kernel
theorem dX12_apart_191 : decode cX12_apart 191 = .ok (.istore 6, 2) := by decide +kernel
theorem dX12_apart_193 : decode cX12_apart 193 = .ok (.iload 6, 2) := by decide +kernel
theorem dX12_apart_195 : decode cX12_apart 195 = .ok (.ifCond .eq 9, 3) := by decide +kernel
theorem dX12_apart_198 : decode cX12_apart 198 = .ok (.iload 4, 2) := by decide +kernel
theorem dX12_apart_200 : decode cX12_apart 200 = .ok (.iconst 1, 1) := by decide +kernel
theorem dX12_apart_201 : decode cX12_apart 201 = .ok (.iadd, 1) := by decide +kernel
theorem dX12_apart_202 : decode cX12_apart 202 = .ok (.istore 4, 2) := by decide +kernel
theorem dX12_apart_204 : decode cX12_apart 204 = .ok (.iinc 5 1, 3) := by decide +kernel
theorem dX12_apart_207 : decode cX12_apart 207 = .ok (.goto (-120), 3) := by decide +kernel
theorem dX12_apart_210 : decode cX12_apart 210 = .ok (.iload 4, 2) := by decide +kernel
theorem dX12_apart_212 : decode cX12_apart 212 = .ok (.ireturn, 1) := by decide +kernel
noncomputable def st_apart : Nat × List Int × gM → Option ((Nat × List Int × gM) ⊕ (Int × gM))
  | (0, [x1, x2, x3, x4, x5], M) => (if x5 < 52 then
      (if x3 = 3 then
        (Option.bind (F_isRefApart M x1 x2 x5) (fun r66 =>
          (if r66 = 0 then
            some (.inl (0, [x1, x2, x3, x4, (gw32 (x5 + 1))], M))
          else
            some (.inl (0, [x1, x2, x3, (gw32 (x4 + (1 : Int))), (gw32 (x5 + 1))], M)))))
      else
        some (.inl (1, [x1, x2, x3, x4, 0], M)))
    else
      some (.inl (1, [x1, x2, x3, x4, 0], M)))
  | (1, [x1, x2, x3, x4, x5], M) => (if x5 < (M 711 0) then
      (if x3 < 3 then
        (if x3 = 0 then
          (if 0 ≤ x5 ∧ x5 < 120 then
            (if (M 723 x5) = 0 then
              some (.inl (1, [x1, x2, x3, x4, (gw32 (x5 + 1))], M))
            else
              (if (M 724 x5) = 0 then
                some (.inl (1, [x1, x2, x3, (gw32 (x4 + (1 : Int))), (gw32 (x5 + 1))], M))
              else
                some (.inl (1, [x1, x2, x3, x4, (gw32 (x5 + 1))], M))))
          else none)
        else
          (if x3 = 1 then
            (if 0 ≤ x5 ∧ x5 < 120 then
              (if (M 723 x5) = 0 then
                some (.inl (1, [x1, x2, x3, x4, (gw32 (x5 + 1))], M))
              else
                (if (M 724 x5) = 0 then
                  some (.inl (1, [x1, x2, x3, x4, (gw32 (x5 + 1))], M))
                else
                  some (.inl (1, [x1, x2, x3, (gw32 (x4 + (1 : Int))), (gw32 (x5 + 1))], M))))
            else none)
          else
            (if 0 ≤ x5 ∧ x5 < 120 then
              (if (M 723 x5) = 0 then
                (if (M 724 x5) = 0 then
                  some (.inl (1, [x1, x2, x3, x4, (gw32 (x5 + 1))], M))
                else
                  some (.inl (1, [x1, x2, x3, (gw32 (x4 + (1 : Int))), (gw32 (x5 + 1))], M)))
              else
                some (.inl (1, [x1, x2, x3, x4, (gw32 (x5 + 1))], M)))
            else none)))
      else
        some (.inr (x4, M)))
    else
      some (.inr (x4, M)))
  | _ => none
theorem sk_apart_49 (k : Nat × List Int × gM → Option (Int × gM)) (M : gM) (x1 x2 x3 x4 x5 : Int) : gWk k (st_apart (0, [x1, x2, x3, x4, x5], M)) = (if x5 < 52 then
    (if x3 = 3 then
      (Option.bind (F_isRefApart M x1 x2 x5) (fun r66 =>
        (if r66 = 0 then
          k (0, [x1, x2, x3, x4, (gw32 (x5 + 1))], M)
        else
          k (0, [x1, x2, x3, (gw32 (x4 + (1 : Int))), (gw32 (x5 + 1))], M))))
    else
      k (1, [x1, x2, x3, x4, 0], M))
  else
    k (1, [x1, x2, x3, x4, 0], M)) := by
  simp only [st_apart, gWk_ite, gWk_bind, gWk_inl, gWk_inr, gWk_none]
theorem sk_apart_87 (k : Nat × List Int × gM → Option (Int × gM)) (M : gM) (x1 x2 x3 x4 x5 : Int) : gWk k (st_apart (1, [x1, x2, x3, x4, x5], M)) = (if x5 < (M 711 0) then
    (if x3 < 3 then
      (if x3 = 0 then
        (if 0 ≤ x5 ∧ x5 < 120 then
          (if (M 723 x5) = 0 then
            k (1, [x1, x2, x3, x4, (gw32 (x5 + 1))], M)
          else
            (if (M 724 x5) = 0 then
              k (1, [x1, x2, x3, (gw32 (x4 + (1 : Int))), (gw32 (x5 + 1))], M)
            else
              k (1, [x1, x2, x3, x4, (gw32 (x5 + 1))], M)))
        else none)
      else
        (if x3 = 1 then
          (if 0 ≤ x5 ∧ x5 < 120 then
            (if (M 723 x5) = 0 then
              k (1, [x1, x2, x3, x4, (gw32 (x5 + 1))], M)
            else
              (if (M 724 x5) = 0 then
                k (1, [x1, x2, x3, x4, (gw32 (x5 + 1))], M)
              else
                k (1, [x1, x2, x3, (gw32 (x4 + (1 : Int))), (gw32 (x5 + 1))], M)))
          else none)
        else
          (if 0 ≤ x5 ∧ x5 < 120 then
            (if (M 723 x5) = 0 then
              (if (M 724 x5) = 0 then
                k (1, [x1, x2, x3, x4, (gw32 (x5 + 1))], M)
              else
                k (1, [x1, x2, x3, (gw32 (x4 + (1 : Int))), (gw32 (x5 + 1))], M))
            else
              k (1, [x1, x2, x3, x4, (gw32 (x5 + 1))], M))
          else none)))
    else
      some (x4, M))
  else
    some (x4, M)) := by
  simp only [st_apart, gWk_ite, gWk_bind, gWk_inl, gWk_inr, gWk_none]
noncomputable def F_apart_49 (M : gM) (x1 x2 x3 x4 x5 : Int) : Option (Int × gM) := gWh (st_apart) (0, [x1, x2, x3, x4, x5], M)
noncomputable def F_apart_87 (M : gM) (x1 x2 x3 x4 x5 : Int) : Option (Int × gM) := gWh (st_apart) (1, [x1, x2, x3, x4, x5], M)
theorem eq_apart_49 (M : gM) (x1 x2 x3 x4 x5 : Int) : F_apart_49 M x1 x2 x3 x4 x5 = (if x5 < 52 then
    (if x3 = 3 then
      (Option.bind (F_isRefApart M x1 x2 x5) (fun r66 =>
        (if r66 = 0 then
          F_apart_49 M x1 x2 x3 x4 (gw32 (x5 + 1))
        else
          F_apart_49 M x1 x2 x3 (gw32 (x4 + (1 : Int))) (gw32 (x5 + 1)))))
    else
      F_apart_87 M x1 x2 x3 x4 0)
  else
    F_apart_87 M x1 x2 x3 x4 0) := (gWh_eq _).trans (sk_apart_49 _ M x1 x2 x3 x4 x5)
theorem eq_apart_87 (M : gM) (x1 x2 x3 x4 x5 : Int) : F_apart_87 M x1 x2 x3 x4 x5 = (if x5 < (M 711 0) then
    (if x3 < 3 then
      (if x3 = 0 then
        (if 0 ≤ x5 ∧ x5 < 120 then
          (if (M 723 x5) = 0 then
            F_apart_87 M x1 x2 x3 x4 (gw32 (x5 + 1))
          else
            (if (M 724 x5) = 0 then
              F_apart_87 M x1 x2 x3 (gw32 (x4 + (1 : Int))) (gw32 (x5 + 1))
            else
              F_apart_87 M x1 x2 x3 x4 (gw32 (x5 + 1))))
        else none)
      else
        (if x3 = 1 then
          (if 0 ≤ x5 ∧ x5 < 120 then
            (if (M 723 x5) = 0 then
              F_apart_87 M x1 x2 x3 x4 (gw32 (x5 + 1))
            else
              (if (M 724 x5) = 0 then
                F_apart_87 M x1 x2 x3 x4 (gw32 (x5 + 1))
              else
                F_apart_87 M x1 x2 x3 (gw32 (x4 + (1 : Int))) (gw32 (x5 + 1))))
          else none)
        else
          (if 0 ≤ x5 ∧ x5 < 120 then
            (if (M 723 x5) = 0 then
              (if (M 724 x5) = 0 then
                F_apart_87 M x1 x2 x3 x4 (gw32 (x5 + 1))
              else
                F_apart_87 M x1 x2 x3 (gw32 (x4 + (1 : Int))) (gw32 (x5 + 1)))
            else
              F_apart_87 M x1 x2 x3 x4 (gw32 (x5 + 1)))
          else none)))
    else
      some (x4, M))
  else
    some (x4, M)) := (gWh_eq _).trans (sk_apart_87 _ M x1 x2 x3 x4 x5)
noncomputable def F_apart (M : gM) (a1 a2 a3 : Int) : Option (Int × gM) := (Option.bind (F_isHistory a1) (fun r1 =>
    (if r1 = 0 then
      some (-1, M)
    else
      (Option.bind (F_isHistory a2) (fun r8 =>
        (if r8 = 0 then
          some (-1, M)
        else
          (Option.bind (F_in a3 0 3) (fun r17 =>
            (if r17 = 0 then
              some (-1, M)
            else
              (Option.bind (F_marksHistory M a1 723) (fun m31 =>
                (Option.bind (F_marksHistory m31 a2 724) (fun m40 =>
                  F_apart_49 m40 a1 a2 a3 0 0)))))))))))))
theorem eq_apart (M : gM) (a1 a2 a3 : Int) : F_apart M a1 a2 a3 = (Option.bind (F_isHistory a1) (fun r1 =>
    (if r1 = 0 then
      some (-1, M)
    else
      (Option.bind (F_isHistory a2) (fun r8 =>
        (if r8 = 0 then
          some (-1, M)
        else
          (Option.bind (F_in a3 0 3) (fun r17 =>
            (if r17 = 0 then
              some (-1, M)
            else
              (Option.bind (F_marksHistory M a1 723) (fun m31 =>
                (Option.bind (F_marksHistory m31 a2 724) (fun m40 =>
                  F_apart_49 m40 a1 a2 a3 0 0))))))))))))) := rfl
theorem frp_apart : ∀ (s : Nat × List Int × gM) (b : Int × gM), gWh (st_apart) s = some b → (∀ (x1 x2 x3 x4 x5 : Int) (M : gM), s = (0, [x1, x2, x3, x4, x5], M) → gFr [723, 724] [] M b.2) ∧ (∀ (x1 x2 x3 x4 x5 : Int) (M : gM), s = (1, [x1, x2, x3, x4, x5], M) → gFr [723, 724] [] M b.2) := by
  refine gWh_ind (fun k hk s b h => ⟨?_, ?_⟩)
  · rintro x1 x2 x3 x4 x5 M rfl
    rw [sk_apart_49] at h
    rcases gI_or h with h | h
    · rcases gI_or h with h | h
      · obtain ⟨r66, e66, h⟩ := gI_bd h
        rcases gI_or h with h | h
        · exact gFr_t (gFr_r [723, 724] [] _) ((hk _ _ h).1 _ _ _ _ _ _ rfl) (fun _ z => z) (fun _ z => z)
        · exact gFr_t (gFr_r [723, 724] [] _) ((hk _ _ h).1 _ _ _ _ _ _ rfl) (fun _ z => z) (fun _ z => z)
      · exact gFr_t (gFr_r [723, 724] [] _) ((hk _ _ h).2 _ _ _ _ _ _ rfl) (fun _ z => z) (fun _ z => z)
    · exact gFr_t (gFr_r [723, 724] [] _) ((hk _ _ h).2 _ _ _ _ _ _ rfl) (fun _ z => z) (fun _ z => z)
  · rintro x1 x2 x3 x4 x5 M rfl
    rw [sk_apart_87] at h
    rcases gI_or h with h | h
    · rcases gI_or h with h | h
      · rcases gI_or h with h | h
        · obtain ⟨g3, h⟩ := gI_gd h
          rcases gI_or h with h | h
          · exact gFr_t (gFr_r [723, 724] [] _) ((hk _ _ h).2 _ _ _ _ _ _ rfl) (fun _ z => z) (fun _ z => z)
          · rcases gI_or h with h | h
            · exact gFr_t (gFr_r [723, 724] [] _) ((hk _ _ h).2 _ _ _ _ _ _ rfl) (fun _ z => z) (fun _ z => z)
            · exact gFr_t (gFr_r [723, 724] [] _) ((hk _ _ h).2 _ _ _ _ _ _ rfl) (fun _ z => z) (fun _ z => z)
        · rcases gI_or h with h | h
          · obtain ⟨g2, h⟩ := gI_gd h
            rcases gI_or h with h | h
            · exact gFr_t (gFr_r [723, 724] [] _) ((hk _ _ h).2 _ _ _ _ _ _ rfl) (fun _ z => z) (fun _ z => z)
            · rcases gI_or h with h | h
              · exact gFr_t (gFr_r [723, 724] [] _) ((hk _ _ h).2 _ _ _ _ _ _ rfl) (fun _ z => z) (fun _ z => z)
              · exact gFr_t (gFr_r [723, 724] [] _) ((hk _ _ h).2 _ _ _ _ _ _ rfl) (fun _ z => z) (fun _ z => z)
          · obtain ⟨g1, h⟩ := gI_gd h
            rcases gI_or h with h | h
            · rcases gI_or h with h | h
              · exact gFr_t (gFr_r [723, 724] [] _) ((hk _ _ h).2 _ _ _ _ _ _ rfl) (fun _ z => z) (fun _ z => z)
              · exact gFr_t (gFr_r [723, 724] [] _) ((hk _ _ h).2 _ _ _ _ _ _ rfl) (fun _ z => z) (fun _ z => z)
            · exact gFr_t (gFr_r [723, 724] [] _) ((hk _ _ h).2 _ _ _ _ _ _ rfl) (fun _ z => z) (fun _ z => z)
      · rw [← Option.some.inj h]
        exact (gFr_r [723, 724] [] _)
    · rw [← Option.some.inj h]
      exact (gFr_r [723, 724] [] _)
theorem fr_apart_49 {M : gM} {x1 x2 x3 x4 x5 : Int} {b : Int × gM} (h : F_apart_49 M x1 x2 x3 x4 x5 = some b) : gFr [723, 724] [] M b.2 :=
  (frp_apart _ _ h).1 _ _ _ _ _ _ rfl
theorem fr_apart_87 {M : gM} {x1 x2 x3 x4 x5 : Int} {b : Int × gM} (h : F_apart_87 M x1 x2 x3 x4 x5 = some b) : gFr [723, 724] [] M b.2 :=
  (frp_apart _ _ h).2 _ _ _ _ _ _ rfl
theorem fr_apart {M : gM} {a1 a2 a3 : Int} {b : Int × gM} (h : F_apart M a1 a2 a3 = some b) : gFr [723, 724] [] M b.2 := by
  rw [eq_apart] at h
  obtain ⟨r1, e1, h⟩ := gI_bd h
  rcases gI_or h with h | h
  · rw [← Option.some.inj h]
    exact (gFr_r [723, 724] [] _)
  · obtain ⟨r8, e8, h⟩ := gI_bd h
    rcases gI_or h with h | h
    · rw [← Option.some.inj h]
      exact (gFr_r [723, 724] [] _)
    · obtain ⟨r17, e17, h⟩ := gI_bd h
      rcases gI_or h with h | h
      · rw [← Option.some.inj h]
        exact (gFr_r [723, 724] [] _)
      · obtain ⟨m31, e31, h⟩ := gI_bd h
        obtain ⟨m40, e40, h⟩ := gI_bd h
        exact gFr_t (gFr_t (gFr_t (gFr_r [723, 724] [] _) (fr_marksHistory (b := m31) e31) (by first | decide | simp) (by decide)) (fr_marksHistory (b := m40) e40) (by first | decide | simp) (by decide)) (fr_apart_49 h) (fun _ z => z) (fun _ z => z)
theorem okp_apart {sh : gS} : ∀ (s : Nat × List Int × gM) (b : Int × gM), gWh (st_apart) s = some b → (∀ (x1 x2 x3 x4 x5 : Int) (M : gM), s = (0, [x1, x2, x3, x4, x5], M) → gOK sh M → gA (gr 3 68) yX12_apart cX12_apart 7 (some (.int)) (gPq sh (some (0, b.1)) b.2) (0, 0) 49 [(4, 711), (0, x1), (0, x2), (0, x3), (0, x4), (0, x5), (9, 0)] [] sh M) ∧ (∀ (x1 x2 x3 x4 x5 : Int) (M : gM), s = (1, [x1, x2, x3, x4, x5], M) → gOK sh M → gA (gr 3 68) yX12_apart cX12_apart 7 (some (.int)) (gPq sh (some (0, b.1)) b.2) (0, 0) 87 [(4, 711), (0, x1), (0, x2), (0, x3), (0, x4), (0, x5), (9, 0)] [] sh M) := by
  refine gWh_ind (fun k hk s b h => ⟨?_, ?_⟩)
  · rintro x1 x2 x3 x4 x5 M rfl hOK
    rw [sk_apart_49] at h
    refine g_iload (q0 := 51) (j := 5) rfl dX12_apart_49 rfl ?_
    refine g_bipush (q0 := 53) rfl dX12_apart_51 (k := ?_)
    refine g_icmp_ge (q0 := 56) (tgt := 84) rfl dX12_apart_53 (by decide) (fun h53 => ?_) (fun h53 => ?_)
    · replace h := gI_neg (Int.not_lt.mpr h53) h
      refine g_iconst (q0 := 85) rfl dX12_apart_84 (k := ?_)
      refine g_istore (q0 := 87) (j := 5) (lv2 := [_, _, _, _, _, _, _]) rfl dX12_apart_85 (by decide) rfl rfl ?_
      exact (hk _ _ h).2 _ _ _ _ _ _ rfl hOK
    · replace h := gI_pos h53 h
      refine g_iload_n (q0 := 57) (j := 3) rfl dX12_apart_56 rfl ?_
      refine g_iconst (q0 := 58) rfl dX12_apart_57 (k := ?_)
      refine g_icmp_ne (q0 := 61) (tgt := 84) rfl dX12_apart_58 (by decide) (fun h58 => ?_) (fun h58 => ?_)
      · replace h := gI_neg h58 h
        refine g_iconst (q0 := 85) rfl dX12_apart_84 (k := ?_)
        refine g_istore (q0 := 87) (j := 5) (lv2 := [_, _, _, _, _, _, _]) rfl dX12_apart_85 (by decide) rfl rfl ?_
        exact (hk _ _ h).2 _ _ _ _ _ _ rfl hOK
      · replace h := gI_pos h58 h
        refine g_aload_n (q0 := 62) (j := 0) rfl dX12_apart_61 rfl ?_
        refine g_iload_n (q0 := 63) (j := 1) rfl dX12_apart_62 rfl ?_
        refine g_iload_n (q0 := 64) (j := 2) rfl dX12_apart_63 rfl ?_
        refine g_iload (q0 := 66) (j := 5) rfl dX12_apart_64 rfl ?_
        obtain ⟨r66, e66, h⟩ := gI_bd h
        refine g_callVq1 (as := [_, _, _]) (rest := []) mt_X12_isRefApart mi_X12_isRefApart se_X12_isRefApart ml_X12_699 dX12_apart_66 (q0 := 69) rfl rfl (sh_711 hOK) rfl rfl (ok_isRefApart hOK e66) rfl ⟨by decide, by decide⟩ (Nat.le_of_ble_eq_true rfl) ⟨Nat.zero_le _, Nat.zero_le _⟩ ?_
        refine g_if_eq (q0 := 72) (tgt := 78) rfl dX12_apart_69 (by decide) (fun h69 => ?_) (fun h69 => ?_)
        · replace h := gI_pos h69 h
          refine g_iincw (q0 := 81) (lv2 := [_, _, _, _, _, _, _]) rfl dX12_apart_78 rfl (by decide) rfl rfl ?_
          refine g_goto (tgt := 49) dX12_apart_81 (by decide) ?_
          exact (hk _ _ h).1 _ _ _ _ _ _ rfl hOK
        · replace h := gI_neg h69 h
          refine g_iload (q0 := 74) (j := 4) rfl dX12_apart_72 rfl ?_
          refine g_iconst (q0 := 75) rfl dX12_apart_74 (k := ?_)
          refine g_iaddw (q0 := 76) rfl dX12_apart_75 ?_
          refine g_istore (q0 := 78) (j := 4) (lv2 := [_, _, _, _, _, _, _]) rfl dX12_apart_76 (by decide) rfl rfl ?_
          refine g_iincw (q0 := 81) (lv2 := [_, _, _, _, _, _, _]) rfl dX12_apart_78 rfl (by decide) rfl rfl ?_
          refine g_goto (tgt := 49) dX12_apart_81 (by decide) ?_
          exact (hk _ _ h).1 _ _ _ _ _ _ rfl hOK
  · rintro x1 x2 x3 x4 x5 M rfl hOK
    rw [sk_apart_87] at h
    refine g_iload (q0 := 89) (j := 5) rfl dX12_apart_87 rfl ?_
    refine g_aload_n (q0 := 90) (j := 0) rfl dX12_apart_89 rfl ?_
    refine g_getf (q0 := 93) (t := 0) (fi := 0) rfl rfl ff_X12_178 dX12_apart_90 rfl (sh_711 hOK) ?_
    refine g_icmp_ge (q0 := 96) (tgt := 210) rfl dX12_apart_93 (by decide) (fun h93 => ?_) (fun h93 => ?_)
    · replace h := gI_neg (Int.not_lt.mpr h93) h
      refine g_iload (q0 := 212) (j := 4) rfl dX12_apart_210 rfl ?_
      rw [← Option.some.inj h]
      refine g_ireturn dX12_apart_212 rfl ⟨Nat.zero_le _, Nat.zero_le _⟩ ?_
      exact ⟨rfl, rfl, rfl⟩
    · replace h := gI_pos h93 h
      refine g_iload_n (q0 := 97) (j := 3) rfl dX12_apart_96 rfl ?_
      refine g_iconst (q0 := 98) rfl dX12_apart_97 (k := ?_)
      refine g_icmp_ge (q0 := 101) (tgt := 210) rfl dX12_apart_98 (by decide) (fun h98 => ?_) (fun h98 => ?_)
      · replace h := gI_neg (Int.not_lt.mpr h98) h
        refine g_iload (q0 := 212) (j := 4) rfl dX12_apart_210 rfl ?_
        rw [← Option.some.inj h]
        refine g_ireturn dX12_apart_212 rfl ⟨Nat.zero_le _, Nat.zero_le _⟩ ?_
        exact ⟨rfl, rfl, rfl⟩
      · replace h := gI_pos h98 h
        refine g_iload_n (q0 := 102) (j := 3) rfl dX12_apart_101 rfl ?_
        refine g_if_ne (q0 := 105) (tgt := 133) rfl dX12_apart_102 (by decide) (fun h102 => ?_) (fun h102 => ?_)
        · replace h := gI_neg h102 h
          refine g_iload_n (q0 := 134) (j := 3) rfl dX12_apart_133 rfl ?_
          refine g_iconst (q0 := 135) rfl dX12_apart_134 (k := ?_)
          refine g_icmp_ne (q0 := 138) (tgt := 166) rfl dX12_apart_135 (by decide) (fun h135 => ?_) (fun h135 => ?_)
          · replace h := gI_neg h135 h
            refine g_aload_n (q0 := 167) (j := 0) rfl dX12_apart_166 rfl ?_
            refine g_getp (q0 := 170) (b := 723) rfl ff_X12_43 dX12_apart_167 rfl hOK (by decide) (sh_711 hOK) rfl (by decide) ?_
            refine g_iload (q0 := 172) (j := 5) rfl dX12_apart_170 rfl ?_
            obtain ⟨g1, h⟩ := gI_gd h
            refine g_zald (q0 := 173) rfl dX12_apart_172 (sh_723 hOK) g1.1 g1.2 ?_
            refine g_if_ne (q0 := 176) (tgt := 190) rfl dX12_apart_173 (by decide) (fun h173 => ?_) (fun h173 => ?_)
            · replace h := gI_neg h173 h
              refine g_iconst (q0 := 191) rfl dX12_apart_190 (k := ?_)
              refine g_istore (q0 := 193) (j := 6) (lv2 := [_, _, _, _, _, _, _]) rfl dX12_apart_191 (by decide) rfl rfl ?_
              refine g_iload (q0 := 195) (j := 6) rfl dX12_apart_193 rfl ?_
              refine g_if_eq (q0 := 198) (tgt := 204) rfl dX12_apart_195 (by decide) (fun h195 => ?_) (fun h195 => ?_)
              · refine g_iincw (q0 := 207) (lv2 := [_, _, _, _, _, _, _]) rfl dX12_apart_204 rfl (by decide) rfl rfl ?_
                refine g_goto (tgt := 87) dX12_apart_207 (by decide) ?_
                refine gA_jk (lv1 := [_, _, _, _, _, _, (9, 0)]) ⟨.inl rfl, .inl rfl, .inl rfl, .inl rfl, .inl rfl, .inl rfl, .inr rfl, trivial⟩ ?_
                exact (hk _ _ h).2 _ _ _ _ _ _ rfl hOK
              · exact absurd h195 (by decide)
            · replace h := gI_pos h173 h
              refine g_aload_n (q0 := 177) (j := 0) rfl dX12_apart_176 rfl ?_
              refine g_getp (q0 := 180) (b := 724) rfl ff_X12_47 dX12_apart_177 rfl hOK (by decide) (sh_711 hOK) rfl (by decide) ?_
              refine g_iload (q0 := 182) (j := 5) rfl dX12_apart_180 rfl ?_
              refine g_zald (q0 := 183) rfl dX12_apart_182 (sh_724 hOK) g1.1 g1.2 ?_
              refine g_if_eq (q0 := 186) (tgt := 190) rfl dX12_apart_183 (by decide) (fun h183 => ?_) (fun h183 => ?_)
              · replace h := gI_pos h183 h
                refine g_iconst (q0 := 191) rfl dX12_apart_190 (k := ?_)
                refine g_istore (q0 := 193) (j := 6) (lv2 := [_, _, _, _, _, _, _]) rfl dX12_apart_191 (by decide) rfl rfl ?_
                refine g_iload (q0 := 195) (j := 6) rfl dX12_apart_193 rfl ?_
                refine g_if_eq (q0 := 198) (tgt := 204) rfl dX12_apart_195 (by decide) (fun h195 => ?_) (fun h195 => ?_)
                · refine g_iincw (q0 := 207) (lv2 := [_, _, _, _, _, _, _]) rfl dX12_apart_204 rfl (by decide) rfl rfl ?_
                  refine g_goto (tgt := 87) dX12_apart_207 (by decide) ?_
                  refine gA_jk (lv1 := [_, _, _, _, _, _, (9, 0)]) ⟨.inl rfl, .inl rfl, .inl rfl, .inl rfl, .inl rfl, .inl rfl, .inr rfl, trivial⟩ ?_
                  exact (hk _ _ h).2 _ _ _ _ _ _ rfl hOK
                · exact absurd h195 (by decide)
              · replace h := gI_neg h183 h
                refine g_iconst (q0 := 187) rfl dX12_apart_186 (k := ?_)
                refine g_goto (tgt := 191) dX12_apart_187 (by decide) ?_
                refine g_istore (q0 := 193) (j := 6) (lv2 := [_, _, _, _, _, _, _]) rfl dX12_apart_191 (by decide) rfl rfl ?_
                refine g_iload (q0 := 195) (j := 6) rfl dX12_apart_193 rfl ?_
                refine g_if_eq (q0 := 198) (tgt := 204) rfl dX12_apart_195 (by decide) (fun h195 => ?_) (fun h195 => ?_)
                · exact absurd h195 (by decide)
                · refine g_iload (q0 := 200) (j := 4) rfl dX12_apart_198 rfl ?_
                  refine g_iconst (q0 := 201) rfl dX12_apart_200 (k := ?_)
                  refine g_iaddw (q0 := 202) rfl dX12_apart_201 ?_
                  refine g_istore (q0 := 204) (j := 4) (lv2 := [_, _, _, _, _, _, _]) rfl dX12_apart_202 (by decide) rfl rfl ?_
                  refine g_iincw (q0 := 207) (lv2 := [_, _, _, _, _, _, _]) rfl dX12_apart_204 rfl (by decide) rfl rfl ?_
                  refine g_goto (tgt := 87) dX12_apart_207 (by decide) ?_
                  refine gA_jk (lv1 := [_, _, _, _, _, _, (9, 0)]) ⟨.inl rfl, .inl rfl, .inl rfl, .inl rfl, .inl rfl, .inl rfl, .inr rfl, trivial⟩ ?_
                  exact (hk _ _ h).2 _ _ _ _ _ _ rfl hOK
          · replace h := gI_pos h135 h
            refine g_aload_n (q0 := 139) (j := 0) rfl dX12_apart_138 rfl ?_
            refine g_getp (q0 := 142) (b := 723) rfl ff_X12_43 dX12_apart_139 rfl hOK (by decide) (sh_711 hOK) rfl (by decide) ?_
            refine g_iload (q0 := 144) (j := 5) rfl dX12_apart_142 rfl ?_
            obtain ⟨g2, h⟩ := gI_gd h
            refine g_zald (q0 := 145) rfl dX12_apart_144 (sh_723 hOK) g2.1 g2.2 ?_
            refine g_if_eq (q0 := 148) (tgt := 162) rfl dX12_apart_145 (by decide) (fun h145 => ?_) (fun h145 => ?_)
            · replace h := gI_pos h145 h
              refine g_iconst (q0 := 163) rfl dX12_apart_162 (k := ?_)
              refine g_goto (tgt := 191) dX12_apart_163 (by decide) ?_
              refine g_istore (q0 := 193) (j := 6) (lv2 := [_, _, _, _, _, _, _]) rfl dX12_apart_191 (by decide) rfl rfl ?_
              refine g_iload (q0 := 195) (j := 6) rfl dX12_apart_193 rfl ?_
              refine g_if_eq (q0 := 198) (tgt := 204) rfl dX12_apart_195 (by decide) (fun h195 => ?_) (fun h195 => ?_)
              · refine g_iincw (q0 := 207) (lv2 := [_, _, _, _, _, _, _]) rfl dX12_apart_204 rfl (by decide) rfl rfl ?_
                refine g_goto (tgt := 87) dX12_apart_207 (by decide) ?_
                refine gA_jk (lv1 := [_, _, _, _, _, _, (9, 0)]) ⟨.inl rfl, .inl rfl, .inl rfl, .inl rfl, .inl rfl, .inl rfl, .inr rfl, trivial⟩ ?_
                exact (hk _ _ h).2 _ _ _ _ _ _ rfl hOK
              · exact absurd h195 (by decide)
            · replace h := gI_neg h145 h
              refine g_aload_n (q0 := 149) (j := 0) rfl dX12_apart_148 rfl ?_
              refine g_getp (q0 := 152) (b := 724) rfl ff_X12_47 dX12_apart_149 rfl hOK (by decide) (sh_711 hOK) rfl (by decide) ?_
              refine g_iload (q0 := 154) (j := 5) rfl dX12_apart_152 rfl ?_
              refine g_zald (q0 := 155) rfl dX12_apart_154 (sh_724 hOK) g2.1 g2.2 ?_
              refine g_if_eq (q0 := 158) (tgt := 162) rfl dX12_apart_155 (by decide) (fun h155 => ?_) (fun h155 => ?_)
              · replace h := gI_pos h155 h
                refine g_iconst (q0 := 163) rfl dX12_apart_162 (k := ?_)
                refine g_goto (tgt := 191) dX12_apart_163 (by decide) ?_
                refine g_istore (q0 := 193) (j := 6) (lv2 := [_, _, _, _, _, _, _]) rfl dX12_apart_191 (by decide) rfl rfl ?_
                refine g_iload (q0 := 195) (j := 6) rfl dX12_apart_193 rfl ?_
                refine g_if_eq (q0 := 198) (tgt := 204) rfl dX12_apart_195 (by decide) (fun h195 => ?_) (fun h195 => ?_)
                · refine g_iincw (q0 := 207) (lv2 := [_, _, _, _, _, _, _]) rfl dX12_apart_204 rfl (by decide) rfl rfl ?_
                  refine g_goto (tgt := 87) dX12_apart_207 (by decide) ?_
                  refine gA_jk (lv1 := [_, _, _, _, _, _, (9, 0)]) ⟨.inl rfl, .inl rfl, .inl rfl, .inl rfl, .inl rfl, .inl rfl, .inr rfl, trivial⟩ ?_
                  exact (hk _ _ h).2 _ _ _ _ _ _ rfl hOK
                · exact absurd h195 (by decide)
              · replace h := gI_neg h155 h
                refine g_iconst (q0 := 159) rfl dX12_apart_158 (k := ?_)
                refine g_goto (tgt := 191) dX12_apart_159 (by decide) ?_
                refine g_istore (q0 := 193) (j := 6) (lv2 := [_, _, _, _, _, _, _]) rfl dX12_apart_191 (by decide) rfl rfl ?_
                refine g_iload (q0 := 195) (j := 6) rfl dX12_apart_193 rfl ?_
                refine g_if_eq (q0 := 198) (tgt := 204) rfl dX12_apart_195 (by decide) (fun h195 => ?_) (fun h195 => ?_)
                · exact absurd h195 (by decide)
                · refine g_iload (q0 := 200) (j := 4) rfl dX12_apart_198 rfl ?_
                  refine g_iconst (q0 := 201) rfl dX12_apart_200 (k := ?_)
                  refine g_iaddw (q0 := 202) rfl dX12_apart_201 ?_
                  refine g_istore (q0 := 204) (j := 4) (lv2 := [_, _, _, _, _, _, _]) rfl dX12_apart_202 (by decide) rfl rfl ?_
                  refine g_iincw (q0 := 207) (lv2 := [_, _, _, _, _, _, _]) rfl dX12_apart_204 rfl (by decide) rfl rfl ?_
                  refine g_goto (tgt := 87) dX12_apart_207 (by decide) ?_
                  refine gA_jk (lv1 := [_, _, _, _, _, _, (9, 0)]) ⟨.inl rfl, .inl rfl, .inl rfl, .inl rfl, .inl rfl, .inl rfl, .inr rfl, trivial⟩ ?_
                  exact (hk _ _ h).2 _ _ _ _ _ _ rfl hOK
        · replace h := gI_pos h102 h
          refine g_aload_n (q0 := 106) (j := 0) rfl dX12_apart_105 rfl ?_
          refine g_getp (q0 := 109) (b := 723) rfl ff_X12_43 dX12_apart_106 rfl hOK (by decide) (sh_711 hOK) rfl (by decide) ?_
          refine g_iload (q0 := 111) (j := 5) rfl dX12_apart_109 rfl ?_
          obtain ⟨g3, h⟩ := gI_gd h
          refine g_zald (q0 := 112) rfl dX12_apart_111 (sh_723 hOK) g3.1 g3.2 ?_
          refine g_if_eq (q0 := 115) (tgt := 129) rfl dX12_apart_112 (by decide) (fun h112 => ?_) (fun h112 => ?_)
          · replace h := gI_pos h112 h
            refine g_iconst (q0 := 130) rfl dX12_apart_129 (k := ?_)
            refine g_goto (tgt := 191) dX12_apart_130 (by decide) ?_
            refine g_istore (q0 := 193) (j := 6) (lv2 := [_, _, _, _, _, _, _]) rfl dX12_apart_191 (by decide) rfl rfl ?_
            refine g_iload (q0 := 195) (j := 6) rfl dX12_apart_193 rfl ?_
            refine g_if_eq (q0 := 198) (tgt := 204) rfl dX12_apart_195 (by decide) (fun h195 => ?_) (fun h195 => ?_)
            · refine g_iincw (q0 := 207) (lv2 := [_, _, _, _, _, _, _]) rfl dX12_apart_204 rfl (by decide) rfl rfl ?_
              refine g_goto (tgt := 87) dX12_apart_207 (by decide) ?_
              refine gA_jk (lv1 := [_, _, _, _, _, _, (9, 0)]) ⟨.inl rfl, .inl rfl, .inl rfl, .inl rfl, .inl rfl, .inl rfl, .inr rfl, trivial⟩ ?_
              exact (hk _ _ h).2 _ _ _ _ _ _ rfl hOK
            · exact absurd h195 (by decide)
          · replace h := gI_neg h112 h
            refine g_aload_n (q0 := 116) (j := 0) rfl dX12_apart_115 rfl ?_
            refine g_getp (q0 := 119) (b := 724) rfl ff_X12_47 dX12_apart_116 rfl hOK (by decide) (sh_711 hOK) rfl (by decide) ?_
            refine g_iload (q0 := 121) (j := 5) rfl dX12_apart_119 rfl ?_
            refine g_zald (q0 := 122) rfl dX12_apart_121 (sh_724 hOK) g3.1 g3.2 ?_
            refine g_if_ne (q0 := 125) (tgt := 129) rfl dX12_apart_122 (by decide) (fun h122 => ?_) (fun h122 => ?_)
            · replace h := gI_neg h122 h
              refine g_iconst (q0 := 130) rfl dX12_apart_129 (k := ?_)
              refine g_goto (tgt := 191) dX12_apart_130 (by decide) ?_
              refine g_istore (q0 := 193) (j := 6) (lv2 := [_, _, _, _, _, _, _]) rfl dX12_apart_191 (by decide) rfl rfl ?_
              refine g_iload (q0 := 195) (j := 6) rfl dX12_apart_193 rfl ?_
              refine g_if_eq (q0 := 198) (tgt := 204) rfl dX12_apart_195 (by decide) (fun h195 => ?_) (fun h195 => ?_)
              · refine g_iincw (q0 := 207) (lv2 := [_, _, _, _, _, _, _]) rfl dX12_apart_204 rfl (by decide) rfl rfl ?_
                refine g_goto (tgt := 87) dX12_apart_207 (by decide) ?_
                refine gA_jk (lv1 := [_, _, _, _, _, _, (9, 0)]) ⟨.inl rfl, .inl rfl, .inl rfl, .inl rfl, .inl rfl, .inl rfl, .inr rfl, trivial⟩ ?_
                exact (hk _ _ h).2 _ _ _ _ _ _ rfl hOK
              · exact absurd h195 (by decide)
            · replace h := gI_pos h122 h
              refine g_iconst (q0 := 126) rfl dX12_apart_125 (k := ?_)
              refine g_goto (tgt := 191) dX12_apart_126 (by decide) ?_
              refine g_istore (q0 := 193) (j := 6) (lv2 := [_, _, _, _, _, _, _]) rfl dX12_apart_191 (by decide) rfl rfl ?_
              refine g_iload (q0 := 195) (j := 6) rfl dX12_apart_193 rfl ?_
              refine g_if_eq (q0 := 198) (tgt := 204) rfl dX12_apart_195 (by decide) (fun h195 => ?_) (fun h195 => ?_)
              · exact absurd h195 (by decide)
              · refine g_iload (q0 := 200) (j := 4) rfl dX12_apart_198 rfl ?_
                refine g_iconst (q0 := 201) rfl dX12_apart_200 (k := ?_)
                refine g_iaddw (q0 := 202) rfl dX12_apart_201 ?_
                refine g_istore (q0 := 204) (j := 4) (lv2 := [_, _, _, _, _, _, _]) rfl dX12_apart_202 (by decide) rfl rfl ?_
                refine g_iincw (q0 := 207) (lv2 := [_, _, _, _, _, _, _]) rfl dX12_apart_204 rfl (by decide) rfl rfl ?_
                refine g_goto (tgt := 87) dX12_apart_207 (by decide) ?_
                refine gA_jk (lv1 := [_, _, _, _, _, _, (9, 0)]) ⟨.inl rfl, .inl rfl, .inl rfl, .inl rfl, .inl rfl, .inl rfl, .inr rfl, trivial⟩ ?_
                exact (hk _ _ h).2 _ _ _ _ _ _ rfl hOK
theorem ok_apart_49 {sh : gS} {M : gM} {x1 x2 x3 x4 x5 : Int} {b : Int × gM} (hOK : gOK sh M) (h : F_apart_49 M x1 x2 x3 x4 x5 = some b) : gA (gr 3 68) yX12_apart cX12_apart 7 (some (.int)) (gPq sh (some (0, b.1)) b.2) (0, 0) 49 [(4, 711), (0, x1), (0, x2), (0, x3), (0, x4), (0, x5), (9, 0)] [] sh M :=
  (okp_apart _ _ h).1 _ _ _ _ _ _ rfl hOK
theorem ok_apart_87 {sh : gS} {M : gM} {x1 x2 x3 x4 x5 : Int} {b : Int × gM} (hOK : gOK sh M) (h : F_apart_87 M x1 x2 x3 x4 x5 = some b) : gA (gr 3 68) yX12_apart cX12_apart 7 (some (.int)) (gPq sh (some (0, b.1)) b.2) (0, 0) 87 [(4, 711), (0, x1), (0, x2), (0, x3), (0, x4), (0, x5), (9, 0)] [] sh M :=
  (okp_apart _ _ h).2 _ _ _ _ _ _ rfl hOK
theorem ok_apart {sh : gS} {M : gM} {a1 a2 a3 : Int} {b : Int × gM} (hOK : gOK sh M) (h : F_apart M a1 a2 a3 = some b) : gC (gr 3 68) yX12_apart cX12_apart 7 (some (.int)) [(4, 711), (0, a1), (0, a2), (0, a3)] sh M (gPq sh (some (0, b.1)) b.2) := by
  rw [eq_apart] at h
  refine gC_ofA (lv := [_, _, _, _, _, _, _]) (by decide +kernel) (Nat.le_of_ble_eq_true rfl) rfl (fun hMw hav => ?_)
  refine g_iload_n (q0 := 1) (j := 1) rfl dX12_apart_0 rfl ?_
  obtain ⟨r1, e1, h⟩ := gI_bd h
  refine g_callSq1 (as := [_]) (rest := []) mt_X12_isHistory ms_X12_isHistory ml_X12_353 dX12_apart_1 (q0 := 4) rfl rfl (ok_isHistory hOK e1) rfl ⟨by decide, by decide⟩ (Nat.le_of_ble_eq_true rfl) ⟨Nat.zero_le _, Nat.zero_le _⟩ ?_
  refine g_if_eq (q0 := 7) (tgt := 23) rfl dX12_apart_4 (by decide) (fun h4 => ?_) (fun h4 => ?_)
  · replace h := gI_pos h4 h
    refine g_iconst (q0 := 24) rfl dX12_apart_23 (k := ?_)
    rw [← Option.some.inj h]
    refine g_ireturn dX12_apart_24 rfl ⟨Nat.zero_le _, Nat.zero_le _⟩ ?_
    exact ⟨rfl, rfl, rfl⟩
  · replace h := gI_neg h4 h
    refine g_iload_n (q0 := 8) (j := 2) rfl dX12_apart_7 rfl ?_
    obtain ⟨r8, e8, h⟩ := gI_bd h
    refine g_callSq1 (as := [_]) (rest := []) mt_X12_isHistory ms_X12_isHistory ml_X12_353 dX12_apart_8 (q0 := 11) rfl rfl (ok_isHistory hOK e8) rfl ⟨by decide, by decide⟩ (Nat.le_of_ble_eq_true rfl) ⟨Nat.zero_le _, Nat.zero_le _⟩ ?_
    refine g_if_eq (q0 := 14) (tgt := 23) rfl dX12_apart_11 (by decide) (fun h11 => ?_) (fun h11 => ?_)
    · replace h := gI_pos h11 h
      refine g_iconst (q0 := 24) rfl dX12_apart_23 (k := ?_)
      rw [← Option.some.inj h]
      refine g_ireturn dX12_apart_24 rfl ⟨Nat.zero_le _, Nat.zero_le _⟩ ?_
      exact ⟨rfl, rfl, rfl⟩
    · replace h := gI_neg h11 h
      refine g_iload_n (q0 := 15) (j := 3) rfl dX12_apart_14 rfl ?_
      refine g_iconst (q0 := 16) rfl dX12_apart_15 (k := ?_)
      refine g_iconst (q0 := 17) rfl dX12_apart_16 (k := ?_)
      obtain ⟨r17, e17, h⟩ := gI_bd h
      refine g_callSq1 (as := [_, _, _]) (rest := []) mt_X12_in ms_X12_in ml_X12_182 dX12_apart_17 (q0 := 20) rfl rfl (ok_in hOK e17) rfl ⟨by decide, by decide⟩ (Nat.le_of_ble_eq_true rfl) ⟨Nat.zero_le _, Nat.zero_le _⟩ ?_
      refine g_if_ne (q0 := 23) (tgt := 25) rfl dX12_apart_20 (by decide) (fun h20 => ?_) (fun h20 => ?_)
      · replace h := gI_neg h20 h
        refine g_aload_n (q0 := 26) (j := 0) rfl dX12_apart_25 rfl ?_
        refine g_iload_n (q0 := 27) (j := 1) rfl dX12_apart_26 rfl ?_
        refine g_aload_n (q0 := 28) (j := 0) rfl dX12_apart_27 rfl ?_
        refine g_getp (q0 := 31) (b := 723) rfl ff_X12_43 dX12_apart_28 rfl hOK (by decide) (sh_711 hOK) rfl (by decide) ?_
        obtain ⟨m31, e31, h⟩ := gI_bd h
        refine g_callVq0 (as := [_, _]) (rest := []) mt_X12_marksHistory mi_X12_marksHistory se_X12_marksHistory ml_X12_659 dX12_apart_31 (q0 := 34) rfl rfl (sh_711 hOK) rfl rfl (ok_marksHistory hOK e31) rfl ⟨by decide, by decide⟩ (Nat.le_of_ble_eq_true rfl) ⟨Nat.zero_le _, Nat.zero_le _⟩ ?_
        have hOK4 : gOK sh m31 := gOK_fr hOK (fr_marksHistory (b := m31) e31) (by first | decide | (intro a ha; simp only [List.mem_cons, List.not_mem_nil, or_false] at ha; omega)) (by decide)
        refine g_aload_n (q0 := 35) (j := 0) rfl dX12_apart_34 rfl ?_
        refine g_iload_n (q0 := 36) (j := 2) rfl dX12_apart_35 rfl ?_
        refine g_aload_n (q0 := 37) (j := 0) rfl dX12_apart_36 rfl ?_
        refine g_getp (q0 := 40) (b := 724) rfl ff_X12_47 dX12_apart_37 rfl hOK4 (by decide) (sh_711 hOK4) rfl (by decide) ?_
        obtain ⟨m40, e40, h⟩ := gI_bd h
        refine g_callVq0 (as := [_, _]) (rest := []) mt_X12_marksHistory mi_X12_marksHistory se_X12_marksHistory ml_X12_659 dX12_apart_40 (q0 := 43) rfl rfl (sh_711 hOK4) rfl rfl (ok_marksHistory hOK4 e40) rfl ⟨by decide, by decide⟩ (Nat.le_of_ble_eq_true rfl) ⟨Nat.zero_le _, Nat.zero_le _⟩ ?_
        have hOK5 : gOK sh m40 := gOK_fr hOK4 (fr_marksHistory (b := m40) e40) (by first | decide | (intro a ha; simp only [List.mem_cons, List.not_mem_nil, or_false] at ha; omega)) (by decide)
        refine g_iconst (q0 := 44) rfl dX12_apart_43 (k := ?_)
        refine g_istore (q0 := 46) (j := 4) (lv2 := [_, _, _, _, _, _, _]) rfl dX12_apart_44 (by decide) rfl rfl ?_
        refine g_iconst (q0 := 47) rfl dX12_apart_46 (k := ?_)
        refine g_istore (q0 := 49) (j := 5) (lv2 := [_, _, _, _, _, _, _]) rfl dX12_apart_47 (by decide) rfl rfl ?_
        exact ok_apart_49 hOK5 h
      · replace h := gI_pos h20 h
        refine g_iconst (q0 := 24) rfl dX12_apart_23 (k := ?_)
        rw [← Option.some.inj h]
        refine g_ireturn dX12_apart_24 rfl ⟨Nat.zero_le _, Nat.zero_le _⟩ ?_
        exact ⟨rfl, rfl, rfl⟩
-- ==== isSameThere
theorem dX12_isSameThere_0 : decode cX12_isSameThere 0 = .ok (.aload_n 0, 1) := by decide +kernel
theorem dX12_isSameThere_1 : decode cX12_isSameThere 1 = .ok (.iload_n 1, 1) := by decide +kernel
theorem dX12_isSameThere_2 : decode cX12_isSameThere 2 = .ok (.iload_n 3, 1) := by decide +kernel
theorem dX12_isSameThere_3 : decode cX12_isSameThere 3 = .ok (.invokevirtual 175, 3) := by decide +kernel
theorem dX12_isSameThere_6 : decode cX12_isSameThere 6 = .ok (.aload_n 0, 1) := by decide +kernel
theorem dX12_isSameThere_7 : decode cX12_isSameThere 7 = .ok (.iload_n 2, 1) := by decide +kernel
theorem dX12_isSameThere_8 : decode cX12_isSameThere 8 = .ok (.iload_n 3, 1) := by decide +kernel
theorem dX12_isSameThere_9 : decode cX12_isSameThere 9 = .ok (.invokevirtual 175, 3) := by decide +kernel
theorem dX12_isSameThere_12 : decode cX12_isSameThere 12 = .ok (.if_icmp .eq 5, 3) := by decide +kernel
theorem dX12_isSameThere_15 : decode cX12_isSameThere 15 = .ok (.iconst 0, 1) := by decide +kernel
theorem dX12_isSameThere_16 : decode cX12_isSameThere 16 = .ok (.ireturn, 1) := by decide +kernel
theorem dX12_isSameThere_17 : decode cX12_isSameThere 17 = .ok (.iconst 0, 1) := by decide +kernel
theorem dX12_isSameThere_18 : decode cX12_isSameThere 18 = .ok (.istore 4, 2) := by decide +kernel
theorem dX12_isSameThere_20 : decode cX12_isSameThere 20 = .ok (.iload 4, 2) := by decide +kernel
theorem dX12_isSameThere_22 : decode cX12_isSameThere 22 = .ok (.aload_n 0, 1) := by decide +kernel
theorem dX12_isSameThere_23 : decode cX12_isSameThere 23 = .ok (.getfield 28, 3) := by decide +kernel
theorem dX12_isSameThere_26 : decode cX12_isSameThere 26 = .ok (.iload_n 1, 1) := by decide +kernel
theorem dX12_isSameThere_27 : decode cX12_isSameThere 27 = .ok (.iaload, 1) := by decide +kernel
theorem dX12_isSameThere_28 : decode cX12_isSameThere 28 = .ok (.if_icmp .ge 47, 3) := by decide +kernel
theorem dX12_isSameThere_31 : decode cX12_isSameThere 31 = .ok (.aload_n 0, 1) := by decide +kernel
theorem dX12_isSameThere_32 : decode cX12_isSameThere 32 = .ok (.iload_n 1, 1) := by decide +kernel
theorem dX12_isSameThere_33 : decode cX12_isSameThere 33 = .ok (.iload 4, 2) := by decide +kernel
theorem dX12_isSameThere_35 : decode cX12_isSameThere 35 = .ok (.invokevirtual 162, 3) := by decide +kernel
theorem dX12_isSameThere_38 : decode cX12_isSameThere 38 = .ok (.iload_n 3, 1) := by decide +kernel
theorem dX12_isSameThere_39 : decode cX12_isSameThere 39 = .ok (.invokestatic 172, 3) := by decide +kernel
theorem dX12_isSameThere_42 : decode cX12_isSameThere 42 = .ok (.ifCond .eq 27, 3) := by decide +kernel
theorem dX12_isSameThere_45 : decode cX12_isSameThere 45 = .ok (.aload_n 0, 1) := by decide +kernel
theorem dX12_isSameThere_46 : decode cX12_isSameThere 46 = .ok (.iload_n 2, 1) := by decide +kernel
theorem dX12_isSameThere_47 : decode cX12_isSameThere 47 = .ok (.aload_n 0, 1) := by decide +kernel
theorem dX12_isSameThere_48 : decode cX12_isSameThere 48 = .ok (.iload_n 1, 1) := by decide +kernel
theorem dX12_isSameThere_49 : decode cX12_isSameThere 49 = .ok (.iload 4, 2) := by decide +kernel
theorem dX12_isSameThere_51 : decode cX12_isSameThere 51 = .ok (.invokevirtual 162, 3) := by decide +kernel
theorem dX12_isSameThere_54 : decode cX12_isSameThere 54 = .ok (.invokevirtual 632, 3) := by decide +kernel
theorem dX12_isSameThere_57 : decode cX12_isSameThere 57 = .ok (.aload_n 0, 1) := by decide +kernel
theorem dX12_isSameThere_58 : decode cX12_isSameThere 58 = .ok (.iload_n 1, 1) := by decide +kernel
theorem dX12_isSameThere_59 : decode cX12_isSameThere 59 = .ok (.iload 4, 2) := by decide +kernel
theorem dX12_isSameThere_61 : decode cX12_isSameThere 61 = .ok (.invokevirtual 169, 3) := by decide +kernel
theorem dX12_isSameThere_64 : decode cX12_isSameThere 64 = .ok (.if_icmp .eq 5, 3) := by decide +kernel
theorem dX12_isSameThere_67 : decode cX12_isSameThere 67 = .ok (.iconst 0, 1) := by decide +kernel
theorem dX12_isSameThere_68 : decode cX12_isSameThere 68 = .ok (.ireturn, 1) := by decide +kernel
theorem dX12_isSameThere_69 : decode cX12_isSameThere 69 = .ok (.iinc 4 1, 3) := by decide +kernel
theorem dX12_isSameThere_72 : decode cX12_isSameThere 72 = .ok (.goto (-52), 3) := by decide +kernel
theorem dX12_isSameThere_75 : decode cX12_isSameThere 75 = .ok (.iconst 1, 1) := by decide +kernel
theorem dX12_isSameThere_76 : decode cX12_isSameThere 76 = .ok (.ireturn, 1) := by decide +kernel
noncomputable def st_isSameThere (M : gM) : Nat × List Int → Option ((Nat × List Int) ⊕ (Int))
  | (0, [x1, x2, x3, x4]) => (if 0 ≤ x1 ∧ x1 < 123 then
      (if x4 < (M 718 x1) then
        (Option.bind (F_pathAt M x1 x4) (fun r35 =>
          (Option.bind (F_isAtOrBelow r35 x3) (fun r39 =>
            (if r39 = 0 then
              some (.inl (0, [x1, x2, x3, (gw32 (x4 + 1))]))
            else
              (Option.bind (F_pathAt M x1 x4) (fun r51 =>
                (Option.bind (F_contentBy M x2 r51) (fun r54 =>
                  (Option.bind (F_contentAt M x1 x4) (fun r61 =>
                    (if r54 = r61 then
                      some (.inl (0, [x1, x2, x3, (gw32 (x4 + 1))]))
                    else
                      some (.inr 0)))))))))))))
      else
        some (.inr 1))
    else none)
  | _ => none
theorem sk_isSameThere_20 (k : Nat × List Int → Option (Int)) (M : gM) (x1 x2 x3 x4 : Int) : gWk k (st_isSameThere M (0, [x1, x2, x3, x4])) = (if 0 ≤ x1 ∧ x1 < 123 then
    (if x4 < (M 718 x1) then
      (Option.bind (F_pathAt M x1 x4) (fun r35 =>
        (Option.bind (F_isAtOrBelow r35 x3) (fun r39 =>
          (if r39 = 0 then
            k (0, [x1, x2, x3, (gw32 (x4 + 1))])
          else
            (Option.bind (F_pathAt M x1 x4) (fun r51 =>
              (Option.bind (F_contentBy M x2 r51) (fun r54 =>
                (Option.bind (F_contentAt M x1 x4) (fun r61 =>
                  (if r54 = r61 then
                    k (0, [x1, x2, x3, (gw32 (x4 + 1))])
                  else
                    some 0))))))))))))
    else
      some 1)
  else none) := by
  simp only [st_isSameThere, gWk_ite, gWk_bind, gWk_inl, gWk_inr, gWk_none]
noncomputable def F_isSameThere_20 (M : gM) (x1 x2 x3 x4 : Int) : Option (Int) := gWh (st_isSameThere M) (0, [x1, x2, x3, x4])
theorem eq_isSameThere_20 (M : gM) (x1 x2 x3 x4 : Int) : F_isSameThere_20 M x1 x2 x3 x4 = (if 0 ≤ x1 ∧ x1 < 123 then
    (if x4 < (M 718 x1) then
      (Option.bind (F_pathAt M x1 x4) (fun r35 =>
        (Option.bind (F_isAtOrBelow r35 x3) (fun r39 =>
          (if r39 = 0 then
            F_isSameThere_20 M x1 x2 x3 (gw32 (x4 + 1))
          else
            (Option.bind (F_pathAt M x1 x4) (fun r51 =>
              (Option.bind (F_contentBy M x2 r51) (fun r54 =>
                (Option.bind (F_contentAt M x1 x4) (fun r61 =>
                  (if r54 = r61 then
                    F_isSameThere_20 M x1 x2 x3 (gw32 (x4 + 1))
                  else
                    some 0))))))))))))
    else
      some 1)
  else none) := (gWh_eq _).trans (sk_isSameThere_20 _ M x1 x2 x3 x4)
noncomputable def F_isSameThere (M : gM) (a1 a2 a3 : Int) : Option (Int) := (Option.bind (F_filesBelow M a1 a3) (fun r3 =>
    (Option.bind (F_filesBelow M a2 a3) (fun r9 =>
      (if r3 = r9 then
        F_isSameThere_20 M a1 a2 a3 0
      else
        some 0)))))
theorem eq_isSameThere (M : gM) (a1 a2 a3 : Int) : F_isSameThere M a1 a2 a3 = (Option.bind (F_filesBelow M a1 a3) (fun r3 =>
    (Option.bind (F_filesBelow M a2 a3) (fun r9 =>
      (if r3 = r9 then
        F_isSameThere_20 M a1 a2 a3 0
      else
        some 0))))) := rfl
theorem bop_isSameThere {M : gM} : ∀ (s : Nat × List Int) (b : Int), gWh (st_isSameThere M) s = some b → (∀ (x1 x2 x3 x4 : Int), s = (0, [x1, x2, x3, x4]) → b = 0 ∨ b = 1) := by
  refine gWh_ind (fun k hk s b h => ?_)
  · rintro x1 x2 x3 x4 rfl
    rw [sk_isSameThere_20] at h
    obtain ⟨g1, h⟩ := gI_gd h
    rcases gI_or h with h | h
    · obtain ⟨r35, e35, h⟩ := gI_bd h
      obtain ⟨r39, e39, h⟩ := gI_bd h
      rcases gI_or h with h | h
      · exact (hk _ _ h) _ _ _ _ rfl
      · obtain ⟨r51, e51, h⟩ := gI_bd h
        obtain ⟨r54, e54, h⟩ := gI_bd h
        obtain ⟨r61, e61, h⟩ := gI_bd h
        rcases gI_or h with h | h
        · exact (hk _ _ h) _ _ _ _ rfl
        · rw [← Option.some.inj h]
          exact (Or.inl rfl)
    · rw [← Option.some.inj h]
      exact (Or.inr rfl)
theorem bo_isSameThere_20 {M : gM} {x1 x2 x3 x4 : Int} {b : Int} (h : F_isSameThere_20 M x1 x2 x3 x4 = some b) : b = 0 ∨ b = 1 :=
  (bop_isSameThere _ _ h) _ _ _ _ rfl
theorem bo_isSameThere {M : gM} {a1 a2 a3 : Int} {b : Int} (h : F_isSameThere M a1 a2 a3 = some b) : b = 0 ∨ b = 1 := by
  rw [eq_isSameThere] at h
  obtain ⟨r3, e3, h⟩ := gI_bd h
  obtain ⟨r9, e9, h⟩ := gI_bd h
  rcases gI_or h with h | h
  · exact bo_isSameThere_20 h
  · rw [← Option.some.inj h]
    exact (Or.inl rfl)
theorem okp_isSameThere {sh : gS} {M : gM} : ∀ (s : Nat × List Int) (b : Int), gWh (st_isSameThere M) s = some b → (∀ (x1 x2 x3 x4 : Int), s = (0, [x1, x2, x3, x4]) → gOK sh M → gA (gr 4 88) yX12_isSameThere cX12_isSameThere 5 (some (.boolean)) (gPq sh (some (0, b)) M) (0, 0) 20 [(4, 711), (0, x1), (0, x2), (0, x3), (0, x4)] [] sh M) := by
  refine gWh_ind (fun k hk s b h => ?_)
  · rintro x1 x2 x3 x4 rfl hOK
    rw [sk_isSameThere_20] at h
    refine g_iload (q0 := 22) (j := 4) rfl dX12_isSameThere_20 rfl ?_
    refine g_aload_n (q0 := 23) (j := 0) rfl dX12_isSameThere_22 rfl ?_
    refine g_getp (q0 := 26) (b := 718) rfl ff_X12_28 dX12_isSameThere_23 rfl hOK (by decide) (sh_711 hOK) rfl (by decide) ?_
    refine g_iload_n (q0 := 27) (j := 1) rfl dX12_isSameThere_26 rfl ?_
    obtain ⟨g1, h⟩ := gI_gd h
    refine g_iald (q0 := 28) rfl dX12_isSameThere_27 (sh_718 hOK) g1.1 g1.2 ?_
    refine g_icmp_ge (q0 := 31) (tgt := 75) rfl dX12_isSameThere_28 (by decide) (fun h28 => ?_) (fun h28 => ?_)
    · replace h := gI_neg (Int.not_lt.mpr h28) h
      refine g_iconst (q0 := 76) rfl dX12_isSameThere_75 (k := ?_)
      rw [← Option.some.inj h]
      refine g_zreturn dX12_isSameThere_76 rfl (gnz (Or.inr rfl)) ⟨Nat.zero_le _, Nat.zero_le _⟩ ?_
      exact ⟨rfl, rfl, rfl⟩
    · replace h := gI_pos h28 h
      refine g_aload_n (q0 := 32) (j := 0) rfl dX12_isSameThere_31 rfl ?_
      refine g_iload_n (q0 := 33) (j := 1) rfl dX12_isSameThere_32 rfl ?_
      refine g_iload (q0 := 35) (j := 4) rfl dX12_isSameThere_33 rfl ?_
      obtain ⟨r35, e35, h⟩ := gI_bd h
      refine g_callVq1 (as := [_, _]) (rest := []) mt_X12_pathAt mi_X12_pathAt se_X12_pathAt ml_X12_162 dX12_isSameThere_35 (q0 := 38) rfl rfl (sh_711 hOK) rfl rfl (ok_pathAt hOK e35) rfl ⟨by decide, by decide⟩ (Nat.le_of_ble_eq_true rfl) ⟨Nat.zero_le _, Nat.zero_le _⟩ ?_
      refine g_iload_n (q0 := 39) (j := 3) rfl dX12_isSameThere_38 rfl ?_
      obtain ⟨r39, e39, h⟩ := gI_bd h
      refine g_callSq1 (as := [_, _]) (rest := []) mt_X12_isAtOrBelow ms_X12_isAtOrBelow ml_X12_172 dX12_isSameThere_39 (q0 := 42) rfl rfl (ok_isAtOrBelow hOK e39) rfl ⟨by decide, by decide⟩ (Nat.le_of_ble_eq_true rfl) ⟨Nat.zero_le _, Nat.zero_le _⟩ ?_
      refine g_if_eq (q0 := 45) (tgt := 69) rfl dX12_isSameThere_42 (by decide) (fun h42 => ?_) (fun h42 => ?_)
      · replace h := gI_pos h42 h
        refine g_iincw (q0 := 72) (lv2 := [_, _, _, _, _]) rfl dX12_isSameThere_69 rfl (by decide) rfl rfl ?_
        refine g_goto (tgt := 20) dX12_isSameThere_72 (by decide) ?_
        exact (hk _ _ h) _ _ _ _ rfl hOK
      · replace h := gI_neg h42 h
        refine g_aload_n (q0 := 46) (j := 0) rfl dX12_isSameThere_45 rfl ?_
        refine g_iload_n (q0 := 47) (j := 2) rfl dX12_isSameThere_46 rfl ?_
        refine g_aload_n (q0 := 48) (j := 0) rfl dX12_isSameThere_47 rfl ?_
        refine g_iload_n (q0 := 49) (j := 1) rfl dX12_isSameThere_48 rfl ?_
        refine g_iload (q0 := 51) (j := 4) rfl dX12_isSameThere_49 rfl ?_
        obtain ⟨r51, e51, h⟩ := gI_bd h
        refine g_callVq1 (as := [_, _]) (rest := [_, _]) mt_X12_pathAt mi_X12_pathAt se_X12_pathAt ml_X12_162 dX12_isSameThere_51 (q0 := 54) rfl rfl (sh_711 hOK) rfl rfl (ok_pathAt hOK e51) rfl ⟨by decide, by decide⟩ (Nat.le_of_ble_eq_true rfl) ⟨Nat.zero_le _, Nat.zero_le _⟩ ?_
        obtain ⟨r54, e54, h⟩ := gI_bd h
        refine g_callVq1 (as := [_, _]) (rest := []) mt_X12_contentBy mi_X12_contentBy se_X12_contentBy ml_X12_632 dX12_isSameThere_54 (q0 := 57) rfl rfl (sh_711 hOK) rfl rfl (ok_contentBy hOK e54) rfl ⟨by decide, by decide⟩ (Nat.le_of_ble_eq_true rfl) ⟨Nat.zero_le _, Nat.zero_le _⟩ ?_
        refine g_aload_n (q0 := 58) (j := 0) rfl dX12_isSameThere_57 rfl ?_
        refine g_iload_n (q0 := 59) (j := 1) rfl dX12_isSameThere_58 rfl ?_
        refine g_iload (q0 := 61) (j := 4) rfl dX12_isSameThere_59 rfl ?_
        obtain ⟨r61, e61, h⟩ := gI_bd h
        refine g_callVq1 (as := [_, _]) (rest := [_]) mt_X12_contentAt mi_X12_contentAt se_X12_contentAt ml_X12_169 dX12_isSameThere_61 (q0 := 64) rfl rfl (sh_711 hOK) rfl rfl (ok_contentAt hOK e61) rfl ⟨by decide, by decide⟩ (Nat.le_of_ble_eq_true rfl) ⟨Nat.zero_le _, Nat.zero_le _⟩ ?_
        refine g_icmp_eq (q0 := 67) (tgt := 69) rfl dX12_isSameThere_64 (by decide) (fun h64 => ?_) (fun h64 => ?_)
        · replace h := gI_pos h64 h
          refine g_iincw (q0 := 72) (lv2 := [_, _, _, _, _]) rfl dX12_isSameThere_69 rfl (by decide) rfl rfl ?_
          refine g_goto (tgt := 20) dX12_isSameThere_72 (by decide) ?_
          exact (hk _ _ h) _ _ _ _ rfl hOK
        · replace h := gI_neg h64 h
          refine g_iconst (q0 := 68) rfl dX12_isSameThere_67 (k := ?_)
          rw [← Option.some.inj h]
          refine g_zreturn dX12_isSameThere_68 rfl (gnz (Or.inl rfl)) ⟨Nat.zero_le _, Nat.zero_le _⟩ ?_
          exact ⟨rfl, rfl, rfl⟩
theorem ok_isSameThere_20 {sh : gS} {M : gM} {x1 x2 x3 x4 : Int} {b : Int} (hOK : gOK sh M) (h : F_isSameThere_20 M x1 x2 x3 x4 = some b) : gA (gr 4 88) yX12_isSameThere cX12_isSameThere 5 (some (.boolean)) (gPq sh (some (0, b)) M) (0, 0) 20 [(4, 711), (0, x1), (0, x2), (0, x3), (0, x4)] [] sh M :=
  (okp_isSameThere _ _ h) _ _ _ _ rfl hOK
theorem ok_isSameThere {sh : gS} {M : gM} {a1 a2 a3 : Int} {b : Int} (hOK : gOK sh M) (h : F_isSameThere M a1 a2 a3 = some b) : gC (gr 4 88) yX12_isSameThere cX12_isSameThere 5 (some (.boolean)) [(4, 711), (0, a1), (0, a2), (0, a3)] sh M (gPq sh (some (0, b)) M) := by
  rw [eq_isSameThere] at h
  refine gC_ofA (lv := [_, _, _, _, _]) (by decide +kernel) (Nat.le_of_ble_eq_true rfl) rfl (fun hMw hav => ?_)
  refine g_aload_n (q0 := 1) (j := 0) rfl dX12_isSameThere_0 rfl ?_
  refine g_iload_n (q0 := 2) (j := 1) rfl dX12_isSameThere_1 rfl ?_
  refine g_iload_n (q0 := 3) (j := 3) rfl dX12_isSameThere_2 rfl ?_
  obtain ⟨r3, e3, h⟩ := gI_bd h
  refine g_callVq1 (as := [_, _]) (rest := []) mt_X12_filesBelow mi_X12_filesBelow se_X12_filesBelow ml_X12_175 dX12_isSameThere_3 (q0 := 6) rfl rfl (sh_711 hOK) rfl rfl (ok_filesBelow hOK e3) rfl ⟨by decide, by decide⟩ (Nat.le_of_ble_eq_true rfl) ⟨Nat.zero_le _, Nat.zero_le _⟩ ?_
  refine g_aload_n (q0 := 7) (j := 0) rfl dX12_isSameThere_6 rfl ?_
  refine g_iload_n (q0 := 8) (j := 2) rfl dX12_isSameThere_7 rfl ?_
  refine g_iload_n (q0 := 9) (j := 3) rfl dX12_isSameThere_8 rfl ?_
  obtain ⟨r9, e9, h⟩ := gI_bd h
  refine g_callVq1 (as := [_, _]) (rest := [_]) mt_X12_filesBelow mi_X12_filesBelow se_X12_filesBelow ml_X12_175 dX12_isSameThere_9 (q0 := 12) rfl rfl (sh_711 hOK) rfl rfl (ok_filesBelow hOK e9) rfl ⟨by decide, by decide⟩ (Nat.le_of_ble_eq_true rfl) ⟨Nat.zero_le _, Nat.zero_le _⟩ ?_
  refine g_icmp_eq (q0 := 15) (tgt := 17) rfl dX12_isSameThere_12 (by decide) (fun h12 => ?_) (fun h12 => ?_)
  · replace h := gI_pos h12 h
    refine g_iconst (q0 := 18) rfl dX12_isSameThere_17 (k := ?_)
    refine g_istore (q0 := 20) (j := 4) (lv2 := [_, _, _, _, _]) rfl dX12_isSameThere_18 (by decide) rfl rfl ?_
    exact ok_isSameThere_20 hOK h
  · replace h := gI_neg h12 h
    refine g_iconst (q0 := 16) rfl dX12_isSameThere_15 (k := ?_)
    rw [← Option.some.inj h]
    refine g_zreturn dX12_isSameThere_16 rfl (gnz (Or.inl rfl)) ⟨Nat.zero_le _, Nat.zero_le _⟩ ?_
    exact ⟨rfl, rfl, rfl⟩
-- ==== isTouching
theorem dX12_isTouching_0 : decode cX12_isTouching 0 = .ok (.iconst 0, 1) := by decide +kernel
theorem dX12_isTouching_1 : decode cX12_isTouching 1 = .ok (.istore_n 3, 1) := by decide +kernel
theorem dX12_isTouching_2 : decode cX12_isTouching 2 = .ok (.iload_n 3, 1) := by decide +kernel
theorem dX12_isTouching_3 : decode cX12_isTouching 3 = .ok (.aload_n 0, 1) := by decide +kernel
theorem dX12_isTouching_4 : decode cX12_isTouching 4 = .ok (.getfield 7, 3) := by decide +kernel
theorem dX12_isTouching_7 : decode cX12_isTouching 7 = .ok (.iload_n 1, 1) := by decide +kernel
theorem dX12_isTouching_8 : decode cX12_isTouching 8 = .ok (.iaload, 1) := by decide +kernel
theorem dX12_isTouching_9 : decode cX12_isTouching 9 = .ok (.if_icmp .ge 26, 3) := by decide +kernel
theorem dX12_isTouching_12 : decode cX12_isTouching 12 = .ok (.aload_n 0, 1) := by decide +kernel
theorem dX12_isTouching_13 : decode cX12_isTouching 13 = .ok (.aload_n 0, 1) := by decide +kernel
theorem dX12_isTouching_14 : decode cX12_isTouching 14 = .ok (.iload_n 1, 1) := by decide +kernel
theorem dX12_isTouching_15 : decode cX12_isTouching 15 = .ok (.iload_n 3, 1) := by decide +kernel
theorem dX12_isTouching_16 : decode cX12_isTouching 16 = .ok (.invokevirtual 192, 3) := by decide +kernel
theorem dX12_isTouching_19 : decode cX12_isTouching 19 = .ok (.iload_n 1, 1) := by decide +kernel
theorem dX12_isTouching_20 : decode cX12_isTouching 20 = .ok (.iload_n 2, 1) := by decide +kernel
theorem dX12_isTouching_21 : decode cX12_isTouching 21 = .ok (.invokevirtual 702, 3) := by decide +kernel
theorem dX12_isTouching_24 : decode cX12_isTouching 24 = .ok (.ifCond .eq 5, 3) := by decide +kernel
theorem dX12_isTouching_27 : decode cX12_isTouching 27 = .ok (.iconst 0, 1) := by decide +kernel
theorem dX12_isTouching_28 : decode cX12_isTouching 28 = .ok (.ireturn, 1) := by decide +kernel
theorem dX12_isTouching_29 : decode cX12_isTouching 29 = .ok (.iinc 3 1, 3) := by decide +kernel
theorem dX12_isTouching_32 : decode cX12_isTouching 32 = .ok (.goto (-30), 3) := by decide +kernel
theorem dX12_isTouching_35 : decode cX12_isTouching 35 = .ok (.aload_n 0, 1) := by decide +kernel
theorem dX12_isTouching_36 : decode cX12_isTouching 36 = .ok (.getfield 7, 3) := by decide +kernel
theorem dX12_isTouching_39 : decode cX12_isTouching 39 = .ok (.iload_n 1, 1) := by decide +kernel
theorem dX12_isTouching_40 : decode cX12_isTouching 40 = .ok (.iaload, 1) := by decide +kernel
theorem dX12_isTouching_41 : decode cX12_isTouching 41 = .ok (.ifCond .gt 12, 3) := by decide +kernel
theorem dX12_isTouching_44 : decode cX12_isTouching 44 = .ok (.aload_n 0, 1) := by decide +kernel
theorem dX12_isTouching_45 : decode cX12_isTouching 45 = .ok (.iload_n 1, 1) := by decide +kernel
theorem dX12_isTouching_46 : decode cX12_isTouching 46 = .ok (.iload_n 2, 1) := by decide +kernel
theorem dX12_isTouching_47 : decode cX12_isTouching 47 = .ok (.invokevirtual 175, 3) := by decide +kernel
theorem dX12_isTouching_50 : decode cX12_isTouching 50 = .ok (.ifCond .le 7, 3) := by decide +kernel
theorem dX12_isTouching_53 : decode cX12_isTouching 53 = .ok (.iconst 1, 1) := by decide +kernel
theorem dX12_isTouching_54 : decode cX12_isTouching 54 = .ok (.goto 4, 3) := by decide +kernel
theorem dX12_isTouching_57 : decode cX12_isTouching 57 = .ok (.iconst 0, 1) := by decide +kernel
theorem dX12_isTouching_58 : decode cX12_isTouching 58 = .ok (.ireturn, 1) := by decide +kernel
noncomputable def st_isTouching (M : gM) : Nat × List Int → Option ((Nat × List Int) ⊕ (Int))
  | (0, [x1, x2, x3]) => (if 0 ≤ x1 ∧ x1 < 120 then
      (if x3 < (M 712 x1) then
        (Option.bind (F_parentAt M x1 x3) (fun r16 =>
          (Option.bind (F_isSameThere M r16 x1 x2) (fun r21 =>
            (if r21 = 0 then
              some (.inl (0, [x1, x2, (gw32 (x3 + 1))]))
            else
              some (.inr 0))))))
      else
        (if (0 : Int) < (M 712 x1) then
          some (.inr 1)
        else
          (Option.bind (F_filesBelow M x1 x2) (fun r47 =>
            (if (0 : Int) < r47 then
              some (.inr 1)
            else
              some (.inr 0))))))
    else none)
  | _ => none
theorem sk_isTouching_2 (k : Nat × List Int → Option (Int)) (M : gM) (x1 x2 x3 : Int) : gWk k (st_isTouching M (0, [x1, x2, x3])) = (if 0 ≤ x1 ∧ x1 < 120 then
    (if x3 < (M 712 x1) then
      (Option.bind (F_parentAt M x1 x3) (fun r16 =>
        (Option.bind (F_isSameThere M r16 x1 x2) (fun r21 =>
          (if r21 = 0 then
            k (0, [x1, x2, (gw32 (x3 + 1))])
          else
            some 0)))))
    else
      (if (0 : Int) < (M 712 x1) then
        some 1
      else
        (Option.bind (F_filesBelow M x1 x2) (fun r47 =>
          (if (0 : Int) < r47 then
            some 1
          else
            some 0)))))
  else none) := by
  simp only [st_isTouching, gWk_ite, gWk_bind, gWk_inl, gWk_inr, gWk_none]
noncomputable def F_isTouching_2 (M : gM) (x1 x2 x3 : Int) : Option (Int) := gWh (st_isTouching M) (0, [x1, x2, x3])
theorem eq_isTouching_2 (M : gM) (x1 x2 x3 : Int) : F_isTouching_2 M x1 x2 x3 = (if 0 ≤ x1 ∧ x1 < 120 then
    (if x3 < (M 712 x1) then
      (Option.bind (F_parentAt M x1 x3) (fun r16 =>
        (Option.bind (F_isSameThere M r16 x1 x2) (fun r21 =>
          (if r21 = 0 then
            F_isTouching_2 M x1 x2 (gw32 (x3 + 1))
          else
            some 0)))))
    else
      (if (0 : Int) < (M 712 x1) then
        some 1
      else
        (Option.bind (F_filesBelow M x1 x2) (fun r47 =>
          (if (0 : Int) < r47 then
            some 1
          else
            some 0)))))
  else none) := (gWh_eq _).trans (sk_isTouching_2 _ M x1 x2 x3)
noncomputable def F_isTouching (M : gM) (a1 a2 : Int) : Option (Int) := F_isTouching_2 M a1 a2 0
theorem eq_isTouching (M : gM) (a1 a2 : Int) : F_isTouching M a1 a2 = F_isTouching_2 M a1 a2 0 := rfl
theorem bop_isTouching {M : gM} : ∀ (s : Nat × List Int) (b : Int), gWh (st_isTouching M) s = some b → (∀ (x1 x2 x3 : Int), s = (0, [x1, x2, x3]) → b = 0 ∨ b = 1) := by
  refine gWh_ind (fun k hk s b h => ?_)
  · rintro x1 x2 x3 rfl
    rw [sk_isTouching_2] at h
    obtain ⟨g1, h⟩ := gI_gd h
    rcases gI_or h with h | h
    · obtain ⟨r16, e16, h⟩ := gI_bd h
      obtain ⟨r21, e21, h⟩ := gI_bd h
      rcases gI_or h with h | h
      · exact (hk _ _ h) _ _ _ rfl
      · rw [← Option.some.inj h]
        exact (Or.inl rfl)
    · rcases gI_or h with h | h
      · rw [← Option.some.inj h]
        exact (Or.inr rfl)
      · obtain ⟨r47, e47, h⟩ := gI_bd h
        rcases gI_or h with h | h
        · rw [← Option.some.inj h]
          exact (Or.inr rfl)
        · rw [← Option.some.inj h]
          exact (Or.inl rfl)
theorem bo_isTouching_2 {M : gM} {x1 x2 x3 : Int} {b : Int} (h : F_isTouching_2 M x1 x2 x3 = some b) : b = 0 ∨ b = 1 :=
  (bop_isTouching _ _ h) _ _ _ rfl
theorem bo_isTouching {M : gM} {a1 a2 : Int} {b : Int} (h : F_isTouching M a1 a2 = some b) : b = 0 ∨ b = 1 := by
  rw [eq_isTouching] at h
  exact bo_isTouching_2 h
theorem okp_isTouching {sh : gS} {M : gM} : ∀ (s : Nat × List Int) (b : Int), gWh (st_isTouching M) s = some b → (∀ (x1 x2 x3 : Int), s = (0, [x1, x2, x3]) → gOK sh M → gA (gr 5 112) yX12_isTouching cX12_isTouching 4 (some (.boolean)) (gPq sh (some (0, b)) M) (0, 0) 2 [(4, 711), (0, x1), (0, x2), (0, x3)] [] sh M) := by
  refine gWh_ind (fun k hk s b h => ?_)
  · rintro x1 x2 x3 rfl hOK
    rw [sk_isTouching_2] at h
    refine g_iload_n (q0 := 3) (j := 3) rfl dX12_isTouching_2 rfl ?_
    refine g_aload_n (q0 := 4) (j := 0) rfl dX12_isTouching_3 rfl ?_
    refine g_getp (q0 := 7) (b := 712) rfl ff_X12_7 dX12_isTouching_4 rfl hOK (by decide) (sh_711 hOK) rfl (by decide) ?_
    refine g_iload_n (q0 := 8) (j := 1) rfl dX12_isTouching_7 rfl ?_
    obtain ⟨g1, h⟩ := gI_gd h
    refine g_iald (q0 := 9) rfl dX12_isTouching_8 (sh_712 hOK) g1.1 g1.2 ?_
    refine g_icmp_ge (q0 := 12) (tgt := 35) rfl dX12_isTouching_9 (by decide) (fun h9 => ?_) (fun h9 => ?_)
    · replace h := gI_neg (Int.not_lt.mpr h9) h
      refine g_aload_n (q0 := 36) (j := 0) rfl dX12_isTouching_35 rfl ?_
      refine g_getp (q0 := 39) (b := 712) rfl ff_X12_7 dX12_isTouching_36 rfl hOK (by decide) (sh_711 hOK) rfl (by decide) ?_
      refine g_iload_n (q0 := 40) (j := 1) rfl dX12_isTouching_39 rfl ?_
      refine g_iald (q0 := 41) rfl dX12_isTouching_40 (sh_712 hOK) g1.1 g1.2 ?_
      refine g_if_gt (q0 := 44) (tgt := 53) rfl dX12_isTouching_41 (by decide) (fun h41 => ?_) (fun h41 => ?_)
      · replace h := gI_pos h41 h
        refine g_iconst (q0 := 54) rfl dX12_isTouching_53 (k := ?_)
        refine g_goto (tgt := 58) dX12_isTouching_54 (by decide) ?_
        rw [← Option.some.inj h]
        refine g_zreturn dX12_isTouching_58 rfl (gnz (Or.inr rfl)) ⟨Nat.zero_le _, Nat.zero_le _⟩ ?_
        exact ⟨rfl, rfl, rfl⟩
      · replace h := gI_neg (Int.not_lt.mpr h41) h
        refine g_aload_n (q0 := 45) (j := 0) rfl dX12_isTouching_44 rfl ?_
        refine g_iload_n (q0 := 46) (j := 1) rfl dX12_isTouching_45 rfl ?_
        refine g_iload_n (q0 := 47) (j := 2) rfl dX12_isTouching_46 rfl ?_
        obtain ⟨r47, e47, h⟩ := gI_bd h
        refine g_callVq1 (as := [_, _]) (rest := []) mt_X12_filesBelow mi_X12_filesBelow se_X12_filesBelow ml_X12_175 dX12_isTouching_47 (q0 := 50) rfl rfl (sh_711 hOK) rfl rfl (ok_filesBelow hOK e47) rfl ⟨by decide, by decide⟩ (Nat.le_of_ble_eq_true rfl) ⟨Nat.zero_le _, Nat.zero_le _⟩ ?_
        refine g_if_le (q0 := 53) (tgt := 57) rfl dX12_isTouching_50 (by decide) (fun h50 => ?_) (fun h50 => ?_)
        · replace h := gI_neg (Int.not_lt.mpr h50) h
          refine g_iconst (q0 := 58) rfl dX12_isTouching_57 (k := ?_)
          rw [← Option.some.inj h]
          refine g_zreturn dX12_isTouching_58 rfl (gnz (Or.inl rfl)) ⟨Nat.zero_le _, Nat.zero_le _⟩ ?_
          exact ⟨rfl, rfl, rfl⟩
        · replace h := gI_pos h50 h
          refine g_iconst (q0 := 54) rfl dX12_isTouching_53 (k := ?_)
          refine g_goto (tgt := 58) dX12_isTouching_54 (by decide) ?_
          rw [← Option.some.inj h]
          refine g_zreturn dX12_isTouching_58 rfl (gnz (Or.inr rfl)) ⟨Nat.zero_le _, Nat.zero_le _⟩ ?_
          exact ⟨rfl, rfl, rfl⟩
    · replace h := gI_pos h9 h
      refine g_aload_n (q0 := 13) (j := 0) rfl dX12_isTouching_12 rfl ?_
      refine g_aload_n (q0 := 14) (j := 0) rfl dX12_isTouching_13 rfl ?_
      refine g_iload_n (q0 := 15) (j := 1) rfl dX12_isTouching_14 rfl ?_
      refine g_iload_n (q0 := 16) (j := 3) rfl dX12_isTouching_15 rfl ?_
      obtain ⟨r16, e16, h⟩ := gI_bd h
      refine g_callVq1 (as := [_, _]) (rest := [_]) mt_X12_parentAt mi_X12_parentAt se_X12_parentAt ml_X12_192 dX12_isTouching_16 (q0 := 19) rfl rfl (sh_711 hOK) rfl rfl (ok_parentAt hOK e16) rfl ⟨by decide, by decide⟩ (Nat.le_of_ble_eq_true rfl) ⟨Nat.zero_le _, Nat.zero_le _⟩ ?_
      refine g_iload_n (q0 := 20) (j := 1) rfl dX12_isTouching_19 rfl ?_
      refine g_iload_n (q0 := 21) (j := 2) rfl dX12_isTouching_20 rfl ?_
      obtain ⟨r21, e21, h⟩ := gI_bd h
      refine g_callVq1 (as := [_, _, _]) (rest := []) mt_X12_isSameThere mi_X12_isSameThere se_X12_isSameThere ml_X12_702 dX12_isTouching_21 (q0 := 24) rfl rfl (sh_711 hOK) rfl rfl (ok_isSameThere hOK e21) rfl ⟨by decide, by decide⟩ (Nat.le_of_ble_eq_true rfl) ⟨Nat.zero_le _, Nat.zero_le _⟩ ?_
      refine g_if_eq (q0 := 27) (tgt := 29) rfl dX12_isTouching_24 (by decide) (fun h24 => ?_) (fun h24 => ?_)
      · replace h := gI_pos h24 h
        refine g_iincw (q0 := 32) (lv2 := [_, _, _, _]) rfl dX12_isTouching_29 rfl (by decide) rfl rfl ?_
        refine g_goto (tgt := 2) dX12_isTouching_32 (by decide) ?_
        exact (hk _ _ h) _ _ _ rfl hOK
      · replace h := gI_neg h24 h
        refine g_iconst (q0 := 28) rfl dX12_isTouching_27 (k := ?_)
        rw [← Option.some.inj h]
        refine g_zreturn dX12_isTouching_28 rfl (gnz (Or.inl rfl)) ⟨Nat.zero_le _, Nat.zero_le _⟩ ?_
        exact ⟨rfl, rfl, rfl⟩
theorem ok_isTouching_2 {sh : gS} {M : gM} {x1 x2 x3 : Int} {b : Int} (hOK : gOK sh M) (h : F_isTouching_2 M x1 x2 x3 = some b) : gA (gr 5 112) yX12_isTouching cX12_isTouching 4 (some (.boolean)) (gPq sh (some (0, b)) M) (0, 0) 2 [(4, 711), (0, x1), (0, x2), (0, x3)] [] sh M :=
  (okp_isTouching _ _ h) _ _ _ rfl hOK
theorem ok_isTouching {sh : gS} {M : gM} {a1 a2 : Int} {b : Int} (hOK : gOK sh M) (h : F_isTouching M a1 a2 = some b) : gC (gr 5 112) yX12_isTouching cX12_isTouching 4 (some (.boolean)) [(4, 711), (0, a1), (0, a2)] sh M (gPq sh (some (0, b)) M) := by
  rw [eq_isTouching] at h
  refine gC_ofA (lv := [_, _, _, _]) (by decide +kernel) (Nat.le_of_ble_eq_true rfl) rfl (fun hMw hav => ?_)
  refine g_iconst (q0 := 1) rfl dX12_isTouching_0 (k := ?_)
  refine g_istore_n (q0 := 2) (j := 3) (lv2 := [_, _, _, _]) rfl dX12_isTouching_1 (by decide) rfl rfl ?_
  exact ok_isTouching_2 hOK h
-- ==== touches
theorem dX12_touches_0 : decode cX12_touches 0 = .ok (.iload_n 1, 1) := by decide +kernel
theorem dX12_touches_1 : decode cX12_touches 1 = .ok (.invokestatic 353, 3) := by decide +kernel
theorem dX12_touches_4 : decode cX12_touches 4 = .ok (.ifCond .eq 21, 3) := by decide +kernel
theorem dX12_touches_7 : decode cX12_touches 7 = .ok (.iload_n 2, 1) := by decide +kernel
theorem dX12_touches_8 : decode cX12_touches 8 = .ok (.iconst 1, 1) := by decide +kernel
theorem dX12_touches_9 : decode cX12_touches 9 = .ok (.bipush 11, 2) := by decide +kernel
theorem dX12_touches_11 : decode cX12_touches 11 = .ok (.invokestatic 182, 3) := by decide +kernel
theorem dX12_touches_14 : decode cX12_touches 14 = .ok (.ifCond .eq 11, 3) := by decide +kernel
theorem dX12_touches_17 : decode cX12_touches 17 = .ok (.iload_n 2, 1) := by decide +kernel
theorem dX12_touches_18 : decode cX12_touches 18 = .ok (.aload_n 0, 1) := by decide +kernel
theorem dX12_touches_19 : decode cX12_touches 19 = .ok (.getfield 249, 3) := by decide +kernel
theorem dX12_touches_22 : decode cX12_touches 22 = .ok (.if_icmp .le 5, 3) := by decide +kernel
theorem dX12_touches_25 : decode cX12_touches 25 = .ok (.iconst (-1), 1) := by decide +kernel
theorem dX12_touches_26 : decode cX12_touches 26 = .ok (.ireturn, 1) := by decide +kernel
theorem dX12_touches_27 : decode cX12_touches 27 = .ok (.aload_n 0, 1) := by decide +kernel
theorem dX12_touches_28 : decode cX12_touches 28 = .ok (.iload_n 2, 1) := by decide +kernel
theorem dX12_touches_29 : decode cX12_touches 29 = .ok (.invokevirtual 680, 3) := by decide +kernel
theorem dX12_touches_32 : decode cX12_touches 32 = .ok (.ifCond .ne 8, 3) := by decide +kernel
theorem dX12_touches_35 : decode cX12_touches 35 = .ok (.aload_n 0, 1) := by decide +kernel
theorem dX12_touches_36 : decode cX12_touches 36 = .ok (.getfield 262, 3) := by decide +kernel
theorem dX12_touches_39 : decode cX12_touches 39 = .ok (.ireturn, 1) := by decide +kernel
theorem dX12_touches_40 : decode cX12_touches 40 = .ok (.aload_n 0, 1) := by decide +kernel
theorem dX12_touches_41 : decode cX12_touches 41 = .ok (.iload_n 1, 1) := by decide +kernel
theorem dX12_touches_42 : decode cX12_touches 42 = .ok (.aload_n 0, 1) := by decide +kernel
theorem dX12_touches_43 : decode cX12_touches 43 = .ok (.getfield 47, 3) := by decide +kernel
theorem dX12_touches_46 : decode cX12_touches 46 = .ok (.invokevirtual 659, 3) := by decide +kernel
theorem dX12_touches_49 : decode cX12_touches 49 = .ok (.iconst 0, 1) := by decide +kernel
theorem dX12_touches_50 : decode cX12_touches 50 = .ok (.istore_n 3, 1) := by decide +kernel
theorem dX12_touches_51 : decode cX12_touches 51 = .ok (.iconst 0, 1) := by decide +kernel
theorem dX12_touches_52 : decode cX12_touches 52 = .ok (.istore 4, 2) := by decide +kernel
theorem dX12_touches_54 : decode cX12_touches 54 = .ok (.iload 4, 2) := by decide +kernel
theorem dX12_touches_56 : decode cX12_touches 56 = .ok (.aload_n 0, 1) := by decide +kernel
theorem dX12_touches_57 : decode cX12_touches 57 = .ok (.getfield 178, 3) := by decide +kernel
theorem dX12_touches_60 : decode cX12_touches 60 = .ok (.if_icmp .ge 36, 3) := by decide +kernel
theorem dX12_touches_63 : decode cX12_touches 63 = .ok (.aload_n 0, 1) := by decide +kernel
theorem dX12_touches_64 : decode cX12_touches 64 = .ok (.getfield 47, 3) := by decide +kernel
theorem dX12_touches_67 : decode cX12_touches 67 = .ok (.iload 4, 2) := by decide +kernel
theorem dX12_touches_69 : decode cX12_touches 69 = .ok (.baload, 1) := by decide +kernel
theorem dX12_touches_70 : decode cX12_touches 70 = .ok (.ifCond .eq 20, 3) := by decide +kernel
theorem dX12_touches_73 : decode cX12_touches 73 = .ok (.aload_n 0, 1) := by decide +kernel
theorem dX12_touches_74 : decode cX12_touches 74 = .ok (.iload 4, 2) := by decide +kernel
theorem dX12_touches_76 : decode cX12_touches 76 = .ok (.aload_n 0, 1) := by decide +kernel
theorem dX12_touches_77 : decode cX12_touches 77 = .ok (.getfield 278, 3) := by decide +kernel
theorem dX12_touches_80 : decode cX12_touches 80 = .ok (.invokevirtual 705, 3) := by decide +kernel
theorem dX12_touches_83 : decode cX12_touches 83 = .ok (.ifCond .eq 7, 3) := by decide +kernel
theorem dX12_touches_86 : decode cX12_touches 86 = .ok (.iload_n 3, 1) := by decide +kernel
theorem dX12_touches_87 : decode cX12_touches 87 = .ok (.iconst 1, 1) := by decide +kernel
theorem dX12_touches_88 : decode cX12_touches 88 = .ok (.iadd, 1) := by decide +kernel
theorem dX12_touches_89 : decode cX12_touches 89 = .ok (.istore_n 3, 1) := by decide +kernel
theorem dX12_touches_90 : decode cX12_touches 90 = .ok (.iinc 4 1, 3) := by decide +kernel
theorem dX12_touches_93 : decode cX12_touches 93 = .ok (.goto (-39), 3) := by decide +kernel
theorem dX12_touches_96 : decode cX12_touches 96 = .ok (.iload_n 3, 1) := by decide +kernel
theorem dX12_touches_97 : decode cX12_touches 97 = .ok (.ireturn, 1) := by decide +kernel
noncomputable def st_touches : Nat × List Int × gM → Option ((Nat × List Int × gM) ⊕ (Int × gM))
  | (0, [x1, x2, x3, x4], M) => (if x4 < (M 711 0) then
      (if 0 ≤ x4 ∧ x4 < 120 then
        (if (M 724 x4) = 0 then
          some (.inl (0, [x1, x2, x3, (gw32 (x4 + 1))], M))
        else
          (Option.bind (F_isTouching M x4 (M 711 23)) (fun r80 =>
            (if r80 = 0 then
              some (.inl (0, [x1, x2, x3, (gw32 (x4 + 1))], M))
            else
              some (.inl (0, [x1, x2, (gw32 (x3 + (1 : Int))), (gw32 (x4 + 1))], M))))))
      else none)
    else
      some (.inr (x3, M)))
  | _ => none
theorem sk_touches_54 (k : Nat × List Int × gM → Option (Int × gM)) (M : gM) (x1 x2 x3 x4 : Int) : gWk k (st_touches (0, [x1, x2, x3, x4], M)) = (if x4 < (M 711 0) then
    (if 0 ≤ x4 ∧ x4 < 120 then
      (if (M 724 x4) = 0 then
        k (0, [x1, x2, x3, (gw32 (x4 + 1))], M)
      else
        (Option.bind (F_isTouching M x4 (M 711 23)) (fun r80 =>
          (if r80 = 0 then
            k (0, [x1, x2, x3, (gw32 (x4 + 1))], M)
          else
            k (0, [x1, x2, (gw32 (x3 + (1 : Int))), (gw32 (x4 + 1))], M)))))
    else none)
  else
    some (x3, M)) := by
  simp only [st_touches, gWk_ite, gWk_bind, gWk_inl, gWk_inr, gWk_none]
noncomputable def F_touches_54 (M : gM) (x1 x2 x3 x4 : Int) : Option (Int × gM) := gWh (st_touches) (0, [x1, x2, x3, x4], M)
theorem eq_touches_54 (M : gM) (x1 x2 x3 x4 : Int) : F_touches_54 M x1 x2 x3 x4 = (if x4 < (M 711 0) then
    (if 0 ≤ x4 ∧ x4 < 120 then
      (if (M 724 x4) = 0 then
        F_touches_54 M x1 x2 x3 (gw32 (x4 + 1))
      else
        (Option.bind (F_isTouching M x4 (M 711 23)) (fun r80 =>
          (if r80 = 0 then
            F_touches_54 M x1 x2 x3 (gw32 (x4 + 1))
          else
            F_touches_54 M x1 x2 (gw32 (x3 + (1 : Int))) (gw32 (x4 + 1))))))
    else none)
  else
    some (x3, M)) := (gWh_eq _).trans (sk_touches_54 _ M x1 x2 x3 x4)
noncomputable def F_touches (M : gM) (a1 a2 : Int) : Option (Int × gM) := (Option.bind (F_isHistory a1) (fun r1 =>
    (if r1 = 0 then
      some (-1, M)
    else
      (Option.bind (F_in a2 1 11) (fun r11 =>
        (if r11 = 0 then
          some (-1, M)
        else
          (if (M 711 18) < a2 then
            some (-1, M)
          else
            (Option.bind (F_readsWholePath M a2) (fun p29 =>
              (if p29.1 = 0 then
                some ((p29.2 711 21), p29.2)
              else
                (Option.bind (F_marksHistory p29.2 a1 724) (fun m46 =>
                  F_touches_54 m46 a1 a2 0 0))))))))))))
theorem eq_touches (M : gM) (a1 a2 : Int) : F_touches M a1 a2 = (Option.bind (F_isHistory a1) (fun r1 =>
    (if r1 = 0 then
      some (-1, M)
    else
      (Option.bind (F_in a2 1 11) (fun r11 =>
        (if r11 = 0 then
          some (-1, M)
        else
          (if (M 711 18) < a2 then
            some (-1, M)
          else
            (Option.bind (F_readsWholePath M a2) (fun p29 =>
              (if p29.1 = 0 then
                some ((p29.2 711 21), p29.2)
              else
                (Option.bind (F_marksHistory p29.2 a1 724) (fun m46 =>
                  F_touches_54 m46 a1 a2 0 0)))))))))))) := rfl
theorem frp_touches : ∀ (s : Nat × List Int × gM) (b : Int × gM), gWh (st_touches) s = some b → (∀ (x1 x2 x3 x4 : Int) (M : gM), s = (0, [x1, x2, x3, x4], M) → gFr [724] [18, 19, 20, 21, 23] M b.2) := by
  refine gWh_ind (fun k hk s b h => ?_)
  · rintro x1 x2 x3 x4 M rfl
    rw [sk_touches_54] at h
    rcases gI_or h with h | h
    · obtain ⟨g1, h⟩ := gI_gd h
      rcases gI_or h with h | h
      · exact gFr_t (gFr_r [724] [18, 19, 20, 21, 23] _) ((hk _ _ h) _ _ _ _ _ rfl) (fun _ z => z) (fun _ z => z)
      · obtain ⟨r80, e80, h⟩ := gI_bd h
        rcases gI_or h with h | h
        · exact gFr_t (gFr_r [724] [18, 19, 20, 21, 23] _) ((hk _ _ h) _ _ _ _ _ rfl) (fun _ z => z) (fun _ z => z)
        · exact gFr_t (gFr_r [724] [18, 19, 20, 21, 23] _) ((hk _ _ h) _ _ _ _ _ rfl) (fun _ z => z) (fun _ z => z)
    · rw [← Option.some.inj h]
      exact (gFr_r [724] [18, 19, 20, 21, 23] _)
theorem fr_touches_54 {M : gM} {x1 x2 x3 x4 : Int} {b : Int × gM} (h : F_touches_54 M x1 x2 x3 x4 = some b) : gFr [724] [18, 19, 20, 21, 23] M b.2 :=
  (frp_touches _ _ h) _ _ _ _ _ rfl
theorem fr_touches {M : gM} {a1 a2 : Int} {b : Int × gM} (h : F_touches M a1 a2 = some b) : gFr [724] [18, 19, 20, 21, 23] M b.2 := by
  rw [eq_touches] at h
  obtain ⟨r1, e1, h⟩ := gI_bd h
  rcases gI_or h with h | h
  · rw [← Option.some.inj h]
    exact (gFr_r [724] [18, 19, 20, 21, 23] _)
  · obtain ⟨r11, e11, h⟩ := gI_bd h
    rcases gI_or h with h | h
    · rw [← Option.some.inj h]
      exact (gFr_r [724] [18, 19, 20, 21, 23] _)
    · rcases gI_or h with h | h
      · rw [← Option.some.inj h]
        exact (gFr_r [724] [18, 19, 20, 21, 23] _)
      · obtain ⟨p29, e29, h⟩ := gI_bd h
        rcases gI_or h with h | h
        · rw [← Option.some.inj h]
          exact (gFr_t (gFr_r [724] [18, 19, 20, 21, 23] _) (fr_readsWholePath (b := p29) e29) (by first | decide | simp) (by decide))
        · obtain ⟨m46, e46, h⟩ := gI_bd h
          exact gFr_t (gFr_t (gFr_t (gFr_r [724] [18, 19, 20, 21, 23] _) (fr_readsWholePath (b := p29) e29) (by first | decide | simp) (by decide)) (fr_marksHistory (b := m46) e46) (by first | decide | simp) (by decide)) (fr_touches_54 h) (fun _ z => z) (fun _ z => z)
theorem okp_touches {sh : gS} : ∀ (s : Nat × List Int × gM) (b : Int × gM), gWh (st_touches) s = some b → (∀ (x1 x2 x3 x4 : Int) (M : gM), s = (0, [x1, x2, x3, x4], M) → gOK sh M → gA (gr 6 135) yX12_touches cX12_touches 5 (some (.int)) (gPq sh (some (0, b.1)) b.2) (0, 0) 54 [(4, 711), (0, x1), (0, x2), (0, x3), (0, x4)] [] sh M) := by
  refine gWh_ind (fun k hk s b h => ?_)
  · rintro x1 x2 x3 x4 M rfl hOK
    rw [sk_touches_54] at h
    refine g_iload (q0 := 56) (j := 4) rfl dX12_touches_54 rfl ?_
    refine g_aload_n (q0 := 57) (j := 0) rfl dX12_touches_56 rfl ?_
    refine g_getf (q0 := 60) (t := 0) (fi := 0) rfl rfl ff_X12_178 dX12_touches_57 rfl (sh_711 hOK) ?_
    refine g_icmp_ge (q0 := 63) (tgt := 96) rfl dX12_touches_60 (by decide) (fun h60 => ?_) (fun h60 => ?_)
    · replace h := gI_neg (Int.not_lt.mpr h60) h
      refine g_iload_n (q0 := 97) (j := 3) rfl dX12_touches_96 rfl ?_
      rw [← Option.some.inj h]
      refine g_ireturn dX12_touches_97 rfl ⟨Nat.zero_le _, Nat.zero_le _⟩ ?_
      exact ⟨rfl, rfl, rfl⟩
    · replace h := gI_pos h60 h
      refine g_aload_n (q0 := 64) (j := 0) rfl dX12_touches_63 rfl ?_
      refine g_getp (q0 := 67) (b := 724) rfl ff_X12_47 dX12_touches_64 rfl hOK (by decide) (sh_711 hOK) rfl (by decide) ?_
      refine g_iload (q0 := 69) (j := 4) rfl dX12_touches_67 rfl ?_
      obtain ⟨g1, h⟩ := gI_gd h
      refine g_zald (q0 := 70) rfl dX12_touches_69 (sh_724 hOK) g1.1 g1.2 ?_
      refine g_if_eq (q0 := 73) (tgt := 90) rfl dX12_touches_70 (by decide) (fun h70 => ?_) (fun h70 => ?_)
      · replace h := gI_pos h70 h
        refine g_iincw (q0 := 93) (lv2 := [_, _, _, _, _]) rfl dX12_touches_90 rfl (by decide) rfl rfl ?_
        refine g_goto (tgt := 54) dX12_touches_93 (by decide) ?_
        exact (hk _ _ h) _ _ _ _ _ rfl hOK
      · replace h := gI_neg h70 h
        refine g_aload_n (q0 := 74) (j := 0) rfl dX12_touches_73 rfl ?_
        refine g_iload (q0 := 76) (j := 4) rfl dX12_touches_74 rfl ?_
        refine g_aload_n (q0 := 77) (j := 0) rfl dX12_touches_76 rfl ?_
        refine g_getf (q0 := 80) (t := 0) (fi := 23) rfl rfl ff_X12_278 dX12_touches_77 rfl (sh_711 hOK) ?_
        obtain ⟨r80, e80, h⟩ := gI_bd h
        refine g_callVq1 (as := [_, _]) (rest := []) mt_X12_isTouching mi_X12_isTouching se_X12_isTouching ml_X12_705 dX12_touches_80 (q0 := 83) rfl rfl (sh_711 hOK) rfl rfl (ok_isTouching hOK e80) rfl ⟨by decide, by decide⟩ (Nat.le_of_ble_eq_true rfl) ⟨Nat.zero_le _, Nat.zero_le _⟩ ?_
        refine g_if_eq (q0 := 86) (tgt := 90) rfl dX12_touches_83 (by decide) (fun h83 => ?_) (fun h83 => ?_)
        · replace h := gI_pos h83 h
          refine g_iincw (q0 := 93) (lv2 := [_, _, _, _, _]) rfl dX12_touches_90 rfl (by decide) rfl rfl ?_
          refine g_goto (tgt := 54) dX12_touches_93 (by decide) ?_
          exact (hk _ _ h) _ _ _ _ _ rfl hOK
        · replace h := gI_neg h83 h
          refine g_iload_n (q0 := 87) (j := 3) rfl dX12_touches_86 rfl ?_
          refine g_iconst (q0 := 88) rfl dX12_touches_87 (k := ?_)
          refine g_iaddw (q0 := 89) rfl dX12_touches_88 ?_
          refine g_istore_n (q0 := 90) (j := 3) (lv2 := [_, _, _, _, _]) rfl dX12_touches_89 (by decide) rfl rfl ?_
          refine g_iincw (q0 := 93) (lv2 := [_, _, _, _, _]) rfl dX12_touches_90 rfl (by decide) rfl rfl ?_
          refine g_goto (tgt := 54) dX12_touches_93 (by decide) ?_
          exact (hk _ _ h) _ _ _ _ _ rfl hOK
theorem ok_touches_54 {sh : gS} {M : gM} {x1 x2 x3 x4 : Int} {b : Int × gM} (hOK : gOK sh M) (h : F_touches_54 M x1 x2 x3 x4 = some b) : gA (gr 6 135) yX12_touches cX12_touches 5 (some (.int)) (gPq sh (some (0, b.1)) b.2) (0, 0) 54 [(4, 711), (0, x1), (0, x2), (0, x3), (0, x4)] [] sh M :=
  (okp_touches _ _ h) _ _ _ _ _ rfl hOK
theorem ok_touches {sh : gS} {M : gM} {a1 a2 : Int} {b : Int × gM} (hOK : gOK sh M) (h : F_touches M a1 a2 = some b) : gC (gr 6 135) yX12_touches cX12_touches 5 (some (.int)) [(4, 711), (0, a1), (0, a2)] sh M (gPq sh (some (0, b.1)) b.2) := by
  rw [eq_touches] at h
  refine gC_ofA (lv := [_, _, _, _, _]) (by decide +kernel) (Nat.le_of_ble_eq_true rfl) rfl (fun hMw hav => ?_)
  refine g_iload_n (q0 := 1) (j := 1) rfl dX12_touches_0 rfl ?_
  obtain ⟨r1, e1, h⟩ := gI_bd h
  refine g_callSq1 (as := [_]) (rest := []) mt_X12_isHistory ms_X12_isHistory ml_X12_353 dX12_touches_1 (q0 := 4) rfl rfl (ok_isHistory hOK e1) rfl ⟨by decide, by decide⟩ (Nat.le_of_ble_eq_true rfl) ⟨Nat.zero_le _, Nat.zero_le _⟩ ?_
  refine g_if_eq (q0 := 7) (tgt := 25) rfl dX12_touches_4 (by decide) (fun h4 => ?_) (fun h4 => ?_)
  · replace h := gI_pos h4 h
    refine g_iconst (q0 := 26) rfl dX12_touches_25 (k := ?_)
    rw [← Option.some.inj h]
    refine g_ireturn dX12_touches_26 rfl ⟨Nat.zero_le _, Nat.zero_le _⟩ ?_
    exact ⟨rfl, rfl, rfl⟩
  · replace h := gI_neg h4 h
    refine g_iload_n (q0 := 8) (j := 2) rfl dX12_touches_7 rfl ?_
    refine g_iconst (q0 := 9) rfl dX12_touches_8 (k := ?_)
    refine g_bipush (q0 := 11) rfl dX12_touches_9 (k := ?_)
    obtain ⟨r11, e11, h⟩ := gI_bd h
    refine g_callSq1 (as := [_, _, _]) (rest := []) mt_X12_in ms_X12_in ml_X12_182 dX12_touches_11 (q0 := 14) rfl rfl (ok_in hOK e11) rfl ⟨by decide, by decide⟩ (Nat.le_of_ble_eq_true rfl) ⟨Nat.zero_le _, Nat.zero_le _⟩ ?_
    refine g_if_eq (q0 := 17) (tgt := 25) rfl dX12_touches_14 (by decide) (fun h14 => ?_) (fun h14 => ?_)
    · replace h := gI_pos h14 h
      refine g_iconst (q0 := 26) rfl dX12_touches_25 (k := ?_)
      rw [← Option.some.inj h]
      refine g_ireturn dX12_touches_26 rfl ⟨Nat.zero_le _, Nat.zero_le _⟩ ?_
      exact ⟨rfl, rfl, rfl⟩
    · replace h := gI_neg h14 h
      refine g_iload_n (q0 := 18) (j := 2) rfl dX12_touches_17 rfl ?_
      refine g_aload_n (q0 := 19) (j := 0) rfl dX12_touches_18 rfl ?_
      refine g_getf (q0 := 22) (t := 0) (fi := 18) rfl rfl ff_X12_249 dX12_touches_19 rfl (sh_711 hOK) ?_
      refine g_icmp_le (q0 := 25) (tgt := 27) rfl dX12_touches_22 (by decide) (fun h22 => ?_) (fun h22 => ?_)
      · replace h := gI_neg (Int.not_lt.mpr h22) h
        refine g_aload_n (q0 := 28) (j := 0) rfl dX12_touches_27 rfl ?_
        refine g_iload_n (q0 := 29) (j := 2) rfl dX12_touches_28 rfl ?_
        obtain ⟨p29, e29, h⟩ := gI_bd h
        refine g_callVq1 (as := [_]) (rest := []) mt_X12_readsWholePath mi_X12_readsWholePath se_X12_readsWholePath ml_X12_680 dX12_touches_29 (q0 := 32) rfl rfl (sh_711 hOK) rfl rfl (ok_readsWholePath hOK e29) rfl ⟨by decide, by decide⟩ (Nat.le_of_ble_eq_true rfl) ⟨Nat.zero_le _, Nat.zero_le _⟩ ?_
        have hOK2 : gOK sh p29.2 := gOK_fr hOK (fr_readsWholePath (b := p29) e29) (by first | decide | (intro a ha; simp only [List.mem_cons, List.not_mem_nil, or_false] at ha; omega)) (by decide)
        refine g_if_ne (q0 := 35) (tgt := 40) rfl dX12_touches_32 (by decide) (fun h32 => ?_) (fun h32 => ?_)
        · replace h := gI_neg h32 h
          refine g_aload_n (q0 := 41) (j := 0) rfl dX12_touches_40 rfl ?_
          refine g_iload_n (q0 := 42) (j := 1) rfl dX12_touches_41 rfl ?_
          refine g_aload_n (q0 := 43) (j := 0) rfl dX12_touches_42 rfl ?_
          refine g_getp (q0 := 46) (b := 724) rfl ff_X12_47 dX12_touches_43 rfl hOK2 (by decide) (sh_711 hOK2) rfl (by decide) ?_
          obtain ⟨m46, e46, h⟩ := gI_bd h
          refine g_callVq0 (as := [_, _]) (rest := []) mt_X12_marksHistory mi_X12_marksHistory se_X12_marksHistory ml_X12_659 dX12_touches_46 (q0 := 49) rfl rfl (sh_711 hOK2) rfl rfl (ok_marksHistory hOK2 e46) rfl ⟨by decide, by decide⟩ (Nat.le_of_ble_eq_true rfl) ⟨Nat.zero_le _, Nat.zero_le _⟩ ?_
          have hOK3 : gOK sh m46 := gOK_fr hOK2 (fr_marksHistory (b := m46) e46) (by first | decide | (intro a ha; simp only [List.mem_cons, List.not_mem_nil, or_false] at ha; omega)) (by decide)
          refine g_iconst (q0 := 50) rfl dX12_touches_49 (k := ?_)
          refine g_istore_n (q0 := 51) (j := 3) (lv2 := [_, _, _, _, _]) rfl dX12_touches_50 (by decide) rfl rfl ?_
          refine g_iconst (q0 := 52) rfl dX12_touches_51 (k := ?_)
          refine g_istore (q0 := 54) (j := 4) (lv2 := [_, _, _, _, _]) rfl dX12_touches_52 (by decide) rfl rfl ?_
          exact ok_touches_54 hOK3 h
        · replace h := gI_pos h32 h
          refine g_aload_n (q0 := 36) (j := 0) rfl dX12_touches_35 rfl ?_
          refine g_getf (q0 := 39) (t := 0) (fi := 21) rfl rfl ff_X12_262 dX12_touches_36 rfl (sh_711 hOK2) ?_
          rw [← Option.some.inj h]
          refine g_ireturn dX12_touches_39 rfl ⟨Nat.zero_le _, Nat.zero_le _⟩ ?_
          exact ⟨rfl, rfl, rfl⟩
      · replace h := gI_pos h22 h
        refine g_iconst (q0 := 26) rfl dX12_touches_25 (k := ?_)
        rw [← Option.some.inj h]
        refine g_ireturn dX12_touches_26 rfl ⟨Nat.zero_le _, Nat.zero_le _⟩ ?_
        exact ⟨rfl, rfl, rfl⟩
-- ==== marksOf
theorem dX12_marksOf_0 : decode cX12_marksOf 0 = .ok (.aload_n 0, 1) := by decide +kernel
theorem dX12_marksOf_1 : decode cX12_marksOf 1 = .ok (.aload_n 0, 1) := by decide +kernel
theorem dX12_marksOf_2 : decode cX12_marksOf 2 = .ok (.getfield 117, 3) := by decide +kernel
theorem dX12_marksOf_5 : decode cX12_marksOf 5 = .ok (.iload_n 1, 1) := by decide +kernel
theorem dX12_marksOf_6 : decode cX12_marksOf 6 = .ok (.invokevirtual 213, 3) := by decide +kernel
theorem dX12_marksOf_9 : decode cX12_marksOf 9 = .ok (.aload_n 0, 1) := by decide +kernel
theorem dX12_marksOf_10 : decode cX12_marksOf 10 = .ok (.aload_n 0, 1) := by decide +kernel
theorem dX12_marksOf_11 : decode cX12_marksOf 11 = .ok (.getfield 120, 3) := by decide +kernel
theorem dX12_marksOf_14 : decode cX12_marksOf 14 = .ok (.iload_n 2, 1) := by decide +kernel
theorem dX12_marksOf_15 : decode cX12_marksOf 15 = .ok (.invokevirtual 213, 3) := by decide +kernel
theorem dX12_marksOf_18 : decode cX12_marksOf 18 = .ok (.iconst 0, 1) := by decide +kernel
theorem dX12_marksOf_19 : decode cX12_marksOf 19 = .ok (.istore 4, 2) := by decide +kernel
theorem dX12_marksOf_21 : decode cX12_marksOf 21 = .ok (.iload 4, 2) := by decide +kernel
theorem dX12_marksOf_23 : decode cX12_marksOf 23 = .ok (.aload_n 0, 1) := by decide +kernel
theorem dX12_marksOf_24 : decode cX12_marksOf 24 = .ok (.getfield 178, 3) := by decide +kernel
theorem dX12_marksOf_27 : decode cX12_marksOf 27 = .ok (.if_icmp .ge 73, 3) := by decide +kernel
theorem dX12_marksOf_30 : decode cX12_marksOf 30 = .ok (.aload_n 0, 1) := by decide +kernel
theorem dX12_marksOf_31 : decode cX12_marksOf 31 = .ok (.getfield 117, 3) := by decide +kernel
theorem dX12_marksOf_34 : decode cX12_marksOf 34 = .ok (.iload 4, 2) := by decide +kernel
theorem dX12_marksOf_36 : decode cX12_marksOf 36 = .ok (.iload_n 3, 1) := by decide +kernel
theorem dX12_marksOf_37 : decode cX12_marksOf 37 = .ok (.ifCond .eq 31, 3) := by decide +kernel
theorem dX12_marksOf_40 : decode cX12_marksOf 40 = .ok (.aload_n 0, 1) := by decide +kernel
theorem dX12_marksOf_41 : decode cX12_marksOf 41 = .ok (.getfield 117, 3) := by decide +kernel
theorem dX12_marksOf_44 : decode cX12_marksOf 44 = .ok (.iload 4, 2) := by decide +kernel
theorem dX12_marksOf_46 : decode cX12_marksOf 46 = .ok (.baload, 1) := by decide +kernel
theorem dX12_marksOf_47 : decode cX12_marksOf 47 = .ok (.ifCond .eq 17, 3) := by decide +kernel
theorem dX12_marksOf_50 : decode cX12_marksOf 50 = .ok (.aload_n 0, 1) := by decide +kernel
theorem dX12_marksOf_51 : decode cX12_marksOf 51 = .ok (.getfield 120, 3) := by decide +kernel
theorem dX12_marksOf_54 : decode cX12_marksOf 54 = .ok (.iload 4, 2) := by decide +kernel
theorem dX12_marksOf_56 : decode cX12_marksOf 56 = .ok (.baload, 1) := by decide +kernel
theorem dX12_marksOf_57 : decode cX12_marksOf 57 = .ok (.ifCond .eq 7, 3) := by decide +kernel
theorem dX12_marksOf_60 : decode cX12_marksOf 60 = .ok (.iconst 1, 1) := by decide +kernel
theorem dX12_marksOf_61 : decode cX12_marksOf 61 = .ok (.goto 32, 3) := by decide +kernel
theorem dX12_marksOf_64 : decode cX12_marksOf 64 = .ok (.iconst 0, 1) := by decide +kernel
theorem dX12_marksOf_65 : decode cX12_marksOf 65 = .ok (.goto 28, 3) := by decide +kernel
theorem dX12_marksOf_68 : decode cX12_marksOf 68 = .ok (.aload_n 0, 1) := by decide +kernel
theorem dX12_marksOf_69 : decode cX12_marksOf 69 = .ok (.getfield 117, 3) := by decide +kernel
theorem dX12_marksOf_72 : decode cX12_marksOf 72 = .ok (.iload 4, 2) := by decide +kernel
theorem dX12_marksOf_74 : decode cX12_marksOf 74 = .ok (.baload, 1) := by decide +kernel
theorem dX12_marksOf_75 : decode cX12_marksOf 75 = .ok (.ifCond .ne 17, 3) := by decide +kernel
theorem dX12_marksOf_78 : decode cX12_marksOf 78 = .ok (.aload_n 0, 1) := by decide +kernel
theorem dX12_marksOf_79 : decode cX12_marksOf 79 = .ok (.getfield 120, 3) := by decide +kernel
theorem dX12_marksOf_82 : decode cX12_marksOf 82 = .ok (.iload 4, 2) := by decide +kernel
theorem dX12_marksOf_84 : decode cX12_marksOf 84 = .ok (.baload, 1) := by decide +kernel
theorem dX12_marksOf_85 : decode cX12_marksOf 85 = .ok (.ifCond .eq 7, 3) := by decide +kernel
theorem dX12_marksOf_88 : decode cX12_marksOf 88 = .ok (.iconst 1, 1) := by decide +kernel
theorem dX12_marksOf_89 : decode cX12_marksOf 89 = .ok (.goto 4, 3) := by decide +kernel
theorem dX12_marksOf_92 : decode cX12_marksOf 92 = .ok (.iconst 0, 1) := by decide +kernel
theorem dX12_marksOf_93 : decode cX12_marksOf 93 = .ok (.bastore, 1) := by decide +kernel
theorem dX12_marksOf_94 : decode cX12_marksOf 94 = .ok (.iinc 4 1, 3) := by decide +kernel
theorem dX12_marksOf_97 : decode cX12_marksOf 97 = .ok (.goto (-76), 3) := by decide +kernel
theorem dX12_marksOf_100 : decode cX12_marksOf 100 = .ok (.return_, 1) := by decide +kernel
noncomputable def st_marksOf : Nat × List Int × gM → Option ((Nat × List Int × gM) ⊕ (gM))
  | (0, [x1, x2, x3, x4], M) => (if x4 < (M 711 0) then
      (if x3 = 0 then
        (if 0 ≤ x4 ∧ x4 < 120 then
          (if (M 747 x4) = 0 then
            (if (M 748 x4) = 0 then
              some (.inl (0, [x1, x2, x3, (gw32 (x4 + 1))], (gU M 747 x4 0)))
            else
              some (.inl (0, [x1, x2, x3, (gw32 (x4 + 1))], (gU M 747 x4 1))))
          else
            some (.inl (0, [x1, x2, x3, (gw32 (x4 + 1))], (gU M 747 x4 0))))
        else none)
      else
        (if 0 ≤ x4 ∧ x4 < 120 then
          (if (M 747 x4) = 0 then
            some (.inl (0, [x1, x2, x3, (gw32 (x4 + 1))], (gU M 747 x4 0)))
          else
            (if (M 748 x4) = 0 then
              some (.inl (0, [x1, x2, x3, (gw32 (x4 + 1))], (gU M 747 x4 0)))
            else
              some (.inl (0, [x1, x2, x3, (gw32 (x4 + 1))], (gU M 747 x4 1)))))
        else none))
    else
      some (.inr M))
  | _ => none
theorem sk_marksOf_21 (k : Nat × List Int × gM → Option (gM)) (M : gM) (x1 x2 x3 x4 : Int) : gWk k (st_marksOf (0, [x1, x2, x3, x4], M)) = (if x4 < (M 711 0) then
    (if x3 = 0 then
      (if 0 ≤ x4 ∧ x4 < 120 then
        (if (M 747 x4) = 0 then
          (if (M 748 x4) = 0 then
            k (0, [x1, x2, x3, (gw32 (x4 + 1))], (gU M 747 x4 0))
          else
            k (0, [x1, x2, x3, (gw32 (x4 + 1))], (gU M 747 x4 1)))
        else
          k (0, [x1, x2, x3, (gw32 (x4 + 1))], (gU M 747 x4 0)))
      else none)
    else
      (if 0 ≤ x4 ∧ x4 < 120 then
        (if (M 747 x4) = 0 then
          k (0, [x1, x2, x3, (gw32 (x4 + 1))], (gU M 747 x4 0))
        else
          (if (M 748 x4) = 0 then
            k (0, [x1, x2, x3, (gw32 (x4 + 1))], (gU M 747 x4 0))
          else
            k (0, [x1, x2, x3, (gw32 (x4 + 1))], (gU M 747 x4 1))))
      else none))
  else
    some M) := by
  simp only [st_marksOf, gWk_ite, gWk_bind, gWk_inl, gWk_inr, gWk_none]
noncomputable def F_marksOf_21 (M : gM) (x1 x2 x3 x4 : Int) : Option (gM) := gWh (st_marksOf) (0, [x1, x2, x3, x4], M)
theorem eq_marksOf_21 (M : gM) (x1 x2 x3 x4 : Int) : F_marksOf_21 M x1 x2 x3 x4 = (if x4 < (M 711 0) then
    (if x3 = 0 then
      (if 0 ≤ x4 ∧ x4 < 120 then
        (if (M 747 x4) = 0 then
          (if (M 748 x4) = 0 then
            F_marksOf_21 (gU M 747 x4 0) x1 x2 x3 (gw32 (x4 + 1))
          else
            F_marksOf_21 (gU M 747 x4 1) x1 x2 x3 (gw32 (x4 + 1)))
        else
          F_marksOf_21 (gU M 747 x4 0) x1 x2 x3 (gw32 (x4 + 1)))
      else none)
    else
      (if 0 ≤ x4 ∧ x4 < 120 then
        (if (M 747 x4) = 0 then
          F_marksOf_21 (gU M 747 x4 0) x1 x2 x3 (gw32 (x4 + 1))
        else
          (if (M 748 x4) = 0 then
            F_marksOf_21 (gU M 747 x4 0) x1 x2 x3 (gw32 (x4 + 1))
          else
            F_marksOf_21 (gU M 747 x4 1) x1 x2 x3 (gw32 (x4 + 1))))
      else none))
  else
    some M) := (gWh_eq _).trans (sk_marksOf_21 _ M x1 x2 x3 x4)
noncomputable def F_marksOf (M : gM) (a1 a2 a3 : Int) : Option (gM) := (Option.bind (F_marksWithAncestors M 747 a1) (fun m6 =>
    (Option.bind (F_marksWithAncestors m6 748 a2) (fun m15 =>
      F_marksOf_21 m15 a1 a2 a3 0))))
theorem eq_marksOf (M : gM) (a1 a2 a3 : Int) : F_marksOf M a1 a2 a3 = (Option.bind (F_marksWithAncestors M 747 a1) (fun m6 =>
    (Option.bind (F_marksWithAncestors m6 748 a2) (fun m15 =>
      F_marksOf_21 m15 a1 a2 a3 0)))) := rfl
theorem frp_marksOf : ∀ (s : Nat × List Int × gM) (b : gM), gWh (st_marksOf) s = some b → (∀ (x1 x2 x3 x4 : Int) (M : gM), s = (0, [x1, x2, x3, x4], M) → gFr [747, 748] [] M b) := by
  refine gWh_ind (fun k hk s b h => ?_)
  · rintro x1 x2 x3 x4 M rfl
    rw [sk_marksOf_21] at h
    rcases gI_or h with h | h
    · rcases gI_or h with h | h
      · obtain ⟨g1, h⟩ := gI_gd h
        rcases gI_or h with h | h
        · rcases gI_or h with h | h
          · exact gFr_t (gFr_a (gFr_r [747, 748] [] _) (.head _) (by decide)) ((hk _ _ h) _ _ _ _ _ rfl) (fun _ z => z) (fun _ z => z)
          · exact gFr_t (gFr_a (gFr_r [747, 748] [] _) (.head _) (by decide)) ((hk _ _ h) _ _ _ _ _ rfl) (fun _ z => z) (fun _ z => z)
        · exact gFr_t (gFr_a (gFr_r [747, 748] [] _) (.head _) (by decide)) ((hk _ _ h) _ _ _ _ _ rfl) (fun _ z => z) (fun _ z => z)
      · obtain ⟨g5, h⟩ := gI_gd h
        rcases gI_or h with h | h
        · exact gFr_t (gFr_a (gFr_r [747, 748] [] _) (.head _) (by decide)) ((hk _ _ h) _ _ _ _ _ rfl) (fun _ z => z) (fun _ z => z)
        · rcases gI_or h with h | h
          · exact gFr_t (gFr_a (gFr_r [747, 748] [] _) (.head _) (by decide)) ((hk _ _ h) _ _ _ _ _ rfl) (fun _ z => z) (fun _ z => z)
          · exact gFr_t (gFr_a (gFr_r [747, 748] [] _) (.head _) (by decide)) ((hk _ _ h) _ _ _ _ _ rfl) (fun _ z => z) (fun _ z => z)
    · rw [← Option.some.inj h]
      exact (gFr_r [747, 748] [] _)
theorem fr_marksOf_21 {M : gM} {x1 x2 x3 x4 : Int} {b : gM} (h : F_marksOf_21 M x1 x2 x3 x4 = some b) : gFr [747, 748] [] M b :=
  (frp_marksOf _ _ h) _ _ _ _ _ rfl
theorem fr_marksOf {M : gM} {a1 a2 a3 : Int} {b : gM} (h : F_marksOf M a1 a2 a3 = some b) : gFr [747, 748] [] M b := by
  rw [eq_marksOf] at h
  obtain ⟨m6, e6, h⟩ := gI_bd h
  obtain ⟨m15, e15, h⟩ := gI_bd h
  exact gFr_t (gFr_t (gFr_t (gFr_r [747, 748] [] _) (fr_marksWithAncestors (b := m6) e6) (by first | decide | simp) (by decide)) (fr_marksWithAncestors (b := m15) e15) (by first | decide | simp) (by decide)) (fr_marksOf_21 h) (fun _ z => z) (fun _ z => z)
theorem okp_marksOf {sh : gS} : ∀ (s : Nat × List Int × gM) (b : gM), gWh (st_marksOf) s = some b → (∀ (x1 x2 x3 x4 : Int) (M : gM), s = (0, [x1, x2, x3, x4], M) → gOK sh M → gA (gr 3 67) yX12_marksOf cX12_marksOf 5 none (gPq sh none b) (0, 0) 21 [(4, 711), (0, x1), (0, x2), (0, x3), (0, x4)] [] sh M) := by
  refine gWh_ind (fun k hk s b h => ?_)
  · rintro x1 x2 x3 x4 M rfl hOK
    rw [sk_marksOf_21] at h
    refine g_iload (q0 := 23) (j := 4) rfl dX12_marksOf_21 rfl ?_
    refine g_aload_n (q0 := 24) (j := 0) rfl dX12_marksOf_23 rfl ?_
    refine g_getf (q0 := 27) (t := 0) (fi := 0) rfl rfl ff_X12_178 dX12_marksOf_24 rfl (sh_711 hOK) ?_
    refine g_icmp_ge (q0 := 30) (tgt := 100) rfl dX12_marksOf_27 (by decide) (fun h27 => ?_) (fun h27 => ?_)
    · replace h := gI_neg (Int.not_lt.mpr h27) h
      rw [← Option.some.inj h]
      refine g_return dX12_marksOf_100 rfl ⟨Nat.zero_le _, Nat.zero_le _⟩ ?_
      exact ⟨rfl, rfl, rfl⟩
    · replace h := gI_pos h27 h
      refine g_aload_n (q0 := 31) (j := 0) rfl dX12_marksOf_30 rfl ?_
      refine g_getp (q0 := 34) (b := 747) rfl ff_X12_117 dX12_marksOf_31 rfl hOK (by decide) (sh_711 hOK) rfl (by decide) ?_
      refine g_iload (q0 := 36) (j := 4) rfl dX12_marksOf_34 rfl ?_
      refine g_iload_n (q0 := 37) (j := 3) rfl dX12_marksOf_36 rfl ?_
      refine g_if_eq (q0 := 40) (tgt := 68) rfl dX12_marksOf_37 (by decide) (fun h37 => ?_) (fun h37 => ?_)
      · replace h := gI_pos h37 h
        refine g_aload_n (q0 := 69) (j := 0) rfl dX12_marksOf_68 rfl ?_
        refine g_getp (q0 := 72) (b := 747) rfl ff_X12_117 dX12_marksOf_69 rfl hOK (by decide) (sh_711 hOK) rfl (by decide) ?_
        refine g_iload (q0 := 74) (j := 4) rfl dX12_marksOf_72 rfl ?_
        obtain ⟨g1, h⟩ := gI_gd h
        refine g_zald (q0 := 75) rfl dX12_marksOf_74 (sh_747 hOK) g1.1 g1.2 ?_
        refine g_if_ne (q0 := 78) (tgt := 92) rfl dX12_marksOf_75 (by decide) (fun h75 => ?_) (fun h75 => ?_)
        · replace h := gI_neg h75 h
          refine g_iconst (q0 := 93) rfl dX12_marksOf_92 (k := ?_)
          refine g_zast (q0 := 94) rfl dX12_marksOf_93 (sh_747 hOK) g1.1 g1.2 (Or.inl rfl) ?_
          have hOK2 : gOK sh (gU M 747 x4 0) := gOK_z hOK (sh_747 hOK)
          refine g_iincw (q0 := 97) (lv2 := [_, _, _, _, _]) rfl dX12_marksOf_94 rfl (by decide) rfl rfl ?_
          refine g_goto (tgt := 21) dX12_marksOf_97 (by decide) ?_
          exact (hk _ _ h) _ _ _ _ _ rfl hOK2
        · replace h := gI_pos h75 h
          refine g_aload_n (q0 := 79) (j := 0) rfl dX12_marksOf_78 rfl ?_
          refine g_getp (q0 := 82) (b := 748) rfl ff_X12_120 dX12_marksOf_79 rfl hOK (by decide) (sh_711 hOK) rfl (by decide) ?_
          refine g_iload (q0 := 84) (j := 4) rfl dX12_marksOf_82 rfl ?_
          refine g_zald (q0 := 85) rfl dX12_marksOf_84 (sh_748 hOK) g1.1 g1.2 ?_
          refine g_if_eq (q0 := 88) (tgt := 92) rfl dX12_marksOf_85 (by decide) (fun h85 => ?_) (fun h85 => ?_)
          · replace h := gI_pos h85 h
            refine g_iconst (q0 := 93) rfl dX12_marksOf_92 (k := ?_)
            refine g_zast (q0 := 94) rfl dX12_marksOf_93 (sh_747 hOK) g1.1 g1.2 (Or.inl rfl) ?_
            have hOK3 : gOK sh (gU M 747 x4 0) := gOK_z hOK (sh_747 hOK)
            refine g_iincw (q0 := 97) (lv2 := [_, _, _, _, _]) rfl dX12_marksOf_94 rfl (by decide) rfl rfl ?_
            refine g_goto (tgt := 21) dX12_marksOf_97 (by decide) ?_
            exact (hk _ _ h) _ _ _ _ _ rfl hOK3
          · replace h := gI_neg h85 h
            refine g_iconst (q0 := 89) rfl dX12_marksOf_88 (k := ?_)
            refine g_goto (tgt := 93) dX12_marksOf_89 (by decide) ?_
            refine g_zast (q0 := 94) rfl dX12_marksOf_93 (sh_747 hOK) g1.1 g1.2 (Or.inr rfl) ?_
            have hOK4 : gOK sh (gU M 747 x4 1) := gOK_z hOK (sh_747 hOK)
            refine g_iincw (q0 := 97) (lv2 := [_, _, _, _, _]) rfl dX12_marksOf_94 rfl (by decide) rfl rfl ?_
            refine g_goto (tgt := 21) dX12_marksOf_97 (by decide) ?_
            exact (hk _ _ h) _ _ _ _ _ rfl hOK4
      · replace h := gI_neg h37 h
        refine g_aload_n (q0 := 41) (j := 0) rfl dX12_marksOf_40 rfl ?_
        refine g_getp (q0 := 44) (b := 747) rfl ff_X12_117 dX12_marksOf_41 rfl hOK (by decide) (sh_711 hOK) rfl (by decide) ?_
        refine g_iload (q0 := 46) (j := 4) rfl dX12_marksOf_44 rfl ?_
        obtain ⟨g5, h⟩ := gI_gd h
        refine g_zald (q0 := 47) rfl dX12_marksOf_46 (sh_747 hOK) g5.1 g5.2 ?_
        refine g_if_eq (q0 := 50) (tgt := 64) rfl dX12_marksOf_47 (by decide) (fun h47 => ?_) (fun h47 => ?_)
        · replace h := gI_pos h47 h
          refine g_iconst (q0 := 65) rfl dX12_marksOf_64 (k := ?_)
          refine g_goto (tgt := 93) dX12_marksOf_65 (by decide) ?_
          refine g_zast (q0 := 94) rfl dX12_marksOf_93 (sh_747 hOK) g5.1 g5.2 (Or.inl rfl) ?_
          have hOK6 : gOK sh (gU M 747 x4 0) := gOK_z hOK (sh_747 hOK)
          refine g_iincw (q0 := 97) (lv2 := [_, _, _, _, _]) rfl dX12_marksOf_94 rfl (by decide) rfl rfl ?_
          refine g_goto (tgt := 21) dX12_marksOf_97 (by decide) ?_
          exact (hk _ _ h) _ _ _ _ _ rfl hOK6
        · replace h := gI_neg h47 h
          refine g_aload_n (q0 := 51) (j := 0) rfl dX12_marksOf_50 rfl ?_
          refine g_getp (q0 := 54) (b := 748) rfl ff_X12_120 dX12_marksOf_51 rfl hOK (by decide) (sh_711 hOK) rfl (by decide) ?_
          refine g_iload (q0 := 56) (j := 4) rfl dX12_marksOf_54 rfl ?_
          refine g_zald (q0 := 57) rfl dX12_marksOf_56 (sh_748 hOK) g5.1 g5.2 ?_
          refine g_if_eq (q0 := 60) (tgt := 64) rfl dX12_marksOf_57 (by decide) (fun h57 => ?_) (fun h57 => ?_)
          · replace h := gI_pos h57 h
            refine g_iconst (q0 := 65) rfl dX12_marksOf_64 (k := ?_)
            refine g_goto (tgt := 93) dX12_marksOf_65 (by decide) ?_
            refine g_zast (q0 := 94) rfl dX12_marksOf_93 (sh_747 hOK) g5.1 g5.2 (Or.inl rfl) ?_
            have hOK7 : gOK sh (gU M 747 x4 0) := gOK_z hOK (sh_747 hOK)
            refine g_iincw (q0 := 97) (lv2 := [_, _, _, _, _]) rfl dX12_marksOf_94 rfl (by decide) rfl rfl ?_
            refine g_goto (tgt := 21) dX12_marksOf_97 (by decide) ?_
            exact (hk _ _ h) _ _ _ _ _ rfl hOK7
          · replace h := gI_neg h57 h
            refine g_iconst (q0 := 61) rfl dX12_marksOf_60 (k := ?_)
            refine g_goto (tgt := 93) dX12_marksOf_61 (by decide) ?_
            refine g_zast (q0 := 94) rfl dX12_marksOf_93 (sh_747 hOK) g5.1 g5.2 (Or.inr rfl) ?_
            have hOK8 : gOK sh (gU M 747 x4 1) := gOK_z hOK (sh_747 hOK)
            refine g_iincw (q0 := 97) (lv2 := [_, _, _, _, _]) rfl dX12_marksOf_94 rfl (by decide) rfl rfl ?_
            refine g_goto (tgt := 21) dX12_marksOf_97 (by decide) ?_
            exact (hk _ _ h) _ _ _ _ _ rfl hOK8
theorem ok_marksOf_21 {sh : gS} {M : gM} {x1 x2 x3 x4 : Int} {b : gM} (hOK : gOK sh M) (h : F_marksOf_21 M x1 x2 x3 x4 = some b) : gA (gr 3 67) yX12_marksOf cX12_marksOf 5 none (gPq sh none b) (0, 0) 21 [(4, 711), (0, x1), (0, x2), (0, x3), (0, x4)] [] sh M :=
  (okp_marksOf _ _ h) _ _ _ _ _ rfl hOK
theorem ok_marksOf {sh : gS} {M : gM} {a1 a2 a3 : Int} {b : gM} (hOK : gOK sh M) (h : F_marksOf M a1 a2 a3 = some b) : gC (gr 3 67) yX12_marksOf cX12_marksOf 5 none [(4, 711), (0, a1), (0, a2), (0, a3)] sh M (gPq sh none b) := by
  rw [eq_marksOf] at h
  refine gC_ofA (lv := [_, _, _, _, _]) (by decide +kernel) (Nat.le_of_ble_eq_true rfl) rfl (fun hMw hav => ?_)
  refine g_aload_n (q0 := 1) (j := 0) rfl dX12_marksOf_0 rfl ?_
  refine g_aload_n (q0 := 2) (j := 0) rfl dX12_marksOf_1 rfl ?_
  refine g_getp (q0 := 5) (b := 747) rfl ff_X12_117 dX12_marksOf_2 rfl hOK (by decide) (sh_711 hOK) rfl (by decide) ?_
  refine g_iload_n (q0 := 6) (j := 1) rfl dX12_marksOf_5 rfl ?_
  obtain ⟨m6, e6, h⟩ := gI_bd h
  refine g_callVq0 (as := [_, _]) (rest := []) mt_X12_marksWithAncestors mi_X12_marksWithAncestors se_X12_marksWithAncestors ml_X12_213 dX12_marksOf_6 (q0 := 9) rfl rfl (sh_711 hOK) rfl rfl (ok_marksWithAncestors hOK e6) rfl ⟨by decide, by decide⟩ (Nat.le_of_ble_eq_true rfl) ⟨Nat.zero_le _, Nat.zero_le _⟩ ?_
  have hOK9 : gOK sh m6 := gOK_fr hOK (fr_marksWithAncestors (b := m6) e6) (by first | decide | (intro a ha; simp only [List.mem_cons, List.not_mem_nil, or_false] at ha; omega)) (by decide)
  refine g_aload_n (q0 := 10) (j := 0) rfl dX12_marksOf_9 rfl ?_
  refine g_aload_n (q0 := 11) (j := 0) rfl dX12_marksOf_10 rfl ?_
  refine g_getp (q0 := 14) (b := 748) rfl ff_X12_120 dX12_marksOf_11 rfl hOK9 (by decide) (sh_711 hOK9) rfl (by decide) ?_
  refine g_iload_n (q0 := 15) (j := 2) rfl dX12_marksOf_14 rfl ?_
  obtain ⟨m15, e15, h⟩ := gI_bd h
  refine g_callVq0 (as := [_, _]) (rest := []) mt_X12_marksWithAncestors mi_X12_marksWithAncestors se_X12_marksWithAncestors ml_X12_213 dX12_marksOf_15 (q0 := 18) rfl rfl (sh_711 hOK9) rfl rfl (ok_marksWithAncestors hOK9 e15) rfl ⟨by decide, by decide⟩ (Nat.le_of_ble_eq_true rfl) ⟨Nat.zero_le _, Nat.zero_le _⟩ ?_
  have hOK10 : gOK sh m15 := gOK_fr hOK9 (fr_marksWithAncestors (b := m15) e15) (by first | decide | (intro a ha; simp only [List.mem_cons, List.not_mem_nil, or_false] at ha; omega)) (by decide)
  refine g_iconst (q0 := 19) rfl dX12_marksOf_18 (k := ?_)
  refine g_istore (q0 := 21) (j := 4) (lv2 := [_, _, _, _, _]) rfl dX12_marksOf_19 (by decide) rfl rfl ?_
  exact ok_marksOf_21 hOK10 h
-- ==== isBelowMarked
theorem dX12_isBelowMarked_0 : decode cX12_isBelowMarked 0 = .ok (.aload_n 0, 1) := by decide +kernel
theorem dX12_isBelowMarked_1 : decode cX12_isBelowMarked 1 = .ok (.iload_n 1, 1) := by decide +kernel
theorem dX12_isBelowMarked_2 : decode cX12_isBelowMarked 2 = .ok (.aload_n 0, 1) := by decide +kernel
theorem dX12_isBelowMarked_3 : decode cX12_isBelowMarked 3 = .ok (.getfield 117, 3) := by decide +kernel
theorem dX12_isBelowMarked_6 : decode cX12_isBelowMarked 6 = .ok (.invokevirtual 686, 3) := by decide +kernel
theorem dX12_isBelowMarked_9 : decode cX12_isBelowMarked 9 = .ok (.ireturn, 1) := by decide +kernel
noncomputable def F_isBelowMarked (M : gM) (a1 : Int) : Option (Int) := (Option.bind (F_hasChild M a1 747) (fun r6 =>
    some r6))
theorem eq_isBelowMarked (M : gM) (a1 : Int) : F_isBelowMarked M a1 = (Option.bind (F_hasChild M a1 747) (fun r6 =>
    some r6)) := rfl
theorem bo_isBelowMarked {M : gM} {a1 : Int} {b : Int} (h : F_isBelowMarked M a1 = some b) : b = 0 ∨ b = 1 := by
  rw [eq_isBelowMarked] at h
  obtain ⟨r6, e6, h⟩ := gI_bd h
  rw [← Option.some.inj h]
  exact (bo_hasChild (b := r6) e6)
theorem ok_isBelowMarked {sh : gS} {M : gM} {a1 : Int} {b : Int} (hOK : gOK sh M) (h : F_isBelowMarked M a1 = some b) : gC (gr 2 46) yX12_isBelowMarked cX12_isBelowMarked 2 (some (.boolean)) [(4, 711), (0, a1)] sh M (gPq sh (some (0, b)) M) := by
  rw [eq_isBelowMarked] at h
  refine gC_ofA (lv := [_, _]) (by decide +kernel) (Nat.le_of_ble_eq_true rfl) rfl (fun hMw hav => ?_)
  refine g_aload_n (q0 := 1) (j := 0) rfl dX12_isBelowMarked_0 rfl ?_
  refine g_iload_n (q0 := 2) (j := 1) rfl dX12_isBelowMarked_1 rfl ?_
  refine g_aload_n (q0 := 3) (j := 0) rfl dX12_isBelowMarked_2 rfl ?_
  refine g_getp (q0 := 6) (b := 747) rfl ff_X12_117 dX12_isBelowMarked_3 rfl hOK (by decide) (sh_711 hOK) rfl (by decide) ?_
  obtain ⟨r6, e6, h⟩ := gI_bd h
  refine g_callVq1 (as := [_, _]) (rest := []) mt_X12_hasChild mi_X12_hasChild se_X12_hasChild ml_X12_686 dX12_isBelowMarked_6 (q0 := 9) rfl rfl (sh_711 hOK) rfl rfl (ok_hasChild hOK e6) rfl ⟨by decide, by decide⟩ (Nat.le_of_ble_eq_true rfl) ⟨Nat.zero_le _, Nat.zero_le _⟩ ?_
  rw [← Option.some.inj h]
  refine g_zreturn dX12_isBelowMarked_9 rfl (gnz (bo_hasChild (b := r6) e6)) ⟨Nat.zero_le _, Nat.zero_le _⟩ ?_
  exact ⟨rfl, rfl, rfl⟩
-- ==== base
theorem dX12_base_0 : decode cX12_base 0 = .ok (.aload_n 0, 1) := by decide +kernel
theorem dX12_base_1 : decode cX12_base 1 = .ok (.iload_n 1, 1) := by decide +kernel
theorem dX12_base_2 : decode cX12_base 2 = .ok (.invokevirtual 229, 3) := by decide +kernel
theorem dX12_base_5 : decode cX12_base 5 = .ok (.ifCond .eq 27, 3) := by decide +kernel
theorem dX12_base_8 : decode cX12_base 8 = .ok (.aload_n 0, 1) := by decide +kernel
theorem dX12_base_9 : decode cX12_base 9 = .ok (.iload_n 2, 1) := by decide +kernel
theorem dX12_base_10 : decode cX12_base 10 = .ok (.invokevirtual 229, 3) := by decide +kernel
theorem dX12_base_13 : decode cX12_base 13 = .ok (.ifCond .eq 19, 3) := by decide +kernel
theorem dX12_base_16 : decode cX12_base 16 = .ok (.iload_n 3, 1) := by decide +kernel
theorem dX12_base_17 : decode cX12_base 17 = .ok (.ifCond .eq 17, 3) := by decide +kernel
theorem dX12_base_20 : decode cX12_base 20 = .ok (.iload_n 3, 1) := by decide +kernel
theorem dX12_base_21 : decode cX12_base 21 = .ok (.bipush 10, 2) := by decide +kernel
theorem dX12_base_23 : decode cX12_base 23 = .ok (.sipush 129, 3) := by decide +kernel
theorem dX12_base_26 : decode cX12_base 26 = .ok (.invokestatic 182, 3) := by decide +kernel
theorem dX12_base_29 : decode cX12_base 29 = .ok (.ifCond .ne 5, 3) := by decide +kernel
theorem dX12_base_32 : decode cX12_base 32 = .ok (.iconst (-1), 1) := by decide +kernel
theorem dX12_base_33 : decode cX12_base 33 = .ok (.ireturn, 1) := by decide +kernel
theorem dX12_base_34 : decode cX12_base 34 = .ok (.aload_n 0, 1) := by decide +kernel
theorem dX12_base_35 : decode cX12_base 35 = .ok (.iload_n 1, 1) := by decide +kernel
theorem dX12_base_36 : decode cX12_base 36 = .ok (.iload_n 2, 1) := by decide +kernel
theorem dX12_base_37 : decode cX12_base 37 = .ok (.iconst 1, 1) := by decide +kernel
theorem dX12_base_38 : decode cX12_base 38 = .ok (.invokevirtual 708, 3) := by decide +kernel
theorem dX12_base_41 : decode cX12_base 41 = .ok (.iconst 0, 1) := by decide +kernel
theorem dX12_base_42 : decode cX12_base 42 = .ok (.istore 4, 2) := by decide +kernel
theorem dX12_base_44 : decode cX12_base 44 = .ok (.iconst 0, 1) := by decide +kernel
theorem dX12_base_45 : decode cX12_base 45 = .ok (.istore 5, 2) := by decide +kernel
theorem dX12_base_47 : decode cX12_base 47 = .ok (.iload 5, 2) := by decide +kernel
theorem dX12_base_49 : decode cX12_base 49 = .ok (.aload_n 0, 1) := by decide +kernel
theorem dX12_base_50 : decode cX12_base 50 = .ok (.getfield 178, 3) := by decide +kernel
theorem dX12_base_53 : decode cX12_base 53 = .ok (.if_icmp .ge 49, 3) := by decide +kernel
theorem dX12_base_56 : decode cX12_base 56 = .ok (.aload_n 0, 1) := by decide +kernel
theorem dX12_base_57 : decode cX12_base 57 = .ok (.getfield 117, 3) := by decide +kernel
theorem dX12_base_60 : decode cX12_base 60 = .ok (.iload 5, 2) := by decide +kernel
theorem dX12_base_62 : decode cX12_base 62 = .ok (.baload, 1) := by decide +kernel
theorem dX12_base_63 : decode cX12_base 63 = .ok (.ifCond .eq 33, 3) := by decide +kernel
theorem dX12_base_66 : decode cX12_base 66 = .ok (.aload_n 0, 1) := by decide +kernel
theorem dX12_base_67 : decode cX12_base 67 = .ok (.iload 5, 2) := by decide +kernel
theorem dX12_base_69 : decode cX12_base 69 = .ok (.invokevirtual 712, 3) := by decide +kernel
theorem dX12_base_72 : decode cX12_base 72 = .ok (.ifCond .eq 6, 3) := by decide +kernel
theorem dX12_base_75 : decode cX12_base 75 = .ok (.goto 21, 3) := by decide +kernel
theorem dX12_base_78 : decode cX12_base 78 = .ok (.iload_n 3, 1) := by decide +kernel
theorem dX12_base_79 : decode cX12_base 79 = .ok (.bipush 10, 2) := by decide +kernel
theorem dX12_base_81 : decode cX12_base 81 = .ok (.iload 4, 2) := by decide +kernel
theorem dX12_base_83 : decode cX12_base 83 = .ok (.iadd, 1) := by decide +kernel
theorem dX12_base_84 : decode cX12_base 84 = .ok (.if_icmp .ne 6, 3) := by decide +kernel
theorem dX12_base_87 : decode cX12_base 87 = .ok (.iload 5, 2) := by decide +kernel
theorem dX12_base_89 : decode cX12_base 89 = .ok (.ireturn, 1) := by decide +kernel
theorem dX12_base_90 : decode cX12_base 90 = .ok (.iload 4, 2) := by decide +kernel
theorem dX12_base_92 : decode cX12_base 92 = .ok (.iconst 1, 1) := by decide +kernel
theorem dX12_base_93 : decode cX12_base 93 = .ok (.iadd, 1) := by decide +kernel
theorem dX12_base_94 : decode cX12_base 94 = .ok (.istore 4, 2) := by decide +kernel
theorem dX12_base_96 : decode cX12_base 96 = .ok (.iinc 5 1, 3) := by decide +kernel
theorem dX12_base_99 : decode cX12_base 99 = .ok (.goto (-52), 3) := by decide +kernel
theorem dX12_base_102 : decode cX12_base 102 = .ok (.iload_n 3, 1) := by decide +kernel
theorem dX12_base_103 : decode cX12_base 103 = .ok (.ifCond .ne 8, 3) := by decide +kernel
theorem dX12_base_106 : decode cX12_base 106 = .ok (.iload 4, 2) := by decide +kernel
theorem dX12_base_108 : decode cX12_base 108 = .ok (.goto 5, 3) := by decide +kernel
theorem dX12_base_111 : decode cX12_base 111 = .ok (.bipush (-4), 2) := by decide +kernel
theorem dX12_base_113 : decode cX12_base 113 = .ok (.ireturn, 1) := by decide +kernel
noncomputable def st_base : Nat × List Int × gM → Option ((Nat × List Int × gM) ⊕ (Int × gM))
  | (0, [x1, x2, x3, x4, x5], M) => (if x5 < (M 711 0) then
      (if 0 ≤ x5 ∧ x5 < 120 then
        (if (M 747 x5) = 0 then
          some (.inl (0, [x1, x2, x3, x4, (gw32 (x5 + 1))], M))
        else
          (Option.bind (F_isBelowMarked M x5) (fun r69 =>
            (if r69 = 0 then
              (if x3 = (gw32 ((10 : Int) + x4)) then
                some (.inr (x5, M))
              else
                some (.inl (0, [x1, x2, x3, (gw32 (x4 + (1 : Int))), (gw32 (x5 + 1))], M)))
            else
              some (.inl (0, [x1, x2, x3, x4, (gw32 (x5 + 1))], M))))))
      else none)
    else
      (if x3 = 0 then
        some (.inr (x4, M))
      else
        some (.inr (-4, M))))
  | _ => none
theorem sk_base_47 (k : Nat × List Int × gM → Option (Int × gM)) (M : gM) (x1 x2 x3 x4 x5 : Int) : gWk k (st_base (0, [x1, x2, x3, x4, x5], M)) = (if x5 < (M 711 0) then
    (if 0 ≤ x5 ∧ x5 < 120 then
      (if (M 747 x5) = 0 then
        k (0, [x1, x2, x3, x4, (gw32 (x5 + 1))], M)
      else
        (Option.bind (F_isBelowMarked M x5) (fun r69 =>
          (if r69 = 0 then
            (if x3 = (gw32 ((10 : Int) + x4)) then
              some (x5, M)
            else
              k (0, [x1, x2, x3, (gw32 (x4 + (1 : Int))), (gw32 (x5 + 1))], M))
          else
            k (0, [x1, x2, x3, x4, (gw32 (x5 + 1))], M)))))
    else none)
  else
    (if x3 = 0 then
      some (x4, M)
    else
      some (-4, M))) := by
  simp only [st_base, gWk_ite, gWk_bind, gWk_inl, gWk_inr, gWk_none]
noncomputable def F_base_47 (M : gM) (x1 x2 x3 x4 x5 : Int) : Option (Int × gM) := gWh (st_base) (0, [x1, x2, x3, x4, x5], M)
theorem eq_base_47 (M : gM) (x1 x2 x3 x4 x5 : Int) : F_base_47 M x1 x2 x3 x4 x5 = (if x5 < (M 711 0) then
    (if 0 ≤ x5 ∧ x5 < 120 then
      (if (M 747 x5) = 0 then
        F_base_47 M x1 x2 x3 x4 (gw32 (x5 + 1))
      else
        (Option.bind (F_isBelowMarked M x5) (fun r69 =>
          (if r69 = 0 then
            (if x3 = (gw32 ((10 : Int) + x4)) then
              some (x5, M)
            else
              F_base_47 M x1 x2 x3 (gw32 (x4 + (1 : Int))) (gw32 (x5 + 1)))
          else
            F_base_47 M x1 x2 x3 x4 (gw32 (x5 + 1))))))
    else none)
  else
    (if x3 = 0 then
      some (x4, M)
    else
      some (-4, M))) := (gWh_eq _).trans (sk_base_47 _ M x1 x2 x3 x4 x5)
noncomputable def F_base (M : gM) (a1 a2 a3 : Int) : Option (Int × gM) := (Option.bind (F_isCommit M a1) (fun r2 =>
    (if r2 = 0 then
      some (-1, M)
    else
      (Option.bind (F_isCommit M a2) (fun r10 =>
        (if r10 = 0 then
          some (-1, M)
        else
          (if a3 = 0 then
            (Option.bind (F_marksOf M a1 a2 1) (fun m38 =>
              F_base_47 m38 a1 a2 a3 0 0))
          else
            (Option.bind (F_in a3 10 129) (fun r26 =>
              (if r26 = 0 then
                some (-1, M)
              else
                (Option.bind (F_marksOf M a1 a2 1) (fun m38 =>
                  F_base_47 m38 a1 a2 a3 0 0))))))))))))
theorem eq_base (M : gM) (a1 a2 a3 : Int) : F_base M a1 a2 a3 = (Option.bind (F_isCommit M a1) (fun r2 =>
    (if r2 = 0 then
      some (-1, M)
    else
      (Option.bind (F_isCommit M a2) (fun r10 =>
        (if r10 = 0 then
          some (-1, M)
        else
          (if a3 = 0 then
            (Option.bind (F_marksOf M a1 a2 1) (fun m38 =>
              F_base_47 m38 a1 a2 a3 0 0))
          else
            (Option.bind (F_in a3 10 129) (fun r26 =>
              (if r26 = 0 then
                some (-1, M)
              else
                (Option.bind (F_marksOf M a1 a2 1) (fun m38 =>
                  F_base_47 m38 a1 a2 a3 0 0)))))))))))) := rfl
theorem frp_base : ∀ (s : Nat × List Int × gM) (b : Int × gM), gWh (st_base) s = some b → (∀ (x1 x2 x3 x4 x5 : Int) (M : gM), s = (0, [x1, x2, x3, x4, x5], M) → gFr [747, 748] [] M b.2) := by
  refine gWh_ind (fun k hk s b h => ?_)
  · rintro x1 x2 x3 x4 x5 M rfl
    rw [sk_base_47] at h
    rcases gI_or h with h | h
    · obtain ⟨g1, h⟩ := gI_gd h
      rcases gI_or h with h | h
      · exact gFr_t (gFr_r [747, 748] [] _) ((hk _ _ h) _ _ _ _ _ _ rfl) (fun _ z => z) (fun _ z => z)
      · obtain ⟨r69, e69, h⟩ := gI_bd h
        rcases gI_or h with h | h
        · rcases gI_or h with h | h
          · rw [← Option.some.inj h]
            exact (gFr_r [747, 748] [] _)
          · exact gFr_t (gFr_r [747, 748] [] _) ((hk _ _ h) _ _ _ _ _ _ rfl) (fun _ z => z) (fun _ z => z)
        · exact gFr_t (gFr_r [747, 748] [] _) ((hk _ _ h) _ _ _ _ _ _ rfl) (fun _ z => z) (fun _ z => z)
    · rcases gI_or h with h | h
      · rw [← Option.some.inj h]
        exact (gFr_r [747, 748] [] _)
      · rw [← Option.some.inj h]
        exact (gFr_r [747, 748] [] _)
theorem fr_base_47 {M : gM} {x1 x2 x3 x4 x5 : Int} {b : Int × gM} (h : F_base_47 M x1 x2 x3 x4 x5 = some b) : gFr [747, 748] [] M b.2 :=
  (frp_base _ _ h) _ _ _ _ _ _ rfl
theorem fr_base {M : gM} {a1 a2 a3 : Int} {b : Int × gM} (h : F_base M a1 a2 a3 = some b) : gFr [747, 748] [] M b.2 := by
  rw [eq_base] at h
  obtain ⟨r2, e2, h⟩ := gI_bd h
  rcases gI_or h with h | h
  · rw [← Option.some.inj h]
    exact (gFr_r [747, 748] [] _)
  · obtain ⟨r10, e10, h⟩ := gI_bd h
    rcases gI_or h with h | h
    · rw [← Option.some.inj h]
      exact (gFr_r [747, 748] [] _)
    · rcases gI_or h with h | h
      · obtain ⟨m38, e38, h⟩ := gI_bd h
        exact gFr_t (gFr_t (gFr_r [747, 748] [] _) (fr_marksOf (b := m38) e38) (by first | decide | simp) (by decide)) (fr_base_47 h) (fun _ z => z) (fun _ z => z)
      · obtain ⟨r26, e26, h⟩ := gI_bd h
        rcases gI_or h with h | h
        · rw [← Option.some.inj h]
          exact (gFr_r [747, 748] [] _)
        · obtain ⟨m38, e38, h⟩ := gI_bd h
          exact gFr_t (gFr_t (gFr_r [747, 748] [] _) (fr_marksOf (b := m38) e38) (by first | decide | simp) (by decide)) (fr_base_47 h) (fun _ z => z) (fun _ z => z)
theorem okp_base {sh : gS} : ∀ (s : Nat × List Int × gM) (b : Int × gM), gWh (st_base) s = some b → (∀ (x1 x2 x3 x4 x5 : Int) (M : gM), s = (0, [x1, x2, x3, x4, x5], M) → gOK sh M → gA (gr 4 91) yX12_base cX12_base 6 (some (.int)) (gPq sh (some (0, b.1)) b.2) (0, 0) 47 [(4, 711), (0, x1), (0, x2), (0, x3), (0, x4), (0, x5)] [] sh M) := by
  refine gWh_ind (fun k hk s b h => ?_)
  · rintro x1 x2 x3 x4 x5 M rfl hOK
    rw [sk_base_47] at h
    refine g_iload (q0 := 49) (j := 5) rfl dX12_base_47 rfl ?_
    refine g_aload_n (q0 := 50) (j := 0) rfl dX12_base_49 rfl ?_
    refine g_getf (q0 := 53) (t := 0) (fi := 0) rfl rfl ff_X12_178 dX12_base_50 rfl (sh_711 hOK) ?_
    refine g_icmp_ge (q0 := 56) (tgt := 102) rfl dX12_base_53 (by decide) (fun h53 => ?_) (fun h53 => ?_)
    · replace h := gI_neg (Int.not_lt.mpr h53) h
      refine g_iload_n (q0 := 103) (j := 3) rfl dX12_base_102 rfl ?_
      refine g_if_ne (q0 := 106) (tgt := 111) rfl dX12_base_103 (by decide) (fun h103 => ?_) (fun h103 => ?_)
      · replace h := gI_neg h103 h
        refine g_bipush (q0 := 113) rfl dX12_base_111 (k := ?_)
        rw [← Option.some.inj h]
        refine g_ireturn dX12_base_113 rfl ⟨Nat.zero_le _, Nat.zero_le _⟩ ?_
        exact ⟨rfl, rfl, rfl⟩
      · replace h := gI_pos h103 h
        refine g_iload (q0 := 108) (j := 4) rfl dX12_base_106 rfl ?_
        refine g_goto (tgt := 113) dX12_base_108 (by decide) ?_
        rw [← Option.some.inj h]
        refine g_ireturn dX12_base_113 rfl ⟨Nat.zero_le _, Nat.zero_le _⟩ ?_
        exact ⟨rfl, rfl, rfl⟩
    · replace h := gI_pos h53 h
      refine g_aload_n (q0 := 57) (j := 0) rfl dX12_base_56 rfl ?_
      refine g_getp (q0 := 60) (b := 747) rfl ff_X12_117 dX12_base_57 rfl hOK (by decide) (sh_711 hOK) rfl (by decide) ?_
      refine g_iload (q0 := 62) (j := 5) rfl dX12_base_60 rfl ?_
      obtain ⟨g1, h⟩ := gI_gd h
      refine g_zald (q0 := 63) rfl dX12_base_62 (sh_747 hOK) g1.1 g1.2 ?_
      refine g_if_eq (q0 := 66) (tgt := 96) rfl dX12_base_63 (by decide) (fun h63 => ?_) (fun h63 => ?_)
      · replace h := gI_pos h63 h
        refine g_iincw (q0 := 99) (lv2 := [_, _, _, _, _, _]) rfl dX12_base_96 rfl (by decide) rfl rfl ?_
        refine g_goto (tgt := 47) dX12_base_99 (by decide) ?_
        exact (hk _ _ h) _ _ _ _ _ _ rfl hOK
      · replace h := gI_neg h63 h
        refine g_aload_n (q0 := 67) (j := 0) rfl dX12_base_66 rfl ?_
        refine g_iload (q0 := 69) (j := 5) rfl dX12_base_67 rfl ?_
        obtain ⟨r69, e69, h⟩ := gI_bd h
        refine g_callVq1 (as := [_]) (rest := []) mt_X12_isBelowMarked mi_X12_isBelowMarked se_X12_isBelowMarked ml_X12_712 dX12_base_69 (q0 := 72) rfl rfl (sh_711 hOK) rfl rfl (ok_isBelowMarked hOK e69) rfl ⟨by decide, by decide⟩ (Nat.le_of_ble_eq_true rfl) ⟨Nat.zero_le _, Nat.zero_le _⟩ ?_
        refine g_if_eq (q0 := 75) (tgt := 78) rfl dX12_base_72 (by decide) (fun h72 => ?_) (fun h72 => ?_)
        · replace h := gI_pos h72 h
          refine g_iload_n (q0 := 79) (j := 3) rfl dX12_base_78 rfl ?_
          refine g_bipush (q0 := 81) rfl dX12_base_79 (k := ?_)
          refine g_iload (q0 := 83) (j := 4) rfl dX12_base_81 rfl ?_
          refine g_iaddw (q0 := 84) rfl dX12_base_83 ?_
          refine g_icmp_ne (q0 := 87) (tgt := 90) rfl dX12_base_84 (by decide) (fun h84 => ?_) (fun h84 => ?_)
          · replace h := gI_neg h84 h
            refine g_iload (q0 := 92) (j := 4) rfl dX12_base_90 rfl ?_
            refine g_iconst (q0 := 93) rfl dX12_base_92 (k := ?_)
            refine g_iaddw (q0 := 94) rfl dX12_base_93 ?_
            refine g_istore (q0 := 96) (j := 4) (lv2 := [_, _, _, _, _, _]) rfl dX12_base_94 (by decide) rfl rfl ?_
            refine g_iincw (q0 := 99) (lv2 := [_, _, _, _, _, _]) rfl dX12_base_96 rfl (by decide) rfl rfl ?_
            refine g_goto (tgt := 47) dX12_base_99 (by decide) ?_
            exact (hk _ _ h) _ _ _ _ _ _ rfl hOK
          · replace h := gI_pos h84 h
            refine g_iload (q0 := 89) (j := 5) rfl dX12_base_87 rfl ?_
            rw [← Option.some.inj h]
            refine g_ireturn dX12_base_89 rfl ⟨Nat.zero_le _, Nat.zero_le _⟩ ?_
            exact ⟨rfl, rfl, rfl⟩
        · replace h := gI_neg h72 h
          refine g_goto (tgt := 96) dX12_base_75 (by decide) ?_
          refine g_iincw (q0 := 99) (lv2 := [_, _, _, _, _, _]) rfl dX12_base_96 rfl (by decide) rfl rfl ?_
          refine g_goto (tgt := 47) dX12_base_99 (by decide) ?_
          exact (hk _ _ h) _ _ _ _ _ _ rfl hOK
theorem ok_base_47 {sh : gS} {M : gM} {x1 x2 x3 x4 x5 : Int} {b : Int × gM} (hOK : gOK sh M) (h : F_base_47 M x1 x2 x3 x4 x5 = some b) : gA (gr 4 91) yX12_base cX12_base 6 (some (.int)) (gPq sh (some (0, b.1)) b.2) (0, 0) 47 [(4, 711), (0, x1), (0, x2), (0, x3), (0, x4), (0, x5)] [] sh M :=
  (okp_base _ _ h) _ _ _ _ _ _ rfl hOK
theorem ok_base {sh : gS} {M : gM} {a1 a2 a3 : Int} {b : Int × gM} (hOK : gOK sh M) (h : F_base M a1 a2 a3 = some b) : gC (gr 4 91) yX12_base cX12_base 6 (some (.int)) [(4, 711), (0, a1), (0, a2), (0, a3)] sh M (gPq sh (some (0, b.1)) b.2) := by
  rw [eq_base] at h
  refine gC_ofA (lv := [_, _, _, _, _, _]) (by decide +kernel) (Nat.le_of_ble_eq_true rfl) rfl (fun hMw hav => ?_)
  refine g_aload_n (q0 := 1) (j := 0) rfl dX12_base_0 rfl ?_
  refine g_iload_n (q0 := 2) (j := 1) rfl dX12_base_1 rfl ?_
  obtain ⟨r2, e2, h⟩ := gI_bd h
  refine g_callVq1 (as := [_]) (rest := []) mt_X12_isCommit mi_X12_isCommit se_X12_isCommit ml_X12_229 dX12_base_2 (q0 := 5) rfl rfl (sh_711 hOK) rfl rfl (ok_isCommit hOK e2) rfl ⟨by decide, by decide⟩ (Nat.le_of_ble_eq_true rfl) ⟨Nat.zero_le _, Nat.zero_le _⟩ ?_
  refine g_if_eq (q0 := 8) (tgt := 32) rfl dX12_base_5 (by decide) (fun h5 => ?_) (fun h5 => ?_)
  · replace h := gI_pos h5 h
    refine g_iconst (q0 := 33) rfl dX12_base_32 (k := ?_)
    rw [← Option.some.inj h]
    refine g_ireturn dX12_base_33 rfl ⟨Nat.zero_le _, Nat.zero_le _⟩ ?_
    exact ⟨rfl, rfl, rfl⟩
  · replace h := gI_neg h5 h
    refine g_aload_n (q0 := 9) (j := 0) rfl dX12_base_8 rfl ?_
    refine g_iload_n (q0 := 10) (j := 2) rfl dX12_base_9 rfl ?_
    obtain ⟨r10, e10, h⟩ := gI_bd h
    refine g_callVq1 (as := [_]) (rest := []) mt_X12_isCommit mi_X12_isCommit se_X12_isCommit ml_X12_229 dX12_base_10 (q0 := 13) rfl rfl (sh_711 hOK) rfl rfl (ok_isCommit hOK e10) rfl ⟨by decide, by decide⟩ (Nat.le_of_ble_eq_true rfl) ⟨Nat.zero_le _, Nat.zero_le _⟩ ?_
    refine g_if_eq (q0 := 16) (tgt := 32) rfl dX12_base_13 (by decide) (fun h13 => ?_) (fun h13 => ?_)
    · replace h := gI_pos h13 h
      refine g_iconst (q0 := 33) rfl dX12_base_32 (k := ?_)
      rw [← Option.some.inj h]
      refine g_ireturn dX12_base_33 rfl ⟨Nat.zero_le _, Nat.zero_le _⟩ ?_
      exact ⟨rfl, rfl, rfl⟩
    · replace h := gI_neg h13 h
      refine g_iload_n (q0 := 17) (j := 3) rfl dX12_base_16 rfl ?_
      refine g_if_eq (q0 := 20) (tgt := 34) rfl dX12_base_17 (by decide) (fun h17 => ?_) (fun h17 => ?_)
      · replace h := gI_pos h17 h
        refine g_aload_n (q0 := 35) (j := 0) rfl dX12_base_34 rfl ?_
        refine g_iload_n (q0 := 36) (j := 1) rfl dX12_base_35 rfl ?_
        refine g_iload_n (q0 := 37) (j := 2) rfl dX12_base_36 rfl ?_
        refine g_iconst (q0 := 38) rfl dX12_base_37 (k := ?_)
        obtain ⟨m38, e38, h⟩ := gI_bd h
        refine g_callVq0 (as := [_, _, _]) (rest := []) mt_X12_marksOf mi_X12_marksOf se_X12_marksOf ml_X12_708 dX12_base_38 (q0 := 41) rfl rfl (sh_711 hOK) rfl rfl (ok_marksOf hOK e38) rfl ⟨by decide, by decide⟩ (Nat.le_of_ble_eq_true rfl) ⟨Nat.zero_le _, Nat.zero_le _⟩ ?_
        have hOK2 : gOK sh m38 := gOK_fr hOK (fr_marksOf (b := m38) e38) (by first | decide | (intro a ha; simp only [List.mem_cons, List.not_mem_nil, or_false] at ha; omega)) (by decide)
        refine g_iconst (q0 := 42) rfl dX12_base_41 (k := ?_)
        refine g_istore (q0 := 44) (j := 4) (lv2 := [_, _, _, _, _, _]) rfl dX12_base_42 (by decide) rfl rfl ?_
        refine g_iconst (q0 := 45) rfl dX12_base_44 (k := ?_)
        refine g_istore (q0 := 47) (j := 5) (lv2 := [_, _, _, _, _, _]) rfl dX12_base_45 (by decide) rfl rfl ?_
        exact ok_base_47 hOK2 h
      · replace h := gI_neg h17 h
        refine g_iload_n (q0 := 21) (j := 3) rfl dX12_base_20 rfl ?_
        refine g_bipush (q0 := 23) rfl dX12_base_21 (k := ?_)
        refine g_sipush (q0 := 26) rfl dX12_base_23 (k := ?_)
        obtain ⟨r26, e26, h⟩ := gI_bd h
        refine g_callSq1 (as := [_, _, _]) (rest := []) mt_X12_in ms_X12_in ml_X12_182 dX12_base_26 (q0 := 29) rfl rfl (ok_in hOK e26) rfl ⟨by decide, by decide⟩ (Nat.le_of_ble_eq_true rfl) ⟨Nat.zero_le _, Nat.zero_le _⟩ ?_
        refine g_if_ne (q0 := 32) (tgt := 34) rfl dX12_base_29 (by decide) (fun h29 => ?_) (fun h29 => ?_)
        · replace h := gI_neg h29 h
          refine g_aload_n (q0 := 35) (j := 0) rfl dX12_base_34 rfl ?_
          refine g_iload_n (q0 := 36) (j := 1) rfl dX12_base_35 rfl ?_
          refine g_iload_n (q0 := 37) (j := 2) rfl dX12_base_36 rfl ?_
          refine g_iconst (q0 := 38) rfl dX12_base_37 (k := ?_)
          obtain ⟨m38, e38, h⟩ := gI_bd h
          refine g_callVq0 (as := [_, _, _]) (rest := []) mt_X12_marksOf mi_X12_marksOf se_X12_marksOf ml_X12_708 dX12_base_38 (q0 := 41) rfl rfl (sh_711 hOK) rfl rfl (ok_marksOf hOK e38) rfl ⟨by decide, by decide⟩ (Nat.le_of_ble_eq_true rfl) ⟨Nat.zero_le _, Nat.zero_le _⟩ ?_
          have hOK3 : gOK sh m38 := gOK_fr hOK (fr_marksOf (b := m38) e38) (by first | decide | (intro a ha; simp only [List.mem_cons, List.not_mem_nil, or_false] at ha; omega)) (by decide)
          refine g_iconst (q0 := 42) rfl dX12_base_41 (k := ?_)
          refine g_istore (q0 := 44) (j := 4) (lv2 := [_, _, _, _, _, _]) rfl dX12_base_42 (by decide) rfl rfl ?_
          refine g_iconst (q0 := 45) rfl dX12_base_44 (k := ?_)
          refine g_istore (q0 := 47) (j := 5) (lv2 := [_, _, _, _, _, _]) rfl dX12_base_45 (by decide) rfl rfl ?_
          exact ok_base_47 hOK3 h
        · replace h := gI_pos h29 h
          refine g_iconst (q0 := 33) rfl dX12_base_32 (k := ?_)
          rw [← Option.some.inj h]
          refine g_ireturn dX12_base_33 rfl ⟨Nat.zero_le _, Nat.zero_le _⟩ ?_
          exact ⟨rfl, rfl, rfl⟩
-- ==== way
theorem dX12_way_0 : decode cX12_way 0 = .ok (.aload_n 0, 1) := by decide +kernel
theorem dX12_way_1 : decode cX12_way 1 = .ok (.iload_n 1, 1) := by decide +kernel
theorem dX12_way_2 : decode cX12_way 2 = .ok (.invokevirtual 229, 3) := by decide +kernel
theorem dX12_way_5 : decode cX12_way 5 = .ok (.ifCond .eq 11, 3) := by decide +kernel
theorem dX12_way_8 : decode cX12_way 8 = .ok (.aload_n 0, 1) := by decide +kernel
theorem dX12_way_9 : decode cX12_way 9 = .ok (.iload_n 2, 1) := by decide +kernel
theorem dX12_way_10 : decode cX12_way 10 = .ok (.invokevirtual 229, 3) := by decide +kernel
theorem dX12_way_13 : decode cX12_way 13 = .ok (.ifCond .ne 5, 3) := by decide +kernel
theorem dX12_way_16 : decode cX12_way 16 = .ok (.iconst (-1), 1) := by decide +kernel
theorem dX12_way_17 : decode cX12_way 17 = .ok (.ireturn, 1) := by decide +kernel
theorem dX12_way_18 : decode cX12_way 18 = .ok (.iconst 0, 1) := by decide +kernel
theorem dX12_way_19 : decode cX12_way 19 = .ok (.istore_n 3, 1) := by decide +kernel
theorem dX12_way_20 : decode cX12_way 20 = .ok (.iload_n 3, 1) := by decide +kernel
theorem dX12_way_21 : decode cX12_way 21 = .ok (.aload_n 0, 1) := by decide +kernel
theorem dX12_way_22 : decode cX12_way 22 = .ok (.getfield 178, 3) := by decide +kernel
theorem dX12_way_25 : decode cX12_way 25 = .ok (.if_icmp .ge 16, 3) := by decide +kernel
theorem dX12_way_28 : decode cX12_way 28 = .ok (.aload_n 0, 1) := by decide +kernel
theorem dX12_way_29 : decode cX12_way 29 = .ok (.getfield 123, 3) := by decide +kernel
theorem dX12_way_32 : decode cX12_way 32 = .ok (.iload_n 3, 1) := by decide +kernel
theorem dX12_way_33 : decode cX12_way 33 = .ok (.iconst (-1), 1) := by decide +kernel
theorem dX12_way_34 : decode cX12_way 34 = .ok (.iastore, 1) := by decide +kernel
theorem dX12_way_35 : decode cX12_way 35 = .ok (.iinc 3 1, 3) := by decide +kernel
theorem dX12_way_38 : decode cX12_way 38 = .ok (.goto (-18), 3) := by decide +kernel
theorem dX12_way_41 : decode cX12_way 41 = .ok (.aload_n 0, 1) := by decide +kernel
theorem dX12_way_42 : decode cX12_way 42 = .ok (.getfield 123, 3) := by decide +kernel
theorem dX12_way_45 : decode cX12_way 45 = .ok (.iload_n 2, 1) := by decide +kernel
theorem dX12_way_46 : decode cX12_way 46 = .ok (.iconst 0, 1) := by decide +kernel
theorem dX12_way_47 : decode cX12_way 47 = .ok (.iastore, 1) := by decide +kernel
theorem dX12_way_48 : decode cX12_way 48 = .ok (.iload_n 2, 1) := by decide +kernel
theorem dX12_way_49 : decode cX12_way 49 = .ok (.istore_n 3, 1) := by decide +kernel
theorem dX12_way_50 : decode cX12_way 50 = .ok (.iload_n 3, 1) := by decide +kernel
theorem dX12_way_51 : decode cX12_way 51 = .ok (.iload_n 1, 1) := by decide +kernel
theorem dX12_way_52 : decode cX12_way 52 = .ok (.if_icmp .le 92, 3) := by decide +kernel
theorem dX12_way_55 : decode cX12_way 55 = .ok (.iconst 0, 1) := by decide +kernel
theorem dX12_way_56 : decode cX12_way 56 = .ok (.istore 4, 2) := by decide +kernel
theorem dX12_way_58 : decode cX12_way 58 = .ok (.iload 4, 2) := by decide +kernel
theorem dX12_way_60 : decode cX12_way 60 = .ok (.aload_n 0, 1) := by decide +kernel
theorem dX12_way_61 : decode cX12_way 61 = .ok (.getfield 7, 3) := by decide +kernel
theorem dX12_way_64 : decode cX12_way 64 = .ok (.iload_n 3, 1) := by decide +kernel
theorem dX12_way_65 : decode cX12_way 65 = .ok (.iaload, 1) := by decide +kernel
theorem dX12_way_66 : decode cX12_way 66 = .ok (.if_icmp .ge 72, 3) := by decide +kernel
theorem dX12_way_69 : decode cX12_way 69 = .ok (.aload_n 0, 1) := by decide +kernel
theorem dX12_way_70 : decode cX12_way 70 = .ok (.getfield 123, 3) := by decide +kernel
theorem dX12_way_73 : decode cX12_way 73 = .ok (.iload_n 3, 1) := by decide +kernel
theorem dX12_way_74 : decode cX12_way 74 = .ok (.iaload, 1) := by decide +kernel
theorem dX12_way_75 : decode cX12_way 75 = .ok (.iconst (-1), 1) := by decide +kernel
theorem dX12_way_76 : decode cX12_way 76 = .ok (.if_icmp .eq 62, 3) := by decide +kernel
theorem dX12_way_79 : decode cX12_way 79 = .ok (.aload_n 0, 1) := by decide +kernel
theorem dX12_way_80 : decode cX12_way 80 = .ok (.iload_n 3, 1) := by decide +kernel
theorem dX12_way_81 : decode cX12_way 81 = .ok (.iload 4, 2) := by decide +kernel
theorem dX12_way_83 : decode cX12_way 83 = .ok (.invokevirtual 192, 3) := by decide +kernel
theorem dX12_way_86 : decode cX12_way 86 = .ok (.istore 5, 2) := by decide +kernel
theorem dX12_way_88 : decode cX12_way 88 = .ok (.aload_n 0, 1) := by decide +kernel
theorem dX12_way_89 : decode cX12_way 89 = .ok (.getfield 123, 3) := by decide +kernel
theorem dX12_way_92 : decode cX12_way 92 = .ok (.iload 5, 2) := by decide +kernel
theorem dX12_way_94 : decode cX12_way 94 = .ok (.iaload, 1) := by decide +kernel
theorem dX12_way_95 : decode cX12_way 95 = .ok (.iconst (-1), 1) := by decide +kernel
theorem dX12_way_96 : decode cX12_way 96 = .ok (.if_icmp .eq 21, 3) := by decide +kernel
theorem dX12_way_99 : decode cX12_way 99 = .ok (.aload_n 0, 1) := by decide +kernel
theorem dX12_way_100 : decode cX12_way 100 = .ok (.getfield 123, 3) := by decide +kernel
theorem dX12_way_103 : decode cX12_way 103 = .ok (.iload 5, 2) := by decide +kernel
theorem dX12_way_105 : decode cX12_way 105 = .ok (.iaload, 1) := by decide +kernel
theorem dX12_way_106 : decode cX12_way 106 = .ok (.aload_n 0, 1) := by decide +kernel
theorem dX12_way_107 : decode cX12_way 107 = .ok (.getfield 123, 3) := by decide +kernel
theorem dX12_way_110 : decode cX12_way 110 = .ok (.iload_n 3, 1) := by decide +kernel
theorem dX12_way_111 : decode cX12_way 111 = .ok (.iaload, 1) := by decide +kernel
theorem dX12_way_112 : decode cX12_way 112 = .ok (.iconst 1, 1) := by decide +kernel
theorem dX12_way_113 : decode cX12_way 113 = .ok (.iadd, 1) := by decide +kernel
theorem dX12_way_114 : decode cX12_way 114 = .ok (.if_icmp .le 18, 3) := by decide +kernel
theorem dX12_way_117 : decode cX12_way 117 = .ok (.aload_n 0, 1) := by decide +kernel
theorem dX12_way_118 : decode cX12_way 118 = .ok (.getfield 123, 3) := by decide +kernel
theorem dX12_way_121 : decode cX12_way 121 = .ok (.iload 5, 2) := by decide +kernel
theorem dX12_way_123 : decode cX12_way 123 = .ok (.aload_n 0, 1) := by decide +kernel
theorem dX12_way_124 : decode cX12_way 124 = .ok (.getfield 123, 3) := by decide +kernel
theorem dX12_way_127 : decode cX12_way 127 = .ok (.iload_n 3, 1) := by decide +kernel
theorem dX12_way_128 : decode cX12_way 128 = .ok (.iaload, 1) := by decide +kernel
theorem dX12_way_129 : decode cX12_way 129 = .ok (.iconst 1, 1) := by decide +kernel
theorem dX12_way_130 : decode cX12_way 130 = .ok (.iadd, 1) := by decide +kernel
theorem dX12_way_131 : decode cX12_way 131 = .ok (.iastore, 1) := by decide +kernel
theorem dX12_way_132 : decode cX12_way 132 = .ok (.iinc 4 1, 3) := by decide +kernel
theorem dX12_way_135 : decode cX12_way 135 = .ok (.goto (-77), 3) := by decide +kernel
theorem dX12_way_138 : decode cX12_way 138 = .ok (.iinc 3 (-1), 3) := by decide +kernel
theorem dX12_way_141 : decode cX12_way 141 = .ok (.goto (-91), 3) := by decide +kernel
theorem dX12_way_144 : decode cX12_way 144 = .ok (.iload_n 1, 1) := by decide +kernel
theorem dX12_way_145 : decode cX12_way 145 = .ok (.iload_n 2, 1) := by decide +kernel
theorem dX12_way_146 : decode cX12_way 146 = .ok (.if_icmp .gt 13, 3) := by decide +kernel
theorem dX12_way_149 : decode cX12_way 149 = .ok (.aload_n 0, 1) := by decide +kernel
theorem dX12_way_150 : decode cX12_way 150 = .ok (.getfield 123, 3) := by decide +kernel
theorem dX12_way_153 : decode cX12_way 153 = .ok (.iload_n 1, 1) := by decide +kernel
theorem dX12_way_154 : decode cX12_way 154 = .ok (.iaload, 1) := by decide +kernel
theorem dX12_way_155 : decode cX12_way 155 = .ok (.iconst (-1), 1) := by decide +kernel
theorem dX12_way_156 : decode cX12_way 156 = .ok (.if_icmp .ne 8, 3) := by decide +kernel
theorem dX12_way_159 : decode cX12_way 159 = .ok (.bipush (-2), 2) := by decide +kernel
theorem dX12_way_161 : decode cX12_way 161 = .ok (.goto 9, 3) := by decide +kernel
theorem dX12_way_164 : decode cX12_way 164 = .ok (.aload_n 0, 1) := by decide +kernel
theorem dX12_way_165 : decode cX12_way 165 = .ok (.getfield 123, 3) := by decide +kernel
theorem dX12_way_168 : decode cX12_way 168 = .ok (.iload_n 1, 1) := by decide +kernel
theorem dX12_way_169 : decode cX12_way 169 = .ok (.iaload, 1) := by decide +kernel
theorem dX12_way_170 : decode cX12_way 170 = .ok (.ireturn, 1) := by decide +kernel
noncomputable def st_way : Nat × List Int × gM → Option ((Nat × List Int × gM) ⊕ (Int × gM))
  | (0, [x1, x2, x3], M) => (if x3 < (M 711 0) then
      (if 0 ≤ x3 ∧ x3 < 120 then
        some (.inl (0, [x1, x2, (gw32 (x3 + 1))], (gU M 749 x3 (-1))))
      else none)
    else
      (if 0 ≤ x2 ∧ x2 < 120 then
        some (.inl (1, [x1, x2, x2], (gU M 749 x2 0)))
      else none))
  | (1, [x1, x2, x3], M) => (if x1 < x3 then
      some (.inl (2, [x1, x2, x3, 0], M))
    else
      (if x2 < x1 then
        some (.inr (-2, M))
      else
        (if 0 ≤ x1 ∧ x1 < 120 then
          (if (M 749 x1) = -1 then
            some (.inr (-2, M))
          else
            some (.inr ((M 749 x1), M)))
        else none)))
  | (2, [x1, x2, x3, x4], M) => (if 0 ≤ x3 ∧ x3 < 120 then
      (if x4 < (M 712 x3) then
        (if (M 749 x3) = -1 then
          some (.inl (1, [x1, x2, (gw32 (x3 + (-1)))], M))
        else
          (Option.bind (F_parentAt M x3 x4) (fun r83 =>
            (if 0 ≤ r83 ∧ r83 < 120 then
              (if (M 749 r83) = -1 then
                some (.inl (2, [x1, x2, x3, (gw32 (x4 + 1))], (gU M 749 r83 (gw32 ((M 749 x3) + (1 : Int))))))
              else
                (if (gw32 ((M 749 x3) + (1 : Int))) < (M 749 r83) then
                  some (.inl (2, [x1, x2, x3, (gw32 (x4 + 1))], (gU M 749 r83 (gw32 ((M 749 x3) + (1 : Int))))))
                else
                  some (.inl (2, [x1, x2, x3, (gw32 (x4 + 1))], M))))
            else none))))
      else
        some (.inl (1, [x1, x2, (gw32 (x3 + (-1)))], M)))
    else none)
  | _ => none
theorem sk_way_20 (k : Nat × List Int × gM → Option (Int × gM)) (M : gM) (x1 x2 x3 : Int) : gWk k (st_way (0, [x1, x2, x3], M)) = (if x3 < (M 711 0) then
    (if 0 ≤ x3 ∧ x3 < 120 then
      k (0, [x1, x2, (gw32 (x3 + 1))], (gU M 749 x3 (-1)))
    else none)
  else
    (if 0 ≤ x2 ∧ x2 < 120 then
      k (1, [x1, x2, x2], (gU M 749 x2 0))
    else none)) := by
  simp only [st_way, gWk_ite, gWk_bind, gWk_inl, gWk_inr, gWk_none]
theorem sk_way_50 (k : Nat × List Int × gM → Option (Int × gM)) (M : gM) (x1 x2 x3 : Int) : gWk k (st_way (1, [x1, x2, x3], M)) = (if x1 < x3 then
    k (2, [x1, x2, x3, 0], M)
  else
    (if x2 < x1 then
      some (-2, M)
    else
      (if 0 ≤ x1 ∧ x1 < 120 then
        (if (M 749 x1) = -1 then
          some (-2, M)
        else
          some ((M 749 x1), M))
      else none))) := by
  simp only [st_way, gWk_ite, gWk_bind, gWk_inl, gWk_inr, gWk_none]
theorem sk_way_58 (k : Nat × List Int × gM → Option (Int × gM)) (M : gM) (x1 x2 x3 x4 : Int) : gWk k (st_way (2, [x1, x2, x3, x4], M)) = (if 0 ≤ x3 ∧ x3 < 120 then
    (if x4 < (M 712 x3) then
      (if (M 749 x3) = -1 then
        k (1, [x1, x2, (gw32 (x3 + (-1)))], M)
      else
        (Option.bind (F_parentAt M x3 x4) (fun r83 =>
          (if 0 ≤ r83 ∧ r83 < 120 then
            (if (M 749 r83) = -1 then
              k (2, [x1, x2, x3, (gw32 (x4 + 1))], (gU M 749 r83 (gw32 ((M 749 x3) + (1 : Int)))))
            else
              (if (gw32 ((M 749 x3) + (1 : Int))) < (M 749 r83) then
                k (2, [x1, x2, x3, (gw32 (x4 + 1))], (gU M 749 r83 (gw32 ((M 749 x3) + (1 : Int)))))
              else
                k (2, [x1, x2, x3, (gw32 (x4 + 1))], M)))
          else none))))
    else
      k (1, [x1, x2, (gw32 (x3 + (-1)))], M))
  else none) := by
  simp only [st_way, gWk_ite, gWk_bind, gWk_inl, gWk_inr, gWk_none]
noncomputable def F_way_20 (M : gM) (x1 x2 x3 : Int) : Option (Int × gM) := gWh (st_way) (0, [x1, x2, x3], M)
noncomputable def F_way_50 (M : gM) (x1 x2 x3 : Int) : Option (Int × gM) := gWh (st_way) (1, [x1, x2, x3], M)
noncomputable def F_way_58 (M : gM) (x1 x2 x3 x4 : Int) : Option (Int × gM) := gWh (st_way) (2, [x1, x2, x3, x4], M)
theorem eq_way_20 (M : gM) (x1 x2 x3 : Int) : F_way_20 M x1 x2 x3 = (if x3 < (M 711 0) then
    (if 0 ≤ x3 ∧ x3 < 120 then
      F_way_20 (gU M 749 x3 (-1)) x1 x2 (gw32 (x3 + 1))
    else none)
  else
    (if 0 ≤ x2 ∧ x2 < 120 then
      F_way_50 (gU M 749 x2 0) x1 x2 x2
    else none)) := (gWh_eq _).trans (sk_way_20 _ M x1 x2 x3)
theorem eq_way_50 (M : gM) (x1 x2 x3 : Int) : F_way_50 M x1 x2 x3 = (if x1 < x3 then
    F_way_58 M x1 x2 x3 0
  else
    (if x2 < x1 then
      some (-2, M)
    else
      (if 0 ≤ x1 ∧ x1 < 120 then
        (if (M 749 x1) = -1 then
          some (-2, M)
        else
          some ((M 749 x1), M))
      else none))) := (gWh_eq _).trans (sk_way_50 _ M x1 x2 x3)
theorem eq_way_58 (M : gM) (x1 x2 x3 x4 : Int) : F_way_58 M x1 x2 x3 x4 = (if 0 ≤ x3 ∧ x3 < 120 then
    (if x4 < (M 712 x3) then
      (if (M 749 x3) = -1 then
        F_way_50 M x1 x2 (gw32 (x3 + (-1)))
      else
        (Option.bind (F_parentAt M x3 x4) (fun r83 =>
          (if 0 ≤ r83 ∧ r83 < 120 then
            (if (M 749 r83) = -1 then
              F_way_58 (gU M 749 r83 (gw32 ((M 749 x3) + (1 : Int)))) x1 x2 x3 (gw32 (x4 + 1))
            else
              (if (gw32 ((M 749 x3) + (1 : Int))) < (M 749 r83) then
                F_way_58 (gU M 749 r83 (gw32 ((M 749 x3) + (1 : Int)))) x1 x2 x3 (gw32 (x4 + 1))
              else
                F_way_58 M x1 x2 x3 (gw32 (x4 + 1))))
          else none))))
    else
      F_way_50 M x1 x2 (gw32 (x3 + (-1))))
  else none) := (gWh_eq _).trans (sk_way_58 _ M x1 x2 x3 x4)
noncomputable def F_way (M : gM) (a1 a2 : Int) : Option (Int × gM) := (Option.bind (F_isCommit M a1) (fun r2 =>
    (if r2 = 0 then
      some (-1, M)
    else
      (Option.bind (F_isCommit M a2) (fun r10 =>
        (if r10 = 0 then
          some (-1, M)
        else
          F_way_20 M a1 a2 0))))))
theorem eq_way (M : gM) (a1 a2 : Int) : F_way M a1 a2 = (Option.bind (F_isCommit M a1) (fun r2 =>
    (if r2 = 0 then
      some (-1, M)
    else
      (Option.bind (F_isCommit M a2) (fun r10 =>
        (if r10 = 0 then
          some (-1, M)
        else
          F_way_20 M a1 a2 0)))))) := rfl
theorem frp_way : ∀ (s : Nat × List Int × gM) (b : Int × gM), gWh (st_way) s = some b → (∀ (x1 x2 x3 : Int) (M : gM), s = (0, [x1, x2, x3], M) → gFr [749] [] M b.2) ∧ (∀ (x1 x2 x3 : Int) (M : gM), s = (1, [x1, x2, x3], M) → gFr [749] [] M b.2) ∧ (∀ (x1 x2 x3 x4 : Int) (M : gM), s = (2, [x1, x2, x3, x4], M) → gFr [749] [] M b.2) := by
  refine gWh_ind (fun k hk s b h => ⟨?_, ?_, ?_⟩)
  · rintro x1 x2 x3 M rfl
    rw [sk_way_20] at h
    rcases gI_or h with h | h
    · obtain ⟨g3, h⟩ := gI_gd h
      exact gFr_t (gFr_a (gFr_r [749] [] _) (.head _) (by decide)) ((hk _ _ h).1 _ _ _ _ rfl) (fun _ z => z) (fun _ z => z)
    · obtain ⟨g1, h⟩ := gI_gd h
      exact gFr_t (gFr_a (gFr_r [749] [] _) (.head _) (by decide)) ((hk _ _ h).2.1 _ _ _ _ rfl) (fun _ z => z) (fun _ z => z)
  · rintro x1 x2 x3 M rfl
    rw [sk_way_50] at h
    rcases gI_or h with h | h
    · exact gFr_t (gFr_r [749] [] _) ((hk _ _ h).2.2 _ _ _ _ _ rfl) (fun _ z => z) (fun _ z => z)
    · rcases gI_or h with h | h
      · rw [← Option.some.inj h]
        exact (gFr_r [749] [] _)
      · obtain ⟨g5, h⟩ := gI_gd h
        rcases gI_or h with h | h
        · rw [← Option.some.inj h]
          exact (gFr_r [749] [] _)
        · rw [← Option.some.inj h]
          exact (gFr_r [749] [] _)
  · rintro x1 x2 x3 x4 M rfl
    rw [sk_way_58] at h
    obtain ⟨g6, h⟩ := gI_gd h
    rcases gI_or h with h | h
    · rcases gI_or h with h | h
      · exact gFr_t (gFr_r [749] [] _) ((hk _ _ h).2.1 _ _ _ _ rfl) (fun _ z => z) (fun _ z => z)
      · obtain ⟨r83, e83, h⟩ := gI_bd h
        obtain ⟨g7, h⟩ := gI_gd h
        rcases gI_or h with h | h
        · exact gFr_t (gFr_a (gFr_r [749] [] _) (.head _) (by decide)) ((hk _ _ h).2.2 _ _ _ _ _ rfl) (fun _ z => z) (fun _ z => z)
        · rcases gI_or h with h | h
          · exact gFr_t (gFr_a (gFr_r [749] [] _) (.head _) (by decide)) ((hk _ _ h).2.2 _ _ _ _ _ rfl) (fun _ z => z) (fun _ z => z)
          · exact gFr_t (gFr_r [749] [] _) ((hk _ _ h).2.2 _ _ _ _ _ rfl) (fun _ z => z) (fun _ z => z)
    · exact gFr_t (gFr_r [749] [] _) ((hk _ _ h).2.1 _ _ _ _ rfl) (fun _ z => z) (fun _ z => z)
theorem fr_way_20 {M : gM} {x1 x2 x3 : Int} {b : Int × gM} (h : F_way_20 M x1 x2 x3 = some b) : gFr [749] [] M b.2 :=
  (frp_way _ _ h).1 _ _ _ _ rfl
theorem fr_way_50 {M : gM} {x1 x2 x3 : Int} {b : Int × gM} (h : F_way_50 M x1 x2 x3 = some b) : gFr [749] [] M b.2 :=
  (frp_way _ _ h).2.1 _ _ _ _ rfl
theorem fr_way_58 {M : gM} {x1 x2 x3 x4 : Int} {b : Int × gM} (h : F_way_58 M x1 x2 x3 x4 = some b) : gFr [749] [] M b.2 :=
  (frp_way _ _ h).2.2 _ _ _ _ _ rfl
theorem fr_way {M : gM} {a1 a2 : Int} {b : Int × gM} (h : F_way M a1 a2 = some b) : gFr [749] [] M b.2 := by
  rw [eq_way] at h
  obtain ⟨r2, e2, h⟩ := gI_bd h
  rcases gI_or h with h | h
  · rw [← Option.some.inj h]
    exact (gFr_r [749] [] _)
  · obtain ⟨r10, e10, h⟩ := gI_bd h
    rcases gI_or h with h | h
    · rw [← Option.some.inj h]
      exact (gFr_r [749] [] _)
    · exact gFr_t (gFr_r [749] [] _) (fr_way_20 h) (fun _ z => z) (fun _ z => z)
theorem okp_way {sh : gS} : ∀ (s : Nat × List Int × gM) (b : Int × gM), gWh (st_way) s = some b → (∀ (x1 x2 x3 : Int) (M : gM), s = (0, [x1, x2, x3], M) → gOK sh M → gA (gr 2 43) yX12_way cX12_way 6 (some (.int)) (gPq sh (some (0, b.1)) b.2) (0, 0) 20 [(4, 711), (0, x1), (0, x2), (0, x3), (9, 0), (9, 0)] [] sh M) ∧ (∀ (x1 x2 x3 : Int) (M : gM), s = (1, [x1, x2, x3], M) → gOK sh M → gA (gr 2 43) yX12_way cX12_way 6 (some (.int)) (gPq sh (some (0, b.1)) b.2) (0, 0) 50 [(4, 711), (0, x1), (0, x2), (0, x3), (9, 0), (9, 0)] [] sh M) ∧ (∀ (x1 x2 x3 x4 : Int) (M : gM), s = (2, [x1, x2, x3, x4], M) → gOK sh M → gA (gr 2 43) yX12_way cX12_way 6 (some (.int)) (gPq sh (some (0, b.1)) b.2) (0, 0) 58 [(4, 711), (0, x1), (0, x2), (0, x3), (0, x4), (9, 0)] [] sh M) := by
  refine gWh_ind (fun k hk s b h => ⟨?_, ?_, ?_⟩)
  · rintro x1 x2 x3 M rfl hOK
    rw [sk_way_20] at h
    refine g_iload_n (q0 := 21) (j := 3) rfl dX12_way_20 rfl ?_
    refine g_aload_n (q0 := 22) (j := 0) rfl dX12_way_21 rfl ?_
    refine g_getf (q0 := 25) (t := 0) (fi := 0) rfl rfl ff_X12_178 dX12_way_22 rfl (sh_711 hOK) ?_
    refine g_icmp_ge (q0 := 28) (tgt := 41) rfl dX12_way_25 (by decide) (fun h25 => ?_) (fun h25 => ?_)
    · replace h := gI_neg (Int.not_lt.mpr h25) h
      refine g_aload_n (q0 := 42) (j := 0) rfl dX12_way_41 rfl ?_
      refine g_getp (q0 := 45) (b := 749) rfl ff_X12_123 dX12_way_42 rfl hOK (by decide) (sh_711 hOK) rfl (by decide) ?_
      refine g_iload_n (q0 := 46) (j := 2) rfl dX12_way_45 rfl ?_
      refine g_iconst (q0 := 47) rfl dX12_way_46 (k := ?_)
      obtain ⟨g1, h⟩ := gI_gd h
      refine g_iast (q0 := 48) rfl dX12_way_47 (sh_749 hOK) g1.1 g1.2 ?_
      have hOK2 : gOK sh (gU M 749 x2 0) := gOK_i hOK (sh_749 hOK)
      refine g_iload_n (q0 := 49) (j := 2) rfl dX12_way_48 rfl ?_
      refine g_istore_n (q0 := 50) (j := 3) (lv2 := [_, _, _, _, _, _]) rfl dX12_way_49 (by decide) rfl rfl ?_
      exact (hk _ _ h).2.1 _ _ _ _ rfl hOK2
    · replace h := gI_pos h25 h
      refine g_aload_n (q0 := 29) (j := 0) rfl dX12_way_28 rfl ?_
      refine g_getp (q0 := 32) (b := 749) rfl ff_X12_123 dX12_way_29 rfl hOK (by decide) (sh_711 hOK) rfl (by decide) ?_
      refine g_iload_n (q0 := 33) (j := 3) rfl dX12_way_32 rfl ?_
      refine g_iconst (q0 := 34) rfl dX12_way_33 (k := ?_)
      obtain ⟨g3, h⟩ := gI_gd h
      refine g_iast (q0 := 35) rfl dX12_way_34 (sh_749 hOK) g3.1 g3.2 ?_
      have hOK4 : gOK sh (gU M 749 x3 (-1)) := gOK_i hOK (sh_749 hOK)
      refine g_iincw (q0 := 38) (lv2 := [_, _, _, _, _, _]) rfl dX12_way_35 rfl (by decide) rfl rfl ?_
      refine g_goto (tgt := 20) dX12_way_38 (by decide) ?_
      exact (hk _ _ h).1 _ _ _ _ rfl hOK4
  · rintro x1 x2 x3 M rfl hOK
    rw [sk_way_50] at h
    refine g_iload_n (q0 := 51) (j := 3) rfl dX12_way_50 rfl ?_
    refine g_iload_n (q0 := 52) (j := 1) rfl dX12_way_51 rfl ?_
    refine g_icmp_le (q0 := 55) (tgt := 144) rfl dX12_way_52 (by decide) (fun h52 => ?_) (fun h52 => ?_)
    · replace h := gI_neg (Int.not_lt.mpr h52) h
      refine g_iload_n (q0 := 145) (j := 1) rfl dX12_way_144 rfl ?_
      refine g_iload_n (q0 := 146) (j := 2) rfl dX12_way_145 rfl ?_
      refine g_icmp_gt (q0 := 149) (tgt := 159) rfl dX12_way_146 (by decide) (fun h146 => ?_) (fun h146 => ?_)
      · replace h := gI_pos h146 h
        refine g_bipush (q0 := 161) rfl dX12_way_159 (k := ?_)
        refine g_goto (tgt := 170) dX12_way_161 (by decide) ?_
        rw [← Option.some.inj h]
        refine g_ireturn dX12_way_170 rfl ⟨Nat.zero_le _, Nat.zero_le _⟩ ?_
        exact ⟨rfl, rfl, rfl⟩
      · replace h := gI_neg (Int.not_lt.mpr h146) h
        refine g_aload_n (q0 := 150) (j := 0) rfl dX12_way_149 rfl ?_
        refine g_getp (q0 := 153) (b := 749) rfl ff_X12_123 dX12_way_150 rfl hOK (by decide) (sh_711 hOK) rfl (by decide) ?_
        refine g_iload_n (q0 := 154) (j := 1) rfl dX12_way_153 rfl ?_
        obtain ⟨g5, h⟩ := gI_gd h
        refine g_iald (q0 := 155) rfl dX12_way_154 (sh_749 hOK) g5.1 g5.2 ?_
        refine g_iconst (q0 := 156) rfl dX12_way_155 (k := ?_)
        refine g_icmp_ne (q0 := 159) (tgt := 164) rfl dX12_way_156 (by decide) (fun h156 => ?_) (fun h156 => ?_)
        · replace h := gI_neg h156 h
          refine g_aload_n (q0 := 165) (j := 0) rfl dX12_way_164 rfl ?_
          refine g_getp (q0 := 168) (b := 749) rfl ff_X12_123 dX12_way_165 rfl hOK (by decide) (sh_711 hOK) rfl (by decide) ?_
          refine g_iload_n (q0 := 169) (j := 1) rfl dX12_way_168 rfl ?_
          refine g_iald (q0 := 170) rfl dX12_way_169 (sh_749 hOK) g5.1 g5.2 ?_
          rw [← Option.some.inj h]
          refine g_ireturn dX12_way_170 rfl ⟨Nat.zero_le _, Nat.zero_le _⟩ ?_
          exact ⟨rfl, rfl, rfl⟩
        · replace h := gI_pos h156 h
          refine g_bipush (q0 := 161) rfl dX12_way_159 (k := ?_)
          refine g_goto (tgt := 170) dX12_way_161 (by decide) ?_
          rw [← Option.some.inj h]
          refine g_ireturn dX12_way_170 rfl ⟨Nat.zero_le _, Nat.zero_le _⟩ ?_
          exact ⟨rfl, rfl, rfl⟩
    · replace h := gI_pos h52 h
      refine g_iconst (q0 := 56) rfl dX12_way_55 (k := ?_)
      refine g_istore (q0 := 58) (j := 4) (lv2 := [_, _, _, _, _, _]) rfl dX12_way_56 (by decide) rfl rfl ?_
      exact (hk _ _ h).2.2 _ _ _ _ _ rfl hOK
  · rintro x1 x2 x3 x4 M rfl hOK
    rw [sk_way_58] at h
    refine g_iload (q0 := 60) (j := 4) rfl dX12_way_58 rfl ?_
    refine g_aload_n (q0 := 61) (j := 0) rfl dX12_way_60 rfl ?_
    refine g_getp (q0 := 64) (b := 712) rfl ff_X12_7 dX12_way_61 rfl hOK (by decide) (sh_711 hOK) rfl (by decide) ?_
    refine g_iload_n (q0 := 65) (j := 3) rfl dX12_way_64 rfl ?_
    obtain ⟨g6, h⟩ := gI_gd h
    refine g_iald (q0 := 66) rfl dX12_way_65 (sh_712 hOK) g6.1 g6.2 ?_
    refine g_icmp_ge (q0 := 69) (tgt := 138) rfl dX12_way_66 (by decide) (fun h66 => ?_) (fun h66 => ?_)
    · replace h := gI_neg (Int.not_lt.mpr h66) h
      refine g_iincw (q0 := 141) (lv2 := [_, _, _, _, _, _]) rfl dX12_way_138 rfl (by decide) rfl rfl ?_
      refine g_goto (tgt := 50) dX12_way_141 (by decide) ?_
      refine gA_jk (lv1 := [_, _, _, _, (9, 0), (9, 0)]) ⟨.inl rfl, .inl rfl, .inl rfl, .inl rfl, .inr rfl, .inr rfl, trivial⟩ ?_
      exact (hk _ _ h).2.1 _ _ _ _ rfl hOK
    · replace h := gI_pos h66 h
      refine g_aload_n (q0 := 70) (j := 0) rfl dX12_way_69 rfl ?_
      refine g_getp (q0 := 73) (b := 749) rfl ff_X12_123 dX12_way_70 rfl hOK (by decide) (sh_711 hOK) rfl (by decide) ?_
      refine g_iload_n (q0 := 74) (j := 3) rfl dX12_way_73 rfl ?_
      refine g_iald (q0 := 75) rfl dX12_way_74 (sh_749 hOK) g6.1 g6.2 ?_
      refine g_iconst (q0 := 76) rfl dX12_way_75 (k := ?_)
      refine g_icmp_eq (q0 := 79) (tgt := 138) rfl dX12_way_76 (by decide) (fun h76 => ?_) (fun h76 => ?_)
      · replace h := gI_pos h76 h
        refine g_iincw (q0 := 141) (lv2 := [_, _, _, _, _, _]) rfl dX12_way_138 rfl (by decide) rfl rfl ?_
        refine g_goto (tgt := 50) dX12_way_141 (by decide) ?_
        refine gA_jk (lv1 := [_, _, _, _, (9, 0), (9, 0)]) ⟨.inl rfl, .inl rfl, .inl rfl, .inl rfl, .inr rfl, .inr rfl, trivial⟩ ?_
        exact (hk _ _ h).2.1 _ _ _ _ rfl hOK
      · replace h := gI_neg h76 h
        refine g_aload_n (q0 := 80) (j := 0) rfl dX12_way_79 rfl ?_
        refine g_iload_n (q0 := 81) (j := 3) rfl dX12_way_80 rfl ?_
        refine g_iload (q0 := 83) (j := 4) rfl dX12_way_81 rfl ?_
        obtain ⟨r83, e83, h⟩ := gI_bd h
        refine g_callVq1 (as := [_, _]) (rest := []) mt_X12_parentAt mi_X12_parentAt se_X12_parentAt ml_X12_192 dX12_way_83 (q0 := 86) rfl rfl (sh_711 hOK) rfl rfl (ok_parentAt hOK e83) rfl ⟨by decide, by decide⟩ (Nat.le_of_ble_eq_true rfl) ⟨Nat.zero_le _, Nat.zero_le _⟩ ?_
        refine g_istore (q0 := 88) (j := 5) (lv2 := [_, _, _, _, _, _]) rfl dX12_way_86 (by decide) rfl rfl ?_
        refine g_aload_n (q0 := 89) (j := 0) rfl dX12_way_88 rfl ?_
        refine g_getp (q0 := 92) (b := 749) rfl ff_X12_123 dX12_way_89 rfl hOK (by decide) (sh_711 hOK) rfl (by decide) ?_
        refine g_iload (q0 := 94) (j := 5) rfl dX12_way_92 rfl ?_
        obtain ⟨g7, h⟩ := gI_gd h
        refine g_iald (q0 := 95) rfl dX12_way_94 (sh_749 hOK) g7.1 g7.2 ?_
        refine g_iconst (q0 := 96) rfl dX12_way_95 (k := ?_)
        refine g_icmp_eq (q0 := 99) (tgt := 117) rfl dX12_way_96 (by decide) (fun h96 => ?_) (fun h96 => ?_)
        · replace h := gI_pos h96 h
          refine g_aload_n (q0 := 118) (j := 0) rfl dX12_way_117 rfl ?_
          refine g_getp (q0 := 121) (b := 749) rfl ff_X12_123 dX12_way_118 rfl hOK (by decide) (sh_711 hOK) rfl (by decide) ?_
          refine g_iload (q0 := 123) (j := 5) rfl dX12_way_121 rfl ?_
          refine g_aload_n (q0 := 124) (j := 0) rfl dX12_way_123 rfl ?_
          refine g_getp (q0 := 127) (b := 749) rfl ff_X12_123 dX12_way_124 rfl hOK (by decide) (sh_711 hOK) rfl (by decide) ?_
          refine g_iload_n (q0 := 128) (j := 3) rfl dX12_way_127 rfl ?_
          refine g_iald (q0 := 129) rfl dX12_way_128 (sh_749 hOK) g6.1 g6.2 ?_
          refine g_iconst (q0 := 130) rfl dX12_way_129 (k := ?_)
          refine g_iaddw (q0 := 131) rfl dX12_way_130 ?_
          refine g_iast (q0 := 132) rfl dX12_way_131 (sh_749 hOK) g7.1 g7.2 ?_
          have hOK8 : gOK sh (gU M 749 r83 (gw32 ((M 749 x3) + (1 : Int)))) := gOK_i hOK (sh_749 hOK)
          refine g_iincw (q0 := 135) (lv2 := [_, _, _, _, _, _]) rfl dX12_way_132 rfl (by decide) rfl rfl ?_
          refine g_goto (tgt := 58) dX12_way_135 (by decide) ?_
          refine gA_jk (lv1 := [_, _, _, _, _, (9, 0)]) ⟨.inl rfl, .inl rfl, .inl rfl, .inl rfl, .inl rfl, .inr rfl, trivial⟩ ?_
          exact (hk _ _ h).2.2 _ _ _ _ _ rfl hOK8
        · replace h := gI_neg h96 h
          refine g_aload_n (q0 := 100) (j := 0) rfl dX12_way_99 rfl ?_
          refine g_getp (q0 := 103) (b := 749) rfl ff_X12_123 dX12_way_100 rfl hOK (by decide) (sh_711 hOK) rfl (by decide) ?_
          refine g_iload (q0 := 105) (j := 5) rfl dX12_way_103 rfl ?_
          refine g_iald (q0 := 106) rfl dX12_way_105 (sh_749 hOK) g7.1 g7.2 ?_
          refine g_aload_n (q0 := 107) (j := 0) rfl dX12_way_106 rfl ?_
          refine g_getp (q0 := 110) (b := 749) rfl ff_X12_123 dX12_way_107 rfl hOK (by decide) (sh_711 hOK) rfl (by decide) ?_
          refine g_iload_n (q0 := 111) (j := 3) rfl dX12_way_110 rfl ?_
          refine g_iald (q0 := 112) rfl dX12_way_111 (sh_749 hOK) g6.1 g6.2 ?_
          refine g_iconst (q0 := 113) rfl dX12_way_112 (k := ?_)
          refine g_iaddw (q0 := 114) rfl dX12_way_113 ?_
          refine g_icmp_le (q0 := 117) (tgt := 132) rfl dX12_way_114 (by decide) (fun h114 => ?_) (fun h114 => ?_)
          · replace h := gI_neg (Int.not_lt.mpr h114) h
            refine g_iincw (q0 := 135) (lv2 := [_, _, _, _, _, _]) rfl dX12_way_132 rfl (by decide) rfl rfl ?_
            refine g_goto (tgt := 58) dX12_way_135 (by decide) ?_
            refine gA_jk (lv1 := [_, _, _, _, _, (9, 0)]) ⟨.inl rfl, .inl rfl, .inl rfl, .inl rfl, .inl rfl, .inr rfl, trivial⟩ ?_
            exact (hk _ _ h).2.2 _ _ _ _ _ rfl hOK
          · replace h := gI_pos h114 h
            refine g_aload_n (q0 := 118) (j := 0) rfl dX12_way_117 rfl ?_
            refine g_getp (q0 := 121) (b := 749) rfl ff_X12_123 dX12_way_118 rfl hOK (by decide) (sh_711 hOK) rfl (by decide) ?_
            refine g_iload (q0 := 123) (j := 5) rfl dX12_way_121 rfl ?_
            refine g_aload_n (q0 := 124) (j := 0) rfl dX12_way_123 rfl ?_
            refine g_getp (q0 := 127) (b := 749) rfl ff_X12_123 dX12_way_124 rfl hOK (by decide) (sh_711 hOK) rfl (by decide) ?_
            refine g_iload_n (q0 := 128) (j := 3) rfl dX12_way_127 rfl ?_
            refine g_iald (q0 := 129) rfl dX12_way_128 (sh_749 hOK) g6.1 g6.2 ?_
            refine g_iconst (q0 := 130) rfl dX12_way_129 (k := ?_)
            refine g_iaddw (q0 := 131) rfl dX12_way_130 ?_
            refine g_iast (q0 := 132) rfl dX12_way_131 (sh_749 hOK) g7.1 g7.2 ?_
            have hOK9 : gOK sh (gU M 749 r83 (gw32 ((M 749 x3) + (1 : Int)))) := gOK_i hOK (sh_749 hOK)
            refine g_iincw (q0 := 135) (lv2 := [_, _, _, _, _, _]) rfl dX12_way_132 rfl (by decide) rfl rfl ?_
            refine g_goto (tgt := 58) dX12_way_135 (by decide) ?_
            refine gA_jk (lv1 := [_, _, _, _, _, (9, 0)]) ⟨.inl rfl, .inl rfl, .inl rfl, .inl rfl, .inl rfl, .inr rfl, trivial⟩ ?_
            exact (hk _ _ h).2.2 _ _ _ _ _ rfl hOK9
theorem ok_way_20 {sh : gS} {M : gM} {x1 x2 x3 : Int} {b : Int × gM} (hOK : gOK sh M) (h : F_way_20 M x1 x2 x3 = some b) : gA (gr 2 43) yX12_way cX12_way 6 (some (.int)) (gPq sh (some (0, b.1)) b.2) (0, 0) 20 [(4, 711), (0, x1), (0, x2), (0, x3), (9, 0), (9, 0)] [] sh M :=
  (okp_way _ _ h).1 _ _ _ _ rfl hOK
theorem ok_way_50 {sh : gS} {M : gM} {x1 x2 x3 : Int} {b : Int × gM} (hOK : gOK sh M) (h : F_way_50 M x1 x2 x3 = some b) : gA (gr 2 43) yX12_way cX12_way 6 (some (.int)) (gPq sh (some (0, b.1)) b.2) (0, 0) 50 [(4, 711), (0, x1), (0, x2), (0, x3), (9, 0), (9, 0)] [] sh M :=
  (okp_way _ _ h).2.1 _ _ _ _ rfl hOK
theorem ok_way_58 {sh : gS} {M : gM} {x1 x2 x3 x4 : Int} {b : Int × gM} (hOK : gOK sh M) (h : F_way_58 M x1 x2 x3 x4 = some b) : gA (gr 2 43) yX12_way cX12_way 6 (some (.int)) (gPq sh (some (0, b.1)) b.2) (0, 0) 58 [(4, 711), (0, x1), (0, x2), (0, x3), (0, x4), (9, 0)] [] sh M :=
  (okp_way _ _ h).2.2 _ _ _ _ _ rfl hOK
theorem ok_way {sh : gS} {M : gM} {a1 a2 : Int} {b : Int × gM} (hOK : gOK sh M) (h : F_way M a1 a2 = some b) : gC (gr 2 43) yX12_way cX12_way 6 (some (.int)) [(4, 711), (0, a1), (0, a2)] sh M (gPq sh (some (0, b.1)) b.2) := by
  rw [eq_way] at h
  refine gC_ofA (lv := [_, _, _, _, _, _]) (by decide +kernel) (Nat.le_of_ble_eq_true rfl) rfl (fun hMw hav => ?_)
  refine g_aload_n (q0 := 1) (j := 0) rfl dX12_way_0 rfl ?_
  refine g_iload_n (q0 := 2) (j := 1) rfl dX12_way_1 rfl ?_
  obtain ⟨r2, e2, h⟩ := gI_bd h
  refine g_callVq1 (as := [_]) (rest := []) mt_X12_isCommit mi_X12_isCommit se_X12_isCommit ml_X12_229 dX12_way_2 (q0 := 5) rfl rfl (sh_711 hOK) rfl rfl (ok_isCommit hOK e2) rfl ⟨by decide, by decide⟩ (Nat.le_of_ble_eq_true rfl) ⟨Nat.zero_le _, Nat.zero_le _⟩ ?_
  refine g_if_eq (q0 := 8) (tgt := 16) rfl dX12_way_5 (by decide) (fun h5 => ?_) (fun h5 => ?_)
  · replace h := gI_pos h5 h
    refine g_iconst (q0 := 17) rfl dX12_way_16 (k := ?_)
    rw [← Option.some.inj h]
    refine g_ireturn dX12_way_17 rfl ⟨Nat.zero_le _, Nat.zero_le _⟩ ?_
    exact ⟨rfl, rfl, rfl⟩
  · replace h := gI_neg h5 h
    refine g_aload_n (q0 := 9) (j := 0) rfl dX12_way_8 rfl ?_
    refine g_iload_n (q0 := 10) (j := 2) rfl dX12_way_9 rfl ?_
    obtain ⟨r10, e10, h⟩ := gI_bd h
    refine g_callVq1 (as := [_]) (rest := []) mt_X12_isCommit mi_X12_isCommit se_X12_isCommit ml_X12_229 dX12_way_10 (q0 := 13) rfl rfl (sh_711 hOK) rfl rfl (ok_isCommit hOK e10) rfl ⟨by decide, by decide⟩ (Nat.le_of_ble_eq_true rfl) ⟨Nat.zero_le _, Nat.zero_le _⟩ ?_
    refine g_if_ne (q0 := 16) (tgt := 18) rfl dX12_way_13 (by decide) (fun h13 => ?_) (fun h13 => ?_)
    · replace h := gI_neg h13 h
      refine g_iconst (q0 := 19) rfl dX12_way_18 (k := ?_)
      refine g_istore_n (q0 := 20) (j := 3) (lv2 := [_, _, _, _, _, _]) rfl dX12_way_19 (by decide) rfl rfl ?_
      exact ok_way_20 hOK h
    · replace h := gI_pos h13 h
      refine g_iconst (q0 := 17) rfl dX12_way_16 (k := ?_)
      rw [← Option.some.inj h]
      refine g_ireturn dX12_way_17 rfl ⟨Nat.zero_le _, Nat.zero_le _⟩ ?_
      exact ⟨rfl, rfl, rfl⟩
-- ==== halving
theorem dX12_halving_0 : decode cX12_halving 0 = .ok (.aload_n 0, 1) := by decide +kernel
theorem dX12_halving_1 : decode cX12_halving 1 = .ok (.iload_n 1, 1) := by decide +kernel
theorem dX12_halving_2 : decode cX12_halving 2 = .ok (.invokevirtual 229, 3) := by decide +kernel
theorem dX12_halving_5 : decode cX12_halving 5 = .ok (.ifCond .eq 20, 3) := by decide +kernel
theorem dX12_halving_8 : decode cX12_halving 8 = .ok (.aload_n 0, 1) := by decide +kernel
theorem dX12_halving_9 : decode cX12_halving 9 = .ok (.iload_n 2, 1) := by decide +kernel
theorem dX12_halving_10 : decode cX12_halving 10 = .ok (.invokevirtual 229, 3) := by decide +kernel
theorem dX12_halving_13 : decode cX12_halving 13 = .ok (.ifCond .eq 12, 3) := by decide +kernel
theorem dX12_halving_16 : decode cX12_halving 16 = .ok (.iload_n 3, 1) := by decide +kernel
theorem dX12_halving_17 : decode cX12_halving 17 = .ok (.iconst 0, 1) := by decide +kernel
theorem dX12_halving_18 : decode cX12_halving 18 = .ok (.iconst 2, 1) := by decide +kernel
theorem dX12_halving_19 : decode cX12_halving 19 = .ok (.invokestatic 182, 3) := by decide +kernel
theorem dX12_halving_22 : decode cX12_halving 22 = .ok (.ifCond .ne 5, 3) := by decide +kernel
theorem dX12_halving_25 : decode cX12_halving 25 = .ok (.iconst (-1), 1) := by decide +kernel
theorem dX12_halving_26 : decode cX12_halving 26 = .ok (.ireturn, 1) := by decide +kernel
theorem dX12_halving_27 : decode cX12_halving 27 = .ok (.aload_n 0, 1) := by decide +kernel
theorem dX12_halving_28 : decode cX12_halving 28 = .ok (.iload_n 1, 1) := by decide +kernel
theorem dX12_halving_29 : decode cX12_halving 29 = .ok (.iload_n 2, 1) := by decide +kernel
theorem dX12_halving_30 : decode cX12_halving 30 = .ok (.iconst 0, 1) := by decide +kernel
theorem dX12_halving_31 : decode cX12_halving 31 = .ok (.invokevirtual 708, 3) := by decide +kernel
theorem dX12_halving_34 : decode cX12_halving 34 = .ok (.aload_n 0, 1) := by decide +kernel
theorem dX12_halving_35 : decode cX12_halving 35 = .ok (.getfield 117, 3) := by decide +kernel
theorem dX12_halving_38 : decode cX12_halving 38 = .ok (.invokestatic 236, 3) := by decide +kernel
theorem dX12_halving_41 : decode cX12_halving 41 = .ok (.istore 4, 2) := by decide +kernel
theorem dX12_halving_43 : decode cX12_halving 43 = .ok (.iload_n 3, 1) := by decide +kernel
theorem dX12_halving_44 : decode cX12_halving 44 = .ok (.ifCond .ne 6, 3) := by decide +kernel
theorem dX12_halving_47 : decode cX12_halving 47 = .ok (.iload 4, 2) := by decide +kernel
theorem dX12_halving_49 : decode cX12_halving 49 = .ok (.ireturn, 1) := by decide +kernel
theorem dX12_halving_50 : decode cX12_halving 50 = .ok (.iconst (-1), 1) := by decide +kernel
theorem dX12_halving_51 : decode cX12_halving 51 = .ok (.istore 5, 2) := by decide +kernel
theorem dX12_halving_53 : decode cX12_halving 53 = .ok (.iconst 0, 1) := by decide +kernel
theorem dX12_halving_54 : decode cX12_halving 54 = .ok (.istore 6, 2) := by decide +kernel
theorem dX12_halving_56 : decode cX12_halving 56 = .ok (.iconst (-1), 1) := by decide +kernel
theorem dX12_halving_57 : decode cX12_halving 57 = .ok (.istore 7, 2) := by decide +kernel
theorem dX12_halving_59 : decode cX12_halving 59 = .ok (.iconst 0, 1) := by decide +kernel
theorem dX12_halving_60 : decode cX12_halving 60 = .ok (.istore 8, 2) := by decide +kernel
theorem dX12_halving_62 : decode cX12_halving 62 = .ok (.iload 8, 2) := by decide +kernel
theorem dX12_halving_64 : decode cX12_halving 64 = .ok (.aload_n 0, 1) := by decide +kernel
theorem dX12_halving_65 : decode cX12_halving 65 = .ok (.getfield 178, 3) := by decide +kernel
theorem dX12_halving_68 : decode cX12_halving 68 = .ok (.if_icmp .ge 108, 3) := by decide +kernel
theorem dX12_halving_71 : decode cX12_halving 71 = .ok (.aload_n 0, 1) := by decide +kernel
theorem dX12_halving_72 : decode cX12_halving 72 = .ok (.getfield 117, 3) := by decide +kernel
theorem dX12_halving_75 : decode cX12_halving 75 = .ok (.iload 8, 2) := by decide +kernel
theorem dX12_halving_77 : decode cX12_halving 77 = .ok (.baload, 1) := by decide +kernel
theorem dX12_halving_78 : decode cX12_halving 78 = .ok (.ifCond .ne 6, 3) := by decide +kernel
theorem dX12_halving_81 : decode cX12_halving 81 = .ok (.goto 89, 3) := by decide +kernel
theorem dX12_halving_84 : decode cX12_halving 84 = .ok (.aload_n 0, 1) := by decide +kernel
theorem dX12_halving_85 : decode cX12_halving 85 = .ok (.aload_n 0, 1) := by decide +kernel
theorem dX12_halving_86 : decode cX12_halving 86 = .ok (.getfield 43, 3) := by decide +kernel
theorem dX12_halving_89 : decode cX12_halving 89 = .ok (.iload 8, 2) := by decide +kernel
theorem dX12_halving_91 : decode cX12_halving 91 = .ok (.invokevirtual 213, 3) := by decide +kernel
theorem dX12_halving_94 : decode cX12_halving 94 = .ok (.iconst 0, 1) := by decide +kernel
theorem dX12_halving_95 : decode cX12_halving 95 = .ok (.istore 9, 2) := by decide +kernel
theorem dX12_halving_97 : decode cX12_halving 97 = .ok (.iconst 0, 1) := by decide +kernel
theorem dX12_halving_98 : decode cX12_halving 98 = .ok (.istore 10, 2) := by decide +kernel
theorem dX12_halving_100 : decode cX12_halving 100 = .ok (.iload 10, 2) := by decide +kernel
theorem dX12_halving_102 : decode cX12_halving 102 = .ok (.iload 8, 2) := by decide +kernel
theorem dX12_halving_104 : decode cX12_halving 104 = .ok (.if_icmp .gt 35, 3) := by decide +kernel
theorem dX12_halving_107 : decode cX12_halving 107 = .ok (.aload_n 0, 1) := by decide +kernel
theorem dX12_halving_108 : decode cX12_halving 108 = .ok (.getfield 43, 3) := by decide +kernel
theorem dX12_halving_111 : decode cX12_halving 111 = .ok (.iload 10, 2) := by decide +kernel
theorem dX12_halving_113 : decode cX12_halving 113 = .ok (.baload, 1) := by decide +kernel
theorem dX12_halving_114 : decode cX12_halving 114 = .ok (.ifCond .eq 19, 3) := by decide +kernel
theorem dX12_halving_117 : decode cX12_halving 117 = .ok (.aload_n 0, 1) := by decide +kernel
theorem dX12_halving_118 : decode cX12_halving 118 = .ok (.getfield 117, 3) := by decide +kernel
theorem dX12_halving_121 : decode cX12_halving 121 = .ok (.iload 10, 2) := by decide +kernel
theorem dX12_halving_123 : decode cX12_halving 123 = .ok (.baload, 1) := by decide +kernel
theorem dX12_halving_124 : decode cX12_halving 124 = .ok (.ifCond .eq 9, 3) := by decide +kernel
theorem dX12_halving_127 : decode cX12_halving 127 = .ok (.iload 9, 2) := by decide +kernel
theorem dX12_halving_129 : decode cX12_halving 129 = .ok (.iconst 1, 1) := by decide +kernel
theorem dX12_halving_130 : decode cX12_halving 130 = .ok (.iadd, 1) := by decide +kernel
theorem dX12_halving_131 : decode cX12_halving 131 = .ok (.istore 9, 2) := by decide +kernel
theorem dX12_halving_133 : decode cX12_halving 133 = .ok (.iinc 10 1, 3) := by decide +kernel
theorem dX12_halving_136 : decode cX12_halving 136 = .ok (.goto (-36), 3) := by decide +kernel
theorem dX12_halving_139 : decode cX12_halving 139 = .ok (.iload 9, 2) := by decide +kernel
theorem dX12_halving_141 : decode cX12_halving 141 = .ok (.iload 4, 2) := by decide +kernel
theorem dX12_halving_143 : decode cX12_halving 143 = .ok (.iload 9, 2) := by decide +kernel
theorem dX12_halving_145 : decode cX12_halving 145 = .ok (.isub, 1) := by decide +kernel
theorem dX12_halving_146 : decode cX12_halving 146 = .ok (.invokestatic 558, 3) := by decide +kernel
theorem dX12_halving_149 : decode cX12_halving 149 = .ok (.istore 10, 2) := by decide +kernel
theorem dX12_halving_151 : decode cX12_halving 151 = .ok (.iload 10, 2) := by decide +kernel
theorem dX12_halving_153 : decode cX12_halving 153 = .ok (.iload 7, 2) := by decide +kernel
theorem dX12_halving_155 : decode cX12_halving 155 = .ok (.if_icmp .le 15, 3) := by decide +kernel
theorem dX12_halving_158 : decode cX12_halving 158 = .ok (.iload 10, 2) := by decide +kernel
theorem dX12_halving_160 : decode cX12_halving 160 = .ok (.istore 7, 2) := by decide +kernel
theorem dX12_halving_162 : decode cX12_halving 162 = .ok (.iload 8, 2) := by decide +kernel
theorem dX12_halving_164 : decode cX12_halving 164 = .ok (.istore 5, 2) := by decide +kernel
theorem dX12_halving_166 : decode cX12_halving 166 = .ok (.iload 9, 2) := by decide +kernel
theorem dX12_halving_168 : decode cX12_halving 168 = .ok (.istore 6, 2) := by decide +kernel
theorem dX12_halving_170 : decode cX12_halving 170 = .ok (.iinc 8 1, 3) := by decide +kernel
theorem dX12_halving_173 : decode cX12_halving 173 = .ok (.goto (-111), 3) := by decide +kernel
theorem dX12_halving_176 : decode cX12_halving 176 = .ok (.iload 5, 2) := by decide +kernel
theorem dX12_halving_178 : decode cX12_halving 178 = .ok (.iconst (-1), 1) := by decide +kernel
theorem dX12_halving_179 : decode cX12_halving 179 = .ok (.if_icmp .ne 8, 3) := by decide +kernel
theorem dX12_halving_182 : decode cX12_halving 182 = .ok (.bipush (-2), 2) := by decide +kernel
theorem dX12_halving_184 : decode cX12_halving 184 = .ok (.goto 15, 3) := by decide +kernel
theorem dX12_halving_187 : decode cX12_halving 187 = .ok (.iload_n 3, 1) := by decide +kernel
theorem dX12_halving_188 : decode cX12_halving 188 = .ok (.iconst 1, 1) := by decide +kernel
theorem dX12_halving_189 : decode cX12_halving 189 = .ok (.if_icmp .ne 8, 3) := by decide +kernel
theorem dX12_halving_192 : decode cX12_halving 192 = .ok (.iload 5, 2) := by decide +kernel
theorem dX12_halving_194 : decode cX12_halving 194 = .ok (.goto 5, 3) := by decide +kernel
theorem dX12_halving_197 : decode cX12_halving 197 = .ok (.iload 6, 2) := by decide +kernel
theorem dX12_halving_199 : decode cX12_halving 199 = .ok (.ireturn, 1) := by decide +kernel
noncomputable def st_halving : Nat × List Int × gM → Option ((Nat × List Int × gM) ⊕ (Int × gM))
  | (0, [x1, x2, x3, x4, x5, x6, x7, x8], M) => (if x8 < (M 711 0) then
      (if 0 ≤ x8 ∧ x8 < 120 then
        (if (M 747 x8) = 0 then
          some (.inl (0, [x1, x2, x3, x4, x5, x6, x7, (gw32 (x8 + 1))], M))
        else
          (Option.bind (F_marksWithAncestors M 723 x8) (fun m91 =>
            some (.inl (1, [x1, x2, x3, x4, x5, x6, x7, x8, 0, 0], m91)))))
      else none)
    else
      (if x5 = -1 then
        some (.inr (-2, M))
      else
        (if x3 = 1 then
          some (.inr (x5, M))
        else
          some (.inr (x6, M)))))
  | (1, [x1, x2, x3, x4, x5, x6, x7, x8, x9, x10], M) => (if x8 < x10 then
      (Option.bind (F_min x9 (gw32 (x4 - x9))) (fun r146 =>
        (if x7 < r146 then
          some (.inl (0, [x1, x2, x3, x4, x8, x9, r146, (gw32 (x8 + 1))], M))
        else
          some (.inl (0, [x1, x2, x3, x4, x5, x6, x7, (gw32 (x8 + 1))], M)))))
    else
      (if 0 ≤ x10 ∧ x10 < 120 then
        (if (M 723 x10) = 0 then
          some (.inl (1, [x1, x2, x3, x4, x5, x6, x7, x8, x9, (gw32 (x10 + 1))], M))
        else
          (if (M 747 x10) = 0 then
            some (.inl (1, [x1, x2, x3, x4, x5, x6, x7, x8, x9, (gw32 (x10 + 1))], M))
          else
            some (.inl (1, [x1, x2, x3, x4, x5, x6, x7, x8, (gw32 (x9 + (1 : Int))), (gw32 (x10 + 1))], M))))
      else none))
  | _ => none
theorem sk_halving_62 (k : Nat × List Int × gM → Option (Int × gM)) (M : gM) (x1 x2 x3 x4 x5 x6 x7 x8 : Int) : gWk k (st_halving (0, [x1, x2, x3, x4, x5, x6, x7, x8], M)) = (if x8 < (M 711 0) then
    (if 0 ≤ x8 ∧ x8 < 120 then
      (if (M 747 x8) = 0 then
        k (0, [x1, x2, x3, x4, x5, x6, x7, (gw32 (x8 + 1))], M)
      else
        (Option.bind (F_marksWithAncestors M 723 x8) (fun m91 =>
          k (1, [x1, x2, x3, x4, x5, x6, x7, x8, 0, 0], m91))))
    else none)
  else
    (if x5 = -1 then
      some (-2, M)
    else
      (if x3 = 1 then
        some (x5, M)
      else
        some (x6, M)))) := by
  simp only [st_halving, gWk_ite, gWk_bind, gWk_inl, gWk_inr, gWk_none]
theorem sk_halving_100 (k : Nat × List Int × gM → Option (Int × gM)) (M : gM) (x1 x2 x3 x4 x5 x6 x7 x8 x9 x10 : Int) : gWk k (st_halving (1, [x1, x2, x3, x4, x5, x6, x7, x8, x9, x10], M)) = (if x8 < x10 then
    (Option.bind (F_min x9 (gw32 (x4 - x9))) (fun r146 =>
      (if x7 < r146 then
        k (0, [x1, x2, x3, x4, x8, x9, r146, (gw32 (x8 + 1))], M)
      else
        k (0, [x1, x2, x3, x4, x5, x6, x7, (gw32 (x8 + 1))], M))))
  else
    (if 0 ≤ x10 ∧ x10 < 120 then
      (if (M 723 x10) = 0 then
        k (1, [x1, x2, x3, x4, x5, x6, x7, x8, x9, (gw32 (x10 + 1))], M)
      else
        (if (M 747 x10) = 0 then
          k (1, [x1, x2, x3, x4, x5, x6, x7, x8, x9, (gw32 (x10 + 1))], M)
        else
          k (1, [x1, x2, x3, x4, x5, x6, x7, x8, (gw32 (x9 + (1 : Int))), (gw32 (x10 + 1))], M)))
    else none)) := by
  simp only [st_halving, gWk_ite, gWk_bind, gWk_inl, gWk_inr, gWk_none]
noncomputable def F_halving_62 (M : gM) (x1 x2 x3 x4 x5 x6 x7 x8 : Int) : Option (Int × gM) := gWh (st_halving) (0, [x1, x2, x3, x4, x5, x6, x7, x8], M)
noncomputable def F_halving_100 (M : gM) (x1 x2 x3 x4 x5 x6 x7 x8 x9 x10 : Int) : Option (Int × gM) := gWh (st_halving) (1, [x1, x2, x3, x4, x5, x6, x7, x8, x9, x10], M)
theorem eq_halving_62 (M : gM) (x1 x2 x3 x4 x5 x6 x7 x8 : Int) : F_halving_62 M x1 x2 x3 x4 x5 x6 x7 x8 = (if x8 < (M 711 0) then
    (if 0 ≤ x8 ∧ x8 < 120 then
      (if (M 747 x8) = 0 then
        F_halving_62 M x1 x2 x3 x4 x5 x6 x7 (gw32 (x8 + 1))
      else
        (Option.bind (F_marksWithAncestors M 723 x8) (fun m91 =>
          F_halving_100 m91 x1 x2 x3 x4 x5 x6 x7 x8 0 0)))
    else none)
  else
    (if x5 = -1 then
      some (-2, M)
    else
      (if x3 = 1 then
        some (x5, M)
      else
        some (x6, M)))) := (gWh_eq _).trans (sk_halving_62 _ M x1 x2 x3 x4 x5 x6 x7 x8)
theorem eq_halving_100 (M : gM) (x1 x2 x3 x4 x5 x6 x7 x8 x9 x10 : Int) : F_halving_100 M x1 x2 x3 x4 x5 x6 x7 x8 x9 x10 = (if x8 < x10 then
    (Option.bind (F_min x9 (gw32 (x4 - x9))) (fun r146 =>
      (if x7 < r146 then
        F_halving_62 M x1 x2 x3 x4 x8 x9 r146 (gw32 (x8 + 1))
      else
        F_halving_62 M x1 x2 x3 x4 x5 x6 x7 (gw32 (x8 + 1)))))
  else
    (if 0 ≤ x10 ∧ x10 < 120 then
      (if (M 723 x10) = 0 then
        F_halving_100 M x1 x2 x3 x4 x5 x6 x7 x8 x9 (gw32 (x10 + 1))
      else
        (if (M 747 x10) = 0 then
          F_halving_100 M x1 x2 x3 x4 x5 x6 x7 x8 x9 (gw32 (x10 + 1))
        else
          F_halving_100 M x1 x2 x3 x4 x5 x6 x7 x8 (gw32 (x9 + (1 : Int))) (gw32 (x10 + 1))))
    else none)) := (gWh_eq _).trans (sk_halving_100 _ M x1 x2 x3 x4 x5 x6 x7 x8 x9 x10)
noncomputable def F_halving (M : gM) (a1 a2 a3 : Int) : Option (Int × gM) := (Option.bind (F_isCommit M a1) (fun r2 =>
    (if r2 = 0 then
      some (-1, M)
    else
      (Option.bind (F_isCommit M a2) (fun r10 =>
        (if r10 = 0 then
          some (-1, M)
        else
          (Option.bind (F_in a3 0 2) (fun r19 =>
            (if r19 = 0 then
              some (-1, M)
            else
              (Option.bind (F_marksOf M a1 a2 0) (fun m31 =>
                (Option.bind (F_sizeOf m31 747) (fun r38 =>
                  (if a3 = 0 then
                    some (r38, m31)
                  else
                    F_halving_62 m31 a1 a2 a3 r38 (-1) 0 (-1) 0))))))))))))))
theorem eq_halving (M : gM) (a1 a2 a3 : Int) : F_halving M a1 a2 a3 = (Option.bind (F_isCommit M a1) (fun r2 =>
    (if r2 = 0 then
      some (-1, M)
    else
      (Option.bind (F_isCommit M a2) (fun r10 =>
        (if r10 = 0 then
          some (-1, M)
        else
          (Option.bind (F_in a3 0 2) (fun r19 =>
            (if r19 = 0 then
              some (-1, M)
            else
              (Option.bind (F_marksOf M a1 a2 0) (fun m31 =>
                (Option.bind (F_sizeOf m31 747) (fun r38 =>
                  (if a3 = 0 then
                    some (r38, m31)
                  else
                    F_halving_62 m31 a1 a2 a3 r38 (-1) 0 (-1) 0)))))))))))))) := rfl
theorem frp_halving : ∀ (s : Nat × List Int × gM) (b : Int × gM), gWh (st_halving) s = some b → (∀ (x1 x2 x3 x4 x5 x6 x7 x8 : Int) (M : gM), s = (0, [x1, x2, x3, x4, x5, x6, x7, x8], M) → gFr [723, 747, 748] [] M b.2) ∧ (∀ (x1 x2 x3 x4 x5 x6 x7 x8 x9 x10 : Int) (M : gM), s = (1, [x1, x2, x3, x4, x5, x6, x7, x8, x9, x10], M) → gFr [723, 747, 748] [] M b.2) := by
  refine gWh_ind (fun k hk s b h => ⟨?_, ?_⟩)
  · rintro x1 x2 x3 x4 x5 x6 x7 x8 M rfl
    rw [sk_halving_62] at h
    rcases gI_or h with h | h
    · obtain ⟨g1, h⟩ := gI_gd h
      rcases gI_or h with h | h
      · exact gFr_t (gFr_r [723, 747, 748] [] _) ((hk _ _ h).1 _ _ _ _ _ _ _ _ _ rfl) (fun _ z => z) (fun _ z => z)
      · obtain ⟨m91, e91, h⟩ := gI_bd h
        exact gFr_t (gFr_t (gFr_r [723, 747, 748] [] _) (fr_marksWithAncestors (b := m91) e91) (by first | decide | simp) (by decide)) ((hk _ _ h).2 _ _ _ _ _ _ _ _ _ _ _ rfl) (fun _ z => z) (fun _ z => z)
    · rcases gI_or h with h | h
      · rw [← Option.some.inj h]
        exact (gFr_r [723, 747, 748] [] _)
      · rcases gI_or h with h | h
        · rw [← Option.some.inj h]
          exact (gFr_r [723, 747, 748] [] _)
        · rw [← Option.some.inj h]
          exact (gFr_r [723, 747, 748] [] _)
  · rintro x1 x2 x3 x4 x5 x6 x7 x8 x9 x10 M rfl
    rw [sk_halving_100] at h
    rcases gI_or h with h | h
    · obtain ⟨r146, e146, h⟩ := gI_bd h
      rcases gI_or h with h | h
      · exact gFr_t (gFr_r [723, 747, 748] [] _) ((hk _ _ h).1 _ _ _ _ _ _ _ _ _ rfl) (fun _ z => z) (fun _ z => z)
      · exact gFr_t (gFr_r [723, 747, 748] [] _) ((hk _ _ h).1 _ _ _ _ _ _ _ _ _ rfl) (fun _ z => z) (fun _ z => z)
    · obtain ⟨g3, h⟩ := gI_gd h
      rcases gI_or h with h | h
      · exact gFr_t (gFr_r [723, 747, 748] [] _) ((hk _ _ h).2 _ _ _ _ _ _ _ _ _ _ _ rfl) (fun _ z => z) (fun _ z => z)
      · rcases gI_or h with h | h
        · exact gFr_t (gFr_r [723, 747, 748] [] _) ((hk _ _ h).2 _ _ _ _ _ _ _ _ _ _ _ rfl) (fun _ z => z) (fun _ z => z)
        · exact gFr_t (gFr_r [723, 747, 748] [] _) ((hk _ _ h).2 _ _ _ _ _ _ _ _ _ _ _ rfl) (fun _ z => z) (fun _ z => z)
theorem fr_halving_62 {M : gM} {x1 x2 x3 x4 x5 x6 x7 x8 : Int} {b : Int × gM} (h : F_halving_62 M x1 x2 x3 x4 x5 x6 x7 x8 = some b) : gFr [723, 747, 748] [] M b.2 :=
  (frp_halving _ _ h).1 _ _ _ _ _ _ _ _ _ rfl
theorem fr_halving_100 {M : gM} {x1 x2 x3 x4 x5 x6 x7 x8 x9 x10 : Int} {b : Int × gM} (h : F_halving_100 M x1 x2 x3 x4 x5 x6 x7 x8 x9 x10 = some b) : gFr [723, 747, 748] [] M b.2 :=
  (frp_halving _ _ h).2 _ _ _ _ _ _ _ _ _ _ _ rfl
theorem fr_halving {M : gM} {a1 a2 a3 : Int} {b : Int × gM} (h : F_halving M a1 a2 a3 = some b) : gFr [723, 747, 748] [] M b.2 := by
  rw [eq_halving] at h
  obtain ⟨r2, e2, h⟩ := gI_bd h
  rcases gI_or h with h | h
  · rw [← Option.some.inj h]
    exact (gFr_r [723, 747, 748] [] _)
  · obtain ⟨r10, e10, h⟩ := gI_bd h
    rcases gI_or h with h | h
    · rw [← Option.some.inj h]
      exact (gFr_r [723, 747, 748] [] _)
    · obtain ⟨r19, e19, h⟩ := gI_bd h
      rcases gI_or h with h | h
      · rw [← Option.some.inj h]
        exact (gFr_r [723, 747, 748] [] _)
      · obtain ⟨m31, e31, h⟩ := gI_bd h
        obtain ⟨r38, e38, h⟩ := gI_bd h
        rcases gI_or h with h | h
        · rw [← Option.some.inj h]
          exact (gFr_t (gFr_r [723, 747, 748] [] _) (fr_marksOf (b := m31) e31) (by first | decide | simp) (by decide))
        · exact gFr_t (gFr_t (gFr_r [723, 747, 748] [] _) (fr_marksOf (b := m31) e31) (by first | decide | simp) (by decide)) (fr_halving_62 h) (fun _ z => z) (fun _ z => z)
theorem okp_halving {sh : gS} : ∀ (s : Nat × List Int × gM) (b : Int × gM), gWh (st_halving) s = some b → (∀ (x1 x2 x3 x4 x5 x6 x7 x8 : Int) (M : gM), s = (0, [x1, x2, x3, x4, x5, x6, x7, x8], M) → gOK sh M → gA (gr 4 91) yX12_halving cX12_halving 11 (some (.int)) (gPq sh (some (0, b.1)) b.2) (0, 0) 62 [(4, 711), (0, x1), (0, x2), (0, x3), (0, x4), (0, x5), (0, x6), (0, x7), (0, x8), (9, 0), (9, 0)] [] sh M) ∧ (∀ (x1 x2 x3 x4 x5 x6 x7 x8 x9 x10 : Int) (M : gM), s = (1, [x1, x2, x3, x4, x5, x6, x7, x8, x9, x10], M) → gOK sh M → gA (gr 4 91) yX12_halving cX12_halving 11 (some (.int)) (gPq sh (some (0, b.1)) b.2) (0, 0) 100 [(4, 711), (0, x1), (0, x2), (0, x3), (0, x4), (0, x5), (0, x6), (0, x7), (0, x8), (0, x9), (0, x10)] [] sh M) := by
  refine gWh_ind (fun k hk s b h => ⟨?_, ?_⟩)
  · rintro x1 x2 x3 x4 x5 x6 x7 x8 M rfl hOK
    rw [sk_halving_62] at h
    refine g_iload (q0 := 64) (j := 8) rfl dX12_halving_62 rfl ?_
    refine g_aload_n (q0 := 65) (j := 0) rfl dX12_halving_64 rfl ?_
    refine g_getf (q0 := 68) (t := 0) (fi := 0) rfl rfl ff_X12_178 dX12_halving_65 rfl (sh_711 hOK) ?_
    refine g_icmp_ge (q0 := 71) (tgt := 176) rfl dX12_halving_68 (by decide) (fun h68 => ?_) (fun h68 => ?_)
    · replace h := gI_neg (Int.not_lt.mpr h68) h
      refine g_iload (q0 := 178) (j := 5) rfl dX12_halving_176 rfl ?_
      refine g_iconst (q0 := 179) rfl dX12_halving_178 (k := ?_)
      refine g_icmp_ne (q0 := 182) (tgt := 187) rfl dX12_halving_179 (by decide) (fun h179 => ?_) (fun h179 => ?_)
      · replace h := gI_neg h179 h
        refine g_iload_n (q0 := 188) (j := 3) rfl dX12_halving_187 rfl ?_
        refine g_iconst (q0 := 189) rfl dX12_halving_188 (k := ?_)
        refine g_icmp_ne (q0 := 192) (tgt := 197) rfl dX12_halving_189 (by decide) (fun h189 => ?_) (fun h189 => ?_)
        · replace h := gI_neg h189 h
          refine g_iload (q0 := 199) (j := 6) rfl dX12_halving_197 rfl ?_
          rw [← Option.some.inj h]
          refine g_ireturn dX12_halving_199 rfl ⟨Nat.zero_le _, Nat.zero_le _⟩ ?_
          exact ⟨rfl, rfl, rfl⟩
        · replace h := gI_pos h189 h
          refine g_iload (q0 := 194) (j := 5) rfl dX12_halving_192 rfl ?_
          refine g_goto (tgt := 199) dX12_halving_194 (by decide) ?_
          rw [← Option.some.inj h]
          refine g_ireturn dX12_halving_199 rfl ⟨Nat.zero_le _, Nat.zero_le _⟩ ?_
          exact ⟨rfl, rfl, rfl⟩
      · replace h := gI_pos h179 h
        refine g_bipush (q0 := 184) rfl dX12_halving_182 (k := ?_)
        refine g_goto (tgt := 199) dX12_halving_184 (by decide) ?_
        rw [← Option.some.inj h]
        refine g_ireturn dX12_halving_199 rfl ⟨Nat.zero_le _, Nat.zero_le _⟩ ?_
        exact ⟨rfl, rfl, rfl⟩
    · replace h := gI_pos h68 h
      refine g_aload_n (q0 := 72) (j := 0) rfl dX12_halving_71 rfl ?_
      refine g_getp (q0 := 75) (b := 747) rfl ff_X12_117 dX12_halving_72 rfl hOK (by decide) (sh_711 hOK) rfl (by decide) ?_
      refine g_iload (q0 := 77) (j := 8) rfl dX12_halving_75 rfl ?_
      obtain ⟨g1, h⟩ := gI_gd h
      refine g_zald (q0 := 78) rfl dX12_halving_77 (sh_747 hOK) g1.1 g1.2 ?_
      refine g_if_ne (q0 := 81) (tgt := 84) rfl dX12_halving_78 (by decide) (fun h78 => ?_) (fun h78 => ?_)
      · replace h := gI_neg h78 h
        refine g_aload_n (q0 := 85) (j := 0) rfl dX12_halving_84 rfl ?_
        refine g_aload_n (q0 := 86) (j := 0) rfl dX12_halving_85 rfl ?_
        refine g_getp (q0 := 89) (b := 723) rfl ff_X12_43 dX12_halving_86 rfl hOK (by decide) (sh_711 hOK) rfl (by decide) ?_
        refine g_iload (q0 := 91) (j := 8) rfl dX12_halving_89 rfl ?_
        obtain ⟨m91, e91, h⟩ := gI_bd h
        refine g_callVq0 (as := [_, _]) (rest := []) mt_X12_marksWithAncestors mi_X12_marksWithAncestors se_X12_marksWithAncestors ml_X12_213 dX12_halving_91 (q0 := 94) rfl rfl (sh_711 hOK) rfl rfl (ok_marksWithAncestors hOK e91) rfl ⟨by decide, by decide⟩ (Nat.le_of_ble_eq_true rfl) ⟨Nat.zero_le _, Nat.zero_le _⟩ ?_
        have hOK2 : gOK sh m91 := gOK_fr hOK (fr_marksWithAncestors (b := m91) e91) (by first | decide | (intro a ha; simp only [List.mem_cons, List.not_mem_nil, or_false] at ha; omega)) (by decide)
        refine g_iconst (q0 := 95) rfl dX12_halving_94 (k := ?_)
        refine g_istore (q0 := 97) (j := 9) (lv2 := [_, _, _, _, _, _, _, _, _, _, _]) rfl dX12_halving_95 (by decide) rfl rfl ?_
        refine g_iconst (q0 := 98) rfl dX12_halving_97 (k := ?_)
        refine g_istore (q0 := 100) (j := 10) (lv2 := [_, _, _, _, _, _, _, _, _, _, _]) rfl dX12_halving_98 (by decide) rfl rfl ?_
        exact (hk _ _ h).2 _ _ _ _ _ _ _ _ _ _ _ rfl hOK2
      · replace h := gI_pos h78 h
        refine g_goto (tgt := 170) dX12_halving_81 (by decide) ?_
        refine g_iincw (q0 := 173) (lv2 := [_, _, _, _, _, _, _, _, _, _, _]) rfl dX12_halving_170 rfl (by decide) rfl rfl ?_
        refine g_goto (tgt := 62) dX12_halving_173 (by decide) ?_
        exact (hk _ _ h).1 _ _ _ _ _ _ _ _ _ rfl hOK
  · rintro x1 x2 x3 x4 x5 x6 x7 x8 x9 x10 M rfl hOK
    rw [sk_halving_100] at h
    refine g_iload (q0 := 102) (j := 10) rfl dX12_halving_100 rfl ?_
    refine g_iload (q0 := 104) (j := 8) rfl dX12_halving_102 rfl ?_
    refine g_icmp_gt (q0 := 107) (tgt := 139) rfl dX12_halving_104 (by decide) (fun h104 => ?_) (fun h104 => ?_)
    · replace h := gI_pos h104 h
      refine g_iload (q0 := 141) (j := 9) rfl dX12_halving_139 rfl ?_
      refine g_iload (q0 := 143) (j := 4) rfl dX12_halving_141 rfl ?_
      refine g_iload (q0 := 145) (j := 9) rfl dX12_halving_143 rfl ?_
      refine g_isubw (q0 := 146) rfl dX12_halving_145 ?_
      obtain ⟨r146, e146, h⟩ := gI_bd h
      refine g_callSq1 (as := [_, _]) (rest := []) mt_X12_min ms_X12_min ml_X12_558 dX12_halving_146 (q0 := 149) rfl rfl (ok_min hOK e146) rfl ⟨by decide, by decide⟩ (Nat.le_of_ble_eq_true rfl) ⟨Nat.zero_le _, Nat.zero_le _⟩ ?_
      refine g_istore (q0 := 151) (j := 10) (lv2 := [_, _, _, _, _, _, _, _, _, _, _]) rfl dX12_halving_149 (by decide) rfl rfl ?_
      refine g_iload (q0 := 153) (j := 10) rfl dX12_halving_151 rfl ?_
      refine g_iload (q0 := 155) (j := 7) rfl dX12_halving_153 rfl ?_
      refine g_icmp_le (q0 := 158) (tgt := 170) rfl dX12_halving_155 (by decide) (fun h155 => ?_) (fun h155 => ?_)
      · replace h := gI_neg (Int.not_lt.mpr h155) h
        refine g_iincw (q0 := 173) (lv2 := [_, _, _, _, _, _, _, _, _, _, _]) rfl dX12_halving_170 rfl (by decide) rfl rfl ?_
        refine g_goto (tgt := 62) dX12_halving_173 (by decide) ?_
        refine gA_jk (lv1 := [_, _, _, _, _, _, _, _, _, (9, 0), (9, 0)]) ⟨.inl rfl, .inl rfl, .inl rfl, .inl rfl, .inl rfl, .inl rfl, .inl rfl, .inl rfl, .inl rfl, .inr rfl, .inr rfl, trivial⟩ ?_
        exact (hk _ _ h).1 _ _ _ _ _ _ _ _ _ rfl hOK
      · replace h := gI_pos h155 h
        refine g_iload (q0 := 160) (j := 10) rfl dX12_halving_158 rfl ?_
        refine g_istore (q0 := 162) (j := 7) (lv2 := [_, _, _, _, _, _, _, _, _, _, _]) rfl dX12_halving_160 (by decide) rfl rfl ?_
        refine g_iload (q0 := 164) (j := 8) rfl dX12_halving_162 rfl ?_
        refine g_istore (q0 := 166) (j := 5) (lv2 := [_, _, _, _, _, _, _, _, _, _, _]) rfl dX12_halving_164 (by decide) rfl rfl ?_
        refine g_iload (q0 := 168) (j := 9) rfl dX12_halving_166 rfl ?_
        refine g_istore (q0 := 170) (j := 6) (lv2 := [_, _, _, _, _, _, _, _, _, _, _]) rfl dX12_halving_168 (by decide) rfl rfl ?_
        refine g_iincw (q0 := 173) (lv2 := [_, _, _, _, _, _, _, _, _, _, _]) rfl dX12_halving_170 rfl (by decide) rfl rfl ?_
        refine g_goto (tgt := 62) dX12_halving_173 (by decide) ?_
        refine gA_jk (lv1 := [_, _, _, _, _, _, _, _, _, (9, 0), (9, 0)]) ⟨.inl rfl, .inl rfl, .inl rfl, .inl rfl, .inl rfl, .inl rfl, .inl rfl, .inl rfl, .inl rfl, .inr rfl, .inr rfl, trivial⟩ ?_
        exact (hk _ _ h).1 _ _ _ _ _ _ _ _ _ rfl hOK
    · replace h := gI_neg (Int.not_lt.mpr h104) h
      refine g_aload_n (q0 := 108) (j := 0) rfl dX12_halving_107 rfl ?_
      refine g_getp (q0 := 111) (b := 723) rfl ff_X12_43 dX12_halving_108 rfl hOK (by decide) (sh_711 hOK) rfl (by decide) ?_
      refine g_iload (q0 := 113) (j := 10) rfl dX12_halving_111 rfl ?_
      obtain ⟨g3, h⟩ := gI_gd h
      refine g_zald (q0 := 114) rfl dX12_halving_113 (sh_723 hOK) g3.1 g3.2 ?_
      refine g_if_eq (q0 := 117) (tgt := 133) rfl dX12_halving_114 (by decide) (fun h114 => ?_) (fun h114 => ?_)
      · replace h := gI_pos h114 h
        refine g_iincw (q0 := 136) (lv2 := [_, _, _, _, _, _, _, _, _, _, _]) rfl dX12_halving_133 rfl (by decide) rfl rfl ?_
        refine g_goto (tgt := 100) dX12_halving_136 (by decide) ?_
        exact (hk _ _ h).2 _ _ _ _ _ _ _ _ _ _ _ rfl hOK
      · replace h := gI_neg h114 h
        refine g_aload_n (q0 := 118) (j := 0) rfl dX12_halving_117 rfl ?_
        refine g_getp (q0 := 121) (b := 747) rfl ff_X12_117 dX12_halving_118 rfl hOK (by decide) (sh_711 hOK) rfl (by decide) ?_
        refine g_iload (q0 := 123) (j := 10) rfl dX12_halving_121 rfl ?_
        refine g_zald (q0 := 124) rfl dX12_halving_123 (sh_747 hOK) g3.1 g3.2 ?_
        refine g_if_eq (q0 := 127) (tgt := 133) rfl dX12_halving_124 (by decide) (fun h124 => ?_) (fun h124 => ?_)
        · replace h := gI_pos h124 h
          refine g_iincw (q0 := 136) (lv2 := [_, _, _, _, _, _, _, _, _, _, _]) rfl dX12_halving_133 rfl (by decide) rfl rfl ?_
          refine g_goto (tgt := 100) dX12_halving_136 (by decide) ?_
          exact (hk _ _ h).2 _ _ _ _ _ _ _ _ _ _ _ rfl hOK
        · replace h := gI_neg h124 h
          refine g_iload (q0 := 129) (j := 9) rfl dX12_halving_127 rfl ?_
          refine g_iconst (q0 := 130) rfl dX12_halving_129 (k := ?_)
          refine g_iaddw (q0 := 131) rfl dX12_halving_130 ?_
          refine g_istore (q0 := 133) (j := 9) (lv2 := [_, _, _, _, _, _, _, _, _, _, _]) rfl dX12_halving_131 (by decide) rfl rfl ?_
          refine g_iincw (q0 := 136) (lv2 := [_, _, _, _, _, _, _, _, _, _, _]) rfl dX12_halving_133 rfl (by decide) rfl rfl ?_
          refine g_goto (tgt := 100) dX12_halving_136 (by decide) ?_
          exact (hk _ _ h).2 _ _ _ _ _ _ _ _ _ _ _ rfl hOK
theorem ok_halving_62 {sh : gS} {M : gM} {x1 x2 x3 x4 x5 x6 x7 x8 : Int} {b : Int × gM} (hOK : gOK sh M) (h : F_halving_62 M x1 x2 x3 x4 x5 x6 x7 x8 = some b) : gA (gr 4 91) yX12_halving cX12_halving 11 (some (.int)) (gPq sh (some (0, b.1)) b.2) (0, 0) 62 [(4, 711), (0, x1), (0, x2), (0, x3), (0, x4), (0, x5), (0, x6), (0, x7), (0, x8), (9, 0), (9, 0)] [] sh M :=
  (okp_halving _ _ h).1 _ _ _ _ _ _ _ _ _ rfl hOK
theorem ok_halving_100 {sh : gS} {M : gM} {x1 x2 x3 x4 x5 x6 x7 x8 x9 x10 : Int} {b : Int × gM} (hOK : gOK sh M) (h : F_halving_100 M x1 x2 x3 x4 x5 x6 x7 x8 x9 x10 = some b) : gA (gr 4 91) yX12_halving cX12_halving 11 (some (.int)) (gPq sh (some (0, b.1)) b.2) (0, 0) 100 [(4, 711), (0, x1), (0, x2), (0, x3), (0, x4), (0, x5), (0, x6), (0, x7), (0, x8), (0, x9), (0, x10)] [] sh M :=
  (okp_halving _ _ h).2 _ _ _ _ _ _ _ _ _ _ _ rfl hOK
theorem ok_halving {sh : gS} {M : gM} {a1 a2 a3 : Int} {b : Int × gM} (hOK : gOK sh M) (h : F_halving M a1 a2 a3 = some b) : gC (gr 4 91) yX12_halving cX12_halving 11 (some (.int)) [(4, 711), (0, a1), (0, a2), (0, a3)] sh M (gPq sh (some (0, b.1)) b.2) := by
  rw [eq_halving] at h
  refine gC_ofA (lv := [_, _, _, _, _, _, _, _, _, _, _]) (by decide +kernel) (Nat.le_of_ble_eq_true rfl) rfl (fun hMw hav => ?_)
  refine g_aload_n (q0 := 1) (j := 0) rfl dX12_halving_0 rfl ?_
  refine g_iload_n (q0 := 2) (j := 1) rfl dX12_halving_1 rfl ?_
  obtain ⟨r2, e2, h⟩ := gI_bd h
  refine g_callVq1 (as := [_]) (rest := []) mt_X12_isCommit mi_X12_isCommit se_X12_isCommit ml_X12_229 dX12_halving_2 (q0 := 5) rfl rfl (sh_711 hOK) rfl rfl (ok_isCommit hOK e2) rfl ⟨by decide, by decide⟩ (Nat.le_of_ble_eq_true rfl) ⟨Nat.zero_le _, Nat.zero_le _⟩ ?_
  refine g_if_eq (q0 := 8) (tgt := 25) rfl dX12_halving_5 (by decide) (fun h5 => ?_) (fun h5 => ?_)
  · replace h := gI_pos h5 h
    refine g_iconst (q0 := 26) rfl dX12_halving_25 (k := ?_)
    rw [← Option.some.inj h]
    refine g_ireturn dX12_halving_26 rfl ⟨Nat.zero_le _, Nat.zero_le _⟩ ?_
    exact ⟨rfl, rfl, rfl⟩
  · replace h := gI_neg h5 h
    refine g_aload_n (q0 := 9) (j := 0) rfl dX12_halving_8 rfl ?_
    refine g_iload_n (q0 := 10) (j := 2) rfl dX12_halving_9 rfl ?_
    obtain ⟨r10, e10, h⟩ := gI_bd h
    refine g_callVq1 (as := [_]) (rest := []) mt_X12_isCommit mi_X12_isCommit se_X12_isCommit ml_X12_229 dX12_halving_10 (q0 := 13) rfl rfl (sh_711 hOK) rfl rfl (ok_isCommit hOK e10) rfl ⟨by decide, by decide⟩ (Nat.le_of_ble_eq_true rfl) ⟨Nat.zero_le _, Nat.zero_le _⟩ ?_
    refine g_if_eq (q0 := 16) (tgt := 25) rfl dX12_halving_13 (by decide) (fun h13 => ?_) (fun h13 => ?_)
    · replace h := gI_pos h13 h
      refine g_iconst (q0 := 26) rfl dX12_halving_25 (k := ?_)
      rw [← Option.some.inj h]
      refine g_ireturn dX12_halving_26 rfl ⟨Nat.zero_le _, Nat.zero_le _⟩ ?_
      exact ⟨rfl, rfl, rfl⟩
    · replace h := gI_neg h13 h
      refine g_iload_n (q0 := 17) (j := 3) rfl dX12_halving_16 rfl ?_
      refine g_iconst (q0 := 18) rfl dX12_halving_17 (k := ?_)
      refine g_iconst (q0 := 19) rfl dX12_halving_18 (k := ?_)
      obtain ⟨r19, e19, h⟩ := gI_bd h
      refine g_callSq1 (as := [_, _, _]) (rest := []) mt_X12_in ms_X12_in ml_X12_182 dX12_halving_19 (q0 := 22) rfl rfl (ok_in hOK e19) rfl ⟨by decide, by decide⟩ (Nat.le_of_ble_eq_true rfl) ⟨Nat.zero_le _, Nat.zero_le _⟩ ?_
      refine g_if_ne (q0 := 25) (tgt := 27) rfl dX12_halving_22 (by decide) (fun h22 => ?_) (fun h22 => ?_)
      · replace h := gI_neg h22 h
        refine g_aload_n (q0 := 28) (j := 0) rfl dX12_halving_27 rfl ?_
        refine g_iload_n (q0 := 29) (j := 1) rfl dX12_halving_28 rfl ?_
        refine g_iload_n (q0 := 30) (j := 2) rfl dX12_halving_29 rfl ?_
        refine g_iconst (q0 := 31) rfl dX12_halving_30 (k := ?_)
        obtain ⟨m31, e31, h⟩ := gI_bd h
        refine g_callVq0 (as := [_, _, _]) (rest := []) mt_X12_marksOf mi_X12_marksOf se_X12_marksOf ml_X12_708 dX12_halving_31 (q0 := 34) rfl rfl (sh_711 hOK) rfl rfl (ok_marksOf hOK e31) rfl ⟨by decide, by decide⟩ (Nat.le_of_ble_eq_true rfl) ⟨Nat.zero_le _, Nat.zero_le _⟩ ?_
        have hOK4 : gOK sh m31 := gOK_fr hOK (fr_marksOf (b := m31) e31) (by first | decide | (intro a ha; simp only [List.mem_cons, List.not_mem_nil, or_false] at ha; omega)) (by decide)
        refine g_aload_n (q0 := 35) (j := 0) rfl dX12_halving_34 rfl ?_
        refine g_getp (q0 := 38) (b := 747) rfl ff_X12_117 dX12_halving_35 rfl hOK4 (by decide) (sh_711 hOK4) rfl (by decide) ?_
        obtain ⟨r38, e38, h⟩ := gI_bd h
        refine g_callSq1 (as := [_]) (rest := []) mt_X12_sizeOf ms_X12_sizeOf ml_X12_236 dX12_halving_38 (q0 := 41) rfl rfl (ok_sizeOf hOK4 e38) rfl ⟨by decide, by decide⟩ (Nat.le_of_ble_eq_true rfl) ⟨Nat.zero_le _, Nat.zero_le _⟩ ?_
        refine g_istore (q0 := 43) (j := 4) (lv2 := [_, _, _, _, _, _, _, _, _, _, _]) rfl dX12_halving_41 (by decide) rfl rfl ?_
        refine g_iload_n (q0 := 44) (j := 3) rfl dX12_halving_43 rfl ?_
        refine g_if_ne (q0 := 47) (tgt := 50) rfl dX12_halving_44 (by decide) (fun h44 => ?_) (fun h44 => ?_)
        · replace h := gI_neg h44 h
          refine g_iconst (q0 := 51) rfl dX12_halving_50 (k := ?_)
          refine g_istore (q0 := 53) (j := 5) (lv2 := [_, _, _, _, _, _, _, _, _, _, _]) rfl dX12_halving_51 (by decide) rfl rfl ?_
          refine g_iconst (q0 := 54) rfl dX12_halving_53 (k := ?_)
          refine g_istore (q0 := 56) (j := 6) (lv2 := [_, _, _, _, _, _, _, _, _, _, _]) rfl dX12_halving_54 (by decide) rfl rfl ?_
          refine g_iconst (q0 := 57) rfl dX12_halving_56 (k := ?_)
          refine g_istore (q0 := 59) (j := 7) (lv2 := [_, _, _, _, _, _, _, _, _, _, _]) rfl dX12_halving_57 (by decide) rfl rfl ?_
          refine g_iconst (q0 := 60) rfl dX12_halving_59 (k := ?_)
          refine g_istore (q0 := 62) (j := 8) (lv2 := [_, _, _, _, _, _, _, _, _, _, _]) rfl dX12_halving_60 (by decide) rfl rfl ?_
          exact ok_halving_62 hOK4 h
        · replace h := gI_pos h44 h
          refine g_iload (q0 := 49) (j := 4) rfl dX12_halving_47 rfl ?_
          rw [← Option.some.inj h]
          refine g_ireturn dX12_halving_49 rfl ⟨Nat.zero_le _, Nat.zero_le _⟩ ?_
          exact ⟨rfl, rfl, rfl⟩
      · replace h := gI_pos h22 h
        refine g_iconst (q0 := 26) rfl dX12_halving_25 (k := ?_)
        rw [← Option.some.inj h]
        refine g_ireturn dX12_halving_26 rfl ⟨Nat.zero_le _, Nat.zero_le _⟩ ?_
        exact ⟨rfl, rfl, rfl⟩
-- ==== digitAt
theorem dX12_digitAt_0 : decode cX12_digitAt 0 = .ok (.iload_n 0, 1) := by decide +kernel
theorem dX12_digitAt_1 : decode cX12_digitAt 1 = .ok (.istore_n 2, 1) := by decide +kernel
theorem dX12_digitAt_2 : decode cX12_digitAt 2 = .ok (.iload_n 0, 1) := by decide +kernel
theorem dX12_digitAt_3 : decode cX12_digitAt 3 = .ok (.invokestatic 486, 3) := by decide +kernel
theorem dX12_digitAt_6 : decode cX12_digitAt 6 = .ok (.istore_n 3, 1) := by decide +kernel
theorem dX12_digitAt_7 : decode cX12_digitAt 7 = .ok (.iload_n 3, 1) := by decide +kernel
theorem dX12_digitAt_8 : decode cX12_digitAt 8 = .ok (.iload_n 1, 1) := by decide +kernel
theorem dX12_digitAt_9 : decode cX12_digitAt 9 = .ok (.iconst 1, 1) := by decide +kernel
theorem dX12_digitAt_10 : decode cX12_digitAt 10 = .ok (.iadd, 1) := by decide +kernel
theorem dX12_digitAt_11 : decode cX12_digitAt 11 = .ok (.if_icmp .le 14, 3) := by decide +kernel
theorem dX12_digitAt_14 : decode cX12_digitAt 14 = .ok (.iload_n 2, 1) := by decide +kernel
theorem dX12_digitAt_15 : decode cX12_digitAt 15 = .ok (.bipush 10, 2) := by decide +kernel
theorem dX12_digitAt_17 : decode cX12_digitAt 17 = .ok (.idiv, 1) := by decide +kernel
theorem dX12_digitAt_18 : decode cX12_digitAt 18 = .ok (.istore_n 2, 1) := by decide +kernel
theorem dX12_digitAt_19 : decode cX12_digitAt 19 = .ok (.iinc 3 (-1), 3) := by decide +kernel
theorem dX12_digitAt_22 : decode cX12_digitAt 22 = .ok (.goto (-15), 3) := by decide +kernel
theorem dX12_digitAt_25 : decode cX12_digitAt 25 = .ok (.iload_n 2, 1) := by decide +kernel
theorem dX12_digitAt_26 : decode cX12_digitAt 26 = .ok (.bipush 10, 2) := by decide +kernel
theorem dX12_digitAt_28 : decode cX12_digitAt 28 = .ok (.irem, 1) := by decide +kernel
theorem dX12_digitAt_29 : decode cX12_digitAt 29 = .ok (.ireturn, 1) := by decide +kernel
noncomputable def st_digitAt : Nat × List Int → Option ((Nat × List Int) ⊕ (Int))
  | (0, [x0, x1, x2, x3]) => (if (gw32 (x1 + (1 : Int))) < x3 then
      some (.inl (0, [x0, x1, (gdiv x2 10), (gw32 (x3 + (-1)))]))
    else
      some (.inr (grem x2 10)))
  | _ => none
theorem sk_digitAt_7 (k : Nat × List Int → Option (Int)) (x0 x1 x2 x3 : Int) : gWk k (st_digitAt (0, [x0, x1, x2, x3])) = (if (gw32 (x1 + (1 : Int))) < x3 then
    k (0, [x0, x1, (gdiv x2 10), (gw32 (x3 + (-1)))])
  else
    some (grem x2 10)) := by
  simp only [st_digitAt, gWk_ite, gWk_bind, gWk_inl, gWk_inr, gWk_none]
noncomputable def F_digitAt_7 (x0 x1 x2 x3 : Int) : Option (Int) := gWh (st_digitAt) (0, [x0, x1, x2, x3])
theorem eq_digitAt_7 (x0 x1 x2 x3 : Int) : F_digitAt_7 x0 x1 x2 x3 = (if (gw32 (x1 + (1 : Int))) < x3 then
    F_digitAt_7 x0 x1 (gdiv x2 10) (gw32 (x3 + (-1)))
  else
    some (grem x2 10)) := (gWh_eq _).trans (sk_digitAt_7 _ x0 x1 x2 x3)
noncomputable def F_digitAt (a0 a1 : Int) : Option (Int) := (Option.bind (F_digits a0) (fun r3 =>
    F_digitAt_7 a0 a1 a0 r3))
theorem eq_digitAt (a0 a1 : Int) : F_digitAt a0 a1 = (Option.bind (F_digits a0) (fun r3 =>
    F_digitAt_7 a0 a1 a0 r3)) := rfl
theorem okp_digitAt {sh : gS} {M : gM} : ∀ (s : Nat × List Int) (b : Int), gWh (st_digitAt) s = some b → (∀ (x0 x1 x2 x3 : Int), s = (0, [x0, x1, x2, x3]) → gOK sh M → gA (gr 1 22) yX12_digitAt cX12_digitAt 4 (some (.int)) (gPq sh (some (0, b)) M) (0, 0) 7 [(0, x0), (0, x1), (0, x2), (0, x3)] [] sh M) := by
  refine gWh_ind (fun k hk s b h => ?_)
  · rintro x0 x1 x2 x3 rfl hOK
    rw [sk_digitAt_7] at h
    refine g_iload_n (q0 := 8) (j := 3) rfl dX12_digitAt_7 rfl ?_
    refine g_iload_n (q0 := 9) (j := 1) rfl dX12_digitAt_8 rfl ?_
    refine g_iconst (q0 := 10) rfl dX12_digitAt_9 (k := ?_)
    refine g_iaddw (q0 := 11) rfl dX12_digitAt_10 ?_
    refine g_icmp_le (q0 := 14) (tgt := 25) rfl dX12_digitAt_11 (by decide) (fun h11 => ?_) (fun h11 => ?_)
    · replace h := gI_neg (Int.not_lt.mpr h11) h
      refine g_iload_n (q0 := 26) (j := 2) rfl dX12_digitAt_25 rfl ?_
      refine g_bipush (q0 := 28) rfl dX12_digitAt_26 (k := ?_)
      refine g_irem (q0 := 29) rfl dX12_digitAt_28 (by decide) ?_
      rw [← Option.some.inj h]
      refine g_ireturn dX12_digitAt_29 rfl ⟨Nat.zero_le _, Nat.zero_le _⟩ ?_
      exact ⟨rfl, rfl, rfl⟩
    · replace h := gI_pos h11 h
      refine g_iload_n (q0 := 15) (j := 2) rfl dX12_digitAt_14 rfl ?_
      refine g_bipush (q0 := 17) rfl dX12_digitAt_15 (k := ?_)
      refine g_idiv (q0 := 18) rfl dX12_digitAt_17 (by decide) ?_
      refine g_istore_n (q0 := 19) (j := 2) (lv2 := [_, _, _, _]) rfl dX12_digitAt_18 (by decide) rfl rfl ?_
      refine g_iincw (q0 := 22) (lv2 := [_, _, _, _]) rfl dX12_digitAt_19 rfl (by decide) rfl rfl ?_
      refine g_goto (tgt := 7) dX12_digitAt_22 (by decide) ?_
      exact (hk _ _ h) _ _ _ _ rfl hOK
theorem ok_digitAt_7 {sh : gS} {M : gM} {x0 x1 x2 x3 : Int} {b : Int} (hOK : gOK sh M) (h : F_digitAt_7 x0 x1 x2 x3 = some b) : gA (gr 1 22) yX12_digitAt cX12_digitAt 4 (some (.int)) (gPq sh (some (0, b)) M) (0, 0) 7 [(0, x0), (0, x1), (0, x2), (0, x3)] [] sh M :=
  (okp_digitAt _ _ h) _ _ _ _ rfl hOK
theorem ok_digitAt {sh : gS} {M : gM} {a0 a1 : Int} {b : Int} (hOK : gOK sh M) (h : F_digitAt a0 a1 = some b) : gC (gr 1 22) yX12_digitAt cX12_digitAt 4 (some (.int)) [(0, a0), (0, a1)] sh M (gPq sh (some (0, b)) M) := by
  rw [eq_digitAt] at h
  refine gC_ofA (lv := [_, _, _, _]) (by decide +kernel) (Nat.le_of_ble_eq_true rfl) rfl (fun hMw hav => ?_)
  refine g_iload_n (q0 := 1) (j := 0) rfl dX12_digitAt_0 rfl ?_
  refine g_istore_n (q0 := 2) (j := 2) (lv2 := [_, _, _, _]) rfl dX12_digitAt_1 (by decide) rfl rfl ?_
  refine g_iload_n (q0 := 3) (j := 0) rfl dX12_digitAt_2 rfl ?_
  obtain ⟨r3, e3, h⟩ := gI_bd h
  refine g_callSq1 (as := [_]) (rest := []) mt_X12_digits ms_X12_digits ml_X12_486 dX12_digitAt_3 (q0 := 6) rfl rfl (ok_digits hOK e3) rfl ⟨by decide, by decide⟩ (Nat.le_of_ble_eq_true rfl) ⟨Nat.zero_le _, Nat.zero_le _⟩ ?_
  refine g_istore_n (q0 := 7) (j := 3) (lv2 := [_, _, _, _]) rfl dX12_digitAt_6 (by decide) rfl rfl ?_
  exact ok_digitAt_7 hOK h
-- ==== inBoth
theorem dX12_inBoth_0 : decode cX12_inBoth 0 = .ok (.iload_n 1, 1) := by decide +kernel
theorem dX12_inBoth_1 : decode cX12_inBoth 1 = .ok (.invokestatic 486, 3) := by decide +kernel
theorem dX12_inBoth_4 : decode cX12_inBoth 4 = .ok (.istore_n 3, 1) := by decide +kernel
theorem dX12_inBoth_5 : decode cX12_inBoth 5 = .ok (.iload_n 2, 1) := by decide +kernel
theorem dX12_inBoth_6 : decode cX12_inBoth 6 = .ok (.invokestatic 486, 3) := by decide +kernel
theorem dX12_inBoth_9 : decode cX12_inBoth 9 = .ok (.istore 4, 2) := by decide +kernel
theorem dX12_inBoth_11 : decode cX12_inBoth 11 = .ok (.iconst 0, 1) := by decide +kernel
theorem dX12_inBoth_12 : decode cX12_inBoth 12 = .ok (.istore 5, 2) := by decide +kernel
theorem dX12_inBoth_14 : decode cX12_inBoth 14 = .ok (.iload 5, 2) := by decide +kernel
theorem dX12_inBoth_16 : decode cX12_inBoth 16 = .ok (.bipush 56, 2) := by decide +kernel
theorem dX12_inBoth_18 : decode cX12_inBoth 18 = .ok (.if_icmp .ge 17, 3) := by decide +kernel
theorem dX12_inBoth_21 : decode cX12_inBoth 21 = .ok (.aload_n 0, 1) := by decide +kernel
theorem dX12_inBoth_22 : decode cX12_inBoth 22 = .ok (.getfield 126, 3) := by decide +kernel
theorem dX12_inBoth_25 : decode cX12_inBoth 25 = .ok (.iload 5, 2) := by decide +kernel
theorem dX12_inBoth_27 : decode cX12_inBoth 27 = .ok (.iconst 0, 1) := by decide +kernel
theorem dX12_inBoth_28 : decode cX12_inBoth 28 = .ok (.iastore, 1) := by decide +kernel
theorem dX12_inBoth_29 : decode cX12_inBoth 29 = .ok (.iinc 5 1, 3) := by decide +kernel
theorem dX12_inBoth_32 : decode cX12_inBoth 32 = .ok (.goto (-18), 3) := by decide +kernel
theorem dX12_inBoth_35 : decode cX12_inBoth 35 = .ok (.iload_n 3, 1) := by decide +kernel
theorem dX12_inBoth_36 : decode cX12_inBoth 36 = .ok (.iconst 1, 1) := by decide +kernel
theorem dX12_inBoth_37 : decode cX12_inBoth 37 = .ok (.isub, 1) := by decide +kernel
theorem dX12_inBoth_38 : decode cX12_inBoth 38 = .ok (.istore 5, 2) := by decide +kernel
theorem dX12_inBoth_40 : decode cX12_inBoth 40 = .ok (.iload 5, 2) := by decide +kernel
theorem dX12_inBoth_42 : decode cX12_inBoth 42 = .ok (.ifCond .lt 109, 3) := by decide +kernel
theorem dX12_inBoth_45 : decode cX12_inBoth 45 = .ok (.iload 4, 2) := by decide +kernel
theorem dX12_inBoth_47 : decode cX12_inBoth 47 = .ok (.iconst 1, 1) := by decide +kernel
theorem dX12_inBoth_48 : decode cX12_inBoth 48 = .ok (.isub, 1) := by decide +kernel
theorem dX12_inBoth_49 : decode cX12_inBoth 49 = .ok (.istore 6, 2) := by decide +kernel
theorem dX12_inBoth_51 : decode cX12_inBoth 51 = .ok (.iload 6, 2) := by decide +kernel
theorem dX12_inBoth_53 : decode cX12_inBoth 53 = .ok (.ifCond .lt 92, 3) := by decide +kernel
theorem dX12_inBoth_56 : decode cX12_inBoth 56 = .ok (.aload_n 0, 1) := by decide +kernel
theorem dX12_inBoth_57 : decode cX12_inBoth 57 = .ok (.getfield 126, 3) := by decide +kernel
theorem dX12_inBoth_60 : decode cX12_inBoth 60 = .ok (.bipush 7, 2) := by decide +kernel
theorem dX12_inBoth_62 : decode cX12_inBoth 62 = .ok (.iload 5, 2) := by decide +kernel
theorem dX12_inBoth_64 : decode cX12_inBoth 64 = .ok (.imul, 1) := by decide +kernel
theorem dX12_inBoth_65 : decode cX12_inBoth 65 = .ok (.iload 6, 2) := by decide +kernel
theorem dX12_inBoth_67 : decode cX12_inBoth 67 = .ok (.iadd, 1) := by decide +kernel
theorem dX12_inBoth_68 : decode cX12_inBoth 68 = .ok (.iload_n 1, 1) := by decide +kernel
theorem dX12_inBoth_69 : decode cX12_inBoth 69 = .ok (.iload 5, 2) := by decide +kernel
theorem dX12_inBoth_71 : decode cX12_inBoth 71 = .ok (.invokestatic 715, 3) := by decide +kernel
theorem dX12_inBoth_74 : decode cX12_inBoth 74 = .ok (.iload_n 2, 1) := by decide +kernel
theorem dX12_inBoth_75 : decode cX12_inBoth 75 = .ok (.iload 6, 2) := by decide +kernel
theorem dX12_inBoth_77 : decode cX12_inBoth 77 = .ok (.invokestatic 715, 3) := by decide +kernel
theorem dX12_inBoth_80 : decode cX12_inBoth 80 = .ok (.if_icmp .ne 24, 3) := by decide +kernel
theorem dX12_inBoth_83 : decode cX12_inBoth 83 = .ok (.iconst 1, 1) := by decide +kernel
theorem dX12_inBoth_84 : decode cX12_inBoth 84 = .ok (.aload_n 0, 1) := by decide +kernel
theorem dX12_inBoth_85 : decode cX12_inBoth 85 = .ok (.getfield 126, 3) := by decide +kernel
theorem dX12_inBoth_88 : decode cX12_inBoth 88 = .ok (.bipush 7, 2) := by decide +kernel
theorem dX12_inBoth_90 : decode cX12_inBoth 90 = .ok (.iload 5, 2) := by decide +kernel
theorem dX12_inBoth_92 : decode cX12_inBoth 92 = .ok (.imul, 1) := by decide +kernel
theorem dX12_inBoth_93 : decode cX12_inBoth 93 = .ok (.bipush 8, 2) := by decide +kernel
theorem dX12_inBoth_95 : decode cX12_inBoth 95 = .ok (.iadd, 1) := by decide +kernel
theorem dX12_inBoth_96 : decode cX12_inBoth 96 = .ok (.iload 6, 2) := by decide +kernel
theorem dX12_inBoth_98 : decode cX12_inBoth 98 = .ok (.iadd, 1) := by decide +kernel
theorem dX12_inBoth_99 : decode cX12_inBoth 99 = .ok (.iaload, 1) := by decide +kernel
theorem dX12_inBoth_100 : decode cX12_inBoth 100 = .ok (.iadd, 1) := by decide +kernel
theorem dX12_inBoth_101 : decode cX12_inBoth 101 = .ok (.goto 37, 3) := by decide +kernel
theorem dX12_inBoth_104 : decode cX12_inBoth 104 = .ok (.aload_n 0, 1) := by decide +kernel
theorem dX12_inBoth_105 : decode cX12_inBoth 105 = .ok (.getfield 126, 3) := by decide +kernel
theorem dX12_inBoth_108 : decode cX12_inBoth 108 = .ok (.bipush 7, 2) := by decide +kernel
theorem dX12_inBoth_110 : decode cX12_inBoth 110 = .ok (.iload 5, 2) := by decide +kernel
theorem dX12_inBoth_112 : decode cX12_inBoth 112 = .ok (.imul, 1) := by decide +kernel
theorem dX12_inBoth_113 : decode cX12_inBoth 113 = .ok (.bipush 7, 2) := by decide +kernel
theorem dX12_inBoth_115 : decode cX12_inBoth 115 = .ok (.iadd, 1) := by decide +kernel
theorem dX12_inBoth_116 : decode cX12_inBoth 116 = .ok (.iload 6, 2) := by decide +kernel
theorem dX12_inBoth_118 : decode cX12_inBoth 118 = .ok (.iadd, 1) := by decide +kernel
theorem dX12_inBoth_119 : decode cX12_inBoth 119 = .ok (.iaload, 1) := by decide +kernel
theorem dX12_inBoth_120 : decode cX12_inBoth 120 = .ok (.aload_n 0, 1) := by decide +kernel
theorem dX12_inBoth_121 : decode cX12_inBoth 121 = .ok (.getfield 126, 3) := by decide +kernel
theorem dX12_inBoth_124 : decode cX12_inBoth 124 = .ok (.bipush 7, 2) := by decide +kernel
theorem dX12_inBoth_126 : decode cX12_inBoth 126 = .ok (.iload 5, 2) := by decide +kernel
theorem dX12_inBoth_128 : decode cX12_inBoth 128 = .ok (.imul, 1) := by decide +kernel
theorem dX12_inBoth_129 : decode cX12_inBoth 129 = .ok (.iload 6, 2) := by decide +kernel
theorem dX12_inBoth_131 : decode cX12_inBoth 131 = .ok (.iadd, 1) := by decide +kernel
theorem dX12_inBoth_132 : decode cX12_inBoth 132 = .ok (.iconst 1, 1) := by decide +kernel
theorem dX12_inBoth_133 : decode cX12_inBoth 133 = .ok (.iadd, 1) := by decide +kernel
theorem dX12_inBoth_134 : decode cX12_inBoth 134 = .ok (.iaload, 1) := by decide +kernel
theorem dX12_inBoth_135 : decode cX12_inBoth 135 = .ok (.invokestatic 217, 3) := by decide +kernel
theorem dX12_inBoth_138 : decode cX12_inBoth 138 = .ok (.iastore, 1) := by decide +kernel
theorem dX12_inBoth_139 : decode cX12_inBoth 139 = .ok (.iinc 6 (-1), 3) := by decide +kernel
theorem dX12_inBoth_142 : decode cX12_inBoth 142 = .ok (.goto (-91), 3) := by decide +kernel
theorem dX12_inBoth_145 : decode cX12_inBoth 145 = .ok (.iinc 5 (-1), 3) := by decide +kernel
theorem dX12_inBoth_148 : decode cX12_inBoth 148 = .ok (.goto (-108), 3) := by decide +kernel
theorem dX12_inBoth_151 : decode cX12_inBoth 151 = .ok (.aload_n 0, 1) := by decide +kernel
theorem dX12_inBoth_152 : decode cX12_inBoth 152 = .ok (.getfield 126, 3) := by decide +kernel
theorem dX12_inBoth_155 : decode cX12_inBoth 155 = .ok (.iconst 0, 1) := by decide +kernel
theorem dX12_inBoth_156 : decode cX12_inBoth 156 = .ok (.iaload, 1) := by decide +kernel
theorem dX12_inBoth_157 : decode cX12_inBoth 157 = .ok (.ireturn, 1) := by decide +kernel
noncomputable def st_inBoth : Nat × List Int × gM → Option ((Nat × List Int × gM) ⊕ (Int × gM))
  | (0, [x1, x2, x3, x4, x5], M) => (if x5 < 56 then
      (if 0 ≤ x5 ∧ x5 < 56 then
        some (.inl (0, [x1, x2, x3, x4, (gw32 (x5 + 1))], (gU M 750 x5 0)))
      else none)
    else
      some (.inl (1, [x1, x2, x3, x4, (gw32 (x3 - (1 : Int)))], M)))
  | (1, [x1, x2, x3, x4, x5], M) => (if x5 < 0 then
      some (.inr ((M 750 0), M))
    else
      some (.inl (2, [x1, x2, x3, x4, x5, (gw32 (x4 - (1 : Int)))], M)))
  | (2, [x1, x2, x3, x4, x5, x6], M) => (if x6 < 0 then
      some (.inl (1, [x1, x2, x3, x4, (gw32 (x5 + (-1)))], M))
    else
      (Option.bind (F_digitAt x1 x5) (fun r71 =>
        (Option.bind (F_digitAt x2 x6) (fun r77 =>
          (if r71 = r77 then
            (if 0 ≤ (gw32 ((gw32 ((gw32 ((7 : Int) * x5)) + (8 : Int))) + x6)) ∧ (gw32 ((gw32 ((gw32 ((7 : Int) * x5)) + (8 : Int))) + x6)) < 56 then
              (if 0 ≤ (gw32 ((gw32 ((7 : Int) * x5)) + x6)) ∧ (gw32 ((gw32 ((7 : Int) * x5)) + x6)) < 56 then
                some (.inl (2, [x1, x2, x3, x4, x5, (gw32 (x6 + (-1)))], (gU M 750 (gw32 ((gw32 ((7 : Int) * x5)) + x6)) (gw32 ((1 : Int) + (M 750 (gw32 ((gw32 ((gw32 ((7 : Int) * x5)) + (8 : Int))) + x6))))))))
              else none)
            else none)
          else
            (if 0 ≤ (gw32 ((gw32 ((gw32 ((7 : Int) * x5)) + (7 : Int))) + x6)) ∧ (gw32 ((gw32 ((gw32 ((7 : Int) * x5)) + (7 : Int))) + x6)) < 56 then
              (if 0 ≤ (gw32 ((gw32 ((gw32 ((7 : Int) * x5)) + x6)) + (1 : Int))) ∧ (gw32 ((gw32 ((gw32 ((7 : Int) * x5)) + x6)) + (1 : Int))) < 56 then
                (Option.bind (F_max (M 750 (gw32 ((gw32 ((gw32 ((7 : Int) * x5)) + (7 : Int))) + x6))) (M 750 (gw32 ((gw32 ((gw32 ((7 : Int) * x5)) + x6)) + (1 : Int))))) (fun r135 =>
                  (if 0 ≤ (gw32 ((gw32 ((7 : Int) * x5)) + x6)) ∧ (gw32 ((gw32 ((7 : Int) * x5)) + x6)) < 56 then
                    some (.inl (2, [x1, x2, x3, x4, x5, (gw32 (x6 + (-1)))], (gU M 750 (gw32 ((gw32 ((7 : Int) * x5)) + x6)) r135)))
                  else none)))
              else none)
            else none)))))))
  | _ => none
theorem sk_inBoth_14 (k : Nat × List Int × gM → Option (Int × gM)) (M : gM) (x1 x2 x3 x4 x5 : Int) : gWk k (st_inBoth (0, [x1, x2, x3, x4, x5], M)) = (if x5 < 56 then
    (if 0 ≤ x5 ∧ x5 < 56 then
      k (0, [x1, x2, x3, x4, (gw32 (x5 + 1))], (gU M 750 x5 0))
    else none)
  else
    k (1, [x1, x2, x3, x4, (gw32 (x3 - (1 : Int)))], M)) := by
  simp only [st_inBoth, gWk_ite, gWk_bind, gWk_inl, gWk_inr, gWk_none]
theorem sk_inBoth_40 (k : Nat × List Int × gM → Option (Int × gM)) (M : gM) (x1 x2 x3 x4 x5 : Int) : gWk k (st_inBoth (1, [x1, x2, x3, x4, x5], M)) = (if x5 < 0 then
    some ((M 750 0), M)
  else
    k (2, [x1, x2, x3, x4, x5, (gw32 (x4 - (1 : Int)))], M)) := by
  simp only [st_inBoth, gWk_ite, gWk_bind, gWk_inl, gWk_inr, gWk_none]
theorem sk_inBoth_51 (k : Nat × List Int × gM → Option (Int × gM)) (M : gM) (x1 x2 x3 x4 x5 x6 : Int) : gWk k (st_inBoth (2, [x1, x2, x3, x4, x5, x6], M)) = (if x6 < 0 then
    k (1, [x1, x2, x3, x4, (gw32 (x5 + (-1)))], M)
  else
    (Option.bind (F_digitAt x1 x5) (fun r71 =>
      (Option.bind (F_digitAt x2 x6) (fun r77 =>
        (if r71 = r77 then
          (if 0 ≤ (gw32 ((gw32 ((gw32 ((7 : Int) * x5)) + (8 : Int))) + x6)) ∧ (gw32 ((gw32 ((gw32 ((7 : Int) * x5)) + (8 : Int))) + x6)) < 56 then
            (if 0 ≤ (gw32 ((gw32 ((7 : Int) * x5)) + x6)) ∧ (gw32 ((gw32 ((7 : Int) * x5)) + x6)) < 56 then
              k (2, [x1, x2, x3, x4, x5, (gw32 (x6 + (-1)))], (gU M 750 (gw32 ((gw32 ((7 : Int) * x5)) + x6)) (gw32 ((1 : Int) + (M 750 (gw32 ((gw32 ((gw32 ((7 : Int) * x5)) + (8 : Int))) + x6)))))))
            else none)
          else none)
        else
          (if 0 ≤ (gw32 ((gw32 ((gw32 ((7 : Int) * x5)) + (7 : Int))) + x6)) ∧ (gw32 ((gw32 ((gw32 ((7 : Int) * x5)) + (7 : Int))) + x6)) < 56 then
            (if 0 ≤ (gw32 ((gw32 ((gw32 ((7 : Int) * x5)) + x6)) + (1 : Int))) ∧ (gw32 ((gw32 ((gw32 ((7 : Int) * x5)) + x6)) + (1 : Int))) < 56 then
              (Option.bind (F_max (M 750 (gw32 ((gw32 ((gw32 ((7 : Int) * x5)) + (7 : Int))) + x6))) (M 750 (gw32 ((gw32 ((gw32 ((7 : Int) * x5)) + x6)) + (1 : Int))))) (fun r135 =>
                (if 0 ≤ (gw32 ((gw32 ((7 : Int) * x5)) + x6)) ∧ (gw32 ((gw32 ((7 : Int) * x5)) + x6)) < 56 then
                  k (2, [x1, x2, x3, x4, x5, (gw32 (x6 + (-1)))], (gU M 750 (gw32 ((gw32 ((7 : Int) * x5)) + x6)) r135))
                else none)))
            else none)
          else none))))))) := by
  simp only [st_inBoth, gWk_ite, gWk_bind, gWk_inl, gWk_inr, gWk_none]
noncomputable def F_inBoth_14 (M : gM) (x1 x2 x3 x4 x5 : Int) : Option (Int × gM) := gWh (st_inBoth) (0, [x1, x2, x3, x4, x5], M)
noncomputable def F_inBoth_40 (M : gM) (x1 x2 x3 x4 x5 : Int) : Option (Int × gM) := gWh (st_inBoth) (1, [x1, x2, x3, x4, x5], M)
noncomputable def F_inBoth_51 (M : gM) (x1 x2 x3 x4 x5 x6 : Int) : Option (Int × gM) := gWh (st_inBoth) (2, [x1, x2, x3, x4, x5, x6], M)
theorem eq_inBoth_14 (M : gM) (x1 x2 x3 x4 x5 : Int) : F_inBoth_14 M x1 x2 x3 x4 x5 = (if x5 < 56 then
    (if 0 ≤ x5 ∧ x5 < 56 then
      F_inBoth_14 (gU M 750 x5 0) x1 x2 x3 x4 (gw32 (x5 + 1))
    else none)
  else
    F_inBoth_40 M x1 x2 x3 x4 (gw32 (x3 - (1 : Int)))) := (gWh_eq _).trans (sk_inBoth_14 _ M x1 x2 x3 x4 x5)
theorem eq_inBoth_40 (M : gM) (x1 x2 x3 x4 x5 : Int) : F_inBoth_40 M x1 x2 x3 x4 x5 = (if x5 < 0 then
    some ((M 750 0), M)
  else
    F_inBoth_51 M x1 x2 x3 x4 x5 (gw32 (x4 - (1 : Int)))) := (gWh_eq _).trans (sk_inBoth_40 _ M x1 x2 x3 x4 x5)
theorem eq_inBoth_51 (M : gM) (x1 x2 x3 x4 x5 x6 : Int) : F_inBoth_51 M x1 x2 x3 x4 x5 x6 = (if x6 < 0 then
    F_inBoth_40 M x1 x2 x3 x4 (gw32 (x5 + (-1)))
  else
    (Option.bind (F_digitAt x1 x5) (fun r71 =>
      (Option.bind (F_digitAt x2 x6) (fun r77 =>
        (if r71 = r77 then
          (if 0 ≤ (gw32 ((gw32 ((gw32 ((7 : Int) * x5)) + (8 : Int))) + x6)) ∧ (gw32 ((gw32 ((gw32 ((7 : Int) * x5)) + (8 : Int))) + x6)) < 56 then
            (if 0 ≤ (gw32 ((gw32 ((7 : Int) * x5)) + x6)) ∧ (gw32 ((gw32 ((7 : Int) * x5)) + x6)) < 56 then
              F_inBoth_51 (gU M 750 (gw32 ((gw32 ((7 : Int) * x5)) + x6)) (gw32 ((1 : Int) + (M 750 (gw32 ((gw32 ((gw32 ((7 : Int) * x5)) + (8 : Int))) + x6)))))) x1 x2 x3 x4 x5 (gw32 (x6 + (-1)))
            else none)
          else none)
        else
          (if 0 ≤ (gw32 ((gw32 ((gw32 ((7 : Int) * x5)) + (7 : Int))) + x6)) ∧ (gw32 ((gw32 ((gw32 ((7 : Int) * x5)) + (7 : Int))) + x6)) < 56 then
            (if 0 ≤ (gw32 ((gw32 ((gw32 ((7 : Int) * x5)) + x6)) + (1 : Int))) ∧ (gw32 ((gw32 ((gw32 ((7 : Int) * x5)) + x6)) + (1 : Int))) < 56 then
              (Option.bind (F_max (M 750 (gw32 ((gw32 ((gw32 ((7 : Int) * x5)) + (7 : Int))) + x6))) (M 750 (gw32 ((gw32 ((gw32 ((7 : Int) * x5)) + x6)) + (1 : Int))))) (fun r135 =>
                (if 0 ≤ (gw32 ((gw32 ((7 : Int) * x5)) + x6)) ∧ (gw32 ((gw32 ((7 : Int) * x5)) + x6)) < 56 then
                  F_inBoth_51 (gU M 750 (gw32 ((gw32 ((7 : Int) * x5)) + x6)) r135) x1 x2 x3 x4 x5 (gw32 (x6 + (-1)))
                else none)))
            else none)
          else none))))))) := (gWh_eq _).trans (sk_inBoth_51 _ M x1 x2 x3 x4 x5 x6)
noncomputable def F_inBoth (M : gM) (a1 a2 : Int) : Option (Int × gM) := (Option.bind (F_digits a1) (fun r1 =>
    (Option.bind (F_digits a2) (fun r6 =>
      F_inBoth_14 M a1 a2 r1 r6 0))))
theorem eq_inBoth (M : gM) (a1 a2 : Int) : F_inBoth M a1 a2 = (Option.bind (F_digits a1) (fun r1 =>
    (Option.bind (F_digits a2) (fun r6 =>
      F_inBoth_14 M a1 a2 r1 r6 0)))) := rfl
theorem frp_inBoth : ∀ (s : Nat × List Int × gM) (b : Int × gM), gWh (st_inBoth) s = some b → (∀ (x1 x2 x3 x4 x5 : Int) (M : gM), s = (0, [x1, x2, x3, x4, x5], M) → gFr [750] [] M b.2) ∧ (∀ (x1 x2 x3 x4 x5 : Int) (M : gM), s = (1, [x1, x2, x3, x4, x5], M) → gFr [750] [] M b.2) ∧ (∀ (x1 x2 x3 x4 x5 x6 : Int) (M : gM), s = (2, [x1, x2, x3, x4, x5, x6], M) → gFr [750] [] M b.2) := by
  refine gWh_ind (fun k hk s b h => ⟨?_, ?_, ?_⟩)
  · rintro x1 x2 x3 x4 x5 M rfl
    rw [sk_inBoth_14] at h
    rcases gI_or h with h | h
    · obtain ⟨g1, h⟩ := gI_gd h
      exact gFr_t (gFr_a (gFr_r [750] [] _) (.head _) (by decide)) ((hk _ _ h).1 _ _ _ _ _ _ rfl) (fun _ z => z) (fun _ z => z)
    · exact gFr_t (gFr_r [750] [] _) ((hk _ _ h).2.1 _ _ _ _ _ _ rfl) (fun _ z => z) (fun _ z => z)
  · rintro x1 x2 x3 x4 x5 M rfl
    rw [sk_inBoth_40] at h
    rcases gI_or h with h | h
    · rw [← Option.some.inj h]
      exact (gFr_r [750] [] _)
    · exact gFr_t (gFr_r [750] [] _) ((hk _ _ h).2.2 _ _ _ _ _ _ _ rfl) (fun _ z => z) (fun _ z => z)
  · rintro x1 x2 x3 x4 x5 x6 M rfl
    rw [sk_inBoth_51] at h
    rcases gI_or h with h | h
    · exact gFr_t (gFr_r [750] [] _) ((hk _ _ h).2.1 _ _ _ _ _ _ rfl) (fun _ z => z) (fun _ z => z)
    · obtain ⟨r71, e71, h⟩ := gI_bd h
      obtain ⟨r77, e77, h⟩ := gI_bd h
      rcases gI_or h with h | h
      · obtain ⟨g7, h⟩ := gI_gd h
        obtain ⟨g8, h⟩ := gI_gd h
        exact gFr_t (gFr_a (gFr_r [750] [] _) (.head _) (by decide)) ((hk _ _ h).2.2 _ _ _ _ _ _ _ rfl) (fun _ z => z) (fun _ z => z)
      · obtain ⟨g3, h⟩ := gI_gd h
        obtain ⟨g4, h⟩ := gI_gd h
        obtain ⟨r135, e135, h⟩ := gI_bd h
        obtain ⟨g5, h⟩ := gI_gd h
        exact gFr_t (gFr_a (gFr_r [750] [] _) (.head _) (by decide)) ((hk _ _ h).2.2 _ _ _ _ _ _ _ rfl) (fun _ z => z) (fun _ z => z)
theorem fr_inBoth_14 {M : gM} {x1 x2 x3 x4 x5 : Int} {b : Int × gM} (h : F_inBoth_14 M x1 x2 x3 x4 x5 = some b) : gFr [750] [] M b.2 :=
  (frp_inBoth _ _ h).1 _ _ _ _ _ _ rfl
theorem fr_inBoth_40 {M : gM} {x1 x2 x3 x4 x5 : Int} {b : Int × gM} (h : F_inBoth_40 M x1 x2 x3 x4 x5 = some b) : gFr [750] [] M b.2 :=
  (frp_inBoth _ _ h).2.1 _ _ _ _ _ _ rfl
theorem fr_inBoth_51 {M : gM} {x1 x2 x3 x4 x5 x6 : Int} {b : Int × gM} (h : F_inBoth_51 M x1 x2 x3 x4 x5 x6 = some b) : gFr [750] [] M b.2 :=
  (frp_inBoth _ _ h).2.2 _ _ _ _ _ _ _ rfl
theorem fr_inBoth {M : gM} {a1 a2 : Int} {b : Int × gM} (h : F_inBoth M a1 a2 = some b) : gFr [750] [] M b.2 := by
  rw [eq_inBoth] at h
  obtain ⟨r1, e1, h⟩ := gI_bd h
  obtain ⟨r6, e6, h⟩ := gI_bd h
  exact gFr_t (gFr_r [750] [] _) (fr_inBoth_14 h) (fun _ z => z) (fun _ z => z)
theorem okp_inBoth {sh : gS} : ∀ (s : Nat × List Int × gM) (b : Int × gM), gWh (st_inBoth) s = some b → (∀ (x1 x2 x3 x4 x5 : Int) (M : gM), s = (0, [x1, x2, x3, x4, x5], M) → gOK sh M → gA (gr 2 45) yX12_inBoth cX12_inBoth 7 (some (.int)) (gPq sh (some (0, b.1)) b.2) (0, 0) 14 [(4, 711), (0, x1), (0, x2), (0, x3), (0, x4), (0, x5), (9, 0)] [] sh M) ∧ (∀ (x1 x2 x3 x4 x5 : Int) (M : gM), s = (1, [x1, x2, x3, x4, x5], M) → gOK sh M → gA (gr 2 45) yX12_inBoth cX12_inBoth 7 (some (.int)) (gPq sh (some (0, b.1)) b.2) (0, 0) 40 [(4, 711), (0, x1), (0, x2), (0, x3), (0, x4), (0, x5), (9, 0)] [] sh M) ∧ (∀ (x1 x2 x3 x4 x5 x6 : Int) (M : gM), s = (2, [x1, x2, x3, x4, x5, x6], M) → gOK sh M → gA (gr 2 45) yX12_inBoth cX12_inBoth 7 (some (.int)) (gPq sh (some (0, b.1)) b.2) (0, 0) 51 [(4, 711), (0, x1), (0, x2), (0, x3), (0, x4), (0, x5), (0, x6)] [] sh M) := by
  refine gWh_ind (fun k hk s b h => ⟨?_, ?_, ?_⟩)
  · rintro x1 x2 x3 x4 x5 M rfl hOK
    rw [sk_inBoth_14] at h
    refine g_iload (q0 := 16) (j := 5) rfl dX12_inBoth_14 rfl ?_
    refine g_bipush (q0 := 18) rfl dX12_inBoth_16 (k := ?_)
    refine g_icmp_ge (q0 := 21) (tgt := 35) rfl dX12_inBoth_18 (by decide) (fun h18 => ?_) (fun h18 => ?_)
    · replace h := gI_neg (Int.not_lt.mpr h18) h
      refine g_iload_n (q0 := 36) (j := 3) rfl dX12_inBoth_35 rfl ?_
      refine g_iconst (q0 := 37) rfl dX12_inBoth_36 (k := ?_)
      refine g_isubw (q0 := 38) rfl dX12_inBoth_37 ?_
      refine g_istore (q0 := 40) (j := 5) (lv2 := [_, _, _, _, _, _, _]) rfl dX12_inBoth_38 (by decide) rfl rfl ?_
      exact (hk _ _ h).2.1 _ _ _ _ _ _ rfl hOK
    · replace h := gI_pos h18 h
      refine g_aload_n (q0 := 22) (j := 0) rfl dX12_inBoth_21 rfl ?_
      refine g_getp (q0 := 25) (b := 750) rfl ff_X12_126 dX12_inBoth_22 rfl hOK (by decide) (sh_711 hOK) rfl (by decide) ?_
      refine g_iload (q0 := 27) (j := 5) rfl dX12_inBoth_25 rfl ?_
      refine g_iconst (q0 := 28) rfl dX12_inBoth_27 (k := ?_)
      obtain ⟨g1, h⟩ := gI_gd h
      refine g_iast (q0 := 29) rfl dX12_inBoth_28 (sh_750 hOK) g1.1 g1.2 ?_
      have hOK2 : gOK sh (gU M 750 x5 0) := gOK_i hOK (sh_750 hOK)
      refine g_iincw (q0 := 32) (lv2 := [_, _, _, _, _, _, _]) rfl dX12_inBoth_29 rfl (by decide) rfl rfl ?_
      refine g_goto (tgt := 14) dX12_inBoth_32 (by decide) ?_
      exact (hk _ _ h).1 _ _ _ _ _ _ rfl hOK2
  · rintro x1 x2 x3 x4 x5 M rfl hOK
    rw [sk_inBoth_40] at h
    refine g_iload (q0 := 42) (j := 5) rfl dX12_inBoth_40 rfl ?_
    refine g_if_lt (q0 := 45) (tgt := 151) rfl dX12_inBoth_42 (by decide) (fun h42 => ?_) (fun h42 => ?_)
    · replace h := gI_pos h42 h
      refine g_aload_n (q0 := 152) (j := 0) rfl dX12_inBoth_151 rfl ?_
      refine g_getp (q0 := 155) (b := 750) rfl ff_X12_126 dX12_inBoth_152 rfl hOK (by decide) (sh_711 hOK) rfl (by decide) ?_
      refine g_iconst (q0 := 156) rfl dX12_inBoth_155 (k := ?_)
      refine g_iald (q0 := 157) rfl dX12_inBoth_156 (sh_750 hOK) (by decide) (by decide) ?_
      rw [← Option.some.inj h]
      refine g_ireturn dX12_inBoth_157 rfl ⟨Nat.zero_le _, Nat.zero_le _⟩ ?_
      exact ⟨rfl, rfl, rfl⟩
    · replace h := gI_neg (Int.not_lt.mpr h42) h
      refine g_iload (q0 := 47) (j := 4) rfl dX12_inBoth_45 rfl ?_
      refine g_iconst (q0 := 48) rfl dX12_inBoth_47 (k := ?_)
      refine g_isubw (q0 := 49) rfl dX12_inBoth_48 ?_
      refine g_istore (q0 := 51) (j := 6) (lv2 := [_, _, _, _, _, _, _]) rfl dX12_inBoth_49 (by decide) rfl rfl ?_
      exact (hk _ _ h).2.2 _ _ _ _ _ _ _ rfl hOK
  · rintro x1 x2 x3 x4 x5 x6 M rfl hOK
    rw [sk_inBoth_51] at h
    refine g_iload (q0 := 53) (j := 6) rfl dX12_inBoth_51 rfl ?_
    refine g_if_lt (q0 := 56) (tgt := 145) rfl dX12_inBoth_53 (by decide) (fun h53 => ?_) (fun h53 => ?_)
    · replace h := gI_pos h53 h
      refine g_iincw (q0 := 148) (lv2 := [_, _, _, _, _, _, _]) rfl dX12_inBoth_145 rfl (by decide) rfl rfl ?_
      refine g_goto (tgt := 40) dX12_inBoth_148 (by decide) ?_
      refine gA_jk (lv1 := [_, _, _, _, _, _, (9, 0)]) ⟨.inl rfl, .inl rfl, .inl rfl, .inl rfl, .inl rfl, .inl rfl, .inr rfl, trivial⟩ ?_
      exact (hk _ _ h).2.1 _ _ _ _ _ _ rfl hOK
    · replace h := gI_neg (Int.not_lt.mpr h53) h
      refine g_aload_n (q0 := 57) (j := 0) rfl dX12_inBoth_56 rfl ?_
      refine g_getp (q0 := 60) (b := 750) rfl ff_X12_126 dX12_inBoth_57 rfl hOK (by decide) (sh_711 hOK) rfl (by decide) ?_
      refine g_bipush (q0 := 62) rfl dX12_inBoth_60 (k := ?_)
      refine g_iload (q0 := 64) (j := 5) rfl dX12_inBoth_62 rfl ?_
      refine g_imulw (q0 := 65) rfl dX12_inBoth_64 ?_
      refine g_iload (q0 := 67) (j := 6) rfl dX12_inBoth_65 rfl ?_
      refine g_iaddw (q0 := 68) rfl dX12_inBoth_67 ?_
      refine g_iload_n (q0 := 69) (j := 1) rfl dX12_inBoth_68 rfl ?_
      refine g_iload (q0 := 71) (j := 5) rfl dX12_inBoth_69 rfl ?_
      obtain ⟨r71, e71, h⟩ := gI_bd h
      refine g_callSq1 (as := [_, _]) (rest := [_, _]) mt_X12_digitAt ms_X12_digitAt ml_X12_715 dX12_inBoth_71 (q0 := 74) rfl rfl (ok_digitAt hOK e71) rfl ⟨by decide, by decide⟩ (Nat.le_of_ble_eq_true rfl) ⟨Nat.zero_le _, Nat.zero_le _⟩ ?_
      refine g_iload_n (q0 := 75) (j := 2) rfl dX12_inBoth_74 rfl ?_
      refine g_iload (q0 := 77) (j := 6) rfl dX12_inBoth_75 rfl ?_
      obtain ⟨r77, e77, h⟩ := gI_bd h
      refine g_callSq1 (as := [_, _]) (rest := [_, _, _]) mt_X12_digitAt ms_X12_digitAt ml_X12_715 dX12_inBoth_77 (q0 := 80) rfl rfl (ok_digitAt hOK e77) rfl ⟨by decide, by decide⟩ (Nat.le_of_ble_eq_true rfl) ⟨Nat.zero_le _, Nat.zero_le _⟩ ?_
      refine g_icmp_ne (q0 := 83) (tgt := 104) rfl dX12_inBoth_80 (by decide) (fun h80 => ?_) (fun h80 => ?_)
      · replace h := gI_neg h80 h
        refine g_aload_n (q0 := 105) (j := 0) rfl dX12_inBoth_104 rfl ?_
        refine g_getp (q0 := 108) (b := 750) rfl ff_X12_126 dX12_inBoth_105 rfl hOK (by decide) (sh_711 hOK) rfl (by decide) ?_
        refine g_bipush (q0 := 110) rfl dX12_inBoth_108 (k := ?_)
        refine g_iload (q0 := 112) (j := 5) rfl dX12_inBoth_110 rfl ?_
        refine g_imulw (q0 := 113) rfl dX12_inBoth_112 ?_
        refine g_bipush (q0 := 115) rfl dX12_inBoth_113 (k := ?_)
        refine g_iaddw (q0 := 116) rfl dX12_inBoth_115 ?_
        refine g_iload (q0 := 118) (j := 6) rfl dX12_inBoth_116 rfl ?_
        refine g_iaddw (q0 := 119) rfl dX12_inBoth_118 ?_
        obtain ⟨g3, h⟩ := gI_gd h
        refine g_iald (q0 := 120) rfl dX12_inBoth_119 (sh_750 hOK) g3.1 g3.2 ?_
        refine g_aload_n (q0 := 121) (j := 0) rfl dX12_inBoth_120 rfl ?_
        refine g_getp (q0 := 124) (b := 750) rfl ff_X12_126 dX12_inBoth_121 rfl hOK (by decide) (sh_711 hOK) rfl (by decide) ?_
        refine g_bipush (q0 := 126) rfl dX12_inBoth_124 (k := ?_)
        refine g_iload (q0 := 128) (j := 5) rfl dX12_inBoth_126 rfl ?_
        refine g_imulw (q0 := 129) rfl dX12_inBoth_128 ?_
        refine g_iload (q0 := 131) (j := 6) rfl dX12_inBoth_129 rfl ?_
        refine g_iaddw (q0 := 132) rfl dX12_inBoth_131 ?_
        refine g_iconst (q0 := 133) rfl dX12_inBoth_132 (k := ?_)
        refine g_iaddw (q0 := 134) rfl dX12_inBoth_133 ?_
        obtain ⟨g4, h⟩ := gI_gd h
        refine g_iald (q0 := 135) rfl dX12_inBoth_134 (sh_750 hOK) g4.1 g4.2 ?_
        obtain ⟨r135, e135, h⟩ := gI_bd h
        refine g_callSq1 (as := [_, _]) (rest := [_, _]) mt_X12_max ms_X12_max ml_X12_217 dX12_inBoth_135 (q0 := 138) rfl rfl (ok_max hOK e135) rfl ⟨by decide, by decide⟩ (Nat.le_of_ble_eq_true rfl) ⟨Nat.zero_le _, Nat.zero_le _⟩ ?_
        obtain ⟨g5, h⟩ := gI_gd h
        refine g_iast (q0 := 139) rfl dX12_inBoth_138 (sh_750 hOK) g5.1 g5.2 ?_
        have hOK6 : gOK sh (gU M 750 (gw32 ((gw32 ((7 : Int) * x5)) + x6)) r135) := gOK_i hOK (sh_750 hOK)
        refine g_iincw (q0 := 142) (lv2 := [_, _, _, _, _, _, _]) rfl dX12_inBoth_139 rfl (by decide) rfl rfl ?_
        refine g_goto (tgt := 51) dX12_inBoth_142 (by decide) ?_
        exact (hk _ _ h).2.2 _ _ _ _ _ _ _ rfl hOK6
      · replace h := gI_pos h80 h
        refine g_iconst (q0 := 84) rfl dX12_inBoth_83 (k := ?_)
        refine g_aload_n (q0 := 85) (j := 0) rfl dX12_inBoth_84 rfl ?_
        refine g_getp (q0 := 88) (b := 750) rfl ff_X12_126 dX12_inBoth_85 rfl hOK (by decide) (sh_711 hOK) rfl (by decide) ?_
        refine g_bipush (q0 := 90) rfl dX12_inBoth_88 (k := ?_)
        refine g_iload (q0 := 92) (j := 5) rfl dX12_inBoth_90 rfl ?_
        refine g_imulw (q0 := 93) rfl dX12_inBoth_92 ?_
        refine g_bipush (q0 := 95) rfl dX12_inBoth_93 (k := ?_)
        refine g_iaddw (q0 := 96) rfl dX12_inBoth_95 ?_
        refine g_iload (q0 := 98) (j := 6) rfl dX12_inBoth_96 rfl ?_
        refine g_iaddw (q0 := 99) rfl dX12_inBoth_98 ?_
        obtain ⟨g7, h⟩ := gI_gd h
        refine g_iald (q0 := 100) rfl dX12_inBoth_99 (sh_750 hOK) g7.1 g7.2 ?_
        refine g_iaddw (q0 := 101) rfl dX12_inBoth_100 ?_
        refine g_goto (tgt := 138) dX12_inBoth_101 (by decide) ?_
        obtain ⟨g8, h⟩ := gI_gd h
        refine g_iast (q0 := 139) rfl dX12_inBoth_138 (sh_750 hOK) g8.1 g8.2 ?_
        have hOK9 : gOK sh (gU M 750 (gw32 ((gw32 ((7 : Int) * x5)) + x6)) (gw32 ((1 : Int) + (M 750 (gw32 ((gw32 ((gw32 ((7 : Int) * x5)) + (8 : Int))) + x6)))))) := gOK_i hOK (sh_750 hOK)
        refine g_iincw (q0 := 142) (lv2 := [_, _, _, _, _, _, _]) rfl dX12_inBoth_139 rfl (by decide) rfl rfl ?_
        refine g_goto (tgt := 51) dX12_inBoth_142 (by decide) ?_
        exact (hk _ _ h).2.2 _ _ _ _ _ _ _ rfl hOK9
theorem ok_inBoth_14 {sh : gS} {M : gM} {x1 x2 x3 x4 x5 : Int} {b : Int × gM} (hOK : gOK sh M) (h : F_inBoth_14 M x1 x2 x3 x4 x5 = some b) : gA (gr 2 45) yX12_inBoth cX12_inBoth 7 (some (.int)) (gPq sh (some (0, b.1)) b.2) (0, 0) 14 [(4, 711), (0, x1), (0, x2), (0, x3), (0, x4), (0, x5), (9, 0)] [] sh M :=
  (okp_inBoth _ _ h).1 _ _ _ _ _ _ rfl hOK
theorem ok_inBoth_40 {sh : gS} {M : gM} {x1 x2 x3 x4 x5 : Int} {b : Int × gM} (hOK : gOK sh M) (h : F_inBoth_40 M x1 x2 x3 x4 x5 = some b) : gA (gr 2 45) yX12_inBoth cX12_inBoth 7 (some (.int)) (gPq sh (some (0, b.1)) b.2) (0, 0) 40 [(4, 711), (0, x1), (0, x2), (0, x3), (0, x4), (0, x5), (9, 0)] [] sh M :=
  (okp_inBoth _ _ h).2.1 _ _ _ _ _ _ rfl hOK
theorem ok_inBoth_51 {sh : gS} {M : gM} {x1 x2 x3 x4 x5 x6 : Int} {b : Int × gM} (hOK : gOK sh M) (h : F_inBoth_51 M x1 x2 x3 x4 x5 x6 = some b) : gA (gr 2 45) yX12_inBoth cX12_inBoth 7 (some (.int)) (gPq sh (some (0, b.1)) b.2) (0, 0) 51 [(4, 711), (0, x1), (0, x2), (0, x3), (0, x4), (0, x5), (0, x6)] [] sh M :=
  (okp_inBoth _ _ h).2.2 _ _ _ _ _ _ _ rfl hOK
theorem ok_inBoth {sh : gS} {M : gM} {a1 a2 : Int} {b : Int × gM} (hOK : gOK sh M) (h : F_inBoth M a1 a2 = some b) : gC (gr 2 45) yX12_inBoth cX12_inBoth 7 (some (.int)) [(4, 711), (0, a1), (0, a2)] sh M (gPq sh (some (0, b.1)) b.2) := by
  rw [eq_inBoth] at h
  refine gC_ofA (lv := [_, _, _, _, _, _, _]) (by decide +kernel) (Nat.le_of_ble_eq_true rfl) rfl (fun hMw hav => ?_)
  refine g_iload_n (q0 := 1) (j := 1) rfl dX12_inBoth_0 rfl ?_
  obtain ⟨r1, e1, h⟩ := gI_bd h
  refine g_callSq1 (as := [_]) (rest := []) mt_X12_digits ms_X12_digits ml_X12_486 dX12_inBoth_1 (q0 := 4) rfl rfl (ok_digits hOK e1) rfl ⟨by decide, by decide⟩ (Nat.le_of_ble_eq_true rfl) ⟨Nat.zero_le _, Nat.zero_le _⟩ ?_
  refine g_istore_n (q0 := 5) (j := 3) (lv2 := [_, _, _, _, _, _, _]) rfl dX12_inBoth_4 (by decide) rfl rfl ?_
  refine g_iload_n (q0 := 6) (j := 2) rfl dX12_inBoth_5 rfl ?_
  obtain ⟨r6, e6, h⟩ := gI_bd h
  refine g_callSq1 (as := [_]) (rest := []) mt_X12_digits ms_X12_digits ml_X12_486 dX12_inBoth_6 (q0 := 9) rfl rfl (ok_digits hOK e6) rfl ⟨by decide, by decide⟩ (Nat.le_of_ble_eq_true rfl) ⟨Nat.zero_le _, Nat.zero_le _⟩ ?_
  refine g_istore (q0 := 11) (j := 4) (lv2 := [_, _, _, _, _, _, _]) rfl dX12_inBoth_9 (by decide) rfl rfl ?_
  refine g_iconst (q0 := 12) rfl dX12_inBoth_11 (k := ?_)
  refine g_istore (q0 := 14) (j := 5) (lv2 := [_, _, _, _, _, _, _]) rfl dX12_inBoth_12 (by decide) rfl rfl ?_
  exact ok_inBoth_14 hOK h
-- ==== likenessOf
theorem dX12_likenessOf_0 : decode cX12_likenessOf 0 = .ok (.iconst 2, 1) := by decide +kernel
theorem dX12_likenessOf_1 : decode cX12_likenessOf 1 = .ok (.aload_n 0, 1) := by decide +kernel
theorem dX12_likenessOf_2 : decode cX12_likenessOf 2 = .ok (.iload_n 1, 1) := by decide +kernel
theorem dX12_likenessOf_3 : decode cX12_likenessOf 3 = .ok (.iload_n 2, 1) := by decide +kernel
theorem dX12_likenessOf_4 : decode cX12_likenessOf 4 = .ok (.invokevirtual 718, 3) := by decide +kernel
theorem dX12_likenessOf_7 : decode cX12_likenessOf 7 = .ok (.imul, 1) := by decide +kernel
theorem dX12_likenessOf_8 : decode cX12_likenessOf 8 = .ok (.i2f, 1) := by decide +kernel
theorem dX12_likenessOf_9 : decode cX12_likenessOf 9 = .ok (.fstore_n 3, 1) := by decide +kernel
theorem dX12_likenessOf_10 : decode cX12_likenessOf 10 = .ok (.iload_n 1, 1) := by decide +kernel
theorem dX12_likenessOf_11 : decode cX12_likenessOf 11 = .ok (.invokestatic 486, 3) := by decide +kernel
theorem dX12_likenessOf_14 : decode cX12_likenessOf 14 = .ok (.iload_n 2, 1) := by decide +kernel
theorem dX12_likenessOf_15 : decode cX12_likenessOf 15 = .ok (.invokestatic 486, 3) := by decide +kernel
theorem dX12_likenessOf_18 : decode cX12_likenessOf 18 = .ok (.iadd, 1) := by decide +kernel
theorem dX12_likenessOf_19 : decode cX12_likenessOf 19 = .ok (.i2f, 1) := by decide +kernel
theorem dX12_likenessOf_20 : decode cX12_likenessOf 20 = .ok (.fstore 4, 2) := by decide +kernel
theorem dX12_likenessOf_22 : decode cX12_likenessOf 22 = .ok (.fload_n 3, 1) := by decide +kernel
theorem dX12_likenessOf_23 : decode cX12_likenessOf 23 = .ok (.fload 4, 2) := by decide +kernel
theorem dX12_likenessOf_25 : decode cX12_likenessOf 25 = .ok (.fdiv, 1) := by decide +kernel
theorem dX12_likenessOf_26 : decode cX12_likenessOf 26 = .ok (.freturn, 1) := by decide +kernel
noncomputable def F_likenessOf (M : gM) (a1 a2 : Int) : Option (Int × gM) := (Option.bind (F_inBoth M a1 a2) (fun p4 =>
    (Option.bind (F_digits a1) (fun r11 =>
      (Option.bind (F_digits a2) (fun r15 =>
        (if (FP.fdiv (gu (gfl (FP.i2f (Int32.ofInt (gw32 ((2 : Int) * p4.1)))))) (gu (gfl (FP.i2f (Int32.ofInt (gw32 (r11 + r15))))))) &&& 0x7fffffff ≤ (0x7f800000 : UInt32) then
          some ((gfl (FP.fdiv (gu (gfl (FP.i2f (Int32.ofInt (gw32 ((2 : Int) * p4.1)))))) (gu (gfl (FP.i2f (Int32.ofInt (gw32 (r11 + r15)))))))), p4.2)
        else none)))))))
theorem eq_likenessOf (M : gM) (a1 a2 : Int) : F_likenessOf M a1 a2 = (Option.bind (F_inBoth M a1 a2) (fun p4 =>
    (Option.bind (F_digits a1) (fun r11 =>
      (Option.bind (F_digits a2) (fun r15 =>
        (if (FP.fdiv (gu (gfl (FP.i2f (Int32.ofInt (gw32 ((2 : Int) * p4.1)))))) (gu (gfl (FP.i2f (Int32.ofInt (gw32 (r11 + r15))))))) &&& 0x7fffffff ≤ (0x7f800000 : UInt32) then
          some ((gfl (FP.fdiv (gu (gfl (FP.i2f (Int32.ofInt (gw32 ((2 : Int) * p4.1)))))) (gu (gfl (FP.i2f (Int32.ofInt (gw32 (r11 + r15)))))))), p4.2)
        else none))))))) := rfl
theorem fr_likenessOf {M : gM} {a1 a2 : Int} {b : Int × gM} (h : F_likenessOf M a1 a2 = some b) : gFr [750] [] M b.2 := by
  rw [eq_likenessOf] at h
  obtain ⟨p4, e4, h⟩ := gI_bd h
  obtain ⟨r11, e11, h⟩ := gI_bd h
  obtain ⟨r15, e15, h⟩ := gI_bd h
  obtain ⟨g2, h⟩ := gI_gd h
  rw [← Option.some.inj h]
  exact (gFr_t (gFr_r [750] [] _) (fr_inBoth (b := p4) e4) (by first | decide | simp) (by decide))
theorem ok_likenessOf {sh : gS} {M : gM} {a1 a2 : Int} {b : Int × gM} (hOK : gOK sh M) (h : F_likenessOf M a1 a2 = some b) : gC (gr 3 71) yX12_likenessOf cX12_likenessOf 5 (some (.float)) [(4, 711), (0, a1), (0, a2)] sh M (gPq sh (some (2, b.1)) b.2) := by
  rw [eq_likenessOf] at h
  refine gC_ofA (lv := [_, _, _, _, _]) (by decide +kernel) (Nat.le_of_ble_eq_true rfl) rfl (fun hMw hav => ?_)
  refine g_iconst (q0 := 1) rfl dX12_likenessOf_0 (k := ?_)
  refine g_aload_n (q0 := 2) (j := 0) rfl dX12_likenessOf_1 rfl ?_
  refine g_iload_n (q0 := 3) (j := 1) rfl dX12_likenessOf_2 rfl ?_
  refine g_iload_n (q0 := 4) (j := 2) rfl dX12_likenessOf_3 rfl ?_
  obtain ⟨p4, e4, h⟩ := gI_bd h
  refine g_callVq1 (as := [_, _]) (rest := [_]) mt_X12_inBoth mi_X12_inBoth se_X12_inBoth ml_X12_718 dX12_likenessOf_4 (q0 := 7) rfl rfl (sh_711 hOK) rfl rfl (ok_inBoth hOK e4) rfl ⟨by decide, by decide⟩ (Nat.le_of_ble_eq_true rfl) ⟨Nat.zero_le _, Nat.zero_le _⟩ ?_
  have hOK1 : gOK sh p4.2 := gOK_fr hOK (fr_inBoth (b := p4) e4) (by first | decide | (intro a ha; simp only [List.mem_cons, List.not_mem_nil, or_false] at ha; omega)) (by decide)
  refine g_imulw (q0 := 8) rfl dX12_likenessOf_7 ?_
  refine g_i2f (q0 := 9) rfl dX12_likenessOf_8 ?_
  refine g_fstore_n (q0 := 10) (j := 3) (lv2 := [_, _, _, _, _]) rfl dX12_likenessOf_9 (by decide) rfl rfl ?_
  refine g_iload_n (q0 := 11) (j := 1) rfl dX12_likenessOf_10 rfl ?_
  obtain ⟨r11, e11, h⟩ := gI_bd h
  refine g_callSq1 (as := [_]) (rest := []) mt_X12_digits ms_X12_digits ml_X12_486 dX12_likenessOf_11 (q0 := 14) rfl rfl (ok_digits hOK1 e11) rfl ⟨by decide, by decide⟩ (Nat.le_of_ble_eq_true rfl) ⟨Nat.zero_le _, Nat.zero_le _⟩ ?_
  refine g_iload_n (q0 := 15) (j := 2) rfl dX12_likenessOf_14 rfl ?_
  obtain ⟨r15, e15, h⟩ := gI_bd h
  refine g_callSq1 (as := [_]) (rest := [_]) mt_X12_digits ms_X12_digits ml_X12_486 dX12_likenessOf_15 (q0 := 18) rfl rfl (ok_digits hOK1 e15) rfl ⟨by decide, by decide⟩ (Nat.le_of_ble_eq_true rfl) ⟨Nat.zero_le _, Nat.zero_le _⟩ ?_
  refine g_iaddw (q0 := 19) rfl dX12_likenessOf_18 ?_
  refine g_i2f (q0 := 20) rfl dX12_likenessOf_19 ?_
  refine g_fstore (q0 := 22) (j := 4) (lv2 := [_, _, _, _, _]) rfl dX12_likenessOf_20 (by decide) rfl rfl ?_
  refine g_fload_n (q0 := 23) (j := 3) rfl dX12_likenessOf_22 rfl ?_
  refine g_fload (q0 := 25) (j := 4) rfl dX12_likenessOf_23 rfl ?_
  obtain ⟨g2, h⟩ := gI_gd h
  refine g_fdiv (q0 := 26) rfl dX12_likenessOf_25 g2 ?_
  rw [← Option.some.inj h]
  refine g_freturn dX12_likenessOf_26 rfl ⟨Nat.zero_le _, Nat.zero_le _⟩ ?_
  exact ⟨rfl, rfl, rfl⟩
-- ==== isPaired
theorem dX12_isPaired_0 : decode cX12_isPaired 0 = .ok (.iconst 0, 1) := by decide +kernel
theorem dX12_isPaired_1 : decode cX12_isPaired 1 = .ok (.istore_n 3, 1) := by decide +kernel
theorem dX12_isPaired_2 : decode cX12_isPaired 2 = .ok (.iload_n 3, 1) := by decide +kernel
theorem dX12_isPaired_3 : decode cX12_isPaired 3 = .ok (.aload_n 0, 1) := by decide +kernel
theorem dX12_isPaired_4 : decode cX12_isPaired 4 = .ok (.getfield 721, 3) := by decide +kernel
theorem dX12_isPaired_7 : decode cX12_isPaired 7 = .ok (.if_icmp .ge 18, 3) := by decide +kernel
theorem dX12_isPaired_10 : decode cX12_isPaired 10 = .ok (.aload_n 1, 1) := by decide +kernel
theorem dX12_isPaired_11 : decode cX12_isPaired 11 = .ok (.iload_n 3, 1) := by decide +kernel
theorem dX12_isPaired_12 : decode cX12_isPaired 12 = .ok (.iaload, 1) := by decide +kernel
theorem dX12_isPaired_13 : decode cX12_isPaired 13 = .ok (.iload_n 2, 1) := by decide +kernel
theorem dX12_isPaired_14 : decode cX12_isPaired 14 = .ok (.if_icmp .ne 5, 3) := by decide +kernel
theorem dX12_isPaired_17 : decode cX12_isPaired 17 = .ok (.iconst 1, 1) := by decide +kernel
theorem dX12_isPaired_18 : decode cX12_isPaired 18 = .ok (.ireturn, 1) := by decide +kernel
theorem dX12_isPaired_19 : decode cX12_isPaired 19 = .ok (.iinc 3 1, 3) := by decide +kernel
theorem dX12_isPaired_22 : decode cX12_isPaired 22 = .ok (.goto (-20), 3) := by decide +kernel
theorem dX12_isPaired_25 : decode cX12_isPaired 25 = .ok (.iconst 0, 1) := by decide +kernel
theorem dX12_isPaired_26 : decode cX12_isPaired 26 = .ok (.ireturn, 1) := by decide +kernel
noncomputable def st_isPaired (M : gM) : Nat × List Int → Option ((Nat × List Int) ⊕ (Int))
  | (0, [a1, x2, x3]) => (if x3 < (M 711 59) then
      (if gAx a1 x3 then
        (if (M a1 x3) = x2 then
          some (.inr 1)
        else
          some (.inl (0, [a1, x2, (gw32 (x3 + 1))])))
      else none)
    else
      some (.inr 0))
  | _ => none
theorem sk_isPaired_2 (k : Nat × List Int → Option (Int)) (M : gM) (a1 x2 x3 : Int) : gWk k (st_isPaired M (0, [a1, x2, x3])) = (if x3 < (M 711 59) then
    (if gAx a1 x3 then
      (if (M a1 x3) = x2 then
        some 1
      else
        k (0, [a1, x2, (gw32 (x3 + 1))]))
    else none)
  else
    some 0) := by
  simp only [st_isPaired, gWk_ite, gWk_bind, gWk_inl, gWk_inr, gWk_none]
noncomputable def F_isPaired_2 (M : gM) (a1 x2 x3 : Int) : Option (Int) := gWh (st_isPaired M) (0, [a1, x2, x3])
theorem eq_isPaired_2 (M : gM) (a1 x2 x3 : Int) : F_isPaired_2 M a1 x2 x3 = (if x3 < (M 711 59) then
    (if gAx a1 x3 then
      (if (M a1 x3) = x2 then
        some 1
      else
        F_isPaired_2 M a1 x2 (gw32 (x3 + 1)))
    else none)
  else
    some 0) := (gWh_eq _).trans (sk_isPaired_2 _ M a1 x2 x3)
noncomputable def F_isPaired (M : gM) (a1 a2 : Int) : Option (Int) := F_isPaired_2 M a1 a2 0
theorem eq_isPaired (M : gM) (a1 a2 : Int) : F_isPaired M a1 a2 = F_isPaired_2 M a1 a2 0 := rfl
theorem bop_isPaired {M : gM} : ∀ (s : Nat × List Int) (b : Int), gWh (st_isPaired M) s = some b → (∀ (a1 x2 x3 : Int), s = (0, [a1, x2, x3]) → b = 0 ∨ b = 1) := by
  refine gWh_ind (fun k hk s b h => ?_)
  · rintro a1 x2 x3 rfl
    rw [sk_isPaired_2] at h
    rcases gI_or h with h | h
    · obtain ⟨g1, h⟩ := gI_gd h
      rcases gI_or h with h | h
      · rw [← Option.some.inj h]
        exact (Or.inr rfl)
      · exact (hk _ _ h) _ _ _ rfl
    · rw [← Option.some.inj h]
      exact (Or.inl rfl)
theorem bo_isPaired_2 {M : gM} {a1 x2 x3 : Int} {b : Int} (h : F_isPaired_2 M a1 x2 x3 = some b) : b = 0 ∨ b = 1 :=
  (bop_isPaired _ _ h) _ _ _ rfl
theorem bo_isPaired {M : gM} {a1 a2 : Int} {b : Int} (h : F_isPaired M a1 a2 = some b) : b = 0 ∨ b = 1 := by
  rw [eq_isPaired] at h
  exact bo_isPaired_2 h
theorem okp_isPaired {sh : gS} {M : gM} : ∀ (s : Nat × List Int) (b : Int), gWh (st_isPaired M) s = some b → (∀ (a1 x2 x3 : Int), s = (0, [a1, x2, x3]) → gOK sh M → gA (gr 0 0) yX12_isPaired cX12_isPaired 4 (some (.boolean)) (gPq sh (some (0, b)) M) (0, 0) 2 [(4, 711), (4, a1), (0, x2), (0, x3)] [] sh M) := by
  refine gWh_ind (fun k hk s b h => ?_)
  · rintro a1 x2 x3 rfl hOK
    rw [sk_isPaired_2] at h
    refine g_iload_n (q0 := 3) (j := 3) rfl dX12_isPaired_2 rfl ?_
    refine g_aload_n (q0 := 4) (j := 0) rfl dX12_isPaired_3 rfl ?_
    refine g_getf (q0 := 7) (t := 0) (fi := 59) rfl rfl ff_X12_721 dX12_isPaired_4 rfl (sh_711 hOK) ?_
    refine g_icmp_ge (q0 := 10) (tgt := 25) rfl dX12_isPaired_7 (by decide) (fun h7 => ?_) (fun h7 => ?_)
    · replace h := gI_neg (Int.not_lt.mpr h7) h
      refine g_iconst (q0 := 26) rfl dX12_isPaired_25 (k := ?_)
      rw [← Option.some.inj h]
      refine g_zreturn dX12_isPaired_26 rfl (gnz (Or.inl rfl)) ⟨Nat.zero_le _, Nat.zero_le _⟩ ?_
      exact ⟨rfl, rfl, rfl⟩
    · replace h := gI_pos h7 h
      refine g_aload_n (q0 := 11) (j := 1) rfl dX12_isPaired_10 rfl ?_
      refine g_iload_n (q0 := 12) (j := 3) rfl dX12_isPaired_11 rfl ?_
      obtain ⟨g1, h⟩ := gI_gd h
      obtain ⟨ng1, hsg1, hxg1, hyg1⟩ := gAx_sh hOK g1
      refine g_iald (q0 := 13) rfl dX12_isPaired_12 hsg1 hxg1 hyg1 ?_
      refine g_iload_n (q0 := 14) (j := 2) rfl dX12_isPaired_13 rfl ?_
      refine g_icmp_ne (q0 := 17) (tgt := 19) rfl dX12_isPaired_14 (by decide) (fun h14 => ?_) (fun h14 => ?_)
      · replace h := gI_neg h14 h
        refine g_iincw (q0 := 22) (lv2 := [_, _, _, _]) rfl dX12_isPaired_19 rfl (by decide) rfl rfl ?_
        refine g_goto (tgt := 2) dX12_isPaired_22 (by decide) ?_
        exact (hk _ _ h) _ _ _ rfl hOK
      · replace h := gI_pos h14 h
        refine g_iconst (q0 := 18) rfl dX12_isPaired_17 (k := ?_)
        rw [← Option.some.inj h]
        refine g_zreturn dX12_isPaired_18 rfl (gnz (Or.inr rfl)) ⟨Nat.zero_le _, Nat.zero_le _⟩ ?_
        exact ⟨rfl, rfl, rfl⟩
theorem ok_isPaired_2 {sh : gS} {M : gM} {a1 x2 x3 : Int} {b : Int} (hOK : gOK sh M) (h : F_isPaired_2 M a1 x2 x3 = some b) : gA (gr 0 0) yX12_isPaired cX12_isPaired 4 (some (.boolean)) (gPq sh (some (0, b)) M) (0, 0) 2 [(4, 711), (4, a1), (0, x2), (0, x3)] [] sh M :=
  (okp_isPaired _ _ h) _ _ _ rfl hOK
theorem ok_isPaired {sh : gS} {M : gM} {a1 a2 : Int} {b : Int} (hOK : gOK sh M) (h : F_isPaired M a1 a2 = some b) : gC (gr 0 0) yX12_isPaired cX12_isPaired 4 (some (.boolean)) [(4, 711), (4, a1), (0, a2)] sh M (gPq sh (some (0, b)) M) := by
  rw [eq_isPaired] at h
  refine gC_ofA (lv := [_, _, _, _]) (by decide +kernel) (Nat.le_of_ble_eq_true rfl) rfl (fun hMw hav => ?_)
  refine g_iconst (q0 := 1) rfl dX12_isPaired_0 (k := ?_)
  refine g_istore_n (q0 := 2) (j := 3) (lv2 := [_, _, _, _]) rfl dX12_isPaired_1 (by decide) rfl rfl ?_
  exact ok_isPaired_2 hOK h
-- ==== pairsNext
theorem dX12_pairsNext_0 : decode cX12_pairsNext 0 = .ok (.fconst 0, 1) := by decide +kernel
theorem dX12_pairsNext_1 : decode cX12_pairsNext 1 = .ok (.fstore_n 3, 1) := by decide +kernel
theorem dX12_pairsNext_2 : decode cX12_pairsNext 2 = .ok (.iconst (-1), 1) := by decide +kernel
theorem dX12_pairsNext_3 : decode cX12_pairsNext 3 = .ok (.istore 4, 2) := by decide +kernel
theorem dX12_pairsNext_5 : decode cX12_pairsNext 5 = .ok (.iconst (-1), 1) := by decide +kernel
theorem dX12_pairsNext_6 : decode cX12_pairsNext 6 = .ok (.istore 5, 2) := by decide +kernel
theorem dX12_pairsNext_8 : decode cX12_pairsNext 8 = .ok (.iconst 0, 1) := by decide +kernel
theorem dX12_pairsNext_9 : decode cX12_pairsNext 9 = .ok (.istore 6, 2) := by decide +kernel
theorem dX12_pairsNext_11 : decode cX12_pairsNext 11 = .ok (.iload 6, 2) := by decide +kernel
theorem dX12_pairsNext_13 : decode cX12_pairsNext 13 = .ok (.aload_n 0, 1) := by decide +kernel
theorem dX12_pairsNext_14 : decode cX12_pairsNext 14 = .ok (.getfield 28, 3) := by decide +kernel
theorem dX12_pairsNext_17 : decode cX12_pairsNext 17 = .ok (.iload_n 1, 1) := by decide +kernel
theorem dX12_pairsNext_18 : decode cX12_pairsNext 18 = .ok (.iaload, 1) := by decide +kernel
theorem dX12_pairsNext_19 : decode cX12_pairsNext 19 = .ok (.if_icmp .ge 140, 3) := by decide +kernel
theorem dX12_pairsNext_22 : decode cX12_pairsNext 22 = .ok (.aload_n 0, 1) := by decide +kernel
theorem dX12_pairsNext_23 : decode cX12_pairsNext 23 = .ok (.iload_n 2, 1) := by decide +kernel
theorem dX12_pairsNext_24 : decode cX12_pairsNext 24 = .ok (.aload_n 0, 1) := by decide +kernel
theorem dX12_pairsNext_25 : decode cX12_pairsNext 25 = .ok (.iload_n 1, 1) := by decide +kernel
theorem dX12_pairsNext_26 : decode cX12_pairsNext 26 = .ok (.iload 6, 2) := by decide +kernel
theorem dX12_pairsNext_28 : decode cX12_pairsNext 28 = .ok (.invokevirtual 162, 3) := by decide +kernel
theorem dX12_pairsNext_31 : decode cX12_pairsNext 31 = .ok (.invokevirtual 166, 3) := by decide +kernel
theorem dX12_pairsNext_34 : decode cX12_pairsNext 34 = .ok (.iconst (-1), 1) := by decide +kernel
theorem dX12_pairsNext_35 : decode cX12_pairsNext 35 = .ok (.if_icmp .ne 118, 3) := by decide +kernel
theorem dX12_pairsNext_38 : decode cX12_pairsNext 38 = .ok (.aload_n 0, 1) := by decide +kernel
theorem dX12_pairsNext_39 : decode cX12_pairsNext 39 = .ok (.aload_n 0, 1) := by decide +kernel
theorem dX12_pairsNext_40 : decode cX12_pairsNext 40 = .ok (.getfield 129, 3) := by decide +kernel
theorem dX12_pairsNext_43 : decode cX12_pairsNext 43 = .ok (.iload 6, 2) := by decide +kernel
theorem dX12_pairsNext_45 : decode cX12_pairsNext 45 = .ok (.invokevirtual 724, 3) := by decide +kernel
theorem dX12_pairsNext_48 : decode cX12_pairsNext 48 = .ok (.ifCond .eq 6, 3) := by decide +kernel
theorem dX12_pairsNext_51 : decode cX12_pairsNext 51 = .ok (.goto 102, 3) := by decide +kernel
theorem dX12_pairsNext_54 : decode cX12_pairsNext 54 = .ok (.iconst 0, 1) := by decide +kernel
theorem dX12_pairsNext_55 : decode cX12_pairsNext 55 = .ok (.istore 7, 2) := by decide +kernel
theorem dX12_pairsNext_57 : decode cX12_pairsNext 57 = .ok (.iload 7, 2) := by decide +kernel
theorem dX12_pairsNext_59 : decode cX12_pairsNext 59 = .ok (.aload_n 0, 1) := by decide +kernel
theorem dX12_pairsNext_60 : decode cX12_pairsNext 60 = .ok (.getfield 28, 3) := by decide +kernel
theorem dX12_pairsNext_63 : decode cX12_pairsNext 63 = .ok (.iload_n 2, 1) := by decide +kernel
theorem dX12_pairsNext_64 : decode cX12_pairsNext 64 = .ok (.iaload, 1) := by decide +kernel
theorem dX12_pairsNext_65 : decode cX12_pairsNext 65 = .ok (.if_icmp .ge 88, 3) := by decide +kernel
theorem dX12_pairsNext_68 : decode cX12_pairsNext 68 = .ok (.aload_n 0, 1) := by decide +kernel
theorem dX12_pairsNext_69 : decode cX12_pairsNext 69 = .ok (.iload_n 1, 1) := by decide +kernel
theorem dX12_pairsNext_70 : decode cX12_pairsNext 70 = .ok (.aload_n 0, 1) := by decide +kernel
theorem dX12_pairsNext_71 : decode cX12_pairsNext 71 = .ok (.iload_n 2, 1) := by decide +kernel
theorem dX12_pairsNext_72 : decode cX12_pairsNext 72 = .ok (.iload 7, 2) := by decide +kernel
theorem dX12_pairsNext_74 : decode cX12_pairsNext 74 = .ok (.invokevirtual 162, 3) := by decide +kernel
theorem dX12_pairsNext_77 : decode cX12_pairsNext 77 = .ok (.invokevirtual 166, 3) := by decide +kernel
theorem dX12_pairsNext_80 : decode cX12_pairsNext 80 = .ok (.iconst (-1), 1) := by decide +kernel
theorem dX12_pairsNext_81 : decode cX12_pairsNext 81 = .ok (.if_icmp .ne 66, 3) := by decide +kernel
theorem dX12_pairsNext_84 : decode cX12_pairsNext 84 = .ok (.aload_n 0, 1) := by decide +kernel
theorem dX12_pairsNext_85 : decode cX12_pairsNext 85 = .ok (.aload_n 0, 1) := by decide +kernel
theorem dX12_pairsNext_86 : decode cX12_pairsNext 86 = .ok (.getfield 132, 3) := by decide +kernel
theorem dX12_pairsNext_89 : decode cX12_pairsNext 89 = .ok (.iload 7, 2) := by decide +kernel
theorem dX12_pairsNext_91 : decode cX12_pairsNext 91 = .ok (.invokevirtual 724, 3) := by decide +kernel
theorem dX12_pairsNext_94 : decode cX12_pairsNext 94 = .ok (.ifCond .eq 6, 3) := by decide +kernel
theorem dX12_pairsNext_97 : decode cX12_pairsNext 97 = .ok (.goto 50, 3) := by decide +kernel
theorem dX12_pairsNext_100 : decode cX12_pairsNext 100 = .ok (.aload_n 0, 1) := by decide +kernel
theorem dX12_pairsNext_101 : decode cX12_pairsNext 101 = .ok (.aload_n 0, 1) := by decide +kernel
theorem dX12_pairsNext_102 : decode cX12_pairsNext 102 = .ok (.iload_n 1, 1) := by decide +kernel
theorem dX12_pairsNext_103 : decode cX12_pairsNext 103 = .ok (.iload 6, 2) := by decide +kernel
theorem dX12_pairsNext_105 : decode cX12_pairsNext 105 = .ok (.invokevirtual 169, 3) := by decide +kernel
theorem dX12_pairsNext_108 : decode cX12_pairsNext 108 = .ok (.aload_n 0, 1) := by decide +kernel
theorem dX12_pairsNext_109 : decode cX12_pairsNext 109 = .ok (.iload_n 2, 1) := by decide +kernel
theorem dX12_pairsNext_110 : decode cX12_pairsNext 110 = .ok (.iload 7, 2) := by decide +kernel
theorem dX12_pairsNext_112 : decode cX12_pairsNext 112 = .ok (.invokevirtual 169, 3) := by decide +kernel
theorem dX12_pairsNext_115 : decode cX12_pairsNext 115 = .ok (.invokevirtual 728, 3) := by decide +kernel
theorem dX12_pairsNext_118 : decode cX12_pairsNext 118 = .ok (.fstore 8, 2) := by decide +kernel
theorem dX12_pairsNext_120 : decode cX12_pairsNext 120 = .ok (.fload 8, 2) := by decide +kernel
theorem dX12_pairsNext_122 : decode cX12_pairsNext 122 = .ok (.ldc_w 732, 3) := by decide +kernel
theorem dX12_pairsNext_125 : decode cX12_pairsNext 125 = .ok (.fcmp .l, 1) := by decide +kernel
theorem dX12_pairsNext_126 : decode cX12_pairsNext 126 = .ok (.ifCond .lt 21, 3) := by decide +kernel
theorem dX12_pairsNext_129 : decode cX12_pairsNext 129 = .ok (.fload 8, 2) := by decide +kernel
theorem dX12_pairsNext_131 : decode cX12_pairsNext 131 = .ok (.fload_n 3, 1) := by decide +kernel
theorem dX12_pairsNext_132 : decode cX12_pairsNext 132 = .ok (.fcmp .l, 1) := by decide +kernel
theorem dX12_pairsNext_133 : decode cX12_pairsNext 133 = .ok (.ifCond .le 14, 3) := by decide +kernel
theorem dX12_pairsNext_136 : decode cX12_pairsNext 136 = .ok (.fload 8, 2) := by decide +kernel
theorem dX12_pairsNext_138 : decode cX12_pairsNext 138 = .ok (.fstore_n 3, 1) := by decide +kernel
theorem dX12_pairsNext_139 : decode cX12_pairsNext 139 = .ok (.iload 6, 2) := by decide +kernel
theorem dX12_pairsNext_141 : decode cX12_pairsNext 141 = .ok (.istore 4, 2) := by decide +kernel
theorem dX12_pairsNext_143 : decode cX12_pairsNext 143 = .ok (.iload 7, 2) := by decide +kernel
theorem dX12_pairsNext_145 : decode cX12_pairsNext 145 = .ok (.istore 5, 2) := by decide +kernel
theorem dX12_pairsNext_147 : decode cX12_pairsNext 147 = .ok (.iinc 7 1, 3) := by decide +kernel
theorem dX12_pairsNext_150 : decode cX12_pairsNext 150 = .ok (.goto (-93), 3) := by decide +kernel
theorem dX12_pairsNext_153 : decode cX12_pairsNext 153 = .ok (.iinc 6 1, 3) := by decide +kernel
theorem dX12_pairsNext_156 : decode cX12_pairsNext 156 = .ok (.goto (-145), 3) := by decide +kernel
theorem dX12_pairsNext_159 : decode cX12_pairsNext 159 = .ok (.iload 4, 2) := by decide +kernel
theorem dX12_pairsNext_161 : decode cX12_pairsNext 161 = .ok (.iconst (-1), 1) := by decide +kernel
theorem dX12_pairsNext_162 : decode cX12_pairsNext 162 = .ok (.if_icmp .ne 5, 3) := by decide +kernel
theorem dX12_pairsNext_165 : decode cX12_pairsNext 165 = .ok (.iconst 0, 1) := by decide +kernel
theorem dX12_pairsNext_166 : decode cX12_pairsNext 166 = .ok (.ireturn, 1) := by decide +kernel
theorem dX12_pairsNext_167 : decode cX12_pairsNext 167 = .ok (.aload_n 0, 1) := by decide +kernel
theorem dX12_pairsNext_168 : decode cX12_pairsNext 168 = .ok (.getfield 129, 3) := by decide +kernel
theorem dX12_pairsNext_171 : decode cX12_pairsNext 171 = .ok (.aload_n 0, 1) := by decide +kernel
theorem dX12_pairsNext_172 : decode cX12_pairsNext 172 = .ok (.getfield 721, 3) := by decide +kernel
theorem dX12_pairsNext_175 : decode cX12_pairsNext 175 = .ok (.iload 4, 2) := by decide +kernel
theorem dX12_pairsNext_177 : decode cX12_pairsNext 177 = .ok (.iastore, 1) := by decide +kernel
theorem dX12_pairsNext_178 : decode cX12_pairsNext 178 = .ok (.aload_n 0, 1) := by decide +kernel
theorem dX12_pairsNext_179 : decode cX12_pairsNext 179 = .ok (.getfield 132, 3) := by decide +kernel
theorem dX12_pairsNext_182 : decode cX12_pairsNext 182 = .ok (.aload_n 0, 1) := by decide +kernel
theorem dX12_pairsNext_183 : decode cX12_pairsNext 183 = .ok (.getfield 721, 3) := by decide +kernel
theorem dX12_pairsNext_186 : decode cX12_pairsNext 186 = .ok (.iload 5, 2) := by decide +kernel
theorem dX12_pairsNext_188 : decode cX12_pairsNext 188 = .ok (.iastore, 1) := by decide +kernel
theorem dX12_pairsNext_189 : decode cX12_pairsNext 189 = .ok (.aload_n 0, 1) := by decide +kernel
theorem dX12_pairsNext_190 : decode cX12_pairsNext 190 = .ok (.aload_n 0, 1) := by decide +kernel
theorem dX12_pairsNext_191 : decode cX12_pairsNext 191 = .ok (.getfield 721, 3) := by decide +kernel
theorem dX12_pairsNext_194 : decode cX12_pairsNext 194 = .ok (.iconst 1, 1) := by decide +kernel
theorem dX12_pairsNext_195 : decode cX12_pairsNext 195 = .ok (.iadd, 1) := by decide +kernel
theorem dX12_pairsNext_196 : decode cX12_pairsNext 196 = .ok (.putfield 721, 3) := by decide +kernel
theorem dX12_pairsNext_199 : decode cX12_pairsNext 199 = .ok (.iconst 1, 1) := by decide +kernel
theorem dX12_pairsNext_200 : decode cX12_pairsNext 200 = .ok (.ireturn, 1) := by decide +kernel
noncomputable def st_pairsNext : Nat × List Int × gM → Option ((Nat × List Int × gM) ⊕ (Int × gM))
  | (0, [x1, x2, x3, x4, x5, x6], M) => (if 0 ≤ x1 ∧ x1 < 123 then
      (if x6 < (M 718 x1) then
        (Option.bind (F_pathAt M x1 x6) (fun r28 =>
          (Option.bind (F_fileAt M x2 r28) (fun r31 =>
            (if r31 = -1 then
              (Option.bind (F_isPaired M 751 x6) (fun r45 =>
                (if r45 = 0 then
                  some (.inl (1, [x1, x2, x3, x4, x5, x6, 0], M))
                else
                  some (.inl (0, [x1, x2, x3, x4, x5, (gw32 (x6 + 1))], M)))))
            else
              some (.inl (0, [x1, x2, x3, x4, x5, (gw32 (x6 + 1))], M)))))))
      else
        (if x4 = -1 then
          some (.inr (0, M))
        else
          (if 0 ≤ (M 711 59) ∧ (M 711 59) < 16 then
            (if 0 ≤ ((gU M 751 (M 711 59) x4) 711 59) ∧ ((gU M 751 (M 711 59) x4) 711 59) < 16 then
              some (.inr (1, (gU (gU (gU M 751 (M 711 59) x4) 752 ((gU M 751 (M 711 59) x4) 711 59) x5) 711 59 (gw32 (((gU (gU M 751 (M 711 59) x4) 752 ((gU M 751 (M 711 59) x4) 711 59) x5) 711 59) + (1 : Int))))))
            else none)
          else none)))
    else none)
  | (1, [x1, x2, x3, x4, x5, x6, x7], M) => (if 0 ≤ x2 ∧ x2 < 123 then
      (if x7 < (M 718 x2) then
        (Option.bind (F_pathAt M x2 x7) (fun r74 =>
          (Option.bind (F_fileAt M x1 r74) (fun r77 =>
            (if r77 = -1 then
              (Option.bind (F_isPaired M 752 x7) (fun r91 =>
                (if r91 = 0 then
                  (Option.bind (F_contentAt M x1 x6) (fun r105 =>
                    (Option.bind (F_contentAt M x2 x7) (fun r112 =>
                      (Option.bind (F_likenessOf M r105 r112) (fun p115 =>
                        (if (Op.cmpValue (FP.fcmp (gu p115.1) (gu (gfl 1058642330))) .l).toInt < 0 then
                          some (.inl (1, [x1, x2, x3, x4, x5, x6, (gw32 (x7 + 1))], p115.2))
                        else
                          (if (0 : Int) < (Op.cmpValue (FP.fcmp (gu p115.1) (gu x3)) .l).toInt then
                            some (.inl (1, [x1, x2, p115.1, x6, x7, x6, (gw32 (x7 + 1))], p115.2))
                          else
                            some (.inl (1, [x1, x2, x3, x4, x5, x6, (gw32 (x7 + 1))], p115.2))))))))))
                else
                  some (.inl (1, [x1, x2, x3, x4, x5, x6, (gw32 (x7 + 1))], M)))))
            else
              some (.inl (1, [x1, x2, x3, x4, x5, x6, (gw32 (x7 + 1))], M)))))))
      else
        some (.inl (0, [x1, x2, x3, x4, x5, (gw32 (x6 + 1))], M)))
    else none)
  | _ => none
theorem sk_pairsNext_11 (k : Nat × List Int × gM → Option (Int × gM)) (M : gM) (x1 x2 x3 x4 x5 x6 : Int) : gWk k (st_pairsNext (0, [x1, x2, x3, x4, x5, x6], M)) = (if 0 ≤ x1 ∧ x1 < 123 then
    (if x6 < (M 718 x1) then
      (Option.bind (F_pathAt M x1 x6) (fun r28 =>
        (Option.bind (F_fileAt M x2 r28) (fun r31 =>
          (if r31 = -1 then
            (Option.bind (F_isPaired M 751 x6) (fun r45 =>
              (if r45 = 0 then
                k (1, [x1, x2, x3, x4, x5, x6, 0], M)
              else
                k (0, [x1, x2, x3, x4, x5, (gw32 (x6 + 1))], M))))
          else
            k (0, [x1, x2, x3, x4, x5, (gw32 (x6 + 1))], M))))))
    else
      (if x4 = -1 then
        some (0, M)
      else
        (if 0 ≤ (M 711 59) ∧ (M 711 59) < 16 then
          (if 0 ≤ ((gU M 751 (M 711 59) x4) 711 59) ∧ ((gU M 751 (M 711 59) x4) 711 59) < 16 then
            some (1, (gU (gU (gU M 751 (M 711 59) x4) 752 ((gU M 751 (M 711 59) x4) 711 59) x5) 711 59 (gw32 (((gU (gU M 751 (M 711 59) x4) 752 ((gU M 751 (M 711 59) x4) 711 59) x5) 711 59) + (1 : Int)))))
          else none)
        else none)))
  else none) := by
  simp only [st_pairsNext, gWk_ite, gWk_bind, gWk_inl, gWk_inr, gWk_none]
theorem sk_pairsNext_57 (k : Nat × List Int × gM → Option (Int × gM)) (M : gM) (x1 x2 x3 x4 x5 x6 x7 : Int) : gWk k (st_pairsNext (1, [x1, x2, x3, x4, x5, x6, x7], M)) = (if 0 ≤ x2 ∧ x2 < 123 then
    (if x7 < (M 718 x2) then
      (Option.bind (F_pathAt M x2 x7) (fun r74 =>
        (Option.bind (F_fileAt M x1 r74) (fun r77 =>
          (if r77 = -1 then
            (Option.bind (F_isPaired M 752 x7) (fun r91 =>
              (if r91 = 0 then
                (Option.bind (F_contentAt M x1 x6) (fun r105 =>
                  (Option.bind (F_contentAt M x2 x7) (fun r112 =>
                    (Option.bind (F_likenessOf M r105 r112) (fun p115 =>
                      (if (Op.cmpValue (FP.fcmp (gu p115.1) (gu (gfl 1058642330))) .l).toInt < 0 then
                        k (1, [x1, x2, x3, x4, x5, x6, (gw32 (x7 + 1))], p115.2)
                      else
                        (if (0 : Int) < (Op.cmpValue (FP.fcmp (gu p115.1) (gu x3)) .l).toInt then
                          k (1, [x1, x2, p115.1, x6, x7, x6, (gw32 (x7 + 1))], p115.2)
                        else
                          k (1, [x1, x2, x3, x4, x5, x6, (gw32 (x7 + 1))], p115.2)))))))))
              else
                k (1, [x1, x2, x3, x4, x5, x6, (gw32 (x7 + 1))], M))))
          else
            k (1, [x1, x2, x3, x4, x5, x6, (gw32 (x7 + 1))], M))))))
    else
      k (0, [x1, x2, x3, x4, x5, (gw32 (x6 + 1))], M))
  else none) := by
  simp only [st_pairsNext, gWk_ite, gWk_bind, gWk_inl, gWk_inr, gWk_none]
noncomputable def F_pairsNext_11 (M : gM) (x1 x2 x3 x4 x5 x6 : Int) : Option (Int × gM) := gWh (st_pairsNext) (0, [x1, x2, x3, x4, x5, x6], M)
noncomputable def F_pairsNext_57 (M : gM) (x1 x2 x3 x4 x5 x6 x7 : Int) : Option (Int × gM) := gWh (st_pairsNext) (1, [x1, x2, x3, x4, x5, x6, x7], M)
theorem eq_pairsNext_11 (M : gM) (x1 x2 x3 x4 x5 x6 : Int) : F_pairsNext_11 M x1 x2 x3 x4 x5 x6 = (if 0 ≤ x1 ∧ x1 < 123 then
    (if x6 < (M 718 x1) then
      (Option.bind (F_pathAt M x1 x6) (fun r28 =>
        (Option.bind (F_fileAt M x2 r28) (fun r31 =>
          (if r31 = -1 then
            (Option.bind (F_isPaired M 751 x6) (fun r45 =>
              (if r45 = 0 then
                F_pairsNext_57 M x1 x2 x3 x4 x5 x6 0
              else
                F_pairsNext_11 M x1 x2 x3 x4 x5 (gw32 (x6 + 1)))))
          else
            F_pairsNext_11 M x1 x2 x3 x4 x5 (gw32 (x6 + 1)))))))
    else
      (if x4 = -1 then
        some (0, M)
      else
        (if 0 ≤ (M 711 59) ∧ (M 711 59) < 16 then
          (if 0 ≤ ((gU M 751 (M 711 59) x4) 711 59) ∧ ((gU M 751 (M 711 59) x4) 711 59) < 16 then
            some (1, (gU (gU (gU M 751 (M 711 59) x4) 752 ((gU M 751 (M 711 59) x4) 711 59) x5) 711 59 (gw32 (((gU (gU M 751 (M 711 59) x4) 752 ((gU M 751 (M 711 59) x4) 711 59) x5) 711 59) + (1 : Int)))))
          else none)
        else none)))
  else none) := (gWh_eq _).trans (sk_pairsNext_11 _ M x1 x2 x3 x4 x5 x6)
theorem eq_pairsNext_57 (M : gM) (x1 x2 x3 x4 x5 x6 x7 : Int) : F_pairsNext_57 M x1 x2 x3 x4 x5 x6 x7 = (if 0 ≤ x2 ∧ x2 < 123 then
    (if x7 < (M 718 x2) then
      (Option.bind (F_pathAt M x2 x7) (fun r74 =>
        (Option.bind (F_fileAt M x1 r74) (fun r77 =>
          (if r77 = -1 then
            (Option.bind (F_isPaired M 752 x7) (fun r91 =>
              (if r91 = 0 then
                (Option.bind (F_contentAt M x1 x6) (fun r105 =>
                  (Option.bind (F_contentAt M x2 x7) (fun r112 =>
                    (Option.bind (F_likenessOf M r105 r112) (fun p115 =>
                      (if (Op.cmpValue (FP.fcmp (gu p115.1) (gu (gfl 1058642330))) .l).toInt < 0 then
                        F_pairsNext_57 p115.2 x1 x2 x3 x4 x5 x6 (gw32 (x7 + 1))
                      else
                        (if (0 : Int) < (Op.cmpValue (FP.fcmp (gu p115.1) (gu x3)) .l).toInt then
                          F_pairsNext_57 p115.2 x1 x2 p115.1 x6 x7 x6 (gw32 (x7 + 1))
                        else
                          F_pairsNext_57 p115.2 x1 x2 x3 x4 x5 x6 (gw32 (x7 + 1))))))))))
              else
                F_pairsNext_57 M x1 x2 x3 x4 x5 x6 (gw32 (x7 + 1)))))
          else
            F_pairsNext_57 M x1 x2 x3 x4 x5 x6 (gw32 (x7 + 1)))))))
    else
      F_pairsNext_11 M x1 x2 x3 x4 x5 (gw32 (x6 + 1)))
  else none) := (gWh_eq _).trans (sk_pairsNext_57 _ M x1 x2 x3 x4 x5 x6 x7)
noncomputable def F_pairsNext (M : gM) (a1 a2 : Int) : Option (Int × gM) := F_pairsNext_11 M a1 a2 (gfl FP.fconst0) (-1) (-1) 0
theorem eq_pairsNext (M : gM) (a1 a2 : Int) : F_pairsNext M a1 a2 = F_pairsNext_11 M a1 a2 (gfl FP.fconst0) (-1) (-1) 0 := rfl
theorem frp_pairsNext : ∀ (s : Nat × List Int × gM) (b : Int × gM), gWh (st_pairsNext) s = some b → (∀ (x1 x2 x3 x4 x5 x6 : Int) (M : gM), s = (0, [x1, x2, x3, x4, x5, x6], M) → gFr [750, 751, 752] [59] M b.2) ∧ (∀ (x1 x2 x3 x4 x5 x6 x7 : Int) (M : gM), s = (1, [x1, x2, x3, x4, x5, x6, x7], M) → gFr [750, 751, 752] [59] M b.2) := by
  refine gWh_ind (fun k hk s b h => ⟨?_, ?_⟩)
  · rintro x1 x2 x3 x4 x5 x6 M rfl
    rw [sk_pairsNext_11] at h
    obtain ⟨g1, h⟩ := gI_gd h
    rcases gI_or h with h | h
    · obtain ⟨r28, e28, h⟩ := gI_bd h
      obtain ⟨r31, e31, h⟩ := gI_bd h
      rcases gI_or h with h | h
      · obtain ⟨r45, e45, h⟩ := gI_bd h
        rcases gI_or h with h | h
        · exact gFr_t (gFr_r [750, 751, 752] [59] _) ((hk _ _ h).2 _ _ _ _ _ _ _ _ rfl) (fun _ z => z) (fun _ z => z)
        · exact gFr_t (gFr_r [750, 751, 752] [59] _) ((hk _ _ h).1 _ _ _ _ _ _ _ rfl) (fun _ z => z) (fun _ z => z)
      · exact gFr_t (gFr_r [750, 751, 752] [59] _) ((hk _ _ h).1 _ _ _ _ _ _ _ rfl) (fun _ z => z) (fun _ z => z)
    · rcases gI_or h with h | h
      · rw [← Option.some.inj h]
        exact (gFr_r [750, 751, 752] [59] _)
      · obtain ⟨g2, h⟩ := gI_gd h
        obtain ⟨g4, h⟩ := gI_gd h
        rw [← Option.some.inj h]
        exact (gFr_f (gFr_a (gFr_a (gFr_r [750, 751, 752] [59] _) (.tail _ (.head _)) (by decide)) (.tail _ (.tail _ (.head _))) (by decide)) (.head _))
  · rintro x1 x2 x3 x4 x5 x6 x7 M rfl
    rw [sk_pairsNext_57] at h
    obtain ⟨g7, h⟩ := gI_gd h
    rcases gI_or h with h | h
    · obtain ⟨r74, e74, h⟩ := gI_bd h
      obtain ⟨r77, e77, h⟩ := gI_bd h
      rcases gI_or h with h | h
      · obtain ⟨r91, e91, h⟩ := gI_bd h
        rcases gI_or h with h | h
        · obtain ⟨r105, e105, h⟩ := gI_bd h
          obtain ⟨r112, e112, h⟩ := gI_bd h
          obtain ⟨p115, e115, h⟩ := gI_bd h
          rcases gI_or h with h | h
          · exact gFr_t (gFr_t (gFr_r [750, 751, 752] [59] _) (fr_likenessOf (b := p115) e115) (by first | decide | simp) (by decide)) ((hk _ _ h).2 _ _ _ _ _ _ _ _ rfl) (fun _ z => z) (fun _ z => z)
          · rcases gI_or h with h | h
            · exact gFr_t (gFr_t (gFr_r [750, 751, 752] [59] _) (fr_likenessOf (b := p115) e115) (by first | decide | simp) (by decide)) ((hk _ _ h).2 _ _ _ _ _ _ _ _ rfl) (fun _ z => z) (fun _ z => z)
            · exact gFr_t (gFr_t (gFr_r [750, 751, 752] [59] _) (fr_likenessOf (b := p115) e115) (by first | decide | simp) (by decide)) ((hk _ _ h).2 _ _ _ _ _ _ _ _ rfl) (fun _ z => z) (fun _ z => z)
        · exact gFr_t (gFr_r [750, 751, 752] [59] _) ((hk _ _ h).2 _ _ _ _ _ _ _ _ rfl) (fun _ z => z) (fun _ z => z)
      · exact gFr_t (gFr_r [750, 751, 752] [59] _) ((hk _ _ h).2 _ _ _ _ _ _ _ _ rfl) (fun _ z => z) (fun _ z => z)
    · exact gFr_t (gFr_r [750, 751, 752] [59] _) ((hk _ _ h).1 _ _ _ _ _ _ _ rfl) (fun _ z => z) (fun _ z => z)
theorem fr_pairsNext_11 {M : gM} {x1 x2 x3 x4 x5 x6 : Int} {b : Int × gM} (h : F_pairsNext_11 M x1 x2 x3 x4 x5 x6 = some b) : gFr [750, 751, 752] [59] M b.2 :=
  (frp_pairsNext _ _ h).1 _ _ _ _ _ _ _ rfl
theorem fr_pairsNext_57 {M : gM} {x1 x2 x3 x4 x5 x6 x7 : Int} {b : Int × gM} (h : F_pairsNext_57 M x1 x2 x3 x4 x5 x6 x7 = some b) : gFr [750, 751, 752] [59] M b.2 :=
  (frp_pairsNext _ _ h).2 _ _ _ _ _ _ _ _ rfl
theorem fr_pairsNext {M : gM} {a1 a2 : Int} {b : Int × gM} (h : F_pairsNext M a1 a2 = some b) : gFr [750, 751, 752] [59] M b.2 := by
  rw [eq_pairsNext] at h
  exact gFr_t (gFr_r [750, 751, 752] [59] _) (fr_pairsNext_11 h) (fun _ z => z) (fun _ z => z)
theorem bop_pairsNext : ∀ (s : Nat × List Int × gM) (b : Int × gM), gWh (st_pairsNext) s = some b → (∀ (x1 x2 x3 x4 x5 x6 : Int) (M : gM), s = (0, [x1, x2, x3, x4, x5, x6], M) → b.1 = 0 ∨ b.1 = 1) ∧ (∀ (x1 x2 x3 x4 x5 x6 x7 : Int) (M : gM), s = (1, [x1, x2, x3, x4, x5, x6, x7], M) → b.1 = 0 ∨ b.1 = 1) := by
  refine gWh_ind (fun k hk s b h => ⟨?_, ?_⟩)
  · rintro x1 x2 x3 x4 x5 x6 M rfl
    rw [sk_pairsNext_11] at h
    obtain ⟨g1, h⟩ := gI_gd h
    rcases gI_or h with h | h
    · obtain ⟨r28, e28, h⟩ := gI_bd h
      obtain ⟨r31, e31, h⟩ := gI_bd h
      rcases gI_or h with h | h
      · obtain ⟨r45, e45, h⟩ := gI_bd h
        rcases gI_or h with h | h
        · exact (hk _ _ h).2 _ _ _ _ _ _ _ _ rfl
        · exact (hk _ _ h).1 _ _ _ _ _ _ _ rfl
      · exact (hk _ _ h).1 _ _ _ _ _ _ _ rfl
    · rcases gI_or h with h | h
      · rw [← Option.some.inj h]
        exact (Or.inl rfl)
      · obtain ⟨g2, h⟩ := gI_gd h
        obtain ⟨g4, h⟩ := gI_gd h
        rw [← Option.some.inj h]
        exact (Or.inr rfl)
  · rintro x1 x2 x3 x4 x5 x6 x7 M rfl
    rw [sk_pairsNext_57] at h
    obtain ⟨g7, h⟩ := gI_gd h
    rcases gI_or h with h | h
    · obtain ⟨r74, e74, h⟩ := gI_bd h
      obtain ⟨r77, e77, h⟩ := gI_bd h
      rcases gI_or h with h | h
      · obtain ⟨r91, e91, h⟩ := gI_bd h
        rcases gI_or h with h | h
        · obtain ⟨r105, e105, h⟩ := gI_bd h
          obtain ⟨r112, e112, h⟩ := gI_bd h
          obtain ⟨p115, e115, h⟩ := gI_bd h
          rcases gI_or h with h | h
          · exact (hk _ _ h).2 _ _ _ _ _ _ _ _ rfl
          · rcases gI_or h with h | h
            · exact (hk _ _ h).2 _ _ _ _ _ _ _ _ rfl
            · exact (hk _ _ h).2 _ _ _ _ _ _ _ _ rfl
        · exact (hk _ _ h).2 _ _ _ _ _ _ _ _ rfl
      · exact (hk _ _ h).2 _ _ _ _ _ _ _ _ rfl
    · exact (hk _ _ h).1 _ _ _ _ _ _ _ rfl
theorem bo_pairsNext_11 {M : gM} {x1 x2 x3 x4 x5 x6 : Int} {b : Int × gM} (h : F_pairsNext_11 M x1 x2 x3 x4 x5 x6 = some b) : b.1 = 0 ∨ b.1 = 1 :=
  (bop_pairsNext _ _ h).1 _ _ _ _ _ _ _ rfl
theorem bo_pairsNext_57 {M : gM} {x1 x2 x3 x4 x5 x6 x7 : Int} {b : Int × gM} (h : F_pairsNext_57 M x1 x2 x3 x4 x5 x6 x7 = some b) : b.1 = 0 ∨ b.1 = 1 :=
  (bop_pairsNext _ _ h).2 _ _ _ _ _ _ _ _ rfl
theorem bo_pairsNext {M : gM} {a1 a2 : Int} {b : Int × gM} (h : F_pairsNext M a1 a2 = some b) : b.1 = 0 ∨ b.1 = 1 := by
  rw [eq_pairsNext] at h
  exact bo_pairsNext_11 h
theorem okp_pairsNext {sh : gS} : ∀ (s : Nat × List Int × gM) (b : Int × gM), gWh (st_pairsNext) s = some b → (∀ (x1 x2 x3 x4 x5 x6 : Int) (M : gM), s = (0, [x1, x2, x3, x4, x5, x6], M) → gOK sh M → gA (gr 4 95) yX12_pairsNext cX12_pairsNext 9 (some (.boolean)) (gPq sh (some (0, b.1)) b.2) (0, 0) 11 [(4, 711), (0, x1), (0, x2), (2, x3), (0, x4), (0, x5), (0, x6), (9, 0), (9, 0)] [] sh M) ∧ (∀ (x1 x2 x3 x4 x5 x6 x7 : Int) (M : gM), s = (1, [x1, x2, x3, x4, x5, x6, x7], M) → gOK sh M → gA (gr 4 95) yX12_pairsNext cX12_pairsNext 9 (some (.boolean)) (gPq sh (some (0, b.1)) b.2) (0, 0) 57 [(4, 711), (0, x1), (0, x2), (2, x3), (0, x4), (0, x5), (0, x6), (0, x7), (9, 0)] [] sh M) := by
  refine gWh_ind (fun k hk s b h => ⟨?_, ?_⟩)
  · rintro x1 x2 x3 x4 x5 x6 M rfl hOK
    rw [sk_pairsNext_11] at h
    refine g_iload (q0 := 13) (j := 6) rfl dX12_pairsNext_11 rfl ?_
    refine g_aload_n (q0 := 14) (j := 0) rfl dX12_pairsNext_13 rfl ?_
    refine g_getp (q0 := 17) (b := 718) rfl ff_X12_28 dX12_pairsNext_14 rfl hOK (by decide) (sh_711 hOK) rfl (by decide) ?_
    refine g_iload_n (q0 := 18) (j := 1) rfl dX12_pairsNext_17 rfl ?_
    obtain ⟨g1, h⟩ := gI_gd h
    refine g_iald (q0 := 19) rfl dX12_pairsNext_18 (sh_718 hOK) g1.1 g1.2 ?_
    refine g_icmp_ge (q0 := 22) (tgt := 159) rfl dX12_pairsNext_19 (by decide) (fun h19 => ?_) (fun h19 => ?_)
    · replace h := gI_neg (Int.not_lt.mpr h19) h
      refine g_iload (q0 := 161) (j := 4) rfl dX12_pairsNext_159 rfl ?_
      refine g_iconst (q0 := 162) rfl dX12_pairsNext_161 (k := ?_)
      refine g_icmp_ne (q0 := 165) (tgt := 167) rfl dX12_pairsNext_162 (by decide) (fun h162 => ?_) (fun h162 => ?_)
      · replace h := gI_neg h162 h
        refine g_aload_n (q0 := 168) (j := 0) rfl dX12_pairsNext_167 rfl ?_
        refine g_getp (q0 := 171) (b := 751) rfl ff_X12_129 dX12_pairsNext_168 rfl hOK (by decide) (sh_711 hOK) rfl (by decide) ?_
        refine g_aload_n (q0 := 172) (j := 0) rfl dX12_pairsNext_171 rfl ?_
        refine g_getf (q0 := 175) (t := 0) (fi := 59) rfl rfl ff_X12_721 dX12_pairsNext_172 rfl (sh_711 hOK) ?_
        refine g_iload (q0 := 177) (j := 4) rfl dX12_pairsNext_175 rfl ?_
        obtain ⟨g2, h⟩ := gI_gd h
        refine g_iast (q0 := 178) rfl dX12_pairsNext_177 (sh_751 hOK) g2.1 g2.2 ?_
        have hOK3 : gOK sh (gU M 751 (M 711 59) x4) := gOK_i hOK (sh_751 hOK)
        refine g_aload_n (q0 := 179) (j := 0) rfl dX12_pairsNext_178 rfl ?_
        refine g_getp (q0 := 182) (b := 752) rfl ff_X12_132 dX12_pairsNext_179 rfl hOK3 (by decide) (sh_711 hOK3) rfl (by decide) ?_
        refine g_aload_n (q0 := 183) (j := 0) rfl dX12_pairsNext_182 rfl ?_
        refine g_getf (q0 := 186) (t := 0) (fi := 59) rfl rfl ff_X12_721 dX12_pairsNext_183 rfl (sh_711 hOK3) ?_
        refine g_iload (q0 := 188) (j := 5) rfl dX12_pairsNext_186 rfl ?_
        obtain ⟨g4, h⟩ := gI_gd h
        refine g_iast (q0 := 189) rfl dX12_pairsNext_188 (sh_752 hOK3) g4.1 g4.2 ?_
        have hOK5 : gOK sh (gU (gU M 751 (M 711 59) x4) 752 ((gU M 751 (M 711 59) x4) 711 59) x5) := gOK_i hOK3 (sh_752 hOK3)
        refine g_aload_n (q0 := 190) (j := 0) rfl dX12_pairsNext_189 rfl ?_
        refine g_aload_n (q0 := 191) (j := 0) rfl dX12_pairsNext_190 rfl ?_
        refine g_getf (q0 := 194) (t := 0) (fi := 59) rfl rfl ff_X12_721 dX12_pairsNext_191 rfl (sh_711 hOK5) ?_
        refine g_iconst (q0 := 195) rfl dX12_pairsNext_194 (k := ?_)
        refine g_iaddw (q0 := 196) rfl dX12_pairsNext_195 ?_
        refine g_put (q0 := 199) (t := 0) (fi := 59) rfl rfl ff_X12_721 dX12_pairsNext_196 rfl (sh_711 hOK5) rfl (fun _ => ⟨rfl, rfl⟩) ?_
        have hOK6 : gOK sh (gU (gU (gU M 751 (M 711 59) x4) 752 ((gU M 751 (M 711 59) x4) 711 59) x5) 711 59 (gw32 (((gU (gU M 751 (M 711 59) x4) 752 ((gU M 751 (M 711 59) x4) 711 59) x5) 711 59) + (1 : Int)))) := gOK_o hOK5 (sh_711 hOK5) (f := 59) rfl rfl
        refine g_iconst (q0 := 200) rfl dX12_pairsNext_199 (k := ?_)
        rw [← Option.some.inj h]
        refine g_zreturn dX12_pairsNext_200 rfl (gnz (Or.inr rfl)) ⟨Nat.zero_le _, Nat.zero_le _⟩ ?_
        exact ⟨rfl, rfl, rfl⟩
      · replace h := gI_pos h162 h
        refine g_iconst (q0 := 166) rfl dX12_pairsNext_165 (k := ?_)
        rw [← Option.some.inj h]
        refine g_zreturn dX12_pairsNext_166 rfl (gnz (Or.inl rfl)) ⟨Nat.zero_le _, Nat.zero_le _⟩ ?_
        exact ⟨rfl, rfl, rfl⟩
    · replace h := gI_pos h19 h
      refine g_aload_n (q0 := 23) (j := 0) rfl dX12_pairsNext_22 rfl ?_
      refine g_iload_n (q0 := 24) (j := 2) rfl dX12_pairsNext_23 rfl ?_
      refine g_aload_n (q0 := 25) (j := 0) rfl dX12_pairsNext_24 rfl ?_
      refine g_iload_n (q0 := 26) (j := 1) rfl dX12_pairsNext_25 rfl ?_
      refine g_iload (q0 := 28) (j := 6) rfl dX12_pairsNext_26 rfl ?_
      obtain ⟨r28, e28, h⟩ := gI_bd h
      refine g_callVq1 (as := [_, _]) (rest := [_, _]) mt_X12_pathAt mi_X12_pathAt se_X12_pathAt ml_X12_162 dX12_pairsNext_28 (q0 := 31) rfl rfl (sh_711 hOK) rfl rfl (ok_pathAt hOK e28) rfl ⟨by decide, by decide⟩ (Nat.le_of_ble_eq_true rfl) ⟨Nat.zero_le _, Nat.zero_le _⟩ ?_
      obtain ⟨r31, e31, h⟩ := gI_bd h
      refine g_callVq1 (as := [_, _]) (rest := []) mt_X12_fileAt mi_X12_fileAt se_X12_fileAt ml_X12_166 dX12_pairsNext_31 (q0 := 34) rfl rfl (sh_711 hOK) rfl rfl (ok_fileAt hOK e31) rfl ⟨by decide, by decide⟩ (Nat.le_of_ble_eq_true rfl) ⟨Nat.zero_le _, Nat.zero_le _⟩ ?_
      refine g_iconst (q0 := 35) rfl dX12_pairsNext_34 (k := ?_)
      refine g_icmp_ne (q0 := 38) (tgt := 153) rfl dX12_pairsNext_35 (by decide) (fun h35 => ?_) (fun h35 => ?_)
      · replace h := gI_neg h35 h
        refine g_iincw (q0 := 156) (lv2 := [_, _, _, _, _, _, _, _, _]) rfl dX12_pairsNext_153 rfl (by decide) rfl rfl ?_
        refine g_goto (tgt := 11) dX12_pairsNext_156 (by decide) ?_
        exact (hk _ _ h).1 _ _ _ _ _ _ _ rfl hOK
      · replace h := gI_pos h35 h
        refine g_aload_n (q0 := 39) (j := 0) rfl dX12_pairsNext_38 rfl ?_
        refine g_aload_n (q0 := 40) (j := 0) rfl dX12_pairsNext_39 rfl ?_
        refine g_getp (q0 := 43) (b := 751) rfl ff_X12_129 dX12_pairsNext_40 rfl hOK (by decide) (sh_711 hOK) rfl (by decide) ?_
        refine g_iload (q0 := 45) (j := 6) rfl dX12_pairsNext_43 rfl ?_
        obtain ⟨r45, e45, h⟩ := gI_bd h
        refine g_callVq1 (as := [_, _]) (rest := []) mt_X12_isPaired mi_X12_isPaired se_X12_isPaired ml_X12_724 dX12_pairsNext_45 (q0 := 48) rfl rfl (sh_711 hOK) rfl rfl (ok_isPaired hOK e45) rfl ⟨by decide, by decide⟩ (Nat.le_of_ble_eq_true rfl) ⟨Nat.zero_le _, Nat.zero_le _⟩ ?_
        refine g_if_eq (q0 := 51) (tgt := 54) rfl dX12_pairsNext_48 (by decide) (fun h48 => ?_) (fun h48 => ?_)
        · replace h := gI_pos h48 h
          refine g_iconst (q0 := 55) rfl dX12_pairsNext_54 (k := ?_)
          refine g_istore (q0 := 57) (j := 7) (lv2 := [_, _, _, _, _, _, _, _, _]) rfl dX12_pairsNext_55 (by decide) rfl rfl ?_
          exact (hk _ _ h).2 _ _ _ _ _ _ _ _ rfl hOK
        · replace h := gI_neg h48 h
          refine g_goto (tgt := 153) dX12_pairsNext_51 (by decide) ?_
          refine g_iincw (q0 := 156) (lv2 := [_, _, _, _, _, _, _, _, _]) rfl dX12_pairsNext_153 rfl (by decide) rfl rfl ?_
          refine g_goto (tgt := 11) dX12_pairsNext_156 (by decide) ?_
          exact (hk _ _ h).1 _ _ _ _ _ _ _ rfl hOK
  · rintro x1 x2 x3 x4 x5 x6 x7 M rfl hOK
    rw [sk_pairsNext_57] at h
    refine g_iload (q0 := 59) (j := 7) rfl dX12_pairsNext_57 rfl ?_
    refine g_aload_n (q0 := 60) (j := 0) rfl dX12_pairsNext_59 rfl ?_
    refine g_getp (q0 := 63) (b := 718) rfl ff_X12_28 dX12_pairsNext_60 rfl hOK (by decide) (sh_711 hOK) rfl (by decide) ?_
    refine g_iload_n (q0 := 64) (j := 2) rfl dX12_pairsNext_63 rfl ?_
    obtain ⟨g7, h⟩ := gI_gd h
    refine g_iald (q0 := 65) rfl dX12_pairsNext_64 (sh_718 hOK) g7.1 g7.2 ?_
    refine g_icmp_ge (q0 := 68) (tgt := 153) rfl dX12_pairsNext_65 (by decide) (fun h65 => ?_) (fun h65 => ?_)
    · replace h := gI_neg (Int.not_lt.mpr h65) h
      refine g_iincw (q0 := 156) (lv2 := [_, _, _, _, _, _, _, _, _]) rfl dX12_pairsNext_153 rfl (by decide) rfl rfl ?_
      refine g_goto (tgt := 11) dX12_pairsNext_156 (by decide) ?_
      refine gA_jk (lv1 := [_, _, _, _, _, _, _, (9, 0), (9, 0)]) ⟨.inl rfl, .inl rfl, .inl rfl, .inl rfl, .inl rfl, .inl rfl, .inl rfl, .inr rfl, .inr rfl, trivial⟩ ?_
      exact (hk _ _ h).1 _ _ _ _ _ _ _ rfl hOK
    · replace h := gI_pos h65 h
      refine g_aload_n (q0 := 69) (j := 0) rfl dX12_pairsNext_68 rfl ?_
      refine g_iload_n (q0 := 70) (j := 1) rfl dX12_pairsNext_69 rfl ?_
      refine g_aload_n (q0 := 71) (j := 0) rfl dX12_pairsNext_70 rfl ?_
      refine g_iload_n (q0 := 72) (j := 2) rfl dX12_pairsNext_71 rfl ?_
      refine g_iload (q0 := 74) (j := 7) rfl dX12_pairsNext_72 rfl ?_
      obtain ⟨r74, e74, h⟩ := gI_bd h
      refine g_callVq1 (as := [_, _]) (rest := [_, _]) mt_X12_pathAt mi_X12_pathAt se_X12_pathAt ml_X12_162 dX12_pairsNext_74 (q0 := 77) rfl rfl (sh_711 hOK) rfl rfl (ok_pathAt hOK e74) rfl ⟨by decide, by decide⟩ (Nat.le_of_ble_eq_true rfl) ⟨Nat.zero_le _, Nat.zero_le _⟩ ?_
      obtain ⟨r77, e77, h⟩ := gI_bd h
      refine g_callVq1 (as := [_, _]) (rest := []) mt_X12_fileAt mi_X12_fileAt se_X12_fileAt ml_X12_166 dX12_pairsNext_77 (q0 := 80) rfl rfl (sh_711 hOK) rfl rfl (ok_fileAt hOK e77) rfl ⟨by decide, by decide⟩ (Nat.le_of_ble_eq_true rfl) ⟨Nat.zero_le _, Nat.zero_le _⟩ ?_
      refine g_iconst (q0 := 81) rfl dX12_pairsNext_80 (k := ?_)
      refine g_icmp_ne (q0 := 84) (tgt := 147) rfl dX12_pairsNext_81 (by decide) (fun h81 => ?_) (fun h81 => ?_)
      · replace h := gI_neg h81 h
        refine g_iincw (q0 := 150) (lv2 := [_, _, _, _, _, _, _, _, _]) rfl dX12_pairsNext_147 rfl (by decide) rfl rfl ?_
        refine g_goto (tgt := 57) dX12_pairsNext_150 (by decide) ?_
        exact (hk _ _ h).2 _ _ _ _ _ _ _ _ rfl hOK
      · replace h := gI_pos h81 h
        refine g_aload_n (q0 := 85) (j := 0) rfl dX12_pairsNext_84 rfl ?_
        refine g_aload_n (q0 := 86) (j := 0) rfl dX12_pairsNext_85 rfl ?_
        refine g_getp (q0 := 89) (b := 752) rfl ff_X12_132 dX12_pairsNext_86 rfl hOK (by decide) (sh_711 hOK) rfl (by decide) ?_
        refine g_iload (q0 := 91) (j := 7) rfl dX12_pairsNext_89 rfl ?_
        obtain ⟨r91, e91, h⟩ := gI_bd h
        refine g_callVq1 (as := [_, _]) (rest := []) mt_X12_isPaired mi_X12_isPaired se_X12_isPaired ml_X12_724 dX12_pairsNext_91 (q0 := 94) rfl rfl (sh_711 hOK) rfl rfl (ok_isPaired hOK e91) rfl ⟨by decide, by decide⟩ (Nat.le_of_ble_eq_true rfl) ⟨Nat.zero_le _, Nat.zero_le _⟩ ?_
        refine g_if_eq (q0 := 97) (tgt := 100) rfl dX12_pairsNext_94 (by decide) (fun h94 => ?_) (fun h94 => ?_)
        · replace h := gI_pos h94 h
          refine g_aload_n (q0 := 101) (j := 0) rfl dX12_pairsNext_100 rfl ?_
          refine g_aload_n (q0 := 102) (j := 0) rfl dX12_pairsNext_101 rfl ?_
          refine g_iload_n (q0 := 103) (j := 1) rfl dX12_pairsNext_102 rfl ?_
          refine g_iload (q0 := 105) (j := 6) rfl dX12_pairsNext_103 rfl ?_
          obtain ⟨r105, e105, h⟩ := gI_bd h
          refine g_callVq1 (as := [_, _]) (rest := [_]) mt_X12_contentAt mi_X12_contentAt se_X12_contentAt ml_X12_169 dX12_pairsNext_105 (q0 := 108) rfl rfl (sh_711 hOK) rfl rfl (ok_contentAt hOK e105) rfl ⟨by decide, by decide⟩ (Nat.le_of_ble_eq_true rfl) ⟨Nat.zero_le _, Nat.zero_le _⟩ ?_
          refine g_aload_n (q0 := 109) (j := 0) rfl dX12_pairsNext_108 rfl ?_
          refine g_iload_n (q0 := 110) (j := 2) rfl dX12_pairsNext_109 rfl ?_
          refine g_iload (q0 := 112) (j := 7) rfl dX12_pairsNext_110 rfl ?_
          obtain ⟨r112, e112, h⟩ := gI_bd h
          refine g_callVq1 (as := [_, _]) (rest := [_, _]) mt_X12_contentAt mi_X12_contentAt se_X12_contentAt ml_X12_169 dX12_pairsNext_112 (q0 := 115) rfl rfl (sh_711 hOK) rfl rfl (ok_contentAt hOK e112) rfl ⟨by decide, by decide⟩ (Nat.le_of_ble_eq_true rfl) ⟨Nat.zero_le _, Nat.zero_le _⟩ ?_
          obtain ⟨p115, e115, h⟩ := gI_bd h
          refine g_callVq1 (as := [_, _]) (rest := []) mt_X12_likenessOf mi_X12_likenessOf se_X12_likenessOf ml_X12_728 dX12_pairsNext_115 (q0 := 118) rfl rfl (sh_711 hOK) rfl rfl (ok_likenessOf hOK e115) rfl ⟨by decide, by decide⟩ (Nat.le_of_ble_eq_true rfl) ⟨Nat.zero_le _, Nat.zero_le _⟩ ?_
          have hOK8 : gOK sh p115.2 := gOK_fr hOK (fr_likenessOf (b := p115) e115) (by first | decide | (intro a ha; simp only [List.mem_cons, List.not_mem_nil, or_false] at ha; omega)) (by decide)
          refine g_fstore (q0 := 120) (j := 8) (lv2 := [_, _, _, _, _, _, _, _, _]) rfl dX12_pairsNext_118 (by decide) rfl rfl ?_
          refine g_fload (q0 := 122) (j := 8) rfl dX12_pairsNext_120 rfl ?_
          refine g_ldcwf (q0 := 125) rfl co_X12_732 dX12_pairsNext_122 ?_
          refine g_fcmp (q0 := 126) rfl dX12_pairsNext_125 ?_
          refine g_if_lt (q0 := 129) (tgt := 147) rfl dX12_pairsNext_126 (by decide) (fun h126 => ?_) (fun h126 => ?_)
          · replace h := gI_pos h126 h
            refine g_iincw (q0 := 150) (lv2 := [_, _, _, _, _, _, _, _, _]) rfl dX12_pairsNext_147 rfl (by decide) rfl rfl ?_
            refine g_goto (tgt := 57) dX12_pairsNext_150 (by decide) ?_
            refine gA_jk (lv1 := [_, _, _, _, _, _, _, _, (9, 0)]) ⟨.inl rfl, .inl rfl, .inl rfl, .inl rfl, .inl rfl, .inl rfl, .inl rfl, .inl rfl, .inr rfl, trivial⟩ ?_
            exact (hk _ _ h).2 _ _ _ _ _ _ _ _ rfl hOK8
          · replace h := gI_neg (Int.not_lt.mpr h126) h
            refine g_fload (q0 := 131) (j := 8) rfl dX12_pairsNext_129 rfl ?_
            refine g_fload_n (q0 := 132) (j := 3) rfl dX12_pairsNext_131 rfl ?_
            refine g_fcmp (q0 := 133) rfl dX12_pairsNext_132 ?_
            refine g_if_le (q0 := 136) (tgt := 147) rfl dX12_pairsNext_133 (by decide) (fun h133 => ?_) (fun h133 => ?_)
            · replace h := gI_neg (Int.not_lt.mpr h133) h
              refine g_iincw (q0 := 150) (lv2 := [_, _, _, _, _, _, _, _, _]) rfl dX12_pairsNext_147 rfl (by decide) rfl rfl ?_
              refine g_goto (tgt := 57) dX12_pairsNext_150 (by decide) ?_
              refine gA_jk (lv1 := [_, _, _, _, _, _, _, _, (9, 0)]) ⟨.inl rfl, .inl rfl, .inl rfl, .inl rfl, .inl rfl, .inl rfl, .inl rfl, .inl rfl, .inr rfl, trivial⟩ ?_
              exact (hk _ _ h).2 _ _ _ _ _ _ _ _ rfl hOK8
            · replace h := gI_pos h133 h
              refine g_fload (q0 := 138) (j := 8) rfl dX12_pairsNext_136 rfl ?_
              refine g_fstore_n (q0 := 139) (j := 3) (lv2 := [_, _, _, _, _, _, _, _, _]) rfl dX12_pairsNext_138 (by decide) rfl rfl ?_
              refine g_iload (q0 := 141) (j := 6) rfl dX12_pairsNext_139 rfl ?_
              refine g_istore (q0 := 143) (j := 4) (lv2 := [_, _, _, _, _, _, _, _, _]) rfl dX12_pairsNext_141 (by decide) rfl rfl ?_
              refine g_iload (q0 := 145) (j := 7) rfl dX12_pairsNext_143 rfl ?_
              refine g_istore (q0 := 147) (j := 5) (lv2 := [_, _, _, _, _, _, _, _, _]) rfl dX12_pairsNext_145 (by decide) rfl rfl ?_
              refine g_iincw (q0 := 150) (lv2 := [_, _, _, _, _, _, _, _, _]) rfl dX12_pairsNext_147 rfl (by decide) rfl rfl ?_
              refine g_goto (tgt := 57) dX12_pairsNext_150 (by decide) ?_
              refine gA_jk (lv1 := [_, _, _, _, _, _, _, _, (9, 0)]) ⟨.inl rfl, .inl rfl, .inl rfl, .inl rfl, .inl rfl, .inl rfl, .inl rfl, .inl rfl, .inr rfl, trivial⟩ ?_
              exact (hk _ _ h).2 _ _ _ _ _ _ _ _ rfl hOK8
        · replace h := gI_neg h94 h
          refine g_goto (tgt := 147) dX12_pairsNext_97 (by decide) ?_
          refine g_iincw (q0 := 150) (lv2 := [_, _, _, _, _, _, _, _, _]) rfl dX12_pairsNext_147 rfl (by decide) rfl rfl ?_
          refine g_goto (tgt := 57) dX12_pairsNext_150 (by decide) ?_
          exact (hk _ _ h).2 _ _ _ _ _ _ _ _ rfl hOK
theorem ok_pairsNext_11 {sh : gS} {M : gM} {x1 x2 x3 x4 x5 x6 : Int} {b : Int × gM} (hOK : gOK sh M) (h : F_pairsNext_11 M x1 x2 x3 x4 x5 x6 = some b) : gA (gr 4 95) yX12_pairsNext cX12_pairsNext 9 (some (.boolean)) (gPq sh (some (0, b.1)) b.2) (0, 0) 11 [(4, 711), (0, x1), (0, x2), (2, x3), (0, x4), (0, x5), (0, x6), (9, 0), (9, 0)] [] sh M :=
  (okp_pairsNext _ _ h).1 _ _ _ _ _ _ _ rfl hOK
theorem ok_pairsNext_57 {sh : gS} {M : gM} {x1 x2 x3 x4 x5 x6 x7 : Int} {b : Int × gM} (hOK : gOK sh M) (h : F_pairsNext_57 M x1 x2 x3 x4 x5 x6 x7 = some b) : gA (gr 4 95) yX12_pairsNext cX12_pairsNext 9 (some (.boolean)) (gPq sh (some (0, b.1)) b.2) (0, 0) 57 [(4, 711), (0, x1), (0, x2), (2, x3), (0, x4), (0, x5), (0, x6), (0, x7), (9, 0)] [] sh M :=
  (okp_pairsNext _ _ h).2 _ _ _ _ _ _ _ _ rfl hOK
theorem ok_pairsNext {sh : gS} {M : gM} {a1 a2 : Int} {b : Int × gM} (hOK : gOK sh M) (h : F_pairsNext M a1 a2 = some b) : gC (gr 4 95) yX12_pairsNext cX12_pairsNext 9 (some (.boolean)) [(4, 711), (0, a1), (0, a2)] sh M (gPq sh (some (0, b.1)) b.2) := by
  rw [eq_pairsNext] at h
  refine gC_ofA (lv := [_, _, _, _, _, _, _, _, _]) (by decide +kernel) (Nat.le_of_ble_eq_true rfl) rfl (fun hMw hav => ?_)
  refine g_fconst0 (q0 := 1) rfl dX12_pairsNext_0 ?_
  refine g_fstore_n (q0 := 2) (j := 3) (lv2 := [_, _, _, _, _, _, _, _, _]) rfl dX12_pairsNext_1 (by decide) rfl rfl ?_
  refine g_iconst (q0 := 3) rfl dX12_pairsNext_2 (k := ?_)
  refine g_istore (q0 := 5) (j := 4) (lv2 := [_, _, _, _, _, _, _, _, _]) rfl dX12_pairsNext_3 (by decide) rfl rfl ?_
  refine g_iconst (q0 := 6) rfl dX12_pairsNext_5 (k := ?_)
  refine g_istore (q0 := 8) (j := 5) (lv2 := [_, _, _, _, _, _, _, _, _]) rfl dX12_pairsNext_6 (by decide) rfl rfl ?_
  refine g_iconst (q0 := 9) rfl dX12_pairsNext_8 (k := ?_)
  refine g_istore (q0 := 11) (j := 6) (lv2 := [_, _, _, _, _, _, _, _, _]) rfl dX12_pairsNext_9 (by decide) rfl rfl ?_
  exact ok_pairsNext_11 hOK h
-- ==== laysPairs
theorem dX12_laysPairs_0 : decode cX12_laysPairs 0 = .ok (.aload_n 0, 1) := by decide +kernel
theorem dX12_laysPairs_1 : decode cX12_laysPairs 1 = .ok (.iconst 0, 1) := by decide +kernel
theorem dX12_laysPairs_2 : decode cX12_laysPairs 2 = .ok (.putfield 721, 3) := by decide +kernel
theorem dX12_laysPairs_5 : decode cX12_laysPairs 5 = .ok (.iconst 1, 1) := by decide +kernel
theorem dX12_laysPairs_6 : decode cX12_laysPairs 6 = .ok (.istore_n 3, 1) := by decide +kernel
theorem dX12_laysPairs_7 : decode cX12_laysPairs 7 = .ok (.iload_n 3, 1) := by decide +kernel
theorem dX12_laysPairs_8 : decode cX12_laysPairs 8 = .ok (.ifCond .eq 13, 3) := by decide +kernel
theorem dX12_laysPairs_11 : decode cX12_laysPairs 11 = .ok (.aload_n 0, 1) := by decide +kernel
theorem dX12_laysPairs_12 : decode cX12_laysPairs 12 = .ok (.iload_n 1, 1) := by decide +kernel
theorem dX12_laysPairs_13 : decode cX12_laysPairs 13 = .ok (.iload_n 2, 1) := by decide +kernel
theorem dX12_laysPairs_14 : decode cX12_laysPairs 14 = .ok (.invokevirtual 733, 3) := by decide +kernel
theorem dX12_laysPairs_17 : decode cX12_laysPairs 17 = .ok (.istore_n 3, 1) := by decide +kernel
theorem dX12_laysPairs_18 : decode cX12_laysPairs 18 = .ok (.goto (-11), 3) := by decide +kernel
theorem dX12_laysPairs_21 : decode cX12_laysPairs 21 = .ok (.return_, 1) := by decide +kernel
noncomputable def st_laysPairs : Nat × List Int × gM → Option ((Nat × List Int × gM) ⊕ (gM))
  | (0, [x1, x2, x3], M) => (if x3 = 0 then
      some (.inr M)
    else
      (Option.bind (F_pairsNext M x1 x2) (fun p14 =>
        some (.inl (0, [x1, x2, p14.1], p14.2)))))
  | _ => none
theorem sk_laysPairs_7 (k : Nat × List Int × gM → Option (gM)) (M : gM) (x1 x2 x3 : Int) : gWk k (st_laysPairs (0, [x1, x2, x3], M)) = (if x3 = 0 then
    some M
  else
    (Option.bind (F_pairsNext M x1 x2) (fun p14 =>
      k (0, [x1, x2, p14.1], p14.2)))) := by
  simp only [st_laysPairs, gWk_ite, gWk_bind, gWk_inl, gWk_inr, gWk_none]
noncomputable def F_laysPairs_7 (M : gM) (x1 x2 x3 : Int) : Option (gM) := gWh (st_laysPairs) (0, [x1, x2, x3], M)
theorem eq_laysPairs_7 (M : gM) (x1 x2 x3 : Int) : F_laysPairs_7 M x1 x2 x3 = (if x3 = 0 then
    some M
  else
    (Option.bind (F_pairsNext M x1 x2) (fun p14 =>
      F_laysPairs_7 p14.2 x1 x2 p14.1))) := (gWh_eq _).trans (sk_laysPairs_7 _ M x1 x2 x3)
noncomputable def F_laysPairs (M : gM) (a1 a2 : Int) : Option (gM) := F_laysPairs_7 (gU M 711 59 0) a1 a2 1
theorem eq_laysPairs (M : gM) (a1 a2 : Int) : F_laysPairs M a1 a2 = F_laysPairs_7 (gU M 711 59 0) a1 a2 1 := rfl
theorem frp_laysPairs : ∀ (s : Nat × List Int × gM) (b : gM), gWh (st_laysPairs) s = some b → (∀ (x1 x2 x3 : Int) (M : gM), s = (0, [x1, x2, x3], M) → gFr [750, 751, 752] [59] M b) := by
  refine gWh_ind (fun k hk s b h => ?_)
  · rintro x1 x2 x3 M rfl
    rw [sk_laysPairs_7] at h
    rcases gI_or h with h | h
    · rw [← Option.some.inj h]
      exact (gFr_r [750, 751, 752] [59] _)
    · obtain ⟨p14, e14, h⟩ := gI_bd h
      exact gFr_t (gFr_t (gFr_r [750, 751, 752] [59] _) (fr_pairsNext (b := p14) e14) (by first | decide | simp) (by decide)) ((hk _ _ h) _ _ _ _ rfl) (fun _ z => z) (fun _ z => z)
theorem fr_laysPairs_7 {M : gM} {x1 x2 x3 : Int} {b : gM} (h : F_laysPairs_7 M x1 x2 x3 = some b) : gFr [750, 751, 752] [59] M b :=
  (frp_laysPairs _ _ h) _ _ _ _ rfl
theorem fr_laysPairs {M : gM} {a1 a2 : Int} {b : gM} (h : F_laysPairs M a1 a2 = some b) : gFr [750, 751, 752] [59] M b := by
  rw [eq_laysPairs] at h
  exact gFr_t (gFr_f (gFr_r [750, 751, 752] [59] _) (.head _)) (fr_laysPairs_7 h) (fun _ z => z) (fun _ z => z)
theorem okp_laysPairs {sh : gS} : ∀ (s : Nat × List Int × gM) (b : gM), gWh (st_laysPairs) s = some b → (∀ (x1 x2 x3 : Int) (M : gM), s = (0, [x1, x2, x3], M) → gOK sh M → gA (gr 5 123) yX12_laysPairs cX12_laysPairs 4 none (gPq sh none b) (0, 0) 7 [(4, 711), (0, x1), (0, x2), (0, x3)] [] sh M) := by
  refine gWh_ind (fun k hk s b h => ?_)
  · rintro x1 x2 x3 M rfl hOK
    rw [sk_laysPairs_7] at h
    refine g_iload_n (q0 := 8) (j := 3) rfl dX12_laysPairs_7 rfl ?_
    refine g_if_eq (q0 := 11) (tgt := 21) rfl dX12_laysPairs_8 (by decide) (fun h8 => ?_) (fun h8 => ?_)
    · replace h := gI_pos h8 h
      rw [← Option.some.inj h]
      refine g_return dX12_laysPairs_21 rfl ⟨Nat.zero_le _, Nat.zero_le _⟩ ?_
      exact ⟨rfl, rfl, rfl⟩
    · replace h := gI_neg h8 h
      refine g_aload_n (q0 := 12) (j := 0) rfl dX12_laysPairs_11 rfl ?_
      refine g_iload_n (q0 := 13) (j := 1) rfl dX12_laysPairs_12 rfl ?_
      refine g_iload_n (q0 := 14) (j := 2) rfl dX12_laysPairs_13 rfl ?_
      obtain ⟨p14, e14, h⟩ := gI_bd h
      refine g_callVq1 (as := [_, _]) (rest := []) mt_X12_pairsNext mi_X12_pairsNext se_X12_pairsNext ml_X12_733 dX12_laysPairs_14 (q0 := 17) rfl rfl (sh_711 hOK) rfl rfl (ok_pairsNext hOK e14) rfl ⟨by decide, by decide⟩ (Nat.le_of_ble_eq_true rfl) ⟨Nat.zero_le _, Nat.zero_le _⟩ ?_
      have hOK1 : gOK sh p14.2 := gOK_fr hOK (fr_pairsNext (b := p14) e14) (by first | decide | (intro a ha; simp only [List.mem_cons, List.not_mem_nil, or_false] at ha; omega)) (by decide)
      refine g_istore_n (q0 := 18) (j := 3) (lv2 := [_, _, _, _]) rfl dX12_laysPairs_17 (by decide) rfl rfl ?_
      refine g_goto (tgt := 7) dX12_laysPairs_18 (by decide) ?_
      exact (hk _ _ h) _ _ _ _ rfl hOK1
theorem ok_laysPairs_7 {sh : gS} {M : gM} {x1 x2 x3 : Int} {b : gM} (hOK : gOK sh M) (h : F_laysPairs_7 M x1 x2 x3 = some b) : gA (gr 5 123) yX12_laysPairs cX12_laysPairs 4 none (gPq sh none b) (0, 0) 7 [(4, 711), (0, x1), (0, x2), (0, x3)] [] sh M :=
  (okp_laysPairs _ _ h) _ _ _ _ rfl hOK
theorem ok_laysPairs {sh : gS} {M : gM} {a1 a2 : Int} {b : gM} (hOK : gOK sh M) (h : F_laysPairs M a1 a2 = some b) : gC (gr 5 123) yX12_laysPairs cX12_laysPairs 4 none [(4, 711), (0, a1), (0, a2)] sh M (gPq sh none b) := by
  rw [eq_laysPairs] at h
  refine gC_ofA (lv := [_, _, _, _]) (by decide +kernel) (Nat.le_of_ble_eq_true rfl) rfl (fun hMw hav => ?_)
  refine g_aload_n (q0 := 1) (j := 0) rfl dX12_laysPairs_0 rfl ?_
  refine g_iconst (q0 := 2) rfl dX12_laysPairs_1 (k := ?_)
  refine g_put (q0 := 5) (t := 0) (fi := 59) rfl rfl ff_X12_721 dX12_laysPairs_2 rfl (sh_711 hOK) rfl (fun _ => ⟨rfl, rfl⟩) ?_
  have hOK2 : gOK sh (gU M 711 59 0) := gOK_o hOK (sh_711 hOK) (f := 59) rfl rfl
  refine g_iconst (q0 := 6) rfl dX12_laysPairs_5 (k := ?_)
  refine g_istore_n (q0 := 7) (j := 3) (lv2 := [_, _, _, _]) rfl dX12_laysPairs_6 (by decide) rfl rfl ?_
  exact ok_laysPairs_7 hOK2 h
-- ==== diff
theorem dX12_diff_0 : decode cX12_diff 0 = .ok (.aload_n 0, 1) := by decide +kernel
theorem dX12_diff_1 : decode cX12_diff 1 = .ok (.iload_n 1, 1) := by decide +kernel
theorem dX12_diff_2 : decode cX12_diff 2 = .ok (.invokevirtual 229, 3) := by decide +kernel
theorem dX12_diff_5 : decode cX12_diff 5 = .ok (.ifCond .eq 20, 3) := by decide +kernel
theorem dX12_diff_8 : decode cX12_diff 8 = .ok (.aload_n 0, 1) := by decide +kernel
theorem dX12_diff_9 : decode cX12_diff 9 = .ok (.iload_n 2, 1) := by decide +kernel
theorem dX12_diff_10 : decode cX12_diff 10 = .ok (.invokevirtual 229, 3) := by decide +kernel
theorem dX12_diff_13 : decode cX12_diff 13 = .ok (.ifCond .eq 12, 3) := by decide +kernel
theorem dX12_diff_16 : decode cX12_diff 16 = .ok (.iload_n 3, 1) := by decide +kernel
theorem dX12_diff_17 : decode cX12_diff 17 = .ok (.iconst 0, 1) := by decide +kernel
theorem dX12_diff_18 : decode cX12_diff 18 = .ok (.iconst 3, 1) := by decide +kernel
theorem dX12_diff_19 : decode cX12_diff 19 = .ok (.invokestatic 182, 3) := by decide +kernel
theorem dX12_diff_22 : decode cX12_diff 22 = .ok (.ifCond .ne 5, 3) := by decide +kernel
theorem dX12_diff_25 : decode cX12_diff 25 = .ok (.iconst (-1), 1) := by decide +kernel
theorem dX12_diff_26 : decode cX12_diff 26 = .ok (.ireturn, 1) := by decide +kernel
theorem dX12_diff_27 : decode cX12_diff 27 = .ok (.iload_n 3, 1) := by decide +kernel
theorem dX12_diff_28 : decode cX12_diff 28 = .ok (.iconst 3, 1) := by decide +kernel
theorem dX12_diff_29 : decode cX12_diff 29 = .ok (.if_icmp .ge 37, 3) := by decide +kernel
theorem dX12_diff_32 : decode cX12_diff 32 = .ok (.iload_n 3, 1) := by decide +kernel
theorem dX12_diff_33 : decode cX12_diff 33 = .ok (.ifCond .ne 12, 3) := by decide +kernel
theorem dX12_diff_36 : decode cX12_diff 36 = .ok (.aload_n 0, 1) := by decide +kernel
theorem dX12_diff_37 : decode cX12_diff 37 = .ok (.iload_n 1, 1) := by decide +kernel
theorem dX12_diff_38 : decode cX12_diff 38 = .ok (.iload_n 2, 1) := by decide +kernel
theorem dX12_diff_39 : decode cX12_diff 39 = .ok (.invokevirtual 220, 3) := by decide +kernel
theorem dX12_diff_42 : decode cX12_diff 42 = .ok (.goto 23, 3) := by decide +kernel
theorem dX12_diff_45 : decode cX12_diff 45 = .ok (.iload_n 3, 1) := by decide +kernel
theorem dX12_diff_46 : decode cX12_diff 46 = .ok (.iconst 1, 1) := by decide +kernel
theorem dX12_diff_47 : decode cX12_diff 47 = .ok (.if_icmp .ne 12, 3) := by decide +kernel
theorem dX12_diff_50 : decode cX12_diff 50 = .ok (.aload_n 0, 1) := by decide +kernel
theorem dX12_diff_51 : decode cX12_diff 51 = .ok (.iload_n 1, 1) := by decide +kernel
theorem dX12_diff_52 : decode cX12_diff 52 = .ok (.iload_n 2, 1) := by decide +kernel
theorem dX12_diff_53 : decode cX12_diff 53 = .ok (.invokevirtual 223, 3) := by decide +kernel
theorem dX12_diff_56 : decode cX12_diff 56 = .ok (.goto 9, 3) := by decide +kernel
theorem dX12_diff_59 : decode cX12_diff 59 = .ok (.aload_n 0, 1) := by decide +kernel
theorem dX12_diff_60 : decode cX12_diff 60 = .ok (.iload_n 1, 1) := by decide +kernel
theorem dX12_diff_61 : decode cX12_diff 61 = .ok (.iload_n 2, 1) := by decide +kernel
theorem dX12_diff_62 : decode cX12_diff 62 = .ok (.invokevirtual 226, 3) := by decide +kernel
theorem dX12_diff_65 : decode cX12_diff 65 = .ok (.ireturn, 1) := by decide +kernel
theorem dX12_diff_66 : decode cX12_diff 66 = .ok (.aload_n 0, 1) := by decide +kernel
theorem dX12_diff_67 : decode cX12_diff 67 = .ok (.iload_n 1, 1) := by decide +kernel
theorem dX12_diff_68 : decode cX12_diff 68 = .ok (.iload_n 2, 1) := by decide +kernel
theorem dX12_diff_69 : decode cX12_diff 69 = .ok (.invokevirtual 736, 3) := by decide +kernel
theorem dX12_diff_72 : decode cX12_diff 72 = .ok (.aload_n 0, 1) := by decide +kernel
theorem dX12_diff_73 : decode cX12_diff 73 = .ok (.getfield 721, 3) := by decide +kernel
theorem dX12_diff_76 : decode cX12_diff 76 = .ok (.ireturn, 1) := by decide +kernel
noncomputable def F_diff (M : gM) (a1 a2 a3 : Int) : Option (Int × gM) := (Option.bind (F_isCommit M a1) (fun r2 =>
    (if r2 = 0 then
      some (-1, M)
    else
      (Option.bind (F_isCommit M a2) (fun r10 =>
        (if r10 = 0 then
          some (-1, M)
        else
          (Option.bind (F_in a3 0 3) (fun r19 =>
            (if r19 = 0 then
              some (-1, M)
            else
              (if a3 < 3 then
                (if a3 = 0 then
                  (Option.bind (F_gone M a1 a2) (fun r39 =>
                    some (r39, M)))
                else
                  (if a3 = 1 then
                    (Option.bind (F_newOnes M a1 a2) (fun r53 =>
                      some (r53, M)))
                  else
                    (Option.bind (F_changed M a1 a2) (fun r62 =>
                      some (r62, M)))))
              else
                (Option.bind (F_laysPairs M a1 a2) (fun m69 =>
                  some ((m69 711 59), m69)))))))))))))
theorem eq_diff (M : gM) (a1 a2 a3 : Int) : F_diff M a1 a2 a3 = (Option.bind (F_isCommit M a1) (fun r2 =>
    (if r2 = 0 then
      some (-1, M)
    else
      (Option.bind (F_isCommit M a2) (fun r10 =>
        (if r10 = 0 then
          some (-1, M)
        else
          (Option.bind (F_in a3 0 3) (fun r19 =>
            (if r19 = 0 then
              some (-1, M)
            else
              (if a3 < 3 then
                (if a3 = 0 then
                  (Option.bind (F_gone M a1 a2) (fun r39 =>
                    some (r39, M)))
                else
                  (if a3 = 1 then
                    (Option.bind (F_newOnes M a1 a2) (fun r53 =>
                      some (r53, M)))
                  else
                    (Option.bind (F_changed M a1 a2) (fun r62 =>
                      some (r62, M)))))
              else
                (Option.bind (F_laysPairs M a1 a2) (fun m69 =>
                  some ((m69 711 59), m69))))))))))))) := rfl
theorem fr_diff {M : gM} {a1 a2 a3 : Int} {b : Int × gM} (h : F_diff M a1 a2 a3 = some b) : gFr [750, 751, 752] [59] M b.2 := by
  rw [eq_diff] at h
  obtain ⟨r2, e2, h⟩ := gI_bd h
  rcases gI_or h with h | h
  · rw [← Option.some.inj h]
    exact (gFr_r [750, 751, 752] [59] _)
  · obtain ⟨r10, e10, h⟩ := gI_bd h
    rcases gI_or h with h | h
    · rw [← Option.some.inj h]
      exact (gFr_r [750, 751, 752] [59] _)
    · obtain ⟨r19, e19, h⟩ := gI_bd h
      rcases gI_or h with h | h
      · rw [← Option.some.inj h]
        exact (gFr_r [750, 751, 752] [59] _)
      · rcases gI_or h with h | h
        · rcases gI_or h with h | h
          · obtain ⟨r39, e39, h⟩ := gI_bd h
            rw [← Option.some.inj h]
            exact (gFr_r [750, 751, 752] [59] _)
          · rcases gI_or h with h | h
            · obtain ⟨r53, e53, h⟩ := gI_bd h
              rw [← Option.some.inj h]
              exact (gFr_r [750, 751, 752] [59] _)
            · obtain ⟨r62, e62, h⟩ := gI_bd h
              rw [← Option.some.inj h]
              exact (gFr_r [750, 751, 752] [59] _)
        · obtain ⟨m69, e69, h⟩ := gI_bd h
          rw [← Option.some.inj h]
          exact (gFr_t (gFr_r [750, 751, 752] [59] _) (fr_laysPairs (b := m69) e69) (by first | decide | simp) (by decide))
theorem ok_diff {sh : gS} {M : gM} {a1 a2 a3 : Int} {b : Int × gM} (hOK : gOK sh M) (h : F_diff M a1 a2 a3 = some b) : gC (gr 6 146) yX12_diff cX12_diff 4 (some (.int)) [(4, 711), (0, a1), (0, a2), (0, a3)] sh M (gPq sh (some (0, b.1)) b.2) := by
  rw [eq_diff] at h
  refine gC_ofA (lv := [_, _, _, _]) (by decide +kernel) (Nat.le_of_ble_eq_true rfl) rfl (fun hMw hav => ?_)
  refine g_aload_n (q0 := 1) (j := 0) rfl dX12_diff_0 rfl ?_
  refine g_iload_n (q0 := 2) (j := 1) rfl dX12_diff_1 rfl ?_
  obtain ⟨r2, e2, h⟩ := gI_bd h
  refine g_callVq1 (as := [_]) (rest := []) mt_X12_isCommit mi_X12_isCommit se_X12_isCommit ml_X12_229 dX12_diff_2 (q0 := 5) rfl rfl (sh_711 hOK) rfl rfl (ok_isCommit hOK e2) rfl ⟨by decide, by decide⟩ (Nat.le_of_ble_eq_true rfl) ⟨Nat.zero_le _, Nat.zero_le _⟩ ?_
  refine g_if_eq (q0 := 8) (tgt := 25) rfl dX12_diff_5 (by decide) (fun h5 => ?_) (fun h5 => ?_)
  · replace h := gI_pos h5 h
    refine g_iconst (q0 := 26) rfl dX12_diff_25 (k := ?_)
    rw [← Option.some.inj h]
    refine g_ireturn dX12_diff_26 rfl ⟨Nat.zero_le _, Nat.zero_le _⟩ ?_
    exact ⟨rfl, rfl, rfl⟩
  · replace h := gI_neg h5 h
    refine g_aload_n (q0 := 9) (j := 0) rfl dX12_diff_8 rfl ?_
    refine g_iload_n (q0 := 10) (j := 2) rfl dX12_diff_9 rfl ?_
    obtain ⟨r10, e10, h⟩ := gI_bd h
    refine g_callVq1 (as := [_]) (rest := []) mt_X12_isCommit mi_X12_isCommit se_X12_isCommit ml_X12_229 dX12_diff_10 (q0 := 13) rfl rfl (sh_711 hOK) rfl rfl (ok_isCommit hOK e10) rfl ⟨by decide, by decide⟩ (Nat.le_of_ble_eq_true rfl) ⟨Nat.zero_le _, Nat.zero_le _⟩ ?_
    refine g_if_eq (q0 := 16) (tgt := 25) rfl dX12_diff_13 (by decide) (fun h13 => ?_) (fun h13 => ?_)
    · replace h := gI_pos h13 h
      refine g_iconst (q0 := 26) rfl dX12_diff_25 (k := ?_)
      rw [← Option.some.inj h]
      refine g_ireturn dX12_diff_26 rfl ⟨Nat.zero_le _, Nat.zero_le _⟩ ?_
      exact ⟨rfl, rfl, rfl⟩
    · replace h := gI_neg h13 h
      refine g_iload_n (q0 := 17) (j := 3) rfl dX12_diff_16 rfl ?_
      refine g_iconst (q0 := 18) rfl dX12_diff_17 (k := ?_)
      refine g_iconst (q0 := 19) rfl dX12_diff_18 (k := ?_)
      obtain ⟨r19, e19, h⟩ := gI_bd h
      refine g_callSq1 (as := [_, _, _]) (rest := []) mt_X12_in ms_X12_in ml_X12_182 dX12_diff_19 (q0 := 22) rfl rfl (ok_in hOK e19) rfl ⟨by decide, by decide⟩ (Nat.le_of_ble_eq_true rfl) ⟨Nat.zero_le _, Nat.zero_le _⟩ ?_
      refine g_if_ne (q0 := 25) (tgt := 27) rfl dX12_diff_22 (by decide) (fun h22 => ?_) (fun h22 => ?_)
      · replace h := gI_neg h22 h
        refine g_iload_n (q0 := 28) (j := 3) rfl dX12_diff_27 rfl ?_
        refine g_iconst (q0 := 29) rfl dX12_diff_28 (k := ?_)
        refine g_icmp_ge (q0 := 32) (tgt := 66) rfl dX12_diff_29 (by decide) (fun h29 => ?_) (fun h29 => ?_)
        · replace h := gI_neg (Int.not_lt.mpr h29) h
          refine g_aload_n (q0 := 67) (j := 0) rfl dX12_diff_66 rfl ?_
          refine g_iload_n (q0 := 68) (j := 1) rfl dX12_diff_67 rfl ?_
          refine g_iload_n (q0 := 69) (j := 2) rfl dX12_diff_68 rfl ?_
          obtain ⟨m69, e69, h⟩ := gI_bd h
          refine g_callVq0 (as := [_, _]) (rest := []) mt_X12_laysPairs mi_X12_laysPairs se_X12_laysPairs ml_X12_736 dX12_diff_69 (q0 := 72) rfl rfl (sh_711 hOK) rfl rfl (ok_laysPairs hOK e69) rfl ⟨by decide, by decide⟩ (Nat.le_of_ble_eq_true rfl) ⟨Nat.zero_le _, Nat.zero_le _⟩ ?_
          have hOK1 : gOK sh m69 := gOK_fr hOK (fr_laysPairs (b := m69) e69) (by first | decide | (intro a ha; simp only [List.mem_cons, List.not_mem_nil, or_false] at ha; omega)) (by decide)
          refine g_aload_n (q0 := 73) (j := 0) rfl dX12_diff_72 rfl ?_
          refine g_getf (q0 := 76) (t := 0) (fi := 59) rfl rfl ff_X12_721 dX12_diff_73 rfl (sh_711 hOK1) ?_
          rw [← Option.some.inj h]
          refine g_ireturn dX12_diff_76 rfl ⟨Nat.zero_le _, Nat.zero_le _⟩ ?_
          exact ⟨rfl, rfl, rfl⟩
        · replace h := gI_pos h29 h
          refine g_iload_n (q0 := 33) (j := 3) rfl dX12_diff_32 rfl ?_
          refine g_if_ne (q0 := 36) (tgt := 45) rfl dX12_diff_33 (by decide) (fun h33 => ?_) (fun h33 => ?_)
          · replace h := gI_neg h33 h
            refine g_iload_n (q0 := 46) (j := 3) rfl dX12_diff_45 rfl ?_
            refine g_iconst (q0 := 47) rfl dX12_diff_46 (k := ?_)
            refine g_icmp_ne (q0 := 50) (tgt := 59) rfl dX12_diff_47 (by decide) (fun h47 => ?_) (fun h47 => ?_)
            · replace h := gI_neg h47 h
              refine g_aload_n (q0 := 60) (j := 0) rfl dX12_diff_59 rfl ?_
              refine g_iload_n (q0 := 61) (j := 1) rfl dX12_diff_60 rfl ?_
              refine g_iload_n (q0 := 62) (j := 2) rfl dX12_diff_61 rfl ?_
              obtain ⟨r62, e62, h⟩ := gI_bd h
              refine g_callVq1 (as := [_, _]) (rest := []) mt_X12_changed mi_X12_changed se_X12_changed ml_X12_226 dX12_diff_62 (q0 := 65) rfl rfl (sh_711 hOK) rfl rfl (ok_changed hOK e62) rfl ⟨by decide, by decide⟩ (Nat.le_of_ble_eq_true rfl) ⟨Nat.zero_le _, Nat.zero_le _⟩ ?_
              rw [← Option.some.inj h]
              refine g_ireturn dX12_diff_65 rfl ⟨Nat.zero_le _, Nat.zero_le _⟩ ?_
              exact ⟨rfl, rfl, rfl⟩
            · replace h := gI_pos h47 h
              refine g_aload_n (q0 := 51) (j := 0) rfl dX12_diff_50 rfl ?_
              refine g_iload_n (q0 := 52) (j := 1) rfl dX12_diff_51 rfl ?_
              refine g_iload_n (q0 := 53) (j := 2) rfl dX12_diff_52 rfl ?_
              obtain ⟨r53, e53, h⟩ := gI_bd h
              refine g_callVq1 (as := [_, _]) (rest := []) mt_X12_newOnes mi_X12_newOnes se_X12_newOnes ml_X12_223 dX12_diff_53 (q0 := 56) rfl rfl (sh_711 hOK) rfl rfl (ok_newOnes hOK e53) rfl ⟨by decide, by decide⟩ (Nat.le_of_ble_eq_true rfl) ⟨Nat.zero_le _, Nat.zero_le _⟩ ?_
              refine g_goto (tgt := 65) dX12_diff_56 (by decide) ?_
              rw [← Option.some.inj h]
              refine g_ireturn dX12_diff_65 rfl ⟨Nat.zero_le _, Nat.zero_le _⟩ ?_
              exact ⟨rfl, rfl, rfl⟩
          · replace h := gI_pos h33 h
            refine g_aload_n (q0 := 37) (j := 0) rfl dX12_diff_36 rfl ?_
            refine g_iload_n (q0 := 38) (j := 1) rfl dX12_diff_37 rfl ?_
            refine g_iload_n (q0 := 39) (j := 2) rfl dX12_diff_38 rfl ?_
            obtain ⟨r39, e39, h⟩ := gI_bd h
            refine g_callVq1 (as := [_, _]) (rest := []) mt_X12_gone mi_X12_gone se_X12_gone ml_X12_220 dX12_diff_39 (q0 := 42) rfl rfl (sh_711 hOK) rfl rfl (ok_gone hOK e39) rfl ⟨by decide, by decide⟩ (Nat.le_of_ble_eq_true rfl) ⟨Nat.zero_le _, Nat.zero_le _⟩ ?_
            refine g_goto (tgt := 65) dX12_diff_42 (by decide) ?_
            rw [← Option.some.inj h]
            refine g_ireturn dX12_diff_65 rfl ⟨Nat.zero_le _, Nat.zero_le _⟩ ?_
            exact ⟨rfl, rfl, rfl⟩
      · replace h := gI_pos h22 h
        refine g_iconst (q0 := 26) rfl dX12_diff_25 (k := ?_)
        rw [← Option.some.inj h]
        refine g_ireturn dX12_diff_26 rfl ⟨Nat.zero_le _, Nat.zero_le _⟩ ?_
        exact ⟨rfl, rfl, rfl⟩
