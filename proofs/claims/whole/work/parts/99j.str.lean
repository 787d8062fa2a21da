-- ==== old cells: the texts of PlanText and their bytes
section
variable {R : Room} {y : MethodName} {cc : ByteArray} {nL : Nat} {ret : Option FieldType} {Q : Option gV → gS → gM → Prop} {ck : Nat × Nat} {pc : Nat} {lv st : List gV} {sh : gS} {M : gM}
theorem gw_5 (x : Int) : gw (5, x) := trivial
theorem g_sval {q0 : Nat} (hq0 : pc + 3 = q0) {idx i : Nat} (hi : i < 15) (hw : Cond.fieldLink y.cls idx "java/lang/String" "value" "[B" ∈ gAll) (hd : decode cc pc = .ok (.getfield idx, 3))
    (k : gA R y cc nL ret Q ck q0 lv ((5, ((15 + i : Nat) : Int)) :: st) sh M) : gA R y cc nL ret Q ck pc lv ((5, (i : Int)) :: st) sh M := by
  subst hq0
  intro l G p e s m args below meth c H locs ls hC hH hlw hsw hl hS hB
  obtain ⟨hx, hb, hml, hr, hown, hts, hlk, hnm, hK⟩ := id hC
  obtain ⟨⟨adK, adV, h3, h4⟩, -, -, -⟩ := hK.2.2.2
  obtain ⟨e1, e2, -⟩ := h4 i hi
  have h9 := k l G p e s m args below meth c H locs ls hC hH hlw (List.forall_mem_cons.mpr ⟨gw_5 _, (List.forall_mem_cons.mp hsw).2⟩) hl hS hB
  rw [List.map_cons, show gc G (5, ((15 + i : Nat) : Int)) = va_rf (G.2.2.2 (15 + i)) from rfl, e2] at h9
  rw [List.map_cons, show gc G (5, (i : Int)) = va_rf (G.2.2.2 i) from rfl, e1]
  exact vk_getf hx hb (h3.1 i hi).2.2.1 hS hown (hts _ hw) (fun _ h => h) hd h9
theorem g_scod {q0 : Nat} (hq0 : pc + 3 = q0) {idx i : Nat} (hi : i < 15) (hw : Cond.fieldLink y.cls idx "java/lang/String" "coder" "B" ∈ gAll) (hd : decode cc pc = .ok (.getfield idx, 3))
    (k : gA R y cc nL ret Q ck q0 lv ((0, 0) :: st) sh M) : gA R y cc nL ret Q ck pc lv ((5, (i : Int)) :: st) sh M := by
  subst hq0
  intro l G p e s m args below meth c H locs ls hC hH hlw hsw hl hS hB
  obtain ⟨hx, hb, hml, hr, hown, hts, hlk, hnm, hK⟩ := id hC
  obtain ⟨⟨adK, adV, h3, h4⟩, -, -, -⟩ := hK.2.2.2
  obtain ⟨e1, e2, -⟩ := h4 i hi
  have h9 := k l G p e s m args below meth c H locs ls hC hH hlw (List.forall_mem_cons.mpr ⟨⟨by decide, by decide⟩, (List.forall_mem_cons.mp hsw).2⟩) hl hS hB
  rw [List.map_cons, show gc G (0, 0) = .int 0 from rfl] at h9
  rw [List.map_cons, show gc G (5, (i : Int)) = va_rf (G.2.2.2 i) from rfl, e1]
  exact vk_getf hx hb (h3.1 i hi).2.1 hS hown (hts _ hw) (fun _ h => h) hd h9
theorem g_slen {q0 : Nat} (hq0 : pc + 1 = q0) {i : Nat} (hi : i < 15) (hd : decode cc pc = .ok (.arraylength, 1))
    (k : gA R y cc nL ret Q ck q0 lv ((0, ((gSlen.getD i 0 : Nat) : Int)) :: st) sh M) : gA R y cc nL ret Q ck pc lv ((5, ((15 + i : Nat) : Int)) :: st) sh M := by
  subst hq0
  intro l G p e s m args below meth c H locs ls hC hH hlw hsw hl hS hB
  obtain ⟨hx, hb, hml, hr, hown, hts, hlk, hnm, hK⟩ := id hC
  obtain ⟨⟨adK, adV, h3, h4⟩, -, -, -⟩ := hK.2.2.2
  obtain ⟨e1, e2, -⟩ := h4 i hi
  have hlen : ∀ i : Nat, i < 15 → gSlen.getD i 0 < 100 := by decide
  have := hlen i hi
  have h9 := k l G p e s m args below meth c H locs ls hC hH hlw (List.forall_mem_cons.mpr ⟨⟨by show (-2147483648 : Int) ≤ _; omega, by show _ < (2147483648 : Int); omega⟩, (List.forall_mem_cons.mp hsw).2⟩) hl hS hB
  rw [List.map_cons, show gc G (0, ((gSlen.getD i 0 : Nat) : Int)) = .int (Int32.ofInt ((gSlen.getD i 0 : Nat) : Int)) from rfl] at h9
  rw [List.map_cons, show gc G (5, ((15 + i : Nat) : Int)) = va_rf (G.2.2.2 (15 + i)) from rfl, e2]
  exact va_tlen hx hb (h3.1 i hi).2.2.2 hS rfl hd h9
theorem g_sbld {q0 : Nat} (hq0 : pc + 1 = q0) {i : Nat} {x : Int} (hi : i < 15) (hd : decode cc pc = .ok (.baload, 1)) (h0 : 0 ≤ x) (hn : x < ((gSlen.getD i 0 : Nat) : Int))
    (k : gA R y cc nL ret Q ck q0 lv ((0, ((gSbyt.getD i []).getD x.toNat 0).toInt) :: st) sh M) : gA R y cc nL ret Q ck pc lv ((0, x) :: (5, ((15 + i : Nat) : Int)) :: st) sh M := by
  subst hq0
  intro l G p e s m args below meth c H locs ls hC hH hlw hsw hl hS hB
  obtain ⟨hx, hb, hml, hr, hown, hts, hlk, hnm, hK⟩ := id hC
  obtain ⟨⟨adK, adV, h3, h4⟩, -, -, -⟩ := hK.2.2.2
  obtain ⟨e1, e2, -⟩ := h4 i hi
  obtain ⟨hv, hsw2⟩ := List.forall_mem_cons.mp hsw
  have h9 := k l G p e s m args below meth c H locs ls hC hH hlw (List.forall_mem_cons.mpr ⟨gw_to _, (List.forall_mem_cons.mp hsw2).2⟩) hl hS hB
  rw [List.map_cons, show gc G (0, ((gSbyt.getD i []).getD x.toNat 0).toInt) = .int (Int32.ofInt ((gSbyt.getD i []).getD x.toNat 0).toInt) from rfl, Int32.ofInt_toInt] at h9
  rw [List.map_cons, List.map_cons, show gc G (5, ((15 + i : Nat) : Int)) = va_rf (G.2.2.2 (15 + i)) from rfl, e2]
  refine va_tb hx hb (h3.1 i hi).2.2.2 hS (gi_in hv h0 hn) ?_ hd h9
  rw [gi_cl hv]
theorem g_areturn5 {i : Nat} (hi : i < 15) (hd : decode cc pc = .ok (.areturn, 1)) (hret : ret = some (.object "java/lang/String")) (hck : ck.1 ≤ R.cells ∧ ck.2 ≤ R.slots) (hq : Q (some (5, (i : Int))) sh M) : gA R y cc nL ret Q ck pc lv [(5, (i : Int))] sh M := by
  intro l G p e s m args below meth c H locs ls hC hH hlw hsw hl hS hB
  obtain ⟨hx, hb, hml, hr, hown, hts, hlk, hnm, hK⟩ := id hC
  refine W.widen hck.1 hck.2 ?_
  obtain ⟨⟨adK, adV, h3, h4⟩, -, -, -⟩ := hK.2.2.2
  obtain ⟨e1, e2, -⟩ := h4 i hi
  have e00 : gc G (5, (i : Int)) = .ref (adK i) := by show va_rf (G.2.2.2 i) = _; rw [e1]; rfl
  show W _ _ _ _ _ _ _ _ _ _ _ _ _ _ _ (F0 m pc ls [gc G (5, (i : Int))])
  rw [e00]
  refine W.aret hx hb (hr.trans hret) (Or.inl ⟨_, rfl⟩) (Or.inr ⟨_, rfl⟩) (fun t ht hW => ?_) hS.2.2 hd hlk
  exact ⟨⟨(some (5, (i : Int))), sh, M, by rw [Option.map_some, e00], hq, (fun (w : gV) (hw : some ((5, (i : Int)) : gV) = some w) => by cases hw; trivial), by rw [ht]; exact hH⟩, hS.F ht⟩
theorem g_callW {q0 : Nat} {fb lb : Nat} {yc : MethodName} {cb : ByteArray} {nb n idx : Nat} {rb : Option FieldType} {rest as : List gV} {i : Nat} {v : gV} (hi15 : i < 15) (hm : gMt yc cb nb rb n) (hi : Cond.instanceMethod yc ∈ gAll) (hse : Cond.selects yc.cls yc yc ∈ gAll) (hl0 : Cond.methodLink y.cls idx yc ∈ gAll) (hd : decode cc pc = .ok (.invokevirtual idx, 3)) (hq0 : pc + 3 = q0) (hst : ((5, (i : Int)) :: as).reverse ++ rest = st) (hC5 : yc.cls = "java/lang/String")
    (hc : gC (gr fb lb) yc cb nb rb ((5, (i : Int)) :: as) sh M (gPp sh M v)) (hn : as.length = n) (hR : fb + 1 ≤ R.frames ∧ 8 + (nb + 11) + lb ≤ R.locals) (hrest : (rest.map gcat).sum ≤ 8) (hck : ck.1 ≤ R.cells ∧ ck.2 ≤ R.slots)
    (k : gw v → gA R y cc nL ret Q ck (q0) lv (v :: rest) sh M) : gA R y cc nL ret Q ck pc lv st sh M := by
  subst hq0
  intro l G p e s m args below meth c H locs ls hC hH hlw hsw hl hS hB
  obtain ⟨hx, hb, hml, hr, hown, hts, hlk, hnm, hK⟩ := id hC
  subst hst
  obtain ⟨⟨adK, adV, h3, h4⟩, -, -, -⟩ := hK.2.2.2
  obtain ⟨e1, e2, -⟩ := h4 i hi15
  have haw : ∀ v ∈ (((5, (i : Int)) : gV) :: as), gw v := fun v hv => hsw v (List.mem_append_left _ (List.mem_reverse.mpr hv))
  have hrw : ∀ v ∈ rest, gw v := fun v hv => hsw v (List.mem_append_right _ hv)
  have e00 : gc G (5, (i : Int)) = .ref (adK i) := by show va_rf (G.2.2.2 i) = _; rw [e1]; rfl
  have e0 : ((((5, (i : Int)) : gV) :: as).reverse ++ rest).map (gc G) = (as.map (gc G)).reverse ++ .ref (adK i) :: rest.map (gc G) := by
    rw [List.map_append, List.map_reverse, List.map_cons, List.reverse_cons, e00, List.append_assoc]
    rfl
  have e1' : (((5, (i : Int)) : gV) :: as).map (gc G) = .ref (adK i) :: as.map (gc G) := by rw [List.map_cons, e00]
  rw [e0]
  have hMet := hc l G
  refine g_after (va_runV (C := yc.cls) (As := as.map (gc G)) (b := adK i) ⟨hx, hb, hml, hown, hts⟩ hMet ⟨gMt_B hm hts hR hl0, hts _ hi, hts _ hse⟩ ⟨gBlind, (by rw [hC5]; exact vk_recv h3 hi15 hS), fun U hU hW => ⟨by rw [← e1'], Nat.le_trans hB (by rw [hU]; exact hS.1), by rw [hU]; exact hH, gK_at hK hS hB hU hW, haw⟩⟩ rfl ((List.length_map _).trans hn) hl.1 rfl (lv_room (by rw [gcat_sum]; exact hrest)) hd hck) hS hB (fun r sh1 M1 H1 locs1 hq hw hH1 hS1 => ?_)
  obtain ⟨rfl, rfl, rfl⟩ := hq
  have h9 := k (hw v rfl) l G p e s m args below meth c H1 locs1 ls hC hH1 hlw ?_ hl hS1 hB
  · rw [List.append_nil]
    exact h9
  · intro w hv
    rcases List.mem_cons.mp hv with q | q
    · rw [q]; exact hw v rfl
    · exact hrw w q
end
