-- ==== the rules over one state (for the law)
/-- what holds of the law's frame -/
def gCy (G : gG) (y : MethodName) (cc : ByteArray) (nL : Nat) (ret : Option FieldType) (p : Program) (s : State) (m : MethodId) (args : Array Value) (meth : Method) (c : Code) : Prop :=
  p.tables.exec = Jvm.exec ∧ c.code = cc ∧ c.maxLocals = nL ∧ meth.sig.returnType = ret ∧ s.vm.findClass y.cls = some m.cls ∧ (∀ w ∈ gAll, w.before args s = true) ∧ meth.locks = false ∧ True ∧ gK G s
def gB (l : Launch) (G : gG) (p : Program) (e : Env) (s : State) (m : MethodId) (args : Array Value) (below : List Frame) (meth : Method) (c : Code) (Z : State → Prop) (R : Room) (y : MethodName) (cc : ByteArray) (nL : Nat) (ret : Option FieldType) (ck : Nat × Nat) (pc : Nat) (lv st : List gV) (sh : gS) (M : gM) : Prop :=
  ∀ (H : Heap) (locs : List Loc) (ls : Array Slot),
    gCy G y cc nL ret p s m args meth c → gH G sh M H → (∀ v ∈ lv, gw v) → (∀ v ∈ st, gw v) → lv_has ls nL (gL G lv) → va_S (fun q => G.1 ≤ q) s.heap H locs → G.1 ≤ s.heap.size →
    W p l e R s m args below meth c H locs ck.1 ck.2 Z (F0 m pc ls (st.map (gc G)))
section
variable {l : Launch} {G : gG} {p : Program} {e : Env} {s : State} {m : MethodId} {args : Array Value} {below : List Frame} {meth : Method} {c : Code} {Z : State → Prop} {R : Room} {y : MethodName} {cc : ByteArray} {nL : Nat} {ret : Option FieldType} {ck : Nat × Nat} {pc : Nat} {lv st : List gV} {sh : gS} {M : gM}
theorem q_iconst {q0 : Nat} (hq0 : pc + 1 = q0) {n : Int} (hd : decode cc pc = .ok (.iconst n, 1)) (h1 : -2147483648 ≤ n := by decide) (h2 : n < 2147483648 := by decide)
    (k : gB l G p e s m args below meth c Z R y cc nL ret ck q0 lv ((0, n) :: st) sh M) : gB l G p e s m args below meth c Z R y cc nL ret ck pc lv st sh M := by
  subst hq0
  intro H locs ls hC hH hlw hsw hl hS hB
  obtain ⟨hx, hb, hml, hr, hown, hts, hlk, -, hK⟩ := id hC
  refine lv_iconst (v := Int32.ofInt n) hx hb hd rfl ?_
  exact k H locs ls hC hH hlw (List.forall_mem_cons.mpr ⟨⟨h1, h2⟩, hsw⟩) hl hS hB
theorem q_bipush {q0 : Nat} (hq0 : pc + 2 = q0) {n : Int} (hd : decode cc pc = .ok (.bipush n, 2)) (hv : (Int8.ofInt n).toInt32 = Int32.ofInt n := by decide) (h1 : -2147483648 ≤ n := by decide) (h2 : n < 2147483648 := by decide)
    (k : gB l G p e s m args below meth c Z R y cc nL ret ck q0 lv ((0, n) :: st) sh M) : gB l G p e s m args below meth c Z R y cc nL ret ck pc lv st sh M := by
  subst hq0
  intro H locs ls hC hH hlw hsw hl hS hB
  obtain ⟨hx, hb, hml, hr, hown, hts, hlk, -, hK⟩ := id hC
  refine lv_bipush (v := Int32.ofInt n) hx hb hd hv ?_
  exact k H locs ls hC hH hlw (List.forall_mem_cons.mpr ⟨⟨h1, h2⟩, hsw⟩) hl hS hB
theorem q_iload_n {q0 : Nat} (hq0 : pc + 1 = q0) {j : Fin 4} {x : Int} (hd : decode cc pc = .ok (.iload_n j, 1)) (hv : lv[(j : Nat)]? = some (0, x))
    (k : gB l G p e s m args below meth c Z R y cc nL ret ck q0 lv ((0, x) :: st) sh M) : gB l G p e s m args below meth c Z R y cc nL ret ck pc lv st sh M := by
  subst hq0
  intro H locs ls hC hH hlw hsw hl hS hB
  obtain ⟨hx, hb, hml, hr, hown, hts, hlk, -, hK⟩ := id hC
  refine lv_iload_n hx hb hd rfl (gL_at hl hv (Nat.ne_of_beq_eq_false rfl)) ?_
  exact k H locs ls hC hH hlw (List.forall_mem_cons.mpr ⟨hlw _ (List.mem_of_getElem? hv), hsw⟩) hl hS hB
theorem q_aload_n {q0 : Nat} (hq0 : pc + 1 = q0) {j : Fin 4} {x : Int} (hd : decode cc pc = .ok (.aload_n j, 1)) (hv : lv[(j : Nat)]? = some (4, x))
    (k : gB l G p e s m args below meth c Z R y cc nL ret ck q0 lv ((4, x) :: st) sh M) : gB l G p e s m args below meth c Z R y cc nL ret ck pc lv st sh M := by
  subst hq0
  intro H locs ls hC hH hlw hsw hl hS hB
  obtain ⟨hx, hb, hml, hr, hown, hts, hlk, -, hK⟩ := id hC
  have h8 := gL_at hl hv (Nat.ne_of_beq_eq_false rfl)
  have h9 := k H locs ls hC hH hlw (List.forall_mem_cons.mpr ⟨trivial, hsw⟩) hl hS hB
  rw [List.map_cons] at h9
  by_cases hx0 : 0 ≤ x
  · rw [gc_ref G hx0] at h8 h9
    exact lv_aload_n hx hb hd rfl h8 h9
  · rw [gc_null G (Int.not_le.mp hx0)] at h8 h9
    exact lv_aload_nN hx hb hd rfl h8 h9
theorem q_aload5_n {q0 : Nat} (hq0 : pc + 1 = q0) {j : Fin 4} {x : Int} (hd : decode cc pc = .ok (.aload_n j, 1)) (hv : lv[(j : Nat)]? = some (5, x))
    (k : gB l G p e s m args below meth c Z R y cc nL ret ck q0 lv ((5, x) :: st) sh M) : gB l G p e s m args below meth c Z R y cc nL ret ck pc lv st sh M := by
  subst hq0
  intro H locs ls hC hH hlw hsw hl hS hB
  obtain ⟨hx, hb, hml, hr, hown, hts, hlk, -, hK⟩ := id hC
  have h8 := gL_at hl hv (Nat.ne_of_beq_eq_false rfl)
  have h9 := k H locs ls hC hH hlw (List.forall_mem_cons.mpr ⟨trivial, hsw⟩) hl hS hB
  rw [List.map_cons] at h9
  have e0 : gc G (5, x) = va_rf (G.2.2.2 x.toNat) := rfl
  rw [e0] at h8 h9
  cases hq : G.2.2.2 x.toNat with
  | none =>
    rw [hq] at h8 h9
    exact lv_aload_nN hx hb hd rfl h8 h9
  | some q =>
    rw [hq] at h8 h9
    exact lv_aload_n hx hb hd rfl h8 h9
theorem q_istore_n {q0 : Nat} (hq0 : pc + 1 = q0) {j : Fin 4} {x : Int} {lv2 : List gV} (hd : decode cc pc = .ok (.istore_n j, 1)) (hn : (j : Nat) < nL) (ho : gOk lv (j : Nat) = true) (he : lv.set (j : Nat) (0, x) = lv2)
    (k : gB l G p e s m args below meth c Z R y cc nL ret ck q0 lv2 st sh M) : gB l G p e s m args below meth c Z R y cc nL ret ck pc lv ((0, x) :: st) sh M := by
  subst hq0
  intro H locs ls hC hH hlw hsw hl hS hB
  obtain ⟨hx, hb, hml, hr, hown, hts, hlk, -, hK⟩ := id hC
  refine lv_istore_n hx hb hd rfl hl hn rfl (fun ls2 hl2 => ?_)
  subst he
  exact k H locs ls2 hC hH (gw_set hlw (List.forall_mem_cons.mp hsw).1) (List.forall_mem_cons.mp hsw).2 (gL_set ho hl2) hS hB
theorem q_astore_n {q0 : Nat} (hq0 : pc + 1 = q0) {j : Fin 4} {x : Int} {lv2 : List gV} (hd : decode cc pc = .ok (.astore_n j, 1)) (hn : (j : Nat) < nL) (ho : gOk lv (j : Nat) = true) (he : lv.set (j : Nat) (4, x) = lv2)
    (k : gB l G p e s m args below meth c Z R y cc nL ret ck q0 lv2 st sh M) : gB l G p e s m args below meth c Z R y cc nL ret ck pc lv ((4, x) :: st) sh M := by
  subst hq0
  intro H locs ls hC hH hlw hsw hl hS hB
  obtain ⟨hx, hb, hml, hr, hown, hts, hlk, -, hK⟩ := id hC
  subst he
  rw [List.map_cons]
  by_cases hx0 : 0 ≤ x
  · rw [gc_ref G hx0]
    refine lv_astore_n hx hb hd rfl hl hn rfl (fun ls2 hl2 => ?_)
    rw [← gc_ref G hx0] at hl2
    exact k H locs ls2 hC hH (gw_set hlw (List.forall_mem_cons.mp hsw).1) (List.forall_mem_cons.mp hsw).2 (gL_set ho hl2) hS hB
  · rw [gc_null G (Int.not_le.mp hx0)]
    refine lv_astore_nN hx hb hd rfl hl hn rfl (fun ls2 hl2 => ?_)
    rw [← gc_null G (Int.not_le.mp hx0)] at hl2
    exact k H locs ls2 hC hH (gw_set hlw (List.forall_mem_cons.mp hsw).1) (List.forall_mem_cons.mp hsw).2 (gL_set ho hl2) hS hB
theorem q_iinc {q0 : Nat} (hq0 : pc + 3 = q0) {j : Nat} {x n : Int} {lv2 : List gV} (hd : decode cc pc = .ok (.iinc j n, 3)) (hv : lv[j]? = some (0, x)) (hn : j < nL) (ho : gOk lv j = true) (he : lv.set j (0, x + n) = lv2) (h1 : -2147483648 ≤ x + n) (h2 : x + n < 2147483648)
    (k : gB l G p e s m args below meth c Z R y cc nL ret ck q0 lv2 st sh M) : gB l G p e s m args below meth c Z R y cc nL ret ck pc lv st sh M := by
  subst hq0
  intro H locs ls hC hH hlw hsw hl hS hB
  obtain ⟨hx, hb, hml, hr, hown, hts, hlk, -, hK⟩ := id hC
  obtain ⟨q, hq⟩ := gL_get (G := G) hv (Nat.ne_of_beq_eq_false rfl)
  refine lv_iinc (v := Int32.ofInt (x + n)) hx hb hd hl hq (Int32.ofInt_add x n).symm hn rfl (fun ls2 hl2 => ?_)
  subst he
  exact k H locs ls2 hC hH (gw_set hlw ⟨h1, h2⟩) hsw (gL_set ho hl2) hS hB
theorem q_isub {q0 : Nat} (hq0 : pc + 1 = q0) {a b : Int} (hd : decode cc pc = .ok (.isub, 1)) (h1 : -2147483648 ≤ a - b) (h2 : a - b < 2147483648)
    (k : gB l G p e s m args below meth c Z R y cc nL ret ck q0 lv ((0, a - b) :: st) sh M) : gB l G p e s m args below meth c Z R y cc nL ret ck pc lv ((0, b) :: (0, a) :: st) sh M := by
  subst hq0
  intro H locs ls hC hH hlw hsw hl hS hB
  obtain ⟨hx, hb, hml, hr, hown, hts, hlk, -, hK⟩ := id hC
  obtain ⟨hb2, hsw2⟩ := List.forall_mem_cons.mp hsw
  obtain ⟨ha2, hsw3⟩ := List.forall_mem_cons.mp hsw2
  refine lv_isub hx hb hd ?_
  have h9 := k H locs ls hC hH hlw (List.forall_mem_cons.mpr ⟨⟨h1, h2⟩, hsw3⟩) hl hS hB
  rw [List.map_cons, show gc G (0, a - b) = .int (Int32.ofInt (a - b)) from rfl, Int32.ofInt_sub] at h9
  exact h9
theorem q_iadd {q0 : Nat} (hq0 : pc + 1 = q0) {a b : Int} (hd : decode cc pc = .ok (.iadd, 1)) (h1 : -2147483648 ≤ a + b) (h2 : a + b < 2147483648)
    (k : gB l G p e s m args below meth c Z R y cc nL ret ck q0 lv ((0, a + b) :: st) sh M) : gB l G p e s m args below meth c Z R y cc nL ret ck pc lv ((0, b) :: (0, a) :: st) sh M := by
  subst hq0
  intro H locs ls hC hH hlw hsw hl hS hB
  obtain ⟨hx, hb, hml, hr, hown, hts, hlk, -, hK⟩ := id hC
  obtain ⟨hb2, hsw2⟩ := List.forall_mem_cons.mp hsw
  obtain ⟨ha2, hsw3⟩ := List.forall_mem_cons.mp hsw2
  refine lv_iadd hx hb hd ?_
  have h9 := k H locs ls hC hH hlw (List.forall_mem_cons.mpr ⟨⟨h1, h2⟩, hsw3⟩) hl hS hB
  rw [List.map_cons, show gc G (0, a + b) = .int (Int32.ofInt (a + b)) from rfl, Int32.ofInt_add] at h9
  exact h9
theorem q_iand {q0 : Nat} (hq0 : pc + 1 = q0) {a b : Int} (hd : decode cc pc = .ok (.iand, 1))
    (k : gB l G p e s m args below meth c Z R y cc nL ret ck q0 lv ((0, gand a b) :: st) sh M) : gB l G p e s m args below meth c Z R y cc nL ret ck pc lv ((0, b) :: (0, a) :: st) sh M := by
  subst hq0
  intro H locs ls hC hH hlw hsw hl hS hB
  obtain ⟨hx, hb, hml, hr, hown, hts, hlk, -, hK⟩ := id hC
  obtain ⟨hb2, hsw2⟩ := List.forall_mem_cons.mp hsw
  obtain ⟨ha2, hsw3⟩ := List.forall_mem_cons.mp hsw2
  refine lv_iand hx hb hd ?_
  have h9 := k H locs ls hC hH hlw (List.forall_mem_cons.mpr ⟨gw_to _, hsw3⟩) hl hS hB
  rw [List.map_cons, show gc G (0, gand a b) = .int (Int32.ofInt (gand a b)) from rfl, gand, Int32.ofInt_toInt] at h9
  exact h9
theorem q_dup {q0 : Nat} (hq0 : pc + 1 = q0) {v : gV} (hd : decode cc pc = .ok (.dup, 1)) (h1 : v.1 ≠ 1 := by exact Nat.ne_of_beq_eq_false rfl) (h3 : v.1 ≠ 3 := by exact Nat.ne_of_beq_eq_false rfl)
    (k : gB l G p e s m args below meth c Z R y cc nL ret ck q0 lv (v :: v :: st) sh M) : gB l G p e s m args below meth c Z R y cc nL ret ck pc lv (v :: st) sh M := by
  subst hq0
  intro H locs ls hC hH hlw hsw hl hS hB
  obtain ⟨hx, hb, hml, hr, hown, hts, hlk, -, hK⟩ := id hC
  refine lv_dup hx hb hd (gc_cat1 h1 h3) ?_
  exact k H locs ls hC hH hlw (List.forall_mem_cons.mpr ⟨(List.forall_mem_cons.mp hsw).1, hsw⟩) hl hS hB
theorem q_icmp_eq {q0 : Nat} (hq0 : pc + 3 = q0) {tgt : Nat} {off : Int} {a b : Int} (hd : decode cc pc = .ok (.if_icmp .eq off, 3)) (ht : (pc : Int) + off = (tgt : Int))
    (kt : a = b → gB l G p e s m args below meth c Z R y cc nL ret ck (tgt) lv st sh M) (kf : a ≠ b → gB l G p e s m args below meth c Z R y cc nL ret ck (q0) lv st sh M) : gB l G p e s m args below meth c Z R y cc nL ret ck pc lv ((0, b) :: (0, a) :: st) sh M := by
  subst hq0
  intro H locs ls hC hH hlw hsw hl hS hB
  obtain ⟨hx, hb, hml, hr, hown, hts, hlk, -, hK⟩ := id hC
  obtain ⟨hb2, hsw2⟩ := List.forall_mem_cons.mp hsw
  obtain ⟨ha2, hsw3⟩ := List.forall_mem_cons.mp hsw2
  refine lv_icmp_eq (tgt := tgt) hx hb hd ht (fun q => ?_) (fun q => ?_)
  · exact kt ((gi_eq ha2 hb2).mp q) H locs ls hC hH hlw hsw3 hl hS hB
  · exact kf (fun z => q ((gi_eq ha2 hb2).mpr z)) H locs ls hC hH hlw hsw3 hl hS hB
theorem q_icmp_gt {q0 : Nat} (hq0 : pc + 3 = q0) {tgt : Nat} {off : Int} {a b : Int} (hd : decode cc pc = .ok (.if_icmp .gt off, 3)) (ht : (pc : Int) + off = (tgt : Int))
    (kt : b < a → gB l G p e s m args below meth c Z R y cc nL ret ck (tgt) lv st sh M) (kf : a ≤ b → gB l G p e s m args below meth c Z R y cc nL ret ck (q0) lv st sh M) : gB l G p e s m args below meth c Z R y cc nL ret ck pc lv ((0, b) :: (0, a) :: st) sh M := by
  subst hq0
  intro H locs ls hC hH hlw hsw hl hS hB
  obtain ⟨hx, hb, hml, hr, hown, hts, hlk, -, hK⟩ := id hC
  obtain ⟨hb2, hsw2⟩ := List.forall_mem_cons.mp hsw
  obtain ⟨ha2, hsw3⟩ := List.forall_mem_cons.mp hsw2
  refine lv_icmp_gt (tgt := tgt) hx hb hd ht (fun q => ?_) (fun q => ?_)
  · exact kt ((gi_lt hb2 ha2).mp q) H locs ls hC hH hlw hsw3 hl hS hB
  · exact kf (Int.not_lt.mp (fun z => q ((gi_lt hb2 ha2).mpr z))) H locs ls hC hH hlw hsw3 hl hS hB
theorem q_if_eq {q0 : Nat} (hq0 : pc + 3 = q0) {tgt : Nat} {off : Int} {a : Int} (hd : decode cc pc = .ok (.ifCond .eq off, 3)) (ht : (pc : Int) + off = (tgt : Int))
    (kt : a = 0 → gB l G p e s m args below meth c Z R y cc nL ret ck (tgt) lv st sh M) (kf : a ≠ 0 → gB l G p e s m args below meth c Z R y cc nL ret ck (q0) lv st sh M) : gB l G p e s m args below meth c Z R y cc nL ret ck pc lv ((0, a) :: st) sh M := by
  subst hq0
  intro H locs ls hC hH hlw hsw hl hS hB
  obtain ⟨hx, hb, hml, hr, hown, hts, hlk, -, hK⟩ := id hC
  obtain ⟨ha2, hsw3⟩ := List.forall_mem_cons.mp hsw
  refine lv_if_eq (tgt := tgt) hx hb hd ht (fun q => ?_) (fun q => ?_)
  · exact kt ((gi_eq ha2 gw0).mp q) H locs ls hC hH hlw hsw3 hl hS hB
  · exact kf (fun z => q ((gi_eq ha2 gw0).mpr z)) H locs ls hC hH hlw hsw3 hl hS hB
theorem q_lcmp {q0 : Nat} (hq0 : pc + 1 = q0) {a b : Int} (hd : decode cc pc = .ok (.lcmp, 1))
    (k : gB l G p e s m args below meth c Z R y cc nL ret ck q0 lv ((0, glcmp a b) :: st) sh M) : gB l G p e s m args below meth c Z R y cc nL ret ck pc lv ((1, b) :: (1, a) :: st) sh M := by
  subst hq0
  intro H locs ls hC hH hlw hsw hl hS hB
  obtain ⟨hx, hb, hml, hr, hown, hts, hlk, -, hK⟩ := id hC
  obtain ⟨hb2, hsw2⟩ := List.forall_mem_cons.mp hsw
  obtain ⟨ha2, hsw3⟩ := List.forall_mem_cons.mp hsw2
  refine W.lcmp hx hb hd ?_
  have h9 := k H locs ls hC hH hlw (List.forall_mem_cons.mpr ⟨gw_to _, hsw3⟩) hl hS hB
  rw [List.map_cons, show gc G (0, glcmp a b) = .int (Int32.ofInt (glcmp a b)) from rfl, glcmp, Int32.ofInt_toInt] at h9
  exact h9
theorem q_goto {tgt : Nat} {off : Int} (hd : decode cc pc = .ok (.goto off, 3)) (ht : (pc : Int) + off = (tgt : Int))
    (k : gB l G p e s m args below meth c Z R y cc nL ret ck (tgt) lv st sh M) : gB l G p e s m args below meth c Z R y cc nL ret ck pc lv st sh M := by
  intro H locs ls hC hH hlw hsw hl hS hB
  obtain ⟨hx, hb, hml, hr, hown, hts, hlk, -, hK⟩ := id hC
  exact lv_goto (tgt := tgt) hx hb hd ht (k H locs ls hC hH hlw hsw hl hS hB)
theorem q_tabIn {dflt lo hi : Int} {offs : Array Int} {len : Nat} {x off : Int} {tgt : Nat} (hd : decode cc pc = .ok (.tableswitch dflt lo hi offs, len)) (h1 : lo ≤ x) (h2 : x ≤ hi) (ho : offs[(x - lo).toNat]? = some off) (ht : (pc : Int) + off = (tgt : Int))
    (k : gB l G p e s m args below meth c Z R y cc nL ret ck (tgt) lv st sh M) : gB l G p e s m args below meth c Z R y cc nL ret ck pc lv ((0, x) :: st) sh M := by
  intro H locs ls hC hH hlw hsw hl hS hB
  obtain ⟨hx, hb, hml, hr, hown, hts, hlk, -, hK⟩ := id hC
  obtain ⟨ha2, hsw3⟩ := List.forall_mem_cons.mp hsw
  refine lv_tableIn (off := off) (tgt := tgt) hx hb hd (by rw [gi_int ha2]; omega) (by rw [gi_int ha2]; omega) (by rw [gi_int ha2]; exact ho) ht ?_
  exact k H locs ls hC hH hlw hsw3 hl hS hB
theorem q_tabOut {dflt lo hi : Int} {offs : Array Int} {len : Nat} {x : Int} {tgt : Nat} (hd : decode cc pc = .ok (.tableswitch dflt lo hi offs, len)) (h : x < lo ∨ hi < x) (ht : (pc : Int) + dflt = (tgt : Int))
    (k : gB l G p e s m args below meth c Z R y cc nL ret ck (tgt) lv st sh M) : gB l G p e s m args below meth c Z R y cc nL ret ck pc lv ((0, x) :: st) sh M := by
  intro H locs ls hC hH hlw hsw hl hS hB
  obtain ⟨hx, hb, hml, hr, hown, hts, hlk, -, hK⟩ := id hC
  obtain ⟨ha2, hsw3⟩ := List.forall_mem_cons.mp hsw
  refine lv_tableOut (tgt := tgt) hx hb hd (by rw [gi_int ha2]; exact h) ht ?_
  exact k H locs ls hC hH hlw hsw3 hl hS hB
theorem q_new {q0 : Nat} (hq0 : pc + 3 = q0) {idx ci N : Nat} {C : String} {r : vw_C} {ty : Nat → FieldType} (hcl : gCL ci r ty) (hrC : r.1 = C) (hrN : r.2.2 = N) (hw1 : Cond.classLink y.cls idx C ∈ gAll) (hw2 : Cond.instantiable C N ∈ gAll) (hw3 : Cond.initialized C ∈ gAll) (hd : decode cc pc = .ok (.new idx, 3)) (hc1 : ck.1 + 1 ≤ R.cells) (hc2 : ck.2 + N ≤ R.slots)
    (k : gB l G p e s m args below meth c Z R y cc nL ret (ck.1 + 1, ck.2 + N) q0 lv ((4, (sh.length : Int)) :: st) (sh ++ [(0, ci)]) (gN M (sh.length : Int) (0, ci))) : gB l G p e s m args below meth c Z R y cc nL ret ck pc lv st sh M := by
  subst hq0
  intro H locs ls hC hH hlw hsw hl hS hB
  obtain ⟨hx, hb, hml, hr, hown, hts, hlk, -, hK⟩ := id hC
  subst hrC; subst hrN
  obtain ⟨c1, c2, c3, c4, c5, c6⟩ := hcl
  have hsz : H.size = G.1 + sh.length := hH.1
  refine gz_new (fs := gO G (gN M (sh.length : Int) (0, ci)) (sh.length : Int) ci) (N := r.2.2) hx hb hts c2 ty c3 hown (hts _ hw1) (hts _ hw2) (hts _ hw3) hK.1 hH.2.1 hS c1 (fun j hj => ?_) hc1 hc2 hd (fun H1 hz1 hP1 hS1 => ?_)
  · show _ = (gO G _ _ ci).getD j .null
    rw [List.getD_eq_getElem?_getD, gO_new (c5 j hj)]
    exact gc_def G
  · have h9 := k H1 locs ls hC ⟨by rw [hz1, hsz, List.length_append]; rfl, ?_, gMw_N hH.2.2⟩ hlw (List.forall_mem_cons.mpr ⟨trivial, hsw⟩) hl hS1 hB
    · rw [List.map_cons, gc_ref G (Int.natCast_nonneg _), Int.toNat_natCast, ← hsz] at h9
      exact h9
    · rw [gWs_push (fun b hb2 => gN_old M _ hb2), ← hsz]
      exact hP1
theorem q_callI {q0 : Nat} {Rb : Room} {yc : MethodName} {cb : ByteArray} {nb n idx : Nat} {Qc : Option gV → gS → gM → Prop} {rest as : List gV} {a : Int} (hm : gMt yc cb nb none n) (hin : yc.name = "<init>") (hi : Cond.instanceMethod yc ∈ gAll) (hl0 : Cond.methodLink y.cls idx yc ∈ gAll) (hd : decode cc pc = .ok (.invokespecial idx, 3)) (hq0 : pc + 3 = q0) (hst : ((4, a) :: as).reverse ++ rest = st) (ha : 0 ≤ a)
    (hc : gC Rb yc cb nb none ((4, a) :: as) sh M Qc) (hn : as.length = n) (hR : Rb.frames + 1 ≤ R.frames ∧ 8 + (nb + 11) + Rb.locals ≤ R.locals) (hcs : ck.1 + Rb.cells ≤ R.cells ∧ ck.2 + Rb.slots ≤ R.slots) (hrest : (rest.map gcat).sum ≤ 8)
    (k : ∀ (r : Option gV) (sh1 : gS) (M1 : gM), Qc r sh1 M1 → (∀ v, r = some v → gw v) → gMw sh1 M1 → gB l G p e s m args below meth c Z R y cc nL ret (ck.1 + Rb.cells, ck.2 + Rb.slots) (q0) lv (r.toList ++ rest) sh1 M1) : gB l G p e s m args below meth c Z R y cc nL ret ck pc lv st sh M := by
  subst hq0
  intro H locs ls hC hH hlw hsw hl hS hB
  obtain ⟨hx, hb, hml, hr, hown, hts, hlk, -, hK⟩ := id hC
  subst hst
  have haw : ∀ v ∈ ((4, a) :: as), gw v := fun v hv => hsw v (List.mem_append_left _ (List.mem_reverse.mpr hv))
  have hrw : ∀ v ∈ rest, gw v := fun v hv => hsw v (List.mem_append_right _ hv)
  have e0 : (((4, a) :: as).reverse ++ rest).map (gc G) = (as.map (gc G)).reverse ++ .ref (G.1 + a.toNat) :: rest.map (gc G) := by
    rw [List.map_append, List.map_reverse, List.map_cons, List.reverse_cons, gc_ref G ha, List.append_assoc]
    rfl
  have e1 : ((4, a) :: as).map (gc G) = .ref (G.1 + a.toNat) :: as.map (gc G) := by rw [List.map_cons, gc_ref G ha]
  rw [e0]
  have hMet := hc l G
  refine g_after (va_runI (As := as.map (gc G)) (b := G.1 + a.toNat) ⟨hx, hb, hml, hown, hts⟩ hMet ⟨gMt_B hm hts hR hl0, hin, hts _ hi⟩ ⟨gBlind, fun U hU hW => ⟨by rw [← e1], Nat.le_trans hB (by rw [hU]; exact hS.1), by rw [hU]; exact hH, gK_at hK hS hB hU hW, haw⟩⟩ rfl ((List.length_map _).trans hn) hl.1 rfl (lv_room (by rw [gcat_sum]; exact hrest)) hd hcs) hS hB (fun r sh1 M1 H1 locs1 hq hw hH1 hS1 => ?_)
  have h9 := k r sh1 M1 hq hw hH1.2.2 H1 locs1 ls hC hH1 hlw ?_ hl hS1 hB
  · rw [List.map_append] at h9
    rw [List.append_nil]
    exact h9
  · intro v hv
    rcases List.mem_append.mp hv with q | q
    · exact hw v (by cases r with
        | none => cases q
        | some z => simp only [Option.toList_some, List.mem_singleton] at q; rw [q])
    · exact hrw v q
theorem q_callV {q0 : Nat} {Rb : Room} {yc : MethodName} {cb : ByteArray} {nb n idx : Nat} {rb : Option FieldType} {Qc : Option gV → gS → gM → Prop} {rest as : List gV} {a : Int} {ci : Nat} {rc : vw_C} (hm : gMt yc cb nb rb n) (hi : Cond.instanceMethod yc ∈ gAll) (hse : Cond.selects yc.cls yc yc ∈ gAll) (hl0 : Cond.methodLink y.cls idx yc ∈ gAll) (hd : decode cc pc = .ok (.invokevirtual idx, 3)) (hq0 : pc + 3 = q0) (hst : ((4, a) :: as).reverse ++ rest = st) (hs : gsh sh a = some (0, ci)) (hrc : vwCl[ci]? = some rc) (hrC : rc.1 = yc.cls)
    (hc : gC Rb yc cb nb rb ((4, a) :: as) sh M Qc) (hn : as.length = n) (hR : Rb.frames + 1 ≤ R.frames ∧ 8 + (nb + 11) + Rb.locals ≤ R.locals) (hcs : ck.1 + Rb.cells ≤ R.cells ∧ ck.2 + Rb.slots ≤ R.slots) (hrest : (rest.map gcat).sum ≤ 8)
    (k : ∀ (r : Option gV) (sh1 : gS) (M1 : gM), Qc r sh1 M1 → (∀ v, r = some v → gw v) → gMw sh1 M1 → gB l G p e s m args below meth c Z R y cc nL ret (ck.1 + Rb.cells, ck.2 + Rb.slots) (q0) lv (r.toList ++ rest) sh1 M1) : gB l G p e s m args below meth c Z R y cc nL ret ck pc lv st sh M := by
  subst hq0
  intro H locs ls hC hH hlw hsw hl hS hB
  obtain ⟨hx, hb, hml, hr, hown, hts, hlk, -, hK⟩ := id hC
  subst hst
  have haw : ∀ v ∈ ((4, a) :: as), gw v := fun v hv => hsw v (List.mem_append_left _ (List.mem_reverse.mpr hv))
  have hrw : ∀ v ∈ rest, gw v := fun v hv => hsw v (List.mem_append_right _ hv)
  have e0 : (((4, a) :: as).reverse ++ rest).map (gc G) = (as.map (gc G)).reverse ++ .ref (G.1 + a.toNat) :: rest.map (gc G) := by
    rw [List.map_append, List.map_reverse, List.map_cons, List.reverse_cons, gc_ref G (gsh_nn hs).1, List.append_assoc]
    rfl
  have e1 : ((4, a) :: as).map (gc G) = .ref (G.1 + a.toNat) :: as.map (gc G) := by rw [List.map_cons, gc_ref G (gsh_nn hs).1]
  rw [e0]
  have hMet := hc l G
  refine g_after (va_runV (C := yc.cls) (As := as.map (gc G)) (b := G.1 + a.toNat) ⟨hx, hb, hml, hown, hts⟩ hMet ⟨gMt_B hm hts hR hl0, hts _ hi, hts _ hse⟩ ⟨gBlind, (by rw [← hrC]; exact va_recv hK.1 hH.2.1 hrc (gWs_get hs)), fun U hU hW => ⟨by rw [← e1], Nat.le_trans hB (by rw [hU]; exact hS.1), by rw [hU]; exact hH, gK_at hK hS hB hU hW, haw⟩⟩ rfl ((List.length_map _).trans hn) hl.1 rfl (lv_room (by rw [gcat_sum]; exact hrest)) hd hcs) hS hB (fun r sh1 M1 H1 locs1 hq hw hH1 hS1 => ?_)
  have h9 := k r sh1 M1 hq hw hH1.2.2 H1 locs1 ls hC hH1 hlw ?_ hl hS1 hB
  · rw [List.map_append] at h9
    rw [List.append_nil]
    exact h9
  · intro v hv
    rcases List.mem_append.mp hv with q | q
    · exact hw v (by cases r with
        | none => cases q
        | some z => simp only [Option.toList_some, List.mem_singleton] at q; rw [q])
    · exact hrw v q
/-- the script: its ints, its length -/
def scX (G : gG) (i : Int) : Int := (Int32.ofNat ((G.2.2.2 (35 + i.toNat)).getD 0)).toInt
def scL (G : gG) : Int := (((G.2.2.2 34).getD 0 : Nat) : Int)
theorem scX_w (G : gG) (i : Int) : gw (0, scX G i) := gw_to _
theorem q_scld {q0 : Nat} (hq0 : pc + 1 = q0) {b : Nat} {i : Int} (hb33 : G.2.2.2 33 = some b) (h0 : 0 ≤ i) (h1 : i < scL G) (hd : decode cc pc = .ok (.iaload, 1))
    (k : gB l G p e s m args below meth c Z R y cc nL ret ck q0 lv ((0, scX G i) :: st) sh M) : gB l G p e s m args below meth c Z R y cc nL ret ck pc lv ((0, i) :: (5, 33) :: st) sh M := by
  subst hq0
  intro H locs ls hC hH hlw hsw hl hS hB
  obtain ⟨hx, hb, hml, hr, hown, hts, hlk, -, hK⟩ := id hC
  obtain ⟨hv, hsw2⟩ := List.forall_mem_cons.mp hsw
  obtain ⟨b1, b2, b3⟩ := hK.2.2.2.2.2.2.1 b hb33
  have e5 : gc G (5, 33) = .ref b := by show va_rf (G.2.2.2 33) = _; rw [hb33]; rfl
  rw [List.map_cons, List.map_cons, e5]
  have e6 : (Int32.ofInt i).toNatClampNeg = i.toNat := gi_cl hv
  have hlen : i < (((G.2.2.2 34).getD 0 : Nat) : Int) := h1
  refine va_sld hx hb b3 b2 (show ¬ G.1 ≤ b by omega) hS (gi_in hv h0 hlen) hd ?_
  rw [e6]
  have h9 := k H locs ls hC hH hlw (List.forall_mem_cons.mpr ⟨scX_w G i, (List.forall_mem_cons.mp hsw2).2⟩) hl hS hB
  have e7 : gc G (0, scX G i) = .int (Int32.ofNat ((G.2.2.2 (35 + i.toNat)).getD 0)) := by
    show Value.int (Int32.ofInt (Int32.ofNat ((G.2.2.2 (35 + i.toNat)).getD 0)).toInt) = _
    rw [Int32.ofInt_toInt]
  rw [List.map_cons, e7] at h9
  exact h9
theorem q_sclen {q0 : Nat} (hq0 : pc + 1 = q0) {b : Nat} (hb33 : G.2.2.2 33 = some b) (h1 : scL G ≤ 3072) (hd : decode cc pc = .ok (.arraylength, 1))
    (k : gB l G p e s m args below meth c Z R y cc nL ret ck q0 lv ((0, scL G) :: st) sh M) : gB l G p e s m args below meth c Z R y cc nL ret ck pc lv ((5, 33) :: st) sh M := by
  subst hq0
  intro H locs ls hC hH hlw hsw hl hS hB
  obtain ⟨hx, hb, hml, hr, hown, hts, hlk, -, hK⟩ := id hC
  obtain ⟨b1, b2, b3⟩ := hK.2.2.2.2.2.2.1 b hb33
  have e5 : gc G (5, 33) = .ref b := by show va_rf (G.2.2.2 33) = _; rw [hb33]; rfl
  rw [List.map_cons, e5]
  refine va_slen hx hb b3 b2 (show ¬ G.1 ≤ b by omega) hS hd ?_
  have hw0 : gw (0, scL G) := by
    have h0 : 0 ≤ scL G := Int.natCast_nonneg _
    exact ⟨by show (-2147483648 : Int) ≤ scL G; omega, by show scL G < 2147483648; omega⟩
  have h9 := k H locs ls hC hH hlw (List.forall_mem_cons.mpr ⟨hw0, (List.forall_mem_cons.mp hsw).2⟩) hl hS hB
  have e7 : gc G (0, scL G) = .int (Int32.ofNat ((G.2.2.2 34).getD 0)) := by
    show Value.int (Int32.ofInt ((((G.2.2.2 34).getD 0 : Nat)) : Int)) = _
    exact congrArg Value.int (by first | rfl | exact Int32.ofInt_eq_ofNat | (apply Int32.toBitVec_inj.mp; simp))
  rw [List.map_cons, e7] at h9
  exact h9
theorem gB_ck {a b a2 b2 : Nat} (h1 : a ≤ a2) (h2 : b ≤ b2) (h : gB l G p e s m args below meth c Z R y cc nL ret (a2, b2) pc lv st sh M) : gB l G p e s m args below meth c Z R y cc nL ret (a, b) pc lv st sh M := by
  intro H locs ls hC hH hlw hsw hl hS hB
  exact W.widen h1 h2 (h H locs ls hC hH hlw hsw hl hS hB)

end
