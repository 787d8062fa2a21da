-- ==== the text: JDK StringBuilder; calls of methods of the superclass
def gx (f lo c s : Nat) : Room := { frames := f, cells := c, slots := s, locals := lo }
theorem se_J4_ens : Cond.selects RJ4 yJ5_ensureCapacityInternal_d00df yJ5_ensureCapacityInternal_d00df ∈ gAll := gAll_x2 (List.mem_cons_self) rfl
theorem se_J4_ncap : Cond.selects RJ4 yJ5_newCapacity_0f7a4 yJ5_newCapacity_0f7a4 ∈ gAll := gAll_x2 (List.mem_cons_of_mem _ List.mem_cons_self) rfl
theorem se_J4_lat : Cond.selects RJ4 yJ5_isLatin1_aae02 yJ5_isLatin1_aae02 ∈ gAll := gt_6 (j := 96) rfl rfl
theorem su_J4 : Cond.superclass RJ4 RJ5 ∈ gAll := gt_3 (j := 71) rfl rfl
section
variable {p : Program} {l : Launch} {e : Env} {R : Room} {s : State} {m : MethodId} {args : Array Value} {below : List Frame} {meth : Method} {c : Code} {H : Heap} {T : State} {locs : List Loc} {cells slots : Nat}
theorem callU (X : Stand p l e R s m args below meth c T locs cells slots) (hexec : p.tables.exec = Jvm.exec) {own C : String} {index : Nat} {y y2 : MethodName} {bytes : ByteArray} {maxL : Nat} {ret : Option FieldType}
    (hown : s.vm.findClass own = some m.cls) (hlink : (Cond.methodLink own index y).before args s = true) (hinst : (Cond.instanceMethod y).before args s = true) (hno : y.name ≠ "<init>") (hsel : (Cond.selects C y2 y2).before args s = true) (hy2 : y2.cls = y.cls) (hsup : (Cond.superclass own y.cls).before args s = true)
    (hcode : (Cond.code y bytes maxL ret).before args s = true) (hy : y.cls ≠ "java/lang/invoke/MethodHandle" ∧ y.cls ≠ "java/lang/invoke/VarHandle")
    {W : Nat} {Pre : Pt → Array Value → Prop} {Post : Pt → Array Value → Option Value → Pt → Prop} (hK : Back l R p e below s args y 3 W Pre Post)
    {b : Addr} {cellB : Cell} (hcell : T.heap[b]? = some cellB) (hobj : cellB.vm.isStatics = false) (hcls : s.vm.findClass C = some cellB.cls)
    {g : JFrame} (hg : g.method = m) (hsize : g.locals.size = c.maxLocals) {argsL rest : List Value} (hlen : ∀ sig, parseMethodDescriptor y.desc = some sig → argsL.length = sig.parameters.length)
    (hstack : g.stack = argsL.reverse ++ .ref b :: rest) (hW : 2 * g.monitorRoom + (rest.map fun v => v.category).sum ≤ W) (hdg : decode c.code g.pc = .ok (.invokespecial index, 3))
    (hpre : ∀ vm₁, s.WarmedH vm₁ → Pre ⟨T.setVm vm₁, locs, cells, slots⟩ (Value.ref b :: argsL).toArray) :
    ∃ (v : Option Value) (vm₁ : Vm) (B : Pt), s.WarmedH vm₁ ∧ Stand p l e R s m args below meth c B.U B.locs B.cells B.slots ∧ Post ⟨T.setVm vm₁, locs, cells, slots⟩ (Value.ref b :: argsL).toArray v B ∧
      ∀ target, Steps p.tables e below (B.U.setTop { g with pc := g.pc + 3, stack := v.toList ++ rest }) target → Steps p.tables e below (T.setTop g) target := by
  obtain ⟨mk, methM, hnamed, hmethM, hstM, habM⟩ := Cond.instanceMethod_spec hinst
  obtain ⟨methM', cM, hmethM', -, -, -, -, -, -, hsigM⟩ := Cond.code_spec hnamed hcode
  cases hmethM.symm.trans hmethM'
  have hcn := findClass_of_methodNamed hnamed
  obtain ⟨dk, hd, -⟩ := Vm.findClass_spec hown
  obtain ⟨c2, r2, m2, q1, q2, q3, q4, kP, hkP, hkPi⟩ := Cond.selects_spec hsel
  have hm2 : m2.cls = mk.cls := by
    have h1 := findClass_of_methodNamed q3
    rw [hy2, hcn] at h1
    exact (Option.some.inj h1).symm
  rw [hm2] at hkP
  obtain ⟨kb, hkb, -⟩ := Vm.findClass_spec hcls
  have ws := hsup
  simp only [Cond.before, Cond.holds, Cond.value, hown, hcn, hd, hkP, Option.bind_some, Option.map_some] at ws
  have ws' : ((dk.super = some mk.cls ∧ dk.kind = .ordinary) ∧ kP.kind = .ordinary) ∧ dk.isInterface = false := by simpa using ws
  have hsame : (Cond.sameMethod y.cls y.cls y.name y.desc).before args s = true := by
    have hf : s.methodFound? y.cls y.name y.desc = some mk := State.methodFound?_of_named hnamed hy
    have hn2 : s.methodNamed? ⟨y.cls, y.name, y.desc⟩ = some mk := hnamed
    simp [Cond.before, Cond.holds, Cond.value, hcn, hf, hn2, hkP, hkPi]
  obtain ⟨vm₁, X₁, hstep₁⟩ := X.invokespecialUp hexec (owner := y.cls) hown hlink hsame hnamed hmethM hstM habM hno hd ws'.2 hcn ws'.1.1.1 (by simp [Vm.isSubclass, Vm.isSubclassAux]) (a := b) (cell := cellB) hcell
    (fun z h => by rw [h] at hobj; cases hobj) hkb (g := g) hg (argsL := argsL) (rest := rest) (hlen _ hsigM) hstack hdg
  obtain ⟨v, B, X', hpost, hsteps⟩ := hK m meth c ⟨T.setVm vm₁, locs, cells, slots⟩ { g with stack := rest } (.invokespecial index) mk (Value.ref b :: argsL).toArray X₁ hg hsize hdg hW (X₁.named hnamed) (hpre vm₁ X₁.warmed)
  exact ⟨v, vm₁, B, X₁.warmed, X', hpost, fun target h => hstep₁ _ (hsteps.trans h)⟩
variable {y y2 : MethodName} {bytes cc : ByteArray} {maxL nL mc ms n index : Nat} {ret : Option FieldType} {ws : List Cond} {rm : Room} {Pc : Array Value → State → Prop} {Qc : Array Value → State → Outcome → State → Prop} {free : Addr → Prop} {Ts : List Cond} {own C : String} {b : Addr} {As rest : List Value} {g : JFrame}
theorem sx_runU (S : CallFix p m c cc nL s args Ts own) (hM : Met l y ws rm Pc Qc mc ms free) (cw : CallB R s args own index y bytes maxL ret ws rm mc ms n ∧ (Cond.instanceMethod y).before args s = true ∧ y.name ≠ "<init>" ∧ (Cond.selects C y2 y2).before args s = true ∧ y2.cls = y.cls ∧ (Cond.superclass own y.cls).before args s = true) (hp : PreV s H C b Pc As)
    (hg : g.method = m) (hn : As.length = n) (hsize : g.locals.size = nL) (hstack : g.stack = As.reverse ++ .ref b :: rest) (hW : 2 * g.monitorRoom + (rest.map fun v => v.category).sum ≤ 8) (hdg : decode cc g.pc = .ok (.invokespecial index, 3)) (hf : cells + mc ≤ R.cells ∧ slots + ms ≤ R.slots) :
    va_Run p l e R s m args below meth c H locs cells slots mc ms g rest (Qc (Value.ref b :: As).toArray) (free) := by
  have hK : Back l R p e below s args y 3 8 (PreOf R mc ms Pc) (PostOf Qc mc ms free) := callBack cw.1 hM hp.1
  obtain ⟨⟨-, -, -, -, -, -, hcode, -, hy, hlen, hl⟩, hin, hno, hse, hy2, hsu⟩ := cw
  obtain ⟨hx, hb, hml, ho, -⟩ := S
  obtain ⟨-, ⟨cellB, hcB, hoB, hclB⟩, hPc⟩ := hp
  intro T hT X
  obtain ⟨v, vm₁, ⟨U', l2, c2, s2⟩, hW₁, X', ⟨g', mk, t, L, e1, e2, hq, h1, hL, h2, h3⟩, st⟩ := callU X hx (C := C) (bytes := bytes) (maxL := maxL) (ret := ret) ho hl hin hno hse hy2 hsu hcode hy hK (by rw [hT]; exact hcB) hoB hclB hg (hsize.trans hml.symm) (argsL := As) (rest := rest) (fun sig h => hn.trans (hlen sig h)) hstack hW (by rw [hb]; exact hdg)
    (fun vm₁ hW₁ => ⟨hf.1, hf.2, hPc (T.setVm vm₁) hT hW₁⟩)
  dsimp only [Pt.U, Pt.locs, Pt.cells, Pt.slots] at X' e1 e2 h1 h2 h3 st
  subst h1; subst h2; subst h3
  exact ⟨v, (T.setVm vm₁).calling g' mk (Value.ref b :: As).toArray, t, U', L, hT, X', hL, e1, e2, hq, st⟩
end
section
variable {R : Room} {y : MethodName} {cc : ByteArray} {nL : Nat} {ret : Option FieldType} {Q : Option gV → gS → gM → Prop} {ck : Nat × Nat} {pc : Nat} {lv st : List gV} {sh : gS} {M : gM}
theorem g_callVs {C : String} {q0 : Nat} {Rb : Room} {yc : MethodName} {cb : ByteArray} {nb n idx : Nat} {rb : Option FieldType} {Qc : Option gV → gS → gM → Prop} {rest as : List gV} {a : Int} {ci : Nat} {rc : vw_C} (hm : gMt yc cb nb rb n) (hi : Cond.instanceMethod yc ∈ gAll) (hse : Cond.selects C yc yc ∈ gAll) (hl0 : Cond.methodLink y.cls idx yc ∈ gAll) (hd : decode cc pc = .ok (.invokevirtual idx, 3)) (hq0 : pc + 3 = q0) (hst : ((4, a) :: as).reverse ++ rest = st) (hs : gsh sh a = some (0, ci)) (hrc : vwCl[ci]? = some rc) (hrC : rc.1 = C)
    (hc : gC Rb yc cb nb rb ((4, a) :: as) sh M Qc) (hn : as.length = n) (hR : Rb.frames + 1 ≤ R.frames ∧ 8 + (nb + 11) + Rb.locals ≤ R.locals) (hcs : ck.1 + Rb.cells ≤ R.cells ∧ ck.2 + Rb.slots ≤ R.slots) (hrest : (rest.map gcat).sum ≤ 8)
    (k : ∀ (r : Option gV) (sh1 : gS) (M1 : gM), Qc r sh1 M1 → (∀ v, r = some v → gw v) → gMw sh1 M1 → gA R y cc nL ret Q (ck.1 + Rb.cells, ck.2 + Rb.slots) (q0) lv (r.toList ++ rest) sh1 M1) : gA R y cc nL ret Q ck pc lv st sh M := by
  subst hq0
  intro l G p e s m args below meth c H locs ls hC hH hlw hsw hl hS hB
  obtain ⟨hx, hb, hml, hr, hown, hts, hlk, hnm, hK⟩ := id hC
  subst hst
  have haw : ∀ v ∈ ((4, a) :: as), gw v := fun v hv => hsw v (List.mem_append_left _ (List.mem_reverse.mpr hv))
  have hrw : ∀ v ∈ rest, gw v := fun v hv => hsw v (List.mem_append_right _ hv)
  have e0 : (((4, a) :: as).reverse ++ rest).map (gc G) = (as.map (gc G)).reverse ++ .ref (G.1 + a.toNat) :: rest.map (gc G) := by
    rw [List.map_append, List.map_reverse, List.map_cons, List.reverse_cons, gc_ref G (gsh_nn hs).1, List.append_assoc]
    rfl
  have e1 : ((4, a) :: as).map (gc G) = .ref (G.1 + a.toNat) :: as.map (gc G) := by rw [List.map_cons, gc_ref G (gsh_nn hs).1]
  rw [e0]
  have hMet := hc l G
  refine g_after (va_runV (C := C) (As := as.map (gc G)) (b := G.1 + a.toNat) ⟨hx, hb, hml, hown, hts⟩ hMet ⟨gMt_B hm hts hR hl0, hts _ hi, hts _ hse⟩ ⟨gBlind, (by rw [← hrC]; exact va_recv hK.1 hH.2.1 hrc (gWs_get hs)), fun U hU hW => ⟨by rw [← e1], Nat.le_trans hB (by rw [hU]; exact hS.1), by rw [hU]; exact hH, gK_at hK hS hB hU hW, haw⟩⟩ rfl ((List.length_map _).trans hn) hl.1 rfl (lv_room (by rw [gcat_sum]; exact hrest)) hd hcs) hS hB (fun r sh1 M1 H1 locs1 hq hw hH1 hS1 => ?_)
  have h9 := k r sh1 M1 hq hw hH1.2.2 l G p e s m args below meth c H1 locs1 ls hC hH1 hlw ?_ hl hS1 hB
  · rw [List.map_append] at h9
    rw [List.append_nil]
    exact h9
  · intro v hv
    rcases List.mem_append.mp hv with q | q
    · exact hw v (by cases r with
        | none => cases q
        | some z => simp only [Option.toList_some, List.mem_singleton] at q; rw [q])
    · exact hrw v q
theorem g_callUp {C : String} {q0 : Nat} {Rb : Room} {yc : MethodName} {cb : ByteArray} {nb n idx : Nat} {rb : Option FieldType} {Qc : Option gV → gS → gM → Prop} {rest as : List gV} {a : Int} {ci : Nat} {rc : vw_C} (hm : gMt yc cb nb rb n) (hi : Cond.instanceMethod yc ∈ gAll) (hno : yc.name ≠ "<init>") {y2 : MethodName} (hse : Cond.selects C y2 y2 ∈ gAll) (hy2 : y2.cls = yc.cls) (hsu : Cond.superclass y.cls yc.cls ∈ gAll) (hl0 : Cond.methodLink y.cls idx yc ∈ gAll) (hd : decode cc pc = .ok (.invokespecial idx, 3)) (hq0 : pc + 3 = q0) (hst : ((4, a) :: as).reverse ++ rest = st) (hs : gsh sh a = some (0, ci)) (hrc : vwCl[ci]? = some rc) (hrC : rc.1 = C)
    (hc : gC Rb yc cb nb rb ((4, a) :: as) sh M Qc) (hn : as.length = n) (hR : Rb.frames + 1 ≤ R.frames ∧ 8 + (nb + 11) + Rb.locals ≤ R.locals) (hcs : ck.1 + Rb.cells ≤ R.cells ∧ ck.2 + Rb.slots ≤ R.slots) (hrest : (rest.map gcat).sum ≤ 8)
    (k : ∀ (r : Option gV) (sh1 : gS) (M1 : gM), Qc r sh1 M1 → (∀ v, r = some v → gw v) → gMw sh1 M1 → gA R y cc nL ret Q (ck.1 + Rb.cells, ck.2 + Rb.slots) (q0) lv (r.toList ++ rest) sh1 M1) : gA R y cc nL ret Q ck pc lv st sh M := by
  subst hq0
  intro l G p e s m args below meth c H locs ls hC hH hlw hsw hl hS hB
  obtain ⟨hx, hb, hml, hr, hown, hts, hlk, hnm, hK⟩ := id hC
  subst hst
  have haw : ∀ v ∈ ((4, a) :: as), gw v := fun v hv => hsw v (List.mem_append_left _ (List.mem_reverse.mpr hv))
  have hrw : ∀ v ∈ rest, gw v := fun v hv => hsw v (List.mem_append_right _ hv)
  have e0 : (((4, a) :: as).reverse ++ rest).map (gc G) = (as.map (gc G)).reverse ++ .ref (G.1 + a.toNat) :: rest.map (gc G) := by
    rw [List.map_append, List.map_reverse, List.map_cons, List.reverse_cons, gc_ref G (gsh_nn hs).1, List.append_assoc]
    rfl
  have e1 : ((4, a) :: as).map (gc G) = .ref (G.1 + a.toNat) :: as.map (gc G) := by rw [List.map_cons, gc_ref G (gsh_nn hs).1]
  rw [e0]
  have hMet := hc l G
  refine g_after (sx_runU (C := C) (As := as.map (gc G)) (b := G.1 + a.toNat) ⟨hx, hb, hml, hown, hts⟩ hMet ⟨gMt_B hm hts hR hl0, hts _ hi, hno, hts _ hse, hy2, hts _ hsu⟩ ⟨gBlind, (by rw [← hrC]; exact va_recv hK.1 hH.2.1 hrc (gWs_get hs)), fun U hU hW => ⟨by rw [← e1], Nat.le_trans hB (by rw [hU]; exact hS.1), by rw [hU]; exact hH, gK_at hK hS hB hU hW, haw⟩⟩ rfl ((List.length_map _).trans hn) hl.1 rfl (lv_room (by rw [gcat_sum]; exact hrest)) hd hcs) hS hB (fun r sh1 M1 H1 locs1 hq hw hH1 hS1 => ?_)
  have h9 := k r sh1 M1 hq hw hH1.2.2 l G p e s m args below meth c H1 locs1 ls hC hH1 hlw ?_ hl hS1 hB
  · rw [List.map_append] at h9
    rw [List.append_nil]
    exact h9
  · intro v hv
    rcases List.mem_append.mp hv with q | q
    · exact hw v (by cases r with
        | none => cases q
        | some z => simp only [Option.toList_some, List.mem_singleton] at q; rw [q])
    · exact hrw v q
theorem g_callVsp {C : String} {q0 : Nat} {fb lb : Nat} {yc : MethodName} {cb : ByteArray} {nb n idx : Nat} {rb : Option FieldType} {rest as : List gV} {a : Int} {ci : Nat} {rc : vw_C} {v : gV} (hm : gMt yc cb nb rb n) (hi : Cond.instanceMethod yc ∈ gAll) (hse : Cond.selects C yc yc ∈ gAll) (hl0 : Cond.methodLink y.cls idx yc ∈ gAll) (hd : decode cc pc = .ok (.invokevirtual idx, 3)) (hq0 : pc + 3 = q0) (hst : ((4, a) :: as).reverse ++ rest = st) (hs : gsh sh a = some (0, ci)) (hrc : vwCl[ci]? = some rc) (hrC : rc.1 = C)
    (hc : gC (gr fb lb) yc cb nb rb ((4, a) :: as) sh M (gPp sh M v)) (hn : as.length = n) (hR : fb + 1 ≤ R.frames ∧ 8 + (nb + 11) + lb ≤ R.locals) (hck : ck.1 ≤ R.cells ∧ ck.2 ≤ R.slots) (hrest : (rest.map gcat).sum ≤ 8)
    (k : gw v → gA R y cc nL ret Q ck (q0) lv (v :: rest) sh M) : gA R y cc nL ret Q ck pc lv st sh M := by
  refine g_callVs hm hi hse hl0 hd hq0 hst hs hrc hrC hc hn hR hck hrest (fun r sh1 M1 hq hw hM => ?_)
  obtain ⟨rfl, rfl, rfl⟩ := hq
  exact k (hw v rfl)
theorem g_callUpp {C : String} {q0 : Nat} {fb lb : Nat} {yc : MethodName} {cb : ByteArray} {nb n idx : Nat} {rb : Option FieldType} {rest as : List gV} {a : Int} {ci : Nat} {rc : vw_C} {v : gV} (hm : gMt yc cb nb rb n) (hi : Cond.instanceMethod yc ∈ gAll) (hno : yc.name ≠ "<init>") {y2 : MethodName} (hse : Cond.selects C y2 y2 ∈ gAll) (hy2 : y2.cls = yc.cls) (hsu : Cond.superclass y.cls yc.cls ∈ gAll) (hl0 : Cond.methodLink y.cls idx yc ∈ gAll) (hd : decode cc pc = .ok (.invokespecial idx, 3)) (hq0 : pc + 3 = q0) (hst : ((4, a) :: as).reverse ++ rest = st) (hs : gsh sh a = some (0, ci)) (hrc : vwCl[ci]? = some rc) (hrC : rc.1 = C)
    (hc : gC (gr fb lb) yc cb nb rb ((4, a) :: as) sh M (gPp sh M v)) (hn : as.length = n) (hR : fb + 1 ≤ R.frames ∧ 8 + (nb + 11) + lb ≤ R.locals) (hck : ck.1 ≤ R.cells ∧ ck.2 ≤ R.slots) (hrest : (rest.map gcat).sum ≤ 8)
    (k : gw v → gA R y cc nL ret Q ck (q0) lv (v :: rest) sh M) : gA R y cc nL ret Q ck pc lv st sh M := by
  refine g_callUp hm hi hno hse hy2 hsu hl0 hd hq0 hst hs hrc hrC hc hn hR hck hrest (fun r sh1 M1 hq hw hM => ?_)
  obtain ⟨rfl, rfl, rfl⟩ := hq
  exact k (hw v rfl)
theorem g_areturnA {a : Int} {T : FieldType} (hd : decode cc pc = .ok (.areturn, 1)) (hret : ret = some (.array T)) (ha : 0 ≤ a) (hck : ck.1 ≤ R.cells ∧ ck.2 ≤ R.slots) (hq : Q (some (4, a)) sh M) : gA R y cc nL ret Q ck pc lv ([(4, a)]) sh M := by
  intro l G p e s m args below meth c H locs ls hC hH hlw hsw hl hS hB
  obtain ⟨hx, hb, hml, hr, hown, hts, hlk, hnm, hK⟩ := id hC
  refine W.widen hck.1 hck.2 ?_
  show W _ _ _ _ _ _ _ _ _ _ _ _ _ _ _ (F0 m pc ls [gc G (4, a)])
  rw [gc_ref G ha]
  refine W.aret hx hb (hr.trans hret) (Or.inr ⟨T, rfl⟩) (Or.inr ⟨_, rfl⟩) (fun t ht hW => ?_) hS.2.2 hd hlk
  exact ⟨⟨(some (4, a)), sh, M, by rw [Option.map_some, gc_ref G ha], hq, (fun (w : gV) (hw : some ((4, a) : gV) = some w) => by cases hw; trivial), by rw [ht]; exact hH⟩, hS.F ht⟩
theorem g_ineg {q0 : Nat} (hq0 : pc + 1 = q0) {a : Int} (hd : decode cc pc = .ok (.ineg, 1)) (h1 : -2147483648 ≤ -a) (h2 : -a < 2147483648)
    (k : gA R y cc nL ret Q ck q0 lv ((0, -a) :: st) sh M) : gA R y cc nL ret Q ck pc lv ((0, a) :: st) sh M := by
  subst hq0
  intro l G p e s m args below meth c H locs ls hC hH hlw hsw hl hS hB
  obtain ⟨hx, hb, hml, hr, hown, hts, hlk, hnm, hK⟩ := id hC
  obtain ⟨hb2, hsw2⟩ := List.forall_mem_cons.mp hsw
  refine lv_ineg hx hb hd ?_
  have h9 := k l G p e s m args below meth c H locs ls hC hH hlw (List.forall_mem_cons.mpr ⟨⟨h1, h2⟩, hsw2⟩) hl hS hB
  rw [List.map_cons, show gc G (0, -a) = .int (Int32.ofInt (-a)) from rfl, Int32.ofInt_neg] at h9
  exact h9
theorem g_d1ld {q0 : Nat} (hq0 : pc + 1 = q0) {x : Int} (hd : decode cc pc = .ok (.baload, 1)) (h0 : 0 ≤ x) (hn : x < 100)
    (k : gA R y cc nL ret Q ck q0 lv ((0, 48 + x % 10) :: st) sh M) : gA R y cc nL ret Q ck pc lv ((0, x) :: (5, 30) :: st) sh M := by
  subst hq0
  intro l G p e s m args below meth c H locs ls hC hH hlw hsw hl hS hB
  obtain ⟨hx, hb, hml, hr, hown, hts, hlk, hnm, hK⟩ := id hC
  obtain ⟨-, -, ⟨t1, t2, e1, e2, -, -, d5, d6⟩, -⟩ := hK.2.2.2
  obtain ⟨hv, hsw2⟩ := List.forall_mem_cons.mp hsw
  have h9 := k l G p e s m args below meth c H locs ls hC hH hlw (List.forall_mem_cons.mpr ⟨⟨by show (-2147483648 : Int) ≤ 48 + x % 10; omega, by show 48 + x % 10 < (2147483648 : Int); omega⟩, (List.forall_mem_cons.mp hsw2).2⟩) hl hS hB
  rw [List.map_cons, show gc G (0, 48 + x % 10) = .int (Int32.ofInt (48 + x % 10)) from rfl] at h9
  rw [List.map_cons, List.map_cons, show gc G (5, 30) = va_rf (G.2.2.2 30) from rfl, e1]
  refine va_tb hx hb d5 hS (gi_in hv h0 hn) ?_ hd h9
  rw [gi_cl hv]
  show Value.int (Int32.ofNat (48 + x.toNat % 10)) = _
  rw [show (48 + x % 10 : Int) = ((48 + x.toNat % 10 : Nat) : Int) by omega]
  rfl
theorem g_d2ld {q0 : Nat} (hq0 : pc + 1 = q0) {x : Int} (hd : decode cc pc = .ok (.baload, 1)) (h0 : 0 ≤ x) (hn : x < 100)
    (k : gA R y cc nL ret Q ck q0 lv ((0, 48 + x / 10) :: st) sh M) : gA R y cc nL ret Q ck pc lv ((0, x) :: (5, 31) :: st) sh M := by
  subst hq0
  intro l G p e s m args below meth c H locs ls hC hH hlw hsw hl hS hB
  obtain ⟨hx, hb, hml, hr, hown, hts, hlk, hnm, hK⟩ := id hC
  obtain ⟨-, -, ⟨t1, t2, e1, e2, -, -, d5, d6⟩, -⟩ := hK.2.2.2
  obtain ⟨hv, hsw2⟩ := List.forall_mem_cons.mp hsw
  have h9 := k l G p e s m args below meth c H locs ls hC hH hlw (List.forall_mem_cons.mpr ⟨⟨by show (-2147483648 : Int) ≤ 48 + x / 10; omega, by show 48 + x / 10 < (2147483648 : Int); omega⟩, (List.forall_mem_cons.mp hsw2).2⟩) hl hS hB
  rw [List.map_cons, show gc G (0, 48 + x / 10) = .int (Int32.ofInt (48 + x / 10)) from rfl] at h9
  rw [List.map_cons, List.map_cons, show gc G (5, 31) = va_rf (G.2.2.2 31) from rfl, e2]
  refine va_tb hx hb d6 hS (gi_in hv h0 hn) ?_ hd h9
  rw [gi_cl hv]
  show Value.int (Int32.ofNat (48 + x.toNat / 10)) = _
  rw [show (48 + x / 10 : Int) = ((48 + x.toNat / 10 : Nat) : Int) by omega]
  rfl
end
