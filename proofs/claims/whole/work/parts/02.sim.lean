-- the abstract machine: words, memory, shape; what they are in the machine's heap
abbrev gV : Type := Nat × Int
abbrev gM : Type := Int → Int → Int
abbrev gS : Type := List (Nat × Nat)
abbrev gG : Type := Nat × va_G × (Nat → ClassId) × (Nat → Option Nat)
/-- a word is one of its type: 0 int, 1 long, 2 float (its bits), 3 double, 4 a cell of ours (-1 null), 5 an old cell, by its number in the list of those -/
def gw (v : gV) : Prop := match v.1 with
  | 0 => -2147483648 ≤ v.2 ∧ v.2 < 2147483648
  | 1 => -9223372036854775808 ≤ v.2 ∧ v.2 < 9223372036854775808
  | 2 => 0 ≤ v.2 ∧ v.2 < 4294967296
  | 3 => 0 ≤ v.2 ∧ v.2 < 18446744073709551616
  | _ => True
def ga (G : gG) (x : Int) : Option Nat := if x < 0 then none else some (G.1 + x.toNat)
def gc (G : gG) (v : gV) : Value := match v.1 with
  | 0 => .int (Int32.ofInt v.2)
  | 1 => .long (Int64.ofInt v.2)
  | 2 => .float (UInt32.ofNat v.2.toNat)
  | 3 => .double (UInt64.ofNat v.2.toNat)
  | 4 => va_rf (ga G v.2)
  | _ => va_rf (G.2.2.2 v.2.toNat)
/-- the types of the fields of each class of vwCl, in their order -/
def gFt : List (List Nat) := [[4, 0, 0, 0], [0, 4, 4, 4, 4, 4, 0, 4, 4, 4, 0, 0, 4, 4, 4, 4, 4, 4], [0, 4, 4, 4, 4, 4, 4, 4, 4, 4, 4, 4], [4, 0, 4, 4, 0, 0, 0, 4], [4, 4], [0, 4, 4], [0, 0, 0, 0, 4, 4, 4, 4, 4, 4, 4, 0, 0, 0, 0, 0, 0, 4, 4], [4, 0, 0, 0], [0, 4, 4, 4, 4], [4, 4, 4, 4, 4, 4, 0, 0, 4, 4], [4, 0, 0, 0, 0], [4, 4, 0], [4, 4, 4, 4, 4, 4, 4, 4, 4, 4, 4, 4, 4, 4, 4, 4, 0], [0, 4, 4, 4, 4, 4, 4, 4, 4, 4, 4, 4, 0, 0, 4, 4, 4, 4, 0, 0, 0, 0, 0, 0, 4, 4, 4, 4, 4, 0, 0, 4, 0, 0, 4, 4, 4, 0, 0, 4, 4, 4, 4, 4, 4, 4, 4, 4, 4, 0, 0, 0, 4, 4, 4, 4, 4, 4, 4, 0, 0, 0, 0, 0, 2, 4, 4, 4, 4, 4, 0, 0]]
/-- the component types of arrays, by code -/
def gT : List FieldType := [.int, .byte, .boolean, .long, .float, .object RX10, .object RX7, .object RX5]
def gTys (G : gG) : List (ClassId × FieldType) := gT.zipIdx.map (fun p => (G.2.2.1 p.2, p.1))
def gO (G : gG) (M : gM) (a : Int) (ci : Nat) : List Value := (gFt.getD ci []).zipIdx.map (fun p => gc G (p.1, M a (p.2 : Int)))
/-- the kind of the cell at an address -/
def gsh (sh : gS) (a : Int) : Option (Nat × Nat) := match a with
  | .ofNat n => sh[n]?
  | .negSucc _ => none
/-- what stands in a cell: kind 0: an object of the class; 1 + t: an array of components of type t, of that length -/
def gE (G : gG) (M : gM) (a : Int) (k : Nat × Nat) : va_E := match k.1 with
  | 0 => .inr (k.2, gO G M a k.2)
  | 1 => .inl (G.2.2.1 0, k.2, .inl (fun i => Int32.ofInt (M a (i : Int))))
  | 2 => .inl (G.2.2.1 1, k.2, .inl (fun i => Int32.ofInt (M a (i : Int))))
  | 3 => .inl (G.2.2.1 2, k.2, .inl (fun i => Int32.ofInt (M a (i : Int))))
  | 4 => .inl (G.2.2.1 3, k.2, .inr (.inl (fun i => Int64.ofInt (M a (i : Int)))))
  | 5 => .inl (G.2.2.1 4, k.2, .inr (.inr (.inl (fun i => UInt32.ofNat (M a (i : Int)).toNat))))
  | n + 6 => .inl (G.2.2.1 (n + 5), k.2, .inr (.inr (.inr (.inr (fun i => ga G (M a (i : Int)))))))
/-- the type of what stands at a place of a cell of a kind -/
def gKt (k : Nat × Nat) (i : Int) : Nat := match k.1 with
  | 0 => (gFt.getD k.2 []).getD i.toNat 4
  | 1 => 0
  | 2 => 0
  | 3 => 0
  | 4 => 1
  | 5 => 2
  | _ => 4
def gWs (G : gG) (sh : gS) (M : gM) : va_W := sh.zipIdx.map (fun p => (G.1 + p.2, gE G M (p.2 : Int) p.1))
def gMw (sh : gS) (M : gM) : Prop := ∀ (a : Int) (k : Nat × Nat), gsh sh a = some k → ∀ i : Int, gw (gKt k i, M a i)
def gH (G : gG) (sh : gS) (M : gM) (H : Heap) : Prop := H.size = G.1 + sh.length ∧ va_P G.2.1 vwCl (gWs G sh M) H ∧ gMw sh M
/-- the texts of PlanText, their constants -/
def gTxt : List String := ["from", "to", "keep", "drop", "move", "swap", "word", "graft", "sign", "skip", "merges", "empty", "tags", "since", "most"]
def gSbyt : List (List Int32) := [[102, 114, 111, 109], [116, 111], [107, 101, 101, 112], [100, 114, 111, 112], [109, 111, 118, 101], [115, 119, 97, 112], [119, 111, 114, 100], [103, 114, 97, 102, 116], [115, 105, 103, 110], [115, 107, 105, 112], [109, 101, 114, 103, 101, 115], [101, 109, 112, 116, 121], [116, 97, 103, 115], [115, 105, 110, 99, 101], [109, 111, 115, 116]]
def gSlen : List Nat := [4, 2, 4, 4, 4, 4, 4, 5, 4, 4, 6, 5, 4, 5, 4]
def gNest : List Cond := [.methodLinkNest "CarriedHistory" 9 ⟨"CarriedHistory$Tape", "<init>", "()V"⟩ "CarriedHistory", .methodLinkNest "CarriedHistory" 18 ⟨"CarriedHistory$Rewriter", "<init>", "()V"⟩ "CarriedHistory", .methodLinkNest "CarriedHistory$Rewriter" 20 ⟨"CarriedHistory$Draft", "<init>", "()V"⟩ "CarriedHistory", .methodLinkNest "CarriedHistory" 30 ⟨"CarriedHistory$Draft", "<init>", "()V"⟩ "CarriedHistory", .methodLinkNest "CarriedHistory" 49 ⟨"CarriedHistory$PlanText", "<init>", "()V"⟩ "CarriedHistory", .methodLinkNest "CarriedHistory$PlanText" 11 ⟨"CarriedHistory$Plan", "<init>", "()V"⟩ "CarriedHistory", .methodLinkNest "CarriedHistory" 54 ⟨"CarriedHistory$Refs", "<init>", "()V"⟩ "CarriedHistory", .methodLinkNest "CarriedHistory" 61 ⟨"CarriedHistory$Change", "<init>", "()V"⟩ "CarriedHistory", .methodLinkNest "CarriedHistory" 102 ⟨"CarriedHistory$Plan", "<init>", "()V"⟩ "CarriedHistory"]
/-- what is known of the old cells: the texts (0 to 14, their bytes 15 to 29), the digits of numbers (30 ones, 31 tens), a formatter (32); the law's script (33, its length 34, its ints from 35 on) -/
def gXS (G : gG) (U : State) : Prop :=
  (∃ adK adV : Nat → Nat, vk_S 15 gSlen gSbyt adK adV (fun q => G.1 ≤ q) U U.heap ∧ ∀ i : Nat, i < 15 → G.2.2.2 i = some (adK i) ∧ G.2.2.2 (15 + i) = some (adV i) ∧ vk_R RX6 (112 + 2 * i) (gTxt.getD i "") (adK i) U) ∧
  va_Z "java/lang/String" "COMPACT_STRINGS" "Z" (.int 1) (fun q => G.1 ≤ q) U U.heap ∧
  (∃ t1 t2 : Nat, G.2.2.2 30 = some t1 ∧ G.2.2.2 31 = some t2 ∧ va_Z "java/lang/Integer" "DigitOnes" "[B" (.ref t1) (fun q => G.1 ≤ q) U U.heap ∧ va_Z "java/lang/Integer" "DigitTens" "[B" (.ref t2) (fun q => G.1 ≤ q) U U.heap ∧
    va_T .byte t1 100 (fun j => .int (Int32.ofNat (48 + j % 10))) (fun q => G.1 ≤ q) U U.heap ∧ va_T .byte t2 100 (fun j => .int (Int32.ofNat (48 + j / 10))) (fun q => G.1 ≤ q) U U.heap) ∧
  (∀ b : Nat, G.2.2.2 33 = some b → b < G.1 ∧ b < U.heap.size ∧ va_X b ((G.2.2.2 34).getD 0) (fun i => Int32.ofNat ((G.2.2.2 (35 + i)).getD 0)) U U.heap) ∧
  va_Z "jdk/internal/util/Preconditions" "SIOOBE_FORMATTER" "Ljava/util/function/BiFunction;" (va_rf (G.2.2.2 32)) (fun q => G.1 ≤ q) U U.heap
def gX (G : gG) (U : State) : Prop := (∀ w ∈ gNest, va_Nw w U) ∧ (∀ C ∈ [RX10, RX7, RX5], va_AO C U) ∧ gXS G U
theorem gX_moved {G : gG} {u U : State} (hW : u.WarmedH U.vm) (hh : ∀ q : Nat, q < G.1 → U.heap[q]? = u.heap[q]?) (h : gX G u) : gX G U := by
  obtain ⟨h1, h2, ⟨adK, adV, h3, h4⟩, h5, ⟨t1, t2, d1, d2, d3, d4, d5, d6⟩, h8, h7⟩ := h
  have hvm := hW.alike
  have hk : ∀ a : Nat, a < u.heap.size → ¬ (fun q => G.1 ≤ q) a → U.heap[a]? = u.heap[a]? := fun a _ hn => hh a (Nat.not_le.mp hn)
  refine ⟨fun w hw => ?_, fun C hC => (h2 C hC).moved hvm, ⟨adK, adV, (h3.kept hk).moved hvm, fun i hi => ⟨(h4 i hi).1, (h4 i hi).2.1, (h4 i hi).2.2.warm hW⟩⟩, (h5.kept hk).moved hvm, ⟨t1, t2, d1, d2, (d3.kept hk).moved hvm, (d4.kept hk).moved hvm, (d5.kept hk).moved hvm, (d6.kept hk).moved hvm⟩, fun b hb => ?_, (h7.kept hk).moved hvm⟩
  · have h0 := h1 w hw
    simp only [gNest, List.mem_cons, List.not_mem_nil, or_false] at hw
    rcases hw with rfl | rfl | rfl | rfl | rfl | rfl | rfl | rfl | rfl <;> exact va_Nw.warmM hW h0
  · obtain ⟨b1, b2, b3⟩ := h8 b hb
    have e1 := hh b b1
    exact ⟨b1, (Array.getElem?_eq_some_iff.mp (e1.trans (Array.getElem?_eq_getElem b2))).1, (b3.kept e1).moved hvm⟩
def gK (G : gG) (U : State) : Prop := va_K G.2.1 vwCl (gTys G) U ∧ gX G U
def gQ (G : gG) (Q : Option gV → gS → gM → Prop) : Array Value → State → Outcome → State → Prop := fun _ st o t =>
  (∃ (r : Option gV) (sh : gS) (M : gM), o = .returned (r.map (gc G)) ∧ Q r sh M ∧ (∀ v, r = some v → gw v) ∧ gH G sh M t.heap) ∧ va_F (fun q => G.1 ≤ q) st t
/-- A CONTRACT: from these words, in this memory, the method returns, within the room, and Q holds of its answer and the memory then -/
def gC (R : Room) (y : MethodName) (cc : ByteArray) (nL : Nat) (ret : Option FieldType) (av : List gV) (sh : gS) (M : gM) (Q : Option gV → gS → gM → Prop) : Prop :=
  ∀ (l : Launch) (G : gG), Met l y (.code y cc nL ret :: gAll) R (va_Pc (av.map (gc G)) (fun U => G.1 ≤ U.heap.size ∧ gH G sh M U.heap ∧ gK G U ∧ ∀ v ∈ av, gw v)) (gQ G Q) R.cells R.slots (fun q => G.1 ≤ q)
def gCx (G : gG) (y : MethodName) (cc : ByteArray) (nL : Nat) (ret : Option FieldType) (p : Program) (s : State) (m : MethodId) (args : Array Value) (meth : Method) (c : Code) : Prop :=
  p.tables.exec = Jvm.exec ∧ c.code = cc ∧ c.maxLocals = nL ∧ meth.sig.returnType = ret ∧ s.vm.findClass y.cls = some m.cls ∧ (∀ w ∈ gAll, w.before args s = true) ∧ meth.locks = false ∧ meth.name = y.name ∧ gK G s
/-- the listed locals: of each place that has a type -/
def gL (G : gG) (lv : List gV) : List (Nat × Value) := lv.zipIdx.filterMap (fun p => if p.1.1 = 9 then none else some (p.2, gc G p.1))
/-- A POINT of a method: from there on it comes to its end, with Q -/
def gA (R : Room) (y : MethodName) (cc : ByteArray) (nL : Nat) (ret : Option FieldType) (Q : Option gV → gS → gM → Prop) (ck : Nat × Nat) (pc : Nat) (lv st : List gV) (sh : gS) (M : gM) : Prop :=
  ∀ (l : Launch) (G : gG) (p : Program) (e : Env) (s : State) (m : MethodId) (args : Array Value) (below : List Frame) (meth : Method) (c : Code) (H : Heap) (locs : List Loc) (ls : Array Slot),
    gCx G y cc nL ret p s m args meth c → gH G sh M H → (∀ v ∈ lv, gw v) → (∀ v ∈ st, gw v) → lv_has ls nL (gL G lv) → va_S (fun q => G.1 ≤ q) s.heap H locs → G.1 ≤ s.heap.size →
    W p l e R s m args below meth c H locs ck.1 ck.2 (MQ below (gQ G Q) args s R.cells R.slots (fun q => G.1 ≤ q)) (F0 m pc ls (st.map (gc G)))

theorem gL_mem {G : gG} {lv : List gV} {i : Nat} {w : Value} : (i, w) ∈ gL G lv ↔ ∃ v : gV, lv[i]? = some v ∧ v.1 ≠ 9 ∧ w = gc G v := by
  unfold gL
  rw [List.mem_filterMap]
  constructor
  · rintro ⟨⟨v, j⟩, hm, he⟩
    rw [List.mem_zipIdx_iff_getElem?] at hm
    by_cases h9 : v.1 = 9
    · simp [h9] at he
    · simp only [h9, if_false, Option.some.injEq, Prod.mk.injEq] at he
      exact ⟨v, by rw [← he.1]; exact hm, h9, he.2.symm⟩
  · rintro ⟨v, h1, h2, h3⟩
    exact ⟨(v, i), List.mem_zipIdx_iff_getElem?.mpr h1, by simp [h2, h3]⟩
theorem gL_at {G : gG} {ls : Array Slot} {nL : Nat} {lv : List gV} (h : lv_has ls nL (gL G lv)) {i : Nat} {v : gV} (hv : lv[i]? = some v) (h9 : v.1 ≠ 9) : ls[i]? = some (.val (gc G v)) :=
  h.2.2 (i, gc G v) (gL_mem.mpr ⟨v, hv, h9, rfl⟩)
theorem gL_get {G : gG} {lv : List gV} {i : Nat} {v : gV} (hv : lv[i]? = some v) (h9 : v.1 ≠ 9) : ∃ k : Nat, (gL G lv)[k]? = some (i, gc G v) :=
  List.getElem?_of_mem (gL_mem.mpr ⟨v, hv, h9, rfl⟩)
theorem gc_cat2 {G : gG} {v : gV} (h : (gc G v).category = 2) : v.1 = 1 ∨ v.1 = 3 := by
  obtain ⟨t, x⟩ := v
  match t, h with
  | 0, h => simp [gc, Value.category] at h
  | 1, _ => exact Or.inl rfl
  | 2, h => simp [gc, Value.category] at h
  | 3, _ => exact Or.inr rfl
  | 4, h => cases hx : ga G x <;> simp [gc, va_rf, hx, Value.category] at h
  | n + 5, h => cases hx : G.2.2.2 x.toNat <;> simp [gc, va_rf, hx, Value.category] at h
/-- no word of two places stands just ahead of place i -/
def gOk (lv : List gV) (i : Nat) : Bool := match i with
  | 0 => true
  | j + 1 => match lv[j]? with
    | some v => !(v.1 == 1) && !(v.1 == 3)
    | none => true
theorem gL_set {G : gG} {ls : Array Slot} {nL : Nat} {lv : List gV} {i : Nat} {v : gV} (ho : gOk lv i = true)
    (h : lv_has ls nL ((i, gc G v) :: (gL G lv).filter (fun q => !(q.1 == i) && !(q.1 + 1 == i && q.2.category == 2)))) : lv_has ls nL (gL G (lv.set i v)) := by
  refine ⟨h.1, h.2.1, fun q hq => ?_⟩
  obtain ⟨j, w⟩ := q
  obtain ⟨u, h1, h2, h3⟩ := gL_mem.mp hq
  by_cases hj : i = j
  · subst hj
    have hlt : i < (lv.set i v).length := (List.getElem?_eq_some_iff.mp h1).1
    rw [List.length_set] at hlt
    rw [List.getElem?_set_self hlt] at h1
    cases h1
    exact h.2.2 _ (h3 ▸ List.mem_cons_self)
  · rw [List.getElem?_set_ne hj] at h1
    refine h.2.2 (j, w) (List.mem_cons_of_mem _ (List.mem_filter.mpr ⟨gL_mem.mpr ⟨u, h1, h2, h3⟩, ?_⟩))
    have hji : ¬ j = i := fun z => hj z.symm
    by_cases hc : j + 1 = i
    · subst hc
      have hcat : ¬ w.category = 2 := by
        intro hw
        rw [h3] at hw
        have h4 := gc_cat2 hw
        simp only [gOk, h1] at ho
        rcases h4 with e | e <;> simp [e] at ho
      simp [hcat]
    · simp [hji, hc]
theorem gL_set2 {G : gG} {ls : Array Slot} {nL : Nat} {lv : List gV} {i : Nat} {v : gV} {x : Int} (ho : gOk lv i = true)
    (h : lv_has ls nL ((i, gc G v) :: (gL G lv).filter (fun q => !(q.1 == i) && (!(q.1 == i + 1) && !(q.1 + 1 == i && q.2.category == 2))))) : lv_has ls nL (gL G ((lv.set i v).set (i + 1) (9, x))) := by
  refine ⟨h.1, h.2.1, fun q hq => ?_⟩
  obtain ⟨j, w⟩ := q
  obtain ⟨u, h1, h2, h3⟩ := gL_mem.mp hq
  by_cases hj1 : i + 1 = j
  · subst hj1
    have hlt : i + 1 < ((lv.set i v).set (i + 1) (9, x)).length := (List.getElem?_eq_some_iff.mp h1).1
    rw [List.length_set] at hlt
    rw [List.getElem?_set_self hlt] at h1
    cases h1
    exact absurd rfl h2
  rw [List.getElem?_set_ne hj1] at h1
  by_cases hj : i = j
  · subst hj
    have hlt : i < (lv.set i v).length := (List.getElem?_eq_some_iff.mp h1).1
    rw [List.length_set] at hlt
    rw [List.getElem?_set_self hlt] at h1
    cases h1
    exact h.2.2 _ (h3 ▸ List.mem_cons_self)
  · rw [List.getElem?_set_ne hj] at h1
    refine h.2.2 (j, w) (List.mem_cons_of_mem _ (List.mem_filter.mpr ⟨gL_mem.mpr ⟨u, h1, h2, h3⟩, ?_⟩))
    have hji : ¬ j = i := fun z => hj z.symm
    have hji1 : ¬ j = i + 1 := fun z => hj1 z.symm
    by_cases hc : j + 1 = i
    · subst hc
      have hcat : ¬ w.category = 2 := by
        intro hw
        rw [h3] at hw
        have h4 := gc_cat2 hw
        simp only [gOk, h1] at ho
        rcases h4 with e | e <;> simp [e] at ho
      simp only [hcat, hji1]
      simp
      omega
    · simp [hji, hji1, hc]
theorem gw_set {lv : List gV} {i : Nat} {v : gV} (h : ∀ w ∈ lv, gw w) (hv : gw v) : ∀ w ∈ lv.set i v, gw w := by
  intro w hw
  rcases List.mem_or_eq_of_mem_set hw with q | q
  · exact h w q
  · rw [q]; exact hv
-- the world's list
theorem gWs_at (G : gG) (sh : gS) (M : gM) (a : Nat) : (gWs G sh M)[a]? = (sh[a]?).map (fun k => (G.1 + a, gE G M (a : Int) k)) := by
  unfold gWs
  rw [List.getElem?_map, List.getElem?_zipIdx]
  cases sh[a]? <;> simp
theorem gWs_set {G : gG} {sh : gS} {M M' : gM} {a : Nat} {k : Nat × Nat} (hk : sh[a]? = some k) (h : ∀ b : Int, b ≠ (a : Int) → M' b = M b) : (gWs G sh M).set a (G.1 + a, gE G M' (a : Int) k) = gWs G sh M' := by
  apply List.ext_getElem?
  intro b
  have hlt : a < sh.length := (List.getElem?_eq_some_iff.mp hk).1
  by_cases hb : a = b
  · subst hb
    have h2 : a < (gWs G sh M).length := by simp [gWs, hlt]
    rw [List.getElem?_set_self h2, gWs_at, hk]
    rfl
  · rw [List.getElem?_set_ne hb, gWs_at, gWs_at]
    cases hs : sh[b]? with
    | none => rfl
    | some q =>
      have e : M' (b : Int) = M (b : Int) := h b (fun z => hb (by omega))
      have e2 : gE G M' (b : Int) q = gE G M (b : Int) q := by
        obtain ⟨n, z⟩ := q
        match n with
        | 0 => simp [gE, gO, e]
        | 1 => simp [gE, e]
        | 2 => simp [gE, e]
        | 3 => simp [gE, e]
        | 4 => simp [gE, e]
        | 5 => simp [gE, e]
        | n + 6 => simp [gE, e]
      simp [e2]
theorem gWs_D {G : gG} {sh : gS} {M : gM} : va_D (fun q => G.1 ≤ q) (gWs G sh M) := by
  refine ⟨fun i j p q hi hj hpq => ?_, fun k q hk => ?_⟩
  · rw [gWs_at] at hi hj
    obtain ⟨ki, -, rfl⟩ := Option.map_eq_some_iff.mp hi
    obtain ⟨kj, -, rfl⟩ := Option.map_eq_some_iff.mp hj
    simp only at hpq
    omega
  · rw [gWs_at] at hk
    obtain ⟨kk, -, rfl⟩ := Option.map_eq_some_iff.mp hk
    simp
theorem gWs_push {G : gG} {sh : gS} {M M' : gM} {k : Nat × Nat} (h : ∀ b : Int, b ≠ (sh.length : Int) → M' b = M b) : gWs G (sh ++ [k]) M' = gWs G sh M ++ [(G.1 + sh.length, gE G M' (sh.length : Int) k)] := by
  apply List.ext_getElem?
  intro b
  have hlen : (gWs G sh M).length = sh.length := by simp [gWs]
  rw [gWs_at]
  rcases Nat.lt_trichotomy b sh.length with hb | hb | hb
  · rw [List.getElem?_append_left hb, List.getElem?_append_left (by rw [hlen]; exact hb), gWs_at]
    cases hs : sh[b]? with
    | none => rfl
    | some q =>
      have e : M' (b : Int) = M (b : Int) := h b (by omega)
      have e2 : gE G M' (b : Int) q = gE G M (b : Int) q := by
        obtain ⟨n, z⟩ := q
        match n with
        | 0 => simp [gE, gO, e]
        | 1 => simp [gE, e]
        | 2 => simp [gE, e]
        | 3 => simp [gE, e]
        | 4 => simp [gE, e]
        | 5 => simp [gE, e]
        | n + 6 => simp [gE, e]
      simp [e2]
  · subst hb
    rw [List.getElem?_append_right (Nat.le_refl _), List.getElem?_append_right (by rw [hlen]; exact Nat.le_refl _), hlen]
    simp
  · rw [List.getElem?_eq_none (by simp; omega), List.getElem?_eq_none (by simp [hlen]; omega)]
    rfl

-- numbers
theorem gi_int {x : Int} (h : gw (0, x)) : (Int32.ofInt x).toInt = x := Int32.toInt_ofInt_of_le (by have := h.1; exact this) (by have := h.2; exact this)
theorem gi_lt {x y : Int} (hx : gw (0, x)) (hy : gw (0, y)) : Int32.ofInt x < Int32.ofInt y ↔ x < y := by
  rw [Int32.lt_iff_toInt_lt, gi_int hx, gi_int hy]
theorem gi_le {x y : Int} (hx : gw (0, x)) (hy : gw (0, y)) : Int32.ofInt x ≤ Int32.ofInt y ↔ x ≤ y := by
  rw [Int32.le_iff_toInt_le, gi_int hx, gi_int hy]
theorem gi_eq {x y : Int} (hx : gw (0, x)) (hy : gw (0, y)) : Int32.ofInt x = Int32.ofInt y ↔ x = y := by
  rw [← Int32.toInt_inj, gi_int hx, gi_int hy]
theorem gw0 : gw (0, 0) := ⟨by decide, by decide⟩
theorem gi_0 : Int32.ofInt 0 = 0 := rfl
theorem gw_to (x : Int32) : gw (0, x.toInt) := ⟨by have := Int32.le_toInt x; exact this, by have := Int32.toInt_lt x; exact this⟩
theorem gw_toL (x : Int64) : gw (1, x.toInt) := ⟨by have := Int64.le_toInt x; exact this, by have := Int64.toInt_lt x; exact this⟩
theorem gi_in {x : Int} {n : Nat} (hx : gw (0, x)) (h0 : 0 ≤ x) (hn : x < n) : vp_in (Int32.ofInt x) n := by
  rw [vp_in_iff, gi_int hx]; exact ⟨h0, hn⟩
theorem gi_cl {x : Int} (hx : gw (0, x)) : (Int32.ofInt x).toNatClampNeg = x.toNat := by
  show (Int32.ofInt x).toInt.toNat = x.toNat
  rw [gi_int hx]
theorem gc_ref (G : gG) {a : Int} (h : 0 ≤ a) : gc G (4, a) = .ref (G.1 + a.toNat) := by
  have h : ¬ (a < 0) := by omega
  simp [gc, ga, va_rf, h]
theorem gc_null (G : gG) {a : Int} (h : a < 0) : gc G (4, a) = .null := by simp [gc, ga, va_rf, h]
theorem gsh_nn {sh : gS} {a : Int} {k : Nat × Nat} (h : gsh sh a = some k) : 0 ≤ a ∧ sh[a.toNat]? = some k := by
  cases a with
  | ofNat n => exact ⟨Int.natCast_nonneg n, h⟩
  | negSucc n => cases h
theorem gsh_of {sh : gS} {n : Nat} {k : Nat × Nat} (h : sh[n]? = some k) : gsh sh (n : Int) = some k := h
theorem gc_cat1 {G : gG} {v : gV} (h1 : v.1 ≠ 1) (h3 : v.1 ≠ 3) : (gc G v).category = 1 := by
  rcases lv_cat (gc G v) with h | h
  · exact h
  · rcases gc_cat2 h with q | q
    · exact absurd q h1
    · exact absurd q h3
def gcat (v : gV) : Nat := if v.1 = 1 ∨ v.1 = 3 then 2 else 1
theorem gc_cat {G : gG} {v : gV} : (gc G v).category = gcat v := by
  unfold gcat
  by_cases h : v.1 = 1 ∨ v.1 = 3
  · rw [if_pos h]
    obtain ⟨t, x⟩ := v
    rcases h with h | h <;> (simp only at h; subst h; rfl)
  · rw [if_neg h]
    exact gc_cat1 (fun q => h (Or.inl q)) (fun q => h (Or.inr q))
theorem gcat_sum {G : gG} (st : List gV) : ((st.map (gc G)).map fun v => v.category).sum = (st.map gcat).sum := by
  rw [List.map_map]
  congr 1
  apply List.map_congr_left
  intro v _
  exact gc_cat
def gU (M : gM) (a i : Int) (v : Int) : gM := fun b j => if b = a ∧ j = i then v else M b j
theorem gU_same (M : gM) (a i : Int) (v : Int) : gU M a i v a i = v := by simp [gU]
theorem gU_cell (M : gM) {a b : Int} (i : Int) (v : Int) (h : b ≠ a) : gU M a i v b = M b := by funext j; simp [gU, h]
theorem gMw_U {sh : gS} {M : gM} {a i : Int} {v : Int} {k : Nat × Nat} (h : gMw sh M) (hk : gsh sh a = some k) (hv : gw (gKt k i, v)) : gMw sh (gU M a i v) := by
  intro b q hq j
  by_cases hb : b = a ∧ j = i
  · obtain ⟨rfl, rfl⟩ := hb
    cases hk.symm.trans hq
    rw [gU_same]; exact hv
  · simp only [gU, if_neg hb]
    exact h b q hq j
-- 32-bit and 64-bit works on words
def gw32 (z : Int) : Int := (Int32.ofInt z).toInt
def gand (x y : Int) : Int := (Int32.ofInt x &&& Int32.ofInt y).toInt
def gor (x y : Int) : Int := (Int32.ofInt x ||| Int32.ofInt y).toInt
def gshl (x y : Int) : Int := (Int32.ofInt x <<< (Int32.ofInt y &&& 31)).toInt
def gshr (x y : Int) : Int := (Int32.ofInt x >>> (Int32.ofInt y &&& 31)).toInt
def gushr (x y : Int) : Int := (((Int32.ofInt x).toUInt32 >>> ((Int32.ofInt y).toUInt32 &&& Int32.toUInt32 31)).toInt32).toInt
def grem (x y : Int) : Int := (Int32.ofInt x - Int32.ofInt x / Int32.ofInt y * Int32.ofInt y).toInt
def gdiv (x y : Int) : Int := (Int32.ofInt x / Int32.ofInt y).toInt
def gi2b (x : Int) : Int := ((Int32.ofInt x).toInt8.toInt32).toInt
def gi2c (x : Int) : Int := (((Int32.ofInt x).toUInt32 % 65536).toInt32).toInt
def glw (z : Int) : Int := (Int64.ofInt z).toInt
def gland (x y : Int) : Int := (Int64.ofInt x &&& Int64.ofInt y).toInt
def glor (x y : Int) : Int := (Int64.ofInt x ||| Int64.ofInt y).toInt
def glxor (x y : Int) : Int := (Int64.ofInt x ^^^ Int64.ofInt y).toInt
def glshl (x y : Int) : Int := (Int64.ofInt x <<< ((Int32.ofInt y).toInt64 &&& 63)).toInt
def glshr (x y : Int) : Int := (Int64.ofInt x >>> ((Int32.ofInt y).toInt64 &&& 63)).toInt
def glushr (x y : Int) : Int := (((Int64.ofInt x).toUInt64 >>> ((Int32.ofInt y).toInt64.toUInt64 &&& Int64.toUInt64 63)).toInt64).toInt
def glsub (x y : Int) : Int := (Int64.ofInt x - Int64.ofInt y).toInt
def gladd (x y : Int) : Int := (Int64.ofInt x + Int64.ofInt y).toInt
def glcmp (x y : Int) : Int := (lg_cmp (Int64.ofInt x) (Int64.ofInt y)).toInt
def gu (x : Int) : UInt32 := UInt32.ofNat x.toNat
def gU64 (x : Int) : UInt64 := UInt64.ofNat x.toNat
def gfl (z : UInt32) : Int := (z.toNat : Int)
def gdb (z : UInt64) : Int := (z.toNat : Int)
theorem gc_fl (G : gG) (z : UInt32) : gc G (2, gfl z) = .float z := by simp [gc, gfl]
theorem gc_db (G : gG) (z : UInt64) : gc G (3, gdb z) = .double z := by simp [gc, gdb]
theorem gw_fl (z : UInt32) : gw (2, gfl z) := ⟨by unfold gfl; show (0 : Int) ≤ _; omega, by unfold gfl; have := z.toNat_lt; show ((z.toNat : Nat) : Int) < 4294967296; omega⟩
theorem gw_db (z : UInt64) : gw (3, gdb z) := ⟨by unfold gdb; show (0 : Int) ≤ _; omega, by unfold gdb; have := z.toNat_lt; show ((z.toNat : Nat) : Int) < 18446744073709551616; omega⟩
section
variable {R : Room} {y : MethodName} {cc : ByteArray} {nL : Nat} {ret : Option FieldType} {Q : Option gV → gS → gM → Prop} {ck : Nat × Nat} {pc : Nat} {lv st : List gV} {sh : gS} {M : gM}

theorem g_iconst {q0 : Nat} (hq0 : pc + 1 = q0) {n : Int} (hd : decode cc pc = .ok (.iconst n, 1)) (h1 : -2147483648 ≤ n := by decide) (h2 : n < 2147483648 := by decide)
    (k : gA R y cc nL ret Q ck q0 lv ((0, n) :: st) sh M) : gA R y cc nL ret Q ck pc lv st sh M := by
  subst hq0
  intro l G p e s m args below meth c H locs ls hC hH hlw hsw hl hS hB
  obtain ⟨hx, hb, hml, hr, hown, hts, hlk, hnm, hK⟩ := id hC
  refine lv_iconst (v := Int32.ofInt n) hx hb hd rfl ?_
  exact k l G p e s m args below meth c H locs ls hC hH hlw (List.forall_mem_cons.mpr ⟨⟨h1, h2⟩, hsw⟩) hl hS hB

theorem g_bipush {q0 : Nat} (hq0 : pc + 2 = q0) {n : Int} (hd : decode cc pc = .ok (.bipush n, 2)) (hv : (Int8.ofInt n).toInt32 = Int32.ofInt n := by decide) (h1 : -2147483648 ≤ n := by decide) (h2 : n < 2147483648 := by decide)
    (k : gA R y cc nL ret Q ck q0 lv ((0, n) :: st) sh M) : gA R y cc nL ret Q ck pc lv st sh M := by
  subst hq0
  intro l G p e s m args below meth c H locs ls hC hH hlw hsw hl hS hB
  obtain ⟨hx, hb, hml, hr, hown, hts, hlk, hnm, hK⟩ := id hC
  refine lv_bipush (v := Int32.ofInt n) hx hb hd hv ?_
  exact k l G p e s m args below meth c H locs ls hC hH hlw (List.forall_mem_cons.mpr ⟨⟨h1, h2⟩, hsw⟩) hl hS hB

theorem g_sipush {q0 : Nat} (hq0 : pc + 3 = q0) {n : Int} (hd : decode cc pc = .ok (.sipush n, 3)) (hv : (Int16.ofInt n).toInt32 = Int32.ofInt n := by decide) (h1 : -2147483648 ≤ n := by decide) (h2 : n < 2147483648 := by decide)
    (k : gA R y cc nL ret Q ck q0 lv ((0, n) :: st) sh M) : gA R y cc nL ret Q ck pc lv st sh M := by
  subst hq0
  intro l G p e s m args below meth c H locs ls hC hH hlw hsw hl hS hB
  obtain ⟨hx, hb, hml, hr, hown, hts, hlk, hnm, hK⟩ := id hC
  refine lv_sipush (v := Int32.ofInt n) hx hb hd hv ?_
  exact k l G p e s m args below meth c H locs ls hC hH hlw (List.forall_mem_cons.mpr ⟨⟨h1, h2⟩, hsw⟩) hl hS hB

theorem g_lconst {q0 : Nat} (hq0 : pc + 1 = q0) {n : Fin 2} {z : Int} (hd : decode cc pc = .ok (.lconst n, 1)) (hz : Int64.ofNat (n : Nat) = Int64.ofInt z := by decide) (h1 : -9223372036854775808 ≤ z := by decide) (h2 : z < 9223372036854775808 := by decide)
    (k : gA R y cc nL ret Q ck q0 lv ((1, z) :: st) sh M) : gA R y cc nL ret Q ck pc lv st sh M := by
  subst hq0
  intro l G p e s m args below meth c H locs ls hC hH hlw hsw hl hS hB
  obtain ⟨hx, hb, hml, hr, hown, hts, hlk, hnm, hK⟩ := id hC
  refine lv_lconst (v := Int64.ofInt z) hx hb hd hz ?_
  exact k l G p e s m args below meth c H locs ls hC hH hlw (List.forall_mem_cons.mpr ⟨⟨h1, h2⟩, hsw⟩) hl hS hB

theorem g_fconst0 {q0 : Nat} (hq0 : pc + 1 = q0) (hd : decode cc pc = .ok (.fconst 0, 1))
    (k : gA R y cc nL ret Q ck q0 lv ((2, gfl FP.fconst0) :: st) sh M) : gA R y cc nL ret Q ck pc lv st sh M := by
  subst hq0
  intro l G p e s m args below meth c H locs ls hC hH hlw hsw hl hS hB
  obtain ⟨hx, hb, hml, hr, hown, hts, hlk, hnm, hK⟩ := id hC
  refine lv_fconst0 hx hb hd ?_
  have h9 := k l G p e s m args below meth c H locs ls hC hH hlw (List.forall_mem_cons.mpr ⟨gw_fl _, hsw⟩) hl hS hB
  rw [List.map_cons, gc_fl] at h9
  exact h9

theorem g_fconst1 {q0 : Nat} (hq0 : pc + 1 = q0) (hd : decode cc pc = .ok (.fconst 1, 1))
    (k : gA R y cc nL ret Q ck q0 lv ((2, gfl FP.fconst1) :: st) sh M) : gA R y cc nL ret Q ck pc lv st sh M := by
  subst hq0
  intro l G p e s m args below meth c H locs ls hC hH hlw hsw hl hS hB
  obtain ⟨hx, hb, hml, hr, hown, hts, hlk, hnm, hK⟩ := id hC
  refine lv_fconst1 hx hb hd ?_
  have h9 := k l G p e s m args below meth c H locs ls hC hH hlw (List.forall_mem_cons.mpr ⟨gw_fl _, hsw⟩) hl hS hB
  rw [List.map_cons, gc_fl] at h9
  exact h9

theorem g_dconst0 {q0 : Nat} (hq0 : pc + 1 = q0) (hd : decode cc pc = .ok (.dconst 0, 1))
    (k : gA R y cc nL ret Q ck q0 lv ((3, gdb FP.dconst0) :: st) sh M) : gA R y cc nL ret Q ck pc lv st sh M := by
  subst hq0
  intro l G p e s m args below meth c H locs ls hC hH hlw hsw hl hS hB
  obtain ⟨hx, hb, hml, hr, hown, hts, hlk, hnm, hK⟩ := id hC
  refine lv_dconst0 hx hb hd ?_
  have h9 := k l G p e s m args below meth c H locs ls hC hH hlw (List.forall_mem_cons.mpr ⟨gw_db _, hsw⟩) hl hS hB
  rw [List.map_cons, gc_db] at h9
  exact h9

theorem g_dconst1 {q0 : Nat} (hq0 : pc + 1 = q0) (hd : decode cc pc = .ok (.dconst 1, 1))
    (k : gA R y cc nL ret Q ck q0 lv ((3, gdb FP.dconst1) :: st) sh M) : gA R y cc nL ret Q ck pc lv st sh M := by
  subst hq0
  intro l G p e s m args below meth c H locs ls hC hH hlw hsw hl hS hB
  obtain ⟨hx, hb, hml, hr, hown, hts, hlk, hnm, hK⟩ := id hC
  refine lv_dconst1 hx hb hd ?_
  have h9 := k l G p e s m args below meth c H locs ls hC hH hlw (List.forall_mem_cons.mpr ⟨gw_db _, hsw⟩) hl hS hB
  rw [List.map_cons, gc_db] at h9
  exact h9

theorem g_ldc {q0 : Nat} (hq0 : pc + 2 = q0) {n : Int} {idx : Nat} (hw : Cond.constant y.cls idx (Int32.ofInt n) ∈ gAll) (hd : decode cc pc = .ok (.ldc idx, 2)) (h1 : -2147483648 ≤ n := by decide) (h2 : n < 2147483648 := by decide)
    (k : gA R y cc nL ret Q ck q0 lv ((0, n) :: st) sh M) : gA R y cc nL ret Q ck pc lv st sh M := by
  subst hq0
  intro l G p e s m args below meth c H locs ls hC hH hlw hsw hl hS hB
  obtain ⟨hx, hb, hml, hr, hown, hts, hlk, hnm, hK⟩ := id hC
  refine lv_ldc (v := Int32.ofInt n) (own := y.cls) hx hb hown (hts _ hw) hd ?_
  exact k l G p e s m args below meth c H locs ls hC hH hlw (List.forall_mem_cons.mpr ⟨⟨h1, h2⟩, hsw⟩) hl hS hB

theorem g_ldcw {q0 : Nat} (hq0 : pc + 3 = q0) {n : Int} {idx : Nat} (hw : Cond.constant y.cls idx (Int32.ofInt n) ∈ gAll) (hd : decode cc pc = .ok (.ldc_w idx, 3)) (h1 : -2147483648 ≤ n := by decide) (h2 : n < 2147483648 := by decide)
    (k : gA R y cc nL ret Q ck q0 lv ((0, n) :: st) sh M) : gA R y cc nL ret Q ck pc lv st sh M := by
  subst hq0
  intro l G p e s m args below meth c H locs ls hC hH hlw hsw hl hS hB
  obtain ⟨hx, hb, hml, hr, hown, hts, hlk, hnm, hK⟩ := id hC
  refine lv_ldcw (v := Int32.ofInt n) (own := y.cls) hx hb hown (hts _ hw) hd ?_
  exact k l G p e s m args below meth c H locs ls hC hH hlw (List.forall_mem_cons.mpr ⟨⟨h1, h2⟩, hsw⟩) hl hS hB

theorem g_ldcf {q0 : Nat} (hq0 : pc + 2 = q0) {z : UInt32} {idx : Nat} (hw : Cond.constantFloat y.cls idx z ∈ gAll) (hd : decode cc pc = .ok (.ldc idx, 2))
    (k : gA R y cc nL ret Q ck q0 lv ((2, gfl z) :: st) sh M) : gA R y cc nL ret Q ck pc lv st sh M := by
  subst hq0
  intro l G p e s m args below meth c H locs ls hC hH hlw hsw hl hS hB
  obtain ⟨hx, hb, hml, hr, hown, hts, hlk, hnm, hK⟩ := id hC
  refine lv_ldcf (v := z) (own := y.cls) hx hb hown (hts _ hw) hd ?_
  have h9 := k l G p e s m args below meth c H locs ls hC hH hlw (List.forall_mem_cons.mpr ⟨gw_fl _, hsw⟩) hl hS hB
  rw [List.map_cons, gc_fl] at h9
  exact h9

theorem g_ldc2d {q0 : Nat} (hq0 : pc + 3 = q0) {z : UInt64} {idx : Nat} (hw : Cond.constantDouble y.cls idx z ∈ gAll) (hd : decode cc pc = .ok (.ldc2_w idx, 3))
    (k : gA R y cc nL ret Q ck q0 lv ((3, gdb z) :: st) sh M) : gA R y cc nL ret Q ck pc lv st sh M := by
  subst hq0
  intro l G p e s m args below meth c H locs ls hC hH hlw hsw hl hS hB
  obtain ⟨hx, hb, hml, hr, hown, hts, hlk, hnm, hK⟩ := id hC
  refine lv_ldc2d (v := z) (own := y.cls) hx hb hown (hts _ hw) hd ?_
  have h9 := k l G p e s m args below meth c H locs ls hC hH hlw (List.forall_mem_cons.mpr ⟨gw_db _, hsw⟩) hl hS hB
  rw [List.map_cons, gc_db] at h9
  exact h9

theorem g_ldc2 {q0 : Nat} (hq0 : pc + 3 = q0) {n : Int} {idx : Nat} (hw : Cond.constantLong y.cls idx (Int64.ofInt n) ∈ gAll) (hd : decode cc pc = .ok (.ldc2_w idx, 3)) (h1 : -9223372036854775808 ≤ n := by decide) (h2 : n < 9223372036854775808 := by decide)
    (k : gA R y cc nL ret Q ck q0 lv ((1, n) :: st) sh M) : gA R y cc nL ret Q ck pc lv st sh M := by
  subst hq0
  intro l G p e s m args below meth c H locs ls hC hH hlw hsw hl hS hB
  obtain ⟨hx, hb, hml, hr, hown, hts, hlk, hnm, hK⟩ := id hC
  refine lv_ldc2 (v := Int64.ofInt n) (own := y.cls) hx hb hown (hts _ hw) hd ?_
  exact k l G p e s m args below meth c H locs ls hC hH hlw (List.forall_mem_cons.mpr ⟨⟨h1, h2⟩, hsw⟩) hl hS hB

theorem g_iload_n {q0 : Nat} (hq0 : pc + 1 = q0) {j : Fin 4} {x : Int} (hd : decode cc pc = .ok (.iload_n j, 1)) (hv : lv[(j : Nat)]? = some (0, x))
    (k : gA R y cc nL ret Q ck q0 lv ((0, x) :: st) sh M) : gA R y cc nL ret Q ck pc lv st sh M := by
  subst hq0
  intro l G p e s m args below meth c H locs ls hC hH hlw hsw hl hS hB
  obtain ⟨hx, hb, hml, hr, hown, hts, hlk, hnm, hK⟩ := id hC
  refine lv_iload_n hx hb hd rfl (gL_at hl hv (Nat.ne_of_beq_eq_false rfl)) ?_
  exact k l G p e s m args below meth c H locs ls hC hH hlw (List.forall_mem_cons.mpr ⟨hlw _ (List.mem_of_getElem? hv), hsw⟩) hl hS hB

theorem g_iload {q0 : Nat} (hq0 : pc + 2 = q0) {j : Nat} {x : Int} (hd : decode cc pc = .ok (.iload j, 2)) (hv : lv[j]? = some (0, x))
    (k : gA R y cc nL ret Q ck q0 lv ((0, x) :: st) sh M) : gA R y cc nL ret Q ck pc lv st sh M := by
  subst hq0
  intro l G p e s m args below meth c H locs ls hC hH hlw hsw hl hS hB
  obtain ⟨hx, hb, hml, hr, hown, hts, hlk, hnm, hK⟩ := id hC
  refine lv_iload hx hb hd (gL_at hl hv (Nat.ne_of_beq_eq_false rfl)) ?_
  exact k l G p e s m args below meth c H locs ls hC hH hlw (List.forall_mem_cons.mpr ⟨hlw _ (List.mem_of_getElem? hv), hsw⟩) hl hS hB

theorem g_lload_n {q0 : Nat} (hq0 : pc + 1 = q0) {j : Fin 4} {x : Int} (hd : decode cc pc = .ok (.lload_n j, 1)) (hv : lv[(j : Nat)]? = some (1, x))
    (k : gA R y cc nL ret Q ck q0 lv ((1, x) :: st) sh M) : gA R y cc nL ret Q ck pc lv st sh M := by
  subst hq0
  intro l G p e s m args below meth c H locs ls hC hH hlw hsw hl hS hB
  obtain ⟨hx, hb, hml, hr, hown, hts, hlk, hnm, hK⟩ := id hC
  refine lv_lload_n hx hb hd rfl (gL_at hl hv (Nat.ne_of_beq_eq_false rfl)) ?_
  exact k l G p e s m args below meth c H locs ls hC hH hlw (List.forall_mem_cons.mpr ⟨hlw _ (List.mem_of_getElem? hv), hsw⟩) hl hS hB

theorem g_lload {q0 : Nat} (hq0 : pc + 2 = q0) {j : Nat} {x : Int} (hd : decode cc pc = .ok (.lload j, 2)) (hv : lv[j]? = some (1, x))
    (k : gA R y cc nL ret Q ck q0 lv ((1, x) :: st) sh M) : gA R y cc nL ret Q ck pc lv st sh M := by
  subst hq0
  intro l G p e s m args below meth c H locs ls hC hH hlw hsw hl hS hB
  obtain ⟨hx, hb, hml, hr, hown, hts, hlk, hnm, hK⟩ := id hC
  refine lv_lload hx hb hd (gL_at hl hv (Nat.ne_of_beq_eq_false rfl)) ?_
  exact k l G p e s m args below meth c H locs ls hC hH hlw (List.forall_mem_cons.mpr ⟨hlw _ (List.mem_of_getElem? hv), hsw⟩) hl hS hB

theorem g_fload_n {q0 : Nat} (hq0 : pc + 1 = q0) {j : Fin 4} {x : Int} (hd : decode cc pc = .ok (.fload_n j, 1)) (hv : lv[(j : Nat)]? = some (2, x))
    (k : gA R y cc nL ret Q ck q0 lv ((2, x) :: st) sh M) : gA R y cc nL ret Q ck pc lv st sh M := by
  subst hq0
  intro l G p e s m args below meth c H locs ls hC hH hlw hsw hl hS hB
  obtain ⟨hx, hb, hml, hr, hown, hts, hlk, hnm, hK⟩ := id hC
  refine lv_fload_n hx hb hd rfl (gL_at hl hv (Nat.ne_of_beq_eq_false rfl)) ?_
  exact k l G p e s m args below meth c H locs ls hC hH hlw (List.forall_mem_cons.mpr ⟨hlw _ (List.mem_of_getElem? hv), hsw⟩) hl hS hB

theorem g_fload {q0 : Nat} (hq0 : pc + 2 = q0) {j : Nat} {x : Int} (hd : decode cc pc = .ok (.fload j, 2)) (hv : lv[j]? = some (2, x))
    (k : gA R y cc nL ret Q ck q0 lv ((2, x) :: st) sh M) : gA R y cc nL ret Q ck pc lv st sh M := by
  subst hq0
  intro l G p e s m args below meth c H locs ls hC hH hlw hsw hl hS hB
  obtain ⟨hx, hb, hml, hr, hown, hts, hlk, hnm, hK⟩ := id hC
  refine lv_fload hx hb hd (gL_at hl hv (Nat.ne_of_beq_eq_false rfl)) ?_
  exact k l G p e s m args below meth c H locs ls hC hH hlw (List.forall_mem_cons.mpr ⟨hlw _ (List.mem_of_getElem? hv), hsw⟩) hl hS hB

theorem g_dload_n {q0 : Nat} (hq0 : pc + 1 = q0) {j : Fin 4} {x : Int} (hd : decode cc pc = .ok (.dload_n j, 1)) (hv : lv[(j : Nat)]? = some (3, x))
    (k : gA R y cc nL ret Q ck q0 lv ((3, x) :: st) sh M) : gA R y cc nL ret Q ck pc lv st sh M := by
  subst hq0
  intro l G p e s m args below meth c H locs ls hC hH hlw hsw hl hS hB
  obtain ⟨hx, hb, hml, hr, hown, hts, hlk, hnm, hK⟩ := id hC
  refine lv_dload_n hx hb hd rfl (gL_at hl hv (Nat.ne_of_beq_eq_false rfl)) ?_
  exact k l G p e s m args below meth c H locs ls hC hH hlw (List.forall_mem_cons.mpr ⟨hlw _ (List.mem_of_getElem? hv), hsw⟩) hl hS hB

theorem g_dload {q0 : Nat} (hq0 : pc + 2 = q0) {j : Nat} {x : Int} (hd : decode cc pc = .ok (.dload j, 2)) (hv : lv[j]? = some (3, x))
    (k : gA R y cc nL ret Q ck q0 lv ((3, x) :: st) sh M) : gA R y cc nL ret Q ck pc lv st sh M := by
  subst hq0
  intro l G p e s m args below meth c H locs ls hC hH hlw hsw hl hS hB
  obtain ⟨hx, hb, hml, hr, hown, hts, hlk, hnm, hK⟩ := id hC
  refine lv_dload hx hb hd (gL_at hl hv (Nat.ne_of_beq_eq_false rfl)) ?_
  exact k l G p e s m args below meth c H locs ls hC hH hlw (List.forall_mem_cons.mpr ⟨hlw _ (List.mem_of_getElem? hv), hsw⟩) hl hS hB

theorem g_aload_n {q0 : Nat} (hq0 : pc + 1 = q0) {j : Fin 4} {x : Int} (hd : decode cc pc = .ok (.aload_n j, 1)) (hv : lv[(j : Nat)]? = some (4, x))
    (k : gA R y cc nL ret Q ck q0 lv ((4, x) :: st) sh M) : gA R y cc nL ret Q ck pc lv st sh M := by
  subst hq0
  intro l G p e s m args below meth c H locs ls hC hH hlw hsw hl hS hB
  obtain ⟨hx, hb, hml, hr, hown, hts, hlk, hnm, hK⟩ := id hC
  have h8 := gL_at hl hv (Nat.ne_of_beq_eq_false rfl)
  have h9 := k l G p e s m args below meth c H locs ls hC hH hlw (List.forall_mem_cons.mpr ⟨trivial, hsw⟩) hl hS hB
  rw [List.map_cons] at h9
  by_cases hx0 : 0 ≤ x
  · rw [gc_ref G hx0] at h8 h9
    exact lv_aload_n hx hb hd rfl h8 h9
  · rw [gc_null G (Int.not_le.mp hx0)] at h8 h9
    exact lv_aload_nN hx hb hd rfl h8 h9

theorem g_aload5_n {q0 : Nat} (hq0 : pc + 1 = q0) {j : Fin 4} {x : Int} (hd : decode cc pc = .ok (.aload_n j, 1)) (hv : lv[(j : Nat)]? = some (5, x))
    (k : gA R y cc nL ret Q ck q0 lv ((5, x) :: st) sh M) : gA R y cc nL ret Q ck pc lv st sh M := by
  subst hq0
  intro l G p e s m args below meth c H locs ls hC hH hlw hsw hl hS hB
  obtain ⟨hx, hb, hml, hr, hown, hts, hlk, hnm, hK⟩ := id hC
  have h8 := gL_at hl hv (Nat.ne_of_beq_eq_false rfl)
  have h9 := k l G p e s m args below meth c H locs ls hC hH hlw (List.forall_mem_cons.mpr ⟨trivial, hsw⟩) hl hS hB
  rw [List.map_cons] at h9
  have e0 : gc G (5, x) = va_rf (G.2.2.2 x.toNat) := rfl
  rw [e0] at h8 h9
  cases hq : G.2.2.2 x.toNat with
  | none =>
    rw [hq] at h8 h9
    exact lv_aload_nN hx hb hd rfl h8 h9
  | some q =>
    rw [hq] at h8 h9
    exact lv_aload_n hx hb hd rfl h8 h9

theorem g_aload {q0 : Nat} (hq0 : pc + 2 = q0) {j : Nat} {x : Int} (hd : decode cc pc = .ok (.aload j, 2)) (hv : lv[j]? = some (4, x))
    (k : gA R y cc nL ret Q ck q0 lv ((4, x) :: st) sh M) : gA R y cc nL ret Q ck pc lv st sh M := by
  subst hq0
  intro l G p e s m args below meth c H locs ls hC hH hlw hsw hl hS hB
  obtain ⟨hx, hb, hml, hr, hown, hts, hlk, hnm, hK⟩ := id hC
  have h8 := gL_at hl hv (Nat.ne_of_beq_eq_false rfl)
  have h9 := k l G p e s m args below meth c H locs ls hC hH hlw (List.forall_mem_cons.mpr ⟨trivial, hsw⟩) hl hS hB
  rw [List.map_cons] at h9
  by_cases hx0 : 0 ≤ x
  · rw [gc_ref G hx0] at h8 h9
    exact lv_aload hx hb hd h8 h9
  · rw [gc_null G (Int.not_le.mp hx0)] at h8 h9
    exact lv_aloadN hx hb hd h8 h9

theorem g_aload5 {q0 : Nat} (hq0 : pc + 2 = q0) {j : Nat} {x : Int} (hd : decode cc pc = .ok (.aload j, 2)) (hv : lv[j]? = some (5, x))
    (k : gA R y cc nL ret Q ck q0 lv ((5, x) :: st) sh M) : gA R y cc nL ret Q ck pc lv st sh M := by
  subst hq0
  intro l G p e s m args below meth c H locs ls hC hH hlw hsw hl hS hB
  obtain ⟨hx, hb, hml, hr, hown, hts, hlk, hnm, hK⟩ := id hC
  have h8 := gL_at hl hv (Nat.ne_of_beq_eq_false rfl)
  have h9 := k l G p e s m args below meth c H locs ls hC hH hlw (List.forall_mem_cons.mpr ⟨trivial, hsw⟩) hl hS hB
  rw [List.map_cons] at h9
  have e0 : gc G (5, x) = va_rf (G.2.2.2 x.toNat) := rfl
  rw [e0] at h8 h9
  cases hq : G.2.2.2 x.toNat with
  | none =>
    rw [hq] at h8 h9
    exact lv_aloadN hx hb hd h8 h9
  | some q =>
    rw [hq] at h8 h9
    exact lv_aload hx hb hd h8 h9

theorem g_istore_n {q0 : Nat} (hq0 : pc + 1 = q0) {j : Fin 4} {x : Int} {lv2 : List gV} (hd : decode cc pc = .ok (.istore_n j, 1)) (hn : (j : Nat) < nL) (ho : gOk lv (j : Nat) = true) (he : lv.set (j : Nat) (0, x) = lv2)
    (k : gA R y cc nL ret Q ck q0 lv2 st sh M) : gA R y cc nL ret Q ck pc lv ((0, x) :: st) sh M := by
  subst hq0
  intro l G p e s m args below meth c H locs ls hC hH hlw hsw hl hS hB
  obtain ⟨hx, hb, hml, hr, hown, hts, hlk, hnm, hK⟩ := id hC
  refine lv_istore_n hx hb hd rfl hl hn rfl (fun ls2 hl2 => ?_)
  subst he
  exact k l G p e s m args below meth c H locs ls2 hC hH (gw_set hlw (List.forall_mem_cons.mp hsw).1) (List.forall_mem_cons.mp hsw).2 (gL_set ho hl2) hS hB

theorem g_istore {q0 : Nat} (hq0 : pc + 2 = q0) {j : Nat} {x : Int} {lv2 : List gV} (hd : decode cc pc = .ok (.istore j, 2)) (hn : j < nL) (ho : gOk lv j = true) (he : lv.set j (0, x) = lv2)
    (k : gA R y cc nL ret Q ck q0 lv2 st sh M) : gA R y cc nL ret Q ck pc lv ((0, x) :: st) sh M := by
  subst hq0
  intro l G p e s m args below meth c H locs ls hC hH hlw hsw hl hS hB
  obtain ⟨hx, hb, hml, hr, hown, hts, hlk, hnm, hK⟩ := id hC
  refine lv_istore hx hb hd hl hn rfl (fun ls2 hl2 => ?_)
  subst he
  exact k l G p e s m args below meth c H locs ls2 hC hH (gw_set hlw (List.forall_mem_cons.mp hsw).1) (List.forall_mem_cons.mp hsw).2 (gL_set ho hl2) hS hB

theorem g_fstore_n {q0 : Nat} (hq0 : pc + 1 = q0) {j : Fin 4} {x : Int} {lv2 : List gV} (hd : decode cc pc = .ok (.fstore_n j, 1)) (hn : (j : Nat) < nL) (ho : gOk lv (j : Nat) = true) (he : lv.set (j : Nat) (2, x) = lv2)
    (k : gA R y cc nL ret Q ck q0 lv2 st sh M) : gA R y cc nL ret Q ck pc lv ((2, x) :: st) sh M := by
  subst hq0
  intro l G p e s m args below meth c H locs ls hC hH hlw hsw hl hS hB
  obtain ⟨hx, hb, hml, hr, hown, hts, hlk, hnm, hK⟩ := id hC
  refine lv_fstore_n hx hb hd rfl hl hn rfl (fun ls2 hl2 => ?_)
  subst he
  exact k l G p e s m args below meth c H locs ls2 hC hH (gw_set hlw (List.forall_mem_cons.mp hsw).1) (List.forall_mem_cons.mp hsw).2 (gL_set ho hl2) hS hB

theorem g_fstore {q0 : Nat} (hq0 : pc + 2 = q0) {j : Nat} {x : Int} {lv2 : List gV} (hd : decode cc pc = .ok (.fstore j, 2)) (hn : j < nL) (ho : gOk lv j = true) (he : lv.set j (2, x) = lv2)
    (k : gA R y cc nL ret Q ck q0 lv2 st sh M) : gA R y cc nL ret Q ck pc lv ((2, x) :: st) sh M := by
  subst hq0
  intro l G p e s m args below meth c H locs ls hC hH hlw hsw hl hS hB
  obtain ⟨hx, hb, hml, hr, hown, hts, hlk, hnm, hK⟩ := id hC
  refine lv_fstore hx hb hd hl hn rfl (fun ls2 hl2 => ?_)
  subst he
  exact k l G p e s m args below meth c H locs ls2 hC hH (gw_set hlw (List.forall_mem_cons.mp hsw).1) (List.forall_mem_cons.mp hsw).2 (gL_set ho hl2) hS hB

theorem g_lstore_n {q0 : Nat} (hq0 : pc + 1 = q0) {j : Fin 4} {x : Int} {lv2 : List gV} (hd : decode cc pc = .ok (.lstore_n j, 1)) (hn : (j : Nat) + 1 < nL) (ho : gOk lv (j : Nat) = true) (he : (lv.set (j : Nat) (1, x)).set ((j : Nat) + 1) (9, 0) = lv2)
    (k : gA R y cc nL ret Q ck q0 lv2 st sh M) : gA R y cc nL ret Q ck pc lv ((1, x) :: st) sh M := by
  subst hq0
  intro l G p e s m args below meth c H locs ls hC hH hlw hsw hl hS hB
  obtain ⟨hx, hb, hml, hr, hown, hts, hlk, hnm, hK⟩ := id hC
  refine lv_lstore_n hx hb hd rfl hl hn rfl (fun ls2 hl2 => ?_)
  subst he
  exact k l G p e s m args below meth c H locs ls2 hC hH (gw_set (gw_set hlw (List.forall_mem_cons.mp hsw).1) trivial) (List.forall_mem_cons.mp hsw).2 (gL_set2 ho hl2) hS hB

theorem g_lstore {q0 : Nat} (hq0 : pc + 2 = q0) {j : Nat} {x : Int} {lv2 : List gV} (hd : decode cc pc = .ok (.lstore j, 2)) (hn : j + 1 < nL) (ho : gOk lv j = true) (he : (lv.set j (1, x)).set (j + 1) (9, 0) = lv2)
    (k : gA R y cc nL ret Q ck q0 lv2 st sh M) : gA R y cc nL ret Q ck pc lv ((1, x) :: st) sh M := by
  subst hq0
  intro l G p e s m args below meth c H locs ls hC hH hlw hsw hl hS hB
  obtain ⟨hx, hb, hml, hr, hown, hts, hlk, hnm, hK⟩ := id hC
  refine lv_lstore hx hb hd hl hn rfl (fun ls2 hl2 => ?_)
  subst he
  exact k l G p e s m args below meth c H locs ls2 hC hH (gw_set (gw_set hlw (List.forall_mem_cons.mp hsw).1) trivial) (List.forall_mem_cons.mp hsw).2 (gL_set2 ho hl2) hS hB

theorem g_dstore_n {q0 : Nat} (hq0 : pc + 1 = q0) {j : Fin 4} {x : Int} {lv2 : List gV} (hd : decode cc pc = .ok (.dstore_n j, 1)) (hn : (j : Nat) + 1 < nL) (ho : gOk lv (j : Nat) = true) (he : (lv.set (j : Nat) (3, x)).set ((j : Nat) + 1) (9, 0) = lv2)
    (k : gA R y cc nL ret Q ck q0 lv2 st sh M) : gA R y cc nL ret Q ck pc lv ((3, x) :: st) sh M := by
  subst hq0
  intro l G p e s m args below meth c H locs ls hC hH hlw hsw hl hS hB
  obtain ⟨hx, hb, hml, hr, hown, hts, hlk, hnm, hK⟩ := id hC
  refine lv_dstore_n hx hb hd rfl hl hn rfl (fun ls2 hl2 => ?_)
  subst he
  exact k l G p e s m args below meth c H locs ls2 hC hH (gw_set (gw_set hlw (List.forall_mem_cons.mp hsw).1) trivial) (List.forall_mem_cons.mp hsw).2 (gL_set2 ho hl2) hS hB

theorem g_dstore {q0 : Nat} (hq0 : pc + 2 = q0) {j : Nat} {x : Int} {lv2 : List gV} (hd : decode cc pc = .ok (.dstore j, 2)) (hn : j + 1 < nL) (ho : gOk lv j = true) (he : (lv.set j (3, x)).set (j + 1) (9, 0) = lv2)
    (k : gA R y cc nL ret Q ck q0 lv2 st sh M) : gA R y cc nL ret Q ck pc lv ((3, x) :: st) sh M := by
  subst hq0
  intro l G p e s m args below meth c H locs ls hC hH hlw hsw hl hS hB
  obtain ⟨hx, hb, hml, hr, hown, hts, hlk, hnm, hK⟩ := id hC
  refine lv_dstore hx hb hd hl hn rfl (fun ls2 hl2 => ?_)
  subst he
  exact k l G p e s m args below meth c H locs ls2 hC hH (gw_set (gw_set hlw (List.forall_mem_cons.mp hsw).1) trivial) (List.forall_mem_cons.mp hsw).2 (gL_set2 ho hl2) hS hB

theorem g_astore_n {q0 : Nat} (hq0 : pc + 1 = q0) {j : Fin 4} {x : Int} {lv2 : List gV} (hd : decode cc pc = .ok (.astore_n j, 1)) (hn : (j : Nat) < nL) (ho : gOk lv (j : Nat) = true) (he : lv.set (j : Nat) (4, x) = lv2)
    (k : gA R y cc nL ret Q ck q0 lv2 st sh M) : gA R y cc nL ret Q ck pc lv ((4, x) :: st) sh M := by
  subst hq0
  intro l G p e s m args below meth c H locs ls hC hH hlw hsw hl hS hB
  obtain ⟨hx, hb, hml, hr, hown, hts, hlk, hnm, hK⟩ := id hC
  subst he
  rw [List.map_cons]
  by_cases hx0 : 0 ≤ x
  · rw [gc_ref G hx0]
    refine lv_astore_n hx hb hd rfl hl hn rfl (fun ls2 hl2 => ?_)
    rw [← gc_ref G hx0] at hl2
    exact k l G p e s m args below meth c H locs ls2 hC hH (gw_set hlw (List.forall_mem_cons.mp hsw).1) (List.forall_mem_cons.mp hsw).2 (gL_set ho hl2) hS hB
  · rw [gc_null G (Int.not_le.mp hx0)]
    refine lv_astore_nN hx hb hd rfl hl hn rfl (fun ls2 hl2 => ?_)
    rw [← gc_null G (Int.not_le.mp hx0)] at hl2
    exact k l G p e s m args below meth c H locs ls2 hC hH (gw_set hlw (List.forall_mem_cons.mp hsw).1) (List.forall_mem_cons.mp hsw).2 (gL_set ho hl2) hS hB

theorem g_astore {q0 : Nat} (hq0 : pc + 2 = q0) {j : Nat} {x : Int} {lv2 : List gV} (hd : decode cc pc = .ok (.astore j, 2)) (hn : j < nL) (ho : gOk lv j = true) (he : lv.set j (4, x) = lv2)
    (k : gA R y cc nL ret Q ck q0 lv2 st sh M) : gA R y cc nL ret Q ck pc lv ((4, x) :: st) sh M := by
  subst hq0
  intro l G p e s m args below meth c H locs ls hC hH hlw hsw hl hS hB
  obtain ⟨hx, hb, hml, hr, hown, hts, hlk, hnm, hK⟩ := id hC
  subst he
  rw [List.map_cons]
  by_cases hx0 : 0 ≤ x
  · rw [gc_ref G hx0]
    refine lv_astore hx hb hd hl hn rfl (fun ls2 hl2 => ?_)
    rw [← gc_ref G hx0] at hl2
    exact k l G p e s m args below meth c H locs ls2 hC hH (gw_set hlw (List.forall_mem_cons.mp hsw).1) (List.forall_mem_cons.mp hsw).2 (gL_set ho hl2) hS hB
  · rw [gc_null G (Int.not_le.mp hx0)]
    refine lv_astoreN hx hb hd hl hn rfl (fun ls2 hl2 => ?_)
    rw [← gc_null G (Int.not_le.mp hx0)] at hl2
    exact k l G p e s m args below meth c H locs ls2 hC hH (gw_set hlw (List.forall_mem_cons.mp hsw).1) (List.forall_mem_cons.mp hsw).2 (gL_set ho hl2) hS hB

theorem g_iinc {q0 : Nat} (hq0 : pc + 3 = q0) {j : Nat} {x n : Int} {lv2 : List gV} (hd : decode cc pc = .ok (.iinc j n, 3)) (hv : lv[j]? = some (0, x)) (hn : j < nL) (ho : gOk lv j = true) (he : lv.set j (0, x + n) = lv2) (h1 : -2147483648 ≤ x + n) (h2 : x + n < 2147483648)
    (k : gA R y cc nL ret Q ck q0 lv2 st sh M) : gA R y cc nL ret Q ck pc lv st sh M := by
  subst hq0
  intro l G p e s m args below meth c H locs ls hC hH hlw hsw hl hS hB
  obtain ⟨hx, hb, hml, hr, hown, hts, hlk, hnm, hK⟩ := id hC
  obtain ⟨q, hq⟩ := gL_get (G := G) hv (Nat.ne_of_beq_eq_false rfl)
  refine lv_iinc (v := Int32.ofInt (x + n)) hx hb hd hl hq (Int32.ofInt_add x n).symm hn rfl (fun ls2 hl2 => ?_)
  subst he
  exact k l G p e s m args below meth c H locs ls2 hC hH (gw_set hlw ⟨h1, h2⟩) hsw (gL_set ho hl2) hS hB

theorem g_dup {q0 : Nat} (hq0 : pc + 1 = q0) {v : gV} (hd : decode cc pc = .ok (.dup, 1)) (h1 : v.1 ≠ 1 := by exact Nat.ne_of_beq_eq_false rfl) (h3 : v.1 ≠ 3 := by exact Nat.ne_of_beq_eq_false rfl)
    (k : gA R y cc nL ret Q ck q0 lv (v :: v :: st) sh M) : gA R y cc nL ret Q ck pc lv (v :: st) sh M := by
  subst hq0
  intro l G p e s m args below meth c H locs ls hC hH hlw hsw hl hS hB
  obtain ⟨hx, hb, hml, hr, hown, hts, hlk, hnm, hK⟩ := id hC
  refine lv_dup hx hb hd (gc_cat1 h1 h3) ?_
  exact k l G p e s m args below meth c H locs ls hC hH hlw (List.forall_mem_cons.mpr ⟨(List.forall_mem_cons.mp hsw).1, hsw⟩) hl hS hB

theorem g_pop {q0 : Nat} (hq0 : pc + 1 = q0) {v : gV} (hd : decode cc pc = .ok (.pop, 1)) (h1 : v.1 ≠ 1 := by exact Nat.ne_of_beq_eq_false rfl) (h3 : v.1 ≠ 3 := by exact Nat.ne_of_beq_eq_false rfl)
    (k : gA R y cc nL ret Q ck q0 lv st sh M) : gA R y cc nL ret Q ck pc lv (v :: st) sh M := by
  subst hq0
  intro l G p e s m args below meth c H locs ls hC hH hlw hsw hl hS hB
  obtain ⟨hx, hb, hml, hr, hown, hts, hlk, hnm, hK⟩ := id hC
  refine lv_pop hx hb hd (gc_cat1 h1 h3) ?_
  exact k l G p e s m args below meth c H locs ls hC hH hlw (List.forall_mem_cons.mp hsw).2 hl hS hB

theorem g_dup2 {q0 : Nat} (hq0 : pc + 1 = q0) {v w : gV} (hd : decode cc pc = .ok (.dup2, 1)) (h1 : v.1 ≠ 1 := by exact Nat.ne_of_beq_eq_false rfl) (h3 : v.1 ≠ 3 := by exact Nat.ne_of_beq_eq_false rfl) (h4 : w.1 ≠ 1 := by exact Nat.ne_of_beq_eq_false rfl) (h5 : w.1 ≠ 3 := by exact Nat.ne_of_beq_eq_false rfl)
    (k : gA R y cc nL ret Q ck q0 lv (v :: w :: v :: w :: st) sh M) : gA R y cc nL ret Q ck pc lv (v :: w :: st) sh M := by
  subst hq0
  intro l G p e s m args below meth c H locs ls hC hH hlw hsw hl hS hB
  obtain ⟨hx, hb, hml, hr, hown, hts, hlk, hnm, hK⟩ := id hC
  refine lv_dup2_11 hx hb hd (gc_cat1 h1 h3) (gc_cat1 h4 h5) ?_
  exact k l G p e s m args below meth c H locs ls hC hH hlw (List.forall_mem_cons.mpr ⟨(List.forall_mem_cons.mp hsw).1, List.forall_mem_cons.mpr ⟨(List.forall_mem_cons.mp (List.forall_mem_cons.mp hsw).2).1, hsw⟩⟩) hl hS hB

theorem g_dup_x1 {q0 : Nat} (hq0 : pc + 1 = q0) {v w : gV} (hd : decode cc pc = .ok (.dup_x1, 1)) (h1 : v.1 ≠ 1 := by exact Nat.ne_of_beq_eq_false rfl) (h3 : v.1 ≠ 3 := by exact Nat.ne_of_beq_eq_false rfl) (h4 : w.1 ≠ 1 := by exact Nat.ne_of_beq_eq_false rfl) (h5 : w.1 ≠ 3 := by exact Nat.ne_of_beq_eq_false rfl)
    (k : gA R y cc nL ret Q ck q0 lv (v :: w :: v :: st) sh M) : gA R y cc nL ret Q ck pc lv (v :: w :: st) sh M := by
  subst hq0
  intro l G p e s m args below meth c H locs ls hC hH hlw hsw hl hS hB
  obtain ⟨hx, hb, hml, hr, hown, hts, hlk, hnm, hK⟩ := id hC
  obtain ⟨hv, hsw2⟩ := List.forall_mem_cons.mp hsw
  obtain ⟨hw, hsw3⟩ := List.forall_mem_cons.mp hsw2
  refine lv_dup_x1 hx hb hd (gc_cat1 h1 h3) (gc_cat1 h4 h5) ?_
  exact k l G p e s m args below meth c H locs ls hC hH hlw (List.forall_mem_cons.mpr ⟨hv, List.forall_mem_cons.mpr ⟨hw, List.forall_mem_cons.mpr ⟨hv, hsw3⟩⟩⟩) hl hS hB

theorem g_iadd {q0 : Nat} (hq0 : pc + 1 = q0) {a b : Int} (hd : decode cc pc = .ok (.iadd, 1)) (h1 : -2147483648 ≤ a + b) (h2 : a + b < 2147483648)
    (k : gA R y cc nL ret Q ck q0 lv ((0, a + b) :: st) sh M) : gA R y cc nL ret Q ck pc lv ((0, b) :: (0, a) :: st) sh M := by
  subst hq0
  intro l G p e s m args below meth c H locs ls hC hH hlw hsw hl hS hB
  obtain ⟨hx, hb, hml, hr, hown, hts, hlk, hnm, hK⟩ := id hC
  obtain ⟨hb2, hsw2⟩ := List.forall_mem_cons.mp hsw
  obtain ⟨ha2, hsw3⟩ := List.forall_mem_cons.mp hsw2
  refine lv_iadd hx hb hd ?_
  have h9 := k l G p e s m args below meth c H locs ls hC hH hlw (List.forall_mem_cons.mpr ⟨⟨h1, h2⟩, hsw3⟩) hl hS hB
  rw [List.map_cons, show gc G (0, a + b) = .int (Int32.ofInt (a + b)) from rfl, Int32.ofInt_add] at h9
  exact h9

theorem g_isub {q0 : Nat} (hq0 : pc + 1 = q0) {a b : Int} (hd : decode cc pc = .ok (.isub, 1)) (h1 : -2147483648 ≤ a - b) (h2 : a - b < 2147483648)
    (k : gA R y cc nL ret Q ck q0 lv ((0, a - b) :: st) sh M) : gA R y cc nL ret Q ck pc lv ((0, b) :: (0, a) :: st) sh M := by
  subst hq0
  intro l G p e s m args below meth c H locs ls hC hH hlw hsw hl hS hB
  obtain ⟨hx, hb, hml, hr, hown, hts, hlk, hnm, hK⟩ := id hC
  obtain ⟨hb2, hsw2⟩ := List.forall_mem_cons.mp hsw
  obtain ⟨ha2, hsw3⟩ := List.forall_mem_cons.mp hsw2
  refine lv_isub hx hb hd ?_
  have h9 := k l G p e s m args below meth c H locs ls hC hH hlw (List.forall_mem_cons.mpr ⟨⟨h1, h2⟩, hsw3⟩) hl hS hB
  rw [List.map_cons, show gc G (0, a - b) = .int (Int32.ofInt (a - b)) from rfl, Int32.ofInt_sub] at h9
  exact h9

theorem g_imul {q0 : Nat} (hq0 : pc + 1 = q0) {a b : Int} (hd : decode cc pc = .ok (.imul, 1)) (h1 : -2147483648 ≤ a * b) (h2 : a * b < 2147483648)
    (k : gA R y cc nL ret Q ck q0 lv ((0, a * b) :: st) sh M) : gA R y cc nL ret Q ck pc lv ((0, b) :: (0, a) :: st) sh M := by
  subst hq0
  intro l G p e s m args below meth c H locs ls hC hH hlw hsw hl hS hB
  obtain ⟨hx, hb, hml, hr, hown, hts, hlk, hnm, hK⟩ := id hC
  obtain ⟨hb2, hsw2⟩ := List.forall_mem_cons.mp hsw
  obtain ⟨ha2, hsw3⟩ := List.forall_mem_cons.mp hsw2
  refine lv_imul hx hb hd ?_
  have h9 := k l G p e s m args below meth c H locs ls hC hH hlw (List.forall_mem_cons.mpr ⟨⟨h1, h2⟩, hsw3⟩) hl hS hB
  rw [List.map_cons, show gc G (0, a * b) = .int (Int32.ofInt (a * b)) from rfl, Int32.ofInt_mul] at h9
  exact h9

theorem g_iand {q0 : Nat} (hq0 : pc + 1 = q0) {a b : Int} (hd : decode cc pc = .ok (.iand, 1))
    (k : gA R y cc nL ret Q ck q0 lv ((0, gand a b) :: st) sh M) : gA R y cc nL ret Q ck pc lv ((0, b) :: (0, a) :: st) sh M := by
  subst hq0
  intro l G p e s m args below meth c H locs ls hC hH hlw hsw hl hS hB
  obtain ⟨hx, hb, hml, hr, hown, hts, hlk, hnm, hK⟩ := id hC
  obtain ⟨hb2, hsw2⟩ := List.forall_mem_cons.mp hsw
  obtain ⟨ha2, hsw3⟩ := List.forall_mem_cons.mp hsw2
  refine lv_iand hx hb hd ?_
  have h9 := k l G p e s m args below meth c H locs ls hC hH hlw (List.forall_mem_cons.mpr ⟨gw_to _, hsw3⟩) hl hS hB
  rw [List.map_cons, show gc G (0, gand a b) = .int (Int32.ofInt (gand a b)) from rfl, gand, Int32.ofInt_toInt] at h9
  exact h9

theorem g_ior {q0 : Nat} (hq0 : pc + 1 = q0) {a b : Int} (hd : decode cc pc = .ok (.ior, 1))
    (k : gA R y cc nL ret Q ck q0 lv ((0, gor a b) :: st) sh M) : gA R y cc nL ret Q ck pc lv ((0, b) :: (0, a) :: st) sh M := by
  subst hq0
  intro l G p e s m args below meth c H locs ls hC hH hlw hsw hl hS hB
  obtain ⟨hx, hb, hml, hr, hown, hts, hlk, hnm, hK⟩ := id hC
  obtain ⟨hb2, hsw2⟩ := List.forall_mem_cons.mp hsw
  obtain ⟨ha2, hsw3⟩ := List.forall_mem_cons.mp hsw2
  refine lv_ior hx hb hd ?_
  have h9 := k l G p e s m args below meth c H locs ls hC hH hlw (List.forall_mem_cons.mpr ⟨gw_to _, hsw3⟩) hl hS hB
  rw [List.map_cons, show gc G (0, gor a b) = .int (Int32.ofInt (gor a b)) from rfl, gor, Int32.ofInt_toInt] at h9
  exact h9

theorem g_ishl {q0 : Nat} (hq0 : pc + 1 = q0) {a b : Int} (hd : decode cc pc = .ok (.ishl, 1))
    (k : gA R y cc nL ret Q ck q0 lv ((0, gshl a b) :: st) sh M) : gA R y cc nL ret Q ck pc lv ((0, b) :: (0, a) :: st) sh M := by
  subst hq0
  intro l G p e s m args below meth c H locs ls hC hH hlw hsw hl hS hB
  obtain ⟨hx, hb, hml, hr, hown, hts, hlk, hnm, hK⟩ := id hC
  obtain ⟨hb2, hsw2⟩ := List.forall_mem_cons.mp hsw
  obtain ⟨ha2, hsw3⟩ := List.forall_mem_cons.mp hsw2
  refine lv_ishl hx hb hd ?_
  have h9 := k l G p e s m args below meth c H locs ls hC hH hlw (List.forall_mem_cons.mpr ⟨gw_to _, hsw3⟩) hl hS hB
  rw [List.map_cons, show gc G (0, gshl a b) = .int (Int32.ofInt (gshl a b)) from rfl, gshl, Int32.ofInt_toInt] at h9
  exact h9

theorem g_ishr {q0 : Nat} (hq0 : pc + 1 = q0) {a b : Int} (hd : decode cc pc = .ok (.ishr, 1))
    (k : gA R y cc nL ret Q ck q0 lv ((0, gshr a b) :: st) sh M) : gA R y cc nL ret Q ck pc lv ((0, b) :: (0, a) :: st) sh M := by
  subst hq0
  intro l G p e s m args below meth c H locs ls hC hH hlw hsw hl hS hB
  obtain ⟨hx, hb, hml, hr, hown, hts, hlk, hnm, hK⟩ := id hC
  obtain ⟨hb2, hsw2⟩ := List.forall_mem_cons.mp hsw
  obtain ⟨ha2, hsw3⟩ := List.forall_mem_cons.mp hsw2
  refine lv_ishr hx hb hd ?_
  have h9 := k l G p e s m args below meth c H locs ls hC hH hlw (List.forall_mem_cons.mpr ⟨gw_to _, hsw3⟩) hl hS hB
  rw [List.map_cons, show gc G (0, gshr a b) = .int (Int32.ofInt (gshr a b)) from rfl, gshr, Int32.ofInt_toInt] at h9
  exact h9

theorem g_iushr {q0 : Nat} (hq0 : pc + 1 = q0) {a b : Int} (hd : decode cc pc = .ok (.iushr, 1))
    (k : gA R y cc nL ret Q ck q0 lv ((0, gushr a b) :: st) sh M) : gA R y cc nL ret Q ck pc lv ((0, b) :: (0, a) :: st) sh M := by
  subst hq0
  intro l G p e s m args below meth c H locs ls hC hH hlw hsw hl hS hB
  obtain ⟨hx, hb, hml, hr, hown, hts, hlk, hnm, hK⟩ := id hC
  obtain ⟨hb2, hsw2⟩ := List.forall_mem_cons.mp hsw
  obtain ⟨ha2, hsw3⟩ := List.forall_mem_cons.mp hsw2
  refine lv_iushr hx hb hd rfl ?_
  have h9 := k l G p e s m args below meth c H locs ls hC hH hlw (List.forall_mem_cons.mpr ⟨gw_to _, hsw3⟩) hl hS hB
  rw [List.map_cons, show gc G (0, gushr a b) = .int (Int32.ofInt (gushr a b)) from rfl, gushr, Int32.ofInt_toInt] at h9
  exact h9

theorem g_idiv {q0 : Nat} (hq0 : pc + 1 = q0) {a b : Int} (hd : decode cc pc = .ok (.idiv, 1)) (hne : b ≠ 0)
    (k : gA R y cc nL ret Q ck q0 lv ((0, gdiv a b) :: st) sh M) : gA R y cc nL ret Q ck pc lv ((0, b) :: (0, a) :: st) sh M := by
  subst hq0
  intro l G p e s m args below meth c H locs ls hC hH hlw hsw hl hS hB
  obtain ⟨hx, hb, hml, hr, hown, hts, hlk, hnm, hK⟩ := id hC
  obtain ⟨hb2, hsw2⟩ := List.forall_mem_cons.mp hsw
  obtain ⟨ha2, hsw3⟩ := List.forall_mem_cons.mp hsw2
  refine lv_idiv hx hb hd (fun q => hne ((gi_eq hb2 gw0).mp q)) ?_
  have h9 := k l G p e s m args below meth c H locs ls hC hH hlw (List.forall_mem_cons.mpr ⟨gw_to _, hsw3⟩) hl hS hB
  rw [List.map_cons, show gc G (0, gdiv a b) = .int (Int32.ofInt (gdiv a b)) from rfl, gdiv, Int32.ofInt_toInt] at h9
  exact h9

theorem g_irem {q0 : Nat} (hq0 : pc + 1 = q0) {a b : Int} (hd : decode cc pc = .ok (.irem, 1)) (hne : b ≠ 0)
    (k : gA R y cc nL ret Q ck q0 lv ((0, grem a b) :: st) sh M) : gA R y cc nL ret Q ck pc lv ((0, b) :: (0, a) :: st) sh M := by
  subst hq0
  intro l G p e s m args below meth c H locs ls hC hH hlw hsw hl hS hB
  obtain ⟨hx, hb, hml, hr, hown, hts, hlk, hnm, hK⟩ := id hC
  obtain ⟨hb2, hsw2⟩ := List.forall_mem_cons.mp hsw
  obtain ⟨ha2, hsw3⟩ := List.forall_mem_cons.mp hsw2
  refine lv_irem hx hb hd (fun q => hne ((gi_eq hb2 gw0).mp q)) ?_
  have h9 := k l G p e s m args below meth c H locs ls hC hH hlw (List.forall_mem_cons.mpr ⟨gw_to _, hsw3⟩) hl hS hB
  rw [List.map_cons, show gc G (0, grem a b) = .int (Int32.ofInt (grem a b)) from rfl, grem, Int32.ofInt_toInt] at h9
  exact h9

theorem g_i2b {q0 : Nat} (hq0 : pc + 1 = q0) {a : Int} (hd : decode cc pc = .ok (.i2b, 1))
    (k : gA R y cc nL ret Q ck q0 lv ((0, gi2b a) :: st) sh M) : gA R y cc nL ret Q ck pc lv ((0, a) :: st) sh M := by
  subst hq0
  intro l G p e s m args below meth c H locs ls hC hH hlw hsw hl hS hB
  obtain ⟨hx, hb, hml, hr, hown, hts, hlk, hnm, hK⟩ := id hC
  refine lv_i2b hx hb hd rfl ?_
  have h9 := k l G p e s m args below meth c H locs ls hC hH hlw (List.forall_mem_cons.mpr ⟨gw_to _, (List.forall_mem_cons.mp hsw).2⟩) hl hS hB
  rw [List.map_cons, show gc G (0, gi2b a) = .int (Int32.ofInt (gi2b a)) from rfl, gi2b, Int32.ofInt_toInt] at h9
  exact h9

theorem g_i2c {q0 : Nat} (hq0 : pc + 1 = q0) {a : Int} (hd : decode cc pc = .ok (.i2c, 1))
    (k : gA R y cc nL ret Q ck q0 lv ((0, gi2c a) :: st) sh M) : gA R y cc nL ret Q ck pc lv ((0, a) :: st) sh M := by
  subst hq0
  intro l G p e s m args below meth c H locs ls hC hH hlw hsw hl hS hB
  obtain ⟨hx, hb, hml, hr, hown, hts, hlk, hnm, hK⟩ := id hC
  refine lv_i2c hx hb hd rfl ?_
  have h9 := k l G p e s m args below meth c H locs ls hC hH hlw (List.forall_mem_cons.mpr ⟨gw_to _, (List.forall_mem_cons.mp hsw).2⟩) hl hS hB
  rw [List.map_cons, show gc G (0, gi2c a) = .int (Int32.ofInt (gi2c a)) from rfl, gi2c, Int32.ofInt_toInt] at h9
  exact h9

theorem g_land {q0 : Nat} (hq0 : pc + 1 = q0) {a b : Int} (hd : decode cc pc = .ok (.land, 1))
    (k : gA R y cc nL ret Q ck q0 lv ((1, gland a b) :: st) sh M) : gA R y cc nL ret Q ck pc lv ((1, b) :: (1, a) :: st) sh M := by
  subst hq0
  intro l G p e s m args below meth c H locs ls hC hH hlw hsw hl hS hB
  obtain ⟨hx, hb, hml, hr, hown, hts, hlk, hnm, hK⟩ := id hC
  obtain ⟨hb2, hsw2⟩ := List.forall_mem_cons.mp hsw
  obtain ⟨ha2, hsw3⟩ := List.forall_mem_cons.mp hsw2
  refine lv_land hx hb hd ?_
  have h9 := k l G p e s m args below meth c H locs ls hC hH hlw (List.forall_mem_cons.mpr ⟨gw_toL _, hsw3⟩) hl hS hB
  rw [List.map_cons, show gc G (1, gland a b) = .long (Int64.ofInt (gland a b)) from rfl, gland, Int64.ofInt_toInt] at h9
  exact h9

theorem g_lor {q0 : Nat} (hq0 : pc + 1 = q0) {a b : Int} (hd : decode cc pc = .ok (.lor, 1))
    (k : gA R y cc nL ret Q ck q0 lv ((1, glor a b) :: st) sh M) : gA R y cc nL ret Q ck pc lv ((1, b) :: (1, a) :: st) sh M := by
  subst hq0
  intro l G p e s m args below meth c H locs ls hC hH hlw hsw hl hS hB
  obtain ⟨hx, hb, hml, hr, hown, hts, hlk, hnm, hK⟩ := id hC
  obtain ⟨hb2, hsw2⟩ := List.forall_mem_cons.mp hsw
  obtain ⟨ha2, hsw3⟩ := List.forall_mem_cons.mp hsw2
  refine lv_lor hx hb hd ?_
  have h9 := k l G p e s m args below meth c H locs ls hC hH hlw (List.forall_mem_cons.mpr ⟨gw_toL _, hsw3⟩) hl hS hB
  rw [List.map_cons, show gc G (1, glor a b) = .long (Int64.ofInt (glor a b)) from rfl, glor, Int64.ofInt_toInt] at h9
  exact h9

theorem g_lxor {q0 : Nat} (hq0 : pc + 1 = q0) {a b : Int} (hd : decode cc pc = .ok (.lxor, 1))
    (k : gA R y cc nL ret Q ck q0 lv ((1, glxor a b) :: st) sh M) : gA R y cc nL ret Q ck pc lv ((1, b) :: (1, a) :: st) sh M := by
  subst hq0
  intro l G p e s m args below meth c H locs ls hC hH hlw hsw hl hS hB
  obtain ⟨hx, hb, hml, hr, hown, hts, hlk, hnm, hK⟩ := id hC
  obtain ⟨hb2, hsw2⟩ := List.forall_mem_cons.mp hsw
  obtain ⟨ha2, hsw3⟩ := List.forall_mem_cons.mp hsw2
  refine lv_lxor hx hb hd ?_
  have h9 := k l G p e s m args below meth c H locs ls hC hH hlw (List.forall_mem_cons.mpr ⟨gw_toL _, hsw3⟩) hl hS hB
  rw [List.map_cons, show gc G (1, glxor a b) = .long (Int64.ofInt (glxor a b)) from rfl, glxor, Int64.ofInt_toInt] at h9
  exact h9

theorem g_lsub {q0 : Nat} (hq0 : pc + 1 = q0) {a b : Int} (hd : decode cc pc = .ok (.lsub, 1))
    (k : gA R y cc nL ret Q ck q0 lv ((1, glsub a b) :: st) sh M) : gA R y cc nL ret Q ck pc lv ((1, b) :: (1, a) :: st) sh M := by
  subst hq0
  intro l G p e s m args below meth c H locs ls hC hH hlw hsw hl hS hB
  obtain ⟨hx, hb, hml, hr, hown, hts, hlk, hnm, hK⟩ := id hC
  obtain ⟨hb2, hsw2⟩ := List.forall_mem_cons.mp hsw
  obtain ⟨ha2, hsw3⟩ := List.forall_mem_cons.mp hsw2
  refine lv_lsub hx hb hd ?_
  have h9 := k l G p e s m args below meth c H locs ls hC hH hlw (List.forall_mem_cons.mpr ⟨gw_toL _, hsw3⟩) hl hS hB
  rw [List.map_cons, show gc G (1, glsub a b) = .long (Int64.ofInt (glsub a b)) from rfl, glsub, Int64.ofInt_toInt] at h9
  exact h9

theorem g_ladd {q0 : Nat} (hq0 : pc + 1 = q0) {a b : Int} (hd : decode cc pc = .ok (.ladd, 1))
    (k : gA R y cc nL ret Q ck q0 lv ((1, gladd a b) :: st) sh M) : gA R y cc nL ret Q ck pc lv ((1, b) :: (1, a) :: st) sh M := by
  subst hq0
  intro l G p e s m args below meth c H locs ls hC hH hlw hsw hl hS hB
  obtain ⟨hx, hb, hml, hr, hown, hts, hlk, hnm, hK⟩ := id hC
  obtain ⟨hb2, hsw2⟩ := List.forall_mem_cons.mp hsw
  obtain ⟨ha2, hsw3⟩ := List.forall_mem_cons.mp hsw2
  refine lv_ladd hx hb hd ?_
  have h9 := k l G p e s m args below meth c H locs ls hC hH hlw (List.forall_mem_cons.mpr ⟨gw_toL _, hsw3⟩) hl hS hB
  rw [List.map_cons, show gc G (1, gladd a b) = .long (Int64.ofInt (gladd a b)) from rfl, gladd, Int64.ofInt_toInt] at h9
  exact h9

theorem g_lshl {q0 : Nat} (hq0 : pc + 1 = q0) {a b : Int} (hd : decode cc pc = .ok (.lshl, 1))
    (k : gA R y cc nL ret Q ck q0 lv ((1, glshl a b) :: st) sh M) : gA R y cc nL ret Q ck pc lv ((0, b) :: (1, a) :: st) sh M := by
  subst hq0
  intro l G p e s m args below meth c H locs ls hC hH hlw hsw hl hS hB
  obtain ⟨hx, hb, hml, hr, hown, hts, hlk, hnm, hK⟩ := id hC
  obtain ⟨hb2, hsw2⟩ := List.forall_mem_cons.mp hsw
  obtain ⟨ha2, hsw3⟩ := List.forall_mem_cons.mp hsw2
  refine lv_lshl hx hb hd rfl ?_
  have h9 := k l G p e s m args below meth c H locs ls hC hH hlw (List.forall_mem_cons.mpr ⟨gw_toL _, hsw3⟩) hl hS hB
  rw [List.map_cons, show gc G (1, glshl a b) = .long (Int64.ofInt (glshl a b)) from rfl, glshl, Int64.ofInt_toInt] at h9
  exact h9

theorem g_lushr {q0 : Nat} (hq0 : pc + 1 = q0) {a b : Int} (hd : decode cc pc = .ok (.lushr, 1))
    (k : gA R y cc nL ret Q ck q0 lv ((1, glushr a b) :: st) sh M) : gA R y cc nL ret Q ck pc lv ((0, b) :: (1, a) :: st) sh M := by
  subst hq0
  intro l G p e s m args below meth c H locs ls hC hH hlw hsw hl hS hB
  obtain ⟨hx, hb, hml, hr, hown, hts, hlk, hnm, hK⟩ := id hC
  obtain ⟨hb2, hsw2⟩ := List.forall_mem_cons.mp hsw
  obtain ⟨ha2, hsw3⟩ := List.forall_mem_cons.mp hsw2
  refine lv_lushr hx hb hd rfl ?_
  have h9 := k l G p e s m args below meth c H locs ls hC hH hlw (List.forall_mem_cons.mpr ⟨gw_toL _, hsw3⟩) hl hS hB
  rw [List.map_cons, show gc G (1, glushr a b) = .long (Int64.ofInt (glushr a b)) from rfl, glushr, Int64.ofInt_toInt] at h9
  exact h9

theorem g_lcmp {q0 : Nat} (hq0 : pc + 1 = q0) {a b : Int} (hd : decode cc pc = .ok (.lcmp, 1))
    (k : gA R y cc nL ret Q ck q0 lv ((0, glcmp a b) :: st) sh M) : gA R y cc nL ret Q ck pc lv ((1, b) :: (1, a) :: st) sh M := by
  subst hq0
  intro l G p e s m args below meth c H locs ls hC hH hlw hsw hl hS hB
  obtain ⟨hx, hb, hml, hr, hown, hts, hlk, hnm, hK⟩ := id hC
  obtain ⟨hb2, hsw2⟩ := List.forall_mem_cons.mp hsw
  obtain ⟨ha2, hsw3⟩ := List.forall_mem_cons.mp hsw2
  refine W.lcmp hx hb hd ?_
  have h9 := k l G p e s m args below meth c H locs ls hC hH hlw (List.forall_mem_cons.mpr ⟨gw_to _, hsw3⟩) hl hS hB
  rw [List.map_cons, show gc G (0, glcmp a b) = .int (Int32.ofInt (glcmp a b)) from rfl, glcmp, Int32.ofInt_toInt] at h9
  exact h9

theorem g_l2i {q0 : Nat} (hq0 : pc + 1 = q0) {a : Int} (hd : decode cc pc = .ok (.l2i, 1))
    (k : gA R y cc nL ret Q ck q0 lv ((0, gw32 a) :: st) sh M) : gA R y cc nL ret Q ck pc lv ((1, a) :: st) sh M := by
  subst hq0
  intro l G p e s m args below meth c H locs ls hC hH hlw hsw hl hS hB
  obtain ⟨hx, hb, hml, hr, hown, hts, hlk, hnm, hK⟩ := id hC
  refine lv_l2i (v := Int32.ofInt (gw32 a)) hx hb hd (by rw [gw32, Int32.ofInt_toInt]; exact Int64.toInt32_ofInt) ?_
  exact k l G p e s m args below meth c H locs ls hC hH hlw (List.forall_mem_cons.mpr ⟨gw_to _, (List.forall_mem_cons.mp hsw).2⟩) hl hS hB

theorem g_fmul {q0 : Nat} (hq0 : pc + 1 = q0) {a b : Int} (hd : decode cc pc = .ok (.fmul, 1)) (hne : vf_n32 (FP.fmul (gu a) (gu b)))
    (k : gA R y cc nL ret Q ck q0 lv ((2, gfl (FP.fmul (gu a) (gu b))) :: st) sh M) : gA R y cc nL ret Q ck pc lv ((2, b) :: (2, a) :: st) sh M := by
  subst hq0
  intro l G p e s m args below meth c H locs ls hC hH hlw hsw hl hS hB
  obtain ⟨hx, hb, hml, hr, hown, hts, hlk, hnm, hK⟩ := id hC
  obtain ⟨hb2, hsw2⟩ := List.forall_mem_cons.mp hsw
  obtain ⟨ha2, hsw3⟩ := List.forall_mem_cons.mp hsw2
  refine lv_fmul hx hb hd hne ?_
  have h9 := k l G p e s m args below meth c H locs ls hC hH hlw (List.forall_mem_cons.mpr ⟨gw_fl _, hsw3⟩) hl hS hB
  rw [List.map_cons, gc_fl] at h9
  exact h9

theorem g_fdiv {q0 : Nat} (hq0 : pc + 1 = q0) {a b : Int} (hd : decode cc pc = .ok (.fdiv, 1)) (hne : vf_n32 (FP.fdiv (gu a) (gu b)))
    (k : gA R y cc nL ret Q ck q0 lv ((2, gfl (FP.fdiv (gu a) (gu b))) :: st) sh M) : gA R y cc nL ret Q ck pc lv ((2, b) :: (2, a) :: st) sh M := by
  subst hq0
  intro l G p e s m args below meth c H locs ls hC hH hlw hsw hl hS hB
  obtain ⟨hx, hb, hml, hr, hown, hts, hlk, hnm, hK⟩ := id hC
  obtain ⟨hb2, hsw2⟩ := List.forall_mem_cons.mp hsw
  obtain ⟨ha2, hsw3⟩ := List.forall_mem_cons.mp hsw2
  refine lv_fdiv hx hb hd hne ?_
  have h9 := k l G p e s m args below meth c H locs ls hC hH hlw (List.forall_mem_cons.mpr ⟨gw_fl _, hsw3⟩) hl hS hB
  rw [List.map_cons, gc_fl] at h9
  exact h9

theorem g_dmul {q0 : Nat} (hq0 : pc + 1 = q0) {a b : Int} (hd : decode cc pc = .ok (.dmul, 1)) (hne : vf_n64 (FP.dmul (gU64 a) (gU64 b)))
    (k : gA R y cc nL ret Q ck q0 lv ((3, gdb (FP.dmul (gU64 a) (gU64 b))) :: st) sh M) : gA R y cc nL ret Q ck pc lv ((3, b) :: (3, a) :: st) sh M := by
  subst hq0
  intro l G p e s m args below meth c H locs ls hC hH hlw hsw hl hS hB
  obtain ⟨hx, hb, hml, hr, hown, hts, hlk, hnm, hK⟩ := id hC
  obtain ⟨hb2, hsw2⟩ := List.forall_mem_cons.mp hsw
  obtain ⟨ha2, hsw3⟩ := List.forall_mem_cons.mp hsw2
  refine lv_dmul hx hb hd hne ?_
  have h9 := k l G p e s m args below meth c H locs ls hC hH hlw (List.forall_mem_cons.mpr ⟨gw_db _, hsw3⟩) hl hS hB
  rw [List.map_cons, gc_db] at h9
  exact h9

theorem g_ddiv {q0 : Nat} (hq0 : pc + 1 = q0) {a b : Int} (hd : decode cc pc = .ok (.ddiv, 1)) (hne : vf_n64 (FP.ddiv (gU64 a) (gU64 b)))
    (k : gA R y cc nL ret Q ck q0 lv ((3, gdb (FP.ddiv (gU64 a) (gU64 b))) :: st) sh M) : gA R y cc nL ret Q ck pc lv ((3, b) :: (3, a) :: st) sh M := by
  subst hq0
  intro l G p e s m args below meth c H locs ls hC hH hlw hsw hl hS hB
  obtain ⟨hx, hb, hml, hr, hown, hts, hlk, hnm, hK⟩ := id hC
  obtain ⟨hb2, hsw2⟩ := List.forall_mem_cons.mp hsw
  obtain ⟨ha2, hsw3⟩ := List.forall_mem_cons.mp hsw2
  refine lv_ddiv hx hb hd hne ?_
  have h9 := k l G p e s m args below meth c H locs ls hC hH hlw (List.forall_mem_cons.mpr ⟨gw_db _, hsw3⟩) hl hS hB
  rw [List.map_cons, gc_db] at h9
  exact h9

theorem g_dsub {q0 : Nat} (hq0 : pc + 1 = q0) {a b : Int} (hd : decode cc pc = .ok (.dsub, 1)) (hne : vf_n64 (FP.dsub (gU64 a) (gU64 b)))
    (k : gA R y cc nL ret Q ck q0 lv ((3, gdb (FP.dsub (gU64 a) (gU64 b))) :: st) sh M) : gA R y cc nL ret Q ck pc lv ((3, b) :: (3, a) :: st) sh M := by
  subst hq0
  intro l G p e s m args below meth c H locs ls hC hH hlw hsw hl hS hB
  obtain ⟨hx, hb, hml, hr, hown, hts, hlk, hnm, hK⟩ := id hC
  obtain ⟨hb2, hsw2⟩ := List.forall_mem_cons.mp hsw
  obtain ⟨ha2, hsw3⟩ := List.forall_mem_cons.mp hsw2
  refine lv_dsub hx hb hd hne ?_
  have h9 := k l G p e s m args below meth c H locs ls hC hH hlw (List.forall_mem_cons.mpr ⟨gw_db _, hsw3⟩) hl hS hB
  rw [List.map_cons, gc_db] at h9
  exact h9

theorem g_fcmp {q0 : Nat} (hq0 : pc + 1 = q0) {a b : Int} {op : CmpOp} (hd : decode cc pc = .ok (.fcmp op, 1))
    (k : gA R y cc nL ret Q ck q0 lv ((0, (Op.cmpValue (FP.fcmp (gu a) (gu b)) op).toInt) :: st) sh M) : gA R y cc nL ret Q ck pc lv ((2, b) :: (2, a) :: st) sh M := by
  subst hq0
  intro l G p e s m args below meth c H locs ls hC hH hlw hsw hl hS hB
  obtain ⟨hx, hb, hml, hr, hown, hts, hlk, hnm, hK⟩ := id hC
  obtain ⟨hb2, hsw2⟩ := List.forall_mem_cons.mp hsw
  obtain ⟨ha2, hsw3⟩ := List.forall_mem_cons.mp hsw2
  refine lv_fcmp hx hb hd ?_
  have h9 := k l G p e s m args below meth c H locs ls hC hH hlw (List.forall_mem_cons.mpr ⟨gw_to _, hsw3⟩) hl hS hB
  rw [List.map_cons, show gc G (0, (Op.cmpValue (FP.fcmp (gu a) (gu b)) op).toInt) = .int (Int32.ofInt (Op.cmpValue (FP.fcmp (gu a) (gu b)) op).toInt) from rfl, Int32.ofInt_toInt] at h9
  exact h9

theorem g_dcmp {q0 : Nat} (hq0 : pc + 1 = q0) {a b : Int} {op : CmpOp} (hd : decode cc pc = .ok (.dcmp op, 1))
    (k : gA R y cc nL ret Q ck q0 lv ((0, (Op.cmpValue (FP.dcmp (gU64 a) (gU64 b)) op).toInt) :: st) sh M) : gA R y cc nL ret Q ck pc lv ((3, b) :: (3, a) :: st) sh M := by
  subst hq0
  intro l G p e s m args below meth c H locs ls hC hH hlw hsw hl hS hB
  obtain ⟨hx, hb, hml, hr, hown, hts, hlk, hnm, hK⟩ := id hC
  obtain ⟨hb2, hsw2⟩ := List.forall_mem_cons.mp hsw
  obtain ⟨ha2, hsw3⟩ := List.forall_mem_cons.mp hsw2
  refine lv_dcmp hx hb hd ?_
  have h9 := k l G p e s m args below meth c H locs ls hC hH hlw (List.forall_mem_cons.mpr ⟨gw_to _, hsw3⟩) hl hS hB
  rw [List.map_cons, show gc G (0, (Op.cmpValue (FP.dcmp (gU64 a) (gU64 b)) op).toInt) = .int (Int32.ofInt (Op.cmpValue (FP.dcmp (gU64 a) (gU64 b)) op).toInt) from rfl, Int32.ofInt_toInt] at h9
  exact h9

theorem g_i2f {q0 : Nat} (hq0 : pc + 1 = q0) {a : Int} (hd : decode cc pc = .ok (.i2f, 1))
    (k : gA R y cc nL ret Q ck q0 lv ((2, gfl (FP.i2f (Int32.ofInt a))) :: st) sh M) : gA R y cc nL ret Q ck pc lv ((0, a) :: st) sh M := by
  subst hq0
  intro l G p e s m args below meth c H locs ls hC hH hlw hsw hl hS hB
  obtain ⟨hx, hb, hml, hr, hown, hts, hlk, hnm, hK⟩ := id hC
  refine lv_i2f hx hb hd ?_
  have h9 := k l G p e s m args below meth c H locs ls hC hH hlw (List.forall_mem_cons.mpr ⟨gw_fl _, (List.forall_mem_cons.mp hsw).2⟩) hl hS hB
  rw [List.map_cons, gc_fl] at h9
  exact h9

theorem g_i2d {q0 : Nat} (hq0 : pc + 1 = q0) {a : Int} (hd : decode cc pc = .ok (.i2d, 1))
    (k : gA R y cc nL ret Q ck q0 lv ((3, gdb (FP.i2d (Int32.ofInt a))) :: st) sh M) : gA R y cc nL ret Q ck pc lv ((0, a) :: st) sh M := by
  subst hq0
  intro l G p e s m args below meth c H locs ls hC hH hlw hsw hl hS hB
  obtain ⟨hx, hb, hml, hr, hown, hts, hlk, hnm, hK⟩ := id hC
  refine lv_i2d hx hb hd ?_
  have h9 := k l G p e s m args below meth c H locs ls hC hH hlw (List.forall_mem_cons.mpr ⟨gw_db _, (List.forall_mem_cons.mp hsw).2⟩) hl hS hB
  rw [List.map_cons, gc_db] at h9
  exact h9

theorem g_f2d {q0 : Nat} (hq0 : pc + 1 = q0) {a : Int} (hd : decode cc pc = .ok (.f2d, 1)) (hne : vf_n64 (FP.f2d (gu a)))
    (k : gA R y cc nL ret Q ck q0 lv ((3, gdb (FP.f2d (gu a))) :: st) sh M) : gA R y cc nL ret Q ck pc lv ((2, a) :: st) sh M := by
  subst hq0
  intro l G p e s m args below meth c H locs ls hC hH hlw hsw hl hS hB
  obtain ⟨hx, hb, hml, hr, hown, hts, hlk, hnm, hK⟩ := id hC
  refine lv_f2d hx hb hd hne ?_
  have h9 := k l G p e s m args below meth c H locs ls hC hH hlw (List.forall_mem_cons.mpr ⟨gw_db _, (List.forall_mem_cons.mp hsw).2⟩) hl hS hB
  rw [List.map_cons, gc_db] at h9
  exact h9

theorem g_f2i {q0 : Nat} (hq0 : pc + 1 = q0) {a : Int} (hd : decode cc pc = .ok (.f2i, 1))
    (k : gA R y cc nL ret Q ck q0 lv ((0, (FP.f2i (gu a)).toInt) :: st) sh M) : gA R y cc nL ret Q ck pc lv ((2, a) :: st) sh M := by
  subst hq0
  intro l G p e s m args below meth c H locs ls hC hH hlw hsw hl hS hB
  obtain ⟨hx, hb, hml, hr, hown, hts, hlk, hnm, hK⟩ := id hC
  refine lv_f2i hx hb hd ?_
  have h9 := k l G p e s m args below meth c H locs ls hC hH hlw (List.forall_mem_cons.mpr ⟨gw_to _, (List.forall_mem_cons.mp hsw).2⟩) hl hS hB
  rw [List.map_cons, show gc G (0, (FP.f2i (gu a)).toInt) = .int (Int32.ofInt (FP.f2i (gu a)).toInt) from rfl, Int32.ofInt_toInt] at h9
  exact h9

theorem g_d2i {q0 : Nat} (hq0 : pc + 1 = q0) {a : Int} (hd : decode cc pc = .ok (.d2i, 1))
    (k : gA R y cc nL ret Q ck q0 lv ((0, (FP.d2i (gU64 a)).toInt) :: st) sh M) : gA R y cc nL ret Q ck pc lv ((3, a) :: st) sh M := by
  subst hq0
  intro l G p e s m args below meth c H locs ls hC hH hlw hsw hl hS hB
  obtain ⟨hx, hb, hml, hr, hown, hts, hlk, hnm, hK⟩ := id hC
  refine lv_d2i hx hb hd ?_
  have h9 := k l G p e s m args below meth c H locs ls hC hH hlw (List.forall_mem_cons.mpr ⟨gw_to _, (List.forall_mem_cons.mp hsw).2⟩) hl hS hB
  rw [List.map_cons, show gc G (0, (FP.d2i (gU64 a)).toInt) = .int (Int32.ofInt (FP.d2i (gU64 a)).toInt) from rfl, Int32.ofInt_toInt] at h9
  exact h9

theorem g_d2l {q0 : Nat} (hq0 : pc + 1 = q0) {a : Int} (hd : decode cc pc = .ok (.d2l, 1))
    (k : gA R y cc nL ret Q ck q0 lv ((1, (FP.d2l (gU64 a)).toInt) :: st) sh M) : gA R y cc nL ret Q ck pc lv ((3, a) :: st) sh M := by
  subst hq0
  intro l G p e s m args below meth c H locs ls hC hH hlw hsw hl hS hB
  obtain ⟨hx, hb, hml, hr, hown, hts, hlk, hnm, hK⟩ := id hC
  refine lv_d2l hx hb hd ?_
  have h9 := k l G p e s m args below meth c H locs ls hC hH hlw (List.forall_mem_cons.mpr ⟨gw_toL _, (List.forall_mem_cons.mp hsw).2⟩) hl hS hB
  rw [List.map_cons, show gc G (1, (FP.d2l (gU64 a)).toInt) = .long (Int64.ofInt (FP.d2l (gU64 a)).toInt) from rfl, Int64.ofInt_toInt] at h9
  exact h9

theorem g_icmp_eq {q0 : Nat} (hq0 : pc + 3 = q0) {tgt : Nat} {off : Int} {a b : Int} (hd : decode cc pc = .ok (.if_icmp .eq off, 3)) (ht : (pc : Int) + off = (tgt : Int))
    (kt : a = b → gA R y cc nL ret Q ck (tgt) lv st sh M) (kf : a ≠ b → gA R y cc nL ret Q ck (q0) lv st sh M) : gA R y cc nL ret Q ck pc lv ((0, b) :: (0, a) :: st) sh M := by
  subst hq0
  intro l G p e s m args below meth c H locs ls hC hH hlw hsw hl hS hB
  obtain ⟨hx, hb, hml, hr, hown, hts, hlk, hnm, hK⟩ := id hC
  obtain ⟨hb2, hsw2⟩ := List.forall_mem_cons.mp hsw
  obtain ⟨ha2, hsw3⟩ := List.forall_mem_cons.mp hsw2
  refine lv_icmp_eq (tgt := tgt) hx hb hd ht (fun q => ?_) (fun q => ?_)
  · exact kt ((gi_eq ha2 hb2).mp q) l G p e s m args below meth c H locs ls hC hH hlw hsw3 hl hS hB
  · exact kf (fun z => q ((gi_eq ha2 hb2).mpr z)) l G p e s m args below meth c H locs ls hC hH hlw hsw3 hl hS hB

theorem g_if_eq {q0 : Nat} (hq0 : pc + 3 = q0) {tgt : Nat} {off : Int} {a : Int} (hd : decode cc pc = .ok (.ifCond .eq off, 3)) (ht : (pc : Int) + off = (tgt : Int))
    (kt : a = 0 → gA R y cc nL ret Q ck (tgt) lv st sh M) (kf : a ≠ 0 → gA R y cc nL ret Q ck (q0) lv st sh M) : gA R y cc nL ret Q ck pc lv ((0, a) :: st) sh M := by
  subst hq0
  intro l G p e s m args below meth c H locs ls hC hH hlw hsw hl hS hB
  obtain ⟨hx, hb, hml, hr, hown, hts, hlk, hnm, hK⟩ := id hC
  obtain ⟨ha2, hsw3⟩ := List.forall_mem_cons.mp hsw
  refine lv_if_eq (tgt := tgt) hx hb hd ht (fun q => ?_) (fun q => ?_)
  · exact kt ((gi_eq ha2 gw0).mp q) l G p e s m args below meth c H locs ls hC hH hlw hsw3 hl hS hB
  · exact kf (fun z => q ((gi_eq ha2 gw0).mpr z)) l G p e s m args below meth c H locs ls hC hH hlw hsw3 hl hS hB

theorem g_icmp_ne {q0 : Nat} (hq0 : pc + 3 = q0) {tgt : Nat} {off : Int} {a b : Int} (hd : decode cc pc = .ok (.if_icmp .ne off, 3)) (ht : (pc : Int) + off = (tgt : Int))
    (kt : a ≠ b → gA R y cc nL ret Q ck (tgt) lv st sh M) (kf : a = b → gA R y cc nL ret Q ck (q0) lv st sh M) : gA R y cc nL ret Q ck pc lv ((0, b) :: (0, a) :: st) sh M := by
  subst hq0
  intro l G p e s m args below meth c H locs ls hC hH hlw hsw hl hS hB
  obtain ⟨hx, hb, hml, hr, hown, hts, hlk, hnm, hK⟩ := id hC
  obtain ⟨hb2, hsw2⟩ := List.forall_mem_cons.mp hsw
  obtain ⟨ha2, hsw3⟩ := List.forall_mem_cons.mp hsw2
  refine lv_icmp_ne (tgt := tgt) hx hb hd ht (fun q => ?_) (fun q => ?_)
  · exact kt (fun z => q ((gi_eq ha2 hb2).mpr z)) l G p e s m args below meth c H locs ls hC hH hlw hsw3 hl hS hB
  · exact kf ((gi_eq ha2 hb2).mp q) l G p e s m args below meth c H locs ls hC hH hlw hsw3 hl hS hB

theorem g_if_ne {q0 : Nat} (hq0 : pc + 3 = q0) {tgt : Nat} {off : Int} {a : Int} (hd : decode cc pc = .ok (.ifCond .ne off, 3)) (ht : (pc : Int) + off = (tgt : Int))
    (kt : a ≠ 0 → gA R y cc nL ret Q ck (tgt) lv st sh M) (kf : a = 0 → gA R y cc nL ret Q ck (q0) lv st sh M) : gA R y cc nL ret Q ck pc lv ((0, a) :: st) sh M := by
  subst hq0
  intro l G p e s m args below meth c H locs ls hC hH hlw hsw hl hS hB
  obtain ⟨hx, hb, hml, hr, hown, hts, hlk, hnm, hK⟩ := id hC
  obtain ⟨ha2, hsw3⟩ := List.forall_mem_cons.mp hsw
  refine lv_if_ne (tgt := tgt) hx hb hd ht (fun q => ?_) (fun q => ?_)
  · exact kt (fun z => q ((gi_eq ha2 gw0).mpr z)) l G p e s m args below meth c H locs ls hC hH hlw hsw3 hl hS hB
  · exact kf ((gi_eq ha2 gw0).mp q) l G p e s m args below meth c H locs ls hC hH hlw hsw3 hl hS hB

theorem g_icmp_lt {q0 : Nat} (hq0 : pc + 3 = q0) {tgt : Nat} {off : Int} {a b : Int} (hd : decode cc pc = .ok (.if_icmp .lt off, 3)) (ht : (pc : Int) + off = (tgt : Int))
    (kt : a < b → gA R y cc nL ret Q ck (tgt) lv st sh M) (kf : b ≤ a → gA R y cc nL ret Q ck (q0) lv st sh M) : gA R y cc nL ret Q ck pc lv ((0, b) :: (0, a) :: st) sh M := by
  subst hq0
  intro l G p e s m args below meth c H locs ls hC hH hlw hsw hl hS hB
  obtain ⟨hx, hb, hml, hr, hown, hts, hlk, hnm, hK⟩ := id hC
  obtain ⟨hb2, hsw2⟩ := List.forall_mem_cons.mp hsw
  obtain ⟨ha2, hsw3⟩ := List.forall_mem_cons.mp hsw2
  refine lv_icmp_lt (tgt := tgt) hx hb hd ht (fun q => ?_) (fun q => ?_)
  · exact kt ((gi_lt ha2 hb2).mp q) l G p e s m args below meth c H locs ls hC hH hlw hsw3 hl hS hB
  · exact kf (Int.not_lt.mp (fun z => q ((gi_lt ha2 hb2).mpr z))) l G p e s m args below meth c H locs ls hC hH hlw hsw3 hl hS hB

theorem g_if_lt {q0 : Nat} (hq0 : pc + 3 = q0) {tgt : Nat} {off : Int} {a : Int} (hd : decode cc pc = .ok (.ifCond .lt off, 3)) (ht : (pc : Int) + off = (tgt : Int))
    (kt : a < 0 → gA R y cc nL ret Q ck (tgt) lv st sh M) (kf : 0 ≤ a → gA R y cc nL ret Q ck (q0) lv st sh M) : gA R y cc nL ret Q ck pc lv ((0, a) :: st) sh M := by
  subst hq0
  intro l G p e s m args below meth c H locs ls hC hH hlw hsw hl hS hB
  obtain ⟨hx, hb, hml, hr, hown, hts, hlk, hnm, hK⟩ := id hC
  obtain ⟨ha2, hsw3⟩ := List.forall_mem_cons.mp hsw
  refine lv_if_lt (tgt := tgt) hx hb hd ht (fun q => ?_) (fun q => ?_)
  · exact kt ((gi_lt ha2 gw0).mp q) l G p e s m args below meth c H locs ls hC hH hlw hsw3 hl hS hB
  · exact kf (Int.not_lt.mp (fun z => q ((gi_lt ha2 gw0).mpr z))) l G p e s m args below meth c H locs ls hC hH hlw hsw3 hl hS hB

theorem g_icmp_ge {q0 : Nat} (hq0 : pc + 3 = q0) {tgt : Nat} {off : Int} {a b : Int} (hd : decode cc pc = .ok (.if_icmp .ge off, 3)) (ht : (pc : Int) + off = (tgt : Int))
    (kt : b ≤ a → gA R y cc nL ret Q ck (tgt) lv st sh M) (kf : a < b → gA R y cc nL ret Q ck (q0) lv st sh M) : gA R y cc nL ret Q ck pc lv ((0, b) :: (0, a) :: st) sh M := by
  subst hq0
  intro l G p e s m args below meth c H locs ls hC hH hlw hsw hl hS hB
  obtain ⟨hx, hb, hml, hr, hown, hts, hlk, hnm, hK⟩ := id hC
  obtain ⟨hb2, hsw2⟩ := List.forall_mem_cons.mp hsw
  obtain ⟨ha2, hsw3⟩ := List.forall_mem_cons.mp hsw2
  refine lv_icmp_ge (tgt := tgt) hx hb hd ht (fun q => ?_) (fun q => ?_)
  · exact kt ((gi_le hb2 ha2).mp q) l G p e s m args below meth c H locs ls hC hH hlw hsw3 hl hS hB
  · exact kf (Int.not_le.mp (fun z => q ((gi_le hb2 ha2).mpr z))) l G p e s m args below meth c H locs ls hC hH hlw hsw3 hl hS hB

theorem g_if_ge {q0 : Nat} (hq0 : pc + 3 = q0) {tgt : Nat} {off : Int} {a : Int} (hd : decode cc pc = .ok (.ifCond .ge off, 3)) (ht : (pc : Int) + off = (tgt : Int))
    (kt : 0 ≤ a → gA R y cc nL ret Q ck (tgt) lv st sh M) (kf : a < 0 → gA R y cc nL ret Q ck (q0) lv st sh M) : gA R y cc nL ret Q ck pc lv ((0, a) :: st) sh M := by
  subst hq0
  intro l G p e s m args below meth c H locs ls hC hH hlw hsw hl hS hB
  obtain ⟨hx, hb, hml, hr, hown, hts, hlk, hnm, hK⟩ := id hC
  obtain ⟨ha2, hsw3⟩ := List.forall_mem_cons.mp hsw
  refine lv_if_ge (tgt := tgt) hx hb hd ht (fun q => ?_) (fun q => ?_)
  · exact kt ((gi_le gw0 ha2).mp q) l G p e s m args below meth c H locs ls hC hH hlw hsw3 hl hS hB
  · exact kf (Int.not_le.mp (fun z => q ((gi_le gw0 ha2).mpr z))) l G p e s m args below meth c H locs ls hC hH hlw hsw3 hl hS hB

theorem g_icmp_gt {q0 : Nat} (hq0 : pc + 3 = q0) {tgt : Nat} {off : Int} {a b : Int} (hd : decode cc pc = .ok (.if_icmp .gt off, 3)) (ht : (pc : Int) + off = (tgt : Int))
    (kt : b < a → gA R y cc nL ret Q ck (tgt) lv st sh M) (kf : a ≤ b → gA R y cc nL ret Q ck (q0) lv st sh M) : gA R y cc nL ret Q ck pc lv ((0, b) :: (0, a) :: st) sh M := by
  subst hq0
  intro l G p e s m args below meth c H locs ls hC hH hlw hsw hl hS hB
  obtain ⟨hx, hb, hml, hr, hown, hts, hlk, hnm, hK⟩ := id hC
  obtain ⟨hb2, hsw2⟩ := List.forall_mem_cons.mp hsw
  obtain ⟨ha2, hsw3⟩ := List.forall_mem_cons.mp hsw2
  refine lv_icmp_gt (tgt := tgt) hx hb hd ht (fun q => ?_) (fun q => ?_)
  · exact kt ((gi_lt hb2 ha2).mp q) l G p e s m args below meth c H locs ls hC hH hlw hsw3 hl hS hB
  · exact kf (Int.not_lt.mp (fun z => q ((gi_lt hb2 ha2).mpr z))) l G p e s m args below meth c H locs ls hC hH hlw hsw3 hl hS hB

theorem g_if_gt {q0 : Nat} (hq0 : pc + 3 = q0) {tgt : Nat} {off : Int} {a : Int} (hd : decode cc pc = .ok (.ifCond .gt off, 3)) (ht : (pc : Int) + off = (tgt : Int))
    (kt : 0 < a → gA R y cc nL ret Q ck (tgt) lv st sh M) (kf : a ≤ 0 → gA R y cc nL ret Q ck (q0) lv st sh M) : gA R y cc nL ret Q ck pc lv ((0, a) :: st) sh M := by
  subst hq0
  intro l G p e s m args below meth c H locs ls hC hH hlw hsw hl hS hB
  obtain ⟨hx, hb, hml, hr, hown, hts, hlk, hnm, hK⟩ := id hC
  obtain ⟨ha2, hsw3⟩ := List.forall_mem_cons.mp hsw
  refine lv_if_gt (tgt := tgt) hx hb hd ht (fun q => ?_) (fun q => ?_)
  · exact kt ((gi_lt gw0 ha2).mp q) l G p e s m args below meth c H locs ls hC hH hlw hsw3 hl hS hB
  · exact kf (Int.not_lt.mp (fun z => q ((gi_lt gw0 ha2).mpr z))) l G p e s m args below meth c H locs ls hC hH hlw hsw3 hl hS hB

theorem g_icmp_le {q0 : Nat} (hq0 : pc + 3 = q0) {tgt : Nat} {off : Int} {a b : Int} (hd : decode cc pc = .ok (.if_icmp .le off, 3)) (ht : (pc : Int) + off = (tgt : Int))
    (kt : a ≤ b → gA R y cc nL ret Q ck (tgt) lv st sh M) (kf : b < a → gA R y cc nL ret Q ck (q0) lv st sh M) : gA R y cc nL ret Q ck pc lv ((0, b) :: (0, a) :: st) sh M := by
  subst hq0
  intro l G p e s m args below meth c H locs ls hC hH hlw hsw hl hS hB
  obtain ⟨hx, hb, hml, hr, hown, hts, hlk, hnm, hK⟩ := id hC
  obtain ⟨hb2, hsw2⟩ := List.forall_mem_cons.mp hsw
  obtain ⟨ha2, hsw3⟩ := List.forall_mem_cons.mp hsw2
  refine lv_icmp_le (tgt := tgt) hx hb hd ht (fun q => ?_) (fun q => ?_)
  · exact kt ((gi_le ha2 hb2).mp q) l G p e s m args below meth c H locs ls hC hH hlw hsw3 hl hS hB
  · exact kf (Int.not_le.mp (fun z => q ((gi_le ha2 hb2).mpr z))) l G p e s m args below meth c H locs ls hC hH hlw hsw3 hl hS hB

theorem g_if_le {q0 : Nat} (hq0 : pc + 3 = q0) {tgt : Nat} {off : Int} {a : Int} (hd : decode cc pc = .ok (.ifCond .le off, 3)) (ht : (pc : Int) + off = (tgt : Int))
    (kt : a ≤ 0 → gA R y cc nL ret Q ck (tgt) lv st sh M) (kf : 0 < a → gA R y cc nL ret Q ck (q0) lv st sh M) : gA R y cc nL ret Q ck pc lv ((0, a) :: st) sh M := by
  subst hq0
  intro l G p e s m args below meth c H locs ls hC hH hlw hsw hl hS hB
  obtain ⟨hx, hb, hml, hr, hown, hts, hlk, hnm, hK⟩ := id hC
  obtain ⟨ha2, hsw3⟩ := List.forall_mem_cons.mp hsw
  refine lv_if_le (tgt := tgt) hx hb hd ht (fun q => ?_) (fun q => ?_)
  · exact kt ((gi_le ha2 gw0).mp q) l G p e s m args below meth c H locs ls hC hH hlw hsw3 hl hS hB
  · exact kf (Int.not_le.mp (fun z => q ((gi_le ha2 gw0).mpr z))) l G p e s m args below meth c H locs ls hC hH hlw hsw3 hl hS hB

theorem g_goto {tgt : Nat} {off : Int} (hd : decode cc pc = .ok (.goto off, 3)) (ht : (pc : Int) + off = (tgt : Int))
    (k : gA R y cc nL ret Q ck (tgt) lv st sh M) : gA R y cc nL ret Q ck pc lv st sh M := by
  intro l G p e s m args below meth c H locs ls hC hH hlw hsw hl hS hB
  obtain ⟨hx, hb, hml, hr, hown, hts, hlk, hnm, hK⟩ := id hC
  exact lv_goto (tgt := tgt) hx hb hd ht (k l G p e s m args below meth c H locs ls hC hH hlw hsw hl hS hB)

theorem g_tabIn {dflt lo hi : Int} {offs : Array Int} {len : Nat} {x off : Int} {tgt : Nat} (hd : decode cc pc = .ok (.tableswitch dflt lo hi offs, len)) (h1 : lo ≤ x) (h2 : x ≤ hi) (ho : offs[(x - lo).toNat]? = some off) (ht : (pc : Int) + off = (tgt : Int))
    (k : gA R y cc nL ret Q ck (tgt) lv st sh M) : gA R y cc nL ret Q ck pc lv ((0, x) :: st) sh M := by
  intro l G p e s m args below meth c H locs ls hC hH hlw hsw hl hS hB
  obtain ⟨hx, hb, hml, hr, hown, hts, hlk, hnm, hK⟩ := id hC
  obtain ⟨ha2, hsw3⟩ := List.forall_mem_cons.mp hsw
  refine lv_tableIn (off := off) (tgt := tgt) hx hb hd (by rw [gi_int ha2]; omega) (by rw [gi_int ha2]; omega) (by rw [gi_int ha2]; exact ho) ht ?_
  exact k l G p e s m args below meth c H locs ls hC hH hlw hsw3 hl hS hB

theorem g_tabOut {dflt lo hi : Int} {offs : Array Int} {len : Nat} {x : Int} {tgt : Nat} (hd : decode cc pc = .ok (.tableswitch dflt lo hi offs, len)) (h : x < lo ∨ hi < x) (ht : (pc : Int) + dflt = (tgt : Int))
    (k : gA R y cc nL ret Q ck (tgt) lv st sh M) : gA R y cc nL ret Q ck pc lv ((0, x) :: st) sh M := by
  intro l G p e s m args below meth c H locs ls hC hH hlw hsw hl hS hB
  obtain ⟨hx, hb, hml, hr, hown, hts, hlk, hnm, hK⟩ := id hC
  obtain ⟨ha2, hsw3⟩ := List.forall_mem_cons.mp hsw
  refine lv_tableOut (tgt := tgt) hx hb hd (by rw [gi_int ha2]; exact h) ht ?_
  exact k l G p e s m args below meth c H locs ls hC hH hlw hsw3 hl hS hB

end
section
variable {R : Room} {y : MethodName} {cc : ByteArray} {nL : Nat} {ret : Option FieldType} {Q : Option gV → gS → gM → Prop} {ck : Nat × Nat} {pc : Nat} {lv st : List gV} {sh : gS} {M : gM}

theorem g_ireturn {x : Int} (hd : decode cc pc = .ok (.ireturn, 1)) (hret : ret = some .int) (hck : ck.1 ≤ R.cells ∧ ck.2 ≤ R.slots) (hq : Q (some (0, x)) sh M) : gA R y cc nL ret Q ck pc lv ([(0, x)]) sh M := by
  intro l G p e s m args below meth c H locs ls hC hH hlw hsw hl hS hB
  obtain ⟨hx, hb, hml, hr, hown, hts, hlk, hnm, hK⟩ := id hC
  refine W.widen hck.1 hck.2 ?_
  refine W.iret (v := Int32.ofInt x) hx hb (hr.trans hret) (fun t ht hW => ?_) hS.2.2 hd hlk
  exact ⟨⟨(some (0, x)), sh, M, rfl, hq, fun w hw => by cases hw; exact (List.forall_mem_cons.mp hsw).1, by rw [ht]; exact hH⟩, hS.F ht⟩

theorem g_zreturn {x : Int} {ty : FieldType} (hd : decode cc pc = .ok (.ireturn, 1)) (hret : ret = some ty) (hn : narrow ty (.int (Int32.ofInt x)) = .int (Int32.ofInt x)) (hck : ck.1 ≤ R.cells ∧ ck.2 ≤ R.slots) (hq : Q (some (0, x)) sh M) : gA R y cc nL ret Q ck pc lv ([(0, x)]) sh M := by
  intro l G p e s m args below meth c H locs ls hC hH hlw hsw hl hS hB
  obtain ⟨hx, hb, hml, hr, hown, hts, hlk, hnm, hK⟩ := id hC
  refine W.widen hck.1 hck.2 ?_
  refine W.zret (v := Int32.ofInt x) hx hb (hr.trans hret) hn (fun t ht hW => ?_) hS.2.2 hd hlk
  exact ⟨⟨(some (0, x)), sh, M, rfl, hq, fun w hw => by cases hw; exact (List.forall_mem_cons.mp hsw).1, by rw [ht]; exact hH⟩, hS.F ht⟩

theorem g_return (hd : decode cc pc = .ok (.return_, 1)) (hret : ret = none) (hck : ck.1 ≤ R.cells ∧ ck.2 ≤ R.slots) (hq : Q none sh M) : gA R y cc nL ret Q ck pc lv ([]) sh M := by
  intro l G p e s m args below meth c H locs ls hC hH hlw hsw hl hS hB
  obtain ⟨hx, hb, hml, hr, hown, hts, hlk, hnm, hK⟩ := id hC
  refine W.widen hck.1 hck.2 ?_
  refine W.vret hx hb (hr.trans hret) (fun t ht hW => ?_) hS.2.2 hd hlk
  exact ⟨⟨none, sh, M, rfl, hq, (fun (w : gV) (hw : (none : Option gV) = some w) => by cases hw), by rw [ht]; exact hH⟩, hS.F ht⟩

theorem g_lreturn {x : Int} (hd : decode cc pc = .ok (.lreturn, 1)) (hret : ret = some .long) (hck : ck.1 ≤ R.cells ∧ ck.2 ≤ R.slots) (hq : Q (some (1, x)) sh M) : gA R y cc nL ret Q ck pc lv ([(1, x)]) sh M := by
  intro l G p e s m args below meth c H locs ls hC hH hlw hsw hl hS hB
  obtain ⟨hx, hb, hml, hr, hown, hts, hlk, hnm, hK⟩ := id hC
  refine W.widen hck.1 hck.2 ?_
  refine W.lret (v := Int64.ofInt x) hx hb (hr.trans hret) (fun t ht hW => ?_) hS.2.2 hd
  exact ⟨⟨(some (1, x)), sh, M, rfl, hq, fun w hw => by cases hw; exact (List.forall_mem_cons.mp hsw).1, by rw [ht]; exact hH⟩, hS.F ht⟩

theorem g_freturn {x : Int} (hd : decode cc pc = .ok (.freturn, 1)) (hret : ret = some .float) (hck : ck.1 ≤ R.cells ∧ ck.2 ≤ R.slots) (hq : Q (some (2, x)) sh M) : gA R y cc nL ret Q ck pc lv ([(2, x)]) sh M := by
  intro l G p e s m args below meth c H locs ls hC hH hlw hsw hl hS hB
  obtain ⟨hx, hb, hml, hr, hown, hts, hlk, hnm, hK⟩ := id hC
  refine W.widen hck.1 hck.2 ?_
  refine W.fret (v := UInt32.ofNat x.toNat) hx hb (hr.trans hret) (fun t ht hW => ?_) hS.2.2 hd hlk
  exact ⟨⟨(some (2, x)), sh, M, rfl, hq, fun w hw => by cases hw; exact (List.forall_mem_cons.mp hsw).1, by rw [ht]; exact hH⟩, hS.F ht⟩

theorem g_areturn {a : Int} {C : String} (hd : decode cc pc = .ok (.areturn, 1)) (hret : ret = some (.object C)) (ha : 0 ≤ a) (hck : ck.1 ≤ R.cells ∧ ck.2 ≤ R.slots) (hq : Q (some (4, a)) sh M) : gA R y cc nL ret Q ck pc lv ([(4, a)]) sh M := by
  intro l G p e s m args below meth c H locs ls hC hH hlw hsw hl hS hB
  obtain ⟨hx, hb, hml, hr, hown, hts, hlk, hnm, hK⟩ := id hC
  refine W.widen hck.1 hck.2 ?_
  show W _ _ _ _ _ _ _ _ _ _ _ _ _ _ _ (F0 m pc ls [gc G (4, a)])
  rw [gc_ref G ha]
  refine W.aret hx hb (hr.trans hret) (Or.inl ⟨C, rfl⟩) (Or.inr ⟨_, rfl⟩) (fun t ht hW => ?_) hS.2.2 hd hlk
  exact ⟨⟨(some (4, a)), sh, M, by rw [Option.map_some, gc_ref G ha], hq, (fun (w : gV) (hw : some ((4, a) : gV) = some w) => by cases hw; trivial), by rw [ht]; exact hH⟩, hS.F ht⟩

end
-- ---- entry
def gSl : List gV → List gV
  | [] => []
  | v :: r => if v.1 = 1 ∨ v.1 = 3 then v :: (9, 0) :: gSl r else v :: gSl r
theorem gSl_w {av : List gV} (h : ∀ v ∈ av, gw v) : ∀ v ∈ gSl av, gw v := by
  induction av with
  | nil => intro v hv; cases hv
  | cons a r ih =>
    obtain ⟨ha, hr⟩ := List.forall_mem_cons.mp h
    unfold gSl
    split
    · exact List.forall_mem_cons.mpr ⟨ha, List.forall_mem_cons.mpr ⟨trivial, ih hr⟩⟩
    · exact List.forall_mem_cons.mpr ⟨ha, ih hr⟩
theorem gSl_args (G : gG) (av : List gV) : ∀ (pre : List gV) (q : Nat × Value), q ∈ gL G (pre ++ gSl av) → (∃ v, pre[q.1]? = some v) ∨ q ∈ lv_args pre.length (av.map (gc G)) := by
  induction av with
  | nil =>
    intro pre q hq
    obtain ⟨j, w⟩ := q
    obtain ⟨v, h1, -, -⟩ := gL_mem.mp hq
    rw [gSl, List.append_nil] at h1
    exact Or.inl ⟨v, h1⟩
  | cons a r ih =>
    intro pre q hq
    obtain ⟨j, w⟩ := q
    obtain ⟨v, h1, h9, hw⟩ := gL_mem.mp hq
    rcases Nat.lt_or_ge j pre.length with hj | hj
    · exact Or.inl ⟨pre[j], List.getElem?_eq_getElem hj⟩
    refine Or.inr ?_
    rw [gSl] at h1 hq
    by_cases hc : a.1 = 1 ∨ a.1 = 3
    · rw [if_pos hc] at h1 hq
      rcases Nat.lt_trichotomy j (pre.length) with q1 | q1 | q1
      · omega
      · subst q1
        rw [List.getElem?_append_right (Nat.le_refl _), Nat.sub_self] at h1
        cases h1
        rw [List.map_cons]
        unfold lv_args
        rw [hw]
        first | exact List.mem_cons_self | simp
      · by_cases q2 : j = pre.length + 1
        · subst q2
          rw [List.getElem?_append_right (by omega), show pre.length + 1 - pre.length = 1 by omega] at h1
          cases h1
          exact absurd rfl h9
        · have e : pre ++ a :: (9, 0) :: gSl r = (pre ++ [a, (9, 0)]) ++ gSl r := by simp
          rw [e] at hq
          rcases ih (pre ++ [a, (9, 0)]) (j, w) hq with ⟨v2, h2⟩ | h2
          · have := (List.getElem?_eq_some_iff.mp h2).1
            simp at this
            omega
          · rw [List.map_cons]
            unfold lv_args
            have h2c : (gc G a).category = 2 := by rw [gc_cat, gcat, if_pos hc]
            rw [h2c]
            have e3 : (pre ++ [a, (9, 0)]).length = pre.length + 2 := by simp
            rw [e3] at h2
            first | exact List.mem_cons_of_mem _ h2 | simp [h2]
    · rw [if_neg hc] at h1 hq
      rcases Nat.lt_trichotomy j (pre.length) with q1 | q1 | q1
      · omega
      · subst q1
        rw [List.getElem?_append_right (Nat.le_refl _), Nat.sub_self] at h1
        cases h1
        rw [List.map_cons]
        unfold lv_args
        rw [hw]
        first | exact List.mem_cons_self | simp
      · have e : pre ++ a :: gSl r = (pre ++ [a]) ++ gSl r := by simp
        rw [e] at hq
        rcases ih (pre ++ [a]) (j, w) hq with ⟨v2, h2⟩ | h2
        · have := (List.getElem?_eq_some_iff.mp h2).1
          simp at this
          omega
        · rw [List.map_cons]
          unfold lv_args
          have h2c : (gc G a).category = 1 := gc_cat1 (fun z => hc (Or.inl z)) (fun z => hc (Or.inr z))
          rw [h2c]
          have e3 : (pre ++ [a]).length = pre.length + 1 := by simp
          rw [e3] at h2
          first | exact List.mem_cons_of_mem _ h2 | simp [h2]
theorem gSl_len (G : gG) (av : List gV) : (lg_sl (av.map (gc G))).length = (gSl av).length := by
  induction av with
  | nil => rfl
  | cons a r ih =>
    rw [List.map_cons, gSl]
    unfold lg_sl at ih ⊢
    rw [List.flatMap_cons, List.length_append, ih]
    by_cases hc : a.1 = 1 ∨ a.1 = 3
    · have h2c : (gc G a).category = 2 := by rw [gc_cat, gcat, if_pos hc]
      rw [if_pos hc, if_pos h2c]
      simp; omega
    · have h2c : ¬ (gc G a).category = 2 := by rw [gc_cat, gcat, if_neg hc]; decide
      rw [if_neg hc, if_neg h2c]
      simp; omega
theorem gC_ofA {R : Room} {y : MethodName} {cc : ByteArray} {nL : Nat} {ret : Option FieldType} {av : List gV} {sh : gS} {M : gM} {Q : Option gV → gS → gM → Prop} {lv : List gV}
    (hy : plainName y.cls = true) (hn : (gSl av).length ≤ nL) (hlv : gSl av ++ List.replicate (nL - (gSl av).length) (9, 0) = lv) (h : gMw sh M → (∀ v ∈ av, gw v) → gA R y cc nL ret Q (0, 0) 0 lv [] sh M) : gC R y cc nL ret av sh M Q := by
  intro l G
  refine Met.ofW (cc := cc) (maxL := nL) (ret := ret) hy rfl ?_
  intro p e s m args below meth c s₁ B hml hv
  obtain ⟨rfl, hB, hH, hK, hav⟩ := hv
  have hx := B.exec
  have hb := B.bytes
  have hr := B.returns
  have hts := atoms_spec (ws := .code y cc nL ret :: gAll) B.pre
  have hown : s.vm.findClass y.cls = some m.cls := findClass_of_methodNamed B.named
  have hlocks := B.notSynchronized
  have hnm : meth.name = y.name := (name_of_methodNamed B.named B.method).1
  have hlen := gSl_len G av
  have hl := lv_entry (av.map (gc G)) (n := nL) (by rw [hlen]; exact hn)
  rw [lg_entry_eq]
  generalize (lg_sl (av.map (gc G)) ++ List.replicate (nL - (lg_sl (av.map (gc G))).length) Slot.unset).toArray = ls at hl ⊢
  refine h hH.2.2 hav l G p e s m _ below meth c s.heap [] ls ⟨hx, hb, hml, hr, hown, fun w hw => hts w (List.mem_cons_of_mem _ hw), hlocks, hnm, hK⟩ hH ?_ (fun v hv => by cases hv) ⟨hl.1, hl.2.1, ?_⟩ va_S.rf hB
  · intro v hv
    rw [← hlv] at hv
    rcases List.mem_append.mp hv with q | q
    · exact gSl_w hav v q
    · rw [(List.mem_replicate.mp q).2]; trivial
  · intro q hq
    obtain ⟨j, w⟩ := q
    obtain ⟨v, h1, h9, hw⟩ := gL_mem.mp hq
    rw [← hlv] at h1
    rcases Nat.lt_or_ge j (gSl av).length with hj | hj
    · rw [List.getElem?_append_left hj] at h1
      have hm : (j, w) ∈ gL G ([] ++ gSl av) := gL_mem.mpr ⟨v, h1, h9, hw⟩
      rcases gSl_args G av [] (j, w) hm with ⟨v2, h2⟩ | h2
      · simp at h2
      · exact hl.2.2 _ h2
    · rw [List.getElem?_append_right hj] at h1
      have := List.mem_of_getElem? h1
      rw [(List.mem_replicate.mp this).2] at h9
      exact absurd rfl h9

-- ---- classes and fields
def gTag : FieldType → Nat
  | .long => 1
  | .float => 2
  | .double => 3
  | .object _ => 4
  | .array _ => 4
  | _ => 0
def gCL (ci : Nat) (r : vw_C) (ty : Nat → FieldType) : Prop := vwCl[ci]? = some r ∧ (∀ w ∈ u_ws r.1 r.2.1 r.2.2, w ∈ gAll) ∧ (∀ k, k < r.2.2 → parseFieldDescriptor (r.2.1 k).2.2.1 = some (ty k)) ∧
  (∀ a, a < r.2.2 → ∀ b, b < r.2.2 → a ≠ b → (r.2.1 a).2.1 ≠ (r.2.1 b).2.1) ∧ (∀ k, k < r.2.2 → (gFt.getD ci [])[k]? = some (gTag (ty k))) ∧ (gFt.getD ci []).length = r.2.2
/-- a class's constant names a field of ours: of the class ci the k-th, of that type -/
def gFA (own : String) (idx ci k : Nat) (T : FieldType) (fin : Bool) : Prop := ∃ (r : vw_C) (ty : Nat → FieldType), gCL ci r ty ∧ k < r.2.2 ∧ Cond.fieldLink own idx (r.2.1 k).1 (r.2.1 k).2.1 (r.2.1 k).2.2.1 ∈ gAll ∧ ty k = T ∧ (r.2.1 k).2.2.2 = fin
theorem gO_at {G : gG} {M : gM} {a : Int} {ci k t : Nat} (h : (gFt.getD ci [])[k]? = some t) : (gO G M a ci)[k]? = some (gc G (t, M a (k : Int))) := by
  unfold gO
  rw [List.getElem?_map, List.getElem?_zipIdx, h]
  simp
theorem gO_set {G : gG} {M : gM} {a : Int} {ci k t : Nat} {x : Int} (h : (gFt.getD ci [])[k]? = some t) : (gO G M a ci).set k (gc G (t, x)) = gO G (gU M a (k : Int) x) a ci := by
  apply List.ext_getElem?
  intro j
  have hlt : k < (gFt.getD ci []).length := (List.getElem?_eq_some_iff.mp h).1
  by_cases hj : k = j
  · subst hj
    rw [List.getElem?_set_self (by simp [gO]; exact hlt), gO_at h, gU_same]
  · rw [List.getElem?_set_ne hj]
    unfold gO
    rw [List.getElem?_map, List.getElem?_map, List.getElem?_zipIdx]
    cases hq : (gFt.getD ci [])[j]? with
    | none => rfl
    | some q =>
      have e : ¬ ((j : Int) = (k : Int)) := by omega
      simp [gU, e]
theorem gKt_obj {ci k t : Nat} (h : (gFt.getD ci [])[k]? = some t) : gKt (0, ci) (k : Int) = t := by
  simp [gKt, List.getD_eq_getElem?_getD] at h ⊢
  rw [h]; rfl
theorem gH_w {G : gG} {sh : gS} {M : gM} {H : Heap} {a : Int} {k : Nat × Nat} (hH : gH G sh M H) (hk : gsh sh a = some k) (i : Int) {t : Nat} (ht : gKt k i = t) : gw (t, M a i) := by
  rw [← ht]; exact hH.2.2 a k hk i
theorem gWs_get {G : gG} {sh : gS} {M : gM} {a : Int} {k : Nat × Nat} (hk : gsh sh a = some k) : (gWs G sh M)[a.toNat]? = some (G.1 + a.toNat, gE G M a k) := by
  obtain ⟨h0, h1⟩ := gsh_nn hk
  rw [gWs_at, h1, Option.map_some, Int.toNat_of_nonneg h0]
theorem gWs_put {G : gG} {sh : gS} {M : gM} {a : Int} {k : Nat × Nat} {i v : Int} (hk : gsh sh a = some k) {e : va_E} (he : e = gE G (gU M a i v) a k) : (gWs G sh M).set a.toNat (G.1 + a.toNat, e) = gWs G sh (gU M a i v) := by
  obtain ⟨h0, h1⟩ := gsh_nn hk
  have h2 := gWs_set (G := G) (M := M) (M' := gU M a i v) h1 (fun b hb => gU_cell M i v (by rw [Int.toNat_of_nonneg h0] at hb; exact hb))
  rw [Int.toNat_of_nonneg h0] at h2
  rw [he]; exact h2


section
variable {p : Program} {l : Launch} {e : Env} {R : Room} {s : State} {m : MethodId} {args : Array Value} {below : List Frame} {meth : Method} {c : Code} {H : Heap} {locs : List Loc} {cells slots : Nat} {Q : State → Prop}
variable {cc : ByteArray} {pc : Nat} {ls : Array Slot} {rest : List Value} {D : va_G} {cl : List vw_C} {tys : List (ClassId × FieldType)} {ws : va_W} {A : Nat → Prop} {H0 : Heap} {a : Nat}

theorem gz_iast (hexec : p.tables.exec = Jvm.exec) (hb : c.code = cc) (hK : va_K D cl tys s) (hP : va_P D cl ws H) (hD : va_D A ws) (hS : va_S A H0 H locs) (q0 t0 : Nat) {cA : ClassId} {n : Nat} {f : Nat → Int32} (ha : ws[q0]? = some (a, .inl (cA, n, .inl f))) (ht : tys[t0]? = some (cA, .int)) {i : Int32} {x : Int32} (hin : vp_in i n) (hdg : decode cc pc = .ok (.iastore, 1))
    (kk : ∀ (H1 : Heap) (locs1 : List Loc), H1.size = H.size → va_P D cl (ws.set q0 (a, .inl (cA, n, .inl (upd f i.toNatClampNeg x)))) H1 → va_S A H0 H1 locs1 → W p l e R s m args below meth c H1 locs1 cells slots Q (F0 m (pc + 1) ls rest)) : W p l e R s m args below meth c H locs cells slots Q (F0 m pc ls (.int x :: .int i :: .ref a :: rest)) := by
  refine W.iast hexec hb (hP q0 _ ha) ((hK.2 t0 _ ht).1 n (fun j => .int (f j))) (fun q => by cases q) (by show ¬ (i < 0 ∨ (arrV _ _ _).slots.size ≤ _); rw [arrV_size]; exact hin) rfl rfl hdg fun H1 e z oq => ?_
  refine kk H1 _ z (hP.set hD ha ?_ oq) (hS.put z oq (hD.2 q0 _ ha))
  show H1[a]? = some (vp_cell _ _)
  rw [e]
  rw [vp_cell_i, vp_cell_i, arrV_store]
  congr 2
  funext q
  by_cases hq : q = i.toNatClampNeg
  · subst hq
    simp [updV, upd, vp_updL, vf_upd, vp_nar, narrow]
  · simp [updV, upd, vp_updL, vf_upd, hq]

theorem gz_bast (hexec : p.tables.exec = Jvm.exec) (hb : c.code = cc) (hK : va_K D cl tys s) (hP : va_P D cl ws H) (hD : va_D A ws) (hS : va_S A H0 H locs) (q0 t0 : Nat) {cA : ClassId} {n : Nat} {f : Nat → Int32} (ha : ws[q0]? = some (a, .inl (cA, n, .inl f))) (ht : tys[t0]? = some (cA, .byte)) {i : Int32} {x : Int32} (hin : vp_in i n) (hdg : decode cc pc = .ok (.bastore, 1))
    (kk : ∀ (H1 : Heap) (locs1 : List Loc), H1.size = H.size → va_P D cl (ws.set q0 (a, .inl (cA, n, .inl (upd f i.toNatClampNeg (vp_nar .byte x))))) H1 → va_S A H0 H1 locs1 → W p l e R s m args below meth c H1 locs1 cells slots Q (F0 m (pc + 1) ls rest)) : W p l e R s m args below meth c H locs cells slots Q (F0 m pc ls (.int x :: .int i :: .ref a :: rest)) := by
  refine W.bast hexec hb (hP q0 _ ha) ((hK.2 t0 _ ht).1 n (fun j => .int (f j))) (fun q => by cases q) (by show ¬ (i < 0 ∨ (arrV _ _ _).slots.size ≤ _); rw [arrV_size]; exact hin) rfl rfl hdg fun H1 e z oq => ?_
  refine kk H1 _ z (hP.set hD ha ?_ oq) (hS.put z oq (hD.2 q0 _ ha))
  show H1[a]? = some (vp_cell _ _)
  rw [e]
  rw [vp_cell_i, vp_cell_i, arrV_store]
  congr 2
  funext q
  by_cases hq : q = i.toNatClampNeg
  · subst hq
    simp [updV, upd, vp_updL, vf_upd, vp_nar, narrow]
  · simp [updV, upd, vp_updL, vf_upd, hq]

theorem gz_zast (hexec : p.tables.exec = Jvm.exec) (hb : c.code = cc) (hK : va_K D cl tys s) (hP : va_P D cl ws H) (hD : va_D A ws) (hS : va_S A H0 H locs) (q0 t0 : Nat) {cA : ClassId} {n : Nat} {f : Nat → Int32} (ha : ws[q0]? = some (a, .inl (cA, n, .inl f))) (ht : tys[t0]? = some (cA, .boolean)) {i : Int32} {x : Int32} (hin : vp_in i n) (hdg : decode cc pc = .ok (.bastore, 1))
    (kk : ∀ (H1 : Heap) (locs1 : List Loc), H1.size = H.size → va_P D cl (ws.set q0 (a, .inl (cA, n, .inl (upd f i.toNatClampNeg (vp_nar .boolean x))))) H1 → va_S A H0 H1 locs1 → W p l e R s m args below meth c H1 locs1 cells slots Q (F0 m (pc + 1) ls rest)) : W p l e R s m args below meth c H locs cells slots Q (F0 m pc ls (.int x :: .int i :: .ref a :: rest)) := by
  refine W.zast hexec hb (hP q0 _ ha) ((hK.2 t0 _ ht).1 n (fun j => .int (f j))) (fun q => by cases q) (by show ¬ (i < 0 ∨ (arrV _ _ _).slots.size ≤ _); rw [arrV_size]; exact hin) rfl rfl hdg fun H1 e z oq => ?_
  refine kk H1 _ z (hP.set hD ha ?_ oq) (hS.put z oq (hD.2 q0 _ ha))
  show H1[a]? = some (vp_cell _ _)
  rw [e]
  rw [vp_cell_i, vp_cell_i, arrV_store]
  congr 2
  funext q
  by_cases hq : q = i.toNatClampNeg
  · subst hq
    simp [updV, upd, vp_updL, vf_upd, vp_nar, narrow]
  · simp [updV, upd, vp_updL, vf_upd, hq]

theorem gz_last (hexec : p.tables.exec = Jvm.exec) (hb : c.code = cc) (hK : va_K D cl tys s) (hP : va_P D cl ws H) (hD : va_D A ws) (hS : va_S A H0 H locs) (q0 t0 : Nat) {cA : ClassId} {n : Nat} {f : Nat → Int64} (ha : ws[q0]? = some (a, .inl (cA, n, .inr (.inl f)))) (ht : tys[t0]? = some (cA, .long)) {i : Int32} {x : Int64} (hin : vp_in i n) (hdg : decode cc pc = .ok (.lastore, 1))
    (kk : ∀ (H1 : Heap) (locs1 : List Loc), H1.size = H.size → va_P D cl (ws.set q0 (a, .inl (cA, n, .inr (.inl (vp_updL f i.toNatClampNeg x))))) H1 → va_S A H0 H1 locs1 → W p l e R s m args below meth c H1 locs1 cells slots Q (F0 m (pc + 1) ls rest)) : W p l e R s m args below meth c H locs cells slots Q (F0 m pc ls (.long x :: .int i :: .ref a :: rest)) := by
  refine W.last hexec hb (hP q0 _ ha) ((hK.2 t0 _ ht).1 n (fun j => .long (f j))) (fun q => by cases q) (by show ¬ (i < 0 ∨ (arrV _ _ _).slots.size ≤ _); rw [arrV_size]; exact hin) rfl rfl hdg fun H1 e z oq => ?_
  refine kk H1 _ z (hP.set hD ha ?_ oq) (hS.put z oq (hD.2 q0 _ ha))
  show H1[a]? = some (vp_cell _ _)
  rw [e]
  rw [vp_cell_l, vp_cell_l, arrV_store]
  congr 2
  funext q
  by_cases hq : q = i.toNatClampNeg
  · subst hq
    simp [updV, upd, vp_updL, vf_upd, vp_nar, narrow]
  · simp [updV, upd, vp_updL, vf_upd, hq]

theorem gz_fast (hexec : p.tables.exec = Jvm.exec) (hb : c.code = cc) (hK : va_K D cl tys s) (hP : va_P D cl ws H) (hD : va_D A ws) (hS : va_S A H0 H locs) (q0 t0 : Nat) {cA : ClassId} {n : Nat} {f : Nat → UInt32} (ha : ws[q0]? = some (a, .inl (cA, n, .inr (.inr (.inl f))))) (ht : tys[t0]? = some (cA, .float)) {i : Int32} {x : UInt32} (hin : vp_in i n) (hdg : decode cc pc = .ok (.fastore, 1))
    (kk : ∀ (H1 : Heap) (locs1 : List Loc), H1.size = H.size → va_P D cl (ws.set q0 (a, .inl (cA, n, .inr (.inr (.inl (vf_upd f i.toNatClampNeg x)))))) H1 → va_S A H0 H1 locs1 → W p l e R s m args below meth c H1 locs1 cells slots Q (F0 m (pc + 1) ls rest)) : W p l e R s m args below meth c H locs cells slots Q (F0 m pc ls (.float x :: .int i :: .ref a :: rest)) := by
  refine W.fast hexec hb (hP q0 _ ha) ((hK.2 t0 _ ht).1 n (fun j => .float (f j))) (fun q => by cases q) (by show ¬ (i < 0 ∨ (arrV _ _ _).slots.size ≤ _); rw [arrV_size]; exact hin) rfl rfl hdg fun H1 e z oq => ?_
  refine kk H1 _ z (hP.set hD ha ?_ oq) (hS.put z oq (hD.2 q0 _ ha))
  show H1[a]? = some (vp_cell _ _)
  rw [e]
  rw [vp_cell_f, vp_cell_f, arrV_store]
  congr 2
  funext q
  by_cases hq : q = i.toNatClampNeg
  · subst hq
    simp [updV, upd, vp_updL, vf_upd, vp_nar, narrow]
  · simp [updV, upd, vp_updL, vf_upd, hq]

theorem gz_put (hexec : p.tables.exec = Jvm.exec) (hb : c.code = cc) {own C : String} {T : u_T} {N ci index : Nat} {Ts : List Cond} (hts : ∀ w ∈ Ts, w.before args s = true) (hin : ∀ w ∈ u_ws C T N, w ∈ Ts) (ty0 : Nat → FieldType) (hty : ∀ k, k < N → parseFieldDescriptor (T k).2.2.1 = some (ty0 k)) (hnm : ∀ a, a < N → ∀ b, b < N → a ≠ b → (T a).2.1 ≠ (T b).2.1) (hown : s.vm.findClass own = some m.cls) (hK : va_K D cl tys s) (hP : va_P D cl ws H) (hD : va_D A ws) (hS0 : va_S A H0 H locs) (q0 : Nat) {fs : List Value} (he : ws[q0]? = some (a, .inr (ci, fs))) (hc : cl[ci]? = some (C, T, N)) (k : Nat) (hk : k < N) (hlink : (Cond.fieldLink own index (T k).1 (T k).2.1 (T k).2.2.1).before args s = true) (hfin : (T k).2.2.2 = false) {ty : FieldType} {v : Value} (hd : parseFieldDescriptor (T k).2.2.1 = some ty) (hn : narrow ty v = v) (hfit : fits ty v = true) (hl : k < fs.length)
    (hdg : decode cc pc = .ok (.putfield index, 3)) (kk : ∀ (H1 : Heap) (locs1 : List Loc), H1.size = H.size → va_P D cl (ws.set q0 (a, .inr (ci, fs.set k v))) H1 → va_S A H0 H1 locs1 → W p l e R s m args below meth c H1 locs1 cells slots Q (F0 m (pc + 3) ls rest)) : W p l e R s m args below meth c H locs cells slots Q (F0 m pc ls (v :: .ref a :: rest)) := by
  have hap := va_apart (own := own) hts hin ty0 hty hnm hK hc
  obtain ⟨r, h1, cell, q1, q2, q3, q4⟩ := hP q0 _ he
  have hr : r = (C, T, N) := Option.some.inj (h1.symm.trans hc)
  subst hr
  obtain ⟨hS, hfc, kC, hkC, hkind⟩ := hK.1 ci _ hc
  obtain ⟨cf, kf, fi, f, hi, hsl⟩ := hS k hk
  have hlay := hts _ (hin _ (u_in_lay hk))
  unfold u_lay at hlay
  rw [if_neg (by rw [hfin]; decide)] at hlay
  have hst := (u_facts hfc hkC (u_lays hts hin hk) hi).1
  have h6 := u_store hfc hkC hkind hlay hi hd hn hfit
  refine W.putK hexec hb (f := f) ⟨hown, hlink, ⟨_, _, _, hi⟩, hst⟩ (by rw [q2]; exact h6) q1 q3 (by rw [hsl]; exact k2_hasslot (q4 k hk)) rfl rfl hdg fun H2 e1 e2 e3 => ?_
  rw [hsl] at e1 ⊢
  exact kk H2 _ e2 (hP.set hD he ⟨_, hc, t_OB.to (V := updV (vp_V fs) k v) ⟨_, e1, q2, q3, t_set q4 hap hk v⟩ (fun j _ => vp_updV_set hl v j)⟩ e3) (hS0.put e2 e3 (hD.2 q0 _ he))

theorem gz_putF (hexec : p.tables.exec = Jvm.exec) (hb : c.code = cc) {own C : String} {T : u_T} {N ci index : Nat} {Ts : List Cond} (hts : ∀ w ∈ Ts, w.before args s = true) (hin : ∀ w ∈ u_ws C T N, w ∈ Ts) (ty0 : Nat → FieldType) (hty : ∀ k, k < N → parseFieldDescriptor (T k).2.2.1 = some (ty0 k)) (hnm : ∀ a, a < N → ∀ b, b < N → a ≠ b → (T a).2.1 ≠ (T b).2.1) (hown : s.vm.findClass own = some m.cls) (hK : va_K D cl tys s) (hP : va_P D cl ws H) (hD : va_D A ws) (hS0 : va_S A H0 H locs) (q0 : Nat) {fs : List Value} (he : ws[q0]? = some (a, .inr (ci, fs))) (hc : cl[ci]? = some (C, T, N)) (k : Nat) (hk : k < N) (hlink : (Cond.fieldLink own index (T k).1 (T k).2.1 (T k).2.2.1).before args s = true) (hfin : (T k).2.2.2 = true) (hin2 : meth.name = "<init>") (hdecl : (T k).1 = own) {ty : FieldType} {v : Value} (hd : parseFieldDescriptor (T k).2.2.1 = some ty) (hn : narrow ty v = v) (hfit : fits ty v = true) (hl : k < fs.length)
    (hdg : decode cc pc = .ok (.putfield index, 3)) (kk : ∀ (H1 : Heap) (locs1 : List Loc), H1.size = H.size → va_P D cl (ws.set q0 (a, .inr (ci, fs.set k v))) H1 → va_S A H0 H1 locs1 → W p l e R s m args below meth c H1 locs1 cells slots Q (F0 m (pc + 3) ls rest)) : W p l e R s m args below meth c H locs cells slots Q (F0 m pc ls (v :: .ref a :: rest)) := by
  have hap := va_apart (own := own) hts hin ty0 hty hnm hK hc
  obtain ⟨r, h1, cell, q1, q2, q3, q4⟩ := hP q0 _ he
  have hr : r = (C, T, N) := Option.some.inj (h1.symm.trans hc)
  subst hr
  obtain ⟨hS, hfc, kC, hkC, hkind⟩ := hK.1 ci _ hc
  obtain ⟨cf, kf, fi, f, hi, hsl⟩ := hS k hk
  have hlay := hts _ (hin _ (u_in_lay hk))
  unfold u_lay at hlay
  rw [if_pos hfin] at hlay
  have hst := (u_facts hfc hkC (u_lays hts hin hk) hi).1
  have hcf : m.cls = cf := by
    obtain ⟨_, _, c2, _, _, _, -, -, hf2, -, -, -, hown2, -⟩ := Cond.laysFinal_spec hlay
    have e1 : c2 = cf := by have := hi.symm.trans hf2; simp at this; exact this.1.symm
    rw [hdecl] at hown2
    rw [← e1]; exact Option.some.inj (hown.symm.trans hown2)
  have h6 := u_fits hfc hkC hkind (Or.inr hlay) hi hd hn hfit
  refine W.putFinK hexec hb hown hlink hi hst hcf hin2 (by rw [q2]; exact h6) q1 q3 (by rw [hsl]; exact k2_hasslot (q4 k hk)) rfl rfl hdg fun H2 e1 e2 e3 => ?_
  rw [hsl] at e1 ⊢
  exact kk H2 _ e2 (hP.set hD he ⟨_, hc, t_OB.to (V := updV (vp_V fs) k v) ⟨_, e1, q2, q3, t_set q4 hap hk v⟩ (fun j _ => vp_updV_set hl v j)⟩ e3) (hS0.put e2 e3 (hD.2 q0 _ he))

end
section
variable {R : Room} {y : MethodName} {cc : ByteArray} {nL : Nat} {ret : Option FieldType} {Q : Option gV → gS → gM → Prop} {ck : Nat × Nat} {pc : Nat} {lv st : List gV} {sh : gS} {M : gM}

theorem g_getf {q0 : Nat} (hq0 : pc + 3 = q0) {idx ci f : Nat} {fi : Int} (hfi : (f : Int) = fi) {T : FieldType} {fin : Bool} {t : Nat} {a : Int} (hf : gFA y.cls idx ci f T fin) (hd : decode cc pc = .ok (.getfield idx, 3)) (ht : gTag T = t) (hs : gsh sh a = some (0, ci))
    (k : gA R y cc nL ret Q ck q0 lv ((t, M a fi) :: st) sh M) : gA R y cc nL ret Q ck pc lv ((4, a) :: st) sh M := by
  subst hq0
  intro l G p e s m args below meth c H locs ls hC hH hlw hsw hl hS hB
  obtain ⟨hx, hb, hml, hr, hown, hts, hlk, hnm, hK⟩ := id hC
  subst hfi
  obtain ⟨r, ty, ⟨c1, c2, c3, c4, c5, c6⟩, hk, hw, hT, hfin⟩ := hf
  have h5 := c5 f hk
  rw [hT, ht] at h5
  rw [List.map_cons, gc_ref G (gsh_nn hs).1]
  refine va_get (D := G.2.1) (ci := ci) (v := gc G (t, M a (f : Int))) (C := r.1) (T := r.2.1) (N := r.2.2) (fs := gO G M a ci) hx hb hts c2 hown hK.1 hH.2.1 a.toNat (gWs_get hs) c1 f hk (hts _ hw) (fun _ h9 => h9) (gO_at h5) hd ?_
  exact k l G p e s m args below meth c H locs ls hC hH hlw (List.forall_mem_cons.mpr ⟨gH_w hH hs (f : Int) (gKt_obj h5), (List.forall_mem_cons.mp hsw).2⟩) hl hS hB

theorem g_put {q0 : Nat} (hq0 : pc + 3 = q0) {idx ci f : Nat} {fi : Int} (hfi : (f : Int) = fi) {T : FieldType} {fin : Bool} {t : Nat} {a x : Int} (hf : gFA y.cls idx ci f T fin) (hd : decode cc pc = .ok (.putfield idx, 3)) (ht : gTag T = t) (hs : gsh sh a = some (0, ci)) (hfin : fin = false) (hfit : ∀ G : gG, narrow T (gc G (t, x)) = gc G (t, x) ∧ fits T (gc G (t, x)) = true)
    (k : gA R y cc nL ret Q ck q0 lv st sh (gU M a fi x)) : gA R y cc nL ret Q ck pc lv ((t, x) :: (4, a) :: st) sh M := by
  subst hq0
  intro l G p e s m args below meth c H locs ls hC hH hlw hsw hl hS hB
  obtain ⟨hx, hb, hml, hr, hown, hts, hlk, hnm, hK⟩ := id hC
  subst hfi
  obtain ⟨r, ty, ⟨c1, c2, c3, c4, c5, c6⟩, hk, hw, hT, hfin2⟩ := hf
  have h5 := c5 f hk
  rw [hT, ht] at h5
  obtain ⟨hv, hsw2⟩ := List.forall_mem_cons.mp hsw
  rw [List.map_cons, List.map_cons, gc_ref G (gsh_nn hs).1]
  refine gz_put (D := G.2.1) (ci := ci) (ty := T) (C := r.1) (T := r.2.1) (N := r.2.2) (fs := gO G M a ci) hx hb hts c2 ty c3 c4 hown hK.1 hH.2.1 gWs_D hS a.toNat (gWs_get hs) c1 f hk (hts _ hw) (hfin2.trans hfin) (by rw [← hT]; exact c3 f hk) (hfit G).1 (hfit G).2 (by rw [show (gO G M a ci).length = (gFt.getD ci []).length by simp [gO]]; exact (List.getElem?_eq_some_iff.mp h5).1) hd (fun H1 locs1 hz1 hP1 hS1 => ?_)
  rw [gWs_put (i := (f : Int)) (v := x) hs (by rw [gO_set h5]; rfl)] at hP1
  refine k l G p e s m args below meth c H1 locs1 ls hC ⟨?_, hP1, gMw_U hH.2.2 hs (by rw [gKt_obj h5]; exact hv)⟩ hlw (List.forall_mem_cons.mp hsw2).2 hl hS1 hB
  exact hz1.trans hH.1

theorem g_putC {q0 : Nat} (hq0 : pc + 3 = q0) {idx ci f : Nat} {fi : Int} (hfi : (f : Int) = fi) {T : FieldType} {fin : Bool} {t : Nat} {a x : Int} (hf : gFA y.cls idx ci f T fin) (hd : decode cc pc = .ok (.putfield idx, 3)) (ht : gTag T = t) (hs : gsh sh a = some (0, ci)) (hfin : fin = true) (hin : y.name = "<init>") (hdecl : ∀ r, vwCl[ci]? = some r → (r.2.1 f).1 = y.cls) (hfit : ∀ G : gG, narrow T (gc G (t, x)) = gc G (t, x) ∧ fits T (gc G (t, x)) = true)
    (k : gA R y cc nL ret Q ck q0 lv st sh (gU M a fi x)) : gA R y cc nL ret Q ck pc lv ((t, x) :: (4, a) :: st) sh M := by
  subst hq0
  intro l G p e s m args below meth c H locs ls hC hH hlw hsw hl hS hB
  obtain ⟨hx, hb, hml, hr, hown, hts, hlk, hnm, hK⟩ := id hC
  subst hfi
  obtain ⟨r, ty, ⟨c1, c2, c3, c4, c5, c6⟩, hk, hw, hT, hfin2⟩ := hf
  have h5 := c5 f hk
  rw [hT, ht] at h5
  obtain ⟨hv, hsw2⟩ := List.forall_mem_cons.mp hsw
  rw [List.map_cons, List.map_cons, gc_ref G (gsh_nn hs).1]
  refine gz_putF (D := G.2.1) (ci := ci) (ty := T) (C := r.1) (T := r.2.1) (N := r.2.2) (fs := gO G M a ci) hx hb hts c2 ty c3 c4 hown hK.1 hH.2.1 gWs_D hS a.toNat (gWs_get hs) c1 f hk (hts _ hw) (hfin2.trans hfin) (hnm.trans hin) (hdecl r c1) (by rw [← hT]; exact c3 f hk) (hfit G).1 (hfit G).2 (by rw [show (gO G M a ci).length = (gFt.getD ci []).length by simp [gO]]; exact (List.getElem?_eq_some_iff.mp h5).1) hd (fun H1 locs1 hz1 hP1 hS1 => ?_)
  rw [gWs_put (i := (f : Int)) (v := x) hs (by rw [gO_set h5]; rfl)] at hP1
  refine k l G p e s m args below meth c H1 locs1 ls hC ⟨?_, hP1, gMw_U hH.2.2 hs (by rw [gKt_obj h5]; exact hv)⟩ hlw (List.forall_mem_cons.mp hsw2).2 hl hS1 hB
  exact hz1.trans hH.1

theorem g_iald {q0 : Nat} (hq0 : pc + 1 = q0) {n : Nat} {a x : Int} (hd : decode cc pc = .ok (.iaload, 1)) (hs : gsh sh a = some (1, n)) (h0 : 0 ≤ x) (hn : x < n)
    (k : gA R y cc nL ret Q ck q0 lv ((0, M a x) :: st) sh M) : gA R y cc nL ret Q ck pc lv ((0, x) :: (4, a) :: st) sh M := by
  subst hq0
  intro l G p e s m args below meth c H locs ls hC hH hlw hsw hl hS hB
  obtain ⟨hx, hb, hml, hr, hown, hts, hlk, hnm, hK⟩ := id hC
  obtain ⟨hv, hsw2⟩ := List.forall_mem_cons.mp hsw
  rw [List.map_cons, List.map_cons, gc_ref G (gsh_nn hs).1]
  refine va_iald (D := G.2.1) (tys := gTys G) hx hb hK.1 hH.2.1 a.toNat 0 (gWs_get hs) rfl (gi_in hv h0 hn) hd ?_
  rw [gi_cl hv, Int.toNat_of_nonneg h0]
  exact k l G p e s m args below meth c H locs ls hC hH hlw (List.forall_mem_cons.mpr ⟨gH_w hH hs x rfl, (List.forall_mem_cons.mp hsw2).2⟩) hl hS hB

theorem g_bald {q0 : Nat} (hq0 : pc + 1 = q0) {n : Nat} {a x : Int} (hd : decode cc pc = .ok (.baload, 1)) (hs : gsh sh a = some (2, n)) (h0 : 0 ≤ x) (hn : x < n)
    (k : gA R y cc nL ret Q ck q0 lv ((0, M a x) :: st) sh M) : gA R y cc nL ret Q ck pc lv ((0, x) :: (4, a) :: st) sh M := by
  subst hq0
  intro l G p e s m args below meth c H locs ls hC hH hlw hsw hl hS hB
  obtain ⟨hx, hb, hml, hr, hown, hts, hlk, hnm, hK⟩ := id hC
  obtain ⟨hv, hsw2⟩ := List.forall_mem_cons.mp hsw
  rw [List.map_cons, List.map_cons, gc_ref G (gsh_nn hs).1]
  refine va_bald (D := G.2.1) (tys := gTys G) hx hb hK.1 hH.2.1 a.toNat 1 (gWs_get hs) rfl (gi_in hv h0 hn) hd ?_
  rw [gi_cl hv, Int.toNat_of_nonneg h0]
  exact k l G p e s m args below meth c H locs ls hC hH hlw (List.forall_mem_cons.mpr ⟨gH_w hH hs x rfl, (List.forall_mem_cons.mp hsw2).2⟩) hl hS hB

theorem g_zald {q0 : Nat} (hq0 : pc + 1 = q0) {n : Nat} {a x : Int} (hd : decode cc pc = .ok (.baload, 1)) (hs : gsh sh a = some (3, n)) (h0 : 0 ≤ x) (hn : x < n)
    (k : gA R y cc nL ret Q ck q0 lv ((0, M a x) :: st) sh M) : gA R y cc nL ret Q ck pc lv ((0, x) :: (4, a) :: st) sh M := by
  subst hq0
  intro l G p e s m args below meth c H locs ls hC hH hlw hsw hl hS hB
  obtain ⟨hx, hb, hml, hr, hown, hts, hlk, hnm, hK⟩ := id hC
  obtain ⟨hv, hsw2⟩ := List.forall_mem_cons.mp hsw
  rw [List.map_cons, List.map_cons, gc_ref G (gsh_nn hs).1]
  refine va_zald (D := G.2.1) (tys := gTys G) hx hb hK.1 hH.2.1 a.toNat 2 (gWs_get hs) rfl (gi_in hv h0 hn) hd ?_
  rw [gi_cl hv, Int.toNat_of_nonneg h0]
  exact k l G p e s m args below meth c H locs ls hC hH hlw (List.forall_mem_cons.mpr ⟨gH_w hH hs x rfl, (List.forall_mem_cons.mp hsw2).2⟩) hl hS hB

theorem g_lald {q0 : Nat} (hq0 : pc + 1 = q0) {n : Nat} {a x : Int} (hd : decode cc pc = .ok (.laload, 1)) (hs : gsh sh a = some (4, n)) (h0 : 0 ≤ x) (hn : x < n)
    (k : gA R y cc nL ret Q ck q0 lv ((1, M a x) :: st) sh M) : gA R y cc nL ret Q ck pc lv ((0, x) :: (4, a) :: st) sh M := by
  subst hq0
  intro l G p e s m args below meth c H locs ls hC hH hlw hsw hl hS hB
  obtain ⟨hx, hb, hml, hr, hown, hts, hlk, hnm, hK⟩ := id hC
  obtain ⟨hv, hsw2⟩ := List.forall_mem_cons.mp hsw
  rw [List.map_cons, List.map_cons, gc_ref G (gsh_nn hs).1]
  refine va_lald (D := G.2.1) (tys := gTys G) hx hb hK.1 hH.2.1 a.toNat 3 (gWs_get hs) rfl (gi_in hv h0 hn) hd ?_
  rw [gi_cl hv, Int.toNat_of_nonneg h0]
  exact k l G p e s m args below meth c H locs ls hC hH hlw (List.forall_mem_cons.mpr ⟨gH_w hH hs x rfl, (List.forall_mem_cons.mp hsw2).2⟩) hl hS hB

theorem g_fald {q0 : Nat} (hq0 : pc + 1 = q0) {n : Nat} {a x : Int} (hd : decode cc pc = .ok (.faload, 1)) (hs : gsh sh a = some (5, n)) (h0 : 0 ≤ x) (hn : x < n)
    (k : gA R y cc nL ret Q ck q0 lv ((2, M a x) :: st) sh M) : gA R y cc nL ret Q ck pc lv ((0, x) :: (4, a) :: st) sh M := by
  subst hq0
  intro l G p e s m args below meth c H locs ls hC hH hlw hsw hl hS hB
  obtain ⟨hx, hb, hml, hr, hown, hts, hlk, hnm, hK⟩ := id hC
  obtain ⟨hv, hsw2⟩ := List.forall_mem_cons.mp hsw
  rw [List.map_cons, List.map_cons, gc_ref G (gsh_nn hs).1]
  refine va_fald (D := G.2.1) (tys := gTys G) hx hb hK.1 hH.2.1 a.toNat 4 (gWs_get hs) rfl (gi_in hv h0 hn) hd ?_
  rw [gi_cl hv, Int.toNat_of_nonneg h0]
  exact k l G p e s m args below meth c H locs ls hC hH hlw (List.forall_mem_cons.mpr ⟨gH_w hH hs x rfl, (List.forall_mem_cons.mp hsw2).2⟩) hl hS hB

theorem g_aald {q0 : Nat} (hq0 : pc + 1 = q0) {n q : Nat} {C : String} {a x : Int} (hd : decode cc pc = .ok (.aaload, 1)) (hs : gsh sh a = some (q + 6, n)) (hq : gT[q + 5]? = some (.object C)) (h0 : 0 ≤ x) (hn : x < n)
    (k : gA R y cc nL ret Q ck q0 lv ((4, M a x) :: st) sh M) : gA R y cc nL ret Q ck pc lv ((0, x) :: (4, a) :: st) sh M := by
  subst hq0
  intro l G p e s m args below meth c H locs ls hC hH hlw hsw hl hS hB
  obtain ⟨hx, hb, hml, hr, hown, hts, hlk, hnm, hK⟩ := id hC
  obtain ⟨hv, hsw2⟩ := List.forall_mem_cons.mp hsw
  rw [List.map_cons, List.map_cons, gc_ref G (gsh_nn hs).1]
  refine va_aldq (D := G.2.1) (tys := gTys G) (C := C) hx hb hK.1 hH.2.1 a.toNat (q + 5) (gWs_get hs) (by rw [gTys, List.getElem?_map, List.getElem?_zipIdx, hq]; simp) (gi_in hv h0 hn) hd ?_
  rw [gi_cl hv, Int.toNat_of_nonneg h0]
  exact k l G p e s m args below meth c H locs ls hC hH hlw (List.forall_mem_cons.mpr ⟨trivial, (List.forall_mem_cons.mp hsw2).2⟩) hl hS hB

theorem g_alen {q0 : Nat} (hq0 : pc + 1 = q0) {n q : Nat} {a : Int} (hd : decode cc pc = .ok (.arraylength, 1)) (hs : gsh sh a = some (q + 1, n)) (hn : n < 2147483648) (hq : ∃ ty, gT[q]? = some ty)
    (k : gA R y cc nL ret Q ck q0 lv ((0, (n : Int)) :: st) sh M) : gA R y cc nL ret Q ck pc lv ((4, a) :: st) sh M := by
  subst hq0
  intro l G p e s m args below meth c H locs ls hC hH hlw hsw hl hS hB
  obtain ⟨hx, hb, hml, hr, hown, hts, hlk, hnm, hK⟩ := id hC
  obtain ⟨ty, hq⟩ := hq
  rw [List.map_cons, gc_ref G (gsh_nn hs).1]
  obtain ⟨x0, hx1, hx2⟩ : ∃ x0 : vp_A, gE G M a (q + 1, n) = .inl (G.2.2.1 q, x0) ∧ x0.1 = n := by
    match q with
    | 0 => exact ⟨_, rfl, rfl⟩
    | 1 => exact ⟨_, rfl, rfl⟩
    | 2 => exact ⟨_, rfl, rfl⟩
    | 3 => exact ⟨_, rfl, rfl⟩
    | 4 => exact ⟨_, rfl, rfl⟩
    | n + 5 => exact ⟨_, rfl, rfl⟩
  refine va_alen (D := G.2.1) (tys := gTys G) (v := Int32.ofInt (n : Int)) hx hb hK.1 hH.2.1 a.toNat q (by rw [gWs_get hs, hx1]) (ty := ty) (by rw [gTys, List.getElem?_map, List.getElem?_zipIdx, hq]; simp) (by rw [hx2]; rfl) hd ?_
  exact k l G p e s m args below meth c H locs ls hC hH hlw (List.forall_mem_cons.mpr ⟨⟨by show (-2147483648 : Int) ≤ (n : Int); omega, by show (n : Int) < 2147483648; omega⟩, (List.forall_mem_cons.mp hsw).2⟩) hl hS hB

theorem g_iast {q0 : Nat} (hq0 : pc + 1 = q0) {n : Nat} {a x v : Int} (hd : decode cc pc = .ok (.iastore, 1)) (hs : gsh sh a = some (1, n)) (h0 : 0 ≤ x) (hn : x < n)
    (k : gA R y cc nL ret Q ck q0 lv st sh (gU M a x v)) : gA R y cc nL ret Q ck pc lv ((0, v) :: (0, x) :: (4, a) :: st) sh M := by
  subst hq0
  intro l G p e s m args below meth c H locs ls hC hH hlw hsw hl hS hB
  obtain ⟨hx, hb, hml, hr, hown, hts, hlk, hnm, hK⟩ := id hC
  obtain ⟨hv0, hsw1⟩ := List.forall_mem_cons.mp hsw
  obtain ⟨hv, hsw2⟩ := List.forall_mem_cons.mp hsw1
  rw [List.map_cons, List.map_cons, List.map_cons, gc_ref G (gsh_nn hs).1]
  refine gz_iast (D := G.2.1) (tys := gTys G) hx hb hK.1 hH.2.1 gWs_D hS a.toNat 0 (gWs_get hs) rfl (gi_in hv h0 hn) hd (fun H1 locs1 hz1 hP1 hS1 => ?_)
  rw [gi_cl hv] at hP1
  rw [gWs_put (i := x) (v := v) hs ?he] at hP1
  case he =>
    simp only [gE]
    congr 1; congr 1; congr 1; congr 1
    funext j
    by_cases hj : j = x.toNat
    · subst hj
      simp [upd, vp_updL, vf_upd, gU, Int.toNat_of_nonneg h0]
    · have e : ¬ ((j : Int) = x) := by omega
      simp [upd, vp_updL, vf_upd, gU, hj, e]
  refine k l G p e s m args below meth c H1 locs1 ls hC ⟨?_, hP1, gMw_U hH.2.2 hs (hv0)⟩ hlw (List.forall_mem_cons.mp hsw2).2 hl hS1 hB
  exact hz1.trans hH.1

theorem g_last {q0 : Nat} (hq0 : pc + 1 = q0) {n : Nat} {a x v : Int} (hd : decode cc pc = .ok (.lastore, 1)) (hs : gsh sh a = some (4, n)) (h0 : 0 ≤ x) (hn : x < n)
    (k : gA R y cc nL ret Q ck q0 lv st sh (gU M a x v)) : gA R y cc nL ret Q ck pc lv ((1, v) :: (0, x) :: (4, a) :: st) sh M := by
  subst hq0
  intro l G p e s m args below meth c H locs ls hC hH hlw hsw hl hS hB
  obtain ⟨hx, hb, hml, hr, hown, hts, hlk, hnm, hK⟩ := id hC
  obtain ⟨hv0, hsw1⟩ := List.forall_mem_cons.mp hsw
  obtain ⟨hv, hsw2⟩ := List.forall_mem_cons.mp hsw1
  rw [List.map_cons, List.map_cons, List.map_cons, gc_ref G (gsh_nn hs).1]
  refine gz_last (D := G.2.1) (tys := gTys G) hx hb hK.1 hH.2.1 gWs_D hS a.toNat 3 (gWs_get hs) rfl (gi_in hv h0 hn) hd (fun H1 locs1 hz1 hP1 hS1 => ?_)
  rw [gi_cl hv] at hP1
  rw [gWs_put (i := x) (v := v) hs ?he] at hP1
  case he =>
    simp only [gE]
    congr 1; congr 1; congr 1; congr 1; congr 1
    funext j
    by_cases hj : j = x.toNat
    · subst hj
      simp [upd, vp_updL, vf_upd, gU, Int.toNat_of_nonneg h0]
    · have e : ¬ ((j : Int) = x) := by omega
      simp [upd, vp_updL, vf_upd, gU, hj, e]
  refine k l G p e s m args below meth c H1 locs1 ls hC ⟨?_, hP1, gMw_U hH.2.2 hs (hv0)⟩ hlw (List.forall_mem_cons.mp hsw2).2 hl hS1 hB
  exact hz1.trans hH.1

theorem g_fast {q0 : Nat} (hq0 : pc + 1 = q0) {n : Nat} {a x v : Int} (hd : decode cc pc = .ok (.fastore, 1)) (hs : gsh sh a = some (5, n)) (h0 : 0 ≤ x) (hn : x < n)
    (k : gA R y cc nL ret Q ck q0 lv st sh (gU M a x v)) : gA R y cc nL ret Q ck pc lv ((2, v) :: (0, x) :: (4, a) :: st) sh M := by
  subst hq0
  intro l G p e s m args below meth c H locs ls hC hH hlw hsw hl hS hB
  obtain ⟨hx, hb, hml, hr, hown, hts, hlk, hnm, hK⟩ := id hC
  obtain ⟨hv0, hsw1⟩ := List.forall_mem_cons.mp hsw
  obtain ⟨hv, hsw2⟩ := List.forall_mem_cons.mp hsw1
  rw [List.map_cons, List.map_cons, List.map_cons, gc_ref G (gsh_nn hs).1]
  refine gz_fast (D := G.2.1) (tys := gTys G) hx hb hK.1 hH.2.1 gWs_D hS a.toNat 4 (gWs_get hs) rfl (gi_in hv h0 hn) hd (fun H1 locs1 hz1 hP1 hS1 => ?_)
  rw [gi_cl hv] at hP1
  rw [gWs_put (i := x) (v := v) hs ?he] at hP1
  case he =>
    simp only [gE]
    congr 1; congr 1; congr 1; congr 1; congr 1; congr 1
    funext j
    by_cases hj : j = x.toNat
    · subst hj
      simp [upd, vp_updL, vf_upd, gU, Int.toNat_of_nonneg h0]
    · have e : ¬ ((j : Int) = x) := by omega
      simp [upd, vp_updL, vf_upd, gU, hj, e]
  refine k l G p e s m args below meth c H1 locs1 ls hC ⟨?_, hP1, gMw_U hH.2.2 hs (hv0)⟩ hlw (List.forall_mem_cons.mp hsw2).2 hl hS1 hB
  exact hz1.trans hH.1

theorem g_bast {q0 : Nat} (hq0 : pc + 1 = q0) {n : Nat} {a x v : Int} (hd : decode cc pc = .ok (.bastore, 1)) (hs : gsh sh a = some (2, n)) (h0 : 0 ≤ x) (hn : x < n)
    (k : gA R y cc nL ret Q ck q0 lv st sh (gU M a x (gi2b v))) : gA R y cc nL ret Q ck pc lv ((0, v) :: (0, x) :: (4, a) :: st) sh M := by
  subst hq0
  intro l G p e s m args below meth c H locs ls hC hH hlw hsw hl hS hB
  obtain ⟨hx, hb, hml, hr, hown, hts, hlk, hnm, hK⟩ := id hC
  obtain ⟨hv0, hsw1⟩ := List.forall_mem_cons.mp hsw
  obtain ⟨hv, hsw2⟩ := List.forall_mem_cons.mp hsw1
  rw [List.map_cons, List.map_cons, List.map_cons, gc_ref G (gsh_nn hs).1]
  refine gz_bast (D := G.2.1) (tys := gTys G) hx hb hK.1 hH.2.1 gWs_D hS a.toNat 1 (gWs_get hs) rfl (gi_in hv h0 hn) hd (fun H1 locs1 hz1 hP1 hS1 => ?_)
  rw [gi_cl hv] at hP1
  rw [gWs_put (i := x) (v := (gi2b v)) hs ?he] at hP1
  case he =>
    simp only [gE]
    congr 1; congr 1; congr 1; congr 1
    funext j
    by_cases hj : j = x.toNat
    · subst hj
      simp [upd, vp_updL, vf_upd, gU, Int.toNat_of_nonneg h0]
      rw [vp_nar_byte, gi2b, Int32.ofInt_toInt]
    · have e : ¬ ((j : Int) = x) := by omega
      simp [upd, vp_updL, vf_upd, gU, hj, e]
  refine k l G p e s m args below meth c H1 locs1 ls hC ⟨?_, hP1, gMw_U hH.2.2 hs (gw_to _)⟩ hlw (List.forall_mem_cons.mp hsw2).2 hl hS1 hB
  exact hz1.trans hH.1

theorem g_zast {q0 : Nat} (hq0 : pc + 1 = q0) {n : Nat} {a x v : Int} (hd : decode cc pc = .ok (.bastore, 1)) (hs : gsh sh a = some (3, n)) (h0 : 0 ≤ x) (hn : x < n) (hz : v = 0 ∨ v = 1)
    (k : gA R y cc nL ret Q ck q0 lv st sh (gU M a x v)) : gA R y cc nL ret Q ck pc lv ((0, v) :: (0, x) :: (4, a) :: st) sh M := by
  subst hq0
  intro l G p e s m args below meth c H locs ls hC hH hlw hsw hl hS hB
  obtain ⟨hx, hb, hml, hr, hown, hts, hlk, hnm, hK⟩ := id hC
  obtain ⟨hv0, hsw1⟩ := List.forall_mem_cons.mp hsw
  obtain ⟨hv, hsw2⟩ := List.forall_mem_cons.mp hsw1
  rw [List.map_cons, List.map_cons, List.map_cons, gc_ref G (gsh_nn hs).1]
  refine gz_zast (D := G.2.1) (tys := gTys G) hx hb hK.1 hH.2.1 gWs_D hS a.toNat 2 (gWs_get hs) rfl (gi_in hv h0 hn) hd (fun H1 locs1 hz1 hP1 hS1 => ?_)
  rw [gi_cl hv] at hP1
  rw [gWs_put (i := x) (v := v) hs ?he] at hP1
  case he =>
    simp only [gE]
    congr 1; congr 1; congr 1; congr 1
    funext j
    by_cases hj : j = x.toNat
    · subst hj
      simp [upd, vp_updL, vf_upd, gU, Int.toNat_of_nonneg h0]
      rcases hz with rfl | rfl <;> rfl
    · have e : ¬ ((j : Int) = x) := by omega
      simp [upd, vp_updL, vf_upd, gU, hj, e]
  refine k l G p e s m args below meth c H1 locs1 ls hC ⟨?_, hP1, gMw_U hH.2.2 hs (hv0)⟩ hlw (List.forall_mem_cons.mp hsw2).2 hl hS1 hB
  exact hz1.trans hH.1

end

-- ---- making cells
def gdef (t : Nat) : Int := if t = 4 then -1 else 0
/-- the memory with a fresh cell at n: what stands in it by the types of its places -/
def gN (M : gM) (n : Int) (k : Nat × Nat) : gM := fun b j => if b = n then gdef (gKt k j) else M b j
theorem gN_old (M : gM) {n b : Int} (k : Nat × Nat) (h : b ≠ n) : gN M n k b = M b := by funext j; simp [gN, h]
theorem gsh_push {sh : gS} {k : Nat × Nat} {a : Int} {q : Nat × Nat} (h : gsh (sh ++ [k]) a = some q) : (a = (sh.length : Int) ∧ q = k) ∨ (a ≠ (sh.length : Int) ∧ gsh sh a = some q) := by
  obtain ⟨h0, h1⟩ := gsh_nn h
  rcases Nat.lt_trichotomy a.toNat sh.length with hb | hb | hb
  · rw [List.getElem?_append_left hb] at h1
    refine Or.inr ⟨by omega, ?_⟩
    have := gsh_of h1
    rwa [Int.toNat_of_nonneg h0] at this
  · rw [hb, List.getElem?_append_right (Nat.le_refl _), Nat.sub_self] at h1
    exact Or.inl ⟨by omega, (Option.some.inj h1).symm⟩
  · rw [List.getElem?_eq_none (by simp; omega)] at h1
    cases h1
theorem gsh_old {sh : gS} {k q : Nat × Nat} {a : Int} (h : gsh sh a = some q) : gsh (sh ++ [k]) a = some q := by
  obtain ⟨h0, h1⟩ := gsh_nn h
  have h2 : (sh ++ [k])[a.toNat]? = some q := by rw [List.getElem?_append_left (List.getElem?_eq_some_iff.mp h1).1]; exact h1
  have := gsh_of h2
  rwa [Int.toNat_of_nonneg h0] at this
theorem gsh_new (sh : gS) (k : Nat × Nat) : gsh (sh ++ [k]) (sh.length : Int) = some k := gsh_of (by simp)
theorem gw_def (t : Nat) : gw (t, gdef t) := by
  unfold gdef
  match t with
  | 0 => exact gw0
  | 1 => exact ⟨by decide, by decide⟩
  | 2 => exact ⟨by decide, by decide⟩
  | 3 => exact ⟨by decide, by decide⟩
  | n + 4 => exact trivial
theorem gMw_N {sh : gS} {M : gM} {k : Nat × Nat} (h : gMw sh M) : gMw (sh ++ [k]) (gN M (sh.length : Int) k) := by
  intro a q hq i
  rcases gsh_push hq with ⟨rfl, rfl⟩ | ⟨h1, h2⟩
  · simp only [gN, if_true]
    exact gw_def _
  · rw [gN_old M k h1]
    exact h a q h2 i
theorem gc_def (G : gG) {ty : FieldType} : defaultValue ty = gc G (gTag ty, gdef (gTag ty)) := by
  cases ty <;> first | rfl | (simp [gTag, gdef, gc, ga, va_rf, defaultValue])
section
variable {p : Program} {l : Launch} {e : Env} {R : Room} {s : State} {m : MethodId} {args : Array Value} {below : List Frame} {meth : Method} {c : Code} {H : Heap} {locs : List Loc} {cells slots : Nat} {Q : State → Prop}
variable {cc : ByteArray} {pc : Nat} {ls : Array Slot} {rest : List Value} {D : va_G} {cl : List vw_C} {tys : List (ClassId × FieldType)} {ws : va_W} {A : Nat → Prop} {H0 : Heap} {a : Nat}
theorem gz_new {c0 : Code} (hexec : p.tables.exec = Jvm.exec) (hb : c0.code = cc) {own C : String} {T : u_T} {N ci index : Nat} {Ts : List Cond} (hts : ∀ w ∈ Ts, w.before args s = true) (hin : ∀ w ∈ u_ws C T N, w ∈ Ts) (ty : Nat → FieldType) (hty : ∀ k, k < N → parseFieldDescriptor (T k).2.2.1 = some (ty k)) (hown : s.vm.findClass own = some m.cls) (hcl : (Cond.classLink own index C).before args s = true) (hinst : (Cond.instantiable C N).before args s = true) (hini : (Cond.initialized C).before args s = true)
    (hK : va_K D cl tys s) (hP : va_P D cl ws H) (hS : va_S A H0 H locs) (hc : cl[ci]? = some (C, T, N)) {fs : List Value} (hfs : ∀ j, j < N → defaultValue (ty j) = vp_V fs j) (hcells : cells + 1 ≤ R.cells) (hslots : slots + N ≤ R.slots) (hdg : decode cc pc = .ok (.new index, 3))
    (kk : ∀ (H1 : Heap), H1.size = H.size + 1 → va_P D cl (ws ++ [(H.size, .inr (ci, fs))]) H1 → va_S A H0 H1 locs →
      W p l e R s m args below meth c0 H1 locs (cells + 1) (slots + N) Q (F0 m (pc + 3) ls (.ref H.size :: rest))) : W p l e R s m args below meth c0 H locs cells slots Q (F0 m pc ls rest) := by
  have hKn := hK.1 ci _ hc
  refine W.newcK hexec hb hown hcl hinst hini rfl hdg hcells hslots hKn.2.1 rfl fun H1 kC hkC e1 z1 o1 => ?_
  have hk : ∀ (k : Nat) (x : Nat × va_E), ws[k]? = some x → H1[x.1]? = H[x.1]? := fun k x hx => o1 x.1 ((hP k x hx).lt)
  refine kk H1 z1 ((hP.kept hk).app (fun k x hx => ?_)) ⟨Nat.le_trans hS.1 (by omega), fun x h1 h2 => (o1 x (Nat.lt_of_lt_of_le h1 hS.1)).trans (hS.2.1 x h1 h2), hS.2.2⟩
  have hz : k < 1 := (List.getElem?_eq_some_iff.mp hx).1
  rw [show k = 0 by omega] at hx
  cases hx
  exact ⟨_, hc, (u_born ty hts hin hKn hkC e1 hty).to hfs⟩
theorem gz_newa (hexec : p.tables.exec = Jvm.exec) (hb : c.code = cc) {atype : ArrayType} (harr : (Cond.arrayClass (newarray.typeOf atype)).before args s = true) {ty : FieldType} (hty : newarray.typeOf atype = ty) (hP : va_P D cl ws H) (hS : va_S A H0 H locs)
    {n : Int32} {N2 : Nat} {a0 : vp_A} {cA : ClassId} (hcA : s.vm.findClass ("[" ++ ty.toString) = some cA) (ha : vp_cell cA a0 = arrV cA N2 (fun _ => defaultValue ty)) (hn : ¬ n < 0) (hN : n.toNatClampNeg = N2) (hbytes : N2 * componentBytes ty ≤ 536870912) (hcells : cells + 1 ≤ R.cells) (hslots : slots + N2 ≤ R.slots) (hdg : decode cc pc = .ok (.newarray atype, 2))
    (kk : ∀ (H1 : Heap), H1.size = H.size + 1 → va_P D cl (ws ++ [(H.size, .inl (cA, a0))]) H1 → va_S A H0 H1 locs →
      W p l e R s m args below meth c H1 locs (cells + 1) (slots + N2) Q (F0 m (pc + 2) ls (.ref H.size :: rest))) : W p l e R s m args below meth c H locs cells slots Q (F0 m pc ls (.int n :: rest)) := by
  subst hty
  refine va_newaK hexec hb harr rfl hdg rfl hn hN hbytes hcells hslots rfl fun H1 cA2 e1 z1 o1 hAr hNm => ?_
  have hcc : cA2 = cA := Option.some.inj (hNm.symm.trans hcA)
  subst hcc
  have hk : ∀ (k : Nat) (x : Nat × va_E), ws[k]? = some x → H1[x.1]? = H[x.1]? := fun k x hx => o1 x.1 ((hP k x hx).lt)
  refine kk H1 z1 ((hP.kept hk).app (fun k x hx => ?_)) ⟨Nat.le_trans hS.1 (by omega), fun x h1 h2 => (o1 x (Nat.lt_of_lt_of_le h1 hS.1)).trans (hS.2.1 x h1 h2), hS.2.2⟩
  have hz : k < 1 := (List.getElem?_eq_some_iff.mp hx).1
  rw [show k = 0 by omega] at hx
  cases hx
  show H1[H.size]? = some (vp_cell _ _)
  rw [ha]
  exact e1
theorem gz_newq (hexec : p.tables.exec = Jvm.exec) (hb : c.code = cc) {own C : String} {index : Nat} (hown : s.vm.findClass own = some m.cls) (hclink : (Cond.classLink own index C).before args s = true) (hover : va_AO C s) (hP : va_P D cl ws H) (hS : va_S A H0 H locs) {cA : ClassId} (hcA : s.vm.findClass ("[" ++ (FieldType.object C).toString) = some cA)
    {n : Int32} {N2 : Nat} (hn : ¬ n < 0) (hN : n.toNatClampNeg = N2) (hbytes : N2 * 4 ≤ 536870912) (hcells : cells + 1 ≤ R.cells) (hslots : slots + N2 ≤ R.slots) (hdg : decode cc pc = .ok (.anewarray index, 3))
    (kk : ∀ (H1 : Heap), H1.size = H.size + 1 → va_P D cl (ws ++ [(H.size, .inl (cA, N2, .inr (.inr (.inr (.inr (fun _ => none))))))]) H1 → va_S A H0 H1 locs →
      W p l e R s m args below meth c H1 locs (cells + 1) (slots + N2) Q (F0 m (pc + 3) ls (.ref H.size :: rest))) : W p l e R s m args below meth c H locs cells slots Q (F0 m pc ls (.int n :: rest)) := by
  subst hN
  refine W.anew hexec hb hown hclink (va_AO.use hover) rfl hdg rfl hn hbytes hcells hslots fun cA2 kA comp f1 f2 f3 f4 => ?_
  have hcc : cA2 = cA := by
    first | exact Option.some.inj (f1.symm.trans hcA) | exact Option.some.inj (f4.symm.trans hcA)
  subst hcc
  generalize hH1 : H.push ({ cls := cA2, slots := Array.replicate n.toNatClampNeg .null, vm := .none } : Cell) = H1
  have z1 : H1.size = H.size + 1 := by rw [← hH1, Array.size_push]
  have e1 : H1[H.size]? = some (arrV cA2 n.toNatClampNeg (fun _ => .null)) := by rw [← hH1, Array.getElem?_push_size, ← arrV_new]
  have o1 : ∀ q : Nat, q < H.size → H1[q]? = H[q]? := fun q hq => by rw [← hH1, Array.getElem?_push, if_neg (Nat.ne_of_lt hq)]
  have hk : ∀ (k : Nat) (x : Nat × va_E), ws[k]? = some x → H1[x.1]? = H[x.1]? := fun k x hx => o1 x.1 ((hP k x hx).lt)
  refine kk H1 z1 ((hP.kept hk).app (fun k x hx => ?_)) ⟨Nat.le_trans hS.1 (by omega), fun x h1 h2 => (o1 x (Nat.lt_of_lt_of_le h1 hS.1)).trans (hS.2.1 x h1 h2), hS.2.2⟩
  have hz : k < 1 := (List.getElem?_eq_some_iff.mp hx).1
  rw [show k = 0 by omega] at hx
  cases hx
  show H1[H.size]? = some (vp_cell _ _)
  rw [vp_cell_q]
  exact e1
theorem gz_aast (hexec : p.tables.exec = Jvm.exec) (hb : c.code = cc) (hK : va_K D cl tys s) (hP : va_P D cl ws H) (hD : va_D A ws) (hS : va_S A H0 H locs) (q0 t0 qk ci : Nat) {cA : ClassId} {r : vw_C} {n v : Nat} {vs : List Value} {f : Nat → Option Nat} (ha : ws[q0]? = some (a, .inl (cA, n, .inr (.inr (.inr (.inr f)))))) (ht : tys[t0]? = some (cA, .object r.1)) (hv : ws[qk]? = some (v, .inr (ci, vs))) (hc : cl[ci]? = some r) {i : Int32} (hin : vp_in i n) (hdg : decode cc pc = .ok (.aastore, 1))
    (kk : ∀ (H1 : Heap) (locs1 : List Loc), H1.size = H.size → va_P D cl (ws.set q0 (a, .inl (cA, n, .inr (.inr (.inr (.inr (va_up f i.toNatClampNeg (some v)))))))) H1 → va_S A H0 H1 locs1 → W p l e R s m args below meth c H1 locs1 cells slots Q (F0 m (pc + 1) ls rest)) : W p l e R s m args below meth c H locs cells slots Q (F0 m pc ls (.ref v :: .int i :: .ref a :: rest)) := by
  have hlt : i.toNatClampNeg < n := Nat.not_le.mp fun q => hin (Or.inr q)
  have h0 : ¬ i < 0 := fun q => hin (Or.inl q)
  obtain ⟨r2, hr2, cellV, g1, g2, g3, -⟩ := hP qk _ hv
  have hcls := (hK.1 ci r hc).2
  obtain ⟨kA, comp, k1, k2, k3, -⟩ := (hK.2 t0 _ ht).2
  have hcomp : comp = D.1 ci := Option.some.inj (k3.symm.trans hcls.1)
  subst hcomp
  obtain ⟨kC, hkC, -⟩ := hcls.2
  refine W.aast hexec hb (hP q0 _ ha) (fun q h => by cases h) (fun h => by cases h) k1 k2 rfl hkC ⟨h0, by show _ < (arrV _ _ _).slots.size; rw [arrV_size]; exact hlt⟩ g1 (fun q h => by rw [g3] at h; cases h) (by rw [g2]; exact hkC) (by rw [g2]; exact va_assign hcls) rfl rfl hdg fun H1 e z oq => ?_
  refine kk H1 _ z (hP.set hD ha ?_ oq) (hS.put z oq (hD.2 q0 _ ha))
  show H1[a]? = some (vp_cell _ _)
  rw [e]
  rw [vp_cell_q, vp_cell_q, arrV_store]
  congr 2
  funext q
  by_cases hq : q = i.toNatClampNeg
  · subst hq
    simp [updV, va_up, va_rf]
  · simp [updV, va_up, hq]
end
theorem gO_new {G : gG} {M : gM} {n : Int} {ci k t : Nat} (h : (gFt.getD ci [])[k]? = some t) : (gO G (gN M n (0, ci)) n ci)[k]? = some (gc G (t, gdef t)) := by
  rw [gO_at h]
  simp only [gN, if_true, gKt_obj h]

section
variable {R : Room} {y : MethodName} {cc : ByteArray} {nL : Nat} {ret : Option FieldType} {Q : Option gV → gS → gM → Prop} {ck : Nat × Nat} {pc : Nat} {lv st : List gV} {sh : gS} {M : gM}

theorem g_new {q0 : Nat} (hq0 : pc + 3 = q0) {idx ci N : Nat} {C : String} {r : vw_C} {ty : Nat → FieldType} (hcl : gCL ci r ty) (hrC : r.1 = C) (hrN : r.2.2 = N) (hw1 : Cond.classLink y.cls idx C ∈ gAll) (hw2 : Cond.instantiable C N ∈ gAll) (hw3 : Cond.initialized C ∈ gAll) (hd : decode cc pc = .ok (.new idx, 3)) (hc1 : ck.1 + 1 ≤ R.cells) (hc2 : ck.2 + N ≤ R.slots)
    (k : gA R y cc nL ret Q (ck.1 + 1, ck.2 + N) q0 lv ((4, (sh.length : Int)) :: st) (sh ++ [(0, ci)]) (gN M (sh.length : Int) (0, ci))) : gA R y cc nL ret Q ck pc lv st sh M := by
  subst hq0
  intro l G p e s m args below meth c H locs ls hC hH hlw hsw hl hS hB
  obtain ⟨hx, hb, hml, hr, hown, hts, hlk, hnm, hK⟩ := id hC
  subst hrC; subst hrN
  obtain ⟨c1, c2, c3, c4, c5, c6⟩ := hcl
  have hsz : H.size = G.1 + sh.length := hH.1
  refine gz_new (fs := gO G (gN M (sh.length : Int) (0, ci)) (sh.length : Int) ci) (N := r.2.2) hx hb hts c2 ty c3 hown (hts _ hw1) (hts _ hw2) (hts _ hw3) hK.1 hH.2.1 hS c1 (fun j hj => ?_) hc1 hc2 hd (fun H1 hz1 hP1 hS1 => ?_)
  · show _ = (gO G _ _ ci).getD j .null
    rw [List.getD_eq_getElem?_getD, gO_new (c5 j hj)]
    exact gc_def G
  · have h9 := k l G p e s m args below meth c H1 locs ls hC ⟨by rw [hz1, hsz, List.length_append]; rfl, ?_, gMw_N hH.2.2⟩ hlw (List.forall_mem_cons.mpr ⟨trivial, hsw⟩) hl hS1 hB
    · rw [List.map_cons, gc_ref G (Int.natCast_nonneg _), Int.toNat_natCast, ← hsz] at h9
      exact h9
    · rw [gWs_push (fun b hb2 => gN_old M _ hb2), ← hsz]
      exact hP1

theorem g_newI {q0 : Nat} (hq0 : pc + 2 = q0) {n : Nat} {x : Int} (hxn : x = (n : Int)) (hw1 : Cond.arrayClass .int ∈ gAll) (hd : decode cc pc = .ok (.newarray .int, 2)) (hn : n ≤ 100000) (hc1 : ck.1 + 1 ≤ R.cells) (hc2 : ck.2 + n ≤ R.slots)
    (k : gA R y cc nL ret Q (ck.1 + 1, ck.2 + n) q0 lv ((4, (sh.length : Int)) :: st) (sh ++ [(1, n)]) (gN M (sh.length : Int) (1, n))) : gA R y cc nL ret Q ck pc lv ((0, x) :: st) sh M := by
  subst hq0
  intro l G p e s m args below meth c H locs ls hC hH hlw hsw hl hS hB
  obtain ⟨hx, hb, hml, hr, hown, hts, hlk, hnm, hK⟩ := id hC
  subst hxn
  obtain ⟨hv, hsw2⟩ := List.forall_mem_cons.mp hsw
  have hsz : H.size = G.1 + sh.length := hH.1
  refine gz_newa (atype := .int) (ty := .int) (D := G.2.1) (cl := vwCl) (N2 := n) (a0 := (n, .inl (fun _ => 0))) (cA := G.2.2.1 0) hx hb (hts _ hw1) rfl hH.2.1 hS (hK.1.2 0 _ rfl).2 ?_ (fun q => absurd ((gi_lt hv gw0).mp q) (by omega)) (by rw [gi_cl hv, Int.toNat_natCast]) (by simp only [componentBytes]; omega) hc1 hc2 hd (fun H1 hz1 hP1 hS1 => ?_)
  · first
      | rfl
      | (simp only [vp_cell_i, vp_cell_l, vp_cell_f]; rfl)
  · have h9 := k l G p e s m args below meth c H1 locs ls hC ⟨by rw [hz1, hsz, List.length_append]; rfl, ?_, gMw_N hH.2.2⟩ hlw (List.forall_mem_cons.mpr ⟨trivial, hsw2⟩) hl hS1 hB
    · rw [List.map_cons, gc_ref G (Int.natCast_nonneg _), Int.toNat_natCast, ← hsz] at h9
      exact h9
    · rw [gWs_push (fun b hb2 => gN_old M _ hb2), ← hsz]
      have e0 : gE G (gN M (sh.length : Int) (1, n)) (sh.length : Int) (1, n) = .inl (G.2.2.1 0, n, .inl (fun _ => 0)) := by
        simp [gE, gN, gKt, gdef]
        try rfl
      rw [e0]
      exact hP1

theorem g_newB {q0 : Nat} (hq0 : pc + 2 = q0) {n : Nat} {x : Int} (hxn : x = (n : Int)) (hw1 : Cond.arrayClass .byte ∈ gAll) (hd : decode cc pc = .ok (.newarray .byte, 2)) (hn : n ≤ 100000) (hc1 : ck.1 + 1 ≤ R.cells) (hc2 : ck.2 + n ≤ R.slots)
    (k : gA R y cc nL ret Q (ck.1 + 1, ck.2 + n) q0 lv ((4, (sh.length : Int)) :: st) (sh ++ [(2, n)]) (gN M (sh.length : Int) (2, n))) : gA R y cc nL ret Q ck pc lv ((0, x) :: st) sh M := by
  subst hq0
  intro l G p e s m args below meth c H locs ls hC hH hlw hsw hl hS hB
  obtain ⟨hx, hb, hml, hr, hown, hts, hlk, hnm, hK⟩ := id hC
  subst hxn
  obtain ⟨hv, hsw2⟩ := List.forall_mem_cons.mp hsw
  have hsz : H.size = G.1 + sh.length := hH.1
  refine gz_newa (atype := .byte) (ty := .byte) (D := G.2.1) (cl := vwCl) (N2 := n) (a0 := (n, .inl (fun _ => 0))) (cA := G.2.2.1 1) hx hb (hts _ hw1) rfl hH.2.1 hS (hK.1.2 1 _ rfl).2 ?_ (fun q => absurd ((gi_lt hv gw0).mp q) (by omega)) (by rw [gi_cl hv, Int.toNat_natCast]) (by simp only [componentBytes]; omega) hc1 hc2 hd (fun H1 hz1 hP1 hS1 => ?_)
  · first
      | rfl
      | (simp only [vp_cell_i, vp_cell_l, vp_cell_f]; rfl)
  · have h9 := k l G p e s m args below meth c H1 locs ls hC ⟨by rw [hz1, hsz, List.length_append]; rfl, ?_, gMw_N hH.2.2⟩ hlw (List.forall_mem_cons.mpr ⟨trivial, hsw2⟩) hl hS1 hB
    · rw [List.map_cons, gc_ref G (Int.natCast_nonneg _), Int.toNat_natCast, ← hsz] at h9
      exact h9
    · rw [gWs_push (fun b hb2 => gN_old M _ hb2), ← hsz]
      have e0 : gE G (gN M (sh.length : Int) (2, n)) (sh.length : Int) (2, n) = .inl (G.2.2.1 1, n, .inl (fun _ => 0)) := by
        simp [gE, gN, gKt, gdef]
        try rfl
      rw [e0]
      exact hP1

theorem g_newZ {q0 : Nat} (hq0 : pc + 2 = q0) {n : Nat} {x : Int} (hxn : x = (n : Int)) (hw1 : Cond.arrayClass .boolean ∈ gAll) (hd : decode cc pc = .ok (.newarray .boolean, 2)) (hn : n ≤ 100000) (hc1 : ck.1 + 1 ≤ R.cells) (hc2 : ck.2 + n ≤ R.slots)
    (k : gA R y cc nL ret Q (ck.1 + 1, ck.2 + n) q0 lv ((4, (sh.length : Int)) :: st) (sh ++ [(3, n)]) (gN M (sh.length : Int) (3, n))) : gA R y cc nL ret Q ck pc lv ((0, x) :: st) sh M := by
  subst hq0
  intro l G p e s m args below meth c H locs ls hC hH hlw hsw hl hS hB
  obtain ⟨hx, hb, hml, hr, hown, hts, hlk, hnm, hK⟩ := id hC
  subst hxn
  obtain ⟨hv, hsw2⟩ := List.forall_mem_cons.mp hsw
  have hsz : H.size = G.1 + sh.length := hH.1
  refine gz_newa (atype := .boolean) (ty := .boolean) (D := G.2.1) (cl := vwCl) (N2 := n) (a0 := (n, .inl (fun _ => 0))) (cA := G.2.2.1 2) hx hb (hts _ hw1) rfl hH.2.1 hS (hK.1.2 2 _ rfl).2 ?_ (fun q => absurd ((gi_lt hv gw0).mp q) (by omega)) (by rw [gi_cl hv, Int.toNat_natCast]) (by simp only [componentBytes]; omega) hc1 hc2 hd (fun H1 hz1 hP1 hS1 => ?_)
  · first
      | rfl
      | (simp only [vp_cell_i, vp_cell_l, vp_cell_f]; rfl)
  · have h9 := k l G p e s m args below meth c H1 locs ls hC ⟨by rw [hz1, hsz, List.length_append]; rfl, ?_, gMw_N hH.2.2⟩ hlw (List.forall_mem_cons.mpr ⟨trivial, hsw2⟩) hl hS1 hB
    · rw [List.map_cons, gc_ref G (Int.natCast_nonneg _), Int.toNat_natCast, ← hsz] at h9
      exact h9
    · rw [gWs_push (fun b hb2 => gN_old M _ hb2), ← hsz]
      have e0 : gE G (gN M (sh.length : Int) (3, n)) (sh.length : Int) (3, n) = .inl (G.2.2.1 2, n, .inl (fun _ => 0)) := by
        simp [gE, gN, gKt, gdef]
        try rfl
      rw [e0]
      exact hP1

theorem g_newJ {q0 : Nat} (hq0 : pc + 2 = q0) {n : Nat} {x : Int} (hxn : x = (n : Int)) (hw1 : Cond.arrayClass .long ∈ gAll) (hd : decode cc pc = .ok (.newarray .long, 2)) (hn : n ≤ 100000) (hc1 : ck.1 + 1 ≤ R.cells) (hc2 : ck.2 + n ≤ R.slots)
    (k : gA R y cc nL ret Q (ck.1 + 1, ck.2 + n) q0 lv ((4, (sh.length : Int)) :: st) (sh ++ [(4, n)]) (gN M (sh.length : Int) (4, n))) : gA R y cc nL ret Q ck pc lv ((0, x) :: st) sh M := by
  subst hq0
  intro l G p e s m args below meth c H locs ls hC hH hlw hsw hl hS hB
  obtain ⟨hx, hb, hml, hr, hown, hts, hlk, hnm, hK⟩ := id hC
  subst hxn
  obtain ⟨hv, hsw2⟩ := List.forall_mem_cons.mp hsw
  have hsz : H.size = G.1 + sh.length := hH.1
  refine gz_newa (atype := .long) (ty := .long) (D := G.2.1) (cl := vwCl) (N2 := n) (a0 := (n, .inr (.inl (fun _ => 0)))) (cA := G.2.2.1 3) hx hb (hts _ hw1) rfl hH.2.1 hS (hK.1.2 3 _ rfl).2 ?_ (fun q => absurd ((gi_lt hv gw0).mp q) (by omega)) (by rw [gi_cl hv, Int.toNat_natCast]) (by simp only [componentBytes]; omega) hc1 hc2 hd (fun H1 hz1 hP1 hS1 => ?_)
  · first
      | rfl
      | (simp only [vp_cell_i, vp_cell_l, vp_cell_f]; rfl)
  · have h9 := k l G p e s m args below meth c H1 locs ls hC ⟨by rw [hz1, hsz, List.length_append]; rfl, ?_, gMw_N hH.2.2⟩ hlw (List.forall_mem_cons.mpr ⟨trivial, hsw2⟩) hl hS1 hB
    · rw [List.map_cons, gc_ref G (Int.natCast_nonneg _), Int.toNat_natCast, ← hsz] at h9
      exact h9
    · rw [gWs_push (fun b hb2 => gN_old M _ hb2), ← hsz]
      have e0 : gE G (gN M (sh.length : Int) (4, n)) (sh.length : Int) (4, n) = .inl (G.2.2.1 3, n, .inr (.inl (fun _ => 0))) := by
        simp [gE, gN, gKt, gdef]
        try rfl
      rw [e0]
      exact hP1

theorem g_newF {q0 : Nat} (hq0 : pc + 2 = q0) {n : Nat} {x : Int} (hxn : x = (n : Int)) (hw1 : Cond.arrayClass .float ∈ gAll) (hd : decode cc pc = .ok (.newarray .float, 2)) (hn : n ≤ 100000) (hc1 : ck.1 + 1 ≤ R.cells) (hc2 : ck.2 + n ≤ R.slots)
    (k : gA R y cc nL ret Q (ck.1 + 1, ck.2 + n) q0 lv ((4, (sh.length : Int)) :: st) (sh ++ [(5, n)]) (gN M (sh.length : Int) (5, n))) : gA R y cc nL ret Q ck pc lv ((0, x) :: st) sh M := by
  subst hq0
  intro l G p e s m args below meth c H locs ls hC hH hlw hsw hl hS hB
  obtain ⟨hx, hb, hml, hr, hown, hts, hlk, hnm, hK⟩ := id hC
  subst hxn
  obtain ⟨hv, hsw2⟩ := List.forall_mem_cons.mp hsw
  have hsz : H.size = G.1 + sh.length := hH.1
  refine gz_newa (atype := .float) (ty := .float) (D := G.2.1) (cl := vwCl) (N2 := n) (a0 := (n, .inr (.inr (.inl (fun _ => 0))))) (cA := G.2.2.1 4) hx hb (hts _ hw1) rfl hH.2.1 hS (hK.1.2 4 _ rfl).2 ?_ (fun q => absurd ((gi_lt hv gw0).mp q) (by omega)) (by rw [gi_cl hv, Int.toNat_natCast]) (by simp only [componentBytes]; omega) hc1 hc2 hd (fun H1 hz1 hP1 hS1 => ?_)
  · first
      | rfl
      | (simp only [vp_cell_i, vp_cell_l, vp_cell_f]; rfl)
  · have h9 := k l G p e s m args below meth c H1 locs ls hC ⟨by rw [hz1, hsz, List.length_append]; rfl, ?_, gMw_N hH.2.2⟩ hlw (List.forall_mem_cons.mpr ⟨trivial, hsw2⟩) hl hS1 hB
    · rw [List.map_cons, gc_ref G (Int.natCast_nonneg _), Int.toNat_natCast, ← hsz] at h9
      exact h9
    · rw [gWs_push (fun b hb2 => gN_old M _ hb2), ← hsz]
      have e0 : gE G (gN M (sh.length : Int) (5, n)) (sh.length : Int) (5, n) = .inl (G.2.2.1 4, n, .inr (.inr (.inl (fun _ => 0)))) := by
        simp [gE, gN, gKt, gdef]
        try rfl
      rw [e0]
      exact hP1

theorem g_newq {q0 : Nat} (hq0 : pc + 3 = q0) {n q idx : Nat} {x : Int} {C : String} (hxn : x = (n : Int)) (hw1 : Cond.classLink y.cls idx C ∈ gAll) (hq : gT[q + 5]? = some (.object C)) (hC5 : C ∈ [RX10, RX7, RX5]) (hd : decode cc pc = .ok (.anewarray idx, 3)) (hn : n ≤ 100000) (hc1 : ck.1 + 1 ≤ R.cells) (hc2 : ck.2 + n ≤ R.slots)
    (k : gA R y cc nL ret Q (ck.1 + 1, ck.2 + n) q0 lv ((4, (sh.length : Int)) :: st) (sh ++ [(q + 6, n)]) (gN M (sh.length : Int) (q + 6, n))) : gA R y cc nL ret Q ck pc lv ((0, x) :: st) sh M := by
  subst hq0
  intro l G p e s m args below meth c H locs ls hC hH hlw hsw hl hS hB
  obtain ⟨hx, hb, hml, hr, hown, hts, hlk, hnm, hK⟩ := id hC
  subst hxn
  obtain ⟨hv, hsw2⟩ := List.forall_mem_cons.mp hsw
  have hsz : H.size = G.1 + sh.length := hH.1
  obtain ⟨kA, comp, -, -, -, hfc⟩ := (hK.1.2 (q + 5) (G.2.2.1 (q + 5), .object C) (by rw [gTys, List.getElem?_map, List.getElem?_zipIdx, hq]; simp)).2
  refine gz_newq (D := G.2.1) (cl := vwCl) (C := C) (N2 := n) (cA := G.2.2.1 (q + 5)) hx hb hown (hts _ hw1) (hK.2.2.1 C hC5) hH.2.1 hS hfc (fun q => absurd ((gi_lt hv gw0).mp q) (by omega)) (by rw [gi_cl hv, Int.toNat_natCast]) (by omega) hc1 hc2 hd (fun H1 hz1 hP1 hS1 => ?_)
  have h9 := k l G p e s m args below meth c H1 locs ls hC ⟨by rw [hz1, hsz, List.length_append]; rfl, ?_, gMw_N hH.2.2⟩ hlw (List.forall_mem_cons.mpr ⟨trivial, hsw2⟩) hl hS1 hB
  · rw [List.map_cons, gc_ref G (Int.natCast_nonneg _), Int.toNat_natCast, ← hsz] at h9
    exact h9
  · rw [gWs_push (fun b hb2 => gN_old M _ hb2), ← hsz]
    have e0 : gE G (gN M (sh.length : Int) (q + 6, n)) (sh.length : Int) (q + 6, n) = .inl (G.2.2.1 (q + 5), n, .inr (.inr (.inr (.inr (fun _ => none))))) := by
      simp [gE, gN, gKt, gdef, ga]
    rw [e0]
    exact hP1

theorem g_aast {q0 : Nat} (hq0 : pc + 1 = q0) {n q ci : Nat} {C : String} {r : vw_C} {a x v : Int} (hd : decode cc pc = .ok (.aastore, 1)) (hs : gsh sh a = some (q + 6, n)) (hq : gT[q + 5]? = some (.object C)) (h0 : 0 ≤ x) (hn : x < n) (hsv : gsh sh v = some (0, ci)) (hvr : vwCl[ci]? = some r) (hrC : r.1 = C)
    (k : gA R y cc nL ret Q ck q0 lv st sh (gU M a x v)) : gA R y cc nL ret Q ck pc lv ((4, v) :: (0, x) :: (4, a) :: st) sh M := by
  subst hq0
  intro l G p e s m args below meth c H locs ls hC hH hlw hsw hl hS hB
  obtain ⟨hx, hb, hml, hr, hown, hts, hlk, hnm, hK⟩ := id hC
  subst hrC
  obtain ⟨hv0, hsw1⟩ := List.forall_mem_cons.mp hsw
  obtain ⟨hv, hsw2⟩ := List.forall_mem_cons.mp hsw1
  rw [List.map_cons, List.map_cons, List.map_cons, gc_ref G (gsh_nn hs).1, gc_ref G (gsh_nn hsv).1]
  refine gz_aast (D := G.2.1) (tys := gTys G) (r := r) hx hb hK.1 hH.2.1 gWs_D hS a.toNat (q + 5) v.toNat ci (gWs_get hs) (by rw [gTys, List.getElem?_map, List.getElem?_zipIdx, hq]; simp) (gWs_get hsv) hvr (gi_in hv h0 hn) hd (fun H1 locs1 hz1 hP1 hS1 => ?_)
  rw [gi_cl hv] at hP1
  rw [gWs_put (i := x) (v := v) hs ?he] at hP1
  case he =>
    simp only [gE]
    congr 1; congr 1; congr 1; congr 1; congr 1; congr 1; congr 1
    funext j
    by_cases hj : j = x.toNat
    · subst hj
      have hv1 : ¬ v < 0 := by have := (gsh_nn hsv).1; omega
      simp [va_up, gU, Int.toNat_of_nonneg h0, ga, hv1]
    · have e : ¬ ((j : Int) = x) := by omega
      simp [va_up, gU, hj, e]
  refine k l G p e s m args below meth c H1 locs1 ls hC ⟨?_, hP1, gMw_U hH.2.2 hs trivial⟩ hlw (List.forall_mem_cons.mp hsw2).2 hl hS1 hB
  exact hz1.trans hH.1

end

-- ---- calls
theorem gK_at {G : gG} {s U : State} {H : Heap} {locs : List Loc} (hK : gK G s) (hS : va_S (fun q => G.1 ≤ q) s.heap H locs) (hB : G.1 ≤ s.heap.size) (hU : U.heap = H) (hW : s.WarmedH U.vm) : gK G U :=
  ⟨va_K.moved hW.alike hK.1, gX_moved hW (fun q hq => by rw [hU]; exact hS.2.1 q (Nat.lt_of_lt_of_le hq hB) (Nat.not_le.mpr hq)) hK.2⟩
theorem gX_same {G : gG} {u U : State} (hv : U.vm = u.vm) (hh : U.heap = u.heap) (h : gX G u) : gX G U := gX_moved (by rw [hv]; exact State.WarmedH.refl u) (fun q _ => by rw [hh]) h
theorem gBlind {G : gG} {av : List gV} {sh : gS} {M : gM} : FrameBlind (va_Pc (av.map (gc G)) (fun U => G.1 ≤ U.heap.size ∧ gH G sh M U.heap ∧ gK G U ∧ ∀ v ∈ av, gw v)) := by
  intro a U g mk h
  obtain ⟨h1, h2, h3, h4, h5⟩ := h
  exact ⟨h1, h2, h3, ⟨va_K.moved (u := U) (U := U.calling g mk a) (Vm.Alike.refl U.vm) h4.1, gX_same (u := U) (U := U.calling g mk a) rfl rfl h4.2⟩, h5⟩
section
variable {p : Program} {l : Launch} {e : Env} {R : Room} {s : State} {m : MethodId} {args : Array Value} {below : List Frame} {meth : Method} {c : Code} {H : Heap} {locs : List Loc} {cells slots : Nat} {Q : State → Prop}
variable {pc : Nat} {ls : Array Slot} {rest st0 : List Value} {a : Array Value} {mc ms : Nat}
theorem g_after {G : gG} {Qc : Option gV → gS → gM → Prop} (hr : va_Run p l e R s m args below meth c H locs cells slots mc ms (F0 m pc ls st0) rest (gQ G Qc a) (fun q => G.1 ≤ q)) (hS : va_S (fun q => G.1 ≤ q) s.heap H locs) (hB : G.1 ≤ s.heap.size)
    (kk : ∀ (r : Option gV) (sh1 : gS) (M1 : gM) (H1 : Heap) (locs1 : List Loc), Qc r sh1 M1 → (∀ v, r = some v → gw v) → gH G sh1 M1 H1 → va_S (fun q => G.1 ≤ q) s.heap H1 locs1 → W p l e R s m args below meth c H1 locs1 (cells + mc) (slots + ms) Q (F0 m (pc + 3) ls ((r.toList ++ []).map (gc G) ++ rest))) : W p l e R s m args below meth c H locs cells slots Q (F0 m pc ls st0) := by
  intro T hT X
  obtain ⟨v, st₀, t, T2, L, h0, X2, hL, e1, e2, ⟨⟨r, sh1, M1, hv, hq, hw, hH1⟩, hz, hk⟩, st⟩ := hr T hT X
  cases hv
  rw [h0] at hz hk
  obtain ⟨t2, a1, b1⟩ := kk r sh1 M1 T2.heap (locs ++ L) hq hw (by rw [e1]; exact hH1)
    ⟨Nat.le_trans hS.1 (by rw [e1]; exact hz), fun q h1 h2 => by rw [e1, hk q (Nat.lt_of_lt_of_le h1 hS.1) h2]; exact hS.2.1 q h1 h2, fun q hq2 => by
      rcases List.mem_append.mp hq2 with h | h
      · exact hS.2.2 q h
      · exact hL q h⟩ T2 rfl X2
  refine ⟨t2, st t2 ?_, b1⟩
  cases r with
  | none => exact a1
  | some v => exact a1
end
/-- what is said of a method that is called: its code, its class, its arguments -/
def gMt (yc : MethodName) (cb : ByteArray) (nb : Nat) (rb : Option FieldType) (n : Nat) : Prop :=
  Cond.code yc cb nb rb ∈ gAll ∧ Cond.initialized yc.cls ∈ gAll ∧ (yc.cls ≠ "java/lang/invoke/MethodHandle" ∧ yc.cls ≠ "java/lang/invoke/VarHandle") ∧ (parseMethodDescriptor yc.desc).map (fun d => d.parameters.length) = some n
theorem gMt_B {R Rb : Room} {s : State} {args : Array Value} {own : String} {idx : Nat} {yc : MethodName} {cb : ByteArray} {nb : Nat} {rb : Option FieldType} {n : Nat} (h : gMt yc cb nb rb n) (hts : ∀ w ∈ gAll, w.before args s = true) (hR : Rb.frames + 1 ≤ R.frames ∧ 8 + (nb + 11) + Rb.locals ≤ R.locals) (hl : Cond.methodLink own idx yc ∈ gAll) :
    CallB R s args own idx yc cb nb rb (.code yc cb nb rb :: gAll) Rb Rb.cells Rb.slots n := by
  obtain ⟨h1, h2, h3, h4⟩ := h
  refine ⟨rfl, rfl, hR.1, hR.2, pay_in hts (fun w hw => ?_), List.mem_cons_self, hts _ h1, hts _ h2, h3, fun sig hs => ?_, hts _ hl⟩
  · rcases List.mem_cons.mp hw with rfl | hw
    · exact gAll_good _ h1
    · exact gAll_good _ hw
  · rw [hs] at h4
    exact (Option.some.inj h4).symm

section
variable {R : Room} {y : MethodName} {cc : ByteArray} {nL : Nat} {ret : Option FieldType} {Q : Option gV → gS → gM → Prop} {ck : Nat × Nat} {pc : Nat} {lv st : List gV} {sh : gS} {M : gM}

theorem g_callV {q0 : Nat} {Rb : Room} {yc : MethodName} {cb : ByteArray} {nb n idx : Nat} {rb : Option FieldType} {Qc : Option gV → gS → gM → Prop} {rest as : List gV} {a : Int} {ci : Nat} {rc : vw_C} (hm : gMt yc cb nb rb n) (hi : Cond.instanceMethod yc ∈ gAll) (hse : Cond.selects yc.cls yc yc ∈ gAll) (hl0 : Cond.methodLink y.cls idx yc ∈ gAll) (hd : decode cc pc = .ok (.invokevirtual idx, 3)) (hq0 : pc + 3 = q0) (hst : ((4, a) :: as).reverse ++ rest = st) (hs : gsh sh a = some (0, ci)) (hrc : vwCl[ci]? = some rc) (hrC : rc.1 = yc.cls)
    (hc : gC Rb yc cb nb rb ((4, a) :: as) sh M Qc) (hn : as.length = n) (hR : Rb.frames + 1 ≤ R.frames ∧ 8 + (nb + 11) + Rb.locals ≤ R.locals) (hcs : ck.1 + Rb.cells ≤ R.cells ∧ ck.2 + Rb.slots ≤ R.slots) (hrest : (rest.map gcat).sum ≤ 8)
    (k : ∀ (r : Option gV) (sh1 : gS) (M1 : gM), Qc r sh1 M1 → (∀ v, r = some v → gw v) → gMw sh1 M1 → gA R y cc nL ret Q (ck.1 + Rb.cells, ck.2 + Rb.slots) (q0) lv (r.toList ++ rest) sh1 M1) : gA R y cc nL ret Q ck pc lv st sh M := by
  subst hq0
  intro l G p e s m args below meth c H locs ls hC hH hlw hsw hl hS hB
  obtain ⟨hx, hb, hml, hr, hown, hts, hlk, hnm, hK⟩ := id hC
  subst hst
  have haw : ∀ v ∈ ((4, a) :: as), gw v := fun v hv => hsw v (List.mem_append_left _ (List.mem_reverse.mpr hv))
  have hrw : ∀ v ∈ rest, gw v := fun v hv => hsw v (List.mem_append_right _ hv)
  have e0 : (((4, a) :: as).reverse ++ rest).map (gc G) = (as.map (gc G)).reverse ++ .ref (G.1 + a.toNat) :: rest.map (gc G) := by
    rw [List.map_append, List.map_reverse, List.map_cons, List.reverse_cons, gc_ref G (gsh_nn hs).1, List.append_assoc]
    rfl
  have e1 : ((4, a) :: as).map (gc G) = .ref (G.1 + a.toNat) :: as.map (gc G) := by rw [List.map_cons, gc_ref G (gsh_nn hs).1]
  rw [e0]
  have hMet := hc l G
  refine g_after (va_runV (C := yc.cls) (As := as.map (gc G)) (b := G.1 + a.toNat) ⟨hx, hb, hml, hown, hts⟩ hMet ⟨gMt_B hm hts hR hl0, hts _ hi, hts _ hse⟩ ⟨gBlind, (by rw [← hrC]; exact va_recv hK.1 hH.2.1 hrc (gWs_get hs)), fun U hU hW => ⟨by rw [← e1], Nat.le_trans hB (by rw [hU]; exact hS.1), by rw [hU]; exact hH, gK_at hK hS hB hU hW, haw⟩⟩ rfl ((List.length_map _).trans hn) hl.1 rfl (lv_room (by rw [gcat_sum]; exact hrest)) hd hcs) hS hB (fun r sh1 M1 H1 locs1 hq hw hH1 hS1 => ?_)
  have h9 := k r sh1 M1 hq hw hH1.2.2 l G p e s m args below meth c H1 locs1 ls hC hH1 hlw ?_ hl hS1 hB
  · rw [List.map_append] at h9
    rw [List.append_nil]
    exact h9
  · intro v hv
    rcases List.mem_append.mp hv with q | q
    · exact hw v (by cases r with
        | none => cases q
        | some z => simp only [Option.toList_some, List.mem_singleton] at q; rw [q])
    · exact hrw v q

theorem g_callS {q0 : Nat} {Rb : Room} {yc : MethodName} {cb : ByteArray} {nb n idx : Nat} {rb : Option FieldType} {Qc : Option gV → gS → gM → Prop} {rest as : List gV} (hm : gMt yc cb nb rb n) (hi : Cond.static yc ∈ gAll) (hl0 : Cond.methodLink y.cls idx yc ∈ gAll) (hd : decode cc pc = .ok (.invokestatic idx, 3)) (hq0 : pc + 3 = q0) (hst : as.reverse ++ rest = st)
    (hc : gC Rb yc cb nb rb as sh M Qc) (hn : as.length = n) (hR : Rb.frames + 1 ≤ R.frames ∧ 8 + (nb + 11) + Rb.locals ≤ R.locals) (hcs : ck.1 + Rb.cells ≤ R.cells ∧ ck.2 + Rb.slots ≤ R.slots) (hrest : (rest.map gcat).sum ≤ 8)
    (k : ∀ (r : Option gV) (sh1 : gS) (M1 : gM), Qc r sh1 M1 → (∀ v, r = some v → gw v) → gMw sh1 M1 → gA R y cc nL ret Q (ck.1 + Rb.cells, ck.2 + Rb.slots) (q0) lv (r.toList ++ rest) sh1 M1) : gA R y cc nL ret Q ck pc lv st sh M := by
  subst hq0
  intro l G p e s m args below meth c H locs ls hC hH hlw hsw hl hS hB
  obtain ⟨hx, hb, hml, hr, hown, hts, hlk, hnm, hK⟩ := id hC
  subst hst
  have haw : ∀ v ∈ as, gw v := fun v hv => hsw v (List.mem_append_left _ (List.mem_reverse.mpr hv))
  have hrw : ∀ v ∈ rest, gw v := fun v hv => hsw v (List.mem_append_right _ hv)
  have e0 : (as.reverse ++ rest).map (gc G) = (as.map (gc G)).reverse ++ rest.map (gc G) := by rw [List.map_append, List.map_reverse]
  rw [e0]
  have hMet := hc l G
  refine g_after (va_runS (As := as.map (gc G)) ⟨hx, hb, hml, hown, hts⟩ hMet ⟨gMt_B hm hts hR hl0, hts _ hi⟩ ⟨gBlind, fun U hU hW => ⟨rfl, Nat.le_trans hB (by rw [hU]; exact hS.1), by rw [hU]; exact hH, gK_at hK hS hB hU hW, haw⟩⟩ rfl ((List.length_map _).trans hn) hl.1 rfl (lv_room (by rw [gcat_sum]; exact hrest)) hd hcs) hS hB (fun r sh1 M1 H1 locs1 hq hw hH1 hS1 => ?_)
  have h9 := k r sh1 M1 hq hw hH1.2.2 l G p e s m args below meth c H1 locs1 ls hC hH1 hlw ?_ hl hS1 hB
  · rw [List.map_append] at h9
    rw [List.append_nil]
    exact h9
  · intro v hv
    rcases List.mem_append.mp hv with q | q
    · exact hw v (by cases r with
        | none => cases q
        | some z => simp only [Option.toList_some, List.mem_singleton] at q; rw [q])
    · exact hrw v q

theorem g_callI {q0 : Nat} {Rb : Room} {yc : MethodName} {cb : ByteArray} {nb n idx : Nat} {Qc : Option gV → gS → gM → Prop} {rest as : List gV} {a : Int} (hm : gMt yc cb nb none n) (hin : yc.name = "<init>") (hi : Cond.instanceMethod yc ∈ gAll) (hl0 : Cond.methodLink y.cls idx yc ∈ gAll) (hd : decode cc pc = .ok (.invokespecial idx, 3)) (hq0 : pc + 3 = q0) (hst : ((4, a) :: as).reverse ++ rest = st) (ha : 0 ≤ a)
    (hc : gC Rb yc cb nb none ((4, a) :: as) sh M Qc) (hn : as.length = n) (hR : Rb.frames + 1 ≤ R.frames ∧ 8 + (nb + 11) + Rb.locals ≤ R.locals) (hcs : ck.1 + Rb.cells ≤ R.cells ∧ ck.2 + Rb.slots ≤ R.slots) (hrest : (rest.map gcat).sum ≤ 8)
    (k : ∀ (r : Option gV) (sh1 : gS) (M1 : gM), Qc r sh1 M1 → (∀ v, r = some v → gw v) → gMw sh1 M1 → gA R y cc nL ret Q (ck.1 + Rb.cells, ck.2 + Rb.slots) (q0) lv (r.toList ++ rest) sh1 M1) : gA R y cc nL ret Q ck pc lv st sh M := by
  subst hq0
  intro l G p e s m args below meth c H locs ls hC hH hlw hsw hl hS hB
  obtain ⟨hx, hb, hml, hr, hown, hts, hlk, hnm, hK⟩ := id hC
  subst hst
  have haw : ∀ v ∈ ((4, a) :: as), gw v := fun v hv => hsw v (List.mem_append_left _ (List.mem_reverse.mpr hv))
  have hrw : ∀ v ∈ rest, gw v := fun v hv => hsw v (List.mem_append_right _ hv)
  have e0 : (((4, a) :: as).reverse ++ rest).map (gc G) = (as.map (gc G)).reverse ++ .ref (G.1 + a.toNat) :: rest.map (gc G) := by
    rw [List.map_append, List.map_reverse, List.map_cons, List.reverse_cons, gc_ref G ha, List.append_assoc]
    rfl
  have e1 : ((4, a) :: as).map (gc G) = .ref (G.1 + a.toNat) :: as.map (gc G) := by rw [List.map_cons, gc_ref G ha]
  rw [e0]
  have hMet := hc l G
  refine g_after (va_runI (As := as.map (gc G)) (b := G.1 + a.toNat) ⟨hx, hb, hml, hown, hts⟩ hMet ⟨gMt_B hm hts hR hl0, hin, hts _ hi⟩ ⟨gBlind, fun U hU hW => ⟨by rw [← e1], Nat.le_trans hB (by rw [hU]; exact hS.1), by rw [hU]; exact hH, gK_at hK hS hB hU hW, haw⟩⟩ rfl ((List.length_map _).trans hn) hl.1 rfl (lv_room (by rw [gcat_sum]; exact hrest)) hd hcs) hS hB (fun r sh1 M1 H1 locs1 hq hw hH1 hS1 => ?_)
  have h9 := k r sh1 M1 hq hw hH1.2.2 l G p e s m args below meth c H1 locs1 ls hC hH1 hlw ?_ hl hS1 hB
  · rw [List.map_append] at h9
    rw [List.append_nil]
    exact h9
  · intro v hv
    rcases List.mem_append.mp hv with q | q
    · exact hw v (by cases r with
        | none => cases q
        | some z => simp only [Option.toList_some, List.mem_singleton] at q; rw [q])
    · exact hrw v q

theorem g_callN {q0 : Nat} {Rb : Room} {yc : MethodName} {cb : ByteArray} {nb n idx : Nat} {Qc : Option gV → gS → gM → Prop} {rest as : List gV} {a : Int} (hm : gMt yc cb nb none n) (hin : yc.name = "<init>") (hi : Cond.instanceMethod yc ∈ gAll) {host : String} (hl0 : Cond.methodLinkNest y.cls idx yc host ∈ gNest) (hd : decode cc pc = .ok (.invokespecial idx, 3)) (hq0 : pc + 3 = q0) (hst : ((4, a) :: as).reverse ++ rest = st) (ha : 0 ≤ a)
    (hc : gC Rb yc cb nb none ((4, a) :: as) sh M Qc) (hn : as.length = n) (hR : Rb.frames + 1 ≤ R.frames ∧ 8 + (nb + 11) + Rb.locals ≤ R.locals) (hcs : ck.1 + Rb.cells ≤ R.cells ∧ ck.2 + Rb.slots ≤ R.slots) (hrest : (rest.map gcat).sum ≤ 8)
    (k : ∀ (r : Option gV) (sh1 : gS) (M1 : gM), Qc r sh1 M1 → (∀ v, r = some v → gw v) → gMw sh1 M1 → gA R y cc nL ret Q (ck.1 + Rb.cells, ck.2 + Rb.slots) (q0) lv (r.toList ++ rest) sh1 M1) : gA R y cc nL ret Q ck pc lv st sh M := by
  subst hq0
  intro l G p e s m args below meth c H locs ls hC hH hlw hsw hl hS hB
  obtain ⟨hx, hb, hml, hr, hown, hts, hlk, hnm, hK⟩ := id hC
  subst hst
  have haw : ∀ v ∈ ((4, a) :: as), gw v := fun v hv => hsw v (List.mem_append_left _ (List.mem_reverse.mpr hv))
  have hrw : ∀ v ∈ rest, gw v := fun v hv => hsw v (List.mem_append_right _ hv)
  have e0 : (((4, a) :: as).reverse ++ rest).map (gc G) = (as.map (gc G)).reverse ++ .ref (G.1 + a.toNat) :: rest.map (gc G) := by
    rw [List.map_append, List.map_reverse, List.map_cons, List.reverse_cons, gc_ref G ha, List.append_assoc]
    rfl
  have e1 : ((4, a) :: as).map (gc G) = .ref (G.1 + a.toNat) :: as.map (gc G) := by rw [List.map_cons, gc_ref G ha]
  rw [e0]
  have hMet := hc l G
  refine g_after (va_runIN (As := as.map (gc G)) (b := G.1 + a.toNat) ⟨hx, hb, hml, hown, hts⟩ hMet ⟨⟨⟨rfl, rfl, hR.1, hR.2, pay_in hts (fun w hw => (List.mem_cons.mp hw).elim (fun q => by rw [q]; exact gAll_good _ hm.1) (fun q => gAll_good _ q)), List.mem_cons_self⟩, hts _ hm.1, hts _ hm.2.1, hm.2.2.1, fun sig hsg => (Option.some.inj (by have h4 := hm.2.2.2; rw [hsg] at h4; exact h4)).symm, va_Nw.use rfl (hK.2.1 _ hl0)⟩, hin, hts _ hi⟩ ⟨gBlind, fun U hU hW => ⟨by rw [← e1], Nat.le_trans hB (by rw [hU]; exact hS.1), by rw [hU]; exact hH, gK_at hK hS hB hU hW, haw⟩⟩ rfl ((List.length_map _).trans hn) hl.1 rfl (lv_room (by rw [gcat_sum]; exact hrest)) hd hcs) hS hB (fun r sh1 M1 H1 locs1 hq hw hH1 hS1 => ?_)
  have h9 := k r sh1 M1 hq hw hH1.2.2 l G p e s m args below meth c H1 locs1 ls hC hH1 hlw ?_ hl hS1 hB
  · rw [List.map_append] at h9
    rw [List.append_nil]
    exact h9
  · intro v hv
    rcases List.mem_append.mp hv with q | q
    · exact hw v (by cases r with
        | none => cases q
        | some z => simp only [Option.toList_some, List.mem_singleton] at q; rw [q])
    · exact hrw v q


end
def gCpy (M : gM) (a0 sp a dp n : Int) : gM := fun b j => if b = a ∧ dp ≤ j ∧ j < dp + n then M a0 (sp + (j - dp)) else M b j
theorem gi_fitb {x : Int} (h1 : -128 ≤ x) (h2 : x < 128) : fits .byte (.int (Int32.ofInt x)) = true := by
  have hx : gw (0, x) := ⟨by show (-2147483648 : Int) ≤ x; omega, by show x < 2147483648; omega⟩
  have h3 : (Int32.ofInt x).toInt = x := gi_int hx
  simp [fits, Int32.le_iff_toInt_le, h3]
  omega
section
variable {p : Program} {l : Launch} {e : Env} {R : Room} {s : State} {m : MethodId} {args : Array Value} {below : List Frame} {meth : Method} {c : Code} {H : Heap} {locs : List Loc} {cells slots : Nat} {Q : State → Prop}
variable {cc : ByteArray} {pc : Nat} {ls : Array Slot} {rest : List Value} {D : va_G} {cl : List vw_C} {A : Nat → Prop} {a : Nat} {tys : List (ClassId × FieldType)} {ws : va_W} {H0 : Heap}
theorem gz_copy (hexec : p.tables.exec = Jvm.exec) (hb : c.code = cc) (hml : c.maxLocals = ls.size) {own : String} {index : Nat} (hown : s.vm.findClass own = some m.cls) (hlink : (Cond.methodLink own index arraycopyName).before args s = true) (hnat : (Cond.native arraycopyName).before args s = true) (hstat : (Cond.static arraycopyName).before args s = true) (hini : (Cond.initialized "java/lang/System").before args s = true)
    (hK : va_K D cl tys s) (hP : va_P D cl ws H) (hD : va_D A ws) (hS : va_S A H0 H locs) (q0 q1 t0 t1 : Nat) {a0 : Nat} {c0 c1 : ClassId} {n0 n1 : Nat} {f g : Nat → Int32} {ty : FieldType} (ha0 : ws[q0]? = some (a0, .inl (c0, n0, .inl f))) (ha1 : ws[q1]? = some (a, .inl (c1, n1, .inl g))) (ht0 : tys[t0]? = some (c0, ty)) (ht1 : tys[t1]? = some (c1, ty)) (hprim : refKind ty = false)
    {sp dp n : Int32} (h1 : ¬ sp < 0) (h2 : ¬ dp < 0) (h3 : ¬ n < 0) (h4 : sp.toNatClampNeg + n.toNatClampNeg ≤ n0) (h5 : dp.toNatClampNeg + n.toNatClampNeg ≤ n1) (hfit : ∀ i, i < n.toNatClampNeg → fits ty (.int (f (sp.toNatClampNeg + i))) = true)
    (hframes : 1 ≤ R.frames) (hlocals : (rest.map fun v => v.category).sum + (nativeFrameWords "java/lang/System" "arraycopy" 5 + 11) ≤ R.locals) (hdg : decode cc pc = .ok (.invokestatic index, 3))
    (kk : ∀ (H1 : Heap) (locs1 : List Loc), H1.size = H.size → va_P D cl (ws.set q1 (a, .inl (c1, n1, .inl (va_cpy f g sp.toNatClampNeg dp.toNatClampNeg n.toNatClampNeg)))) H1 → va_S A H0 H1 locs1 → W p l e R s m args below meth c H1 locs1 cells slots Q (F0 m (pc + 3) ls rest)) : W p l e R s m args below meth c H locs cells slots Q (F0 m pc ls (.int n :: .int dp :: .ref a :: .int sp :: .ref a0 :: rest)) := by
  have nn : ∀ z : Int32, ¬ z < 0 → z.toInt = (z.toNatClampNeg : Int) := by
    intro z hz
    have hz0 : (0 : Int) ≤ z.toInt := by
      have := Int32.not_lt.mp hz
      simpa using Int32.le_iff_toInt_le.mp this
    show z.toInt = ((z.toInt.toNat : Nat) : Int)
    omega
  intro T hT X
  have hc0 : H[a0]? = some (vp_cell c0 (n0, .inl f)) := hP q0 _ ha0
  have hc1 : H[a]? = some (vp_cell c1 (n1, .inl g)) := hP q1 _ ha1
  obtain ⟨-, k0, hk0, cm0, hkk0⟩ := (hK.2 t0 _ ht0).1 n0 (fun j => .int (f j))
  obtain ⟨-, k1, hk1, cm1, hkk1⟩ := (hK.2 t1 _ ht1).1 n1 (fun j => .int (g j))
  obtain ⟨vm2, X2, step⟩ := X.arraycopy hexec hown hlink hnat hstat hini (src := a0) (dst := a) (cs := vp_cell c0 (n0, .inl f)) (cd := vp_cell c1 (n1, .inl g)) (srcPos := sp) (destPos := dp) (n := n) (by rw [hT]; exact hc0) (by rw [hT]; exact hc1)
    (fun _ h => by cases h) (fun _ h => by cases h) (fun h => by cases h) (fun h => by cases h) hk0 hk1 hkk0 hkk1 (by simp [hprim]) h1 h2 h3
    (by rw [nn sp h1, nn n h3]; show ¬ _ > ((arrV c0 n0 (fun j => .int (f j))).slots.size : Int); rw [arrV_size]; omega)
    (by rw [nn dp h2, nn n h3]; show ¬ _ > ((arrV c1 n1 (fun j => .int (g j))).slots.size : Int); rw [arrV_size]; omega)
    (fun vm₁ _ i hi => by
      have e : (vp_cell c0 (n0, .inl f)).slots.getD (sp.toNatClampNeg + i) .null = .int (f (sp.toNatClampNeg + i)) := by
        show (arrV c0 n0 (fun j => .int (f j))).slots.getD _ _ = _
        rw [Array.getD_eq_getD_getElem?, arrV_read _ _ (by omega)]
        rfl
      exact ⟨by rw [e]; exact hfit i hi, by rw [e]; exact trivial⟩)
    (g := F0 m pc ls (.int n :: .int dp :: .ref a :: .int sp :: .ref a0 :: rest)) rfl (by rw [hml]) (rest := rest) rfl (by rw [hb]; exact hdg) hframes (by show 2 * 0 + _ + _ ≤ _; omega)
  have e1 : copied (vp_cell c0 (n0, .inl f)) (vp_cell c1 (n1, .inl g)) sp dp n = vp_cell c1 (n1, .inl (va_cpy f g sp.toNatClampNeg dp.toNatClampNeg n.toNatClampNeg)) := va_copied (fun z => .int z) c0 c1 f g h4
  rw [e1] at X2 step
  have hl : a < H.size := (Array.getElem?_eq_some_iff.mp hc1).1
  generalize hv : vp_cell c1 (n1, .inl (va_cpy f g sp.toNatClampNeg dp.toNatClampNeg n.toNatClampNeg)) = cv at X2 step
  have hheap : ((T.setVm vm2).setCell a cv).heap = H.setIfInBounds a cv := by rw [← hT]; rfl
  have oq : ∀ q : Nat, q ≠ a → (H.setIfInBounds a cv)[q]? = H[q]? := fun q hq => by simp [Array.getElem?_setIfInBounds, Ne.symm hq]
  obtain ⟨t, a1, b1⟩ := kk _ _ (by simp) (hP.set hD ha1 (show (H.setIfInBounds a cv)[a]? = some (vp_cell c1 (n1, .inl (va_cpy f g sp.toNatClampNeg dp.toNatClampNeg n.toNatClampNeg))) by rw [hv]; simp [Array.getElem?_setIfInBounds, hl]) oq) ⟨by simp; exact hS.1, fun q g1 g2 => by
      rw [oq q (fun e => g2 (by rw [e]; exact hD.2 q1 _ ha1))]
      exact hS.2.1 q g1 g2, fun q hq => by
      rcases List.mem_append.mp hq with h | h
      · exact hS.2.2 q h
      · obtain ⟨z, -, hz⟩ := List.mem_map.mp h
        rw [← hz]
        exact hD.2 q1 _ ha1⟩ _ hheap X2
  exact ⟨t, step t a1, b1⟩
end

section
variable {R : Room} {y : MethodName} {cc : ByteArray} {nL : Nat} {ret : Option FieldType} {Q : Option gV → gS → gM → Prop} {ck : Nat × Nat} {pc : Nat} {lv st : List gV} {sh : gS} {M : gM}

theorem g_objInit {q0 : Nat} (hq0 : pc + 3 = q0) {a : Int} {idx : Nat} (ha : 0 ≤ a) (h1 : Cond.methodLink y.cls idx objectInit ∈ gAll) (h2 : Cond.instanceMethod objectInit ∈ gAll) (h3 : Cond.code objectInit ⟨#[0xb1]⟩ 1 none ∈ gAll) (hd : decode cc pc = .ok (.invokespecial idx, 3)) (hfr : 1 ≤ R.frames) (hlo : (st.map gcat).sum + 12 ≤ R.locals)
    (k : gA R y cc nL ret Q ck q0 lv st sh M) : gA R y cc nL ret Q ck pc lv ((4, a) :: st) sh M := by
  subst hq0
  intro l G p e s m args below meth c H locs ls hC hH hlw hsw hl hS hB
  obtain ⟨hx, hb, hml, hr, hown, hts, hlk, hnm, hK⟩ := id hC
  rw [List.map_cons, gc_ref G ha]
  refine W.objInit hx hb hown (hts _ h1) (hts _ h2) (hts _ h3) rfl (by rw [hml]; exact hl.1) rfl hd hfr (by show 2 * 0 + _ + 12 ≤ _; rw [gcat_sum]; omega) ?_
  exact k l G p e s m args below meth c H locs ls hC hH hlw (List.forall_mem_cons.mp hsw).2 hl hS hB

theorem g_mmax {q0 : Nat} (hq0 : pc + 3 = q0) {a b : Int} {idx : Nat} (h1 : Cond.methodLink y.cls idx Lib.Math.max.name ∈ gAll) (h2 : Cond.static Lib.Math.max.name ∈ gAll) (h3 : Cond.initialized "java/lang/Math" ∈ gAll) (h4 : Cond.code Lib.Math.max.name Lib.Math.max.code 2 (some .int) ∈ gAll) (hd : decode cc pc = .ok (.invokestatic idx, 3)) (hfr : 1 ≤ R.frames) (hlo : (st.map gcat).sum + 13 ≤ R.locals) (hck : ck.1 ≤ R.cells ∧ ck.2 ≤ R.slots)
    (k : gA R y cc nL ret Q ck q0 lv ((0, if a < b then b else a) :: st) sh M) : gA R y cc nL ret Q ck pc lv ((0, b) :: (0, a) :: st) sh M := by
  subst hq0
  intro l G p e s m args below meth c H locs ls hC hH hlw hsw hl hS hB
  obtain ⟨hx, hb, hml, hr, hown, hts, hlk, hnm, hK⟩ := id hC
  obtain ⟨hb2, hsw2⟩ := List.forall_mem_cons.mp hsw
  obtain ⟨ha2, hsw3⟩ := List.forall_mem_cons.mp hsw2
  refine va_mmax hx hb (hml.trans hl.1.symm) hown (hts _ h1) (hts _ h2) (hts _ h3) (hts _ h4) hfr (by rw [gcat_sum]; exact hlo) hck.1 hck.2 hd ?_
  have h9 := k l G p e s m args below meth c H locs ls hC hH hlw (List.forall_mem_cons.mpr ⟨by split <;> assumption, hsw3⟩) hl hS hB
  have e0 : gc G (0, if a < b then b else a) = .int (if Int32.ofInt a < Int32.ofInt b then Int32.ofInt b else Int32.ofInt a) := by
    by_cases hlt : a < b
    · rw [if_pos hlt, if_pos ((gi_lt ha2 hb2).mpr hlt)]; rfl
    · rw [if_neg hlt, if_neg (fun q => hlt ((gi_lt ha2 hb2).mp q))]; rfl
  rw [List.map_cons, e0] at h9
  exact h9

theorem g_mmin {q0 : Nat} (hq0 : pc + 3 = q0) {a b : Int} {idx : Nat} (h1 : Cond.methodLink y.cls idx Lib.Math.min.name ∈ gAll) (h2 : Cond.static Lib.Math.min.name ∈ gAll) (h3 : Cond.initialized "java/lang/Math" ∈ gAll) (h4 : Cond.code Lib.Math.min.name Lib.Math.min.code 2 (some .int) ∈ gAll) (hd : decode cc pc = .ok (.invokestatic idx, 3)) (hfr : 1 ≤ R.frames) (hlo : (st.map gcat).sum + 13 ≤ R.locals) (hck : ck.1 ≤ R.cells ∧ ck.2 ≤ R.slots)
    (k : gA R y cc nL ret Q ck q0 lv ((0, if b < a then b else a) :: st) sh M) : gA R y cc nL ret Q ck pc lv ((0, b) :: (0, a) :: st) sh M := by
  subst hq0
  intro l G p e s m args below meth c H locs ls hC hH hlw hsw hl hS hB
  obtain ⟨hx, hb, hml, hr, hown, hts, hlk, hnm, hK⟩ := id hC
  obtain ⟨hb2, hsw2⟩ := List.forall_mem_cons.mp hsw
  obtain ⟨ha2, hsw3⟩ := List.forall_mem_cons.mp hsw2
  refine va_mmin hx hb (hml.trans hl.1.symm) hown (hts _ h1) (hts _ h2) (hts _ h3) (hts _ h4) hfr (by rw [gcat_sum]; exact hlo) hck.1 hck.2 hd ?_
  have h9 := k l G p e s m args below meth c H locs ls hC hH hlw (List.forall_mem_cons.mpr ⟨by split <;> assumption, hsw3⟩) hl hS hB
  have e0 : gc G (0, if b < a then b else a) = .int (if Int32.ofInt b < Int32.ofInt a then Int32.ofInt b else Int32.ofInt a) := by
    by_cases hlt : b < a
    · rw [if_pos hlt, if_pos ((gi_lt hb2 ha2).mpr hlt)]; rfl
    · rw [if_neg hlt, if_neg (fun q => hlt ((gi_lt hb2 ha2).mp q))]; rfl
  rw [List.map_cons, e0] at h9
  exact h9

theorem g_f2bits {q0 : Nat} (hq0 : pc + 3 = q0) {a : Int} {idx : Nat} (h1 : Cond.methodLink y.cls idx ⟨"java/lang/Float", "floatToRawIntBits", "(F)I"⟩ ∈ gAll) (h2 : Cond.native ⟨"java/lang/Float", "floatToRawIntBits", "(F)I"⟩ ∈ gAll) (h3 : Cond.static ⟨"java/lang/Float", "floatToRawIntBits", "(F)I"⟩ ∈ gAll) (h4 : Cond.initialized "java/lang/Float" ∈ gAll) (hd : decode cc pc = .ok (.invokestatic idx, 3)) (hfr : 1 ≤ R.frames) (hlo : (st.map gcat).sum + 15 ≤ R.locals)
    (k : gA R y cc nL ret Q ck q0 lv ((0, ((gu a).toInt32).toInt) :: st) sh M) : gA R y cc nL ret Q ck pc lv ((2, a) :: st) sh M := by
  subst hq0
  intro l G p e s m args below meth c H locs ls hC hH hlw hsw hl hS hB
  obtain ⟨hx, hb, hml, hr, hown, hts, hlk, hnm, hK⟩ := id hC
  refine vn_f2i hx hb (hml.trans hl.1.symm) hown (hts _ h1) (hts _ h2) (hts _ h3) (hts _ h4) hfr (by rw [gcat_sum]; exact hlo) hd ?_
  have h9 := k l G p e s m args below meth c H locs ls hC hH hlw (List.forall_mem_cons.mpr ⟨gw_to _, (List.forall_mem_cons.mp hsw).2⟩) hl hS hB
  rw [List.map_cons, show gc G (0, ((gu a).toInt32).toInt) = .int (Int32.ofInt ((gu a).toInt32).toInt) from rfl, Int32.ofInt_toInt] at h9
  exact h9

theorem g_d2bits {q0 : Nat} (hq0 : pc + 3 = q0) {a : Int} {idx : Nat} (h1 : Cond.methodLink y.cls idx ⟨"java/lang/Double", "doubleToRawLongBits", "(D)J"⟩ ∈ gAll) (h2 : Cond.native ⟨"java/lang/Double", "doubleToRawLongBits", "(D)J"⟩ ∈ gAll) (h3 : Cond.static ⟨"java/lang/Double", "doubleToRawLongBits", "(D)J"⟩ ∈ gAll) (h4 : Cond.initialized "java/lang/Double" ∈ gAll) (hd : decode cc pc = .ok (.invokestatic idx, 3)) (hfr : 1 ≤ R.frames) (hlo : (st.map gcat).sum + 15 ≤ R.locals)
    (k : gA R y cc nL ret Q ck q0 lv ((1, ((gU64 a).toInt64).toInt) :: st) sh M) : gA R y cc nL ret Q ck pc lv ((3, a) :: st) sh M := by
  subst hq0
  intro l G p e s m args below meth c H locs ls hC hH hlw hsw hl hS hB
  obtain ⟨hx, hb, hml, hr, hown, hts, hlk, hnm, hK⟩ := id hC
  refine vn_d2l hx hb (hml.trans hl.1.symm) hown (hts _ h1) (hts _ h2) (hts _ h3) (hts _ h4) hfr (by rw [gcat_sum]; exact hlo) hd ?_
  have h9 := k l G p e s m args below meth c H locs ls hC hH hlw (List.forall_mem_cons.mpr ⟨gw_toL _, (List.forall_mem_cons.mp hsw).2⟩) hl hS hB
  rw [List.map_cons, show gc G (1, ((gU64 a).toInt64).toInt) = .long (Int64.ofInt ((gU64 a).toInt64).toInt) from rfl, Int64.ofInt_toInt] at h9
  exact h9

theorem g_ldcS {q0 : Nat} (hq0 : pc + 2 = q0) {i idx : Nat} (hi : i < 15) (hidx : idx = 112 + 2 * i) (hy : y.cls = RX6) (hd : decode cc pc = .ok (.ldc idx, 2))
    (k : gA R y cc nL ret Q ck q0 lv ((5, (i : Int)) :: st) sh M) : gA R y cc nL ret Q ck pc lv st sh M := by
  subst hq0
  intro l G p e s m args below meth c H locs ls hC hH hlw hsw hl hS hB
  obtain ⟨hx, hb, hml, hr, hown, hts, hlk, hnm, hK⟩ := id hC
  subst hidx
  obtain ⟨⟨adK, adV, -, h4⟩, -, -, -⟩ := hK.2.2.2
  obtain ⟨e1, -, e3⟩ := h4 i hi
  have h9 := k l G p e s m args below meth c H locs ls hC hH hlw (List.forall_mem_cons.mpr ⟨trivial, hsw⟩) hl hS hB
  rw [List.map_cons, show gc G (5, (i : Int)) = va_rf (G.2.2.2 (i : Int).toNat) from rfl, Int.toNat_natCast, e1] at h9
  exact va_ldcS hx hb (own := RX6) (by rw [← hy]; exact hown) e3 hd h9

theorem g_gsCompact {q0 : Nat} (hq0 : pc + 3 = q0) {idx : Nat} (hw : Cond.fieldLink y.cls idx "java/lang/String" "COMPACT_STRINGS" "Z" ∈ gAll) (hd : decode cc pc = .ok (.getstatic idx, 3))
    (k : gA R y cc nL ret Q ck q0 lv ((0, 1) :: st) sh M) : gA R y cc nL ret Q ck pc lv st sh M := by
  subst hq0
  intro l G p e s m args below meth c H locs ls hC hH hlw hsw hl hS hB
  obtain ⟨hx, hb, hml, hr, hown, hts, hlk, hnm, hK⟩ := id hC
  obtain ⟨-, hZ, -, -⟩ := hK.2.2.2
  refine va_gets hx hb hZ hS hown (hts _ hw) (fun _ h => h) hd ?_
  have h9 := k l G p e s m args below meth c H locs ls hC hH hlw (List.forall_mem_cons.mpr ⟨⟨by decide, by decide⟩, hsw⟩) hl hS hB
  rw [List.map_cons, show gc G (0, 1) = _ from (by rfl)] at h9
  exact h9

theorem g_gsOnes {q0 : Nat} (hq0 : pc + 3 = q0) {idx : Nat} (hw : Cond.fieldLink y.cls idx "java/lang/Integer" "DigitOnes" "[B" ∈ gAll) (hd : decode cc pc = .ok (.getstatic idx, 3))
    (k : gA R y cc nL ret Q ck q0 lv ((5, 30) :: st) sh M) : gA R y cc nL ret Q ck pc lv st sh M := by
  subst hq0
  intro l G p e s m args below meth c H locs ls hC hH hlw hsw hl hS hB
  obtain ⟨hx, hb, hml, hr, hown, hts, hlk, hnm, hK⟩ := id hC
  obtain ⟨-, -, ⟨t1, t2, d1, d2, hZ, -⟩, -⟩ := hK.2.2.2
  refine va_gets hx hb hZ hS hown (hts _ hw) (fun _ h => h) hd ?_
  have h9 := k l G p e s m args below meth c H locs ls hC hH hlw (List.forall_mem_cons.mpr ⟨trivial, hsw⟩) hl hS hB
  rw [List.map_cons, show gc G (5, 30) = _ from (by show va_rf (G.2.2.2 30) = _; rw [d1])] at h9
  exact h9

theorem g_gsTens {q0 : Nat} (hq0 : pc + 3 = q0) {idx : Nat} (hw : Cond.fieldLink y.cls idx "java/lang/Integer" "DigitTens" "[B" ∈ gAll) (hd : decode cc pc = .ok (.getstatic idx, 3))
    (k : gA R y cc nL ret Q ck q0 lv ((5, 31) :: st) sh M) : gA R y cc nL ret Q ck pc lv st sh M := by
  subst hq0
  intro l G p e s m args below meth c H locs ls hC hH hlw hsw hl hS hB
  obtain ⟨hx, hb, hml, hr, hown, hts, hlk, hnm, hK⟩ := id hC
  obtain ⟨-, -, ⟨t1, t2, d1, d2, -, hZ, -⟩, -⟩ := hK.2.2.2
  refine va_gets hx hb hZ hS hown (hts _ hw) (fun _ h => h) hd ?_
  have h9 := k l G p e s m args below meth c H locs ls hC hH hlw (List.forall_mem_cons.mpr ⟨trivial, hsw⟩) hl hS hB
  rw [List.map_cons, show gc G (5, 31) = _ from (by show va_rf (G.2.2.2 31) = _; rw [d2])] at h9
  exact h9

theorem g_gsForm {q0 : Nat} (hq0 : pc + 3 = q0) {idx : Nat} (hw : Cond.fieldLink y.cls idx "jdk/internal/util/Preconditions" "SIOOBE_FORMATTER" "Ljava/util/function/BiFunction;" ∈ gAll) (hd : decode cc pc = .ok (.getstatic idx, 3))
    (k : gA R y cc nL ret Q ck q0 lv ((5, 32) :: st) sh M) : gA R y cc nL ret Q ck pc lv st sh M := by
  subst hq0
  intro l G p e s m args below meth c H locs ls hC hH hlw hsw hl hS hB
  obtain ⟨hx, hb, hml, hr, hown, hts, hlk, hnm, hK⟩ := id hC
  obtain ⟨-, -, -, -, hZ⟩ := hK.2.2.2
  refine va_gets hx hb hZ hS hown (hts _ hw) (fun _ h => h) hd ?_
  have h9 := k l G p e s m args below meth c H locs ls hC hH hlw (List.forall_mem_cons.mpr ⟨trivial, hsw⟩) hl hS hB
  rw [List.map_cons, show gc G (5, 32) = _ from (by rfl)] at h9
  exact h9

theorem g_copy {q0 : Nat} (hq0 : pc + 3 = q0) {sp dp n a0 a : Int} {kd n0 n1 idx : Nat} (hkd : kd = 1 ∨ kd = 2) (h1 : Cond.methodLink y.cls idx arraycopyName ∈ gAll) (h2 : Cond.native arraycopyName ∈ gAll) (h3 : Cond.static arraycopyName ∈ gAll) (h4 : Cond.initialized "java/lang/System" ∈ gAll) (hd : decode cc pc = .ok (.invokestatic idx, 3)) (hs0 : gsh sh a0 = some (kd, n0)) (hs1 : gsh sh a = some (kd, n1)) (hsp : 0 ≤ sp) (hdp : 0 ≤ dp) (hn : 0 ≤ n) (hb0 : sp + n ≤ n0) (hb1 : dp + n ≤ n1) (hfit : kd = 2 → ∀ i : Int, 0 ≤ i → i < n → -128 ≤ M a0 (sp + i) ∧ M a0 (sp + i) < 128) (hfr : 1 ≤ R.frames) (hlo : (st.map gcat).sum + (nativeFrameWords "java/lang/System" "arraycopy" 5 + 11) ≤ R.locals)
    (k : gA R y cc nL ret Q ck q0 lv st sh (gCpy M a0 sp a dp n)) : gA R y cc nL ret Q ck pc lv ((0, n) :: (0, dp) :: (4, a) :: (0, sp) :: (4, a0) :: st) sh M := by
  subst hq0
  intro l G p e s m args below meth c H locs ls hC hH hlw hsw hl hS hB
  obtain ⟨hx, hb, hml, hr, hown, hts, hlk, hnm, hK⟩ := id hC
  obtain ⟨w1, hsw1⟩ := List.forall_mem_cons.mp hsw
  obtain ⟨w2, hsw2⟩ := List.forall_mem_cons.mp hsw1
  obtain ⟨w3, hsw3⟩ := List.forall_mem_cons.mp hsw2
  obtain ⟨w4, hsw4⟩ := List.forall_mem_cons.mp hsw3
  obtain ⟨w5, hsw5⟩ := List.forall_mem_cons.mp hsw4
  rw [List.map_cons, List.map_cons, List.map_cons, List.map_cons, List.map_cons, gc_ref G (gsh_nn hs0).1, gc_ref G (gsh_nn hs1).1]
  have hty : ∃ t0 : Nat, ∃ ty : FieldType, kd = t0 + 1 ∧ (gTys G)[t0]? = some (G.2.2.1 t0, ty) ∧ refKind ty = false ∧ gE G M a0 (kd, n0) = .inl (G.2.2.1 t0, n0, .inl (fun i => Int32.ofInt (M a0 (i : Int)))) ∧ gE G M a (kd, n1) = .inl (G.2.2.1 t0, n1, .inl (fun i => Int32.ofInt (M a (i : Int)))) ∧ gE G (gCpy M a0 sp a dp n) a (kd, n1) = .inl (G.2.2.1 t0, n1, .inl (fun i => Int32.ofInt (gCpy M a0 sp a dp n a (i : Int)))) ∧ (∀ i, i < n.toNat → fits ty (.int (Int32.ofInt (M a0 (sp + (i : Int))))) = true) ∧ gKt (kd, n1) = fun _ => 0 := by
    rcases hkd with rfl | rfl
    · exact ⟨0, .int, rfl, rfl, rfl, rfl, rfl, rfl, fun i _ => rfl, rfl⟩
    · refine ⟨1, .byte, rfl, rfl, rfl, rfl, rfl, rfl, fun i hi => ?_, rfl⟩
      obtain ⟨q1, q2⟩ := hfit rfl (i : Int) (by omega) (by omega)
      exact gi_fitb q1 q2
  obtain ⟨t0, ty, -, ht0, href, g0, g1, g2, gf, gk⟩ := hty
  refine gz_copy (tys := gTys G) hx hb (hml.trans hl.1.symm) hown (hts _ h1) (hts _ h2) (hts _ h3) (hts _ h4) hK.1 hH.2.1 gWs_D hS a0.toNat a.toNat t0 t0 (by rw [gWs_get hs0, g0]) (by rw [gWs_get hs1, g1]) ht0 ht0 href (fun q => absurd ((gi_lt w4 gw0).mp q) (by omega)) (fun q => absurd ((gi_lt w2 gw0).mp q) (by omega)) (fun q => absurd ((gi_lt w1 gw0).mp q) (by omega)) (by rw [gi_cl w4, gi_cl w1]; omega) (by rw [gi_cl w2, gi_cl w1]; omega) (fun i hi => ?_) hfr (by rw [gcat_sum]; exact hlo) hd (fun H1 locs1 hz1 hP1 hS1 => ?_)
  · rw [gi_cl w1] at hi
    have h9 := gf i hi
    rw [gi_cl w4, show ((sp.toNat + i : Nat) : Int) = sp + (i : Int) by omega]
    exact h9
  · rw [gi_cl w4, gi_cl w2, gi_cl w1] at hP1
    have e9 : (gWs G sh M).set a.toNat (G.1 + a.toNat, gE G (gCpy M a0 sp a dp n) a (kd, n1)) = gWs G sh (gCpy M a0 sp a dp n) := by
      have q0 := gsh_nn hs1
      have q1 := gWs_set (G := G) (M := M) (M' := gCpy M a0 sp a dp n) q0.2 (fun b hb2 => by
        rw [Int.toNat_of_nonneg q0.1] at hb2
        funext j
        simp [gCpy, hb2])
      rw [Int.toNat_of_nonneg q0.1] at q1
      exact q1
    have e8 : (Sum.inl (G.2.2.1 t0, n1, Sum.inl (va_cpy (fun i => Int32.ofInt (M a0 (i : Int))) (fun i => Int32.ofInt (M a (i : Int))) sp.toNat dp.toNat n.toNat)) : va_E) = gE G (gCpy M a0 sp a dp n) a (kd, n1) := by
      rw [g2]
      congr 1; congr 1; congr 1; congr 1
      funext j
      unfold va_cpy gCpy
      by_cases hj : dp.toNat ≤ j ∧ j < dp.toNat + n.toNat
      · rw [if_pos hj, if_pos ⟨rfl, by omega, by omega⟩]
        have e7 : ((sp.toNat + (j - dp.toNat) : Nat) : Int) = sp + ((j : Int) - dp) := by omega
        show Int32.ofInt (M a0 _) = Int32.ofInt (M a0 _)
        rw [e7]
      · rw [if_neg hj, if_neg (fun q => hj ⟨by omega, by omega⟩)]
    rw [e8, e9] at hP1
    refine k l G p e s m args below meth c H1 locs1 ls hC ⟨hz1.trans hH.1, hP1, ?_⟩ hlw hsw5 hl hS1 hB
    intro b q hq j
    unfold gCpy
    split
    · rename_i hcc
      obtain ⟨rfl, -, -⟩ := hcc
      cases hs1.symm.trans hq
      rw [gk]
      have h8 := hH.2.2 a0 _ hs0 (sp + (j - dp))
      rcases hkd with rfl | rfl <;> exact h8
    · exact hH.2.2 b q hq j

end

-- ---- rooms, the posts of calls that make nothing
def gr (f lo : Nat) : Room := { frames := f, cells := 0, slots := 0, locals := lo }
/-- a call that writes nothing, and answers a word -/
def gPp (sh : gS) (M : gM) (v : gV) : Option gV → gS → gM → Prop := fun r sh1 M1 => r = some v ∧ sh1 = sh ∧ M1 = M
/-- a call that makes nothing -/
def gPm (sh : gS) (P : Option gV → gM → Prop) : Option gV → gS → gM → Prop := fun r sh1 M1 => sh1 = sh ∧ P r M1
theorem gC_weak {R : Room} {y : MethodName} {cc : ByteArray} {nL : Nat} {ret : Option FieldType} {av : List gV} {sh : gS} {M : gM} {Q Q2 : Option gV → gS → gM → Prop} (h : gC R y cc nL ret av sh M Q) (hq : ∀ r sh1 M1, Q r sh1 M1 → Q2 r sh1 M1) : gC R y cc nL ret av sh M Q2 := by
  intro l G p e ha hc hk s m args below hf happ hpre hK
  obtain ⟨k, o, h1, h2, h3, ⟨h4, h5⟩⟩ := h l G p e ha hc hk s m args below hf happ hpre hK
  refine ⟨k, o, h1, h2, h3, ⟨?_, h5⟩⟩
  obtain ⟨⟨r, sh1, M1, q1, q2, q3⟩, q4⟩ := h4
  exact ⟨⟨r, sh1, M1, q1, hq _ _ _ q2, q3⟩, q4⟩

section
variable {R : Room} {y : MethodName} {cc : ByteArray} {nL : Nat} {ret : Option FieldType} {Q : Option gV → gS → gM → Prop} {ck : Nat × Nat} {pc : Nat} {lv st : List gV} {sh : gS} {M : gM}

theorem g_callVp {q0 : Nat} {fb lb : Nat} {yc : MethodName} {cb : ByteArray} {nb n idx : Nat} {rb : Option FieldType} {rest as : List gV} {a : Int} {ci : Nat} {rc : vw_C} {v : gV} (hm : gMt yc cb nb rb n) (hi : Cond.instanceMethod yc ∈ gAll) (hse : Cond.selects yc.cls yc yc ∈ gAll) (hl0 : Cond.methodLink y.cls idx yc ∈ gAll) (hd : decode cc pc = .ok (.invokevirtual idx, 3)) (hq0 : pc + 3 = q0) (hst : ((4, a) :: as).reverse ++ rest = st) (hs : gsh sh a = some (0, ci)) (hrc : vwCl[ci]? = some rc) (hrC : rc.1 = yc.cls)
    (hc : gC (gr fb lb) yc cb nb rb ((4, a) :: as) sh M (gPp sh M v)) (hn : as.length = n) (hR : fb + 1 ≤ R.frames ∧ 8 + (nb + 11) + lb ≤ R.locals) (hrest : (rest.map gcat).sum ≤ 8) (hck : ck.1 ≤ R.cells ∧ ck.2 ≤ R.slots)
    (k : gw v → gA R y cc nL ret Q ck (q0) lv (v :: rest) sh M) : gA R y cc nL ret Q ck pc lv st sh M := by
  refine g_callV hm hi hse hl0 hd hq0 hst hs hrc hrC hc hn hR hck hrest (fun r sh1 M1 hq hw hM => ?_)
  obtain ⟨rfl, rfl, rfl⟩ := hq
  exact k (hw v rfl)

theorem g_callVm {q0 : Nat} {fb lb : Nat} {yc : MethodName} {cb : ByteArray} {nb n idx : Nat} {rb : Option FieldType} {rest as : List gV} {a : Int} {ci : Nat} {rc : vw_C} {P : Option gV → gM → Prop} (hm : gMt yc cb nb rb n) (hi : Cond.instanceMethod yc ∈ gAll) (hse : Cond.selects yc.cls yc yc ∈ gAll) (hl0 : Cond.methodLink y.cls idx yc ∈ gAll) (hd : decode cc pc = .ok (.invokevirtual idx, 3)) (hq0 : pc + 3 = q0) (hst : ((4, a) :: as).reverse ++ rest = st) (hs : gsh sh a = some (0, ci)) (hrc : vwCl[ci]? = some rc) (hrC : rc.1 = yc.cls)
    (hc : gC (gr fb lb) yc cb nb rb ((4, a) :: as) sh M (gPm sh P)) (hn : as.length = n) (hR : fb + 1 ≤ R.frames ∧ 8 + (nb + 11) + lb ≤ R.locals) (hrest : (rest.map gcat).sum ≤ 8) (hck : ck.1 ≤ R.cells ∧ ck.2 ≤ R.slots)
    (k : ∀ (r : Option gV) (M1 : gM), P r M1 → (∀ v, r = some v → gw v) → gMw sh M1 → gA R y cc nL ret Q ck (q0) lv (r.toList ++ rest) sh M1) : gA R y cc nL ret Q ck pc lv st sh M := by
  refine g_callV hm hi hse hl0 hd hq0 hst hs hrc hrC hc hn hR hck hrest (fun r sh1 M1 hq hw hM => ?_)
  obtain ⟨rfl, hP⟩ := hq
  exact k r M1 hP hw hM

theorem g_callSp {q0 : Nat} {fb lb : Nat} {yc : MethodName} {cb : ByteArray} {nb n idx : Nat} {rb : Option FieldType} {rest as : List gV} {v : gV} (hm : gMt yc cb nb rb n) (hi : Cond.static yc ∈ gAll) (hl0 : Cond.methodLink y.cls idx yc ∈ gAll) (hd : decode cc pc = .ok (.invokestatic idx, 3)) (hq0 : pc + 3 = q0) (hst : as.reverse ++ rest = st)
    (hc : gC (gr fb lb) yc cb nb rb as sh M (gPp sh M v)) (hn : as.length = n) (hR : fb + 1 ≤ R.frames ∧ 8 + (nb + 11) + lb ≤ R.locals) (hrest : (rest.map gcat).sum ≤ 8) (hck : ck.1 ≤ R.cells ∧ ck.2 ≤ R.slots)
    (k : gw v → gA R y cc nL ret Q ck (q0) lv (v :: rest) sh M) : gA R y cc nL ret Q ck pc lv st sh M := by
  refine g_callS hm hi hl0 hd hq0 hst hc hn hR hck hrest (fun r sh1 M1 hq hw hM => ?_)
  obtain ⟨rfl, rfl, rfl⟩ := hq
  exact k (hw v rfl)

theorem g_callSm {q0 : Nat} {fb lb : Nat} {yc : MethodName} {cb : ByteArray} {nb n idx : Nat} {rb : Option FieldType} {rest as : List gV} {P : Option gV → gM → Prop} (hm : gMt yc cb nb rb n) (hi : Cond.static yc ∈ gAll) (hl0 : Cond.methodLink y.cls idx yc ∈ gAll) (hd : decode cc pc = .ok (.invokestatic idx, 3)) (hq0 : pc + 3 = q0) (hst : as.reverse ++ rest = st)
    (hc : gC (gr fb lb) yc cb nb rb as sh M (gPm sh P)) (hn : as.length = n) (hR : fb + 1 ≤ R.frames ∧ 8 + (nb + 11) + lb ≤ R.locals) (hrest : (rest.map gcat).sum ≤ 8) (hck : ck.1 ≤ R.cells ∧ ck.2 ≤ R.slots)
    (k : ∀ (r : Option gV) (M1 : gM), P r M1 → (∀ v, r = some v → gw v) → gMw sh M1 → gA R y cc nL ret Q ck (q0) lv (r.toList ++ rest) sh M1) : gA R y cc nL ret Q ck pc lv st sh M := by
  refine g_callS hm hi hl0 hd hq0 hst hc hn hR hck hrest (fun r sh1 M1 hq hw hM => ?_)
  obtain ⟨rfl, hP⟩ := hq
  exact k r M1 hP hw hM

end
/-- the cells of a new object and a new reference, in the order in which they are made -/
def gSH : gS := [(0, 12), (0, 10), (2, 260), (0, 9), (0, 2), (1, 120), (1, 360), (1, 120), (6, 120), (2, 2880), (1, 120), (1, 120), (1, 120), (1, 120), (0, 4), (4, 120), (4, 120), (0, 11), (1, 0), (1, 0), (0, 11), (1, 16), (1, 16), (0, 11), (1, 16), (1, 16), (0, 11), (1, 16), (1, 16), (0, 11), (1, 16), (1, 16), (0, 11), (1, 16), (1, 16), (0, 11), (1, 16), (1, 16), (0, 11), (1, 16), (1, 16), (0, 11), (1, 16), (1, 16), (0, 11), (1, 16), (1, 16), (0, 11), (1, 16), (1, 16), (0, 11), (1, 16), (1, 16), (0, 11), (1, 16), (1, 16), (0, 11), (1, 16), (1, 16), (0, 11), (1, 16), (1, 16), (0, 11), (1, 16), (1, 16), (0, 11), (1, 16), (1, 16), (0, 11), (1, 16), (1, 16), (0, 11), (1, 16), (1, 16), (0, 11), (1, 16), (1, 16), (0, 11), (1, 16), (1, 16), (0, 11), (1, 16), (1, 16), (0, 11), (1, 16), (1, 16), (0, 11), (1, 16), (1, 16), (0, 11), (1, 16), (1, 16), (0, 11), (1, 16), (1, 16), (0, 11), (1, 16), (1, 16), (0, 11), (1, 16), (1, 16), (0, 11), (1, 16), (1, 16), (0, 11), (1, 16), (1, 16), (0, 11), (1, 16), (1, 16), (0, 11), (1, 16), (1, 16), (0, 11), (1, 16), (1, 16), (0, 11), (1, 16), (1, 16), (0, 11), (1, 16), (1, 16), (0, 11), (1, 16), (1, 16), (0, 11), (1, 16), (1, 16), (0, 11), (1, 16), (1, 16), (0, 11), (1, 16), (1, 16), (0, 11), (1, 16), (1, 16), (0, 11), (1, 16), (1, 16), (0, 11), (1, 16), (1, 16), (0, 11), (1, 16), (1, 16), (0, 11), (1, 16), (1, 16), (0, 11), (1, 16), (1, 16), (0, 11), (1, 16), (1, 16), (0, 11), (1, 16), (1, 16), (0, 11), (1, 16), (1, 16), (0, 11), (1, 16), (1, 16), (0, 11), (1, 16), (1, 16), (0, 11), (1, 16), (1, 16), (0, 11), (1, 16), (1, 16), (0, 11), (1, 16), (1, 16), (0, 11), (1, 16), (1, 16), (0, 11), (1, 16), (1, 16), (0, 11), (1, 16), (1, 16), (0, 11), (1, 16), (1, 16), (0, 11), (1, 16), (1, 16), (0, 11), (1, 16), (1, 16), (0, 11), (1, 16), (1, 16), (0, 11), (1, 16), (1, 16), (0, 11), (1, 16), (1, 16), (0, 11), (1, 16), (1, 16), (0, 11), (1, 16), (1, 16), (0, 11), (1, 16), (1, 16), (0, 11), (1, 16), (1, 16), (0, 11), (1, 16), (1, 16), (0, 11), (1, 16), (1, 16), (0, 11), (1, 16), (1, 16), (0, 11), (1, 16), (1, 16), (0, 11), (1, 16), (1, 16), (0, 11), (1, 16), (1, 16), (0, 11), (1, 16), (1, 16), (0, 11), (1, 16), (1, 16), (0, 11), (1, 16), (1, 16), (0, 11), (1, 16), (1, 16), (0, 11), (1, 16), (1, 16), (0, 11), (1, 16), (1, 16), (0, 11), (1, 16), (1, 16), (0, 11), (1, 16), (1, 16), (0, 11), (1, 16), (1, 16), (0, 11), (1, 16), (1, 16), (0, 11), (1, 16), (1, 16), (0, 11), (1, 16), (1, 16), (0, 11), (1, 16), (1, 16), (0, 11), (1, 16), (1, 16), (0, 11), (1, 16), (1, 16), (0, 11), (1, 16), (1, 16), (0, 11), (1, 16), (1, 16), (0, 11), (1, 16), (1, 16), (0, 11), (1, 16), (1, 16), (0, 11), (1, 16), (1, 16), (0, 11), (1, 16), (1, 16), (0, 11), (1, 16), (1, 16), (0, 11), (1, 16), (1, 16), (0, 11), (1, 16), (1, 16), (0, 11), (1, 16), (1, 16), (0, 11), (1, 16), (1, 16), (0, 11), (1, 16), (1, 16), (0, 11), (1, 16), (1, 16), (0, 11), (1, 16), (1, 16), (0, 11), (1, 16), (1, 16), (0, 11), (1, 16), (1, 16), (0, 11), (1, 16), (1, 16), (0, 11), (1, 16), (1, 16), (0, 11), (1, 16), (1, 16), (0, 11), (1, 16), (1, 16), (0, 11), (1, 16), (1, 16), (0, 11), (1, 16), (1, 16), (0, 11), (1, 16), (1, 16), (0, 11), (1, 16), (1, 16), (0, 11), (1, 16), (1, 16), (0, 11), (1, 16), (1, 16), (0, 11), (1, 16), (1, 16), (0, 11), (1, 16), (1, 16), (0, 11), (1, 16), (1, 16), (0, 11), (1, 16), (1, 16), (0, 11), (1, 16), (1, 16), (0, 11), (1, 16), (1, 16), (0, 11), (1, 16), (1, 16), (0, 11), (1, 16), (1, 16), (0, 3), (1, 3), (0, 11), (1, 32), (1, 32), (2, 24), (0, 11), (1, 32), (1, 32), (0, 4), (4, 120), (4, 120), (0, 4), (4, 1), (4, 1), (1, 120), (1, 120), (1, 3), (3, 3), (0, 3), (1, 3), (0, 11), (1, 32), (1, 32), (2, 24), (0, 11), (1, 32), (1, 32), (7, 4), (8, 4), (0, 7), (0, 6), (0, 5), (1, 4), (1, 4), (0, 5), (1, 4), (1, 4), (0, 5), (1, 4), (1, 4), (0, 5), (1, 4), (1, 4), (0, 5), (1, 4), (1, 4), (0, 5), (1, 4), (1, 4), (0, 5), (1, 10), (1, 10), (1, 120), (1, 120), (0, 8), (1, 16), (1, 16), (1, 16), (1, 16), (0, 1), (1, 32), (1, 32), (1, 32), (1, 32), (1, 32), (1, 16), (1, 16), (5, 16), (1, 16), (1, 16), (5, 256), (1, 6), (1, 6), (1, 7), (0, 1), (1, 32), (1, 32), (1, 32), (1, 32), (1, 32), (1, 16), (1, 16), (5, 16), (1, 16), (1, 16), (5, 256), (1, 6), (1, 6), (1, 7), (0, 4), (4, 2), (4, 2), (1, 120), (1, 4096), (0, 0), (2, 16), (7, 4), (8, 4), (0, 8), (1, 16), (1, 16), (1, 16), (1, 16), (0, 8), (1, 16), (1, 16), (1, 16), (1, 16), (0, 8), (1, 16), (1, 16), (1, 16), (1, 16), (0, 8), (1, 16), (1, 16), (1, 16), (1, 16), (0, 8), (1, 16), (1, 16), (1, 16), (1, 16), (0, 8), (1, 16), (1, 16), (1, 16), (1, 16), (0, 8), (1, 16), (1, 16), (1, 16), (1, 16), (0, 8), (1, 16), (1, 16), (1, 16), (1, 16), (0, 6), (0, 5), (1, 4), (1, 4), (0, 5), (1, 4), (1, 4), (0, 5), (1, 4), (1, 4), (0, 5), (1, 4), (1, 4), (0, 5), (1, 4), (1, 4), (0, 5), (1, 4), (1, 4), (0, 5), (1, 10), (1, 10), (1, 120), (1, 120), (0, 6), (0, 5), (1, 4), (1, 4), (0, 5), (1, 4), (1, 4), (0, 5), (1, 4), (1, 4), (0, 5), (1, 4), (1, 4), (0, 5), (1, 4), (1, 4), (0, 5), (1, 4), (1, 4), (0, 5), (1, 10), (1, 10), (1, 120), (1, 120), (0, 6), (0, 5), (1, 4), (1, 4), (0, 5), (1, 4), (1, 4), (0, 5), (1, 4), (1, 4), (0, 5), (1, 4), (1, 4), (0, 5), (1, 4), (1, 4), (0, 5), (1, 4), (1, 4), (0, 5), (1, 10), (1, 10), (1, 120), (1, 120), (0, 6), (0, 5), (1, 4), (1, 4), (0, 5), (1, 4), (1, 4), (0, 5), (1, 4), (1, 4), (0, 5), (1, 4), (1, 4), (0, 5), (1, 4), (1, 4), (0, 5), (1, 4), (1, 4), (0, 5), (1, 10), (1, 10), (1, 120), (1, 120), (0, 6), (0, 5), (1, 4), (1, 4), (0, 5), (1, 4), (1, 4), (0, 5), (1, 4), (1, 4), (0, 5), (1, 4), (1, 4), (0, 5), (1, 4), (1, 4), (0, 5), (1, 4), (1, 4), (0, 5), (1, 10), (1, 10), (1, 120), (1, 120), (0, 6), (0, 5), (1, 4), (1, 4), (0, 5), (1, 4), (1, 4), (0, 5), (1, 4), (1, 4), (0, 5), (1, 4), (1, 4), (0, 5), (1, 4), (1, 4), (0, 5), (1, 4), (1, 4), (0, 5), (1, 10), (1, 10), (1, 120), (1, 120), (0, 6), (0, 5), (1, 4), (1, 4), (0, 5), (1, 4), (1, 4), (0, 5), (1, 4), (1, 4), (0, 5), (1, 4), (1, 4), (0, 5), (1, 4), (1, 4), (0, 5), (1, 4), (1, 4), (0, 5), (1, 10), (1, 10), (1, 120), (1, 120), (0, 6), (0, 5), (1, 4), (1, 4), (0, 5), (1, 4), (1, 4), (0, 5), (1, 4), (1, 4), (0, 5), (1, 4), (1, 4), (0, 5), (1, 4), (1, 4), (0, 5), (1, 4), (1, 4), (0, 5), (1, 10), (1, 10), (1, 120), (1, 120), (0, 13), (1, 120), (1, 360), (1, 120), (1, 120), (1, 120), (1, 2880), (1, 123), (1, 2016), (1, 2016), (1, 3), (1, 400), (3, 120), (3, 120), (1, 120), (2, 260), (1, 208), (1, 208), (1, 340), (1, 480), (1, 480), (3, 120), (1, 3), (1, 3), (3, 3), (3, 120), (1, 52), (1, 52), (1, 120), (1, 120), (1, 32), (1, 32), (1, 32), (1, 32), (1, 32), (3, 120), (3, 120), (3, 120), (1, 120), (1, 56), (1, 16), (1, 16), (1, 208), (1, 208), (1, 272), (1, 480), (1, 480)]
/-- where, from an object on, the cell lies that its field points to for good -/
def gOff (c k : Nat) : Option Nat := match c, k with
  | 10, 0 => some 1
  | 4, 0 => some 1
  | 4, 1 => some 2
  | 11, 0 => some 1
  | 11, 1 => some 2
  | 2, 1 => some 1
  | 2, 2 => some 2
  | 2, 3 => some 3
  | 2, 4 => some 4
  | 2, 5 => some 5
  | 2, 6 => some 6
  | 2, 7 => some 7
  | 2, 8 => some 8
  | 2, 9 => some 9
  | 2, 10 => some 10
  | 2, 11 => some 13
  | 3, 0 => some 1
  | 3, 2 => some 2
  | 3, 3 => some 5
  | 3, 7 => some 6
  | 9, 0 => some 1
  | 9, 1 => some 377
  | 9, 2 => some 386
  | 9, 3 => some 389
  | 9, 4 => some 392
  | 9, 5 => some 393
  | 9, 8 => some 394
  | 9, 9 => some 395
  | 5, 1 => some 1
  | 5, 2 => some 2
  | 6, 4 => some 1
  | 6, 5 => some 4
  | 6, 6 => some 7
  | 6, 7 => some 10
  | 6, 8 => some 13
  | 6, 9 => some 16
  | 6, 10 => some 19
  | 6, 17 => some 22
  | 6, 18 => some 23
  | 7, 0 => some 1
  | 8, 1 => some 1
  | 8, 2 => some 2
  | 8, 3 => some 3
  | 8, 4 => some 4
  | 1, 1 => some 1
  | 1, 2 => some 2
  | 1, 3 => some 3
  | 1, 4 => some 4
  | 1, 5 => some 5
  | 1, 7 => some 6
  | 1, 8 => some 7
  | 1, 9 => some 8
  | 1, 12 => some 9
  | 1, 13 => some 10
  | 1, 14 => some 11
  | 1, 15 => some 12
  | 1, 16 => some 13
  | 1, 17 => some 14
  | 12, 0 => some 1
  | 12, 1 => some 3
  | 12, 3 => some 399
  | 12, 4 => some 408
  | 12, 5 => some 409
  | 12, 6 => some 410
  | 12, 7 => some 435
  | 12, 8 => some 440
  | 12, 9 => some 455
  | 12, 10 => some 470
  | 12, 11 => some 473
  | 12, 12 => some 474
  | 12, 13 => some 475
  | 12, 14 => some 477
  | 12, 15 => some 478
  | 13, 1 => some 1
  | 13, 2 => some 2
  | 13, 3 => some 3
  | 13, 4 => some 4
  | 13, 5 => some 5
  | 13, 6 => some 6
  | 13, 7 => some 7
  | 13, 8 => some 8
  | 13, 9 => some 9
  | 13, 10 => some 10
  | 13, 11 => some 11
  | 13, 14 => some 12
  | 13, 15 => some 13
  | 13, 16 => some 14
  | 13, 17 => some 15
  | 13, 24 => some 16
  | 13, 25 => some 17
  | 13, 26 => some 18
  | 13, 27 => some 19
  | 13, 28 => some 20
  | 13, 31 => some 21
  | 13, 34 => some 22
  | 13, 35 => some 23
  | 13, 36 => some 24
  | 13, 39 => some 25
  | 13, 40 => some 26
  | 13, 41 => some 27
  | 13, 42 => some 28
  | 13, 43 => some 29
  | 13, 44 => some 30
  | 13, 45 => some 31
  | 13, 46 => some 32
  | 13, 47 => some 33
  | 13, 48 => some 34
  | 13, 52 => some 35
  | 13, 53 => some 36
  | 13, 54 => some 37
  | 13, 55 => some 38
  | 13, 56 => some 39
  | 13, 57 => some 40
  | 13, 58 => some 41
  | 13, 65 => some 42
  | 13, 66 => some 43
  | 13, 67 => some 44
  | 13, 68 => some 45
  | 13, 69 => some 46
  | 12, 2 => some 4
  | _, _ => none
/-- the shape has grown from gSH; pointers that never change -/
def gOK (sh : gS) (M : gM) : Prop :=
  (∀ (n : Nat) (k : Nat × Nat), gSH[n]? = some k → sh[n]? = some k) ∧
  (∀ (a : Int) (c k d : Nat), a < 758 → gsh sh a = some (0, c) → gOff c k = some d → M a (k : Int) = a + (d : Int)) ∧
  (∀ i : Int, 0 ≤ i → i < 120 → M 8 i = 20 + 3 * i) ∧ (∀ i : Int, 0 ≤ i → i < 4 → M 408 i = 479 + 10 * i ∧ M 477 i = 484 + 10 * i ∧ M 409 i = 519 + 48 * i ∧ M 478 i = 543 + 48 * i)
theorem gOK_sh {sh : gS} {M : gM} (h : gOK sh M) (n : Nat) {k : Nat × Nat} (e : gSH[n]? = some k) : gsh sh (n : Int) = some k := gsh_of (h.1 n k e)

theorem sh_0 {sh : gS} {M : gM} (h : gOK sh M) : gsh sh 0 = some (0, 12) := gOK_sh h 0 (by decide +kernel)
theorem sh_1 {sh : gS} {M : gM} (h : gOK sh M) : gsh sh 1 = some (0, 10) := gOK_sh h 1 (by decide +kernel)
theorem sh_2 {sh : gS} {M : gM} (h : gOK sh M) : gsh sh 2 = some (2, 260) := gOK_sh h 2 (by decide +kernel)
theorem sh_3 {sh : gS} {M : gM} (h : gOK sh M) : gsh sh 3 = some (0, 9) := gOK_sh h 3 (by decide +kernel)
theorem sh_4 {sh : gS} {M : gM} (h : gOK sh M) : gsh sh 4 = some (0, 2) := gOK_sh h 4 (by decide +kernel)
theorem sh_5 {sh : gS} {M : gM} (h : gOK sh M) : gsh sh 5 = some (1, 120) := gOK_sh h 5 (by decide +kernel)
theorem sh_6 {sh : gS} {M : gM} (h : gOK sh M) : gsh sh 6 = some (1, 360) := gOK_sh h 6 (by decide +kernel)
theorem sh_7 {sh : gS} {M : gM} (h : gOK sh M) : gsh sh 7 = some (1, 120) := gOK_sh h 7 (by decide +kernel)
theorem sh_8 {sh : gS} {M : gM} (h : gOK sh M) : gsh sh 8 = some (6, 120) := gOK_sh h 8 (by decide +kernel)
theorem sh_9 {sh : gS} {M : gM} (h : gOK sh M) : gsh sh 9 = some (2, 2880) := gOK_sh h 9 (by decide +kernel)
theorem sh_10 {sh : gS} {M : gM} (h : gOK sh M) : gsh sh 10 = some (1, 120) := gOK_sh h 10 (by decide +kernel)
theorem sh_11 {sh : gS} {M : gM} (h : gOK sh M) : gsh sh 11 = some (1, 120) := gOK_sh h 11 (by decide +kernel)
theorem sh_12 {sh : gS} {M : gM} (h : gOK sh M) : gsh sh 12 = some (1, 120) := gOK_sh h 12 (by decide +kernel)
theorem sh_13 {sh : gS} {M : gM} (h : gOK sh M) : gsh sh 13 = some (1, 120) := gOK_sh h 13 (by decide +kernel)
theorem sh_14 {sh : gS} {M : gM} (h : gOK sh M) : gsh sh 14 = some (0, 4) := gOK_sh h 14 (by decide +kernel)
theorem sh_15 {sh : gS} {M : gM} (h : gOK sh M) : gsh sh 15 = some (4, 120) := gOK_sh h 15 (by decide +kernel)
theorem sh_16 {sh : gS} {M : gM} (h : gOK sh M) : gsh sh 16 = some (4, 120) := gOK_sh h 16 (by decide +kernel)
theorem sh_17 {sh : gS} {M : gM} (h : gOK sh M) : gsh sh 17 = some (0, 11) := gOK_sh h 17 (by decide +kernel)
theorem sh_18 {sh : gS} {M : gM} (h : gOK sh M) : gsh sh 18 = some (1, 0) := gOK_sh h 18 (by decide +kernel)
theorem sh_19 {sh : gS} {M : gM} (h : gOK sh M) : gsh sh 19 = some (1, 0) := gOK_sh h 19 (by decide +kernel)
theorem sh_380 {sh : gS} {M : gM} (h : gOK sh M) : gsh sh 380 = some (0, 3) := gOK_sh h 380 (by decide +kernel)
theorem sh_381 {sh : gS} {M : gM} (h : gOK sh M) : gsh sh 381 = some (1, 3) := gOK_sh h 381 (by decide +kernel)
theorem sh_382 {sh : gS} {M : gM} (h : gOK sh M) : gsh sh 382 = some (0, 11) := gOK_sh h 382 (by decide +kernel)
theorem sh_383 {sh : gS} {M : gM} (h : gOK sh M) : gsh sh 383 = some (1, 32) := gOK_sh h 383 (by decide +kernel)
theorem sh_384 {sh : gS} {M : gM} (h : gOK sh M) : gsh sh 384 = some (1, 32) := gOK_sh h 384 (by decide +kernel)
theorem sh_385 {sh : gS} {M : gM} (h : gOK sh M) : gsh sh 385 = some (2, 24) := gOK_sh h 385 (by decide +kernel)
theorem sh_386 {sh : gS} {M : gM} (h : gOK sh M) : gsh sh 386 = some (0, 11) := gOK_sh h 386 (by decide +kernel)
theorem sh_387 {sh : gS} {M : gM} (h : gOK sh M) : gsh sh 387 = some (1, 32) := gOK_sh h 387 (by decide +kernel)
theorem sh_388 {sh : gS} {M : gM} (h : gOK sh M) : gsh sh 388 = some (1, 32) := gOK_sh h 388 (by decide +kernel)
theorem sh_389 {sh : gS} {M : gM} (h : gOK sh M) : gsh sh 389 = some (0, 4) := gOK_sh h 389 (by decide +kernel)
theorem sh_390 {sh : gS} {M : gM} (h : gOK sh M) : gsh sh 390 = some (4, 120) := gOK_sh h 390 (by decide +kernel)
theorem sh_391 {sh : gS} {M : gM} (h : gOK sh M) : gsh sh 391 = some (4, 120) := gOK_sh h 391 (by decide +kernel)
theorem sh_392 {sh : gS} {M : gM} (h : gOK sh M) : gsh sh 392 = some (0, 4) := gOK_sh h 392 (by decide +kernel)
theorem sh_393 {sh : gS} {M : gM} (h : gOK sh M) : gsh sh 393 = some (4, 1) := gOK_sh h 393 (by decide +kernel)
theorem sh_394 {sh : gS} {M : gM} (h : gOK sh M) : gsh sh 394 = some (4, 1) := gOK_sh h 394 (by decide +kernel)
theorem sh_395 {sh : gS} {M : gM} (h : gOK sh M) : gsh sh 395 = some (1, 120) := gOK_sh h 395 (by decide +kernel)
theorem sh_396 {sh : gS} {M : gM} (h : gOK sh M) : gsh sh 396 = some (1, 120) := gOK_sh h 396 (by decide +kernel)
theorem sh_397 {sh : gS} {M : gM} (h : gOK sh M) : gsh sh 397 = some (1, 3) := gOK_sh h 397 (by decide +kernel)
theorem sh_398 {sh : gS} {M : gM} (h : gOK sh M) : gsh sh 398 = some (3, 3) := gOK_sh h 398 (by decide +kernel)
theorem sh_399 {sh : gS} {M : gM} (h : gOK sh M) : gsh sh 399 = some (0, 3) := gOK_sh h 399 (by decide +kernel)
theorem sh_400 {sh : gS} {M : gM} (h : gOK sh M) : gsh sh 400 = some (1, 3) := gOK_sh h 400 (by decide +kernel)
theorem sh_401 {sh : gS} {M : gM} (h : gOK sh M) : gsh sh 401 = some (0, 11) := gOK_sh h 401 (by decide +kernel)
theorem sh_402 {sh : gS} {M : gM} (h : gOK sh M) : gsh sh 402 = some (1, 32) := gOK_sh h 402 (by decide +kernel)
theorem sh_403 {sh : gS} {M : gM} (h : gOK sh M) : gsh sh 403 = some (1, 32) := gOK_sh h 403 (by decide +kernel)
theorem sh_404 {sh : gS} {M : gM} (h : gOK sh M) : gsh sh 404 = some (2, 24) := gOK_sh h 404 (by decide +kernel)
theorem sh_405 {sh : gS} {M : gM} (h : gOK sh M) : gsh sh 405 = some (0, 11) := gOK_sh h 405 (by decide +kernel)
theorem sh_406 {sh : gS} {M : gM} (h : gOK sh M) : gsh sh 406 = some (1, 32) := gOK_sh h 406 (by decide +kernel)
theorem sh_407 {sh : gS} {M : gM} (h : gOK sh M) : gsh sh 407 = some (1, 32) := gOK_sh h 407 (by decide +kernel)
theorem sh_408 {sh : gS} {M : gM} (h : gOK sh M) : gsh sh 408 = some (7, 4) := gOK_sh h 408 (by decide +kernel)
theorem sh_409 {sh : gS} {M : gM} (h : gOK sh M) : gsh sh 409 = some (8, 4) := gOK_sh h 409 (by decide +kernel)
theorem sh_410 {sh : gS} {M : gM} (h : gOK sh M) : gsh sh 410 = some (0, 7) := gOK_sh h 410 (by decide +kernel)
theorem sh_411 {sh : gS} {M : gM} (h : gOK sh M) : gsh sh 411 = some (0, 6) := gOK_sh h 411 (by decide +kernel)
theorem sh_412 {sh : gS} {M : gM} (h : gOK sh M) : gsh sh 412 = some (0, 5) := gOK_sh h 412 (by decide +kernel)
theorem sh_413 {sh : gS} {M : gM} (h : gOK sh M) : gsh sh 413 = some (1, 4) := gOK_sh h 413 (by decide +kernel)
theorem sh_414 {sh : gS} {M : gM} (h : gOK sh M) : gsh sh 414 = some (1, 4) := gOK_sh h 414 (by decide +kernel)
theorem sh_415 {sh : gS} {M : gM} (h : gOK sh M) : gsh sh 415 = some (0, 5) := gOK_sh h 415 (by decide +kernel)
theorem sh_416 {sh : gS} {M : gM} (h : gOK sh M) : gsh sh 416 = some (1, 4) := gOK_sh h 416 (by decide +kernel)
theorem sh_417 {sh : gS} {M : gM} (h : gOK sh M) : gsh sh 417 = some (1, 4) := gOK_sh h 417 (by decide +kernel)
theorem sh_418 {sh : gS} {M : gM} (h : gOK sh M) : gsh sh 418 = some (0, 5) := gOK_sh h 418 (by decide +kernel)
theorem sh_419 {sh : gS} {M : gM} (h : gOK sh M) : gsh sh 419 = some (1, 4) := gOK_sh h 419 (by decide +kernel)
theorem sh_420 {sh : gS} {M : gM} (h : gOK sh M) : gsh sh 420 = some (1, 4) := gOK_sh h 420 (by decide +kernel)
theorem sh_421 {sh : gS} {M : gM} (h : gOK sh M) : gsh sh 421 = some (0, 5) := gOK_sh h 421 (by decide +kernel)
theorem sh_422 {sh : gS} {M : gM} (h : gOK sh M) : gsh sh 422 = some (1, 4) := gOK_sh h 422 (by decide +kernel)
theorem sh_423 {sh : gS} {M : gM} (h : gOK sh M) : gsh sh 423 = some (1, 4) := gOK_sh h 423 (by decide +kernel)
theorem sh_424 {sh : gS} {M : gM} (h : gOK sh M) : gsh sh 424 = some (0, 5) := gOK_sh h 424 (by decide +kernel)
theorem sh_425 {sh : gS} {M : gM} (h : gOK sh M) : gsh sh 425 = some (1, 4) := gOK_sh h 425 (by decide +kernel)
theorem sh_426 {sh : gS} {M : gM} (h : gOK sh M) : gsh sh 426 = some (1, 4) := gOK_sh h 426 (by decide +kernel)
theorem sh_427 {sh : gS} {M : gM} (h : gOK sh M) : gsh sh 427 = some (0, 5) := gOK_sh h 427 (by decide +kernel)
theorem sh_428 {sh : gS} {M : gM} (h : gOK sh M) : gsh sh 428 = some (1, 4) := gOK_sh h 428 (by decide +kernel)
theorem sh_429 {sh : gS} {M : gM} (h : gOK sh M) : gsh sh 429 = some (1, 4) := gOK_sh h 429 (by decide +kernel)
theorem sh_430 {sh : gS} {M : gM} (h : gOK sh M) : gsh sh 430 = some (0, 5) := gOK_sh h 430 (by decide +kernel)
theorem sh_431 {sh : gS} {M : gM} (h : gOK sh M) : gsh sh 431 = some (1, 10) := gOK_sh h 431 (by decide +kernel)
theorem sh_432 {sh : gS} {M : gM} (h : gOK sh M) : gsh sh 432 = some (1, 10) := gOK_sh h 432 (by decide +kernel)
theorem sh_433 {sh : gS} {M : gM} (h : gOK sh M) : gsh sh 433 = some (1, 120) := gOK_sh h 433 (by decide +kernel)
theorem sh_434 {sh : gS} {M : gM} (h : gOK sh M) : gsh sh 434 = some (1, 120) := gOK_sh h 434 (by decide +kernel)
theorem sh_435 {sh : gS} {M : gM} (h : gOK sh M) : gsh sh 435 = some (0, 8) := gOK_sh h 435 (by decide +kernel)
theorem sh_436 {sh : gS} {M : gM} (h : gOK sh M) : gsh sh 436 = some (1, 16) := gOK_sh h 436 (by decide +kernel)
theorem sh_437 {sh : gS} {M : gM} (h : gOK sh M) : gsh sh 437 = some (1, 16) := gOK_sh h 437 (by decide +kernel)
theorem sh_438 {sh : gS} {M : gM} (h : gOK sh M) : gsh sh 438 = some (1, 16) := gOK_sh h 438 (by decide +kernel)
theorem sh_439 {sh : gS} {M : gM} (h : gOK sh M) : gsh sh 439 = some (1, 16) := gOK_sh h 439 (by decide +kernel)
theorem sh_440 {sh : gS} {M : gM} (h : gOK sh M) : gsh sh 440 = some (0, 1) := gOK_sh h 440 (by decide +kernel)
theorem sh_441 {sh : gS} {M : gM} (h : gOK sh M) : gsh sh 441 = some (1, 32) := gOK_sh h 441 (by decide +kernel)
theorem sh_442 {sh : gS} {M : gM} (h : gOK sh M) : gsh sh 442 = some (1, 32) := gOK_sh h 442 (by decide +kernel)
theorem sh_443 {sh : gS} {M : gM} (h : gOK sh M) : gsh sh 443 = some (1, 32) := gOK_sh h 443 (by decide +kernel)
theorem sh_444 {sh : gS} {M : gM} (h : gOK sh M) : gsh sh 444 = some (1, 32) := gOK_sh h 444 (by decide +kernel)
theorem sh_445 {sh : gS} {M : gM} (h : gOK sh M) : gsh sh 445 = some (1, 32) := gOK_sh h 445 (by decide +kernel)
theorem sh_446 {sh : gS} {M : gM} (h : gOK sh M) : gsh sh 446 = some (1, 16) := gOK_sh h 446 (by decide +kernel)
theorem sh_447 {sh : gS} {M : gM} (h : gOK sh M) : gsh sh 447 = some (1, 16) := gOK_sh h 447 (by decide +kernel)
theorem sh_448 {sh : gS} {M : gM} (h : gOK sh M) : gsh sh 448 = some (5, 16) := gOK_sh h 448 (by decide +kernel)
theorem sh_449 {sh : gS} {M : gM} (h : gOK sh M) : gsh sh 449 = some (1, 16) := gOK_sh h 449 (by decide +kernel)
theorem sh_450 {sh : gS} {M : gM} (h : gOK sh M) : gsh sh 450 = some (1, 16) := gOK_sh h 450 (by decide +kernel)
theorem sh_451 {sh : gS} {M : gM} (h : gOK sh M) : gsh sh 451 = some (5, 256) := gOK_sh h 451 (by decide +kernel)
theorem sh_452 {sh : gS} {M : gM} (h : gOK sh M) : gsh sh 452 = some (1, 6) := gOK_sh h 452 (by decide +kernel)
theorem sh_453 {sh : gS} {M : gM} (h : gOK sh M) : gsh sh 453 = some (1, 6) := gOK_sh h 453 (by decide +kernel)
theorem sh_454 {sh : gS} {M : gM} (h : gOK sh M) : gsh sh 454 = some (1, 7) := gOK_sh h 454 (by decide +kernel)
theorem sh_455 {sh : gS} {M : gM} (h : gOK sh M) : gsh sh 455 = some (0, 1) := gOK_sh h 455 (by decide +kernel)
theorem sh_456 {sh : gS} {M : gM} (h : gOK sh M) : gsh sh 456 = some (1, 32) := gOK_sh h 456 (by decide +kernel)
theorem sh_457 {sh : gS} {M : gM} (h : gOK sh M) : gsh sh 457 = some (1, 32) := gOK_sh h 457 (by decide +kernel)
theorem sh_458 {sh : gS} {M : gM} (h : gOK sh M) : gsh sh 458 = some (1, 32) := gOK_sh h 458 (by decide +kernel)
theorem sh_459 {sh : gS} {M : gM} (h : gOK sh M) : gsh sh 459 = some (1, 32) := gOK_sh h 459 (by decide +kernel)
theorem sh_460 {sh : gS} {M : gM} (h : gOK sh M) : gsh sh 460 = some (1, 32) := gOK_sh h 460 (by decide +kernel)
theorem sh_461 {sh : gS} {M : gM} (h : gOK sh M) : gsh sh 461 = some (1, 16) := gOK_sh h 461 (by decide +kernel)
theorem sh_462 {sh : gS} {M : gM} (h : gOK sh M) : gsh sh 462 = some (1, 16) := gOK_sh h 462 (by decide +kernel)
theorem sh_463 {sh : gS} {M : gM} (h : gOK sh M) : gsh sh 463 = some (5, 16) := gOK_sh h 463 (by decide +kernel)
theorem sh_464 {sh : gS} {M : gM} (h : gOK sh M) : gsh sh 464 = some (1, 16) := gOK_sh h 464 (by decide +kernel)
theorem sh_465 {sh : gS} {M : gM} (h : gOK sh M) : gsh sh 465 = some (1, 16) := gOK_sh h 465 (by decide +kernel)
theorem sh_466 {sh : gS} {M : gM} (h : gOK sh M) : gsh sh 466 = some (5, 256) := gOK_sh h 466 (by decide +kernel)
theorem sh_467 {sh : gS} {M : gM} (h : gOK sh M) : gsh sh 467 = some (1, 6) := gOK_sh h 467 (by decide +kernel)
theorem sh_468 {sh : gS} {M : gM} (h : gOK sh M) : gsh sh 468 = some (1, 6) := gOK_sh h 468 (by decide +kernel)
theorem sh_469 {sh : gS} {M : gM} (h : gOK sh M) : gsh sh 469 = some (1, 7) := gOK_sh h 469 (by decide +kernel)
theorem sh_470 {sh : gS} {M : gM} (h : gOK sh M) : gsh sh 470 = some (0, 4) := gOK_sh h 470 (by decide +kernel)
theorem sh_471 {sh : gS} {M : gM} (h : gOK sh M) : gsh sh 471 = some (4, 2) := gOK_sh h 471 (by decide +kernel)
theorem sh_472 {sh : gS} {M : gM} (h : gOK sh M) : gsh sh 472 = some (4, 2) := gOK_sh h 472 (by decide +kernel)
theorem sh_473 {sh : gS} {M : gM} (h : gOK sh M) : gsh sh 473 = some (1, 120) := gOK_sh h 473 (by decide +kernel)
theorem sh_474 {sh : gS} {M : gM} (h : gOK sh M) : gsh sh 474 = some (1, 4096) := gOK_sh h 474 (by decide +kernel)
theorem sh_475 {sh : gS} {M : gM} (h : gOK sh M) : gsh sh 475 = some (0, 0) := gOK_sh h 475 (by decide +kernel)
theorem sh_476 {sh : gS} {M : gM} (h : gOK sh M) : gsh sh 476 = some (2, 16) := gOK_sh h 476 (by decide +kernel)
theorem sh_477 {sh : gS} {M : gM} (h : gOK sh M) : gsh sh 477 = some (7, 4) := gOK_sh h 477 (by decide +kernel)
theorem sh_478 {sh : gS} {M : gM} (h : gOK sh M) : gsh sh 478 = some (8, 4) := gOK_sh h 478 (by decide +kernel)
theorem sh_711 {sh : gS} {M : gM} (h : gOK sh M) : gsh sh 711 = some (0, 13) := gOK_sh h 711 (by decide +kernel)
theorem sh_712 {sh : gS} {M : gM} (h : gOK sh M) : gsh sh 712 = some (1, 120) := gOK_sh h 712 (by decide +kernel)
theorem sh_713 {sh : gS} {M : gM} (h : gOK sh M) : gsh sh 713 = some (1, 360) := gOK_sh h 713 (by decide +kernel)
theorem sh_714 {sh : gS} {M : gM} (h : gOK sh M) : gsh sh 714 = some (1, 120) := gOK_sh h 714 (by decide +kernel)
theorem sh_715 {sh : gS} {M : gM} (h : gOK sh M) : gsh sh 715 = some (1, 120) := gOK_sh h 715 (by decide +kernel)
theorem sh_716 {sh : gS} {M : gM} (h : gOK sh M) : gsh sh 716 = some (1, 120) := gOK_sh h 716 (by decide +kernel)
theorem sh_717 {sh : gS} {M : gM} (h : gOK sh M) : gsh sh 717 = some (1, 2880) := gOK_sh h 717 (by decide +kernel)
theorem sh_718 {sh : gS} {M : gM} (h : gOK sh M) : gsh sh 718 = some (1, 123) := gOK_sh h 718 (by decide +kernel)
theorem sh_719 {sh : gS} {M : gM} (h : gOK sh M) : gsh sh 719 = some (1, 2016) := gOK_sh h 719 (by decide +kernel)
theorem sh_720 {sh : gS} {M : gM} (h : gOK sh M) : gsh sh 720 = some (1, 2016) := gOK_sh h 720 (by decide +kernel)
theorem sh_721 {sh : gS} {M : gM} (h : gOK sh M) : gsh sh 721 = some (1, 3) := gOK_sh h 721 (by decide +kernel)
theorem sh_722 {sh : gS} {M : gM} (h : gOK sh M) : gsh sh 722 = some (1, 400) := gOK_sh h 722 (by decide +kernel)
theorem sh_723 {sh : gS} {M : gM} (h : gOK sh M) : gsh sh 723 = some (3, 120) := gOK_sh h 723 (by decide +kernel)
theorem sh_724 {sh : gS} {M : gM} (h : gOK sh M) : gsh sh 724 = some (3, 120) := gOK_sh h 724 (by decide +kernel)
theorem sh_725 {sh : gS} {M : gM} (h : gOK sh M) : gsh sh 725 = some (1, 120) := gOK_sh h 725 (by decide +kernel)
theorem sh_726 {sh : gS} {M : gM} (h : gOK sh M) : gsh sh 726 = some (2, 260) := gOK_sh h 726 (by decide +kernel)
theorem sh_727 {sh : gS} {M : gM} (h : gOK sh M) : gsh sh 727 = some (1, 208) := gOK_sh h 727 (by decide +kernel)
theorem sh_728 {sh : gS} {M : gM} (h : gOK sh M) : gsh sh 728 = some (1, 208) := gOK_sh h 728 (by decide +kernel)
theorem sh_729 {sh : gS} {M : gM} (h : gOK sh M) : gsh sh 729 = some (1, 340) := gOK_sh h 729 (by decide +kernel)
theorem sh_730 {sh : gS} {M : gM} (h : gOK sh M) : gsh sh 730 = some (1, 480) := gOK_sh h 730 (by decide +kernel)
theorem sh_731 {sh : gS} {M : gM} (h : gOK sh M) : gsh sh 731 = some (1, 480) := gOK_sh h 731 (by decide +kernel)
theorem sh_732 {sh : gS} {M : gM} (h : gOK sh M) : gsh sh 732 = some (3, 120) := gOK_sh h 732 (by decide +kernel)
theorem sh_733 {sh : gS} {M : gM} (h : gOK sh M) : gsh sh 733 = some (1, 3) := gOK_sh h 733 (by decide +kernel)
theorem sh_734 {sh : gS} {M : gM} (h : gOK sh M) : gsh sh 734 = some (1, 3) := gOK_sh h 734 (by decide +kernel)
theorem sh_735 {sh : gS} {M : gM} (h : gOK sh M) : gsh sh 735 = some (3, 3) := gOK_sh h 735 (by decide +kernel)
theorem sh_736 {sh : gS} {M : gM} (h : gOK sh M) : gsh sh 736 = some (3, 120) := gOK_sh h 736 (by decide +kernel)
theorem sh_737 {sh : gS} {M : gM} (h : gOK sh M) : gsh sh 737 = some (1, 52) := gOK_sh h 737 (by decide +kernel)
theorem sh_738 {sh : gS} {M : gM} (h : gOK sh M) : gsh sh 738 = some (1, 52) := gOK_sh h 738 (by decide +kernel)
theorem sh_739 {sh : gS} {M : gM} (h : gOK sh M) : gsh sh 739 = some (1, 120) := gOK_sh h 739 (by decide +kernel)
theorem sh_740 {sh : gS} {M : gM} (h : gOK sh M) : gsh sh 740 = some (1, 120) := gOK_sh h 740 (by decide +kernel)
theorem sh_741 {sh : gS} {M : gM} (h : gOK sh M) : gsh sh 741 = some (1, 32) := gOK_sh h 741 (by decide +kernel)
theorem sh_742 {sh : gS} {M : gM} (h : gOK sh M) : gsh sh 742 = some (1, 32) := gOK_sh h 742 (by decide +kernel)
theorem sh_743 {sh : gS} {M : gM} (h : gOK sh M) : gsh sh 743 = some (1, 32) := gOK_sh h 743 (by decide +kernel)
theorem sh_744 {sh : gS} {M : gM} (h : gOK sh M) : gsh sh 744 = some (1, 32) := gOK_sh h 744 (by decide +kernel)
theorem sh_745 {sh : gS} {M : gM} (h : gOK sh M) : gsh sh 745 = some (1, 32) := gOK_sh h 745 (by decide +kernel)
theorem sh_746 {sh : gS} {M : gM} (h : gOK sh M) : gsh sh 746 = some (3, 120) := gOK_sh h 746 (by decide +kernel)
theorem sh_747 {sh : gS} {M : gM} (h : gOK sh M) : gsh sh 747 = some (3, 120) := gOK_sh h 747 (by decide +kernel)
theorem sh_748 {sh : gS} {M : gM} (h : gOK sh M) : gsh sh 748 = some (3, 120) := gOK_sh h 748 (by decide +kernel)
theorem sh_749 {sh : gS} {M : gM} (h : gOK sh M) : gsh sh 749 = some (1, 120) := gOK_sh h 749 (by decide +kernel)
theorem sh_750 {sh : gS} {M : gM} (h : gOK sh M) : gsh sh 750 = some (1, 56) := gOK_sh h 750 (by decide +kernel)
theorem sh_751 {sh : gS} {M : gM} (h : gOK sh M) : gsh sh 751 = some (1, 16) := gOK_sh h 751 (by decide +kernel)
theorem sh_752 {sh : gS} {M : gM} (h : gOK sh M) : gsh sh 752 = some (1, 16) := gOK_sh h 752 (by decide +kernel)
theorem sh_753 {sh : gS} {M : gM} (h : gOK sh M) : gsh sh 753 = some (1, 208) := gOK_sh h 753 (by decide +kernel)
theorem sh_754 {sh : gS} {M : gM} (h : gOK sh M) : gsh sh 754 = some (1, 208) := gOK_sh h 754 (by decide +kernel)
theorem sh_755 {sh : gS} {M : gM} (h : gOK sh M) : gsh sh 755 = some (1, 272) := gOK_sh h 755 (by decide +kernel)
theorem sh_756 {sh : gS} {M : gM} (h : gOK sh M) : gsh sh 756 = some (1, 480) := gOK_sh h 756 (by decide +kernel)
theorem sh_757 {sh : gS} {M : gM} (h : gOK sh M) : gsh sh 757 = some (1, 480) := gOK_sh h 757 (by decide +kernel)
section
variable {R : Room} {y : MethodName} {cc : ByteArray} {nL : Nat} {ret : Option FieldType} {Q : Option gV → gS → gM → Prop} {ck : Nat × Nat} {pc : Nat} {lv st : List gV} {sh : gS} {M : gM}

theorem g_getp {q0 : Nat} (hq0 : pc + 3 = q0) {idx ci f : Nat} {T : FieldType} {fin : Bool} {a b : Int} {d : Nat} (hf : gFA y.cls idx ci f T fin) (hd : decode cc pc = .ok (.getfield idx, 3)) (ht : gTag T = 4) (hOK : gOK sh M) (hlt : a < 758) (hs : gsh sh a = some (0, ci)) (ho : gOff ci f = some d) (hb : a + (d : Int) = b)
    (k : gA R y cc nL ret Q ck (q0) lv ((4, b) :: st) sh M) : gA R y cc nL ret Q ck pc lv ((4, a) :: st) sh M := by
  refine g_getf hq0 rfl hf hd ht hs ?_
  rw [hOK.2.1 a ci f d hlt hs ho, hb]
  exact k

end
/-- a place that holds no pointer for good -/
def gFree (k : Nat × Nat) (i : Int) : Prop := match k.1 with
  | 0 => ∀ j : Nat, (j : Int) = i → gOff k.2 j = none
  | 6 => False
  | 7 => False
  | 8 => False
  | _ => True
theorem gOK_U {sh : gS} {M : gM} {a i v : Int} {k : Nat × Nat} (h : gOK sh M) (hs : gsh sh a = some k) (hf : gFree k i) : gOK sh (gU M a i v) := by
  have hp : ∀ (n q : Nat), q + 6 ≤ 8 → gSH[n]? = some (q + 6, 120) ∨ gSH[n]? = some (q + 6, 4) → ¬ a = (n : Int) := by
    intro n q hq hn ha
    have h1 : k = (q + 6, 120) ∨ k = (q + 6, 4) := by
      rcases hn with hn | hn
      · have h2 := gOK_sh h n hn
        rw [← ha, hs] at h2
        exact Or.inl (Option.some.inj h2)
      · have h2 := gOK_sh h n hn
        rw [← ha, hs] at h2
        exact Or.inr (Option.some.inj h2)
    rcases h1 with rfl | rfl <;> (match q, hq with
      | 0, _ => exact hf
      | 1, _ => exact hf
      | 2, _ => exact hf)
  have n8 : ¬ (8 : Int) = a := fun e => hp 8 0 (by decide) (Or.inl (by decide +kernel)) e.symm
  have n408 : ¬ (408 : Int) = a := fun e => hp 408 1 (by decide) (Or.inr (by decide +kernel)) e.symm
  have n477 : ¬ (477 : Int) = a := fun e => hp 477 1 (by decide) (Or.inr (by decide +kernel)) e.symm
  have n409 : ¬ (409 : Int) = a := fun e => hp 409 2 (by decide) (Or.inr (by decide +kernel)) e.symm
  have n478 : ¬ (478 : Int) = a := fun e => hp 478 2 (by decide) (Or.inr (by decide +kernel)) e.symm
  refine ⟨h.1, fun b c j d hb hsb ho => ?_, fun j h0 h1 => ?_, fun j h0 h1 => ?_⟩
  · have e : ¬ (b = a ∧ (j : Int) = i) := by
      rintro ⟨rfl, rfl⟩
      rw [hs] at hsb
      cases hsb
      have h5 := hf j rfl
      rw [h5] at ho
      cases ho
    simp only [gU, if_neg e]
    exact h.2.1 b c j d hb hsb ho
  · simp only [gU, n8, false_and, if_false]
    exact h.2.2.1 j h0 h1
  · simp only [gU, n408, n477, n409, n478, false_and, if_false]
    exact h.2.2.2 j h0 h1
theorem gOK_cpy {sh : gS} {M : gM} {a0 sp a dp n : Int} {k : Nat × Nat} (h : gOK sh M) (hs : gsh sh a = some k) (hk : k.1 = 1 ∨ k.1 = 2) : gOK sh (gCpy M a0 sp a dp n) := by
  obtain ⟨k1, k2⟩ := k
  have hp : ∀ (m q : Nat) (L : Nat), gSH[m]? = some (q + 6, L) → ¬ (m : Int) = a := by
    intro m q L hm ha
    have h2 := gOK_sh h m hm
    rw [ha, hs] at h2
    cases h2
    rcases hk with e | e <;> (simp only at e; omega)
  have e8 : ∀ b : Int, ¬ b = a → gCpy M a0 sp a dp n b = M b := fun b hb => by funext j; simp [gCpy, hb]
  refine ⟨h.1, fun b c j d hb hsb ho => ?_, ?_, ?_⟩
  · have hba : ¬ b = a := by
      rintro rfl
      rw [hs] at hsb
      cases hsb
      rcases hk with e | e <;> (simp only at e; omega)
    rw [e8 b hba]
    exact h.2.1 b c j d hb hsb ho
  · rw [e8 8 (hp 8 0 120 (by decide +kernel))]
    exact h.2.2.1
  · rw [e8 408 (hp 408 1 4 (by decide +kernel)), e8 477 (hp 477 1 4 (by decide +kernel)), e8 409 (hp 409 2 4 (by decide +kernel)), e8 478 (hp 478 2 4 (by decide +kernel))]
    exact h.2.2.2

