-- ==== methods as functions: walks that go on until they end
def gWk {σ β : Type} (k : σ → Option β) : Option (σ ⊕ β) → Option β
  | none => none
  | some (.inl s) => k s
  | some (.inr b) => some b
def gRun {σ β : Type} (step : σ → Option (σ ⊕ β)) : Nat → σ → Option β
  | 0, _ => none
  | n + 1, s => gWk (gRun step n) (step s)
theorem gRun_succ {σ β : Type} {step : σ → Option (σ ⊕ β)} : ∀ (n : Nat) (s : σ) (b : β), gRun step n s = some b → gRun step (n + 1) s = some b := by
  intro n
  induction n with
  | zero => intro s b h; cases h
  | succ n ih =>
    intro s b h
    rw [gRun] at h ⊢
    match hs : step s, h with
    | none, h => cases h
    | some (.inl s1), h => exact ih s1 b h
    | some (.inr b1), h => exact h
theorem gRun_le {σ β : Type} {step : σ → Option (σ ⊕ β)} {n m : Nat} {s : σ} {b : β} (hnm : n ≤ m) (h : gRun step n s = some b) : gRun step m s = some b := by
  obtain ⟨d, rfl⟩ := Nat.le.dest hnm
  induction d with
  | zero => exact h
  | succ d ih => exact gRun_succ _ _ _ (ih (Nat.le_add_right _ _))
noncomputable def gWh {σ β : Type} (step : σ → Option (σ ⊕ β)) (s : σ) : Option β :=
  @dite _ (∃ n b, gRun step n s = some b) (Classical.propDecidable _) (fun h => gRun step h.choose s) (fun _ => none)
theorem gWh_some {σ β : Type} {step : σ → Option (σ ⊕ β)} {s : σ} {b : β} : gWh step s = some b ↔ ∃ n, gRun step n s = some b := by
  unfold gWh
  constructor
  · intro h
    split at h
    · exact ⟨_, h⟩
    · cases h
  · rintro ⟨n, h⟩
    have hx : ∃ n b, gRun step n s = some b := ⟨n, b, h⟩
    rw [dif_pos hx]
    obtain ⟨b1, h1⟩ := hx.choose_spec
    rw [h1]
    have e1 := gRun_le (Nat.le_max_left hx.choose n) h1
    have e2 := gRun_le (Nat.le_max_right hx.choose n) h
    rw [← e1, ← e2]
theorem gWh_eq {σ β : Type} {step : σ → Option (σ ⊕ β)} (s : σ) : gWh step s = gWk (gWh step) (step s) := by
  apply Option.ext
  intro b
  rw [gWh_some]
  constructor
  · rintro ⟨n, h⟩
    cases n with
    | zero => cases h
    | succ n =>
      rw [gRun] at h
      match hs : step s, h with
    | none, h => cases h
      | some (.inl s1), h => exact gWh_some.mpr ⟨n, h⟩
      | some (.inr b1), h => exact h
  · intro h
    match hs : step s, h with
    | none, h => cases h
    | some (.inl s1), h =>
      obtain ⟨n, h1⟩ := gWh_some.mp h
      exact ⟨n + 1, by rw [gRun, hs]; exact h1⟩
    | some (.inr b1), h => exact ⟨1, by rw [gRun, hs]; exact h⟩
theorem gWh_ind {σ β : Type} {step : σ → Option (σ ⊕ β)} {Pt : σ → β → Prop} (hs : ∀ (k : σ → Option β), (∀ s b, k s = some b → Pt s b) → ∀ s b, gWk k (step s) = some b → Pt s b) (s : σ) (b : β) (h : gWh step s = some b) : Pt s b := by
  obtain ⟨n, hn⟩ := gWh_some.mp h
  clear h
  induction n generalizing s b with
  | zero => cases hn
  | succ n ih => exact hs (gRun step n) ih s b hn
theorem gWk_ite {σ β : Type} (k : σ → Option β) {c : Prop} [Decidable c] (a b : Option (σ ⊕ β)) : gWk k (if c then a else b) = if c then gWk k a else gWk k b := by
  split <;> rfl
theorem gWk_bind {σ β α : Type} (k : σ → Option β) (o : Option α) (f : α → Option (σ ⊕ β)) : gWk k (Option.bind o f) = Option.bind o (fun x => gWk k (f x)) := by
  cases o <;> rfl
theorem gWk_inl {σ β : Type} (k : σ → Option β) (s : σ) : gWk k (some (.inl s)) = k s := rfl
theorem gWk_inr {σ β : Type} (k : σ → Option β) (b : β) : gWk k (some (.inr b)) = some b := rfl
theorem gWk_none {σ β : Type} (k : σ → Option β) : gWk k none = none := rfl
theorem gI_pos {α : Type} {c : Prop} [Decidable c] {a b x : α} (hc : c) (h : (if c then a else b) = x) : a = x := by rwa [if_pos hc] at h
theorem gI_neg {α : Type} {c : Prop} [Decidable c] {a b x : α} (hc : ¬ c) (h : (if c then a else b) = x) : b = x := by rwa [if_neg hc] at h
theorem gI_or {α : Type} {c : Prop} [Decidable c] {a b x : α} (h : (if c then a else b) = x) : a = x ∨ b = x := by
  split at h
  · exact Or.inl h
  · exact Or.inr h
theorem gI_gd {α : Type} {c : Prop} [Decidable c] {a : Option α} {x : α} (h : (if c then a else none) = some x) : c ∧ a = some x := by
  split at h
  · exact ⟨by assumption, h⟩
  · cases h
theorem gI_bd {α β : Type} {o : Option α} {f : α → Option β} {x : β} (h : Option.bind o f = some x) : ∃ y, o = some y ∧ f y = some x := Option.bind_eq_some_iff.mp h
theorem gw32_id {z : Int} (h1 : -2147483648 ≤ z) (h2 : z < 2147483648) : gw32 z = z := gi_int ⟨h1, h2⟩
theorem gI_bb {α β : Type} {o : Option α} {f : α → Option β} {x : α} (h : o = some x) : Option.bind o f = f x := by rw [h]; rfl
/-- a call that has this answer, and leaves this memory -/
def gPq (sh : gS) (r0 : Option gV) (M0 : gM) : Option gV → gS → gM → Prop := fun r sh1 M1 => r = r0 ∧ sh1 = sh ∧ M1 = M0
/-- what may have been written: arrays, fields of the reference -/
def gFr (A F : List Int) (M M1 : gM) : Prop := (∀ b : Int, b ∉ A → b ≠ 711 → M1 b = M b) ∧ ∀ f : Int, f ∉ F → M1 711 f = M 711 f
theorem gFr_r (A F : List Int) (M : gM) (hA : (711 : Int) ∉ A := by decide) : gFr A F M M := ⟨fun _ _ _ => rfl, fun _ _ => rfl⟩
theorem gFr_a {A F : List Int} {M M1 : gM} {a i v : Int} (h : gFr A F M M1) (ha : a ∈ A) (hn : a ≠ 711) : gFr A F M (gU M1 a i v) :=
  ⟨fun b hb hc => by rw [gU_cell _ _ _ (show b ≠ a from fun q => hb (by rw [q]; exact ha))]; exact h.1 b hb hc, fun f hf => by rw [gU_cell _ _ _ (show (711 : Int) ≠ a from fun q => hn q.symm)]; exact h.2 f hf⟩
theorem gFr_f {A F : List Int} {M M1 : gM} {i v : Int} (h : gFr A F M M1) (hi : i ∈ F) : gFr A F M (gU M1 711 i v) :=
  ⟨fun b hb hc => by rw [gU_cell _ _ _ hc]; exact h.1 b hb hc, fun f hf => by
    have : ¬ f = i := fun q => hf (q ▸ hi)
    simp only [gU, this, and_false, if_false]
    exact h.2 f hf⟩
theorem gFr_t {A F A1 F1 : List Int} {M M1 M2 : gM} (h : gFr A F M M1) (h1 : gFr A1 F1 M1 M2) (hA : ∀ a ∈ A1, a ∈ A) (hF : ∀ f ∈ F1, f ∈ F) : gFr A F M M2 :=
  ⟨fun b hb hc => (h1.1 b (fun q => hb (hA b q)) hc).trans (h.1 b hb hc), fun f hf => (h1.2 f (fun q => hf (hF f q))).trans (h.2 f hf)⟩
def gFF : List Int := [0, 12, 13, 18, 19, 20, 21, 22, 23, 29, 30, 32, 33, 37, 38, 49, 50, 51, 59, 60, 61, 62, 63, 64, 70, 71]
theorem gOff_X12 : ∀ f : Nat, gOff 13 f ≠ none → ∀ z ∈ gFF, z ≠ (f : Int) := by
  intro f h z hz hzf
  apply h
  simp only [gFF, List.mem_cons, List.not_mem_nil, or_false] at hz
  have : f = z.toNat := by omega
  subst this
  rcases hz with rfl | rfl | rfl | rfl | rfl | rfl | rfl | rfl | rfl | rfl | rfl | rfl | rfl | rfl | rfl | rfl | rfl | rfl | rfl | rfl | rfl | rfl | rfl | rfl | rfl | rfl <;> rfl
theorem gOK_fr {sh : gS} {A F : List Int} {M M1 : gM} (h : gOK sh M) (hf : gFr A F M M1) (hA : ∀ a ∈ A, 711 < a ∧ a < 758) (hF : ∀ f ∈ F, f ∈ gFF) : gOK sh M1 := by
  have hb : ∀ b : Int, b < 711 → M1 b = M b := fun b hb => hf.1 b (fun q => by have := hA b q; omega) (by omega)
  refine ⟨h.1, fun a c k d ha hs ho => ?_, fun i h0 h1 => ?_, fun i h0 h1 => ?_⟩
  · by_cases h7 : a = 711
    · subst h7
      have e := (sh_711 h).symm.trans hs
      cases e
      rw [hf.2 (k : Int) (fun q => gOff_X12 k (by rw [ho]; exact fun z => by cases z) _ (hF _ q) rfl)]
      exact h.2.1 711 13 k d ha hs ho
    · by_cases hlt : a < 711
      · rw [hb a hlt]; exact h.2.1 a c k d ha hs ho
      · exfalso
        obtain ⟨n, rfl⟩ : ∃ n : Nat, a = (n : Int) := ⟨a.toNat, by omega⟩
        have hz : ∀ m : Nat, m < 46 → (gSH[712 + m]?).isSome ∧ ∀ q, gSH[712 + m]? = some q → q.1 ≠ 0 := by decide +kernel
        obtain ⟨q, hq⟩ := Option.isSome_iff_exists.mp (hz (n - 712) (by omega)).1
        have h0 := (hz (n - 712) (by omega)).2 q hq
        rw [show 712 + (n - 712) = n by omega] at hq
        have e := (gOK_sh h n hq).symm.trans hs
        cases e
        exact h0 rfl
  · rw [hb 8 (by decide)]; exact h.2.2.1 i h0 h1
  · rw [hb 408 (by decide), hb 477 (by decide), hb 409 (by decide), hb 478 (by decide)]; exact h.2.2.2 i h0 h1
/-- rows of marks of the reference; its rows of numbers that are handed on -/
abbrev gRw (a : Int) : Prop := a = 723 ∨ a = 724 ∨ a = 732 ∨ a = 736 ∨ a = 746 ∨ a = 747 ∨ a = 748
abbrev gAx (a i : Int) : Prop := 0 ≤ i ∧ (((a = 751 ∨ a = 752) ∧ i < 16) ∨ ((a = 727 ∨ a = 728 ∨ a = 753 ∨ a = 754) ∧ i < 208) ∨ (a = 729 ∧ i < 340) ∨ (a = 755 ∧ i < 272) ∨ ((a = 730 ∨ a = 731 ∨ a = 756 ∨ a = 757) ∧ i < 480))
theorem gRw_sh {sh : gS} {M : gM} {a : Int} (h : gOK sh M) (ha : gRw a) : gsh sh a = some (3, 120) := by
  rcases ha with rfl | rfl | rfl | rfl | rfl | rfl | rfl
  · exact sh_723 h
  · exact sh_724 h
  · exact sh_732 h
  · exact sh_736 h
  · exact sh_746 h
  · exact sh_747 h
  · exact sh_748 h
theorem gAx_sh {sh : gS} {M : gM} {a i : Int} (h : gOK sh M) (ha : gAx a i) : ∃ n : Nat, gsh sh a = some (1, n) ∧ 0 ≤ i ∧ i < (n : Int) := by
  obtain ⟨h0, ⟨rfl | rfl, h1⟩ | ⟨rfl | rfl | rfl | rfl, h1⟩ | ⟨rfl, h1⟩ | ⟨rfl, h1⟩ | ⟨rfl | rfl | rfl | rfl, h1⟩⟩ := ha
  · exact ⟨_, sh_751 h, h0, h1⟩
  · exact ⟨_, sh_752 h, h0, h1⟩
  · exact ⟨_, sh_727 h, h0, h1⟩
  · exact ⟨_, sh_728 h, h0, h1⟩
  · exact ⟨_, sh_753 h, h0, h1⟩
  · exact ⟨_, sh_754 h, h0, h1⟩
  · exact ⟨_, sh_729 h, h0, h1⟩
  · exact ⟨_, sh_755 h, h0, h1⟩
  · exact ⟨_, sh_730 h, h0, h1⟩
  · exact ⟨_, sh_731 h, h0, h1⟩
  · exact ⟨_, sh_756 h, h0, h1⟩
  · exact ⟨_, sh_757 h, h0, h1⟩
/-- less is known of the locals -/
def gSb : List gV → List gV → Prop
  | [], _ => True
  | v :: r, w :: q => (v = w ∨ v.1 = 9) ∧ gSb r q
  | _ :: _, [] => False
theorem gSb_at : ∀ {lv lv1 : List gV}, gSb lv1 lv → ∀ (i : Nat) (v : gV), lv1[i]? = some v → v.1 ≠ 9 → lv[i]? = some v
  | _, [], _, i, v, h, _ => by simp at h
  | [], _ :: _, h, _, _, _, _ => h.elim
  | w :: q, u :: r, h, 0, v, hv, h9 => by
    simp only [List.getElem?_cons_zero, Option.some.injEq] at hv ⊢
    subst hv
    rcases h.1 with e | e
    · exact e.symm
    · exact absurd e h9
  | w :: q, u :: r, h, i + 1, v, hv, h9 => by
    simp only [List.getElem?_cons_succ] at hv ⊢
    exact gSb_at h.2 i v hv h9
section
variable {R : Room} {y : MethodName} {cc : ByteArray} {nL : Nat} {ret : Option FieldType} {Q : Option gV → gS → gM → Prop} {ck : Nat × Nat} {pc : Nat} {lv st : List gV} {sh : gS} {M : gM}
theorem gA_jk {lv1 : List gV} (h : gSb lv1 lv) (k : gA R y cc nL ret Q ck pc lv1 st sh M) : gA R y cc nL ret Q ck pc lv st sh M := by
  intro l G p e s m args below meth c H locs ls hC hH hlw hsw hl hS hB
  refine k l G p e s m args below meth c H locs ls hC hH (fun v hv => ?_) hsw ⟨hl.1, hl.2.1, fun q hq => ?_⟩ hS hB
  · obtain ⟨i, hi⟩ := List.getElem?_of_mem hv
    by_cases h9 : v.1 = 9
    · obtain ⟨t, x⟩ := v
      simp only at h9
      subst h9
      trivial
    · exact hlw v (List.mem_of_getElem? (gSb_at h i v hi h9))
  · obtain ⟨i, w⟩ := q
    obtain ⟨v, h1, h2, h3⟩ := gL_mem.mp hq
    exact hl.2.2 (i, w) (gL_mem.mpr ⟨v, gSb_at h i v h1 h2, h2, h3⟩)
theorem g_iaddw {q0 : Nat} (hq0 : pc + 1 = q0) {a b : Int} (hd : decode cc pc = .ok (.iadd, 1))
    (k : gA R y cc nL ret Q ck q0 lv ((0, gw32 (a + b)) :: st) sh M) : gA R y cc nL ret Q ck pc lv ((0, b) :: (0, a) :: st) sh M := by
  subst hq0
  intro l G p e s m args below meth c H locs ls hC hH hlw hsw hl hS hB
  obtain ⟨hx, hb, hml, hr, hown, hts, hlk, hnm, hK⟩ := id hC
  obtain ⟨hb2, hsw2⟩ := List.forall_mem_cons.mp hsw
  obtain ⟨ha2, hsw3⟩ := List.forall_mem_cons.mp hsw2
  refine lv_iadd hx hb hd ?_
  have h9 := k l G p e s m args below meth c H locs ls hC hH hlw (List.forall_mem_cons.mpr ⟨gw_to _, hsw3⟩) hl hS hB
  rw [List.map_cons, show gc G (0, gw32 (a + b)) = .int (Int32.ofInt (gw32 (a + b))) from rfl, gw32, Int32.ofInt_toInt, Int32.ofInt_add] at h9
  exact h9
theorem g_isubw {q0 : Nat} (hq0 : pc + 1 = q0) {a b : Int} (hd : decode cc pc = .ok (.isub, 1))
    (k : gA R y cc nL ret Q ck q0 lv ((0, gw32 (a - b)) :: st) sh M) : gA R y cc nL ret Q ck pc lv ((0, b) :: (0, a) :: st) sh M := by
  subst hq0
  intro l G p e s m args below meth c H locs ls hC hH hlw hsw hl hS hB
  obtain ⟨hx, hb, hml, hr, hown, hts, hlk, hnm, hK⟩ := id hC
  obtain ⟨hb2, hsw2⟩ := List.forall_mem_cons.mp hsw
  obtain ⟨ha2, hsw3⟩ := List.forall_mem_cons.mp hsw2
  refine lv_isub hx hb hd ?_
  have h9 := k l G p e s m args below meth c H locs ls hC hH hlw (List.forall_mem_cons.mpr ⟨gw_to _, hsw3⟩) hl hS hB
  rw [List.map_cons, show gc G (0, gw32 (a - b)) = .int (Int32.ofInt (gw32 (a - b))) from rfl, gw32, Int32.ofInt_toInt, Int32.ofInt_sub] at h9
  exact h9
theorem g_imulw {q0 : Nat} (hq0 : pc + 1 = q0) {a b : Int} (hd : decode cc pc = .ok (.imul, 1))
    (k : gA R y cc nL ret Q ck q0 lv ((0, gw32 (a * b)) :: st) sh M) : gA R y cc nL ret Q ck pc lv ((0, b) :: (0, a) :: st) sh M := by
  subst hq0
  intro l G p e s m args below meth c H locs ls hC hH hlw hsw hl hS hB
  obtain ⟨hx, hb, hml, hr, hown, hts, hlk, hnm, hK⟩ := id hC
  obtain ⟨hb2, hsw2⟩ := List.forall_mem_cons.mp hsw
  obtain ⟨ha2, hsw3⟩ := List.forall_mem_cons.mp hsw2
  refine lv_imul hx hb hd ?_
  have h9 := k l G p e s m args below meth c H locs ls hC hH hlw (List.forall_mem_cons.mpr ⟨gw_to _, hsw3⟩) hl hS hB
  rw [List.map_cons, show gc G (0, gw32 (a * b)) = .int (Int32.ofInt (gw32 (a * b))) from rfl, gw32, Int32.ofInt_toInt, Int32.ofInt_mul] at h9
  exact h9
theorem g_iincw {q0 : Nat} (hq0 : pc + 3 = q0) {j : Nat} {x n : Int} {lv2 : List gV} (hd : decode cc pc = .ok (.iinc j n, 3)) (hv : lv[j]? = some (0, x)) (hn : j < nL) (ho : gOk lv j = true) (he : lv.set j (0, gw32 (x + n)) = lv2)
    (k : gA R y cc nL ret Q ck q0 lv2 st sh M) : gA R y cc nL ret Q ck pc lv st sh M := by
  subst hq0
  intro l G p e s m args below meth c H locs ls hC hH hlw hsw hl hS hB
  obtain ⟨hx, hb, hml, hr, hown, hts, hlk, hnm, hK⟩ := id hC
  obtain ⟨q, hq⟩ := gL_get (G := G) hv (Nat.ne_of_beq_eq_false rfl)
  refine lv_iinc (v := Int32.ofInt (gw32 (x + n))) hx hb hd hl hq (by rw [gw32, Int32.ofInt_toInt, Int32.ofInt_add]) hn rfl (fun ls2 hl2 => ?_)
  subst he
  exact k l G p e s m args below meth c H locs ls2 hC hH (gw_set hlw (gw_to _)) hsw (gL_set ho hl2) hS hB
theorem g_callVq1 {q0 : Nat} {fb lb : Nat} {yc : MethodName} {cb : ByteArray} {nb n idx : Nat} {rb : Option FieldType} {rest as : List gV} {a : Int} {ci : Nat} {rc : vw_C} {v : gV} {M1 : gM} (hm : gMt yc cb nb rb n) (hi : Cond.instanceMethod yc ∈ gAll) (hse : Cond.selects yc.cls yc yc ∈ gAll) (hl0 : Cond.methodLink y.cls idx yc ∈ gAll) (hd : decode cc pc = .ok (.invokevirtual idx, 3)) (hq0 : pc + 3 = q0) (hst : ((4, a) :: as).reverse ++ rest = st) (hs : gsh sh a = some (0, ci)) (hrc : vwCl[ci]? = some rc) (hrC : rc.1 = yc.cls)
    (hc : gC (gr fb lb) yc cb nb rb ((4, a) :: as) sh M (gPq sh (some v) M1)) (hn : as.length = n) (hR : fb + 1 ≤ R.frames ∧ 8 + (nb + 11) + lb ≤ R.locals) (hrest : (rest.map gcat).sum ≤ 8) (hck : ck.1 ≤ R.cells ∧ ck.2 ≤ R.slots)
    (k : gA R y cc nL ret Q ck (q0) lv (v :: rest) sh M1) : gA R y cc nL ret Q ck pc lv st sh M := by
  refine g_callV hm hi hse hl0 hd hq0 hst hs hrc hrC hc hn hR hck hrest (fun r sh1 M2 hq hw hM => ?_)
  obtain ⟨rfl, rfl, rfl⟩ := hq
  exact k
theorem g_callVq0 {q0 : Nat} {fb lb : Nat} {yc : MethodName} {cb : ByteArray} {nb n idx : Nat} {rb : Option FieldType} {rest as : List gV} {a : Int} {ci : Nat} {rc : vw_C} {M1 : gM} (hm : gMt yc cb nb rb n) (hi : Cond.instanceMethod yc ∈ gAll) (hse : Cond.selects yc.cls yc yc ∈ gAll) (hl0 : Cond.methodLink y.cls idx yc ∈ gAll) (hd : decode cc pc = .ok (.invokevirtual idx, 3)) (hq0 : pc + 3 = q0) (hst : ((4, a) :: as).reverse ++ rest = st) (hs : gsh sh a = some (0, ci)) (hrc : vwCl[ci]? = some rc) (hrC : rc.1 = yc.cls)
    (hc : gC (gr fb lb) yc cb nb rb ((4, a) :: as) sh M (gPq sh none M1)) (hn : as.length = n) (hR : fb + 1 ≤ R.frames ∧ 8 + (nb + 11) + lb ≤ R.locals) (hrest : (rest.map gcat).sum ≤ 8) (hck : ck.1 ≤ R.cells ∧ ck.2 ≤ R.slots)
    (k : gA R y cc nL ret Q ck (q0) lv rest sh M1) : gA R y cc nL ret Q ck pc lv st sh M := by
  refine g_callV hm hi hse hl0 hd hq0 hst hs hrc hrC hc hn hR hck hrest (fun r sh1 M2 hq hw hM => ?_)
  obtain ⟨rfl, rfl, rfl⟩ := hq
  exact k
theorem g_callSq1 {q0 : Nat} {fb lb : Nat} {yc : MethodName} {cb : ByteArray} {nb n idx : Nat} {rb : Option FieldType} {rest as : List gV} {v : gV} {M1 : gM} (hm : gMt yc cb nb rb n) (hi : Cond.static yc ∈ gAll) (hl0 : Cond.methodLink y.cls idx yc ∈ gAll) (hd : decode cc pc = .ok (.invokestatic idx, 3)) (hq0 : pc + 3 = q0) (hst : as.reverse ++ rest = st)
    (hc : gC (gr fb lb) yc cb nb rb as sh M (gPq sh (some v) M1)) (hn : as.length = n) (hR : fb + 1 ≤ R.frames ∧ 8 + (nb + 11) + lb ≤ R.locals) (hrest : (rest.map gcat).sum ≤ 8) (hck : ck.1 ≤ R.cells ∧ ck.2 ≤ R.slots)
    (k : gA R y cc nL ret Q ck (q0) lv (v :: rest) sh M1) : gA R y cc nL ret Q ck pc lv st sh M := by
  refine g_callS hm hi hl0 hd hq0 hst hc hn hR hck hrest (fun r sh1 M2 hq hw hM => ?_)
  obtain ⟨rfl, rfl, rfl⟩ := hq
  exact k
theorem g_callSq0 {q0 : Nat} {fb lb : Nat} {yc : MethodName} {cb : ByteArray} {nb n idx : Nat} {rb : Option FieldType} {rest as : List gV} {M1 : gM} (hm : gMt yc cb nb rb n) (hi : Cond.static yc ∈ gAll) (hl0 : Cond.methodLink y.cls idx yc ∈ gAll) (hd : decode cc pc = .ok (.invokestatic idx, 3)) (hq0 : pc + 3 = q0) (hst : as.reverse ++ rest = st)
    (hc : gC (gr fb lb) yc cb nb rb as sh M (gPq sh none M1)) (hn : as.length = n) (hR : fb + 1 ≤ R.frames ∧ 8 + (nb + 11) + lb ≤ R.locals) (hrest : (rest.map gcat).sum ≤ 8) (hck : ck.1 ≤ R.cells ∧ ck.2 ≤ R.slots)
    (k : gA R y cc nL ret Q ck (q0) lv rest sh M1) : gA R y cc nL ret Q ck pc lv st sh M := by
  refine g_callS hm hi hl0 hd hq0 hst hc hn hR hck hrest (fun r sh1 M2 hq hw hM => ?_)
  obtain ⟨rfl, rfl, rfl⟩ := hq
  exact k
end
