-- ==== what a constructor leaves
def gOff0 (c k : Nat) : Option Nat := if c = 0 then (if k = 0 then some 1 else none) else gOff c k
/-- what stands in a new cell b of a kind, when its maker is done -/
def gD (k : Nat × Nat) (b i : Int) : Int := match k.1 with
  | 0 => if i < 0 then gdef (gKt k i) else (match gOff0 k.2 i.toNat with | some d => b + (d : Int) | none => gdef (gKt k i))
  | 6 => if 0 ≤ i ∧ i < (k.2 : Int) then b + 12 + 3 * i else -1
  | _ => gdef (gKt k i)
def gR (k : Nat × Nat) (i : Int) : Prop := k.1 = 6 → 0 ≤ i ∧ i < (k.2 : Int)
/-- a maker under way: the object at the end of sh0, its cells K behind it; of the cells E nothing is said -/
def cC (E : List Nat) (c : Nat) (sh0 : gS) (M0 : gM) (K : gS) (sh : gS) (M : gM) : Prop :=
  sh = sh0 ++ (0, c) :: K ∧ (∀ b : Int, b < (sh0.length : Int) → M b = M0 b) ∧
  (∀ (d : Nat) (k : Nat × Nat), d ∉ E → K[d]? = some k → ∀ i : Int, gR k i → M ((sh0.length + 1 + d : Nat) : Int) i = gD k ((sh0.length + 1 + d : Nat) : Int) i)
/-- and fields below j are written -/
def cB (E : List Nat) (c : Nat) (sh0 : gS) (M0 : gM) (K : gS) (j : Nat) (sh : gS) (M : gM) : Prop := cC E c sh0 M0 K sh M ∧
  ∀ i : Int, M (sh0.length : Int) i = if i < (j : Int) then gD (0, c) (sh0.length : Int) i else gdef (gKt (0, c) i)
/-- a maker done -/
def cI (c : Nat) (sh0 : gS) (M0 : gM) (K : gS) : Option gV → gS → gM → Prop := fun r sh1 M1 => r = none ∧ sh1 = sh0 ++ (0, c) :: K ∧ (∀ b : Int, b < (sh0.length : Int) → M1 b = M0 b) ∧
  ∀ (d : Nat) (k : Nat × Nat), ((0, c) :: K)[d]? = some k → ∀ i : Int, gR k i → M1 ((sh0.length + d : Nat) : Int) i = gD k ((sh0.length + d : Nat) : Int) i
theorem gOff_no {c i : Nat} (h : 80 ≤ i) : gOff c i = none := by
  unfold gOff
  split <;> first | rfl | (exfalso; omega)
theorem gOff0_no {c i : Nat} (h : 80 ≤ i) : gOff0 c i = none := by
  unfold gOff0
  split
  · rw [if_neg (by omega)]
  · exact gOff_no h
theorem gA_gen {R : Room} {y : MethodName} {cc : ByteArray} {nL : Nat} {ret : Option FieldType} {Q : Option gV → gS → gM → Prop} {ck : Nat × Nat} {pc : Nat} {lv st : List gV} {sh : gS} {M : gM} (P : gS → gM → Prop) (h : P sh M) (k : ∀ sh2 M2, P sh2 M2 → gA R y cc nL ret Q ck pc lv st sh2 M2) : gA R y cc nL ret Q ck pc lv st sh M := k _ _ h
theorem gD_neg {c : Nat} {b i : Int} (h : i < 0) : gD (0, c) b i = gdef (gKt (0, c) i) := by
  show (if i < 0 then _ else _) = _
  rw [if_pos h]
theorem gD_no {c : Nat} {b i : Int} (h : 0 ≤ i) (h2 : gOff0 c i.toNat = none) : gD (0, c) b i = gdef (gKt (0, c) i) := by
  show (if i < 0 then _ else _) = _
  rw [if_neg (by omega)]
  dsimp only
  rw [h2]
theorem gD_so {c f d : Nat} {b : Int} (h2 : gOff0 c f = some d) : gD (0, c) b (f : Int) = b + (d : Int) := by
  have e : gD (0, c) b (f : Int) = if (f : Int) < 0 then gdef (gKt (0, c) (f : Int)) else (match gOff0 c (f : Int).toNat with | some d => b + (d : Int) | none => gdef (gKt (0, c) (f : Int))) := rfl
  rw [e, if_neg (by omega), Int.toNat_natCast, h2]
theorem cB_0 {E : List Nat} {c : Nat} {sh0 : gS} {M0 : gM} : cB E c sh0 M0 [] 0 (sh0 ++ [(0, c)]) (gN M0 (sh0.length : Int) (0, c)) := by
  refine ⟨⟨rfl, fun b hb => gN_old M0 _ (by omega), fun d k _ h => by cases h⟩, fun i => ?_⟩
  have e : gN M0 (sh0.length : Int) (0, c) (sh0.length : Int) i = gdef (gKt (0, c) i) := by simp [gN]
  rw [e]
  split
  · exact (gD_neg (by omega)).symm
  · rfl
theorem cB_own {E : List Nat} {c : Nat} {sh0 : gS} {M0 : gM} {K : gS} {j : Nat} {sh : gS} {M : gM} (h : cB E c sh0 M0 K j sh M) : gsh sh (sh0.length : Int) = some (0, c) := by
  rw [h.1.1]
  exact gsh_of (by simp)
theorem cB_len {E : List Nat} {c : Nat} {sh0 : gS} {M0 : gM} {K : gS} {j : Nat} {sh : gS} {M : gM} (h : cB E c sh0 M0 K j sh M) : sh.length = sh0.length + 1 + K.length := by
  rw [h.1.1, List.length_append, List.length_cons]
  omega
/-- the field f of the object is written -/
theorem cB_fld {c j f : Nat} {b x fi : Int} {M : gM} (h : ∀ i : Int, M b i = if i < (j : Int) then gD (0, c) b i else gdef (gKt (0, c) i)) (hfi : (f : Int) = fi) (hjf : j ≤ f) {d : Nat} (ho : gOff0 c f = some d) (hx : x = b + (d : Int)) (hn : ∀ i : Nat, i < f → j ≤ i → gOff0 c i = none) :
    ∀ i : Int, gU M b fi x b i = if i < ((f + 1 : Nat) : Int) then gD (0, c) b i else gdef (gKt (0, c) i) := by
  intro i
  subst hfi
  by_cases q : i = (f : Int)
  · subst q
    rw [gU_same, if_pos (by omega), gD_so ho, hx]
  · have e : gU M b (f : Int) x b i = M b i := by simp [gU, q]
    rw [e, h i]
    by_cases q1 : i < (j : Int)
    · rw [if_pos q1, if_pos (by omega)]
    · rw [if_neg q1]
      by_cases q2 : i < ((f + 1 : Nat) : Int)
      · rw [if_pos q2, gD_no (by omega) (hn i.toNat (by omega) (by omega))]
      · rw [if_neg q2]
theorem cB_arr {E : List Nat} {c : Nat} {sh0 : gS} {M0 : gM} {K : gS} {j : Nat} {sh : gS} {M : gM} (h : cB E c sh0 M0 K j sh M) {k : Nat × Nat} {f : Nat} {fi : Int} (hfi : (f : Int) = fi) (hk : K.length ∈ E ∨ ∀ b i : Int, gD k b i = gdef (gKt k i)) (hjf : j ≤ f) (ho : gOff0 c f = some (K.length + 1)) (hn : ∀ i : Nat, i < f → j ≤ i → gOff0 c i = none) :
    cB E c sh0 M0 (K ++ [k]) (f + 1) (sh ++ [k]) (gU (gN M (sh.length : Int) k) (sh0.length : Int) fi (sh.length : Int)) := by
  have hl := cB_len h
  have own : gN M (sh.length : Int) k (sh0.length : Int) = M (sh0.length : Int) := gN_old M k (by omega)
  refine ⟨⟨by rw [h.1.1]; simp, fun b hb => ?_, fun d q hd hq i hg => ?_⟩, ?_⟩
  · rw [gU_cell _ _ _ (by omega), gN_old M k (by omega)]
    exact h.1.2.1 b hb
  · rw [gU_cell _ _ _ (by omega)]
    by_cases e : d < K.length
    · rw [gN_old M k (by omega)]
      rw [List.getElem?_append_left e] at hq
      exact h.1.2.2 d q hd hq i hg
    · have e2 : d = K.length := by
        have := (List.getElem?_eq_some_iff.mp hq).1
        rw [List.length_append, List.length_singleton] at this
        omega
      subst e2
      rw [List.getElem?_append_right (Nat.le_refl _), Nat.sub_self] at hq
      cases hq
      rcases hk with hk | hk
      · exact absurd hk hd
      · rw [hk, ← hl]
        simp [gN]
  · exact cB_fld (fun i => by rw [own]; exact h.2 i) hfi hjf ho (by omega) hn
theorem cB_obj {E : List Nat} {c : Nat} {sh0 : gS} {M0 : gM} {K : gS} {j : Nat} {sh : gS} {M : gM} (h : cB E c sh0 M0 K j sh M) {c2 : Nat} {K2 : gS} {r : Option gV} {sh1 : gS} {M1 : gM} (hI : cI c2 sh M K2 r sh1 M1) {f : Nat} {fi : Int} (hfi : (f : Int) = fi) (hjf : j ≤ f) (ho : gOff0 c f = some (K.length + 1)) (hn : ∀ i : Nat, i < f → j ≤ i → gOff0 c i = none) :
    cB E c sh0 M0 (K ++ (0, c2) :: K2) (f + 1) sh1 (gU M1 (sh0.length : Int) fi (sh.length : Int)) := by
  have hl := cB_len h
  obtain ⟨-, i1, i2, i3⟩ := hI
  have own : M1 (sh0.length : Int) = M (sh0.length : Int) := i2 _ (by omega)
  refine ⟨⟨by rw [i1, h.1.1]; simp, fun b hb => ?_, fun d q hd hq i hg => ?_⟩, ?_⟩
  · rw [gU_cell _ _ _ (by omega), i2 b (by omega)]
    exact h.1.2.1 b hb
  · rw [gU_cell _ _ _ (by omega)]
    by_cases e : d < K.length
    · rw [i2 _ (by omega)]
      rw [List.getElem?_append_left e] at hq
      exact h.1.2.2 d q hd hq i hg
    · rw [List.getElem?_append_right (by omega)] at hq
      have := i3 (d - K.length) q hq i hg
      rw [show sh.length + (d - K.length) = sh0.length + 1 + d by omega] at this
      exact this
  · exact cB_fld (fun i => by rw [own]; exact h.2 i) hfi hjf ho (by omega) hn
theorem cB_objp {E : List Nat} {c : Nat} {sh0 : gS} {M0 : gM} {K : gS} {j : Nat} {sh : gS} {M : gM} (h : cB E c sh0 M0 K j sh M) {c2 : Nat} {K2 : gS} {r : Option gV} {sh1 : gS} {M1 : gM} (hI : cI c2 sh M K2 r sh1 M1) : gsh sh1 (sh0.length : Int) = some (0, c) := by
  rw [hI.2.1]
  exact gsh_app (cB_own h)
theorem cI_of {c : Nat} {sh0 : gS} {M0 : gM} {K : gS} {j : Nat} {sh : gS} {M : gM} (h : cB [] c sh0 M0 K j sh M) (hn : ∀ i : Nat, i < 80 → j ≤ i → gOff0 c i = none) : cI c sh0 M0 K none sh M := by
  refine ⟨rfl, h.1.1, h.1.2.1, fun d k hk i hg => ?_⟩
  cases d with
  | zero =>
    cases hk
    rw [Nat.add_zero, h.2 i]
    split
    · rfl
    · refine (gD_no (by omega) ?_).symm
      by_cases q : i.toNat < 80
      · exact hn i.toNat q (by omega)
      · exact gOff0_no (by omega)
  | succ d =>
    have := h.1.2.2 d k (by simp) hk i hg
    rw [show sh0.length + (d + 1) = sh0.length + 1 + d by omega]
    exact this
/-- a field of the object is written, nothing made -/
theorem cB_put {E : List Nat} {c : Nat} {sh0 : gS} {M0 : gM} {K : gS} {j : Nat} {sh : gS} {M : gM} (h : cB E c sh0 M0 K j sh M) {f d : Nat} {fi x : Int} (hfi : (f : Int) = fi) (hjf : j ≤ f) (ho : gOff0 c f = some d) (hx : x = (sh0.length : Int) + (d : Int)) (hn : ∀ i : Nat, i < f → j ≤ i → gOff0 c i = none) : cB E c sh0 M0 K (f + 1) sh (gU M (sh0.length : Int) fi x) := by
  refine ⟨⟨h.1.1, fun b hb => ?_, fun e q hd hq i hg => ?_⟩, cB_fld h.2 hfi hjf ho hx hn⟩
  · rw [gU_cell _ _ _ (by omega)]; exact h.1.2.1 b hb
  · rw [gU_cell _ _ _ (by omega)]; exact h.1.2.2 e q hd hq i hg
/-- an object is made and laid into a cell of E -/
theorem cC_el {E : List Nat} {c : Nat} {sh0 : gS} {M0 : gM} {K : gS} {sh : gS} {M : gM} (h : cC E c sh0 M0 K sh M) {c2 : Nat} {K2 : gS} {r : Option gV} {sh1 : gS} {M1 : gM} (hI : cI c2 sh M K2 r sh1 M1) {e : Nat} {b i v : Int} (he : e ∈ E) (heK : e < K.length) (hb : b = ((sh0.length + 1 + e : Nat) : Int)) :
    cC E c sh0 M0 (K ++ (0, c2) :: K2) sh1 (gU M1 b i v) ∧ (∀ x : Int, x < (sh.length : Int) → x ≠ b → gU M1 b i v x = M x) ∧ (∀ q : Int, q ≠ i → gU M1 b i v b q = M b q) ∧ gU M1 b i v b i = v := by
  subst hb
  have hl : sh.length = sh0.length + 1 + K.length := by rw [h.1, List.length_append, List.length_cons]; omega
  obtain ⟨-, i1, i2, i3⟩ := hI
  refine ⟨⟨by rw [i1, h.1]; simp, fun b hb => ?_, fun d q hd hq i hg => ?_⟩, fun x hx hn => ?_, fun q hq => ?_, gU_same _ _ _ _⟩
  · rw [gU_cell _ _ _ (by omega), i2 b (by omega)]; exact h.2.1 b hb
  · rw [gU_cell _ _ _ (by have : d ≠ e := fun w => hd (w ▸ he); omega)]
    by_cases q1 : d < K.length
    · rw [i2 _ (by omega)]
      rw [List.getElem?_append_left q1] at hq
      exact h.2.2 d q hd hq i hg
    · rw [List.getElem?_append_right (by omega)] at hq
      have := i3 (d - K.length) q hq i hg
      rw [show sh.length + (d - K.length) = sh0.length + 1 + d by omega] at this
      exact this
  · rw [gU_cell _ _ _ hn]; exact i2 x hx
  · have e2 : gU M1 ((sh0.length + 1 + e : Nat) : Int) i v ((sh0.length + 1 + e : Nat) : Int) q = M1 ((sh0.length + 1 + e : Nat) : Int) q := by simp [gU, hq]
    rw [e2, i2 _ (by omega)]
theorem cC_sh {E : List Nat} {c : Nat} {sh0 : gS} {M0 : gM} {K : gS} {sh : gS} {M : gM} (h : cC E c sh0 M0 K sh M) {e : Nat} {k : Nat × Nat} (he : K[e]? = some k) : gsh sh ((sh0.length + 1 + e : Nat) : Int) = some k := by
  rw [h.1]
  refine gsh_of ?_
  rw [List.getElem?_append_right (by omega), show sh0.length + 1 + e - sh0.length = e + 1 by omega, List.getElem?_cons_succ]
  exact he
theorem cI_sh {c : Nat} {sh0 : gS} {M0 : gM} {K : gS} {r : Option gV} {sh1 : gS} {M1 : gM} (h : cI c sh0 M0 K r sh1 M1) : gsh sh1 (sh0.length : Int) = some (0, c) := by
  rw [h.2.1]
  exact gsh_of (by simp)
theorem cI_old {c : Nat} {sh0 : gS} {M0 : gM} {K : gS} {r : Option gV} {sh1 : gS} {M1 : gM} (h : cI c sh0 M0 K r sh1 M1) {a : Int} {q : Nat × Nat} (h2 : gsh sh0 a = some q) : gsh sh1 a = some q := by
  rw [h.2.1]
  exact gsh_app h2
