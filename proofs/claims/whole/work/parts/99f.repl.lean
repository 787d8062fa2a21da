-- ==== replay: a CHANGE upon another TREE
def rpRm : List Int → List gF → List gF
  | [], fs => fs
  | p :: r, fs => rpRm r (fs.filter (fun f => decide (f.1 ≠ p)))
def rpPt : List gF → List gF → List gF
  | [], fs => fs
  | f :: r, fs => rpPt r (tPut f.1 f.2 fs)
def rpT (ds : List hE) (fs : List gF) : List gF := rpPt ((ds.filter eN).map eC) (rpRm ((ds.filter eP0).map (fun e => e.1)) fs)
def rpF (ds : List hE) (o : List gF) : Bool := ds.all (fun e => decide (tCont e.1 o = e.2.1 ∨ tCont e.1 o = e.2.2.1))
def e3 (e : hE) : Int × Int × Int := (e.1, e.2.2.1, e.2.1)
def g0 (x : Int × Int × Int) : Bool := decide (x.2.1 = 0)
def g1 (x : Int × Int × Int) : Bool := !g0 x
def gf (o : List gF) (x : Int × Int × Int) : Bool := decide (tCont x.1 o = x.2.1 ∨ tCont x.1 o = x.2.2)
theorem rpRm_gd : ∀ (ps : List Int) (fs : List gF), tGd fs → tGd (rpRm ps fs) ∧ (rpRm ps fs).length ≤ fs.length
  | [], fs, h => ⟨h, Nat.le_refl _⟩
  | p :: r, fs, h => by
    have := rpRm_gd r (fs.filter (fun f => decide (f.1 ≠ p))) (tGd_fil h _)
    have l := List.length_filter_le (fun f : gF => decide (f.1 ≠ p)) fs
    exact ⟨this.1, Nat.le_trans this.2 l⟩
theorem rpPt_is : ∀ (gs fs : List gF), tSrt fs → tW fs → tW gs → tSrt (rpPt gs fs) ∧ tW (rpPt gs fs) ∧ (rpPt gs fs).length ≤ fs.length + gs.length
  | [], fs, hS, hW, _ => ⟨hS, hW, Nat.le_refl _⟩
  | g :: r, fs, hS, hW, hG => by
    have hg := hG g List.mem_cons_self
    have hl := tPut_len g.1 g.2 fs
    have := rpPt_is r (tPut g.1 g.2 fs) (tPut_srt _ _ hS) (fun x hx => by
      rcases tPut_mem hx with e | e
      · rw [e]; exact hg
      · exact hW x e) (tW_cons hG).2
    rw [List.length_cons]
    exact ⟨this.1, this.2.1, by have := this.2.2; show (rpPt r (tPut g.1 g.2 fs)).length ≤ _; omega⟩
/-- entries of the CHANGE, as the reference keeps them -/
def eL (ds : List hE) : List (Int × Int × Int) := (ds.filter eN).map e3 ++ (ds.filter eP0).map e3
theorem eL_fil (ds : List hE) : (eL ds).filter g0 = (ds.filter eP0).map e3 ∧ (eL ds).filter g1 = (ds.filter eN).map e3 := by
  unfold eL
  rw [List.filter_append, List.filter_append, List.filter_map, List.filter_map, List.filter_map, List.filter_map, List.filter_filter, List.filter_filter, List.filter_filter, List.filter_filter]
  have a : ∀ e : hE, (g0 ∘ e3) e = eP0 e := fun e => rfl
  have b : ∀ e : hE, (g1 ∘ e3) e = eN e := fun e => rfl
  refine ⟨?_, ?_⟩
  · rw [show (fun e : hE => (g0 ∘ e3) e && eN e) = fun _ => false from funext (fun e => by rw [a]; unfold eN; cases eP0 e <;> rfl), show (fun e : hE => (g0 ∘ e3) e && eP0 e) = eP0 from funext (fun e => by rw [a]; cases eP0 e <;> rfl)]
    rw [show ds.filter (fun _ => false) = [] from List.filter_eq_nil_iff.mpr (fun x _ w => by cases w)]; rfl
  · rw [show (fun e : hE => (g1 ∘ e3) e && eN e) = eN from funext (fun e => by rw [b]; cases eN e <;> rfl), show (fun e : hE => (g1 ∘ e3) e && eP0 e) = fun _ => false from funext (fun e => by rw [b]; unfold eN; cases eP0 e <;> rfl)]
    rw [show ds.filter (fun _ => false) = [] from List.filter_eq_nil_iff.mpr (fun x _ w => by cases w)]
    show _ ++ [] = _
    rw [List.append_nil]
theorem eL_all (ds : List hE) (o : List gF) : (eL ds).all (gf o) = rpF ds o := by
  have a : ∀ e : hE, gf o (e3 e) = decide (tCont e.1 o = e.2.1 ∨ tCont e.1 o = e.2.2.1) := fun e => by
    unfold gf e3
    by_cases h : tCont e.1 o = e.2.1 ∨ tCont e.1 o = e.2.2.1
    · rw [decide_eq_true h, decide_eq_true h.symm]
    · rw [decide_eq_false h, decide_eq_false (fun w => h w.symm)]
  unfold rpF eL
  rw [Bool.eq_iff_iff, List.all_eq_true, List.all_eq_true]
  constructor
  · intro h e he
    rw [← a]
    refine h _ (List.mem_append.mpr ?_)
    cases hb : eP0 e with
    | true => exact Or.inr (List.mem_map_of_mem (List.mem_filter.mpr ⟨he, hb⟩))
    | false => exact Or.inl (List.mem_map_of_mem (List.mem_filter.mpr ⟨he, by unfold eN; rw [hb]; rfl⟩))
  · intro h x hx
    rcases List.mem_append.mp hx with w | w
    · obtain ⟨e, he, rfl⟩ := List.mem_map.mp w
      rw [a]; exact h e (List.mem_filter.mp he).1
    · obtain ⟨e, he, rfl⟩ := List.mem_map.mp w
      rw [a]; exact h e (List.mem_filter.mp he).1
theorem uCh_at {M : gM} {L : List (Int × Int × Int)} (h : uCh M L) {j : Nat} {x : Int × Int × Int} (hj : L[j]? = some x) : M 741 (j : Int) = x.1 ∧ M 742 (j : Int) = x.2.1 ∧ M 743 (j : Int) = x.2.2 := by
  obtain ⟨-, a, b, c⟩ := h
  have e : ∀ {α : Type} (f : Int × Int × Int → α), (L.map f)[j]? = some (f x) := fun f => by rw [List.getElem?_map, hj]; rfl
  refine ⟨?_, ?_, ?_⟩
  · have := a j _ (e (fun x => x.1)); rwa [Int.zero_add] at this
  · have := b j _ (e (fun x => x.2.1)); rwa [Int.zero_add] at this
  · have := c j _ (e (fun x => x.2.2)); rwa [Int.zero_add] at this
theorem uCh_keep {M M1 : gM} {L : List (Int × Int × Int)} (h : uCh M L) {F : List Int} (hf : gFr [718, 719, 720] F M M1) (hF : (49 : Int) ∉ F) : uCh M1 L := by
  obtain ⟨n, a, b, c⟩ := h
  have f : ∀ x : Int, 740 < x → M1 x = M x := fun x hx => hf.1 x (by simp; omega) (by omega)
  exact ⟨by rw [hf.2 49 hF]; exact n, by rw [f 741 (by decide)]; exact a, by rw [f 742 (by decide)]; exact b, by rw [f 743 (by decide)]; exact c⟩
