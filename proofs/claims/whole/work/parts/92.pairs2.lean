-- ==== RENAMED: the class
theorem gOK_5 {sh : gS} {M : gM} {a i v : Int} {n : Nat} (h : gOK sh M) (hs : gsh sh a = some (5, n)) : gOK sh (gU M a i v) := gOK_U h hs trivial
def eP0 (e : hE) : Bool := decide (e.2.2.1 = 0)
def eP1 (e : hE) : Bool := decide (e.2.1 = 0)
def eV0 (e : hE) : Int × Int := (e.2.1, e.2.2.2.1)
def eV1 (e : hE) : Int × Int := (e.2.2.1, e.2.2.2.2)
theorem goL_congr {gs hs : List gF} : ∀ {fs : List gF} {i : Int}, (∀ f ∈ fs, goP gs f = goP hs f) → goL gs fs i = goL hs fs i
  | [], _, _ => rfl
  | f :: r, i, h => by rw [goL, goL, h f List.mem_cons_self, goL_congr (fun g hg => h g (List.mem_cons_of_mem _ hg))]
theorem mg_go : ∀ (n : Nat) (fs gs : List gF) (i j : Int), tSrt fs → tSrt gs → (∀ f ∈ fs, f.2 ≠ 0) → (∀ f ∈ gs, f.2 ≠ 0) → fs.length + gs.length ≤ n →
    ((mg n fs gs i j).filter eP0).map eV0 = goL gs fs i ∧ ((mg n fs gs i j).filter eP1).map eV1 = goL fs gs j ∧ ∀ e ∈ mg n fs gs i j, ¬ (e.2.1 = 0 ∧ e.2.2.1 = 0)
  | 0, [], [], _, _, _, _, _, _, _ => ⟨rfl, rfl, fun e he => by cases he⟩
  | 0, f :: r, _, _, _, _, _, _, _, h => by simp at h
  | 0, [], g :: s, _, _, _, _, _, _, h => by simp at h
  | _ + 1, [], [], _, _, _, _, _, _, _ => ⟨rfl, rfl, fun e he => by cases he⟩
  | n + 1, f :: r, [], i, j, hs1, hs2, hz1, hz2, h => by
    obtain ⟨a, b, c⟩ := mg_go n r [] (i + 1) j (srt_hd hs1).2 hs2 (fun x hx => hz1 x (List.mem_cons_of_mem _ hx)) hz2 (by simp at h ⊢; omega)
    have hz := hz1 f List.mem_cons_self
    unfold mg
    refine ⟨?_, ?_, fun e he => ?_⟩
    · rw [List.filter_cons_of_pos (show eP0 (f.1, f.2, 0, i, j) = true from decide_eq_true rfl), List.map_cons, a, goL, if_pos (show goP [] f = true from rfl)]; rfl
    · rw [List.filter_cons_of_neg (show ¬ eP1 (f.1, f.2, 0, i, j) = true from fun w => hz (of_decide_eq_true w)), b]; rfl
    · rcases List.mem_cons.mp he with w | w
      · rw [w]; exact fun z => hz z.1
      · exact c e w
  | n + 1, [], g :: s, i, j, hs1, hs2, hz1, hz2, h => by
    obtain ⟨a, b, c⟩ := mg_go n [] s i (j + 1) hs1 (srt_hd hs2).2 hz1 (fun x hx => hz2 x (List.mem_cons_of_mem _ hx)) (by simp at h ⊢; omega)
    have hz := hz2 g List.mem_cons_self
    unfold mg
    refine ⟨?_, ?_, fun e he => ?_⟩
    · rw [List.filter_cons_of_neg (show ¬ eP0 (g.1, 0, g.2, i, j) = true from fun w => hz (of_decide_eq_true w)), a]; rfl
    · rw [List.filter_cons_of_pos (show eP1 (g.1, 0, g.2, i, j) = true from decide_eq_true rfl), List.map_cons, b, goL, if_pos (show goP [] g = true from rfl)]; rfl
    · rcases List.mem_cons.mp he with w | w
      · rw [w]; exact fun z => hz z.2
      · exact c e w
  | n + 1, f :: r, g :: s, i, j, hs1, hs2, hz1, hz2, h => by
    obtain ⟨l1, t1⟩ := srt_hd hs1
    obtain ⟨l2, t2⟩ := srt_hd hs2
    have z1 : ∀ x ∈ r, x.2 ≠ 0 := fun x hx => hz1 x (List.mem_cons_of_mem _ hx)
    have z2 : ∀ x ∈ s, x.2 ≠ 0 := fun x hx => hz2 x (List.mem_cons_of_mem _ hx)
    have zf := hz1 f List.mem_cons_self
    have zg := hz2 g List.mem_cons_self
    unfold mg
    by_cases q : f.1 < g.1
    · rw [if_pos q]
      obtain ⟨a, b, c⟩ := mg_go n r (g :: s) (i + 1) j t1 hs2 z1 hz2 (by simp at h ⊢; omega)
      have hno : ∀ y ∈ g :: s, y.1 ≠ f.1 := fun y hy => by
        rcases List.mem_cons.mp hy with e | e
        · rw [e]; omega
        · have := l2 y e; omega
      refine ⟨?_, ?_, fun e he => ?_⟩
      · rw [List.filter_cons_of_pos (show eP0 (f.1, f.2, 0, i, j) = true from decide_eq_true rfl), List.map_cons, a, goL, if_pos (goP_iff.mpr hno)]; rfl
      · rw [List.filter_cons_of_neg (show ¬ eP1 (f.1, f.2, 0, i, j) = true from fun w => zf (of_decide_eq_true w)), b]
        exact (goL_congr (fun y hy => goP_ne (fun e => hno y hy e.symm))).symm
      · rcases List.mem_cons.mp he with w | w
        · rw [w]; exact fun z => zf z.1
        · exact c e w
    · rw [if_neg q]
      by_cases q2 : g.1 < f.1
      · rw [if_pos q2]
        obtain ⟨a, b, c⟩ := mg_go n (f :: r) s i (j + 1) hs1 t2 hz1 z2 (by simp at h ⊢; omega)
        have hno : ∀ y ∈ f :: r, y.1 ≠ g.1 := fun y hy => by
          rcases List.mem_cons.mp hy with e | e
          · rw [e]; omega
          · have := l1 y e; omega
        refine ⟨?_, ?_, fun e he => ?_⟩
        · rw [List.filter_cons_of_neg (show ¬ eP0 (g.1, 0, g.2, i, j) = true from fun w => zg (of_decide_eq_true w)), a]
          exact (goL_congr (fun y hy => goP_ne (fun e => hno y hy e.symm))).symm
        · rw [List.filter_cons_of_pos (show eP1 (g.1, 0, g.2, i, j) = true from decide_eq_true rfl), List.map_cons, b, goL, if_pos (goP_iff.mpr hno)]; rfl
        · rcases List.mem_cons.mp he with w | w
          · rw [w]; exact fun z => zg z.2
          · exact c e w
      · rw [if_neg q2]
        have e : f.1 = g.1 := by omega
        obtain ⟨a, b, c⟩ := mg_go n r s (i + 1) (j + 1) t1 t2 z1 z2 (by simp at h ⊢; omega)
        have n1 : ∀ y ∈ r, g.1 ≠ y.1 := fun y hy => by have := l1 y hy; omega
        have n2 : ∀ y ∈ s, f.1 ≠ y.1 := fun y hy => by have := l2 y hy; omega
        have a1 : goL (g :: s) (f :: r) i = goL s r (i + 1) := by
          have : ¬ goP (g :: s) f = true := fun hb => absurd e.symm (goP_iff.mp hb g List.mem_cons_self)
          rw [goL, if_neg this]
          exact goL_congr (fun y hy => goP_ne (n1 y hy))
        have b1 : goL (f :: r) (g :: s) j = goL r s (j + 1) := by
          have : ¬ goP (f :: r) g = true := fun hb => absurd e (goP_iff.mp hb f List.mem_cons_self)
          rw [goL, if_neg this]
          exact goL_congr (fun y hy => goP_ne (n2 y hy))
        rw [a1, b1]
        by_cases w : f.2 = g.2
        · rw [if_pos w]; exact ⟨a, b, c⟩
        · rw [if_neg w]
          refine ⟨?_, ?_, fun e he => ?_⟩
          · rw [List.filter_cons_of_neg (show ¬ eP0 (f.1, f.2, g.2, i, j) = true from fun w => zg (of_decide_eq_true w)), a]
          · rw [List.filter_cons_of_neg (show ¬ eP1 (f.1, f.2, g.2, i, j) = true from fun w => zf (of_decide_eq_true w)), b]
          · rcases List.mem_cons.mp he with w | w
            · rw [w]; exact fun z => zf z.1
            · exact c e w
theorem goL_srt (gs : List gF) : ∀ (fs : List gF) (i : Int), (goL gs fs i).Pairwise (fun x y => x.2 < y.2) ∧ ∀ x ∈ goL gs fs i, i ≤ x.2
  | [], _ => ⟨List.Pairwise.nil, fun x hx => by cases hx⟩
  | f :: r, i => by
    obtain ⟨h1, h2⟩ := goL_srt gs r (i + 1)
    rw [goL]
    split
    · refine ⟨List.pairwise_cons.mpr ⟨fun y hy => by have := h2 y hy; show i < y.2; omega, h1⟩, fun x hx => ?_⟩
      rcases List.mem_cons.mp hx with w | w
      · rw [w]; exact Int.le_refl _
      · have := h2 x w; omega
    · exact ⟨h1, fun x hx => by have := h2 x hx; omega⟩
/-- places of a list are unlike -/
def plU (gl : List (Int × Int)) : Prop := ∀ (x y : Nat) (g h : Int × Int), gl[x]? = some g → gl[y]? = some h → g.2 = h.2 → x = y
theorem plU_of {gl : List (Int × Int)} (h : gl.Pairwise (fun x y => x.2 < y.2)) : plU gl := fun x y g k hx hy e => by
  obtain ⟨x1, x2⟩ := List.getElem?_eq_some_iff.mp hx
  obtain ⟨y1, y2⟩ := List.getElem?_eq_some_iff.mp hy
  have hp := List.pairwise_iff_getElem.mp h
  rcases Nat.lt_trichotomy x y with z | z | z
  · have := hp x y x1 y1 z; rw [x2, y2] at this; omega
  · exact z
  · have := hp y x y1 x1 z; rw [x2, y2] at this; omega
/-- positions of those that are such -/
def posG (P : hE → Bool) : List hE → Int → List Int
  | [], _ => []
  | e :: r, k => if P e = true then k :: posG P r (k + 1) else posG P r (k + 1)
theorem posG_app (P : hE → Bool) (e : hE) : ∀ (ds : List hE) (k : Int), posG P (ds ++ [e]) k = posG P ds k ++ (if P e = true then [k + (ds.length : Int)] else [])
  | [], k => by rw [List.nil_append, posG, posG, posG]; split <;> simp
  | d :: r, k => by
    rw [List.cons_append, posG, posG, posG_app P e r (k + 1), List.length_cons, show k + 1 + (r.length : Int) = k + ((r.length + 1 : Nat) : Int) by omega]
    split
    · rw [List.cons_append]
    · rfl
theorem posG_len (P : hE → Bool) : ∀ (ds : List hE) (k : Int), (posG P ds k).length = (ds.filter P).length
  | [], _ => rfl
  | d :: r, k => by
    rw [posG]
    by_cases h : P d = true
    · rw [if_pos h, List.filter_cons_of_pos h, List.length_cons, List.length_cons, posG_len P r]
    · rw [if_neg h, List.filter_cons_of_neg h, posG_len P r]
theorem posG_at (P : hE → Bool) : ∀ (ds : List hE) (k : Int) (x : Nat) (e : hE), (ds.filter P)[x]? = some e → ∃ q : Nat, (posG P ds k)[x]? = some (k + (q : Int)) ∧ ds[q]? = some e
  | [], _, _, _, h => by cases h
  | d :: r, k, x, e, h => by
    rw [posG]
    by_cases hd : P d = true
    · rw [List.filter_cons_of_pos hd] at h
      rw [if_pos hd]
      cases x with
      | zero => cases h; exact ⟨0, by simp, rfl⟩
      | succ x =>
        obtain ⟨q, a, b⟩ := posG_at P r (k + 1) x e h
        exact ⟨q + 1, by rw [List.getElem?_cons_succ, a]; congr 1; omega, b⟩
    · rw [List.filter_cons_of_neg hd] at h
      rw [if_neg hd]
      obtain ⟨q, a, b⟩ := posG_at P r (k + 1) x e h
      exact ⟨q + 1, by rw [a]; congr 1; omega, b⟩
/-- which are gone, which are new: where they stand in the class -/
def gaS (M : gM) (a : Int) (gl nl : List (Int × Int)) : Prop := M a 10 = (gl.length : Int) ∧ M a 11 = (nl.length : Int) ∧ gl.length ≤ 16 ∧ nl.length ≤ 16 ∧
  (∀ (x : Nat) (g : Int × Int), gl[x]? = some g → 0 ≤ M (a + 9) (x : Int) ∧ M (a + 9) (x : Int) < 32 ∧ M (a + 2) (M (a + 9) (x : Int)) = g.1 ∧ M (a + 4) (M (a + 9) (x : Int)) = g.2) ∧
  ∀ (y : Nat) (g : Int × Int), nl[y]? = some g → 0 ≤ M (a + 10) (y : Int) ∧ M (a + 10) (y : Int) < 32 ∧ M (a + 3) (M (a + 10) (y : Int)) = g.1 ∧ M (a + 5) (M (a + 10) (y : Int)) = g.2
theorem gaS_keep {M M1 : gM} {a : Int} {gl nl : List (Int × Int)} (h : gaS M a gl nl) (h1 : M1 a 10 = M a 10) (h2 : M1 a 11 = M a 11) (hf : ∀ b : Int, (a < b ∧ b ≤ a + 5) ∨ b = a + 9 ∨ b = a + 10 → M1 b = M b) : gaS M1 a gl nl := by
  obtain ⟨a1, a2, a3, a4, a5, a6⟩ := h
  refine ⟨by rw [h1]; exact a1, by rw [h2]; exact a2, a3, a4, fun x g hx => ?_, fun y g hy => ?_⟩
  · rw [hf (a + 9) (by omega), hf (a + 2) (by omega), hf (a + 4) (by omega)]; exact a5 x g hx
  · rw [hf (a + 10) (by omega), hf (a + 3) (by omega), hf (a + 5) (by omega)]; exact a6 y g hy
theorem sp_X0_gather {sh : gS} {M : gM} {a : Int} {ds : List hE} (hOK : gOK sh M) (hD : hOk sh M a ds) (hK : kSh sh a) (h0 : (ds.filter eP0).length ≤ 16) (h1 : (ds.filter eP1).length ≤ 16) (hx : ∀ e ∈ ds, ¬ (e.2.1 = 0 ∧ e.2.2.1 = 0)) : gC (gr 0 0) yX0_gather cX0_gather 2 none [(4, a)] sh M (gPm sh (fun r M1 => r = none ∧ gOK sh M1 ∧ gaS M1 a ((ds.filter eP0).map eV0) ((ds.filter eP1).map eV1) ∧ (∀ b : Int, b ≠ a → b ≠ a + 9 → b ≠ a + 10 → M1 b = M b) ∧ ∀ f : Int, f ≠ 10 → f ≠ 11 → M1 a f = M a f)) := by
  obtain ⟨hS, hl, hc, hr⟩ := id hD
  obtain ⟨s0, s1, s2, s3, s4, s5, s6⟩ := id hS
  obtain ⟨-, -, -, k9, k10, -, -, -, -, k0, k1⟩ := id hK
  refine w_X0_gather hOK ⟨⟨s0, s6⟩, ?_⟩
  have rd : ∀ (j : Nat) (e : hE), ds[j]? = some e → M (a + 2) (j : Int) = e.2.1 ∧ M (a + 3) (j : Int) = e.2.2.1 ∧ M (a + 4) (j : Int) = e.2.2.2.1 ∧ M (a + 5) (j : Int) = e.2.2.2.2 := fun j e hj => by
    have := hr j e hj
    rw [Int.zero_add] at this
    rw [← this]
    exact ⟨rfl, rfl, rfl, rfl⟩
  have lp : ∀ (suf pre : List hE) (M1 : gM), ds = pre ++ suf → gOK sh M1 → (∀ b : Int, b ≠ a → b ≠ a + 9 → b ≠ a + 10 → M1 b = M b) → (∀ f : Int, f ≠ 10 → f ≠ 11 → M1 a f = M a f) → M1 a 10 = ((posG eP0 pre 0).length : Int) → M1 a 11 = ((posG eP1 pre 0).length : Int) → rw_ (M1 (a + 9)) 0 (posG eP0 pre 0) → rw_ (M1 (a + 10)) 0 (posG eP1 pre 0) → P_X0_gather_12 sh (gPm sh (fun r M1 => r = none ∧ gOK sh M1 ∧ gaS M1 a ((ds.filter eP0).map eV0) ((ds.filter eP1).map eV1) ∧ (∀ b : Int, b ≠ a → b ≠ a + 9 → b ≠ a + 10 → M1 b = M b) ∧ ∀ f : Int, f ≠ 10 → f ≠ 11 → M1 a f = M a f)) a (pre.length : Int) M1 := by
    intro suf
    induction suf with
    | nil =>
      intro pre M1 e hO1 f1 f2 c1 c2 w1 w2
      have hlen := congrArg List.length e
      rw [List.append_nil] at hlen e
      refine w_X0_gather_12 hO1 ⟨⟨s0, s6⟩, ?_⟩
      rw [f2 0 (by decide) (by decide), hc, if_neg (by omega)]
      subst e
      refine ⟨rfl, rfl, hO1, ⟨by rw [c1, posG_len, List.length_map], by rw [c2, posG_len, List.length_map], by rw [List.length_map]; exact h0, by rw [List.length_map]; exact h1, fun x g hg => ?_, fun x g hg => ?_⟩, f1, f2⟩
      · rw [List.getElem?_map] at hg
        obtain ⟨d, hd, he⟩ := Option.map_eq_some_iff.mp hg
        obtain ⟨q, p1, p2⟩ := posG_at eP0 ds 0 x d hd
        have hq := (List.getElem?_eq_some_iff.mp p2).1
        have := w1 x _ p1
        rw [Int.zero_add, Int.zero_add] at this
        have r := rd q d p2
        rw [this, f1 (a + 2) (by omega) (by omega) (by omega), f1 (a + 4) (by omega) (by omega) (by omega), r.1, r.2.2.1, ← he]
        exact ⟨by omega, by omega, rfl, rfl⟩
      · rw [List.getElem?_map] at hg
        obtain ⟨d, hd, he⟩ := Option.map_eq_some_iff.mp hg
        obtain ⟨q, p1, p2⟩ := posG_at eP1 ds 0 x d hd
        have hq := (List.getElem?_eq_some_iff.mp p2).1
        have := w2 x _ p1
        rw [Int.zero_add, Int.zero_add] at this
        have r := rd q d p2
        rw [this, f1 (a + 3) (by omega) (by omega) (by omega), f1 (a + 5) (by omega) (by omega) (by omega), r.2.1, r.2.2.2, ← he]
        exact ⟨by omega, by omega, rfl, rfl⟩
    | cons d r ih =>
      intro pre M1 e hO1 f1 f2 c1 c2 w1 w2
      have hlen := congrArg List.length e
      rw [List.length_append, List.length_cons] at hlen
      have rr := rd pre.length d (at_mid e)
      have hxd := hx d (by rw [e]; simp)
      have nx := ih (pre ++ [d])
      rw [List.length_append, posG_app, posG_app] at nx
      have nx : ∀ M2 : gM, _ := nx
      have g0 : d.2.2.1 = 0 → (posG eP0 pre 0).length < 16 := fun z => by
        rw [posG_len]
        rw [e, List.filter_append, List.length_append, List.filter_cons_of_pos (show eP0 d = true from decide_eq_true z), List.length_cons] at h0
        omega
      have g1 : d.2.1 = 0 → (posG eP1 pre 0).length < 16 := fun z => by
        rw [posG_len]
        rw [e, List.filter_append, List.length_append, List.filter_cons_of_pos (show eP1 d = true from decide_eq_true z), List.length_cons] at h1
        omega
      refine w_X0_gather_12 hO1 ⟨⟨s0, s6⟩, ?_⟩
      rw [f2 0 (by decide) (by decide), hc, if_pos (by omega)]
      refine ⟨32, s3, ⟨by omega, by omega⟩, ?_⟩
      rw [f1 (a + 3) (by omega) (by omega) (by omega), rr.2.1]
      by_cases z0 : d.2.2.1 = 0
      · have gl := g0 z0
        have np : ¬ eP1 d = true := fun w => hxd ⟨of_decide_eq_true w, z0⟩
        rw [if_pos z0, c1, if_pos (by omega)]
        refine ⟨16, k9, ⟨by omega, by omega⟩, ?_⟩
        rw [gU_cell _ _ _ (show a ≠ a + 9 by omega), c1, gw32_id (z := (pre.length : Int) + 1) (by omega) (by omega), gw32_id (by omega) (by omega)]
        rw [if_pos (show eP0 d = true from decide_eq_true z0), if_neg np, List.append_nil, Int.zero_add, List.length_append] at nx
        refine nx _ (by rw [e]; simp) (gOK_o (f := 10) (gOK_i hO1 k9) s0 rfl rfl) (fun b b0 b1 b2 => by rw [gU_cell _ _ _ b0, gU_cell _ _ _ b1]; exact f1 b b0 b1 b2) (fun f hf hf2 => by rw [gU_idx hf, gU_cell _ _ _ (by omega)]; exact f2 f hf hf2) (gU_same _ _ _ _) (by rw [gU_idx (by decide), gU_cell _ _ _ (by omega)]; exact c2) ?_ ?_
        · rw [gU_cell _ _ _ (by omega)]
          refine rw_end (fun j v hj => ?_) (by rw [Int.zero_add, gU_same])
          have := (List.getElem?_eq_some_iff.mp hj).1
          rw [gU_idx (by omega)]; exact w1 j v hj
        · rw [gU_cell _ _ _ (by omega), gU_cell _ _ _ (by omega)]; exact w2
      · rw [if_neg z0]
        have np0 : ¬ eP0 d = true := fun w => z0 (of_decide_eq_true w)
        refine w_X0_gather_61 hO1 ⟨⟨s0, s6⟩, 32, s2, ⟨by omega, by omega⟩, ?_⟩
        rw [f1 (a + 2) (by omega) (by omega) (by omega), rr.1]
        by_cases z1 : d.2.1 = 0
        · have gl := g1 z1
          rw [if_pos z1, c2, if_pos (by omega)]
          refine ⟨16, k10, ⟨by omega, by omega⟩, ?_⟩
          rw [gU_cell _ _ _ (show a ≠ a + 10 by omega), c2, gw32_id (z := (pre.length : Int) + 1) (by omega) (by omega), gw32_id (by omega) (by omega)]
          rw [if_neg np0, if_pos (show eP1 d = true from decide_eq_true z1), List.append_nil, Int.zero_add, List.length_append] at nx
          refine nx _ (by rw [e]; simp) (gOK_o (f := 11) (gOK_i hO1 k10) s0 rfl rfl) (fun b b0 b1 b2 => by rw [gU_cell _ _ _ b0, gU_cell _ _ _ b2]; exact f1 b b0 b1 b2) (fun f hf hf2 => by rw [gU_idx hf2, gU_cell _ _ _ (by omega)]; exact f2 f hf hf2) (by rw [gU_idx (by decide), gU_cell _ _ _ (by omega)]; exact c1) (gU_same _ _ _ _) ?_ ?_
          · rw [gU_cell _ _ _ (by omega), gU_cell _ _ _ (by omega)]; exact w1
          · rw [gU_cell _ _ _ (by omega)]
            refine rw_end (fun j v hj => ?_) (by rw [Int.zero_add, gU_same])
            have := (List.getElem?_eq_some_iff.mp hj).1
            rw [gU_idx (by omega)]; exact w2 j v hj
        · rw [if_neg z1, gw32_id (by omega) (by omega)]
          rw [if_neg np0, if_neg (show ¬ eP1 d = true from fun w => z1 (of_decide_eq_true w)), List.append_nil, List.append_nil] at nx
          exact nx M1 (by rw [e]; simp) hO1 f1 f2 c1 c2 w1 w2
  have hO2 : gOK sh (gU (gU M a 10 0) a 11 0) := gOK_o (f := 11) (gOK_o (f := 10) hOK s0 rfl rfl) s0 rfl rfl
  exact lp ds [] _ rfl hO2 (fun b b0 _ _ => by rw [gU_cell _ _ _ b0, gU_cell _ _ _ b0]) (fun f hf hf2 => by rw [gU_idx hf2, gU_idx hf]) (by rw [gU_idx (by decide), gU_same]; rfl) (by rw [gU_same]; rfl) rw_nil rw_nil
