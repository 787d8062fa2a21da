-- ==== how many are gone, new, changed; commitIs
def goP (gs : List gF) (f : gF) : Bool := !(gs.any (fun g => decide (g.1 = f.1)))
def chP (gs : List gF) (f : gF) : Bool := decide (tCont f.1 gs ≠ 0 ∧ tCont f.1 gs ≠ f.2)
theorem goP_ne {g f : gF} {s : List gF} (h : g.1 ≠ f.1) : goP (g :: s) f = goP s f := by unfold goP; rw [List.any_cons, decide_eq_false h, Bool.false_or]
theorem chP_ne {g f : gF} {s : List gF} (h : g.1 ≠ f.1) : chP (g :: s) f = chP s f := by
  have e : tCont f.1 (g :: s) = tCont f.1 s := if_neg h
  unfold chP; rw [e]
theorem goP_iff {gs : List gF} {f : gF} : goP gs f = true ↔ ∀ g ∈ gs, g.1 ≠ f.1 := by
  unfold goP
  rw [Bool.not_eq_true', List.any_eq_false]
  exact ⟨fun h g hg e => h g hg (decide_eq_true e), fun h g hg e => h g hg (of_decide_eq_true e)⟩
theorem tCont_no {w : Int} {gs : List gF} (h : ∀ g ∈ gs, g.1 ≠ w) : tCont w gs = 0 := by
  rcases tFind_spec w gs 0 (by decide) with ⟨-, b, -⟩ | ⟨j, f, a, b, -, -⟩
  · exact b
  · exact absurd b (h f (List.mem_of_getElem? a))
theorem chP_no {gs : List gF} {f : gF} (h : ∀ g ∈ gs, g.1 ≠ f.1) : chP gs f = false := decide_eq_false (fun z => z.1 (tCont_no h))
/-- kinds of an entry: gone, new, changed -/
def hK (i : Int) (e : hE) : Bool := if e.2.2.1 = 0 then decide (i = 0) else if e.2.1 = 0 then decide (i = 1) else decide (i = 2)
theorem hK0 {p v k l : Int} {i : Int} : hK i (p, v, 0, k, l) = decide (i = 0) := if_pos rfl
theorem hK1 {p w k l : Int} {i : Int} (h : w ≠ 0) : hK i (p, 0, w, k, l) = decide (i = 1) := (if_neg h).trans (if_pos rfl)
theorem hK2 {p v w k l : Int} {i : Int} (hv : v ≠ 0) (h : w ≠ 0) : hK i (p, v, w, k, l) = decide (i = 2) := (if_neg h).trans (if_neg hv)
theorem cP_congr {α : Type} {p q : α → Bool} : ∀ {xs : List α}, (∀ x ∈ xs, p x = q x) → xs.countP p = xs.countP q
  | [], _ => rfl
  | x :: r, h => by rw [List.countP_cons, List.countP_cons, h x List.mem_cons_self, cP_congr (fun y hy => h y (List.mem_cons_of_mem _ hy))]
theorem cP_zero {α : Type} {p : α → Bool} : ∀ {xs : List α}, (∀ x ∈ xs, p x = false) → xs.countP p = 0
  | [], _ => rfl
  | x :: r, h => by rw [List.countP_cons, h x List.mem_cons_self, cP_zero (fun y hy => h y (List.mem_cons_of_mem _ hy))]; rfl
theorem srt_hd {f : gF} {r : List gF} (h : tSrt (f :: r)) : (∀ x ∈ r, f.1 < x.1) ∧ tSrt r := List.pairwise_cons.mp h
theorem mg_cnt : ∀ (n : Nat) (fs gs : List gF) (i j : Int), tSrt fs → tSrt gs → (∀ f ∈ fs, f.2 ≠ 0) → (∀ f ∈ gs, f.2 ≠ 0) → fs.length + gs.length ≤ n →
    (mg n fs gs i j).countP (hK 0) = fs.countP (goP gs) ∧ (mg n fs gs i j).countP (hK 1) = gs.countP (goP fs) ∧ (mg n fs gs i j).countP (hK 2) = fs.countP (chP gs)
  | 0, [], [], _, _, _, _, _, _, _ => ⟨rfl, rfl, rfl⟩
  | 0, f :: r, _, _, _, _, _, _, _, h => by simp at h
  | 0, [], g :: s, _, _, _, _, _, _, h => by simp at h
  | _ + 1, [], [], _, _, _, _, _, _, _ => ⟨rfl, rfl, rfl⟩
  | n + 1, f :: r, [], i, j, hs1, hs2, hz1, hz2, h => by
    obtain ⟨a, b, c⟩ := mg_cnt n r [] (i + 1) j (srt_hd hs1).2 hs2 (fun x hx => hz1 x (List.mem_cons_of_mem _ hx)) hz2 (by simp at h ⊢; omega)
    unfold mg
    simp only [List.countP_cons, hK0, a, b, c]
    refine ⟨by simp [goP], by simp, by simp [chP, tCont]⟩
  | n + 1, [], g :: s, i, j, hs1, hs2, hz1, hz2, h => by
    obtain ⟨a, b, c⟩ := mg_cnt n [] s i (j + 1) hs1 (srt_hd hs2).2 hz1 (fun x hx => hz2 x (List.mem_cons_of_mem _ hx)) (by simp at h ⊢; omega)
    unfold mg
    simp only [List.countP_cons, hK1 (hz2 g List.mem_cons_self), a, b, c]
    refine ⟨by simp, by simp [goP], by simp⟩
  | n + 1, f :: r, g :: s, i, j, hs1, hs2, hz1, hz2, h => by
    obtain ⟨l1, t1⟩ := srt_hd hs1
    obtain ⟨l2, t2⟩ := srt_hd hs2
    have z1 : ∀ x ∈ r, x.2 ≠ 0 := fun x hx => hz1 x (List.mem_cons_of_mem _ hx)
    have z2 : ∀ x ∈ s, x.2 ≠ 0 := fun x hx => hz2 x (List.mem_cons_of_mem _ hx)
    unfold mg
    by_cases q : f.1 < g.1
    · rw [if_pos q]
      obtain ⟨a, b, c⟩ := mg_cnt n r (g :: s) (i + 1) j t1 hs2 z1 hz2 (by simp at h ⊢; omega)
      have hno : ∀ y ∈ g :: s, y.1 ≠ f.1 := fun y hy => by
        rcases List.mem_cons.mp hy with e | e
        · rw [e]; omega
        · have := l2 y e; omega
      refine ⟨?_, ?_, ?_⟩
      · rw [List.countP_cons, List.countP_cons, hK0, a, goP_iff.mpr hno]; rfl
      · rw [List.countP_cons, hK0, b]
        exact (cP_congr (fun y hy => goP_ne (fun e => hno y hy e.symm))).symm
      · rw [List.countP_cons, List.countP_cons, hK0, c, chP_no hno]; rfl
    · rw [if_neg q]
      by_cases q2 : g.1 < f.1
      · rw [if_pos q2]
        obtain ⟨a, b, c⟩ := mg_cnt n (f :: r) s i (j + 1) hs1 t2 hz1 z2 (by simp at h ⊢; omega)
        have hno : ∀ y ∈ f :: r, y.1 ≠ g.1 := fun y hy => by
          rcases List.mem_cons.mp hy with e | e
          · rw [e]; omega
          · have := l1 y e; omega
        have hk := fun i => hK1 (i := i) (p := g.1) (k := i) (l := j) (hz2 g List.mem_cons_self)
        refine ⟨?_, ?_, ?_⟩
        · rw [List.countP_cons, hK1 (hz2 g List.mem_cons_self), a]
          exact (cP_congr (fun y hy => goP_ne (fun e => hno y hy e.symm))).symm
        · rw [List.countP_cons, List.countP_cons, hK1 (hz2 g List.mem_cons_self), b, goP_iff.mpr hno]; rfl
        · rw [List.countP_cons, hK1 (hz2 g List.mem_cons_self), c]
          exact (cP_congr (fun y hy => chP_ne (fun e => hno y hy e.symm))).symm
      · rw [if_neg q2]
        have e : f.1 = g.1 := by omega
        obtain ⟨a, b, c⟩ := mg_cnt n r s (i + 1) (j + 1) t1 t2 z1 z2 (by simp at h ⊢; omega)
        have n1 : ∀ y ∈ r, g.1 ≠ y.1 := fun y hy => by have := l1 y hy; omega
        have n2 : ∀ y ∈ s, f.1 ≠ y.1 := fun y hy => by have := l2 y hy; omega
        have a1 : (f :: r).countP (goP (g :: s)) = r.countP (goP s) := by
          rw [List.countP_cons, cP_congr (fun y hy => goP_ne (n1 y hy))]
          have : goP (g :: s) f = false := by
            cases hb : goP (g :: s) f with
            | false => rfl
            | true => exact absurd e.symm (goP_iff.mp hb g List.mem_cons_self)
          rw [this]; rfl
        have b1 : (g :: s).countP (goP (f :: r)) = s.countP (goP r) := by
          rw [List.countP_cons, cP_congr (fun y hy => goP_ne (n2 y hy))]
          have : goP (f :: r) g = false := by
            cases hb : goP (f :: r) g with
            | false => rfl
            | true => exact absurd e (goP_iff.mp hb f List.mem_cons_self)
          rw [this]; rfl
        have tc : tCont f.1 (g :: s) = g.2 := if_pos e.symm
        have c1 : (f :: r).countP (chP (g :: s)) = r.countP (chP s) + (if f.2 = g.2 then 0 else 1) := by
          rw [List.countP_cons, cP_congr (fun y hy => chP_ne (n1 y hy))]
          have hz := hz2 g List.mem_cons_self
          by_cases w : f.2 = g.2
          · rw [show chP (g :: s) f = false from decide_eq_false (by rw [tc]; exact fun z => z.2 w.symm), if_pos w]; rfl
          · rw [show chP (g :: s) f = true from decide_eq_true (by rw [tc]; exact ⟨hz, fun z => w z.symm⟩), if_neg w]; rfl
        rw [a1, b1, c1]
        by_cases w : f.2 = g.2
        · rw [if_pos w, if_pos w]; exact ⟨a, b, c⟩
        · rw [if_neg w, if_neg w]
          have k2 := fun i => hK2 (i := i) (p := f.1) (k := i) (l := j) (hz1 f List.mem_cons_self) (hz2 g List.mem_cons_self)
          simp only [List.countP_cons, hK2 (hz1 f List.mem_cons_self) (hz2 g List.mem_cons_self), a, b, c]
          exact ⟨rfl, rfl, rfl⟩
theorem hK_all : ∀ (es : List hE), es.countP (hK 0) + es.countP (hK 1) + es.countP (hK 2) = es.length
  | [] => rfl
  | e :: r => by
    have ih := hK_all r
    rw [List.countP_cons, List.countP_cons, List.countP_cons, List.length_cons]
    have : (if hK 0 e = true then 1 else 0) + (if hK 1 e = true then 1 else 0) + (if hK 2 e = true then 1 else 0) = 1 := by
      unfold hK
      split
      · rfl
      · split <;> rfl
    omega
theorem s_gone {M : gM} {a b : Int} {fs gs : List gF} (hA : uT M a fs) (hB : uT M b gs) : F_gone M a b = some (fs.countP (goP gs) : Int) := by
  have h32 := uT_32 hA
  have lp : ∀ (suf pre : List gF) (n : Nat), fs = pre ++ suf → n + suf.countP (goP gs) = fs.countP (goP gs) → n ≤ pre.length → F_gone_5 M a b (n : Int) (pre.length : Int) = some (fs.countP (goP gs) : Int) := by
    intro suf
    induction suf with
    | nil =>
      intro pre n e hn hl
      have := congrArg List.length e
      simp only [List.append_nil] at this
      rw [eq_gone_5, if_pos hA.1, hA.2.1, if_neg (by omega)]
      have : n = fs.countP (goP gs) := by rw [← hn]; rfl
      rw [this]
    | cons f r ih =>
      intro pre n e hn hl
      have hlen := congrArg List.length e
      rw [List.length_append, List.length_cons] at hlen
      rw [eq_gone_5, if_pos hA.1, hA.2.1, if_pos (by omega), gI_bb (s_pathAt hA (at_mid e)), gI_bb (s_fileAt hB), gw32_id (z := (pre.length : Int) + 1) (by omega) (by omega)]
      rw [List.countP_cons] at hn
      by_cases q : tFind f.1 gs 0 = -1
      · have hg : goP gs f = true := goP_iff.mpr (tFind_no.mp q)
        rw [if_pos q, gw32_id (by omega) (by omega)]
        rw [hg] at hn
        have := ih (pre ++ [f]) (n + 1) (by rw [e]; simp) (by simp at hn; omega) (by simp; omega)
        simpa using this
      · have hg : goP gs f = false := by
          cases hb : goP gs f with
          | false => rfl
          | true => exact absurd (tFind_no.mpr (goP_iff.mp hb)) q
        rw [if_neg q]
        rw [hg] at hn
        have := ih (pre ++ [f]) n (by rw [e]; simp) (by simpa using hn) (by simp; omega)
        simpa using this
  rw [eq_gone]
  exact lp fs [] 0 rfl (by simp) (by simp)
theorem s_newOnes {M : gM} {a b : Int} {fs gs : List gF} (hA : uT M a fs) (hB : uT M b gs) : F_newOnes M a b = some (gs.countP (goP fs) : Int) := by rw [eq_newOnes, gI_bb (s_gone hB hA)]
theorem s_changed {M : gM} {a b : Int} {fs gs : List gF} (hA : uT M a fs) (hB : uT M b gs) : F_changed M a b = some (fs.countP (chP gs) : Int) := by
  have h32 := uT_32 hA
  have lp : ∀ (suf pre : List gF) (n : Nat), fs = pre ++ suf → n + suf.countP (chP gs) = fs.countP (chP gs) → n ≤ pre.length → F_changed_5 M a b (n : Int) (pre.length : Int) = some (fs.countP (chP gs) : Int) := by
    intro suf
    induction suf with
    | nil =>
      intro pre n e hn hl
      have := congrArg List.length e
      simp only [List.append_nil] at this
      rw [eq_changed_5, if_pos hA.1, hA.2.1, if_neg (by omega)]
      have : n = fs.countP (chP gs) := by rw [← hn]; rfl
      rw [this]
    | cons f r ih =>
      intro pre n e hn hl
      have hlen := congrArg List.length e
      rw [List.length_append, List.length_cons] at hlen
      rw [eq_changed_5, if_pos hA.1, hA.2.1, if_pos (by omega), gI_bb (s_pathAt hA (at_mid e)), gI_bb (s_contentBy hB), gw32_id (z := (pre.length : Int) + 1) (by omega) (by omega)]
      rw [List.countP_cons] at hn
      have no : chP gs f = false → F_changed_5 M a b (n : Int) ((pre.length : Int) + 1) = some (fs.countP (chP gs) : Int) := fun hg => by
        rw [hg] at hn
        have := ih (pre ++ [f]) n (by rw [e]; simp) (by simpa using hn) (by simp; omega)
        simpa using this
      by_cases q : tCont f.1 gs = 0
      · rw [if_pos q]; exact no (decide_eq_false (fun z => z.1 q))
      · rw [if_neg q, gI_bb (s_contentAt hA (at_mid e))]
        by_cases q2 : tCont f.1 gs = f.2
        · rw [if_pos q2]; exact no (decide_eq_false (fun z => z.2 q2))
        · rw [if_neg q2, gw32_id (by omega) (by omega)]
          rw [show chP gs f = true from decide_eq_true ⟨q, q2⟩] at hn
          have := ih (pre ++ [f]) (n + 1) (by rw [e]; simp) (by simp at hn; omega) (by simp; omega)
          simpa using this
  rw [eq_changed]
  exact lp fs [] 0 rfl (by simp) (by simp)
theorem sp_X0_countOf {sh : gS} {M : gM} {a i : Int} {ds : List hE} (hOK : gOK sh M) (h : hOk sh M a ds) (hi : 0 ≤ i ∧ i ≤ 2) : gC (gr 0 0) yX0_countOf cX0_countOf 4 (some (.int)) [(4, a), (0, i)] sh M (gPp sh M (0, (ds.countP (hK i) : Int))) := by
  obtain ⟨⟨s0, s1, s2, s3, s4, s5, s6⟩, h32, hc, hr⟩ := id h
  refine w_X0_countOf hOK ?_
  have lp : ∀ (suf pre : List hE) (n : Nat), ds = pre ++ suf → n + suf.countP (hK i) = ds.countP (hK i) → n ≤ pre.length → P_X0_countOf_4 sh (gPp sh M (0, (ds.countP (hK i) : Int))) a i (n : Int) (pre.length : Int) M := by
    intro suf
    induction suf with
    | nil =>
      intro pre n e hn hl
      have := congrArg List.length e
      simp only [List.append_nil] at this
      refine w_X0_countOf_4 hOK ⟨⟨s0, s6⟩, ?_⟩
      rw [hc, if_neg (by omega)]
      have : n = ds.countP (hK i) := by rw [← hn]; rfl
      rw [this]; exact ⟨rfl, rfl, rfl⟩
    | cons x r ih =>
      intro pre n e hn hl
      have hlen := congrArg List.length e
      rw [List.length_append, List.length_cons] at hlen
      have hx := hr pre.length x (at_mid e)
      rw [Int.zero_add] at hx
      refine w_X0_countOf_4 hOK ⟨⟨s0, s6⟩, ?_⟩
      have e3 : M (a + 3) (pre.length : Int) = x.2.2.1 := by rw [← hx]; rfl
      have e2 : M (a + 2) (pre.length : Int) = x.2.1 := by rw [← hx]; rfl
      rw [hc, if_pos (by omega), e3, e2, gw32_id (z := (pre.length : Int) + 1) (by omega) (by omega), gw32_id (by omega) (by omega)]
      refine ⟨_, s3, by omega, ?_⟩
      rw [List.countP_cons] at hn
      have yes : hK i x = true → P_X0_countOf_4 sh (gPp sh M (0, (ds.countP (hK i) : Int))) a i ((n : Int) + 1) ((pre.length : Int) + 1) M := fun hg => by
        rw [hg] at hn
        have := ih (pre ++ [x]) (n + 1) (by rw [e]; simp) (by simp at hn; omega) (by simp; omega)
        simpa using this
      have no : hK i x = false → P_X0_countOf_4 sh (gPp sh M (0, (ds.countP (hK i) : Int))) a i (n : Int) ((pre.length : Int) + 1) M := fun hg => by
        rw [hg] at hn
        have := ih (pre ++ [x]) n (by rw [e]; simp) (by simpa using hn) (by simp; omega)
        simpa using this
      unfold hK at yes no
      by_cases q : x.2.2.1 = 0
      · rw [if_pos q] at yes no
        rw [if_pos q]
        by_cases z : i = 0
        · rw [if_pos z]; exact yes (decide_eq_true z)
        · rw [if_neg z]; exact no (decide_eq_false z)
      · rw [if_neg q] at yes no
        rw [if_neg q]
        refine ⟨_, s2, by omega, ?_⟩
        by_cases q2 : x.2.1 = 0
        · rw [if_pos q2] at yes no
          rw [if_pos q2]
          by_cases z : i = 1
          · rw [if_pos z]; exact yes (decide_eq_true z)
          · rw [if_neg z]; exact no (decide_eq_false z)
        · rw [if_neg q2] at yes no
          rw [if_neg q2]
          by_cases z : i = 2
          · rw [if_pos z]; exact yes (decide_eq_true z)
          · rw [if_neg z]; exact no (decide_eq_false z)
  exact lp ds [] 0 rfl (by simp) (by simp)
