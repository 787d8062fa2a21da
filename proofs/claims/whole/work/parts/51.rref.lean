-- ==== the reference: REFS
def sAt : List rF → Int → Int
  | [], _ => -1
  | x :: r, s => if rOrd x = s then x.2.2.1 else sAt r s
def sBy : List rF → Int → Int
  | [], _ => -1
  | x :: r, s => if rOrd x = s then x.2.2.2 else sBy r s
def rGd (n : Int) (rs : List rF) : Prop := rSrt rs ∧ ∀ x ∈ rs, rRng x ∧ (0 ≤ x.2.2.1 ∧ x.2.2.1 < n) ∧ -1 ≤ x.2.2.2 ∧ x.2.2.2 ≤ 3
def uRf (M : gM) (h : Int) (rs : List rF) : Prop := ∀ s : Int, 0 ≤ s → s < 52 → M 727 (52 * h + s) = sAt rs s ∧ M 728 (52 * h + s) = sBy rs s
theorem sAt_no {s : Int} : ∀ {rs : List rF}, (∀ x ∈ rs, rOrd x ≠ s) → sAt rs s = -1 ∧ sBy rs s = -1
  | [], _ => ⟨rfl, rfl⟩
  | x :: r, h => by
    unfold sAt sBy
    rw [if_neg (h x List.mem_cons_self), if_neg (h x List.mem_cons_self)]
    exact sAt_no (fun y hy => h y (List.mem_cons_of_mem _ hy))
theorem sAt_mem {s : Int} {x : rF} : ∀ {rs : List rF}, rSrt rs → x ∈ rs → rOrd x = s → sAt rs s = x.2.2.1 ∧ sBy rs s = x.2.2.2
  | [], _, hx, _ => by cases hx
  | y :: r, hs, hx, ho => by
    unfold sAt sBy
    rcases List.mem_cons.mp hx with rfl | hx
    · rw [if_pos ho, if_pos ho]; exact ⟨rfl, rfl⟩
    · have := (List.pairwise_cons.mp hs).1 x hx
      rw [if_neg (by omega), if_neg (by omega)]
      exact sAt_mem (List.pairwise_cons.mp hs).2 hx ho
theorem rKey {x : rF} {k l : Int} (h : rRng x) (hk : 0 ≤ k ∧ k ≤ 1) (hl : 0 ≤ l ∧ l ≤ 25) : (x.1 = k ∧ x.2.1 = l) ↔ rOrd x = k * 26 + l := by
  unfold rOrd; unfold rRng at h; omega
theorem sAt_eq {rs os : List rF} {s : Int} (h1 : rSrt rs) (h2 : rSrt os) (h : ∀ x : rF, rOrd x = s → (x ∈ rs ↔ x ∈ os)) : sAt rs s = sAt os s ∧ sBy rs s = sBy os s := by
  rcases Classical.em (∃ x ∈ rs, rOrd x = s) with ⟨x, hx, ho⟩ | hn
  · have a := sAt_mem h1 hx ho
    have b := sAt_mem h2 ((h x ho).mp hx) ho
    exact ⟨a.1.trans b.1.symm, a.2.trans b.2.symm⟩
  · have a := sAt_no (rs := rs) (s := s) (fun x hx ho => hn ⟨x, hx, ho⟩)
    have b := sAt_no (rs := os) (s := s) (fun x hx ho => hn ⟨x, (h x ho).mpr hx, ho⟩)
    exact ⟨a.1.trans b.1.symm, a.2.trans b.2.symm⟩
/-- what stands at a place: nothing, or one -/
theorem rGet_at {n : Int} {rs : List rF} {k l : Int} (h : rGd n rs) (hk : 0 ≤ k ∧ k ≤ 1) (hl : 0 ≤ l ∧ l ≤ 25) : (rGet k l rs = none ∧ sAt rs (k * 26 + l) = -1 ∧ ∀ x ∈ rs, rOrd x ≠ k * 26 + l) ∨ ∃ c p pre suf, rs = pre ++ (k, l, c, p) :: suf ∧ rGet k l rs = some c ∧ sAt rs (k * 26 + l) = c ∧ sBy rs (k * 26 + l) = p ∧ 0 ≤ c ∧ c < n := by
  rcases rFind_sp k l rs 0 with ⟨-, a, b⟩ | ⟨pre, suf, c, p, e, -, a, -, -⟩
  · have hno : ∀ x ∈ rs, rOrd x ≠ k * 26 + l := fun x hx z => b x hx ((rKey (h.2 x hx).1 hk hl).mpr z)
    exact Or.inl ⟨a, (sAt_no hno).1, hno⟩
  · have hm : (k, l, c, p) ∈ rs := by rw [e]; simp
    have hs := sAt_mem h.1 hm (show rOrd (k, l, c, p) = k * 26 + l from rfl)
    have hr := (h.2 _ hm).2.1
    exact Or.inr ⟨c, p, pre, suf, e, a, hs.1, hs.2, hr.1, hr.2⟩
theorem srt_mid {pre suf : List rF} {x y : rF} (h : rSrt (pre ++ x :: suf)) (ho : rOrd x = rOrd y) : rSrt (pre ++ y :: suf) := by
  unfold rSrt at h ⊢
  rw [List.pairwise_append, List.pairwise_cons] at h ⊢
  refine ⟨h.1, ⟨fun z hz => by rw [← ho]; exact h.2.1.1 z hz, h.2.1.2⟩, fun a ha b hb => ?_⟩
  rcases List.mem_cons.mp hb with e | e
  · rw [e, ← ho]; exact h.2.2 a ha x List.mem_cons_self
  · exact h.2.2 a ha b (List.mem_cons_of_mem _ e)
theorem mid_ne {pre suf : List rF} {x : rF} (h : rSrt (pre ++ x :: suf)) : ∀ y, (y ∈ pre ∨ y ∈ suf) → rOrd y ≠ rOrd x := by
  unfold rSrt at h
  rw [List.pairwise_append, List.pairwise_cons] at h
  rintro y (hy | hy)
  · have := h.2.2 y hy x List.mem_cons_self; omega
  · have := h.2.1.1 y hy; omega
/-- laying: the members, their order, how many -/
theorem rLay_is {n : Int} {rs : List rF} {k l c p : Int} (h : rGd n rs) (hk : 0 ≤ k ∧ k ≤ 1) (hl : 0 ≤ l ∧ l ≤ 25) : rSrt (rLay k l c p rs) ∧ (∀ x, x ∈ rLay k l c p rs ↔ x = (k, l, c, p) ∨ (x ∈ rs ∧ rOrd x ≠ k * 26 + l)) ∧ (rLay k l c p rs).length = if rGet k l rs = none then rs.length + 1 else rs.length := by
  unfold rLay
  rcases rFind_sp k l rs 0 with ⟨-, a, b⟩ | ⟨pre, suf, c0, p0, e, -, a, -, b⟩
  · have hno : ∀ x ∈ rs, rOrd x ≠ k * 26 + l := fun x hx z => b x hx ((rKey (h.2 x hx).1 hk hl).mpr z)
    rw [if_pos a, if_pos a]
    obtain ⟨pre, suf, e, h1, h2, h3⟩ := rIns_sp (k, l, c, p) rs h.1
    rw [h3]
    have ho : rOrd (k, l, c, p) = k * 26 + l := rfl
    have hs := h.1
    rw [e] at hs hno ⊢
    refine ⟨?_, fun x => ?_, by simp; omega⟩
    · unfold rSrt at hs ⊢
      rw [List.pairwise_append] at hs
      rw [List.pairwise_append, List.pairwise_cons]
      refine ⟨hs.1, ⟨fun z hz => h2 z hz, hs.2.1⟩, fun y hy z hz => ?_⟩
      have h4 := h1 y hy
      have h5 := hno y (List.mem_append_left _ hy)
      rcases List.mem_cons.mp hz with w | w
      · rw [w]; omega
      · exact hs.2.2 y hy z w
    · simp only [List.mem_append, List.mem_cons]
      constructor
      · rintro (z | z | z)
        · exact Or.inr ⟨Or.inl z, hno x (List.mem_append_left _ z)⟩
        · exact Or.inl z
        · exact Or.inr ⟨Or.inr z, hno x (List.mem_append_right _ z)⟩
      · rintro (z | ⟨z | z, -⟩)
        · exact Or.inr (Or.inl z)
        · exact Or.inl z
        · exact Or.inr (Or.inr z)
  · have ho : rOrd (k, l, c, p) = k * 26 + l := rfl
    have ho0 : rOrd (k, l, c0, p0) = k * 26 + l := rfl
    rw [if_neg (by rw [a]; exact fun z => by cases z), if_neg (by rw [a]; exact fun z => by cases z), b]
    have hs := h.1
    rw [e] at hs
    have hne := mid_ne hs
    refine ⟨srt_mid hs rfl, fun x => ?_, by rw [e]; simp⟩
    rw [e]
    simp only [List.mem_append, List.mem_cons]
    constructor
    · rintro (z | z | z)
      · exact Or.inr ⟨Or.inl z, by rw [← ho0]; exact hne x (Or.inl z)⟩
      · exact Or.inl z
      · exact Or.inr ⟨Or.inr (Or.inr z), by rw [← ho0]; exact hne x (Or.inr z)⟩
    · rintro (z | ⟨z | z | z, w⟩)
      · exact Or.inr (Or.inl z)
      · exact Or.inl z
      · rw [z] at w; exact absurd ho0 w
      · exact Or.inr (Or.inr z)
theorem rRem_is {n : Int} {rs : List rF} {k l : Int} (h : rGd n rs) (hk : 0 ≤ k ∧ k ≤ 1) (hl : 0 ≤ l ∧ l ≤ 25) : rSrt (rRem k l rs) ∧ (∀ x, x ∈ rRem k l rs ↔ x ∈ rs ∧ rOrd x ≠ k * 26 + l) ∧ (rRem k l rs).length = if rGet k l rs = none then rs.length else rs.length - 1 := by
  rcases rFind_sp k l rs 0 with ⟨-, a, b⟩ | ⟨pre, suf, c0, p0, e, -, a, b, -⟩
  · have hno : ∀ x ∈ rs, rOrd x ≠ k * 26 + l := fun x hx z => b x hx ((rKey (h.2 x hx).1 hk hl).mpr z)
    rw [rRem_none b, if_pos a]
    exact ⟨h.1, fun x => ⟨fun z => ⟨z, hno x z⟩, fun z => z.1⟩, rfl⟩
  · have ho0 : rOrd (k, l, c0, p0) = k * 26 + l := rfl
    rw [if_neg (by rw [a]; exact fun z => by cases z), b]
    have hs := h.1
    rw [e] at hs
    have hne := mid_ne hs
    refine ⟨?_, fun x => ?_, by rw [e]; simp⟩
    · unfold rSrt at hs ⊢
      rw [List.pairwise_append, List.pairwise_cons] at hs
      rw [List.pairwise_append]
      exact ⟨hs.1, hs.2.1.2, fun y hy z hz => hs.2.2 y hy z (List.mem_cons_of_mem _ hz)⟩
    · rw [e]
      simp only [List.mem_append, List.mem_cons]
      constructor
      · rintro (z | z)
        · exact ⟨Or.inl z, by rw [← ho0]; exact hne x (Or.inl z)⟩
        · exact ⟨Or.inr (Or.inr z), by rw [← ho0]; exact hne x (Or.inr z)⟩
      · rintro ⟨z | z | z, w⟩
        · exact Or.inl z
        · rw [z] at w; exact absurd ho0 w
        · exact Or.inr z
theorem rLay_gd {n : Int} {rs : List rF} {k l c p : Int} (h : rGd n rs) (hk : 0 ≤ k ∧ k ≤ 1) (hl : 0 ≤ l ∧ l ≤ 25) (hc : 0 ≤ c ∧ c < n) (hp : -1 ≤ p ∧ p ≤ 3) : rGd n (rLay k l c p rs) := by
  obtain ⟨a, b, -⟩ := rLay_is (c := c) (p := p) h hk hl
  refine ⟨a, fun x hx => ?_⟩
  rcases (b x).mp hx with rfl | z
  · exact ⟨⟨hk.1, hk.2, hl.1, hl.2⟩, hc, hp⟩
  · exact h.2 x z.1
theorem rRem_gd {n : Int} {rs : List rF} {k l : Int} (h : rGd n rs) (hk : 0 ≤ k ∧ k ≤ 1) (hl : 0 ≤ l ∧ l ≤ 25) : rGd n (rRem k l rs) := by
  obtain ⟨a, b, -⟩ := rRem_is h hk hl
  exact ⟨a, fun x hx => h.2 x ((b x).mp hx).1⟩
theorem s_laysRef {M : gM} {h k l c p : Int} {rs : List rF} {n : Int} (hR : uRf M h rs) (hG : rGd n rs) (hh : 0 ≤ h ∧ h < 4) (hk : 0 ≤ k ∧ k ≤ 1) (hl : 0 ≤ l ∧ l ≤ 25) (hc : 0 ≤ c) :
    ∃ M1, F_laysRef M h (k * 26 + l) c p = some M1 ∧ uRf M1 h (rLay k l c p rs) ∧ ∀ q, (q < 52 * h ∨ 52 * h + 52 ≤ q) → M1 727 q = M 727 q ∧ M1 728 q = M 728 q := by
  obtain ⟨a, b, -⟩ := rLay_is (c := c) (p := p) hG hk hl
  rw [eq_laysRef]
  simp (disch := omega) only [gw32_id]
  rw [if_pos (by omega), if_neg (by omega)]
  refine ⟨_, rfl, fun s s0 s1 => ?_, fun q hq => ?_⟩
  · by_cases e : s = k * 26 + l
    · subst e
      have hm := sAt_mem a ((b (k, l, c, p)).mpr (Or.inl rfl)) (show rOrd (k, l, c, p) = k * 26 + l from rfl)
      rw [gU_cel (by decide), gU_same, gU_same]
      exact ⟨hm.1.symm, hm.2.symm⟩
    · have he := sAt_eq (s := s) a hG.1 (fun x hx => by
        rw [b x]
        refine ⟨fun z => ?_, fun z => Or.inr ⟨z, by omega⟩⟩
        rcases z with z | z
        · rw [z] at hx; exact absurd hx.symm e
        · exact z.1)
      rw [gU_cel (by decide), gU_idx (by omega), gU_idx (by omega), gU_cel (by decide), he.1, he.2]
      exact hR s s0 s1
  · rw [gU_cel (by decide), gU_idx (by omega), gU_idx (by omega), gU_cel (by decide)]
    exact ⟨rfl, rfl⟩
theorem s_laysNone {M : gM} {h k l p : Int} {rs : List rF} {n : Int} (hR : uRf M h rs) (hG : rGd n rs) (hh : 0 ≤ h ∧ h < 4) (hk : 0 ≤ k ∧ k ≤ 1) (hl : 0 ≤ l ∧ l ≤ 25) :
    ∃ M1, F_laysRef M h (k * 26 + l) (-1) p = some M1 ∧ uRf M1 h (rRem k l rs) ∧ ∀ q, (q < 52 * h ∨ 52 * h + 52 ≤ q) → M1 727 q = M 727 q ∧ M1 728 q = M 728 q := by
  obtain ⟨a, b, -⟩ := rRem_is hG hk hl
  rw [eq_laysRef]
  simp (disch := omega) only [gw32_id]
  rw [if_pos (by omega), if_pos trivial]
  refine ⟨_, rfl, fun s s0 s1 => ?_, fun q hq => ?_⟩
  · by_cases e : s = k * 26 + l
    · subst e
      have hm := sAt_no (rs := rRem k l rs) (s := k * 26 + l) (fun x hx => ((b x).mp hx).2)
      rw [gU_cel (by decide), gU_same, gU_same]
      exact ⟨hm.1.symm, hm.2.symm⟩
    · have he := sAt_eq (s := s) a hG.1 (fun x hx => by
        rw [b x]
        exact ⟨fun z => z.1, fun z => ⟨z, by omega⟩⟩)
      rw [gU_cel (by decide), gU_idx (by omega), gU_idx (by omega), gU_cel (by decide), he.1, he.2]
      exact hR s s0 s1
  · rw [gU_cel (by decide), gU_idx (by omega), gU_idx (by omega), gU_cel (by decide)]
    exact ⟨rfl, rfl⟩
/-- the next of the REFS behind a place -/
theorem sAt_next {n : Int} {rs pre suf : List rF} {s : Int} (hG : rGd n rs) (e : rs = pre ++ suf) (h1 : ∀ x ∈ pre, rOrd x < s) (h2 : ∀ x ∈ suf, s ≤ rOrd x) : (sAt rs s = -1 ∧ ∀ x ∈ suf, s + 1 ≤ rOrd x) ∨ ∃ y r, suf = y :: r ∧ rOrd y = s ∧ sAt rs s = y.2.2.1 ∧ sBy rs s = y.2.2.2 ∧ 0 ≤ y.2.2.1 ∧ ∀ x ∈ r, s + 1 ≤ rOrd x := by
  cases suf with
  | nil =>
    refine Or.inl ⟨(sAt_no (fun x hx z => ?_)).1, fun x hx => by cases hx⟩
    rw [e, List.append_nil] at hx
    have := h1 x hx; omega
  | cons y r =>
    have hs := hG.1
    rw [e] at hs
    unfold rSrt at hs
    rw [List.pairwise_append, List.pairwise_cons] at hs
    by_cases ho : rOrd y = s
    · have hm := sAt_mem hG.1 (show y ∈ rs by rw [e]; simp) ho
      exact Or.inr ⟨y, r, rfl, ho, hm.1, hm.2, (hG.2 y (by rw [e]; simp)).2.1.1, fun x hx => by have := hs.2.1.1 x hx; omega⟩
    · have hy := h2 y List.mem_cons_self
      have hr : ∀ x ∈ y :: r, s + 1 ≤ rOrd x := fun x hx => by
        rcases List.mem_cons.mp hx with z | z
        · rw [z]; omega
        · have := hs.2.1.1 x z; omega
      refine Or.inl ⟨(sAt_no (fun x hx z => ?_)).1, hr⟩
      rw [e] at hx
      rcases List.mem_append.mp hx with w | w
      · have := h1 x w; omega
      · have := hr x w; omega
theorem s_refs {M : gM} {h n : Int} {rs : List rF} (hR : uRf M h rs) (hG : rGd n rs) (hh : 0 ≤ h ∧ h < 4) : F_refs M h = some (rs.length : Int) := by
  have lp : ∀ (m : Nat) (s : Int) (suf pre : List rF), s + (m : Int) = 52 → 0 ≤ s → rs = pre ++ suf → (∀ x ∈ pre, rOrd x < s) → (∀ x ∈ suf, s ≤ rOrd x) → (pre.length : Int) ≤ s → F_refs_4 M h (pre.length : Int) s = some (rs.length : Int) := by
    intro m
    induction m with
    | zero =>
      intro s suf pre hm s0 e h1 h2 h3
      rw [eq_refs_4, if_neg (by omega)]
      have : suf = [] := by
        cases suf with
        | nil => rfl
        | cons y r =>
          have a := h2 y List.mem_cons_self
          have b := rOrd_rng (hG.2 y (by rw [e]; simp)).1
          omega
      rw [e, this, List.append_nil]
    | succ m ih =>
      intro s suf pre hm s0 e h1 h2 h3
      rw [eq_refs_4, if_pos (by omega)]
      simp (disch := omega) only [gw32_id]
      rw [if_pos (by omega), (hR s s0 (by omega)).1]
      rcases sAt_next hG e h1 h2 with ⟨a, b⟩ | ⟨y, r, rfl, ho, a, -, c, d⟩
      · rw [if_pos a]
        exact ih (s + 1) suf pre (by omega) (by omega) e (fun x hx => by have := h1 x hx; omega) b (by omega)
      · rw [if_neg (by omega)]
        have := ih (s + 1) r (pre ++ [y]) (by omega) (by omega) (app_mid e) (fun x hx => by
          rcases List.mem_append.mp hx with z | z
          · have := h1 x z; omega
          · rw [List.mem_singleton.mp z]; omega) d (by simp; omega)
        simpa using this
  rw [eq_refs]
  exact lp 52 0 rs [] rfl (by decide) rfl (fun x hx => by cases hx) (fun x hx => (rOrd_rng (hG.2 x hx).1).1) (by decide)
theorem s_isHistory {h : Int} : F_isHistory h = some (bI (decide (0 ≤ h ∧ h ≤ 3))) := by rw [eq_isHistory, gI_bb s_in]
/-- the REFS of all HISTORIES -/
def uRs (M : gM) (n : Int) (R : Int → List rF) : Prop := ∀ h : Int, 0 ≤ h → h < 4 → uRf M h (R h) ∧ rGd n (R h) ∧ (R h).length ≤ 8
def rPut (R : Int → List rF) (h : Int) (rs : List rF) : Int → List rF := fun i => if i = h then rs else R i
theorem uRs_put {M M1 : gM} {n h : Int} {R : Int → List rF} {rs : List rF} (hR : uRs M n R) (h1 : uRf M1 h rs) (h2 : rGd n rs) (h3 : rs.length ≤ 8) (hf : ∀ q, (q < 52 * h ∨ 52 * h + 52 ≤ q) → M1 727 q = M 727 q ∧ M1 728 q = M 728 q) : uRs M1 n (rPut R h rs) := by
  intro i i0 i1
  unfold rPut
  by_cases e : i = h
  · subst e; rw [if_pos rfl]; exact ⟨h1, h2, h3⟩
  · rw [if_neg e]
    obtain ⟨a, b, c⟩ := hR i i0 i1
    refine ⟨fun s s0 s1 => ?_, b, c⟩
    have := hf (52 * i + s) (by omega)
    rw [this.1, this.2]
    exact a s s0 s1
/-- what `ref` answers, and the REFS then -/
def aRef (n : Int) (R : Int → List rF) (h kind letter k : Int) : Int × (Int → List rF) :=
  if (0 ≤ h ∧ h ≤ 3) ∧ (0 ≤ kind ∧ kind ≤ 1) ∧ (0 ≤ letter ∧ letter ≤ 25) ∧ -1 ≤ k ∧ k < n then
    if k = -1 then
      if rGet kind letter (R h) = none then (-4, R) else (((rRem kind letter (R h)).length : Int), rPut R h (rRem kind letter (R h)))
    else if rGet kind letter (R h) = none ∧ 8 ≤ (R h).length then (-5, R)
    else (((rLay kind letter k (-1) (R h)).length : Int), rPut R h (rLay kind letter k (-1) (R h)))
  else (-1, R)
theorem s_ref {M : gM} {cs : List kC} {R : Int → List rF} {h kind letter k : Int} (hC : uC M cs) (hR : uRs M (cs.length : Int) R) : ∃ M1, F_ref M h kind letter k = some ((aRef (cs.length : Int) R h kind letter k).1, M1) ∧ uRs M1 (cs.length : Int) (aRef (cs.length : Int) R h kind letter k).2 := by
  have hl9 := hC.2.1
  rw [eq_ref, gI_bb s_isHistory]
  unfold aRef
  by_cases q1 : 0 ≤ h ∧ h ≤ 3
  · rw [decide_eq_true q1, if_neg (by decide), gI_bb s_in]
    by_cases q2 : 0 ≤ kind ∧ kind ≤ 1
    · rw [decide_eq_true q2, if_neg (by decide), gI_bb s_in]
      by_cases q3 : 0 ≤ letter ∧ letter ≤ 25
      · rw [decide_eq_true q3, if_neg (by decide), gI_bb s_in, hC.1, gw32_id (by omega) (by omega)]
        by_cases q4 : -1 ≤ k ∧ k ≤ (cs.length : Int) - 1
        · rw [decide_eq_true q4, if_neg (by decide), if_pos (show (0 ≤ h ∧ h ≤ 3) ∧ (0 ≤ kind ∧ kind ≤ 1) ∧ (0 ≤ letter ∧ letter ≤ 25) ∧ -1 ≤ k ∧ k < (cs.length : Int) from ⟨q1, q2, q3, q4.1, by omega⟩)]
          simp (disch := omega) only [gw32_id]
          obtain ⟨hRf, hRg, h8⟩ := hR h q1.1 (by omega)
          have hs := hRf (26 * kind + letter) (by omega) (by omega)
          rw [if_pos (by omega), hs.1, show 26 * kind + letter = kind * 26 + letter by omega]
          have lay : 0 ≤ k → (rLay kind letter k (-1) (R h)).length ≤ 8 → ∃ M1, (Option.bind (F_laysRef M h (kind * 26 + letter) k (-1)) fun m119 => Option.bind (F_refs m119 h) fun r124 => some (r124, m119)) = some (((rLay kind letter k (-1) (R h)).length : Int), M1) ∧ uRs M1 (cs.length : Int) (rPut R h (rLay kind letter k (-1) (R h))) := by
            intro k0 hl8
            obtain ⟨M1, e1, hR1, hf1⟩ := s_laysRef (p := -1) hRf hRg ⟨q1.1, by omega⟩ q2 q3 k0
            have hg := rLay_gd (c := k) (p := -1) hRg q2 q3 ⟨k0, by omega⟩ (by decide)
            rw [gI_bb e1, gI_bb (s_refs hR1 hg ⟨q1.1, by omega⟩)]
            exact ⟨M1, rfl, uRs_put hR hR1 hg hl8 hf1⟩
          obtain ⟨-, -, hlen⟩ := rLay_is (c := k) (p := -1) hRg q2 q3
          rcases rGet_at hRg q2 q3 with ⟨a, b, -⟩ | ⟨c, p, pre, suf, e, a, b, b2, c0, c1⟩
          · rw [if_pos b]
            by_cases hk : k = -1
            · rw [if_pos hk, if_pos hk, if_pos a]; exact ⟨M, rfl, hR⟩
            · rw [if_neg hk, if_neg hk, eq_ref_88, if_neg hk, if_pos rfl, gI_bb (s_refs hRf hRg ⟨q1.1, by omega⟩)]
              rw [if_pos a] at hlen
              by_cases h88 : ((R h).length : Int) = 8
              · rw [if_pos h88, if_pos ⟨a, by omega⟩]; exact ⟨M, rfl, hR⟩
              · rw [if_neg h88, if_neg (fun w => by omega)]
                exact lay (by omega) (by omega)
          · rw [if_neg (by omega), a]
            rw [a, if_neg (by simp)] at hlen
            by_cases hk : k = -1
            · rw [if_pos hk, if_pos hk, if_neg (by simp), eq_ref_88, if_pos hk, hk]
              obtain ⟨M1, e1, hR1, hf1⟩ := s_laysNone (p := -1) hRf hRg ⟨q1.1, by omega⟩ q2 q3
              have hg := rRem_gd hRg q2 q3
              obtain ⟨-, -, hlr⟩ := rRem_is hRg q2 q3
              rw [a, if_neg (by simp)] at hlr
              rw [gI_bb e1, gI_bb (s_refs hR1 hg ⟨q1.1, by omega⟩)]
              exact ⟨M1, rfl, uRs_put hR hR1 hg (by omega) hf1⟩
            · rw [if_neg hk, if_neg hk, if_neg (by simp), eq_ref_88, if_neg hk, if_neg (by decide)]
              exact lay (by omega) (by omega)
        · rw [decide_eq_false q4, if_pos (by decide), if_neg (fun w => q4 ⟨w.2.2.2.1, by omega⟩)]; exact ⟨M, rfl, hR⟩
      · rw [decide_eq_false q3, if_pos (by decide), if_neg (fun w => q3 w.2.2.1)]; exact ⟨M, rfl, hR⟩
    · rw [decide_eq_false q2, if_pos (by decide), if_neg (fun w => q2 w.2.1)]; exact ⟨M, rfl, hR⟩
  · rw [decide_eq_false q1, if_pos (by decide), if_neg (fun w => q1 w.1)]; exact ⟨M, rfl, hR⟩
