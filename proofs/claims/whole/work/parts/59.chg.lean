-- ==== CHANGE: what two TREES differ in
abbrev hE : Type := Int × Int × Int × Int × Int
/-- path, content before, content after, place before, place after -/
def mg : Nat → List gF → List gF → Int → Int → List hE
  | 0, _, _, _, _ => []
  | _ + 1, [], [], _, _ => []
  | n + 1, f :: r, [], i, j => (f.1, f.2, 0, i, j) :: mg n r [] (i + 1) j
  | n + 1, [], g :: s, i, j => (g.1, 0, g.2, i, j) :: mg n [] s i (j + 1)
  | n + 1, f :: r, g :: s, i, j => if f.1 < g.1 then (f.1, f.2, 0, i, j) :: mg n r (g :: s) (i + 1) j else if g.1 < f.1 then (g.1, 0, g.2, i, j) :: mg n (f :: r) s i (j + 1) else if f.2 = g.2 then mg n r s (i + 1) (j + 1) else (f.1, f.2, g.2, i, j) :: mg n r s (i + 1) (j + 1)
theorem mg_len : ∀ (n : Nat) (fs gs : List gF) (i j : Int), (mg n fs gs i j).length ≤ fs.length + gs.length
  | 0, _, _, _, _ => Nat.zero_le _
  | _ + 1, [], [], _, _ => Nat.zero_le _
  | n + 1, f :: r, [], i, j => by have := mg_len n r [] (i + 1) j; simp only [mg, List.length_cons, List.length_nil] at this ⊢; omega
  | n + 1, [], g :: s, i, j => by have := mg_len n [] s i (j + 1); simp only [mg, List.length_cons, List.length_nil] at this ⊢; omega
  | n + 1, f :: r, g :: s, i, j => by
    have h1 := mg_len n r (g :: s) (i + 1) j
    have h2 := mg_len n (f :: r) s i (j + 1)
    have h3 := mg_len n r s (i + 1) (j + 1)
    unfold mg
    simp only [List.length_cons] at h1 h2 h3 ⊢
    split
    · simp only [List.length_cons]; omega
    · split
      · simp only [List.length_cons]; omega
      · split
        · omega
        · simp only [List.length_cons]; omega
def hG (M : gM) (a q : Int) : hE := (M (a + 1) q, M (a + 2) q, M (a + 3) q, M (a + 4) q, M (a + 5) q)
def hSh (sh : gS) (a : Int) : Prop := gsh sh a = some (0, 1) ∧ gsh sh (a + 1) = some (1, 32) ∧ gsh sh (a + 2) = some (1, 32) ∧ gsh sh (a + 3) = some (1, 32) ∧ gsh sh (a + 4) = some (1, 32) ∧ gsh sh (a + 5) = some (1, 32) ∧ a < 758
theorem hSh440 {sh : gS} {M : gM} (h : gOK sh M) : hSh sh 440 := ⟨gOK_sh h 440 rfl, gOK_sh h 441 rfl, gOK_sh h 442 rfl, gOK_sh h 443 rfl, gOK_sh h 444 rfl, gOK_sh h 445 rfl, by decide⟩
theorem hSh455 {sh : gS} {M : gM} (h : gOK sh M) : hSh sh 455 := ⟨gOK_sh h 455 rfl, gOK_sh h 456 rfl, gOK_sh h 457 rfl, gOK_sh h 458 rfl, gOK_sh h 459 rfl, gOK_sh h 460 rfl, by decide⟩
def hOk (sh : gS) (M : gM) (a : Int) (ds : List hE) : Prop := hSh sh a ∧ ds.length ≤ 32 ∧ M a 0 = (ds.length : Int) ∧ rw_ (hG M a) 0 ds
def hPost (sh : gS) (M : gM) (a : Int) (ds : List hE) (M1 : gM) : Prop := hOk sh M1 a ds ∧ gOK sh M1 ∧ (∀ b : Int, b < a ∨ a + 5 < b → M1 b = M b) ∧ ∀ f : Int, f ≠ 0 → M1 a f = M a f
theorem sp_X0_add {sh : gS} {M : gM} {a p b c i j : Int} {ds : List hE} (hOK : gOK sh M) (h : hOk sh M a ds) (hl : ds.length < 32) : gC (gr 0 0) yX0_add cX0_add 6 none [(4, a), (0, p), (0, b), (0, c), (0, i), (0, j)] sh M (gPm sh (fun r M1 => r = none ∧ hPost sh M a (ds ++ [(p, b, c, i, j)]) M1)) := by
  obtain ⟨⟨s0, s1, s2, s3, s4, s5, s6⟩, -, hc, hr⟩ := id h
  refine w_X0_add hOK ?_
  simp (disch := omega) only [gU_cel]
  rw [hc, if_pos (by omega)]
  refine ⟨⟨s0, s6⟩, _, s1, by omega, _, s2, by omega, _, s3, by omega, _, s4, by omega, _, s5, by omega, ?_⟩
  rw [gw32_id (by omega) (by omega)]
  refine ⟨rfl, rfl, ⟨⟨s0, s1, s2, s3, s4, s5, s6⟩, by simp; omega, by rw [gU_same]; simp, ?_⟩, gOK_o (f := 0) (gOK_i (gOK_i (gOK_i (gOK_i (gOK_i hOK s1) s2) s3) s4) s5) s0 rfl rfl, fun q hq => ?_, fun f hf => ?_⟩
  · refine rw_snoc (rw_congr hr (fun q q0 q1 => ?_)) ?_
    · unfold hG
      simp (disch := omega) only [gU_cel]
      rw [gU_idx (by omega), gU_idx (by omega), gU_idx (by omega), gU_idx (by omega), gU_idx (by omega)]
      simp (disch := omega) only [gU_cel]
    · unfold hG
      simp (disch := omega) only [gU_cel]
      rw [show (0 : Int) + (ds.length : Int) = (ds.length : Int) by omega]
      simp only [gU_same]
  · simp (disch := omega) only [gU_cell]
  · rw [gU_idx hf]
    simp (disch := omega) only [gU_cel]
theorem sp_X0_measure {sh : gS} {M : gM} {a t u : Int} {m n : Nat} {fs gs : List gF} (hOK : gOK sh M) (hS : hSh sh a) (hT : tOk sh M t m fs) (hU : tOk sh M u n gs) (hd : (t + 2 < a ∨ a + 5 < t) ∧ (u + 2 < a ∨ a + 5 < u)) (hl : fs.length + gs.length ≤ 32) (hz1 : ∀ f ∈ fs, f.2 ≠ 0) (hz2 : ∀ f ∈ gs, f.2 ≠ 0) : gC (gr 1 25) yX0_measure cX0_measure 10 none [(4, a), (4, t), (4, u)] sh M (gPm sh (fun r M1 => r = none ∧ hOk sh M1 a (mg 32 fs gs 0 0) ∧ gOK sh M1 ∧ (∀ b : Int, b < a ∨ a + 5 < b → M1 b = M b) ∧ M1 a 6 = 0 ∧ ∀ f : Int, f ≠ 0 → f ≠ 6 → M1 a f = M a f)) := by
  obtain ⟨s0, s1, s2, s3, s4, s5, s6⟩ := id hS
  refine w_X0_measure hOK ⟨⟨s0, s6⟩, ?_⟩
  generalize hM0 : gU (gU M a 0 0) a 6 0 = M0
  have hO0 : gOK sh M0 := by rw [← hM0]; exact gOK_o (f := 6) (gOK_o (f := 0) hOK s0 rfl rfl) s0 rfl rfl
  have e0 : ∀ b : Int, b ≠ a → M0 b = M b := fun b hb => by rw [← hM0, gU_cell _ _ _ hb, gU_cell _ _ _ hb]
  have c0 : M0 a 0 = 0 := by rw [← hM0, gU_idx (by decide), gU_same]
  have c6 : M0 a 6 = 0 := by rw [← hM0, gU_same]
  have cf : ∀ f : Int, f ≠ 0 → f ≠ 6 → M0 a f = M a f := fun f f0 f6 => by rw [← hM0, gU_idx f6, gU_idx f0]
  have lp : ∀ (k : Nat) (ra rb : List gF) (x3 x4 x5 : Int) (ds : List hE) (M1 : gM), x5 + (k : Int) = 32 → 0 ≤ x5 → (∀ f ∈ ra, f.2 ≠ 0) → (∀ f ∈ rb, f.2 ≠ 0) → ra.length + rb.length ≤ k → ds.length + (ra.length + rb.length) ≤ 32 → x3 + (ra.length : Int) = (fs.length : Int) → x4 + (rb.length : Int) = (gs.length : Int) → tSuf M1 t x3 ra → tSuf M1 u x4 rb → hOk sh M1 a ds → gOK sh M1 → (∀ b : Int, b < a ∨ a + 5 < b → M1 b = M b) → M1 a 6 = 0 → (∀ f : Int, f ≠ 0 → f ≠ 6 → M1 a f = M a f) →
      P_X0_measure_18 sh (gPm sh (fun r M1 => r = none ∧ hOk sh M1 a (ds ++ mg k ra rb x3 x4) ∧ gOK sh M1 ∧ (∀ b : Int, b < a ∨ a + 5 < b → M1 b = M b) ∧ M1 a 6 = 0 ∧ ∀ f : Int, f ≠ 0 → f ≠ 6 → M1 a f = M a f)) a t u x3 x4 x5 M1 := by
    intro k
    induction k with
    | zero =>
      intro ra rb x3 x4 x5 ds M1 hk h5 _ _ hlen _ _ _ _ _ hds hO1 hf1 h6 hff
      refine w_X0_measure_18 hO1 ?_
      rw [if_neg (by omega)]
      refine ⟨rfl, rfl, ?_, hO1, hf1, h6, hff⟩
      rw [mg, List.append_nil]; exact hds
    | succ k ih =>
      intro ra rb x3 x4 x5 ds M1 hk h5 hza hzb hlen hdl h3l h4l hA hB hds hO1 hf1 h6 hff
      have htc : M1 t 2 = x3 + (ra.length : Int) := hA.2.1
      have huc : M1 u 2 = x4 + (rb.length : Int) := hB.2.1
      have h30 := hA.1
      have h40 := hB.1
      have tS := hT.1
      have uS := hU.1
      have mn := hT.2.2.2
      have nn := hU.2.2.2
      have kA : ∀ (M2 : gM) (xs : List gF) (i : Int), (∀ b : Int, b < a ∨ a + 5 < b → M2 b = M1 b) → tSuf M1 t i xs → tSuf M2 t i xs := fun M2 xs i hf h => ⟨h.1, by rw [hf t (by omega)]; exact h.2.1, by rw [hf (t + 1) (by omega), hf (t + 2) (by omega)]; exact h.2.2⟩
      have kB : ∀ (M2 : gM) (xs : List gF) (i : Int), (∀ b : Int, b < a ∨ a + 5 < b → M2 b = M1 b) → tSuf M1 u i xs → tSuf M2 u i xs := fun M2 xs i hf h => ⟨h.1, by rw [hf u (by omega)]; exact h.2.1, by rw [hf (u + 1) (by omega), hf (u + 2) (by omega)]; exact h.2.2⟩
      -- one step: it adds, or it does not
      have nx : ∀ (fA fB v w : Int) (ra2 rb2 : List gF) (M2 : gM) (ds2 : List hE), (∀ f ∈ ra2, f.2 ≠ 0) → (∀ f ∈ rb2, f.2 ≠ 0) → (fA = 0 ∨ fA = 1) → (fB = 0 ∨ fB = 1) → ra2.length + rb2.length ≤ k → ds2.length + (ra2.length + rb2.length) ≤ 32 → (x3 + fA) + (ra2.length : Int) = (fs.length : Int) → (x4 + fB) + (rb2.length : Int) = (gs.length : Int) → tSuf M2 t (x3 + fA) ra2 → tSuf M2 u (x4 + fB) rb2 → hOk sh M2 a ds2 → gOK sh M2 → (∀ b : Int, b < a ∨ a + 5 < b → M2 b = M b) → M2 a 6 = 0 → (∀ f : Int, f ≠ 0 → f ≠ 6 → M2 a f = M a f) →
          P_X0_measure_196 sh (gPm sh (fun r M1 => r = none ∧ hOk sh M1 a (ds2 ++ mg k ra2 rb2 (x3 + fA) (x4 + fB)) ∧ gOK sh M1 ∧ (∀ b : Int, b < a ∨ a + 5 < b → M1 b = M b) ∧ M1 a 6 = 0 ∧ ∀ f : Int, f ≠ 0 → f ≠ 6 → M1 a f = M a f)) a t u x3 x4 x5 fA fB v w M2 := by
        intro fA fB v w ra2 rb2 M2 ds2 hz3 hz4 hfA hfB g1 g2 g3 g4 g5 g6 g7 g8 g9 g10 g11
        refine w_X0_measure_196 g8 ?_
        have := ih ra2 rb2 (x3 + fA) (x4 + fB) (x5 + 1) ds2 M2 (by omega) (by omega) hz3 hz4 g1 g2 g3 g4 g5 g6 g7 g8 g9 g10 g11
        rcases hfA with rfl | rfl <;> rcases hfB with rfl | rfl
        · rw [if_pos rfl, if_pos rfl]; simp (disch := omega) only [gw32_id]; exact this
        · rw [if_pos rfl, if_neg (by decide)]; simp (disch := omega) only [gw32_id]; exact this
        · rw [if_neg (by decide), if_pos rfl]; simp (disch := omega) only [gw32_id]; exact this
        · rw [if_neg (by decide), if_neg (by decide)]; simp (disch := omega) only [gw32_id]; exact this
      have tn : (fs.length : Int) ≤ (m : Int) := by omega
      have un : (gs.length : Int) ≤ (n : Int) := by omega
      -- the entry that is added
      have ad : ∀ (fA fB p v w : Int) (ra2 rb2 : List gF), (∀ f ∈ ra2, f.2 ≠ 0) → (∀ f ∈ rb2, f.2 ≠ 0) → (fA = 0 ∨ fA = 1) → (fB = 0 ∨ fB = 1) → 1 ≤ fA + fB → ra2.length + fA.toNat = ra.length → rb2.length + fB.toNat = rb.length → tSuf M1 t (x3 + fA) ra2 → tSuf M1 u (x4 + fB) rb2 → (fA = 0 → 0 < rb.length ∧ p = M1 (u + 1) x4) → (fA = 1 → p = M1 (t + 1) x3) →
          P_X0_measure_155 sh (gPm sh (fun r M1 => r = none ∧ hOk sh M1 a (ds ++ (if v = w then mg k ra2 rb2 (x3 + fA) (x4 + fB) else (p, v, w, x3, x4) :: mg k ra2 rb2 (x3 + fA) (x4 + fB))) ∧ gOK sh M1 ∧ (∀ b : Int, b < a ∨ a + 5 < b → M1 b = M b) ∧ M1 a 6 = 0 ∧ ∀ f : Int, f ≠ 0 → f ≠ 6 → M1 a f = M a f)) a t u x3 x4 x5 fA fB v w M1 := by
        intro fA fB p v w ra2 rb2 hz3 hz4 hfA hfB h1 hla hlb hA2 hB2 hp0 hp1
        refine w_X0_measure_155 hO1 ?_
        by_cases q : v = w
        · rw [if_pos q, if_pos q]
          exact nx fA fB _ _ ra2 rb2 M1 ds hz3 hz4 hfA hfB (by omega) (by omega) (by omega) (by omega) hA2 hB2 hds hO1 hf1 h6 hff
        · rw [if_neg q, if_neg q]
          have call : ∃ P193 : Option gV → gM → Prop, gC (gr 0 0) yX0_add cX0_add 6 none [(4, a), (0, p), (0, v), (0, w), (0, x3), (0, x4)] sh M1 (gPm sh P193) ∧ ∀ (r193 : Option gV) (M193 : gM), P193 r193 M193 → r193 = none ∧ gOK sh M193 ∧ P_X0_measure_196 sh (gPm sh (fun r M1 => r = none ∧ hOk sh M1 a (ds ++ ((p, v, w, x3, x4) :: mg k ra2 rb2 (x3 + fA) (x4 + fB))) ∧ gOK sh M1 ∧ (∀ b : Int, b < a ∨ a + 5 < b → M1 b = M b) ∧ M1 a 6 = 0 ∧ ∀ f : Int, f ≠ 0 → f ≠ 6 → M1 a f = M a f)) a t u x3 x4 x5 fA fB v w M193 := by
            refine ⟨_, sp_X0_add hO1 hds (by omega), fun r2 M2 hP2 => ?_⟩
            obtain ⟨rfl, p1, p2, p3, p4⟩ := hP2
            refine ⟨rfl, p2, ?_⟩
            have := nx fA fB v w ra2 rb2 M2 (ds ++ [(p, v, w, x3, x4)]) hz3 hz4 hfA hfB (by omega) (by simp; omega) (by omega) (by omega) (kA M2 _ _ p3 hA2) (kB M2 _ _ p3 hB2) p1 p2 (fun b hb => by rw [p3 b hb]; exact hf1 b hb) (by rw [p4 6 (by decide)]; exact h6) (fun f f0 f6 => by rw [p4 f f0]; exact hff f f0 f6)
            rw [List.append_assoc] at this
            exact this
          by_cases z : fA = 0
          · rw [if_pos z]
            obtain ⟨b1, b2⟩ := hp0 z
            refine ⟨⟨uS.1, uS.2.2.2⟩, _, uS.2.1, by omega, ⟨s0, s6⟩, ?_⟩
            rw [← b2]; exact call
          · rw [if_neg z]
            refine ⟨⟨tS.1, tS.2.2.2⟩, _, tS.2.1, by omega, ⟨s0, s6⟩, ?_⟩
            rw [← hp1 (by omega)]; exact call
      refine w_X0_measure_18 hO1 ?_
      rw [if_pos (by omega)]
      refine ⟨⟨tS.1, tS.2.2.2⟩, ?_⟩
      cases ra with
      | nil =>
        have ta := tSuf_nil hA
        rw [if_neg (by omega)]
        refine ⟨⟨uS.1, uS.2.2.2⟩, ?_⟩
        cases rb with
        | nil =>
          have tb := tSuf_nil hB
          rw [if_neg (by omega)]
          refine ⟨rfl, rfl, ?_, hO1, hf1, h6, hff⟩
          rw [mg, List.append_nil]; exact hds
        | cons g s =>
          obtain ⟨b1, b2, b3, b4, b5, b6⟩ := tSuf_cons hB
          rw [if_pos b2]
          refine w_X0_measure_42 hO1 ⟨⟨uS.1, uS.2.2.2⟩, ?_⟩
          rw [if_pos b2]
          refine ⟨⟨tS.1, tS.2.2.2⟩, ?_⟩
          rw [if_neg (by omega)]
          refine w_X0_measure_80 hO1 ⟨⟨tS.1, tS.2.2.2⟩, ?_⟩
          rw [if_neg (by omega)]
          refine w_X0_measure_120 hO1 ?_
          rw [if_pos rfl, if_neg (by decide), b4]
          refine ⟨⟨uS.1, uS.2.2.2⟩, _, uS.2.2.1, by omega, ?_⟩
          have := ad 0 1 g.1 0 g.2 [] s (fun _ h => by cases h) (fun x hx => hzb x (List.mem_cons_of_mem _ hx)) (Or.inl rfl) (Or.inr rfl) (by decide) (by simp) (by simp) (by rw [Int.add_zero]; exact hA) b6 (fun _ => ⟨by simp, b3.symm⟩) (fun z => by omega)
          rw [if_neg (fun z => hzb g List.mem_cons_self z.symm), Int.add_zero] at this
          exact this
      | cons f r =>
        obtain ⟨a1, a2, a3, a4, a5, a6⟩ := tSuf_cons hA
        rw [if_pos a2]
        cases rb with
        | nil =>
          have tb := tSuf_nil hB
          refine w_X0_measure_42 hO1 ⟨⟨uS.1, uS.2.2.2⟩, ?_⟩
          rw [if_neg (by omega)]
          refine w_X0_measure_80 hO1 ⟨⟨tS.1, tS.2.2.2⟩, ?_⟩
          rw [if_pos a2]
          refine ⟨⟨uS.1, uS.2.2.2⟩, ?_⟩
          rw [if_neg (by omega)]
          refine w_X0_measure_120 hO1 ?_
          rw [if_neg (by decide), if_pos rfl, a4]
          refine ⟨⟨tS.1, tS.2.2.2⟩, _, tS.2.2.1, by omega, ?_⟩
          have := ad 1 0 f.1 f.2 0 r [] (fun x hx => hza x (List.mem_cons_of_mem _ hx)) (fun _ h => by cases h) (Or.inr rfl) (Or.inl rfl) (by decide) (by simp) (by simp) a6 (by rw [Int.add_zero]; exact hB) (fun z => by omega) (fun _ => a3.symm)
          rw [if_neg (hza f List.mem_cons_self), Int.add_zero] at this
          exact this
        | cons g s =>
          obtain ⟨b1, b2, b3, b4, b5, b6⟩ := tSuf_cons hB
          refine w_X0_measure_42 hO1 ⟨⟨uS.1, uS.2.2.2⟩, ?_⟩
          rw [if_pos b2]
          refine ⟨⟨tS.1, tS.2.2.2⟩, ?_⟩
          rw [if_pos a2]
          refine ⟨_, tS.2.1, by omega, _, uS.2.1, by omega, ?_⟩
          rw [a3, b3]
          unfold mg
          by_cases q : g.1 < f.1
          · rw [if_pos q, if_neg (show ¬ f.1 < g.1 by omega), if_pos q]
            refine w_X0_measure_80 hO1 ⟨⟨tS.1, tS.2.2.2⟩, ?_⟩
            rw [if_pos a2]
            refine ⟨⟨uS.1, uS.2.2.2⟩, ?_⟩
            rw [if_pos b2]
            refine ⟨_, uS.2.1, by omega, _, tS.2.1, by omega, ?_⟩
            rw [a3, b3, if_neg (show ¬ f.1 < g.1 by omega)]
            refine w_X0_measure_120 hO1 ?_
            rw [if_pos rfl, if_neg (by decide), b4]
            refine ⟨⟨uS.1, uS.2.2.2⟩, _, uS.2.2.1, by omega, ?_⟩
            have := ad 0 1 g.1 0 g.2 (f :: r) s hza (fun x hx => hzb x (List.mem_cons_of_mem _ hx)) (Or.inl rfl) (Or.inr rfl) (by decide) (by simp) (by simp) (by rw [Int.add_zero]; exact hA) b6 (fun _ => ⟨by simp, b3.symm⟩) (fun z => by omega)
            rw [if_neg (fun z => hzb g List.mem_cons_self z.symm), Int.add_zero] at this
            exact this
          · rw [if_neg q]
            by_cases q2 : f.1 < g.1
            · rw [if_pos q2]
              refine w_X0_measure_80 hO1 ⟨⟨tS.1, tS.2.2.2⟩, ?_⟩
              rw [if_pos a2]
              refine ⟨⟨uS.1, uS.2.2.2⟩, ?_⟩
              rw [if_pos b2]
              refine ⟨_, uS.2.1, by omega, _, tS.2.1, by omega, ?_⟩
              rw [a3, b3, if_pos q2]
              refine w_X0_measure_120 hO1 ?_
              rw [if_neg (by decide), if_pos rfl, a4]
              refine ⟨⟨tS.1, tS.2.2.2⟩, _, tS.2.2.1, by omega, ?_⟩
              have := ad 1 0 f.1 f.2 0 r (g :: s) (fun x hx => hza x (List.mem_cons_of_mem _ hx)) hzb (Or.inr rfl) (Or.inl rfl) (by decide) (by simp) (by simp) a6 (by rw [Int.add_zero]; exact hB) (fun z => by omega) (fun _ => a3.symm)
              rw [if_neg (hza f List.mem_cons_self), Int.add_zero] at this
              exact this
            · rw [if_neg q2, if_neg q]
              refine w_X0_measure_80 hO1 ⟨⟨tS.1, tS.2.2.2⟩, ?_⟩
              rw [if_pos a2]
              refine ⟨⟨uS.1, uS.2.2.2⟩, ?_⟩
              rw [if_pos b2]
              refine ⟨_, uS.2.1, by omega, _, tS.2.1, by omega, ?_⟩
              rw [a3, b3, if_neg q2]
              refine w_X0_measure_120 hO1 ?_
              rw [if_neg (by decide), if_neg (by decide), a4, b4]
              refine ⟨⟨tS.1, tS.2.2.2⟩, _, tS.2.2.1, by omega, ⟨uS.1, uS.2.2.2⟩, _, uS.2.2.1, by omega, ?_⟩
              have := ad 1 1 f.1 f.2 g.2 r s (fun x hx => hza x (List.mem_cons_of_mem _ hx)) (fun x hx => hzb x (List.mem_cons_of_mem _ hx)) (Or.inr rfl) (Or.inr rfl) (by decide) (by simp) (by simp) a6 b6 (fun z => by omega) (fun _ => a3.symm)
              exact this
  have := lp 32 fs gs 0 0 0 [] M0 (by decide) (by decide) hz1 hz2 hl (by simpa using hl) (by omega) (by omega) ⟨by decide, by rw [e0 t (by omega)]; exact hT.2.2.1.2.1, by rw [e0 (t + 1) (by omega), e0 (t + 2) (by omega)]; exact hT.2.2.1.2.2⟩ ⟨by decide, by rw [e0 u (by omega)]; exact hU.2.2.1.2.1, by rw [e0 (u + 1) (by omega), e0 (u + 2) (by omega)]; exact hU.2.2.1.2.2⟩ ⟨hS, by simp, by rw [c0]; rfl, rw_nil⟩ hO0 (fun b hb => e0 b (by omega)) c6 cf
  exact this
