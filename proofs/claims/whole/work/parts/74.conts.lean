-- ==== count: unlike CONTENTS, on both sides
def ndc : List Int → Int
  | [] => 0
  | x :: r => ndc r + if x ∈ r then 0 else 1
def cvs (fs : List gF) : List Int := fs.map Prod.snd
def ctA (cs : List kC) : Nat → List Int
  | 0 => []
  | k + 1 => (cvs (fFs cs k)).reverse ++ ctA cs k
theorem ndc_rng : ∀ xs : List Int, 0 ≤ ndc xs ∧ ndc xs ≤ (xs.length : Int)
  | [] => ⟨Int.le_refl _, Int.le_refl _⟩
  | x :: r => by
    have := ndc_rng r
    rw [ndc, List.length_cons]
    split <;> omega
theorem ctA_mono {cs : List kC} {v : Int} {m : Nat} (h : v ∈ ctA cs m) : ∀ k : Nat, m ≤ k → v ∈ ctA cs k := by
  intro k
  induction k with
  | zero => intro hk; rw [show m = 0 by omega] at h; exact h
  | succ k ih =>
    intro hk
    by_cases e : m = k + 1
    · rw [← e]; exact h
    · exact List.mem_append.mpr (Or.inr (ih (by omega)))
theorem s_isFirstContent {M : gM} {cs : List kC} {k : Nat} {c : kC} {pre suf : List gF} {f : gF} (hC : uC M cs) (hk : cs[k]? = some c) (e : kFs c = pre ++ f :: suf) : F_isFirstContent M (k : Int) (pre.length : Int) = some (bI (decide (f.2 ∉ (cvs pre).reverse ++ ctA cs k))) := by
  have hl9 := hC.2.1
  have hkl := (List.getElem?_eq_some_iff.mp hk).1
  have hTk := (hC.2.2 k c hk).2.2.2.2.2.2
  have hcap : ∀ m : Nat, ∀ d : kC, cs[m]? = some d → (kFs d).length ≤ 32 := fun m d hd => by
    have := (hC.2.2 m d hd).2.2.2.2.2.2.2.2.1
    unfold uCap at this
    split at this <;> omega
  have hck := hcap k c hk
  have hlen := congrArg List.length e
  rw [List.length_append, List.length_cons] at hlen
  -- the row itself
  have own : f.2 ∉ ctA cs k → ∀ (s2 s1 : List gF), pre = s1 ++ s2 → (∀ x ∈ s1, x.2 ≠ f.2) → F_isFirstContent_19 M (k : Int) (pre.length : Int) f.2 (k : Int) (s1.length : Int) = some (bI (decide (f.2 ∉ (cvs pre).reverse ++ ctA cs k))) := by
    intro hno s2
    induction s2 with
    | nil =>
      intro s1 e1 h1
      have l1 := congrArg List.length e1
      rw [List.append_nil] at e1 l1
      rw [eq_isFirstContent_19, if_neg (by omega), if_neg (by omega), gw32_id (by omega) (by omega), eq_isFirstContent_10, if_pos (by omega)]
      rw [decide_eq_true (show f.2 ∉ (cvs pre).reverse ++ ctA cs k from fun w => by
        rcases List.mem_append.mp w with w | w
        · rw [List.mem_reverse, cvs, e1, List.mem_map] at w
          obtain ⟨x, x1, x2⟩ := w
          exact h1 x x1 x2
        · exact hno w)]
      rfl
    | cons g r ih =>
      intro s1 e1 h1
      have l1 := congrArg List.length e1
      rw [List.length_append, List.length_cons] at l1
      rw [eq_isFirstContent_19, if_neg (by omega), if_pos (by omega), gI_bb (s_contentAt hTk (j := s1.length) (f := g) (by rw [e, e1, List.append_assoc]; exact at_mid rfl))]
      by_cases q : g.2 = f.2
      · rw [if_pos q, decide_eq_false (fun w => w (List.mem_append.mpr (Or.inl (by
          rw [List.mem_reverse, cvs, List.mem_map]
          exact ⟨g, by rw [e1]; simp, q⟩))))]
        rfl
      · rw [if_neg q, gw32_id (by omega) (by omega)]
        have := ih (s1 ++ [g]) (by rw [e1]; simp) (fun x hx => by
          rcases List.mem_append.mp hx with hx | hx
          · exact h1 x hx
          · rw [List.mem_singleton.mp hx]; exact q)
        rw [List.length_append] at this
        simpa using this
  have lp : ∀ (n m : Nat), m + n = k → f.2 ∉ ctA cs m → F_isFirstContent_10 M (k : Int) (pre.length : Int) f.2 (m : Int) = some (bI (decide (f.2 ∉ (cvs pre).reverse ++ ctA cs k))) := by
    intro n
    induction n with
    | zero =>
      intro m hm hno
      have : m = k := by omega
      subst this
      rw [eq_isFirstContent_10, if_neg (by omega)]
      exact own hno pre [] rfl (fun x hx => by cases hx)
    | succ n ih =>
      intro m hm hno
      have hml : m < cs.length := by omega
      have hd := List.getElem?_eq_getElem hml
      generalize cs[m] = d at hd
      have hTm := (hC.2.2 m d hd).2.2.2.2.2.2
      have hcd := hcap m d hd
      have hfd := fFs_at hd
      rw [eq_isFirstContent_10, if_neg (by omega)]
      have inn : ∀ (s2 s1 : List gF), kFs d = s1 ++ s2 → (∀ x ∈ s1, x.2 ≠ f.2) → F_isFirstContent_19 M (k : Int) (pre.length : Int) f.2 (m : Int) (s1.length : Int) = some (bI (decide (f.2 ∉ (cvs pre).reverse ++ ctA cs k))) := by
        intro s2
        induction s2 with
        | nil =>
          intro s1 e1 h1
          have l1 := congrArg List.length e1
          rw [List.append_nil] at e1 l1
          rw [eq_isFirstContent_19, if_pos (by omega), if_pos (by omega), hTm.2.1, if_neg (by omega), gw32_id (by omega) (by omega)]
          refine ih (m + 1) (by omega) (fun w => ?_)
          rcases List.mem_append.mp w with w | w
          · rw [List.mem_reverse, cvs, hfd, e1, List.mem_map] at w
            obtain ⟨x, x1, x2⟩ := w
            exact h1 x x1 x2
          · exact hno w
        | cons g r ih2 =>
          intro s1 e1 h1
          have l1 := congrArg List.length e1
          rw [List.length_append, List.length_cons] at l1
          rw [eq_isFirstContent_19, if_pos (by omega), if_pos (by omega), hTm.2.1, if_pos (by omega), gI_bb (s_contentAt hTm (j := s1.length) (f := g) (at_mid e1))]
          by_cases q : g.2 = f.2
          · rw [if_pos q, decide_eq_false (fun w => w (List.mem_append.mpr (Or.inr (ctA_mono (m := m + 1) (by
              refine List.mem_append.mpr (Or.inl ?_)
              rw [List.mem_reverse, cvs, hfd, List.mem_map]
              exact ⟨g, by rw [e1]; simp, q⟩) k (by omega)))))]
            rfl
          · rw [if_neg q, gw32_id (by omega) (by omega)]
            have := ih2 (s1 ++ [g]) (by rw [e1]; simp) (fun x hx => by
              rcases List.mem_append.mp hx with hx | hx
              · exact h1 x hx
              · rw [List.mem_singleton.mp hx]; exact q)
            rw [List.length_append] at this
            simpa using this
      exact inn (kFs d) [] rfl (fun x hx => by cases hx)
  rw [eq_isFirstContent, gI_bb (s_contentAt hTk (at_mid e))]
  exact lp k 0 (by omega) (fun w => by cases w)
theorem ctA_len {cs : List kC} (h : ∀ (m : Nat) (d : kC), cs[m]? = some d → (kFs d).length ≤ 16) : ∀ k : Nat, k ≤ cs.length → (ctA cs k).length ≤ 16 * k
  | 0, _ => Nat.le_refl _
  | k + 1, hk => by
    have ih := ctA_len h k (by omega)
    have hd := List.getElem?_eq_getElem (show k < cs.length by omega)
    have := h k _ hd
    show ((cvs (fFs cs k)).reverse ++ ctA cs k).length ≤ _
    rw [List.length_append, List.length_reverse, cvs, List.length_map, fFs_at hd]
    omega
theorem s_contents {M : gM} {cs : List kC} (hC : uC M cs) (h16 : ∀ (m : Nat) (d : kC), cs[m]? = some d → (kFs d).length ≤ 16) : F_contents M = some (ndc (ctA cs cs.length)) := by
  have hl9 := hC.2.1
  have lp : ∀ (n k : Nat), k + n = cs.length → F_contents_4 M (ndc (ctA cs k)) (k : Int) = some (ndc (ctA cs cs.length)) := by
    intro n
    induction n with
    | zero => intro k hk; rw [eq_contents_4, hC.1, if_neg (by omega), show k = cs.length by omega]
    | succ n ih =>
      intro k hk
      have hkl : k < cs.length := by omega
      have hc := List.getElem?_eq_getElem hkl
      generalize cs[k] = c at hc
      have hT := (hC.2.2 k c hc).2.2.2.2.2.2
      have h1 := h16 k c hc
      have hA := ctA_len h16 k (by omega)
      have hN := ndc_rng (ctA cs k)
      rw [eq_contents_4, hC.1, if_pos (by omega)]
      have inn : ∀ (s2 s1 : List gF), kFs c = s1 ++ s2 → F_contents_14 M (ndc ((cvs s1).reverse ++ ctA cs k)) (k : Int) (s1.length : Int) = some (ndc (ctA cs cs.length)) := by
        intro s2
        induction s2 with
        | nil =>
          intro s1 e1
          have l1 := congrArg List.length e1
          rw [List.append_nil] at e1 l1
          rw [eq_contents_14, if_pos (by omega), hT.2.1, if_neg (by omega), gw32_id (by omega) (by omega)]
          have := ih (k + 1) (by omega)
          rw [show ctA cs (k + 1) = (cvs (fFs cs k)).reverse ++ ctA cs k from rfl, fFs_at hc, e1] at this
          exact this
        | cons g r ih2 =>
          intro s1 e1
          have l1 := congrArg List.length e1
          rw [List.length_append, List.length_cons] at l1
          rw [eq_contents_14, if_pos (by omega), hT.2.1, if_pos (by omega), gI_bb (s_isFirstContent hC hc e1)]
          have := ih2 (s1 ++ [g]) (by rw [e1]; simp)
          rw [List.length_append, show cvs (s1 ++ [g]) = cvs s1 ++ [g.2] by unfold cvs; simp, List.reverse_append] at this
          rw [show ([g.2].reverse ++ (cvs s1).reverse ++ ctA cs k) = g.2 :: ((cvs s1).reverse ++ ctA cs k) by simp, ndc] at this
          have hN2 := ndc_rng ((cvs s1).reverse ++ ctA cs k)
          rw [List.length_append, List.length_reverse, cvs, List.length_map] at hN2
          rw [gw32_id (z := (s1.length : Int) + 1) (by omega) (by omega), gw32_id (z := ndc ((cvs s1).reverse ++ ctA cs k) + 1) (by unfold cvs; omega) (by unfold cvs; omega)]
          by_cases q : g.2 ∈ (cvs s1).reverse ++ ctA cs k
          · rw [decide_eq_false (fun w => w q), if_pos bIf]
            rw [if_pos q, Int.add_zero] at this
            simpa using this
          · rw [decide_eq_true q, if_neg bIt]
            rw [if_neg q] at this
            simpa using this
      exact inn (kFs c) [] rfl
  rw [eq_contents]
  exact lp cs.length 0 (by omega)
-- the class: the slots
def hsS (v : Int) (d : Nat) : Int := (v * 31 + (d : Int)) % 4096
def hsI (H : Int → Int) (A : List Int) : Prop := (∀ v ∈ A, v ≠ 0 ∧ ∃ d : Nat, d < 4096 ∧ H (hsS v d) = v ∧ ∀ e : Nat, e < d → H (hsS v e) ≠ 0) ∧ (∀ s : Int, 0 ≤ s → s < 4096 → H s ≠ 0 → H s ∈ A) ∧ cnt (fun j => decide (H (j : Int) ≠ 0)) 4096 = ndc A
theorem hsS_rng (v : Int) (d : Nat) : 0 ≤ hsS v d ∧ hsS v d < 4096 := by unfold hsS; omega
theorem cnt_all {f : Nat → Bool} : ∀ n : Nat, (∀ j, j < n → f j = true) → cnt f n = (n : Int)
  | 0, _ => rfl
  | n + 1, h => by rw [cnt_T (h n (by omega)), cnt_all n (fun j hj => h j (by omega))]; omega
theorem hs_free {H : Int → Int} {A : List Int} (h : hsI H A) (hl : A.length < 4096) (v : Int) : ∃ d : Nat, d < 4096 ∧ H (hsS v d) = 0 := by
  have hr := ndc_rng A
  have ex : ∃ j : Nat, j < 4096 ∧ H (j : Int) = 0 := by
    refine Classical.byContradiction (fun w => ?_)
    have := cnt_all (f := fun j => decide (H (j : Int) ≠ 0)) 4096 (fun j hj => decide_eq_true (fun e => w ⟨j, hj, e⟩))
    rw [h.2.2] at this
    omega
  obtain ⟨j, hj, e⟩ := ex
  refine ⟨(((j : Int) - v * 31) % 4096).toNat, by omega, ?_⟩
  rw [show hsS v (((j : Int) - v * 31) % 4096).toNat = (j : Int) by unfold hsS; omega]
  exact e
theorem hsI_up {H G : Int → Int} {A : List Int} {v : Int} {d : Nat} (h : hsI H A) (hv : v ≠ 0) (hA : v ∉ A) (hd : d < 4096) (h0 : H (hsS v d) = 0) (hf : ∀ e : Nat, e < d → H (hsS v e) ≠ 0) (hG : G (hsS v d) = v) (hG2 : ∀ s, s ≠ hsS v d → G s = H s) : hsI G (v :: A) := by
  have hr := hsS_rng v d
  obtain ⟨h1, h2, h3⟩ := h
  have nz : ∀ s, H s ≠ 0 → G s ≠ 0 := fun s hs => by
    rw [hG2 s (fun w => hs (by rw [w]; exact h0))]; exact hs
  refine ⟨fun u hu => ?_, fun s s0 s1 hs => ?_, ?_⟩
  · rcases List.mem_cons.mp hu with e | hu
    · subst e
      exact ⟨hv, d, hd, hG, fun e he => nz _ (hf e he)⟩
    · obtain ⟨u0, d2, a, b, c⟩ := h1 u hu
      refine ⟨u0, d2, a, ?_, fun e he => nz _ (c e he)⟩
      rw [hG2 _ (fun w => u0 (by rw [← b, w]; exact h0))]
      exact b
  · by_cases q : s = hsS v d
    · rw [q, hG]; exact List.mem_cons_self
    · rw [hG2 s q] at hs ⊢
      exact List.mem_cons_of_mem _ (h2 s s0 s1 hs)
  · rw [cnt_congr 4096 (g := fun j => decide (H (j : Int) ≠ 0) || decide (j = (hsS v d).toNat)) (fun j _ => ?_), cnt_put, h3, ndc, if_neg hA, if_pos ⟨by omega, by rw [Int.toNat_of_nonneg hr.1, h0]; rfl⟩]
    · by_cases q : (j : Int) = hsS v d
      · rw [q, hG, decide_eq_true hv, decide_eq_true (show j = (hsS v d).toNat by omega), Bool.or_true]
      · rw [hG2 _ q, decide_eq_false (show ¬ j = (hsS v d).toNat by omega), Bool.or_false]
theorem ss4096 : (Int32.ofInt 4095).toBitVec.toNat = 2 ^ 12 - 1 := by decide
theorem sp_X11_isNewContent {sh : gS} {M : gM} {v : Int} {A : List Int} (hOK : gOK sh M) (hH : hsI (M 474) A) (hl : A.length < 4096) (hv : 1 ≤ v ∧ v < 2000000) : gC (gr 0 0) yX11_isNewContent cX11_isNewContent 4 (some (.boolean)) [(4, 0), (0, v)] sh M (gPm sh (fun r M1 => r = some (0, bI (decide (v ∉ A))) ∧ gOK sh M1 ∧ (∀ b : Int, b ≠ 474 → M1 b = M b) ∧ (if v ∈ A then hsI (M1 474) A else hsI (M1 474) (v :: A)))) := by
  have h474 : gsh sh 474 = some (1, 4096) := gOK_sh hOK 474 rfl
  obtain ⟨d0, hd0, hz0⟩ := hs_free hH hl v
  refine w_X11_isNewContent hOK ?_
  have lp : ∀ (n d : Nat), d + n = d0 → (∀ e : Nat, e < d → M 474 (hsS v e) ≠ 0 ∧ M 474 (hsS v e) ≠ v) → P_X11_isNewContent_2 sh (gPm sh (fun r M1 => r = some (0, bI (decide (v ∉ A))) ∧ gOK sh M1 ∧ (∀ b : Int, b ≠ 474 → M1 b = M b) ∧ (if v ∈ A then hsI (M1 474) A else hsI (M1 474) (v :: A)))) v (d : Int) M := by
    intro n
    induction n with
    | zero =>
      intro d hd hno
      have : d = d0 := by omega
      subst this
      refine w_X11_isNewContent_2 hOK ?_
      have hs := hsS_rng v d
      rw [if_pos (by omega), gw32_id (z := v * 31) (by omega) (by omega), gw32_id (by omega) (by omega), gand_mask (by omega) (by omega) 12 4095 ss4096 (by decide)]
      rw [show (v * 31 + (d : Int)) % ((2 ^ 12 : Nat) : Int) = hsS v d from rfl]
      refine ⟨hs, ?_⟩
      rw [if_neg (by rw [hz0]; omega), if_pos hz0]
      have hA : v ∉ A := fun w => by
        obtain ⟨v0, d2, a, b, c⟩ := hH.1 v w
        rcases Nat.lt_trichotomy d2 d with y | y | y
        · exact (hno d2 y).2 b
        · rw [y, hz0] at b; omega
        · exact c d y hz0
      refine ⟨rfl, by rw [decide_eq_true hA]; rfl, gOK_i hOK h474, fun b hb => gU_cell _ _ _ hb, ?_⟩
      rw [if_neg hA]
      exact hsI_up hH (by omega) hA hd0 hz0 (fun e he => (hno e he).1) (gU_same _ _ _ _) (fun s hs => gU_idx hs)
    | succ n ih =>
      intro d hd hno
      refine w_X11_isNewContent_2 hOK ?_
      have hs := hsS_rng v d
      rw [if_pos (by omega), gw32_id (z := v * 31) (by omega) (by omega), gw32_id (z := v * 31 + (d : Int)) (by omega) (by omega), gand_mask (by omega) (by omega) 12 4095 ss4096 (by decide)]
      rw [show (v * 31 + (d : Int)) % ((2 ^ 12 : Nat) : Int) = hsS v d from rfl]
      refine ⟨hs, ?_⟩
      by_cases q : M 474 (hsS v d) = v
      · rw [if_pos q]
        have hA : v ∈ A := by
          have := hH.2.1 (hsS v d) hs.1 hs.2 (by rw [q]; omega)
          rw [q] at this; exact this
        refine ⟨rfl, by rw [decide_eq_false (fun w => w hA)]; rfl, hOK, fun _ _ => rfl, ?_⟩
        rw [if_pos hA]; exact hH
      · rw [if_neg q]
        by_cases q2 : M 474 (hsS v d) = 0
        · rw [if_pos q2]
          have hA : v ∉ A := fun w => by
            obtain ⟨v0, d2, a, b, c⟩ := hH.1 v w
            rcases Nat.lt_trichotomy d2 d with y | y | y
            · exact (hno d2 y).2 b
            · rw [y] at b; exact q b
            · exact c d y q2
          refine ⟨rfl, by rw [decide_eq_true hA]; rfl, gOK_i hOK h474, fun b hb => gU_cell _ _ _ hb, ?_⟩
          rw [if_neg hA]
          exact hsI_up hH (by omega) hA (by omega) q2 (fun e he => (hno e he).1) (gU_same _ _ _ _) (fun s hs => gU_idx hs)
        · rw [if_neg q2, gw32_id (by omega) (by omega)]
          exact ih (d + 1) (by omega) (fun e he => by
            by_cases y : e = d
            · rw [y]; exact ⟨q2, q⟩
            · exact hno e (by omega))
  exact lp d0 0 (by omega) (fun e he => by omega)
theorem ndc_in : ∀ (ys A : List Int), (∀ y ∈ ys, y ∈ A) → ndc (ys ++ A) = ndc A
  | [], _, _ => rfl
  | y :: r, A, h => by
    show ndc (r ++ A) + (if y ∈ r ++ A then 0 else 1) = _
    rw [if_pos (List.mem_append.mpr (Or.inr (h y List.mem_cons_self))), ndc_in r A (fun x hx => h x (List.mem_cons_of_mem _ hx))]
    exact Int.add_zero _
theorem hsI_congr {H : Int → Int} {A B : List Int} (h : hsI H A) (h1 : ∀ v, v ∈ A ↔ v ∈ B) (h2 : ndc A = ndc B) : hsI H B :=
  ⟨fun v hv => h.1 v ((h1 v).mpr hv), fun s s0 s1 hs => (h1 _).mp (h.2.1 s s0 s1 hs), by rw [h.2.2, h2]⟩
theorem sp_X11_unlikeContents {sh : gS} {M : gM} {z : aS} (hz : cS sh M z) (hO : kOk (aCs z)) : gC (gr 1 23) yX11_unlikeContents cX11_unlikeContents 5 (some (.int)) [(4, 0)] sh M (cPo sh M 0 (ndc (ctA (aCs z) (aCs z).length)) z) := by
  obtain ⟨hOK, hC, -⟩ := id hz
  have hl9 := hC.2.1
  have h16 : ∀ (m : Nat) (d : kC), (aCs z)[m]? = some d → (kFs d).length ≤ 16 := fun m d hd => (hO m d hd).1.2.2.2.2.2.2
  refine w_X11_unlikeContents hOK ⟨_, sp_J7_fill (n := 4096) hOK (gOK_sh hOK 474 rfl) (by decide) (by decide), fun r1 M0 hP1 => ?_⟩
  obtain ⟨rfl, f1, f2, f3⟩ := hP1
  refine ⟨rfl, f2, ?_⟩
  have st0 : hsI (M0 474) [] := ⟨fun v hv => (by cases hv), fun s s0 s1 hs => absurd (f1 s s0 s1) hs, cnt_no 4096 (fun j hj => by rw [f1 (j : Int) (by omega) (by omega)]; rfl)⟩
  have lp : ∀ (n k : Nat) (M1 : gM), k + n = (aCs z).length → gOK sh M1 → (∀ b : Int, b ≠ 474 → M1 b = M b) → hsI (M1 474) (ctA (aCs z) k) → P_X11_unlikeContents_12 sh (cPo sh M 0 (ndc (ctA (aCs z) (aCs z).length)) z) (ndc (ctA (aCs z) k)) (k : Int) M1 := by
    intro n
    induction n with
    | zero =>
      intro k M1 hk hO1 hf hH
      have hkk : k = (aCs z).length := by omega
      refine w_X11_unlikeContents_12 hO1 ?_
      have hz1 : cS sh M1 z := cS_keep hz hO1 (fun b hb => hf b (by omega))
      rw [hz1.2.1.1, if_neg (by omega), hkk]
      exact ⟨rfl, rfl, hz1, fun b hb => hf b (by omega)⟩
    | succ n ih =>
      intro k M1 hk hO1 hf hH
      have hkl : k < (aCs z).length := by omega
      have hc := List.getElem?_eq_getElem hkl
      generalize (aCs z)[k] = c at hc
      have hz1 : cS sh M1 z := cS_keep hz hO1 (fun b hb => hf b (by omega))
      have hC1 := hz1.2.1
      obtain ⟨-, -, h7, -⟩ := hC.2.2.2 k c hc
      have hfc := fFs_at hc
      have hW := (hO k c hc).2.1
      have h1 := h16 k c hc
      have hA := ctA_len h16 k (by omega)
      have hN := ndc_rng (ctA (aCs z) k)
      have hcT : cT M1 (k : Int) = cT M (k : Int) := by unfold cT; rw [hf 7 (by decide)]
      refine w_X11_unlikeContents_12 hO1 ?_
      rw [hC1.1, if_pos (by omega)]
      refine ⟨_, sp_X1_tree hO1 hC1 hc, ?_⟩
      rw [hcT]
      obtain ⟨t0, t1, t2⟩ := cT_rng hC hc
      have hA1 : ctA (aCs z) (k + 1) = (cvs (kFs c)).reverse ++ ctA (aCs z) k := by rw [ctA, hfc]
      by_cases q : M 7 (k : Int) = (k : Int)
      · have inn : ∀ (s2 s1 : List gF) (M2 : gM), kFs c = s1 ++ s2 → gOK sh M2 → (∀ b : Int, b ≠ 474 → M2 b = M b) → hsI (M2 474) ((cvs s1).reverse ++ ctA (aCs z) k) → P_X11_unlikeContents_35 sh (cPo sh M 0 (ndc (ctA (aCs z) (aCs z).length)) z) (ndc ((cvs s1).reverse ++ ctA (aCs z) k)) (k : Int) (cT M (k : Int)) (s1.length : Int) M2 := by
          intro s2
          induction s2 with
          | nil =>
            intro s1 M2 e1 hO2 hf2 hH2
            have l1 := congrArg List.length e1
            rw [List.append_nil] at e1 l1
            refine w_X11_unlikeContents_35 hO2 ⟨by omega, ?_⟩
            rw [hf2 7 (by decide), if_pos q]
            refine ⟨⟨t2.1.1, by have := t2.1.2.2.2; exact this⟩, ?_⟩
            rw [hf2 (cT M (k : Int)) (by unfold cT; omega), t2.2.2.1.2.1, if_neg (by omega), gw32_id (by omega) (by omega)]
            have := ih (k + 1) M2 (by omega) hO2 hf2 (by rw [hA1, e1]; exact hH2)
            rw [hA1, e1] at this
            exact this
          | cons g r ih2 =>
            intro s1 M2 e1 hO2 hf2 hH2
            have l1 := congrArg List.length e1
            rw [List.length_append, List.length_cons] at l1
            have hg := (hW g (by rw [e1]; simp)).2
            refine w_X11_unlikeContents_35 hO2 ⟨by omega, ?_⟩
            rw [hf2 7 (by decide), if_pos q]
            refine ⟨⟨t2.1.1, by have := t2.1.2.2.2; exact this⟩, ?_⟩
            rw [hf2 (cT M (k : Int)) (by unfold cT; omega), t2.2.2.1.2.1, if_pos (by omega)]
            have hgv := (t2.2.2.1.2.2 s1.length g (at_mid e1)).2.1
            rw [Int.zero_add] at hgv
            refine ⟨_, t2.1.2.2.1, ⟨by omega, by omega⟩, ?_⟩
            rw [hf2 (cT M (k : Int) + 2) (by unfold cT; omega), hgv]
            have hlen2 : ((cvs s1).reverse ++ ctA (aCs z) k).length < 4096 := by
              rw [List.length_append, List.length_reverse, cvs, List.length_map]; omega
            have hN2 := ndc_rng ((cvs s1).reverse ++ ctA (aCs z) k)
            refine ⟨_, sp_X11_isNewContent hO2 hH2 hlen2 ⟨by omega, hg.2⟩, fun r3 M3 hP3 => ?_⟩
            obtain ⟨rfl, b1, b2, b3⟩ := hP3
            refine ⟨_, rfl, b1, ?_⟩
            have f3' : ∀ b : Int, b ≠ 474 → M3 b = M b := fun b hb => by rw [b2 b hb]; exact hf2 b hb
            have nx := ih2 (s1 ++ [g]) M3 (by rw [e1]; simp) b1 f3'
            rw [List.length_append, show cvs (s1 ++ [g]) = cvs s1 ++ [g.2] by unfold cvs; simp, List.reverse_append, show ([g.2].reverse ++ (cvs s1).reverse ++ ctA (aCs z) k) = g.2 :: ((cvs s1).reverse ++ ctA (aCs z) k) by simp, ndc] at nx
            rw [gw32_id (z := (s1.length : Int) + 1) (by omega) (by omega), gw32_id (z := ndc ((cvs s1).reverse ++ ctA (aCs z) k) + 1) (by omega) (by omega)]
            by_cases y : g.2 ∈ (cvs s1).reverse ++ ctA (aCs z) k
            · rw [decide_eq_false (fun w => w y), if_pos bIf]
              rw [if_pos y] at b3
              rw [if_pos y, Int.add_zero] at nx
              have := nx (hsI_congr b3 (fun v => ⟨fun w => List.mem_cons_of_mem _ w, fun w => by
                rcases List.mem_cons.mp w with w | w
                · rw [w]; exact y
                · exact w⟩) (by rw [ndc, if_pos y, Int.add_zero]))
              simpa using this
            · rw [decide_eq_true y, if_neg bIt]
              rw [if_neg y] at b3
              rw [if_neg y] at nx
              have := nx b3
              simpa using this
        exact inn (kFs c) [] M1 rfl hO1 hf hH
      · refine w_X11_unlikeContents_35 hO1 ⟨by omega, ?_⟩
        rw [hf 7 (by decide), if_neg q, gw32_id (by omega) (by omega)]
        -- an earlier one has the same TREE
        have sub : ∀ y ∈ (cvs (kFs c)).reverse, y ∈ ctA (aCs z) k := fun y hy => by
          rcases kLow_sp (kFs c) (aCs z) 0 with ⟨-, a⟩ | ⟨j, d, a, b, e, -⟩
          · exact absurd rfl (a c (List.mem_of_getElem? hc))
          · have hj := kLow_at hc
            obtain ⟨j2, j3, j4⟩ := hj
            have hjk : j < k := by rw [h7] at q; omega
            refine ctA_mono (m := j + 1) (List.mem_append.mpr (Or.inl ?_)) k (by omega)
            rw [fFs_at a, b]
            exact hy
        have e1 : ndc (ctA (aCs z) (k + 1)) = ndc (ctA (aCs z) k) := by rw [hA1]; exact ndc_in _ _ sub
        have := ih (k + 1) M1 (by omega) hO1 hf (hsI_congr hH (fun v => by
          rw [hA1, List.mem_append]
          exact ⟨Or.inr, fun w => by
            rcases w with w | w
            · exact sub v w
            · exact w⟩) e1.symm)
        rw [e1] at this
        exact this
  exact lp (aCs z).length 0 M0 (by omega) f2 f3 st0
-- count itself
def aCount (z : aS) (w : Int) : Int := if w = 0 then ((aCs z).length : Int) else if w = 1 then ((aTp z).length : Int) else if w = 2 then cnt (trQ (aCs z)) (aCs z).length else if w = 3 then ndc (ctA (aCs z) (aCs z).length) else if w = 4 then ((((aPl z 0).2.1 0 + (aPl z 1).2.1 0) + (aPl z 2).2.1 0) + (aPl z 3).2.1 0) else if w = 5 then (((((aRs z 0).length : Int) + ((aRs z 1).length : Int)) + ((aRs z 2).length : Int)) + ((aRs z 3).length : Int)) else -1
theorem s_count {M : gM} {z : aS} {w : Int} (hz : uSt M z) (hO : kOk (aCs z)) (hR : uRs M ((aCs z).length : Int) (aRs z)) : F_count M w = some (aCount z w) := by
  obtain ⟨hC, hB, -, hP, -⟩ := id hz
  have hl9 := hC.2.1
  have h16 : ∀ (m : Nat) (d : kC), (aCs z)[m]? = some d → (kFs d).length ≤ 16 := fun m d hd => (hO m d hd).1.2.2.2.2.2.2
  unfold aCount
  rw [eq_count]
  by_cases w0 : w = 0
  · rw [if_pos w0, if_pos w0, hC.1]
  rw [if_neg w0, if_neg w0]
  by_cases w1 : w = 1
  · rw [if_pos w1, if_pos w1, hB.1]
  rw [if_neg w1, if_neg w1]
  by_cases w2 : w = 2
  · rw [if_pos w2, if_pos w2, gI_bb (s_trees hC)]
  rw [if_neg w2, if_neg w2]
  by_cases w3 : w = 3
  · rw [if_pos w3, if_pos w3, gI_bb (s_contents hC h16)]
  rw [if_neg w3, if_neg w3]
  by_cases w4 : w = 4
  · rw [if_pos w4, if_pos w4]
    have p0 := hP 0 (by decide) (by decide)
    have p1 := hP 1 (by decide) (by decide)
    have p2 := hP 2 (by decide) (by decide)
    have p3 := hP 3 (by decide) (by decide)
    have q0 := p0.2.1; have q1 := p1.2.1; have q2 := p2.2.1; have q3 := p3.2.1
    have r0 := p0.1; have r1 := p1.1; have r2 := p2.1; have r3 := p3.1
    have e : ∀ x : Int, 0 ≤ x → x < 4 → gw32 (gw32 (68 * x) + 0) = 68 * x := fun x x0 x1 => by rw [gw32_id (z := 68 * x) (by omega) (by omega), gw32_id (by omega) (by omega), Int.add_zero]
    rw [eq_count_64, if_pos (by decide), e 0 (by decide) (by decide), if_pos (by decide), r0, gw32_id (z := 0 + 1) (by decide) (by decide), gw32_id (by omega) (by omega)]
    rw [eq_count_64, if_pos (by decide), show (0 : Int) + 1 = 1 from rfl, e 1 (by decide) (by decide), if_pos (by decide), r1, gw32_id (z := 1 + 1) (by decide) (by decide), gw32_id (by omega) (by omega)]
    rw [eq_count_64, if_pos (by decide), show (1 : Int) + 1 = 2 from rfl, e 2 (by decide) (by decide), if_pos (by decide), r2, gw32_id (z := 2 + 1) (by decide) (by decide), gw32_id (by omega) (by omega)]
    rw [eq_count_64, if_pos (by decide), show (2 : Int) + 1 = 3 from rfl, e 3 (by decide) (by decide), if_pos (by decide), r3, gw32_id (z := 3 + 1) (by decide) (by decide), gw32_id (by omega) (by omega)]
    rw [eq_count_64, if_neg (by decide), Int.zero_add]
  rw [if_neg w4, if_neg w4]
  by_cases w5 : w = 5
  · rw [if_pos w5, if_pos w5]
    obtain ⟨a0, b0, c0⟩ := hR 0 (by decide) (by decide)
    obtain ⟨a1, b1, c1⟩ := hR 1 (by decide) (by decide)
    obtain ⟨a2, b2, c2⟩ := hR 2 (by decide) (by decide)
    obtain ⟨a3, b3, c3⟩ := hR 3 (by decide) (by decide)
    rw [gI_bb (s_refs a0 b0 (by decide)), gI_bb (s_refs a1 b1 (by decide)), gI_bb (s_refs a2 b2 (by decide)), gI_bb (s_refs a3 b3 (by decide))]
    simp (disch := omega) only [gw32_id]
  rw [if_neg w5, if_neg w5]
theorem sp_X11_count {sh : gS} {M : gM} {z : aS} {w : Int} (hz : cS sh M z) (hO : kOk (aCs z)) (hP : ∀ p : Int, 0 ≤ p → p < 4 → plGd (aPl z p)) : gC (gr 2 47) yX11_count cX11_count 4 (some (.int)) [(4, 0), (0, w)] sh M (cPo sh M 0 (aCount z w) z) := by
  obtain ⟨hOK, hC, ⟨hB, hL⟩, hRs, hPl, -⟩ := id hz
  have hl9 := hC.2.1
  unfold aCount
  refine w_X11_count hOK ?_
  by_cases w0 : w = 0
  · rw [if_pos w0, if_pos w0]; exact cPo_same hz hC.1
  rw [if_neg w0, if_neg w0]
  by_cases w1 : w = 1
  · rw [if_pos w1, if_pos w1]; exact cPo_same hz hL
  rw [if_neg w1, if_neg w1]
  by_cases w2 : w = 2
  · rw [if_pos w2, if_pos w2]
    exact ⟨_, sp_X1_unlikeTrees hOK hC, cPo_same hz (trQ_cls hC)⟩
  rw [if_neg w2, if_neg w2]
  by_cases w3 : w = 3
  · rw [if_pos w3, if_pos w3]
    refine ⟨_, sp_X11_unlikeContents hz hO, fun r2 M2 hP2 => ?_⟩
    obtain ⟨rfl, c1, c2⟩ := hP2
    exact ⟨_, rfl, c1.1, rfl, rfl, c1, c2⟩
  rw [if_neg w3, if_neg w3]
  by_cases w4 : w = 4
  · rw [if_pos w4, if_pos w4]
    have t : ∀ p : Int, 0 ≤ p → p < 4 → (gsh sh (519 + 48 * p) = some (0, 6) ∧ (519 + 48 * p) < 758) ∧ M (519 + 48 * p) 0 = (aPl z p).2.1 0 ∧ ((aPl z p).2.1 0 = 0 ∨ (aPl z p).2.1 0 = 1) := fun p p0 p1 => by
      have h := (hPl p p0 p1).1
      exact ⟨⟨h.1.1, by omega⟩, h.2.2.2.1 0 (Or.inl (by decide)), (hP p p0 p1).1⟩
    have go : ∀ (x y : Int), 0 ≤ x → x < 4 → 0 ≤ y → y < 100 → P_X11_count_71 sh (cPo sh M 0 ((((aPl z 0).2.1 0 + (aPl z 1).2.1 0) + (aPl z 2).2.1 0) + (aPl z 3).2.1 0) z) w (y + (aPl z x).2.1 0) (x + 1) M → P_X11_count_71 sh (cPo sh M 0 ((((aPl z 0).2.1 0 + (aPl z 1).2.1 0) + (aPl z 2).2.1 0) + (aPl z 3).2.1 0) z) w y x M := fun x y x0 x1 y0 y1 h => by
      obtain ⟨t1, t2, t3⟩ := t x x0 x1
      refine w_X11_count_71 hOK ?_
      rw [if_pos x1]
      refine ⟨⟨x0, x1⟩, t1, ?_⟩
      rw [t2]
      simp (disch := omega) only [gw32_id]
      rcases t3 with e | e
      · rw [if_pos e]; rw [e] at h; exact h
      · rw [if_neg (by omega)]; rw [e] at h; exact h
    have t0 := (t 0 (by decide) (by decide)).2.2
    have t1 := (t 1 (by decide) (by decide)).2.2
    have t2 := (t 2 (by decide) (by decide)).2.2
    refine go 0 0 (by decide) (by decide) (by decide) (by decide) ?_
    refine go 1 _ (by decide) (by decide) (by omega) (by omega) ?_
    refine go 2 _ (by decide) (by decide) (by omega) (by omega) ?_
    refine go 3 _ (by decide) (by decide) (by omega) (by omega) ?_
    refine w_X11_count_71 hOK ?_
    rw [if_neg (by decide)]
    exact cPo_same hz (by omega)
  rw [if_neg w4, if_neg w4]
  by_cases w5 : w = 5
  · rw [if_pos w5, if_pos w5]
    have t : ∀ p : Int, 0 ≤ p → p < 4 → (gsh sh (479 + 10 * p) = some (0, 8) ∧ (479 + 10 * p) < 758) ∧ M (479 + 10 * p) 0 = ((aRs z p).length : Int) ∧ (aRs z p).length ≤ 16 := fun p p0 p1 => by
      have h := (hRs p p0 p1).1
      exact ⟨⟨h.1.1, by omega⟩, h.2.2.1, h.2.1⟩
    have go : ∀ (x y : Int), 0 ≤ x → x < 4 → 0 ≤ y → y < 100 → P_X11_count_106 sh (cPo sh M 0 (((((aRs z 0).length : Int) + ((aRs z 1).length : Int)) + ((aRs z 2).length : Int)) + ((aRs z 3).length : Int)) z) w (y + ((aRs z x).length : Int)) (x + 1) M → P_X11_count_106 sh (cPo sh M 0 (((((aRs z 0).length : Int) + ((aRs z 1).length : Int)) + ((aRs z 2).length : Int)) + ((aRs z 3).length : Int)) z) w y x M := fun x y x0 x1 y0 y1 h => by
      obtain ⟨t1, t2, t3⟩ := t x x0 x1
      refine w_X11_count_106 hOK ?_
      rw [if_pos x1]
      refine ⟨⟨x0, x1⟩, t1, ?_⟩
      rw [t2]
      simp (disch := omega) only [gw32_id]
      exact h
    have t0 := (t 0 (by decide) (by decide)).2.2
    have t1 := (t 1 (by decide) (by decide)).2.2
    have t2 := (t 2 (by decide) (by decide)).2.2
    refine go 0 0 (by decide) (by decide) (by decide) (by decide) ?_
    refine go 1 _ (by decide) (by decide) (by omega) (by omega) ?_
    refine go 2 _ (by decide) (by decide) (by omega) (by omega) ?_
    refine go 3 _ (by decide) (by decide) (by omega) (by omega) ?_
    refine w_X11_count_106 hOK ?_
    rw [if_neg (by decide)]
    exact cPo_same hz (by omega)
  rw [if_neg w5, if_neg w5]
  exact cPo_same hz rfl
