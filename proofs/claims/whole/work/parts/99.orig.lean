-- ==== origin: as a function; the reference
def osA (cs : List kC) (w : Int) : List Int → Option (Int × Int)
  | [] => none
  | p :: r => if tFind w (fFs cs p.toNat) 0 = -1 then osA cs w r else some (p, tFind w (fFs cs p.toNat) 0)
def pwF (i : Int) : List (Int × Int) → Int
  | [] => -1
  | p :: r => if p.2 = i then p.1 else pwF i r
def osB (cs : List kC) (k : Nat) (i : Int) : List Int → Option (Int × Int)
  | [] => none
  | p :: r => if pwF i (prF (fFs cs p.toNat) (fFs cs k)) = -1 then osB cs k i r else some (p, pwF i (prF (fFs cs p.toNat) (fFs cs k)))
def pthAt (fs : List gF) (i : Int) : Int := match fs[i.toNat]? with
  | some f => f.1
  | none => 0
/-- one step back: where to, by its PATH (0) or RENAMED (1) -/
def osN (cs : List kC) (k : Nat) (i : Int) : Option (Int × Int × Int) := match osA cs (pthAt (fFs cs k) i) (fPs cs k) with
  | some q => some (q.1, q.2, 0)
  | none => match osB cs k i (fPs cs k) with
    | some q => some (q.1, q.2, 1)
    | none => none
abbrev oS : Type := Nat × Int × Int × Int × Int
def orN (cs : List kC) (s : oS) (q : Int × Int × Int) : oS := (q.1.toNat, q.2.1, s.2.2.1 + (if tC (fFs cs s.1) s.2.1 = tC (fFs cs q.1.toNat) q.2.1 then 0 else 1), s.2.2.2.1 + q.2.2, gfl (FP.fmul (gu s.2.2.2.2) (gu (lkF (tC (fFs cs q.1.toNat) q.2.1) (tC (fFs cs s.1) s.2.1)))))
def orG (cs : List kC) : Nat → oS → oS
  | 0, s => s
  | n + 1, s => match osN cs s.1 s.2.1 with
    | some q => orG cs n (orN cs s q)
    | none => s
def orV (s : oS) (w : Int) : Int := if w = 0 then (s.1 : Int) else if w = 1 then s.2.1 else if w = 2 then s.2.2.1 else if w = 3 then s.2.2.2.1 else bitV s.2.2.2.2
def aOrigin (z : aS) (k i w : Int) : Int := if bC (aCs z) k = true ∧ (0 ≤ i ∧ i ≤ 15) ∧ (0 ≤ w ∧ w ≤ 4) then (if i < ((fFs (aCs z) k.toNat).length : Int) then orV (orG (aCs z) (k.toNat + 1) (k.toNat, i, 0, 0, gfl FP.fconst1)) w else -4) else -1
theorem pthAt_at {fs : List gF} {i : Nat} {f : gF} (h : fs[i]? = some f) : pthAt fs (i : Int) = f.1 := by unfold pthAt; rw [Int.toNat_natCast, h]
theorem pwF_mem {i : Int} : ∀ {ps : List (Int × Int)}, pwF i ps ≠ -1 → (pwF i ps, i) ∈ ps
  | [], h => absurd rfl h
  | p :: r, h => by
    rw [pwF] at h ⊢
    by_cases e : p.2 = i
    · rw [if_pos e, ← e]; exact List.mem_cons_self
    · rw [if_neg e] at h ⊢
      exact List.mem_cons_of_mem _ (pwF_mem h)
theorem osA_at {cs : List kC} {w : Int} : ∀ {ps : List Int} {q : Int × Int}, osA cs w ps = some q → q.1 ∈ ps ∧ ∃ (j : Nat) (f : gF), q.2 = (j : Int) ∧ (fFs cs q.1.toNat)[j]? = some f
  | [], _, h => by cases h
  | p :: r, q, h => by
    rw [osA] at h
    by_cases e : tFind w (fFs cs p.toNat) 0 = -1
    · rw [if_pos e] at h
      obtain ⟨a, b⟩ := osA_at h
      exact ⟨List.mem_cons_of_mem _ a, b⟩
    · rw [if_neg e] at h
      cases h
      rcases tFind_spec w (fFs cs p.toNat) 0 (by decide) with ⟨a, -⟩ | ⟨j, f, a, b, c, -⟩
      · exact absurd a e
      · exact ⟨List.mem_cons_self, j, f, by show tFind w (fFs cs p.toNat) 0 = (j : Int); omega, a⟩
theorem osB_at {cs : List kC} {k : Nat} {i : Int} : ∀ {ps : List Int} {q : Int × Int}, osB cs k i ps = some q → q.1 ∈ ps ∧ ∃ (j : Nat) (f : gF), q.2 = (j : Int) ∧ (fFs cs q.1.toNat)[j]? = some f
  | [], _, h => by cases h
  | p :: r, q, h => by
    rw [osB] at h
    by_cases e : pwF i (prF (fFs cs p.toNat) (fFs cs k)) = -1
    · rw [if_pos e] at h
      obtain ⟨a, b⟩ := osB_at h
      exact ⟨List.mem_cons_of_mem _ a, b⟩
    · rw [if_neg e] at h
      cases h
      obtain ⟨u, v, f, g, a1, a2, a3⟩ := prF_at (pwF_mem e)
      have := congrArg Prod.fst a3
      exact ⟨List.mem_cons_self, u, f, this, a1⟩
theorem osN_at {cs : List kC} {k : Nat} {i : Int} {q : Int × Int × Int} (h : osN cs k i = some q) : q.1 ∈ fPs cs k ∧ (q.2.2 = 0 ∨ q.2.2 = 1) ∧ ∃ (j : Nat) (f : gF), q.2.1 = (j : Int) ∧ (fFs cs q.1.toNat)[j]? = some f := by
  unfold osN at h
  cases ha : osA cs (pthAt (fFs cs k) i) (fPs cs k) with
  | some r =>
    rw [ha] at h
    cases h
    obtain ⟨a, b⟩ := osA_at ha
    exact ⟨a, Or.inl rfl, b⟩
  | none =>
    rw [ha] at h
    cases hb : osB cs k i (fPs cs k) with
    | some r =>
      rw [hb] at h
      cases h
      obtain ⟨a, b⟩ := osB_at hb
      exact ⟨a, Or.inr rfl, b⟩
    | none => rw [hb] at h; cases h
/-- what the reference may write on the way -/
def orF (M M1 : gM) : Prop := (∀ b : Int, b ≠ 711 → b ≠ 750 → b ≠ 751 → b ≠ 752 → M1 b = M b) ∧ ∀ f : Int, f < 59 ∨ 64 < f → M1 711 f = M 711 f
theorem orF_refl (M : gM) : orF M M := ⟨fun _ _ _ _ _ => rfl, fun _ _ => rfl⟩
theorem orF_trans {M M1 M2 : gM} (h1 : orF M M1) (h2 : orF M1 M2) : orF M M2 := ⟨fun b b0 b1 b2 b3 => (h2.1 b b0 b1 b2 b3).trans (h1.1 b b0 b1 b2 b3), fun f hf => (h2.2 f hf).trans (h1.2 f hf)⟩
theorem orF_f {M : gM} {f v : Int} (h : 59 ≤ f ∧ f ≤ 64) : orF M (gU M 711 f v) := ⟨fun b b0 _ _ _ => gU_cell _ _ _ b0, fun g hg => gU_idx (by omega)⟩
theorem orF_750 {M M1 : gM} (h : ∀ b : Int, b ≠ 750 → M1 b = M b) : orF M M1 := ⟨fun b _ b1 _ _ => h b b1, fun f _ => by rw [h 711 (by decide)]⟩
theorem uSt_or {M M1 : gM} {z : aS} (h : uSt M z) (hf : orF M M1) : uSt M1 z :=
  uSt_keep (A := [750, 751, 752]) (F := [59, 60, 61, 62, 63, 64]) h ⟨fun b hb hb2 => hf.1 b hb2 (fun w => hb (by rw [w]; simp)) (fun w => hb (by rw [w]; simp)) (fun w => hb (by rw [w]; simp)), fun f hf2 => hf.2 f (by simp at hf2; omega)⟩ (fun b hb => by
    rcases List.mem_cons.mp hb with e | hb
    · omega
    · rcases List.mem_cons.mp hb with e | hb
      · omega
      · rw [List.mem_singleton.mp hb]; omega) (by decide)
/-- where the reference stands -/
def orA (M : gM) (s : oS) : Prop := M 711 60 = (s.1 : Int) ∧ M 711 61 = s.2.1 ∧ M 711 62 = s.2.2.1 ∧ M 711 63 = s.2.2.2.1 ∧ M 711 64 = s.2.2.2.2
/-- what a place is -/
def orOk (cs : List kC) (s : oS) : Prop := s.1 < cs.length ∧ (∃ (j : Nat) (f : gF), s.2.1 = (j : Int) ∧ (fFs cs s.1)[j]? = some f) ∧ (0 ≤ s.2.2.1 ∧ s.2.2.1 + (s.1 : Int) ≤ 119) ∧ (0 ≤ s.2.2.2.1 ∧ s.2.2.2.1 + (s.1 : Int) ≤ 119) ∧ ∃ n, f01 s.2.2.2.2 n
theorem fFs_ten {cs : List kC} (hT : kTen cs) {k j : Nat} {f : gF} (h : (fFs cs k)[j]? = some f) : cRg f.2 := by
  unfold fFs at h
  cases hk : cs[k]? with
  | none => rw [hk] at h; cases h
  | some c => rw [hk] at h; exact hT c (List.mem_of_getElem? hk) f (List.mem_of_getElem? h)
theorem orN_ok {cs : List kC} (hO : kOk cs) (hT : kTen cs) {s : oS} {q : Int × Int × Int} (hs : orOk cs s) (h : osN cs s.1 s.2.1 = some q) : orOk cs (orN cs s q) ∧ (orN cs s q).1 < s.1 ∧ ((q.1.toNat : Nat) : Int) = q.1 := by
  obtain ⟨a, b, j, f, c, d⟩ := osN_at h
  obtain ⟨s1, ⟨j0, f0, s2, s3⟩, s4, s5, nn, s6⟩ := hs
  have hp := (dag_anc hO).1 s.1 s1 q.1 a
  have cf := fFs_ten hT d
  have cf0 := fFs_ten hT s3
  have e1 : tC (fFs cs q.1.toNat) q.2.1 = f.2 := by rw [c]; exact tC_at d
  have e0 : tC (fFs cs s.1) s.2.1 = f0.2 := by rw [s2]; exact tC_at s3
  obtain ⟨⟨mm, hm⟩, -⟩ := lk_01 cf cf0
  obtain ⟨kk, hk, -⟩ := f01_mul s6 hm
  refine ⟨⟨by show q.1.toNat < _; omega, ⟨j, f, c, d⟩, ?_, ?_, kk, ?_⟩, by show q.1.toNat < _; omega, by omega⟩
  · show 0 ≤ s.2.2.1 + _ ∧ s.2.2.1 + _ + ((q.1.toNat : Nat) : Int) ≤ 119
    split <;> omega
  · show 0 ≤ s.2.2.2.1 + q.2.2 ∧ s.2.2.2.1 + q.2.2 + ((q.1.toNat : Nat) : Int) ≤ 119
    omega
  · show f01 (gfl (FP.fmul (gu s.2.2.2.2) (gu (lkF (tC (fFs cs q.1.toNat) q.2.1) (tC (fFs cs s.1) s.2.1))))) kk
    rw [e1, e0]; exact hk
theorem s_steps {M : gM} {z : aS} {s : oS} {q : Int × Int × Int} (hz : uSt M z) (hO : kOk (aCs z)) (hT : kTen (aCs z)) (hA : orA M s) (hs : orOk (aCs z) s) (h : osN (aCs z) s.1 s.2.1 = some q) : ∃ M1, F_steps M q.1 q.2.1 q.2.2 = some M1 ∧ orA M1 (orN (aCs z) s q) ∧ orF M M1 := by
  obtain ⟨a, b, j, f, c, d⟩ := osN_at h
  obtain ⟨n1, n2, n3⟩ := orN_ok hO hT hs h
  obtain ⟨s1, ⟨j0, f0, s2, s3⟩, s4, s5, nn, s6⟩ := hs
  obtain ⟨a1, a2, a3, a4, a5⟩ := hA
  have hl9 := hz.1.2.1
  have cf := fFs_ten hT d
  have cf0 := fFs_ten hT s3
  have e1 : tC (fFs (aCs z) q.1.toNat) q.2.1 = f.2 := by rw [c]; exact tC_at d
  have e0 : tC (fFs (aCs z) s.1) s.2.1 = f0.2 := by rw [s2]; exact tC_at s3
  have uTk : ∀ k : Nat, k < (aCs z).length → uT M (k : Int) (fFs (aCs z) k) := fun k hk => by
    have hc := List.getElem?_eq_getElem hk
    rw [fFs_at hc]; exact (hz.1.2.2 k _ hc).2.2.2.2.2.2
  have u1 := uTk s.1 s1
  have u2 := uTk q.1.toNat n1.1
  rw [n3] at u2
  obtain ⟨⟨mm, hm⟩, -⟩ := lk_01 cf cf0
  obtain ⟨kk, hk, hg⟩ := f01_mul s6 hm
  have r1 : F_contentAt M (M 711 60) (M 711 61) = some f0.2 := by rw [a1, a2, s2]; exact s_contentAt u1 s3
  have r2 : F_contentAt M q.1 q.2.1 = some f.2 := by rw [c]; exact s_contentAt u2 d
  rw [eq_steps, gI_bb r1, gI_bb r2]
  have fin : ∀ (M1 : gM), orF M M1 → M1 711 62 = s.2.2.1 + (if tC (fFs (aCs z) s.1) s.2.1 = tC (fFs (aCs z) q.1.toNat) q.2.1 then 0 else 1) → M1 711 63 = s.2.2.2.1 → M1 711 64 = s.2.2.2.2 → ∃ M2, F_steps_39 M1 q.1 q.2.1 q.2.2 f0.2 f.2 = some M2 ∧ orA M2 (orN (aCs z) s q) ∧ orF M M2 := by
    intro M1 hf h62 h63 h64
    rw [eq_steps_39]
    have go : ∀ (M2 : gM), orF M M2 → M2 711 62 = s.2.2.1 + (if tC (fFs (aCs z) s.1) s.2.1 = tC (fFs (aCs z) q.1.toNat) q.2.1 then 0 else 1) → M2 711 63 = s.2.2.2.1 + q.2.2 → M2 711 64 = s.2.2.2.2 → ∃ M3, (F_likenessOf M2 f.2 f0.2).bind (fun p63 => if FP.fmul (gu (M2 711 64)) (gu p63.1) &&& 0x7fffffff ≤ (0x7f800000 : UInt32) then some (gU (gU (gU p63.2 711 64 (gfl (FP.fmul (gu (M2 711 64)) (gu p63.1)))) 711 60 q.1) 711 61 q.2.1) else none) = some M3 ∧ orA M3 (orN (aCs z) s q) ∧ orF M M3 := by
      intro M2 hf2 g62 g63 g64
      obtain ⟨M3, e3, f3⟩ := s_likenessOf (M := M2) cf cf0
      rw [gI_bb e3]
      show ∃ M4, (if FP.fmul (gu (M2 711 64)) (gu (lkF f.2 f0.2)) &&& 0x7fffffff ≤ (0x7f800000 : UInt32) then some (gU (gU (gU M3 711 64 (gfl (FP.fmul (gu (M2 711 64)) (gu (lkF f.2 f0.2))))) 711 60 q.1) 711 61 q.2.1) else none) = some M4 ∧ _
      rw [g64, if_pos hg]
      refine ⟨_, rfl, ⟨by rw [gU_idx (by decide), gU_same]; exact n3.symm, gU_same _ _ _ _, ?_, ?_, ?_⟩, orF_trans (orF_trans (orF_trans (orF_trans hf2 (orF_750 f3)) (orF_f (by decide))) (orF_f (by decide))) (orF_f (by decide))⟩
      · rw [gU_idx (by decide), gU_idx (by decide), gU_idx (by decide), f3 711 (by decide)]; exact g62
      · rw [gU_idx (by decide), gU_idx (by decide), gU_idx (by decide), f3 711 (by decide)]; exact g63
      · rw [gU_idx (by decide), gU_idx (by decide), gU_same]
        show _ = gfl (FP.fmul (gu s.2.2.2.2) (gu (lkF (tC (fFs (aCs z) q.1.toNat) q.2.1) (tC (fFs (aCs z) s.1) s.2.1))))
        rw [e1, e0]
    by_cases q0 : q.2.2 = 0
    · rw [if_pos q0]
      exact go M1 hf h62 (by rw [h63, q0, Int.add_zero]) h64
    · rw [if_neg q0, h63, gw32_id (by omega) (by omega)]
      exact go _ (orF_trans hf (orF_f (by decide))) (by rw [gU_idx (by decide)]; exact h62) (by rw [gU_same]; omega) (by rw [gU_idx (by decide)]; exact h64)
  rw [e0, e1] at fin
  by_cases e : f0.2 = f.2
  · rw [if_pos e]
    exact fin M (orF_refl M) (by rw [if_pos e, Int.add_zero]; exact a3) a4 a5
  · rw [if_neg e, a3, gw32_id (by omega) (by omega)]
    exact fin _ (orF_f (by decide)) (by rw [if_neg e, gU_same]) (by rw [gU_idx (by decide)]; exact a4) (by rw [gU_idx (by decide)]; exact a5)
theorem s_origin_70 {z : aS} {a1 a2 w : Int} (hO : kOk (aCs z)) (hT : kTen (aCs z)) (hw : 0 ≤ w ∧ w ≤ 4) : ∀ (n : Nat) (s : oS) (M : gM), s.1 < n → uSt M z → orA M s → orOk (aCs z) s → ∃ M1, F_origin_70 M a1 a2 w 1 = some (orV (orG (aCs z) n s) w, M1) ∧ uSt M1 z := by
  intro n
  induction n with
  | zero => intro s M h; omega
  | succ n ih =>
    intro s M hn hz hA hs
    obtain ⟨s1, ⟨j0, f0, s2, s3⟩, s4, s5, nn, s6⟩ := id hs
    have hl9 := hz.1.2.1
    have hc := List.getElem?_eq_getElem s1
    generalize (aCs z)[s.1] = c at hc
    have hps : fPs (aCs z) s.1 = kPs c := by unfold fPs; rw [hc]
    have hw3 := (hO s.1 c hc).1
    have hnc := (hz.1.2.2 s.1 c hc).1
    have hTk : uT M (s.1 : Int) (fFs (aCs z) s.1) := by rw [fFs_at hc]; exact (hz.1.2.2 s.1 c hc).2.2.2.2.2.2
    have hpt : pthAt (fFs (aCs z) s.1) s.2.1 = f0.1 := by rw [s2]; exact pthAt_at s3
    have r0 : F_pathAt M (M 711 60) (M 711 61) = some f0.1 := by rw [hA.1, hA.2.1, s2]; exact s_pathAt hTk s3
    rw [eq_origin_70, if_neg (by decide), eq_stepsByPath, gI_bb r0]
    -- by its PATH
    have byP : ∀ (suf pre : List Int), kPs c = pre ++ suf → (∀ q : Int × Int × Int, osN (aCs z) s.1 s.2.1 = some q → ∃ M1, F_steps M q.1 q.2.1 q.2.2 = some M1 ∧ orA M1 (orN (aCs z) s q) ∧ orF M M1) → osA (aCs z) f0.1 suf = osA (aCs z) f0.1 (kPs c) → (osA (aCs z) f0.1 (kPs c) = none ∧ F_stepsByPath_15 M f0.1 (pre.length : Int) = some (0, M)) ∨ ∃ q M1, osN (aCs z) s.1 s.2.1 = some q ∧ F_stepsByPath_15 M f0.1 (pre.length : Int) = some (1, M1) ∧ orA M1 (orN (aCs z) s q) ∧ orF M M1 := by
      intro suf
      induction suf with
      | nil =>
        intro pre e hst ho
        have hlen := congrArg List.length e
        rw [List.append_nil] at hlen
        refine Or.inl ⟨by rw [← ho]; rfl, ?_⟩
        rw [eq_stepsByPath_15, hA.1, if_pos (by omega), hnc, if_neg (by omega)]
      | cons p r ih2 =>
        intro pre e hst ho
        have hlen := congrArg List.length e
        rw [List.length_append, List.length_cons] at hlen
        have hp := hw3.2.1 p (by rw [e]; simp)
        have h3 := hw3.1
        have hpl : p.toNat < (aCs z).length := by omega
        have hd := List.getElem?_eq_getElem hpl
        have hTp : uT M p (fFs (aCs z) p.toNat) := by
          have := (hz.1.2.2 p.toNat _ hd).2.2.2.2.2.2
          rw [fFs_at hd]
          rw [show ((p.toNat : Nat) : Int) = p by omega] at this
          exact this
        rw [eq_stepsByPath_15, hA.1, if_pos (by omega), hnc, if_pos (by omega), gI_bb (s_parentAt hz.1 hc hw3.1 (at_mid e)), gI_bb (s_fileAt hTp), gw32_id (by omega) (by omega)]
        rw [osA] at ho
        by_cases q : tFind f0.1 (fFs (aCs z) p.toNat) 0 = -1
        · rw [if_pos q]
          rw [if_pos q] at ho
          have := ih2 (pre ++ [p]) (by rw [e]; simp) hst ho
          rw [List.length_append] at this
          exact this
        · rw [if_neg q, gI_bb (s_fileAt hTp)]
          rw [if_neg q] at ho
          have hos : osN (aCs z) s.1 s.2.1 = some (p, tFind f0.1 (fFs (aCs z) p.toNat) 0, 0) := by
            unfold osN
            rw [hpt, hps, ← ho]
          obtain ⟨M1, e1, o1, o2⟩ := hst _ hos
          rw [gI_bb (show F_steps M p (tFind f0.1 (fFs (aCs z) p.toNat) 0) 0 = some M1 from e1)]
          exact Or.inr ⟨_, M1, hos, rfl, o1, o2⟩
    rcases byP (kPs c) [] rfl (fun q hq => s_steps hz hO hT hA hs hq) rfl with ⟨no, e1⟩ | ⟨q, M1, hq, e1, o1, o2⟩
    · have e1' : F_stepsByPath_15 M f0.1 0 = some (0, M) := e1
      rw [gI_bb e1']
      -- RENAMED
      have byN : ∀ (suf pre : List Int) (M0 : gM), kPs c = pre ++ suf → orF M M0 → orA M0 s → osB (aCs z) s.1 s.2.1 suf = osB (aCs z) s.1 s.2.1 (kPs c) → ∃ M1, orF M M1 ∧ ((osB (aCs z) s.1 s.2.1 (kPs c) = none ∧ F_stepsByName_2 M0 (pre.length : Int) = some (0, M1) ∧ orA M1 s) ∨ ∃ q, osN (aCs z) s.1 s.2.1 = some q ∧ F_stepsByName_2 M0 (pre.length : Int) = some (1, M1) ∧ orA M1 (orN (aCs z) s q)) := by
        intro suf
        induction suf with
        | nil =>
          intro pre M0 e hf hA0 ho
          have hlen := congrArg List.length e
          rw [List.append_nil] at hlen
          have z0 := uSt_or hz hf
          have hn0 := (z0.1.2.2 s.1 c hc).1
          refine ⟨M0, hf, Or.inl ⟨by rw [← ho]; rfl, ?_, hA0⟩⟩
          rw [eq_stepsByName_2, hA0.1, if_pos (by omega), hn0, if_neg (by omega)]
        | cons p r ih2 =>
          intro pre M0 e hf hA0 ho
          have hlen := congrArg List.length e
          rw [List.length_append, List.length_cons] at hlen
          have hp := hw3.2.1 p (by rw [e]; simp)
          have h3 := hw3.1
          have z0 := uSt_or hz hf
          have hn0 := (z0.1.2.2 s.1 c hc).1
          have hpl : p.toNat < (aCs z).length := by omega
          have hd := List.getElem?_eq_getElem hpl
          have tp : uT M0 p (fFs (aCs z) p.toNat) := by
            have := (z0.1.2.2 p.toNat _ hd).2.2.2.2.2.2
            rw [fFs_at hd]
            rw [show ((p.toNat : Nat) : Int) = p by omega] at this
            exact this
          have tk : uT M0 (s.1 : Int) (fFs (aCs z) s.1) := by rw [fFs_at hc]; exact (z0.1.2.2 s.1 c hc).2.2.2.2.2.2
          have l16 : (fFs (aCs z) p.toNat).length ≤ 16 := by rw [fFs_at hd]; exact (hO _ _ hd).1.2.2.2.2.2.2
          obtain ⟨M2, e2, p2, f2, f3⟩ := s_laysPairs tp tk (fun f hf => by rw [fFs_at hd] at hf; exact hT _ (List.mem_of_getElem? hd) f hf) (fun f hf => by rw [fFs_at hc] at hf; exact hT c (List.mem_of_getElem? hc) f hf) l16
          have hf2 : orF M M2 := orF_trans hf ⟨f2, fun f hf => f3 f (by omega)⟩
          have hA2 : orA M2 s := ⟨by rw [f3 60 (by decide)]; exact hA0.1, by rw [f3 61 (by decide)]; exact hA0.2.1, by rw [f3 62 (by decide)]; exact hA0.2.2.1, by rw [f3 63 (by decide)]; exact hA0.2.2.2.1, by rw [f3 64 (by decide)]; exact hA0.2.2.2.2⟩
          have z2 := uSt_or hz hf2
          rw [eq_stepsByName_2, hA0.1, if_pos (by omega), hn0, if_pos (by omega), gI_bb (s_parentAt z0.1 hc hw3.1 (at_mid e)), gI_bb e2]
          rw [osB] at ho
          generalize hPS : prF (fFs (aCs z) p.toNat) (fFs (aCs z) s.1) = PS at p2 ho
          have find : ∀ (su pr : List (Int × Int)), PS = pr ++ su → pwF s.2.1 su = pwF s.2.1 PS → (pwF s.2.1 PS = -1 ∧ F_stepsByName_36 M2 (pre.length : Int) p (pr.length : Int) = F_stepsByName_2 M2 ((pre.length : Int) + 1)) ∨ (pwF s.2.1 PS ≠ -1 ∧ F_stepsByName_36 M2 (pre.length : Int) p (pr.length : Int) = (F_steps M2 p (pwF s.2.1 PS) 1).bind (fun m66 => some (1, m66))) := by
            intro su
            induction su with
            | nil =>
              intro pr e3 h3
              have hlen3 := congrArg List.length e3
              rw [List.append_nil] at hlen3
              refine Or.inl ⟨by rw [← h3]; rfl, ?_⟩
              rw [eq_stepsByName_36, p2.1, if_neg (by omega), gw32_id (by omega) (by omega)]
            | cons y ys ih3 =>
              intro pr e3 h3
              have hlen3 := congrArg List.length e3
              rw [List.length_append, List.length_cons] at hlen3
              have l16 := p2.2.1
              have hy : PS[pr.length]? = some y := at_mid e3
              have y1 := p2.2.2.1 pr.length y.1 (by rw [List.getElem?_map, hy]; rfl)
              have y2 := p2.2.2.2 pr.length y.2 (by rw [List.getElem?_map, hy]; rfl)
              rw [Int.zero_add] at y1 y2
              rw [eq_stepsByName_36, p2.1, if_pos (by omega), if_pos (by omega), y2, hA2.2.1, y1]
              rw [pwF] at h3
              by_cases q : y.2 = s.2.1
              · rw [if_pos q]
                rw [if_pos q] at h3
                refine Or.inr ⟨?_, by rw [h3]⟩
                rw [← h3]
                have hm : y ∈ prF (fFs (aCs z) p.toNat) (fFs (aCs z) s.1) := by rw [hPS]; exact List.mem_of_getElem? hy
                obtain ⟨u, v, f, g, b1, b2, b3⟩ := prF_at hm
                rw [b3]; show ¬ (u : Int) = -1; omega
              · rw [if_neg q, gw32_id (by omega) (by omega)]
                rw [if_neg q] at h3
                have := ih3 (pr ++ [y]) (by rw [e3]; simp) h3
                rw [List.length_append] at this
                exact this
          rcases find PS [] rfl rfl with ⟨nf, e4⟩ | ⟨nf, e4⟩
          · have e4' : F_stepsByName_36 M2 (pre.length : Int) p 0 = F_stepsByName_2 M2 ((pre.length : Int) + 1) := e4
            rw [if_pos nf] at ho
            rw [e4']
            have := ih2 (pre ++ [p]) M2 (by rw [e]; simp) hf2 hA2 ho
            rw [List.length_append] at this
            exact this
          · have e4' : F_stepsByName_36 M2 (pre.length : Int) p 0 = (F_steps M2 p (pwF s.2.1 PS) 1).bind (fun m66 => some (1, m66)) := e4
            rw [if_neg nf] at ho
            have hos : osN (aCs z) s.1 s.2.1 = some (p, pwF s.2.1 PS, 1) := by
              unfold osN
              rw [hpt, hps, no, ← ho]
            obtain ⟨M3, e5, o1, o2⟩ := s_steps z2 hO hT hA2 hs hos
            rw [e4', gI_bb (show F_steps M2 p (pwF s.2.1 PS) 1 = some M3 from e5)]
            exact ⟨M3, orF_trans hf2 o2, Or.inr ⟨_, hos, rfl, o1⟩⟩
      obtain ⟨M1, g1, g2⟩ := byN (kPs c) [] M rfl (orF_refl M) hA rfl
      have z1 := uSt_or hz g1
      show ∃ M1, (F_stepsByName M).bind _ = _ ∧ _
      rw [eq_stepsByName]
      rcases g2 with ⟨h1, h2, h3⟩ | ⟨q, h1, h2, h3⟩
      · have h2' : F_stepsByName_2 M 0 = some (0, M1) := h2
        rw [gI_bb h2']
        show ∃ M2, F_origin_70 M1 a1 a2 w 0 = _ ∧ _
        have hos : osN (aCs z) s.1 s.2.1 = none := by
          unfold osN
          rw [hpt, hps, no, h1]
        have hg : orG (aCs z) (n + 1) s = s := by rw [orG, hos]
        rw [eq_origin_70, if_pos rfl, hg]
        unfold orV
        by_cases w0 : w = 0
        · rw [if_pos w0, if_pos w0, h3.1]; exact ⟨M1, rfl, z1⟩
        rw [if_neg w0, if_neg w0]
        by_cases w1 : w = 1
        · rw [if_pos w1, if_pos w1, h3.2.1]; exact ⟨M1, rfl, z1⟩
        rw [if_neg w1, if_neg w1]
        by_cases w2 : w = 2
        · rw [if_pos w2, if_pos w2, h3.2.2.1]; exact ⟨M1, rfl, z1⟩
        rw [if_neg w2, if_neg w2]
        by_cases w3 : w = 3
        · rw [if_pos w3, if_pos w3, h3.2.2.2.1]; exact ⟨M1, rfl, z1⟩
        rw [if_neg w3, if_neg w3, h3.2.2.2.2, gI_bb (s_fbits s6), f01_bit s6]; exact ⟨M1, rfl, z1⟩
      · have h2' : F_stepsByName_2 M 0 = some (1, M1) := h2
        rw [gI_bb h2']
        show ∃ M2, F_origin_70 M1 a1 a2 w 1 = _ ∧ _
        obtain ⟨o1, o2, -⟩ := orN_ok hO hT hs h1
        have hg : orG (aCs z) (n + 1) s = orG (aCs z) n (orN (aCs z) s q) := by rw [orG, h1]
        rw [hg]
        exact ih _ M1 (by omega) z1 h3 o1
    · have e1' : F_stepsByPath_15 M f0.1 0 = some (1, M1) := e1
      rw [gI_bb e1']
      show ∃ M2, F_origin_70 M1 a1 a2 w 1 = _ ∧ _
      obtain ⟨o3, o4, -⟩ := orN_ok hO hT hs hq
      have hg : orG (aCs z) (n + 1) s = orG (aCs z) n (orN (aCs z) s q) := by rw [orG, hq]
      rw [hg]
      exact ih _ M1 (by omega) (uSt_or hz o2) o1 o3
theorem s_origin {M : gM} {z : aS} {k i w : Int} (hz : uSt M z) (hO : kOk (aCs z)) (hT : kTen (aCs z)) : ∃ M1, F_origin M k i w = some (aOrigin z k i w, M1) ∧ uSt M1 z := by
  unfold aOrigin
  rw [eq_origin, gI_bb (s_isCommit hz.1 k)]
  by_cases q1 : bC (aCs z) k = true
  · rw [bC_t q1, if_neg bIt, gI_bb s_in]
    by_cases q2 : 0 ≤ i ∧ i ≤ 15
    · rw [decide_eq_true q2, if_neg bIt, gI_bb s_in]
      by_cases q3 : 0 ≤ w ∧ w ≤ 4
      · rw [decide_eq_true q3, if_neg bIt, if_pos (show bC (aCs z) k = true ∧ (0 ≤ i ∧ i ≤ 15) ∧ (0 ≤ w ∧ w ≤ 4) from ⟨q1, q2, q3⟩)]
        have hl9 := hz.1.2.1
        obtain ⟨n, c, rfl, hk, hl⟩ := bC_at q1
        have hTn := (hz.1.2.2 n c hk).2.2.2.2.2.2
        rw [Int.toNat_natCast, fFs_at hk, if_pos (by omega), hTn.2.1]
        by_cases q4 : i < ((kFs c).length : Int)
        · rw [if_pos q4, if_pos q4]
          obtain ⟨j, rfl⟩ : ∃ j : Nat, i = (j : Int) := ⟨i.toNat, by omega⟩
          have hj := List.getElem?_eq_getElem (show j < (kFs c).length by omega)
          have fr : orF M (gU (gU (gU (gU (gU M 711 60 (n : Int)) 711 61 (j : Int)) 711 62 0) 711 63 0) 711 64 (gfl FP.fconst1)) := orF_trans (orF_trans (orF_trans (orF_trans (orF_f (by decide)) (orF_f (by decide))) (orF_f (by decide))) (orF_f (by decide))) (orF_f (by decide))
          exact s_origin_70 hO hT q3 (n + 1) (n, (j : Int), 0, 0, gfl FP.fconst1) _ (by show n < n + 1; omega) (uSt_or hz fr) ⟨by rw [gU_idx (by decide), gU_idx (by decide), gU_idx (by decide), gU_idx (by decide), gU_same], by rw [gU_idx (by decide), gU_idx (by decide), gU_idx (by decide), gU_same], by rw [gU_idx (by decide), gU_idx (by decide), gU_same], by rw [gU_idx (by decide), gU_same], gU_same _ _ _ _⟩ ⟨hl, ⟨j, _, rfl, by rw [fFs_at hk]; exact hj⟩, ⟨Int.le_refl 0, by show (0 : Int) + (n : Int) ≤ 119; omega⟩, ⟨Int.le_refl 0, by show (0 : Int) + (n : Int) ≤ 119; omega⟩, _, f01_one⟩
        · rw [if_neg q4, if_neg q4]; exact ⟨M, rfl, hz⟩
      · rw [decide_eq_false q3, if_pos bIf, if_neg (fun w => q3 w.2.2)]; exact ⟨M, rfl, hz⟩
    · rw [decide_eq_false q2, if_pos bIf, if_neg (fun w => q2 w.2.1)]; exact ⟨M, rfl, hz⟩
  · rw [bC_f q1, if_pos bIf, if_neg (fun w => q1 w.1)]; exact ⟨M, rfl, hz⟩
