-- ==== both sides in one memory
theorem uSt_hi {M M1 : gM} {z : aS} (h : uSt M z) (e : ∀ b : Int, 710 < b → b < 758 → M1 b = M b) : uSt M1 z := by
  obtain ⟨h1, h2, h3, h4, h5⟩ := h
  have e7 := e 711 (by decide) (by decide)
  refine ⟨uC_same h1 (by rw [e7]) (fun b b0 b1 => e b (by omega) (by omega)), ⟨by rw [e7]; exact h2.1, h2.2.1, fun j c hj => by rw [e 726 (by decide) (by decide)]; exact h2.2.2 j c hj⟩, fun i i0 i1 => ?_, fun p p0 p1 => ?_, ?_⟩
  · exact uRfX_of (A := 727) (B := 728) (h3 i i0 i1) (fun q _ _ => by rw [e 727 (by decide) (by decide)]) (fun q _ _ => by rw [e 728 (by decide) (by decide)])
  · exact uPl_of (h4 p p0 p1) (fun q _ _ => by rw [e 729 (by decide) (by decide)]) (fun q _ _ => by rw [e 730 (by decide) (by decide)]) (fun q _ _ => by rw [e 731 (by decide) (by decide)])
  · rcases h5 with ⟨a, b⟩ | ⟨a, b, c, d, f⟩
    · exact Or.inl ⟨a, by rw [e7]; exact b⟩
    · refine Or.inr ⟨a, by rw [e7]; exact b, by rw [e7]; exact c, fun i i0 i1 => ?_, fun p p0 p1 => ?_⟩
      · exact uRfX_of (d i i0 i1) (fun q _ _ => by rw [e 753 (by decide) (by decide)]) (fun q _ _ => by rw [e 754 (by decide) (by decide)])
      · exact uPl_of (f p p0 p1) (fun q _ _ => by rw [e 755 (by decide) (by decide)]) (fun q _ _ => by rw [e 756 (by decide) (by decide)]) (fun q _ _ => by rw [e 757 (by decide) (by decide)])
/-- the reference with other COMMITS, tape, REFS -/
theorem uSt_mk {M M1 : gM} {z : aS} {s : List Int} {cs : List kC} {R : Int → List rF} {A F : List Int} (h : uSt M z) (hf : gFr A F M M1) (hC : uC M1 cs) (hB : uBy M1 s) (hR : ∀ h : Int, 0 ≤ h → h < 4 → uRf M1 h (R h)) (hA : ∀ b ∈ A, b < 729 ∨ (731 < b ∧ b < 753)) (hF : (70 : Int) ∉ F ∧ (71 : Int) ∉ F) : uSt M1 (s, cs, R, z.2.2.2) := by
  obtain ⟨h1, h2, h3, h4, h5⟩ := h
  have e : ∀ b : Int, b ≠ 711 → ((728 < b ∧ b < 732) ∨ 752 < b) → M1 b = M b := fun b b0 b1 => hf.1 b (fun w => by have := hA b w; omega) b0
  refine ⟨hC, hB, hR, fun p p0 p1 => ?_, ?_⟩
  · exact uPl_of (h4 p p0 p1) (fun q _ _ => by rw [e 729 (by decide) (by decide)]) (fun q _ _ => by rw [e 730 (by decide) (by decide)]) (fun q _ _ => by rw [e 731 (by decide) (by decide)])
  · rcases h5 with ⟨a, b⟩ | ⟨a, b, c, d, f⟩
    · exact Or.inl ⟨a, by rw [hf.2 71 hF.2]; exact b⟩
    · refine Or.inr ⟨a, by rw [hf.2 71 hF.2]; exact b, by rw [hf.2 70 hF.1]; exact c, fun i i0 i1 => ?_, fun p p0 p1 => ?_⟩
      · exact uRfX_of (d i i0 i1) (fun q _ _ => by rw [e 753 (by decide) (by decide)]) (fun q _ _ => by rw [e 754 (by decide) (by decide)])
      · exact uPl_of (f p p0 p1) (fun q _ _ => by rw [e 755 (by decide) (by decide)]) (fun q _ _ => by rw [e 756 (by decide) (by decide)]) (fun q _ _ => by rw [e 757 (by decide) (by decide)])
theorem uRf_fr {M M1 : gM} {z : aS} {A F : List Int} (h : uSt M z) (hf : gFr A F M M1) (hA : (727 : Int) ∉ A ∧ (728 : Int) ∉ A) : ∀ i : Int, 0 ≤ i → i < 4 → uRf M1 i (aRs z i) := fun i i0 i1 =>
  uRfX_of (A := 727) (B := 728) (h.2.2.1 i i0 i1) (fun q _ _ => by rw [hf.1 727 hA.1 (by decide)]) (fun q _ _ => by rw [hf.1 728 hA.2 (by decide)])
theorem uRs_of {M : gM} {z : aS} (h : uSt M z) (hI : zI z) : uRs M ((aCs z).length : Int) (aRs z) := fun i i0 i1 => ⟨h.2.2.1 i i0 i1, hI.2.2.1 i i0 i1⟩
/-- the text stays -/
theorem tX_keep {sh : gS} {M M1 : gM} {i : Nat} {s : List Int} (h : tX sh M i s) (hO : gOK sh M1) (e : ∀ b : Int, (b = 475 ∨ b = 476 ∨ 757 < b) → M1 b = M b) : tX sh M1 i s := by
  obtain ⟨-, h2, h3, h4, h5, h6, h7, h8, h9⟩ := h
  have e5 := e 475 (Or.inl rfl)
  have ep : M1 (M 475 0) = M (M 475 0) := e _ (by omega)
  exact ⟨hO, by rw [e5]; exact h2, by rw [e5]; exact h3, by rw [e5]; exact h4, by rw [e5]; exact h5, h6, h7, fun j j0 j1 => by rw [e5, ep]; exact h8 j j0 j1, fun j c hj => by rw [e5, ep]; exact h9 j c hj⟩
/-- both sides hold the state -/
def lwS (sh : gS) (M : gM) (z : aS) : Prop := cS sh M z ∧ uSt M z ∧ zI z ∧ ∃ (i : Nat) (s : List Int), tX sh M i s
theorem law_cls {sh sh1 : gS} {M M1 : gM} {z z' : aS} {t : Nat} {v : Int} {r : Option gV} (h : lwS sh M z) (hP : cPo sh M t v z' r sh1 M1) : r = some (t, v) ∧ sh1 = sh ∧ cS sh M1 z' ∧ uSt M1 z ∧ ∃ (i : Nat) (s : List Int), tX sh M1 i s := by
  obtain ⟨rfl, rfl, h1, h2⟩ := hP
  obtain ⟨a, b, c, i, s, d⟩ := h
  exact ⟨rfl, rfl, h1, uSt_hi b (fun x x0 _ => h2 x (Or.inr (Or.inr x0))), i, s, tX_keep d h1.1 (fun x hx => h2 x (by omega))⟩
theorem law_spt {sh sh1 : gS} {M M1 : gM} {z : aS} {v : Int} {r : Option gV} (h : lwS sh M z) (hP : sQ sh M z v r sh1 M1) : r = some (0, v) ∧ cS sh1 M1 z ∧ uSt M1 z ∧ ∃ (i : Nat) (s : List Int), tX sh1 M1 i s := by
  obtain ⟨rfl, h1, h2, h3⟩ := hP
  obtain ⟨a, b, c, d⟩ := h
  exact ⟨rfl, h1, uSt_hi b (fun x x0 x1 => h2.2 x x1 (by omega) (by omega)), h3⟩
theorem law_ref {sh : gS} {M M1 : gM} {z z' : aS} {A F : List Int} (h : cS sh M z') (hT : ∃ (i : Nat) (s : List Int), tX sh M i s) (hf : gFr A F M M1) (hA : ∀ a ∈ A, 711 < a ∧ a < 758) (hF : ∀ f ∈ F, f ∈ gFF) (hU : uSt M1 z') (hI : zI z') : lwS sh M1 z' := by
  have hO := gOK_fr h.1 hf hA hF
  have e : ∀ b : Int, b ≠ 711 → (b < 711 ∨ 757 < b) → M1 b = M b := fun b b0 b1 => hf.1 b (fun w => by have := hA b w; omega) b0
  obtain ⟨i, s, d⟩ := hT
  exact ⟨cS_keep h hO (fun b hb => e b (by omega) (by omega)), hU, hI, i, s, tX_keep d hO (fun b hb => e b (by omega) (by omega))⟩
theorem law_same {sh : gS} {M : gM} {z' : aS} (h : cS sh M z') (hT : ∃ (i : Nat) (s : List Int), tX sh M i s) (hU : uSt M z') (hI : zI z') : lwS sh M z' := ⟨h, hU, hI, hT⟩
-- what the calls of the reference give, where it was not yet said of the whole state
theorem t_feed {M : gM} {z : aS} {a b c d e : Int} (h : uSt M z) : ∃ M1, F_feed M a b c d e = some ((aFeed (aTp z) a b c d e).1, M1) ∧ uSt M1 ((aFeed (aTp z) a b c d e).2, z.2) := by
  obtain ⟨M1, e1, e2⟩ := s_feed (a := a) (b := b) (c := c) (d := d) (e := e) h.2.1
  have hf : gFr [726] [18] M M1 := fr_feed e1
  refine ⟨M1, e1, uSt_mk h hf (uC_same h.1 (hf.2 0 (by decide)) (fun b b0 b1 => hf.1 b (by simp only [List.mem_singleton]; omega) (by omega))) e2 (uRf_fr h hf (by decide)) (by decide) (by decide)⟩
theorem t_commit {M : gM} {z : aS} {n who hour : Int} (h : uSt M z) (hI : zI z) : ∃ M1, F_commit M n who hour = some ((aCommit (aCs z) (aTp z) n who hour).1, M1) ∧ uSt M1 ((aCommit (aCs z) (aTp z) n who hour).2.1, (aCommit (aCs z) (aTp z) n who hour).2.2, z.2.2) := by
  obtain ⟨M1, e1, e2, e3⟩ := s_commit (n := n) (who := who) (hour := hour) h.1 h.2.1 hI.1
  have hf : gFr _ _ M M1 := fr_commit e1
  exact ⟨M1, e1, uSt_mk h hf e2 e3 (uRf_fr h hf (by decide)) (by decide) (by decide)⟩
theorem t_ref {M : gM} {z : aS} {h kind letter k : Int} (hz : uSt M z) (hI : zI z) : ∃ M1, F_ref M h kind letter k = some ((aRef ((aCs z).length : Int) (aRs z) h kind letter k).1, M1) ∧ uSt M1 (z.1, z.2.1, (aRef ((aCs z).length : Int) (aRs z) h kind letter k).2, z.2.2.2) := by
  obtain ⟨M1, e1, e2⟩ := s_ref (h := h) (kind := kind) (letter := letter) (k := k) hz.1 (uRs_of hz hI)
  have hf : gFr _ _ M M1 := fr_ref e1
  refine ⟨M1, e1, uSt_mk hz hf (uC_same hz.1 (hf.2 0 (by decide)) (fun b b0 b1 => hf.1 b (by simp only [List.mem_cons, List.not_mem_nil, or_false]; omega) (by omega))) ⟨by rw [hf.2 18 (by decide)]; exact hz.2.1.1, hz.2.1.2.1, fun j c hj => by rw [hf.1 726 (by decide) (by decide)]; exact hz.2.1.2.2 j c hj⟩ (fun i i0 i1 => (e2 i i0 i1).1) (by decide) (by decide)⟩
theorem t_ancestor {M : gM} {z : aS} {j k : Int} (hz : uSt M z) (hI : zI z) : ∃ M1, F_ancestor M j k = some ((if bC (aCs z) j && bC (aCs z) k then bI (kAnc (aCs z) k.toNat j.toNat) else -1), M1) ∧ uSt M1 z := by
  obtain ⟨M1, e1, e2⟩ := s_ancestor (j := j) (k := k) hz.1 hI.1.1
  exact ⟨M1, e1, uSt_keep hz (fr_ancestor e1 : gFr _ _ M M1) (by decide) (by decide)⟩
