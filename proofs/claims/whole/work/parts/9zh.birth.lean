-- ==== the state of a new object and a new reference
def pl0 : kP := (fun _ => [], fun _ => 0, fun _ => 0, fun _ => 0)
def z0 : aS := ([], [], fun _ => [], fun _ => pl0, -1, fun _ => [], fun _ => pl0)
def kX11 : gS := kM1 ++ kPla 4
theorem kX11_len : kX11.length = 710 := by rw [kX11, List.length_append, kH4_len, kPla_len]
theorem kMod_len : kMod.length = 46 := by decide +kernel
theorem gSH_is : gSH = ((0, 12) :: kX11) ++ (0, 13) :: kMod := by decide +kernel
theorem gOff_12 {k d : Nat} (h : gOff 12 k = some d) : k < 16 := by
  rcases Nat.lt_or_ge k 16 with q | q
  · exact q
  · exfalso
    have h1 : ∀ i : Nat, i < 80 → 16 ≤ i → gOff 12 i = none := by decide
    rcases Nat.lt_or_ge k 80 with q2 | q2
    · rw [h1 k q2 q] at h; cases h
    · rw [gOff_no q2] at h; cases h
theorem gOff_13 {k d : Nat} (h : gOff 13 k = some d) : k < 70 := by
  rcases Nat.lt_or_ge k 70 with q | q
  · exact q
  · exfalso
    have h1 : ∀ i : Nat, i < 80 → 70 ≤ i → gOff 13 i = none := by decide
    rcases Nat.lt_or_ge k 80 with q2 | q2
    · rw [h1 k q2 q] at h; cases h
    · rw [gOff_no q2] at h; cases h
theorem gOff_0 {k : Nat} : gOff 0 k = none := by
  rcases Nat.lt_or_ge k 80 with q2 | q2
  · have h1 : ∀ i : Nat, i < 80 → gOff 0 i = none := by decide
    exact h1 k q2
  · exact gOff_no q2
theorem gD_off {c k d : Nat} {b : Int} (h : gOff c k = some d) : gD (0, c) b (k : Int) = b + (d : Int) := by
  refine gD_so ?_
  unfold gOff0
  split
  · rename_i q; rw [q, gOff_0] at h; cases h
  · exact h
/-- what stands there when both are made -/
def bth (sh : gS) (M : gM) : Prop := sh = gSH ∧ (∀ (d : Nat) (k : Nat × Nat), d ∉ [407, 408, 476, 477] → kX11[d]? = some k → ∀ i : Int, gR k i → M ((1 + d : Nat) : Int) i = gD k ((1 + d : Nat) : Int) i) ∧
  (∀ i : Int, 0 ≤ i → i < 16 → M 0 i = gD (0, 12) 0 i) ∧ M 0 16 = -1 ∧
  (∀ i : Int, 0 ≤ i → i < 4 → M 408 i = 479 + 10 * i ∧ M 477 i = 484 + 10 * i ∧ M 409 i = 519 + 48 * i ∧ M 478 i = 543 + 48 * i) ∧
  (∀ i : Int, M 711 i = if i < 70 then gD (0, 13) 711 i else gdef (gKt (0, 13) i)) ∧
  (∀ (d : Nat) (k : Nat × Nat), d ∉ [15, 16, 18] → kMod[d]? = some k → ∀ i : Int, gR k i → M ((712 + d : Nat) : Int) i = gD k ((712 + d : Nat) : Int) i) ∧
  (∀ i : Int, 0 ≤ i → i < 208 → M 727 i = -1 ∧ M 728 i = -1)
theorem bth_of {M0 : gM} {r : Option gV} {sh : gS} {M : gM} (h : bX11 [] M0 r sh M) {r2 : Option gV} {sh2 : gS} {M2 : gM} (h2 : bX12 sh M r2 sh2 M2) : bth sh2 M2 := by
  obtain ⟨-, ⟨a1, -, a3⟩, a4, a5, a6, a7⟩ := h
  obtain ⟨-, ⟨⟨⟨b1, b2, b3⟩, b4⟩, b5⟩, -⟩ := h2
  have hl : sh.length = 711 := by rw [a1]; show (kM1 ++ kPla 4).length + 1 = 711; rw [show (kM1 ++ kPla 4).length = 710 from kX11_len]
  have e : ∀ b : Int, b < 711 → M2 b = M b := fun b hb => b2 b (by omega)
  rw [hl] at b3 b4 b5
  refine ⟨?_, fun d k hd hk i hg => ?_, fun i i0 i1 => ?_, ?_, fun i i0 i1 => ?_, b4, b3, b5⟩
  · rw [b1, a1, gSH_is]; rfl
  · have hlt := (List.getElem?_eq_some_iff.mp hk).1
    rw [kX11_len] at hlt
    rw [e _ (by omega)]
    have h9 := a3 d k hd hk i hg
    rw [show ([] : gS).length + 1 + d = 1 + d by show 0 + 1 + d = _; omega] at h9
    exact h9
  · rw [e 0 (by decide)]; exact a4 i i0 i1
  · rw [e 0 (by decide)]; exact a5
  · rw [e 408 (by decide), e 477 (by decide), e 409 (by decide), e 478 (by decide)]
    have p := a6 i i0 i1
    have q := a7 i i0 i1
    refine ⟨p.1.trans ?_, p.2.trans ?_, q.1.trans ?_, q.2.trans ?_⟩
    · show (0 : Int) + 479 + 10 * i = _; omega
    · show (0 : Int) + 484 + 10 * i = _; omega
    · show (0 : Int) + 519 + 48 * i = _; omega
    · show (0 : Int) + 543 + 48 * i = _; omega
theorem bth_at {sh : gS} {M : gM} (h : bth sh M) (b : Nat) (k : Nat × Nat) (hb : b ≠ 408 ∧ b ≠ 409 ∧ b ≠ 477 ∧ b ≠ 478 ∧ b ≠ 0) (h2 : kX11[b - 1]? = some k) (i : Int) (hg : gR k i) : M (b : Int) i = gD k (b : Int) i := by
  have h9 := h.2.1 (b - 1) k (fun w => by
    simp only [List.mem_cons, List.not_mem_nil, or_false] at w
    omega) h2 i hg
  rw [show 1 + (b - 1) = b by omega] at h9
  exact h9
theorem bth_OK {sh : gS} {M : gM} (h : bth sh M) : gOK sh M := by
  obtain ⟨h1, h2, h3, h4, h5, h6, h7, h8⟩ := id h
  refine ⟨fun n k hk => by rw [h1]; exact hk, fun a c k d ha hs ho => ?_, fun i i0 i1 => ?_, h5⟩
  · obtain ⟨a0, hs⟩ := gsh_nn hs
    rw [h1, gSH_is] at hs
    obtain ⟨n, rfl⟩ : ∃ n : Nat, a = (n : Int) := ⟨a.toNat, by omega⟩
    rw [Int.toNat_natCast] at hs
    rcases Nat.lt_or_ge n 711 with q | q
    · rw [List.getElem?_append_left (by rw [List.length_cons, kX11_len]; omega)] at hs
      cases n with
      | zero =>
        cases hs
        have hk := gOff_12 ho
        rw [show ((0 : Nat) : Int) = 0 from rfl, h3 (k : Int) (by omega) (by omega)]
        exact gD_off ho
      | succ n =>
        rw [List.getElem?_cons_succ] at hs
        have hd : n ∉ [407, 408, 476, 477] := fun w => by
          simp only [List.mem_cons, List.not_mem_nil, or_false] at w
          rcases w with rfl | rfl | rfl | rfl
          · rw [show kX11[407]? = some (7, 4) by decide +kernel] at hs; cases hs
          · rw [show kX11[408]? = some (8, 4) by decide +kernel] at hs; cases hs
          · rw [show kX11[476]? = some (7, 4) by decide +kernel] at hs; cases hs
          · rw [show kX11[477]? = some (8, 4) by decide +kernel] at hs; cases hs
        have h9 := h2 n (0, c) hd hs (k : Int) (fun w => by cases w)
        rw [show 1 + n = n + 1 by omega] at h9
        rw [h9]
        exact gD_off ho
    · rw [List.getElem?_append_right (by rw [List.length_cons, kX11_len]; omega), List.length_cons, kX11_len] at hs
      rcases Nat.lt_or_ge 711 n with q2 | q2
      · obtain ⟨m, rfl⟩ : ∃ m : Nat, n = 712 + m := ⟨n - 712, by omega⟩
        rw [show 712 + m - (710 + 1) = m + 1 by omega, List.getElem?_cons_succ] at hs
        have hno : ∀ q ∈ kMod, q.1 ≠ 0 := by decide +kernel
        exact absurd rfl (hno (0, c) (List.mem_of_getElem? hs))
      · have : n = 711 := by omega
        subst this
        cases hs
        have hk := gOff_13 ho
        rw [show ((711 : Nat) : Int) = 711 from rfl, h6 (k : Int), if_pos (by omega)]
        exact gD_off ho
  · have h9 := bth_at h 8 (6, 120) (by decide) (by decide +kernel) i (fun _ => ⟨i0, i1⟩)
    rw [show ((8 : Nat) : Int) = 8 from rfl] at h9
    rw [h9]
    show (if 0 ≤ i ∧ i < ((120 : Nat) : Int) then _ else _) = _
    rw [if_pos ⟨i0, i1⟩]
    omega
theorem bth_z {sh : gS} {M : gM} (h : bth sh M) (b : Nat) (k : Nat × Nat) (i : Int) (hb : b ≠ 408 ∧ b ≠ 409 ∧ b ≠ 477 ∧ b ≠ 478 ∧ b ≠ 0) (h2 : kX11[b - 1]? = some k) (h6 : k.1 ≠ 6) (hz : gD k (b : Int) i = 0) : M (b : Int) i = 0 := by
  rw [bth_at h b k hb h2 i (fun w => absurd w h6), hz]
theorem bth_r {sh : gS} {M : gM} (h : bth sh M) (b : Nat) (hb : b ≠ 408 ∧ b ≠ 409 ∧ b ≠ 477 ∧ b ≠ 478 ∧ b ≠ 0) (h1 : kX11[b - 1]? = some (0, 8)) (h2 : kX11[b]? = some (1, 16)) (h3 : kX11[b + 1]? = some (1, 16)) (h4 : kX11[b + 2]? = some (1, 16)) (h5 : kX11[b + 3]? = some (1, 16)) : rOk sh M (b : Int) [] := by
  have hOK := bth_OK h
  have hlt := (List.getElem?_eq_some_iff.mp h1).1
  rw [kX11_len] at hlt
  have hg : ∀ (n : Nat) (k : Nat × Nat), 1 ≤ n → kX11[n - 1]? = some k → gSH[n]? = some k := fun n k hn hk => by
    rw [gSH_is, List.getElem?_append_left (by have := (List.getElem?_eq_some_iff.mp hk).1; rw [List.length_cons]; omega)]
    rw [show n = (n - 1) + 1 by omega, List.getElem?_cons_succ]
    exact hk
  refine ⟨⟨gOK_sh hOK b (hg b _ (by omega) h1), ?_, ?_, ?_, ?_, by omega⟩, Nat.zero_le _, ?_, rw_nil⟩
  · exact gOK_sh hOK (b + 1) (hg (b + 1) _ (by omega) h2)
  · exact gOK_sh hOK (b + 2) (hg (b + 2) _ (by omega) h3)
  · exact gOK_sh hOK (b + 3) (hg (b + 3) _ (by omega) h4)
  · exact gOK_sh hOK (b + 4) (hg (b + 4) _ (by omega) h5)
  · exact bth_z h b (0, 8) 0 hb h1 (by decide) rfl
theorem bth_q {sh : gS} {M : gM} (h : bth sh M) (b n : Nat) (hb : b ≠ 408 ∧ b ≠ 409 ∧ b ≠ 477 ∧ b ≠ 478 ∧ b ≠ 0) (hn : n ≤ 10) (h1 : kX11[b - 1]? = some (0, 5)) (h2 : kX11[b]? = some (1, n)) (h3 : kX11[b + 1]? = some (1, n)) : qOk sh M (b : Int) n [] := by
  have hOK := bth_OK h
  have hlt := (List.getElem?_eq_some_iff.mp h1).1
  rw [kX11_len] at hlt
  have hg : ∀ (n : Nat) (k : Nat × Nat), 1 ≤ n → kX11[n - 1]? = some k → gSH[n]? = some k := fun n k hn hk => by
    rw [gSH_is, List.getElem?_append_left (by have := (List.getElem?_eq_some_iff.mp hk).1; rw [List.length_cons]; omega)]
    rw [show n = (n - 1) + 1 by omega, List.getElem?_cons_succ]
    exact hk
  refine ⟨⟨gOK_sh hOK b (hg b _ (by omega) h1), ?_, ?_, by omega, hn⟩, Nat.zero_le _, ?_, rw_nil⟩
  · exact gOK_sh hOK (b + 1) (hg (b + 1) _ (by omega) h2)
  · exact gOK_sh hOK (b + 2) (hg (b + 2) _ (by omega) h3)
  · exact bth_z h b (0, 5) 0 hb h1 (by decide) rfl
theorem gD_pl {b : Int} : ∀ f : Nat, f < 17 → (f < 4 ∨ (10 < f ∧ f < 17)) → gD (0, 6) b (f : Int) = 0 := by
  intro f h1 h2
  have h3 : ∀ f : Nat, f < 17 → (f < 4 ∨ (10 < f ∧ f < 17)) → gOff0 6 f = none ∧ gdef (gKt (0, 6) (f : Int)) = 0 := by decide
  obtain ⟨a, c⟩ := h3 f h1 h2
  rw [gD_no (by omega) (by rw [Int.toNat_natCast]; exact a), c]
/-- the cells of a PLAN at b -/
def plCe (b : Nat) : Prop := kX11[b - 1]? = some (0, 6) ∧ (kX11[b]? = some (0, 5) ∧ kX11[b + 1]? = some (1, 4) ∧ kX11[b + 2]? = some (1, 4)) ∧ (kX11[b + 3]? = some (0, 5) ∧ kX11[b + 4]? = some (1, 4) ∧ kX11[b + 5]? = some (1, 4)) ∧ (kX11[b + 6]? = some (0, 5) ∧ kX11[b + 7]? = some (1, 4) ∧ kX11[b + 8]? = some (1, 4)) ∧ (kX11[b + 9]? = some (0, 5) ∧ kX11[b + 10]? = some (1, 4) ∧ kX11[b + 11]? = some (1, 4)) ∧ (kX11[b + 12]? = some (0, 5) ∧ kX11[b + 13]? = some (1, 4) ∧ kX11[b + 14]? = some (1, 4)) ∧ (kX11[b + 15]? = some (0, 5) ∧ kX11[b + 16]? = some (1, 4) ∧ kX11[b + 17]? = some (1, 4)) ∧ (kX11[b + 18]? = some (0, 5) ∧ kX11[b + 19]? = some (1, 10) ∧ kX11[b + 20]? = some (1, 10)) ∧ kX11[b + 21]? = some (1, 120) ∧ kX11[b + 22]? = some (1, 120)
theorem bth_p {sh : gS} {M : gM} (h : bth sh M) (b : Nat) (hb : 478 < b) (hc : plCe b) : plOk sh M (b : Int) pl0 := by
  have hOK := bth_OK h
  obtain ⟨c0, c1, c2, c3, c4, c5, c6, c7, c8, c9⟩ := hc
  have hlt := (List.getElem?_eq_some_iff.mp c9).1
  rw [kX11_len] at hlt
  have hg : ∀ (n : Nat) (k : Nat × Nat), 1 ≤ n → kX11[n - 1]? = some k → gSH[n]? = some k := fun n k hn hk => by
    rw [gSH_is, List.getElem?_append_left (by have := (List.getElem?_eq_some_iff.mp hk).1; rw [List.length_cons]; omega)]
    rw [show n = (n - 1) + 1 by omega, List.getElem?_cons_succ]
    exact hk
  have q1 := bth_q h (b + 1) 4 (by omega) (by decide) c1.1 c1.2.1 c1.2.2
  have q2 := bth_q h (b + 4) 4 (by omega) (by decide) c2.1 c2.2.1 c2.2.2
  have q3 := bth_q h (b + 7) 4 (by omega) (by decide) c3.1 c3.2.1 c3.2.2
  have q4 := bth_q h (b + 10) 4 (by omega) (by decide) c4.1 c4.2.1 c4.2.2
  have q5 := bth_q h (b + 13) 4 (by omega) (by decide) c5.1 c5.2.1 c5.2.2
  have q6 := bth_q h (b + 16) 4 (by omega) (by decide) c6.1 c6.2.1 c6.2.2
  have q7 := bth_q h (b + 19) 10 (by omega) (by decide) c7.1 c7.2.1 c7.2.2
  refine ⟨⟨gOK_sh hOK b (hg b _ (by omega) c0), q1.1, q2.1, q3.1, q4.1, q5.1, q6.1, q7.1, gOK_sh hOK (b + 22) (hg (b + 22) _ (by omega) c8), gOK_sh hOK (b + 23) (hg (b + 23) _ (by omega) c9), by omega, by omega⟩, fun i hi => ?_, q7, fun f hf => ?_, fun k k0 k1 => ?_⟩
  · show qOk sh M _ 4 []
    rcases (show i = 0 ∨ i = 1 ∨ i = 2 ∨ i = 3 ∨ i = 4 ∨ i = 5 by omega) with rfl | rfl | rfl | rfl | rfl | rfl
    · exact q1
    · exact q2
    · exact q3
    · exact q4
    · exact q5
    · exact q6
  · exact bth_z h b (0, 6) (f : Int) (by omega) c0 (by decide) (gD_pl f (by omega) hf)
  · have e1 := bth_z h (b + 22) (1, 120) k (by omega) c8 (by decide) rfl
    have e2 := bth_z h (b + 23) (1, 120) k (by omega) c9 (by decide) rfl
    exact ⟨e1, e2⟩
theorem bth_cS {sh : gS} {M : gM} (h : bth sh M) : cS sh M z0 := by
  have hOK := bth_OK h
  refine ⟨hOK, ⟨?_, Nat.zero_le _, ?_, fun k c hk => by cases hk⟩, ⟨⟨Nat.zero_le _, fun j c hj => by cases hj⟩, ?_⟩, fun i i0 i1 => ?_, fun p p0 p1 => ?_, h.2.2.2.1⟩
  · exact bth_z h 4 (0, 2) 0 (by decide) (by decide +kernel) (by decide) rfl
  · exact bth_z h 17 (0, 11) 2 (by decide) (by decide +kernel) (by decide) rfl
  · exact bth_z h 1 (0, 10) 1 (by decide) (by decide +kernel) (by decide) rfl
  · rcases (show i = 0 ∨ i = 1 ∨ i = 2 ∨ i = 3 by omega) with rfl | rfl | rfl | rfl
    · exact ⟨bth_r h 479 (by decide) (by decide +kernel) (by decide +kernel) (by decide +kernel) (by decide +kernel) (by decide +kernel), bth_r h 484 (by decide) (by decide +kernel) (by decide +kernel) (by decide +kernel) (by decide +kernel) (by decide +kernel)⟩
    · exact ⟨bth_r h 489 (by decide) (by decide +kernel) (by decide +kernel) (by decide +kernel) (by decide +kernel) (by decide +kernel), bth_r h 494 (by decide) (by decide +kernel) (by decide +kernel) (by decide +kernel) (by decide +kernel) (by decide +kernel)⟩
    · exact ⟨bth_r h 499 (by decide) (by decide +kernel) (by decide +kernel) (by decide +kernel) (by decide +kernel) (by decide +kernel), bth_r h 504 (by decide) (by decide +kernel) (by decide +kernel) (by decide +kernel) (by decide +kernel) (by decide +kernel)⟩
    · exact ⟨bth_r h 509 (by decide) (by decide +kernel) (by decide +kernel) (by decide +kernel) (by decide +kernel) (by decide +kernel), bth_r h 514 (by decide) (by decide +kernel) (by decide +kernel) (by decide +kernel) (by decide +kernel) (by decide +kernel)⟩
  · rcases (show p = 0 ∨ p = 1 ∨ p = 2 ∨ p = 3 by omega) with rfl | rfl | rfl | rfl
    · exact ⟨bth_p h 519 (by decide) (by unfold plCe; refine ⟨?_, ⟨?_, ?_, ?_⟩, ⟨?_, ?_, ?_⟩, ⟨?_, ?_, ?_⟩, ⟨?_, ?_, ?_⟩, ⟨?_, ?_, ?_⟩, ⟨?_, ?_, ?_⟩, ⟨?_, ?_, ?_⟩, ?_, ?_⟩ <;> decide +kernel), bth_p h 543 (by decide) (by unfold plCe; refine ⟨?_, ⟨?_, ?_, ?_⟩, ⟨?_, ?_, ?_⟩, ⟨?_, ?_, ?_⟩, ⟨?_, ?_, ?_⟩, ⟨?_, ?_, ?_⟩, ⟨?_, ?_, ?_⟩, ⟨?_, ?_, ?_⟩, ?_, ?_⟩ <;> decide +kernel)⟩
    · exact ⟨bth_p h 567 (by decide) (by unfold plCe; refine ⟨?_, ⟨?_, ?_, ?_⟩, ⟨?_, ?_, ?_⟩, ⟨?_, ?_, ?_⟩, ⟨?_, ?_, ?_⟩, ⟨?_, ?_, ?_⟩, ⟨?_, ?_, ?_⟩, ⟨?_, ?_, ?_⟩, ?_, ?_⟩ <;> decide +kernel), bth_p h 591 (by decide) (by unfold plCe; refine ⟨?_, ⟨?_, ?_, ?_⟩, ⟨?_, ?_, ?_⟩, ⟨?_, ?_, ?_⟩, ⟨?_, ?_, ?_⟩, ⟨?_, ?_, ?_⟩, ⟨?_, ?_, ?_⟩, ⟨?_, ?_, ?_⟩, ?_, ?_⟩ <;> decide +kernel)⟩
    · exact ⟨bth_p h 615 (by decide) (by unfold plCe; refine ⟨?_, ⟨?_, ?_, ?_⟩, ⟨?_, ?_, ?_⟩, ⟨?_, ?_, ?_⟩, ⟨?_, ?_, ?_⟩, ⟨?_, ?_, ?_⟩, ⟨?_, ?_, ?_⟩, ⟨?_, ?_, ?_⟩, ?_, ?_⟩ <;> decide +kernel), bth_p h 639 (by decide) (by unfold plCe; refine ⟨?_, ⟨?_, ?_, ?_⟩, ⟨?_, ?_, ?_⟩, ⟨?_, ?_, ?_⟩, ⟨?_, ?_, ?_⟩, ⟨?_, ?_, ?_⟩, ⟨?_, ?_, ?_⟩, ⟨?_, ?_, ?_⟩, ?_, ?_⟩ <;> decide +kernel)⟩
    · exact ⟨bth_p h 663 (by decide) (by unfold plCe; refine ⟨?_, ⟨?_, ?_, ?_⟩, ⟨?_, ?_, ?_⟩, ⟨?_, ?_, ?_⟩, ⟨?_, ?_, ?_⟩, ⟨?_, ?_, ?_⟩, ⟨?_, ?_, ?_⟩, ⟨?_, ?_, ?_⟩, ?_, ?_⟩ <;> decide +kernel), bth_p h 687 (by decide) (by unfold plCe; refine ⟨?_, ⟨?_, ?_, ?_⟩, ⟨?_, ?_, ?_⟩, ⟨?_, ?_, ?_⟩, ⟨?_, ?_, ?_⟩, ⟨?_, ?_, ?_⟩, ⟨?_, ?_, ?_⟩, ⟨?_, ?_, ?_⟩, ?_, ?_⟩ <;> decide +kernel)⟩
theorem bth_uSt {sh : gS} {M : gM} (h : bth sh M) : uSt M z0 := by
  obtain ⟨h1, h2, h3, h4, h5, h6, h7, h8⟩ := id h
  refine ⟨⟨?_, Nat.zero_le _, fun k c hk => by cases hk⟩, ⟨?_, Nat.zero_le _, fun j c hj => by cases hj⟩, fun i i0 i1 s s0 s1 => ?_, fun p p0 p1 => ⟨?_, Or.inl rfl, fun w => by cases w⟩, Or.inl ⟨by decide, ?_⟩⟩
  · rw [h6, if_pos (by decide)]; rfl
  · rw [h6, if_pos (by decide)]; rfl
  · exact ⟨(h8 _ (by omega) (by omega)).1, (h8 _ (by omega) (by omega)).2⟩
  · have h9 := h7 17 (1, 340) (by decide) (by decide +kernel) (68 * p) (fun w => by cases w)
    exact h9
  · rw [h6, if_neg (by decide)]; rfl
theorem bth_tX {sh : gS} {M : gM} (h : bth sh M) : tX sh M 0 [] := by
  have hOK := bth_OK h
  have e : M 475 0 = 476 := by
    have h9 := bth_at h 475 (0, 0) (by decide) (by decide +kernel) 0 (fun w => by cases w)
    exact h9
  refine ⟨hOK, by rw [e]; exact sh_476 hOK, Or.inl e, ?_, ?_, Nat.zero_le _, by decide, fun j j0 j1 => ?_, fun j c hj => by cases hj⟩
  · exact bth_z h 475 (0, 0) 1 (by decide) (by decide +kernel) (by decide) rfl
  · exact bth_z h 475 (0, 0) 3 (by decide) (by decide +kernel) (by decide) rfl
  · rw [e]
    have e2 := bth_z h 476 (2, 16) j (by decide) (by decide +kernel) (by decide) rfl
    have e3 : M 476 j = 0 := e2
    rw [e3]; exact ⟨by decide, by decide⟩
theorem z0_I : zI z0 := by
  refine ⟨⟨fun k c hk => (by cases hk), fun c hc => (by cases hc)⟩, Nat.zero_le _, fun h h0 h1 => ⟨⟨List.Pairwise.nil, fun x hx => (by cases hx)⟩, Nat.zero_le _⟩, fun p p0 p1 => ⟨Or.inl rfl, fun w => (by cases w)⟩, by decide, fun w => absurd (show (0 : Int) ≤ -1 from w) (by decide)⟩
