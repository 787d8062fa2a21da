-- ==== a TREE is carried: the walk
theorem sp_X8_carryTree {sh : gS} {M : gM} {a u : Int} {m : Nat} {fs : List gF} {pl : kP} (hOK : gOK sh M) (hP : plOk sh M a pl) (hR : plRng pl) (hU : tOk sh M u m fs) (hfl : fs.length ≤ 16) (hfc : ∀ f ∈ fs, 0 ≤ f.2 ∧ f.2 < 2147483648) (ha : 397 < a) (hu : 3 < u ∧ u + 2 < 380) :
    gC (gr 3 73) yX8_carryTree cX8_carryTree 8 none [(4, 3), (4, a), (4, u)] sh M (gPm sh (fun r M1 => r = none ∧ ctP sh M (rCt pl fs 0 0 []).1 (rCt pl fs 0 0 []).2.1 (rCt pl fs 0 0 []).2.2 M1)) := by
  have hap := hP.1.1
  obtain ⟨hr1, hr2, hr3⟩ := hR
  obtain ⟨⟨hu0, hu1, hu2, hult⟩, hm, hUT, hul⟩ := id hU
  have hsp := hP.1
  obtain ⟨-, x1, x2, x3, x4, -⟩ := hsp
  have y1 := x1.1
  have y2 := x2.1
  have y4 := x4.1
  generalize hx : rCt pl fs 0 0 [] = x
  have lp : ∀ (suf pre : List gF) (i tk ls : Int) (acc : List gF) (M1 : gM) (w5 w6 w7 : gV), gw w5 → gw w6 → gw w7 → fs = pre ++ suf → i = (pre.length : Int) → tSuf M u i suf → (acc.length : Int) ≤ i → 0 ≤ tk → tk ≤ i → 0 ≤ ls → ls ≤ i → ctP sh M tk ls acc M1 → rCt pl suf tk ls acc = x →
      gA (gr 3 73) yX8_carryTree cX8_carryTree 8 none (gPm sh (fun r M1 => r = none ∧ ctP sh M x.1 x.2.1 x.2.2 M1)) (0, 0) 26 [(4, 3), (4, a), (4, u), (4, 382), (0, i), w5, w6, w7] [] sh M1 := by
    intro suf
    induction suf with
    | nil =>
      intro pre i tk ls acc M1 w5 w6 w7 g5 g6 g7 e1 e2 hS hacc t0 t1 l0 l1 hG hv
      obtain ⟨hT1, hk6, hk7, hO1, hF1⟩ := id hG
      have h0 := tSuf_nil hS
      have ec : M1 u 2 = M u 2 := by rw [hF1 u (by omega) (by omega) (by omega) (by omega)]
      refine g_iload (q0 := 28) (j := 4) rfl dX8_carryTree_26 rfl ?_
      refine g_aload_n (q0 := 29) (j := 2) rfl dX8_carryTree_28 rfl ?_
      refine g_getf (q0 := 32) (t := 0) (fi := 2) rfl rfl ff_X8_171 dX8_carryTree_29 rfl (by assumption) ?_
      refine g_icmp_ge (q0 := 35) (tgt := 181) rfl dX8_carryTree_32 (by decide) (fun h32 => ?_) (fun h32 => ?_)
      · refine g_return dX8_carryTree_181 rfl ⟨Nat.zero_le _, Nat.zero_le _⟩ ?_
        rw [← hv]
        exact ⟨rfl, rfl, hG⟩
      · omega
    | cons f r ih =>
      intro pre i tk ls acc M1 w5 w6 w7 g5 g6 g7 e1 e2 hS hacc t0 t1 l0 l1 hG hv
      obtain ⟨hT1, hk6, hk7, hO1, hF1⟩ := id hG
      obtain ⟨k0, k1, k2, k3, k4, k5⟩ := tSuf_cons hS
      have hl9 : fs.length = pre.length + r.length + 1 := by rw [e1]; simp; omega
      have ec : M1 u 2 = M u 2 := by rw [hF1 u (by omega) (by omega) (by omega) (by omega)]
      have ec1 : M1 (u + 1) i = f.1 := by rw [hF1 (u + 1) (by omega) (by omega) (by omega) (by omega)]; exact k2
      have ec2 : M1 (u + 2) i = f.2 := by rw [hF1 (u + 2) (by omega) (by omega) (by omega) (by omega)]; exact k3
      have hfc1 := hfc f (by rw [e1]; simp)
      have hP1 := plOk_keep (M1 := M1) hP (fun b b0 b1 => hF1 b (by omega) (by omega) (by omega) (by omega))
      obtain ⟨hq0, hq1, hq3⟩ := plKeep hP1
      have em : M1 a 16 = pl.2.1 16 := hP1.2.2.2.1 16 (by decide)
      have e1b : fs = (pre ++ [f]) ++ r := by rw [e1]; simp
      have e2b : i + 1 = ((pre ++ [f]).length : Int) := by simp; omega
      have hfw : gw (0, f.1) := ⟨by show -2147483648 ≤ f.1; omega, by show f.1 < 2147483648; omega⟩
      have hdr := dgN_rng 6 f.2
      rw [rCt] at hv
      -- not TAKEN
      have hskip : rTk pl f = false → ∀ (w6 w7 : gV), gw w6 → gw w7 → gA (gr 3 73) yX8_carryTree cX8_carryTree 8 none (gPm sh (fun r M1 => r = none ∧ ctP sh M x.1 x.2.1 x.2.2 M1)) (0, 0) 175 [(4, 3), (4, a), (4, u), (4, 382), (0, i), (0, f.1), w6, w7] [] sh M1 := by
        intro hn w6 w7 g6 g7
        rw [if_neg (by rw [hn]; decide)] at hv
        refine g_iinc (q0 := 178) (lv2 := [_, _, _, _, _, _, _, _]) rfl dX8_carryTree_175 rfl (by decide) rfl rfl (by omega) (by omega) ?_
        refine g_goto (tgt := 26) dX8_carryTree_178 (by decide) ?_
        exact ih _ _ tk ls acc M1 _ _ _ hfw g6 g7 e1b e2b k5 (by omega) t0 (by omega) l0 (by omega) hG hv
      -- TAKEN
      have htake : rTk pl f = true → ∀ (w6 w7 : gV), gw w6 → gw w7 → gA (gr 3 73) yX8_carryTree cX8_carryTree 8 none (gPm sh (fun r M1 => r = none ∧ ctP sh M x.1 x.2.1 x.2.2 M1)) (0, 0) 110 [(4, 3), (4, a), (4, u), (4, 382), (0, i), (0, f.1), w6, w7] [] sh M1 := by
        intro hy w6 w7 g6 g7
        rw [if_pos hy] at hv
        sorry
      sorry
  sorry
