-- ==== origin: the class
theorem sp_X0_pairedWith {sh : gS} {M : gM} {a i : Int} {gl nl ps : List (Int × Int)} {vs : List Int} (hOK : gOK sh M) (hs0 : gsh sh a = some (0, 1) ∧ a < 758) (hK : kSh sh a) (hC : cpS M a gl nl ps vs) : gC (gr 0 0) yX0_pairedWith cX0_pairedWith 3 (some (.int)) [(4, a), (0, i)] sh M (gPp sh M (0, pwF i ps)) := by
  obtain ⟨c1, c2, c3, c4, -⟩ := hC
  obtain ⟨k6, k7, -⟩ := hK
  refine w_X0_pairedWith hOK ?_
  have lp : ∀ (suf pre : List (Int × Int)), ps = pre ++ suf → P_X0_pairedWith_2 sh (gPp sh M (0, pwF i suf)) a i (pre.length : Int) M := by
    intro suf
    induction suf with
    | nil =>
      intro pre e
      have hlen := congrArg List.length e
      rw [List.append_nil] at hlen
      refine w_X0_pairedWith_2 hOK ⟨hs0, ?_⟩
      rw [c1, if_neg (by omega)]
      exact ⟨rfl, rfl, rfl⟩
    | cons y r ih =>
      intro pre e
      have hlen := congrArg List.length e
      rw [List.length_append, List.length_cons] at hlen
      have hy : ps[pre.length]? = some y := at_mid e
      have y1 := c3 pre.length y.1 (by rw [List.getElem?_map, hy]; rfl)
      have y2 := c4 pre.length y.2 (by rw [List.getElem?_map, hy]; rfl)
      rw [Int.zero_add] at y1 y2
      refine w_X0_pairedWith_2 hOK ⟨hs0, ?_⟩
      rw [c1, if_pos (by omega)]
      refine ⟨16, k7, ⟨by omega, by omega⟩, ?_⟩
      rw [y2, pwF]
      by_cases q : y.2 = i
      · rw [if_pos q, if_pos q]
        refine ⟨16, k6, ⟨by omega, by omega⟩, ?_⟩
        rw [y1]; exact ⟨rfl, rfl, rfl⟩
      · rw [if_neg q, if_neg q, gw32_id (by omega) (by omega)]
        have := ih (pre ++ [y]) (by rw [e]; simp)
        rw [List.length_append] at this
        exact this
  exact lp ps [] rfl
def fstO (o : Option (Int × Int)) : Int := match o with
  | some q => q.1
  | none => -1
theorem sp_X11_parentWithFile {sh : gS} {M : gM} {cs : List kC} {k : Nat} {c : kC} {w : Int} (hOK : gOK sh M) (hC : cOk sh M cs) (hk : cs[k]? = some c) : gC (gr 1 22) yX11_parentWithFile cX11_parentWithFile 5 (some (.int)) [(4, 0), (0, (k : Int)), (0, w)] sh M (gPp sh M (0, fstO (osA cs w (kPs c)))) := by
  have hl9 := hC.2.1
  have hkl := (List.getElem?_eq_some_iff.mp hk).1
  obtain ⟨⟨o1, o2, -⟩, hw, -⟩ := hC.2.2.2 k c hk
  refine w_X11_parentWithFile hOK ?_
  have lp : ∀ (suf pre : List Int), kPs c = pre ++ suf → P_X11_parentWithFile_2 sh (gPp sh M (0, fstO (osA cs w suf))) (k : Int) w (pre.length : Int) M := by
    intro suf
    induction suf with
    | nil =>
      intro pre e
      have hlen := congrArg List.length e
      rw [List.append_nil] at hlen
      refine w_X11_parentWithFile_2 hOK ⟨by omega, ?_⟩
      rw [o1, if_neg (by omega)]
      exact ⟨rfl, rfl, rfl⟩
    | cons p r ih =>
      intro pre e
      have hlen := congrArg List.length e
      rw [List.length_append, List.length_cons] at hlen
      have hp := hw.2.1 p (by rw [e]; simp)
      have h3 := hw.1
      have hv := o2 pre.length p (at_mid e)
      have hpl : p.toNat < cs.length := by omega
      have hd := List.getElem?_eq_getElem hpl
      have td := (cT_rng hC hd).2.2
      have hspt := sp_X1_tree hOK hC hd
      rw [show ((p.toNat : Nat) : Int) = p by omega] at td hspt
      refine w_X11_parentWithFile_2 hOK ⟨by omega, ?_⟩
      rw [o1, if_pos (by omega)]
      refine ⟨_, sp_X1_parent hOK (by omega) (by omega), ?_⟩
      rw [hv]
      refine ⟨_, hspt, ⟨td.1.1, td.1.2.2.2⟩, _, sp_X10_find hOK td, ?_⟩
      rw [osA, fFs_at hd, gw32_id (by omega) (by omega)]
      rcases tFind_spec w (kFs cs[p.toNat]) 0 (by decide) with ⟨a, -⟩ | ⟨j, f, a, b, d, -⟩
      · rw [if_pos (by omega), if_pos a]
        have := ih (pre ++ [p]) (by rw [e]; simp)
        rw [List.length_append] at this
        exact this
      · rw [if_neg (by omega), if_neg (by omega)]
        exact ⟨rfl, rfl, rfl⟩
  exact lp (kPs c) [] rfl
theorem sp_X11_parentRenamed {sh : gS} {M : gM} {z : aS} {k : Nat} {c : kC} {i : Int} (hz : cS sh M z) (hO : kOk (aCs z)) (hT : kTen (aCs z)) (hk : (aCs z)[k]? = some c) : gC (gr 4 95) yX11_parentRenamed cX11_parentRenamed 5 (some (.int)) [(4, 0), (0, (k : Int)), (0, i)] sh M (gPm sh (fun r M1 => r = some (0, fstO (osB (aCs z) k i (kPs c))) ∧ gOK sh M1 ∧ (∀ b : Int, b < 440 ∨ 454 < b → M1 b = M b) ∧ ∀ q, osB (aCs z) k i (kPs c) = some q → ∃ gl nl ps vs, cpS M1 440 gl nl ps vs ∧ q.2 = pwF i ps)) := by
  obtain ⟨hOK0, hC0, -⟩ := id hz
  have hl9 := hC0.2.1
  have hkl := (List.getElem?_eq_some_iff.mp hk).1
  have hw := (hC0.2.2.2 k c hk).2.1
  refine w_X11_parentRenamed hOK0 ?_
  have lp : ∀ (suf pre : List Int) (M1 : gM), kPs c = pre ++ suf → gOK sh M1 → (∀ b : Int, b < 440 ∨ 454 < b → M1 b = M b) → osB (aCs z) k i suf = osB (aCs z) k i (kPs c) → P_X11_parentRenamed_2 sh (gPm sh (fun r M1 => r = some (0, fstO (osB (aCs z) k i (kPs c))) ∧ gOK sh M1 ∧ (∀ b : Int, b < 440 ∨ 454 < b → M1 b = M b) ∧ ∀ q, osB (aCs z) k i (kPs c) = some q → ∃ gl nl ps vs, cpS M1 440 gl nl ps vs ∧ q.2 = pwF i ps)) (k : Int) i (pre.length : Int) M1 := by
    intro suf
    induction suf with
    | nil =>
      intro pre M1 e hO1 hf ho
      have hlen := congrArg List.length e
      rw [List.append_nil] at hlen
      have z1 : cS sh M1 z := cS_keep hz hO1 (fun b hb => hf b (by omega))
      obtain ⟨⟨o1, o2, -⟩, -⟩ := z1.2.1.2.2.2 k c hk
      refine w_X11_parentRenamed_2 hO1 ⟨by omega, ?_⟩
      rw [o1, if_neg (by omega), ← ho]
      exact ⟨rfl, rfl, hO1, hf, fun q hq => by cases hq⟩
    | cons p r ih =>
      intro pre M1 e hO1 hf ho
      have hlen := congrArg List.length e
      rw [List.length_append, List.length_cons] at hlen
      have z1 : cS sh M1 z := cS_keep hz hO1 (fun b hb => hf b (by omega))
      have hC := z1.2.1
      obtain ⟨⟨o1, o2, -⟩, -⟩ := hC.2.2.2 k c hk
      have hp := hw.2.1 p (by rw [e]; simp)
      have h3 := hw.1
      have hv := o2 pre.length p (at_mid e)
      have hpl : p.toNat < (aCs z).length := by omega
      have hd := List.getElem?_eq_getElem hpl
      have td := (cT_rng hC hd).2.2
      have tk := (cT_rng hC hk).2.2
      have b1 := cT_lt hC hd
      have b2 := cT_lt hC hk
      have hspt := sp_X1_tree hO1 hC hd
      rw [show ((p.toNat : Nat) : Int) = p by omega] at td hspt b1
      have l1 := (hO _ _ hd).1.2.2.2.2.2.2
      have l2 := (hO k c hk).1.2.2.2.2.2.2
      have cd := hT _ (List.mem_of_getElem? hd)
      have cc := hT c (List.mem_of_getElem? hk)
      have y1 : ∀ f ∈ kFs (aCs z)[p.toNat], f.2 ≠ 0 := fun f hf => by have := (cd f hf).1; omega
      have y2 : ∀ f ∈ kFs c, f.2 ≠ 0 := fun f hf => by have := (cc f hf).1; omega
      refine w_X11_parentRenamed_2 hO1 ⟨by omega, ?_⟩
      rw [o1, if_pos (by omega)]
      refine ⟨_, sp_X1_parent hO1 (by omega) (by omega), ?_⟩
      rw [hv]
      refine ⟨_, hspt, _, sp_X1_tree hO1 hC hk, _, sp_X0_measure hO1 (hSh440 hO1) td tk ⟨Or.inl (by omega), Or.inl (by omega)⟩ (by omega) y1 y2, fun r1 M2 hP1 => ?_⟩
      obtain ⟨rfl, p1, p2, p3, p4, p5⟩ := hP1
      refine ⟨rfl, p2, _, sp_X0_pairUp p2 p1 (kSh440 p2) (hO _ _ hd).2.2 (hO k c hk).2.2 cd cc l1 l2, fun r2 M3 hP2 => ?_⟩
      obtain ⟨rfl, g1, ⟨vs, g2⟩, g3⟩ := hP2
      have hf3 : ∀ b : Int, b < 440 ∨ 454 < b → M3 b = M b := fun b hb => by rw [g3 b (by omega), p3 b (by omega)]; exact hf b hb
      refine ⟨rfl, g1, _, sp_X0_pairedWith g1 ⟨(hSh440 g1).1, by decide⟩ (kSh440 g1) g2, ?_⟩
      rw [gw32_id (by omega) (by omega)]
      rw [osB, fFs_at hd, fFs_at hk] at ho
      by_cases q : pwF i (prF (kFs (aCs z)[p.toNat]) (kFs c)) = -1
      · rw [if_pos (by omega)]
        rw [if_pos q] at ho
        have := ih (pre ++ [p]) M3 (by rw [e]; simp) g1 hf3 ho
        rw [List.length_append] at this
        exact this
      · have hnn : 0 ≤ pwF i (prF (kFs (aCs z)[p.toNat]) (kFs c)) := by
          obtain ⟨u, v, f, g, a1, a2, a3⟩ := prF_at (pwF_mem q)
          have := congrArg Prod.fst a3
          have : pwF i (prF (kFs (aCs z)[p.toNat]) (kFs c)) = (u : Int) := this
          omega
        rw [if_neg (by omega)]
        rw [if_neg q] at ho
        rw [← ho]
        exact ⟨rfl, rfl, g1, hf3, fun q2 hq2 => by cases hq2; exact ⟨_, _, _, vs, g2, rfl⟩⟩
  exact lp (kPs c) [] M rfl hOK0 (fun _ _ => rfl) rfl
theorem sp_X11_origin {sh : gS} {M : gM} {z : aS} {k i w : Int} (hz : cS sh M z) (hO : kOk (aCs z)) (hT : kTen (aCs z)) : gC (gr 5 119) yX11_origin cX11_origin 15 (some (.int)) [(4, 0), (0, k), (0, i), (0, w)] sh M (cPo sh M 0 (aOrigin z k i w) z) := by
  obtain ⟨hOK, hC, -⟩ := id hz
  have hl9 := hC.2.1
  unfold aOrigin
  refine w_X11_origin hOK ⟨_, sp_X1_has hOK hC, ?_⟩
  rw [hasI]
  by_cases q1 : bC (aCs z) k = true
  · rw [if_neg (bI_ne q1)]
    refine ⟨_, sp_X11_isFile hOK, ?_⟩
    by_cases q2 : 0 ≤ i ∧ i ≤ 15
    · rw [decide_eq_true q2, if_neg bIt]
      by_cases q3 : w < 0
      · rw [if_pos q3, if_neg (fun w => by omega)]; exact cPo_same hz rfl
      rw [if_neg q3]
      by_cases q4 : (4 : Int) < w
      · rw [if_pos q4, if_neg (fun w => by omega)]; exact cPo_same hz rfl
      rw [if_neg q4, if_pos (show bC (aCs z) k = true ∧ (0 ≤ i ∧ i ≤ 15) ∧ (0 ≤ w ∧ w ≤ 4) from ⟨q1, q2, by omega, by omega⟩)]
      obtain ⟨n, c, rfl, hk, hl⟩ := bC_at q1
      rw [Int.toNat_natCast, fFs_at hk]
      have t1 := (cT_rng hC hk).2.2
      refine ⟨_, sp_X1_tree hOK hC hk, ⟨t1.1.1, t1.1.2.2.2⟩, ?_⟩
      rw [(tOk_c t1).1]
      by_cases q5 : i < ((kFs c).length : Int)
      · rw [if_pos q5, if_pos q5]
        obtain ⟨j, rfl⟩ : ∃ j : Nat, i = (j : Int) := ⟨i.toNat, by omega⟩
        have hj := List.getElem?_eq_getElem (show j < (kFs c).length by omega)
        -- what is answered
        have don : ∀ (s : oS) (V : Int) (M1 : gM), cS sh M1 z → (∀ b : Int, (b = 475 ∨ b = 476 ∨ 710 < b) → M1 b = M b) → (∃ m, f01 s.2.2.2.2 m) → orV s w = V → (if w = 0 then cPo sh M 0 V z (some (0, (s.1 : Int))) sh M1 else if w = 1 then cPo sh M 0 V z (some (0, s.2.1)) sh M1 else if w = 2 then cPo sh M 0 V z (some (0, s.2.2.1)) sh M1 else if w = 3 then cPo sh M 0 V z (some (0, s.2.2.2.1)) sh M1 else ∃ v330 : Int, gC (gr 0 0) yX11_floatBits cX11_floatBits 5 (some (.int)) [(2, s.2.2.2.2)] sh M1 (gPp sh M1 (0, v330)) ∧ cPo sh M 0 V z (some (0, v330)) sh M1) := fun s V M1 z1 f1 ⟨m, hm⟩ e => by
          unfold orV at e
          by_cases w0 : w = 0
          · rw [if_pos w0]; rw [if_pos w0] at e; exact ⟨rfl, by rw [e], z1, f1⟩
          rw [if_neg w0]; rw [if_neg w0] at e
          by_cases w1 : w = 1
          · rw [if_pos w1]; rw [if_pos w1] at e; exact ⟨rfl, by rw [e], z1, f1⟩
          rw [if_neg w1]; rw [if_neg w1] at e
          by_cases w2 : w = 2
          · rw [if_pos w2]; rw [if_pos w2] at e; exact ⟨rfl, by rw [e], z1, f1⟩
          rw [if_neg w2]; rw [if_neg w2] at e
          by_cases w3 : w = 3
          · rw [if_pos w3]; rw [if_pos w3] at e; exact ⟨rfl, by rw [e], z1, f1⟩
          rw [if_neg w3]; rw [if_neg w3] at e
          exact ⟨_, sp_X11_floatBits z1.1 hm, rfl, by rw [← f01_bit hm, e], z1, f1⟩
        have lp : ∀ (m : Nat) (s : oS) (st : Nat) (M1 : gM), s.1 < m → st + s.1 ≤ 119 → cS sh M1 z → (∀ b : Int, (b = 475 ∨ b = 476 ∨ 710 < b) → M1 b = M b) → orOk (aCs z) s → P_X11_origin_65 sh (cPo sh M 0 (orV (orG (aCs z) m s) w) z) (n : Int) (j : Int) w (s.1 : Int) s.2.1 s.2.2.1 s.2.2.2.1 s.2.2.2.2 (st : Int) M1 := by
          intro m
          induction m with
          | zero => intro s st M1 h; omega
          | succ m ih =>
            intro s st M1 hm hst z1 f1 hs
            obtain ⟨s1, ⟨j0, f0, s2, s3⟩, s4, s5, hf⟩ := id hs
            have hc := List.getElem?_eq_getElem s1
            generalize (aCs z)[s.1] = d at hc
            have hps : fPs (aCs z) s.1 = kPs d := by unfold fPs; rw [hc]
            have hO1 := z1.1
            have hC1 := z1.2.1
            have tk := (cT_rng hC1 hc).2.2
            have hpt : pthAt (fFs (aCs z) s.1) s.2.1 = f0.1 := by rw [s2]; exact pthAt_at s3
            rw [fFs_at hc] at s3
            have j16 := (List.getElem?_eq_some_iff.mp s3).1
            have tl := tk.2.2.2
            have pv := (tk.2.2.1.2.2 j0 f0 s3).1
            rw [Int.zero_add] at pv
            refine w_X11_origin_65 hO1 ?_
            rw [if_pos (by omega)]
            refine ⟨_, sp_X1_tree hO1 hC1 hc, ⟨tk.1.1, tk.1.2.2.2⟩, 16, tk.1.2.1, ⟨by omega, by omega⟩, ?_⟩
            rw [s2, pv]
            refine ⟨_, sp_X11_parentWithFile hO1 hC1 hc, ?_⟩
            -- a step is taken
            have step : ∀ (q : Int × Int × Int) (M2 : gM), osN (aCs z) s.1 s.2.1 = some q → cS sh M2 z → (∀ b : Int, (b = 475 ∨ b = 476 ∨ 710 < b) → M2 b = M b) → ∀ x10 : Int, x10 = q.1 → P_X11_origin_179 sh (cPo sh M 0 (orV (orG (aCs z) (m + 1) s) w) z) (n : Int) (j : Int) w (s.1 : Int) (j0 : Int) s.2.2.1 s.2.2.2.1 s.2.2.2.2 (st : Int) x10 q.2.2 q.2.1 M2 := by
              intro q M2 hq z2 f2 x10 hx
              obtain ⟨n1, n2, n3⟩ := orN_ok hO hT hs hq
              obtain ⟨a, b, jj, g, e1, e2⟩ := osN_at hq
              have hpl : q.1.toNat < (aCs z).length := n1.1
              have hdd := List.getElem?_eq_getElem hpl
              generalize (aCs z)[q.1.toNat] = dd at hdd
              have hO2 := z2.1
              have hC2 := z2.2.1
              have tk2 := (cT_rng hC2 hc).2.2
              have tp := (cT_rng hC2 hdd).2.2
              have hspt := sp_X1_tree hO2 hC2 hdd
              rw [n3] at tp hspt
              have e2' := e2
              rw [fFs_at hdd] at e2'
              have jj16 := (List.getElem?_eq_some_iff.mp e2').1
              have tlp := tp.2.2.2
              have tlk := tk2.2.2.2
              have cv := (tk2.2.2.1.2.2 j0 f0 s3).2.1
              have cw := (tp.2.2.1.2.2 jj g e2').2.1
              rw [Int.zero_add] at cv cw
              have c0 : cRg f0.2 := hT d (List.mem_of_getElem? hc) f0 (List.mem_of_getElem? s3)
              have c1 : cRg g.2 := hT dd (List.mem_of_getElem? hdd) g (List.mem_of_getElem? e2')
              obtain ⟨⟨mm, hmm⟩, -⟩ := lk_01 c1 c0
              obtain ⟨nn, hnn⟩ := hf
              obtain ⟨kk, hkk, hgd⟩ := f01_mul hnn hmm
              have t1 : tC (fFs (aCs z) q.1.toNat) q.2.1 = g.2 := by rw [e1]; exact tC_at e2
              have t0 : tC (fFs (aCs z) s.1) s.2.1 = f0.2 := by rw [s2, fFs_at hc]; exact tC_at s3
              have hg : orG (aCs z) (m + 1) s = orG (aCs z) m (orN (aCs z) s q) := by rw [orG, hq]
              rw [hx, hg]
              refine w_X11_origin_179 hO2 ?_
              rw [e1, if_neg (by omega)]
              refine ⟨_, sp_X1_tree hO2 hC2 hc, ⟨tk2.1.1, tk2.1.2.2.2⟩, 16, tk2.1.2.2.1, ⟨by omega, by omega⟩, _, hspt, ⟨tp.1.1, tp.1.2.2.2⟩, 16, tp.1.2.2.1, ⟨by omega, by omega⟩, ?_⟩
              rw [cv, cw]
              refine ⟨_, sp_X0_alike hO2 (hSh440 hO2).1 (kSh440 hO2) c1 c0, fun r3 M3 hP3 => ?_⟩
              obtain ⟨rfl, u1, u2⟩ := hP3
              refine ⟨_, rfl, u1, hgd, ?_⟩
              have z3 : cS sh M3 z := cS_keep z2 u1 (fun b hb => u2 b (by omega))
              have f3 : ∀ b : Int, (b = 475 ∨ b = 476 ∨ 710 < b) → M3 b = M b := fun b hb => by rw [u2 b (by omega)]; exact f2 b hb
              have nx := ih (orN (aCs z) s q) (st + 1) M3 (by omega) (by omega) z3 f3 n1
              have en : (orN (aCs z) s q) = (q.1.toNat, q.2.1, s.2.2.1 + (if f0.2 = g.2 then 0 else 1), s.2.2.2.1 + q.2.2, gfl (FP.fmul (gu s.2.2.2.2) (gu (lkF g.2 f0.2)))) := by unfold orN; rw [t1, t0]
              have n3' : (((orN (aCs z) s q).1 : Nat) : Int) = q.1 := n3
              have last : ∀ b1 : Int, b1 = (if f0.2 = g.2 then 0 else 1) → P_X11_origin_253 sh (cPo sh M 0 (orV (orG (aCs z) m (orN (aCs z) s q)) w) z) (n : Int) (j : Int) w (s.1 : Int) (j0 : Int) s.2.2.1 s.2.2.2.1 (gfl (FP.fmul (gu s.2.2.2.2) (gu (lkF g.2 f0.2)))) (st : Int) q.1 q.2.2 (jj : Int) f0.2 g.2 s.2.2.1 b1 M3 := fun b1 hb1 => by
                refine w_X11_origin_253 u1 ?_
                have hb : b1 = 0 ∨ b1 = 1 := by rw [hb1]; split <;> omega
                have nx2 := nx
                rw [n3', show (orN (aCs z) s q).2.1 = (jj : Int) by rw [en]; exact e1, show (orN (aCs z) s q).2.2.1 = s.2.2.1 + b1 by rw [en, hb1], show (orN (aCs z) s q).2.2.2.1 = s.2.2.2.1 + q.2.2 by rw [en], show (orN (aCs z) s q).2.2.2.2 = gfl (FP.fmul (gu s.2.2.2.2) (gu (lkF g.2 f0.2))) by rw [en]] at nx2
                rw [gw32_id (z := s.2.2.1 + b1) (by omega) (by omega), gw32_id (z := s.2.2.2.1 + 0) (by omega) (by omega), gw32_id (z := s.2.2.2.1 + 1) (by omega) (by omega), gw32_id (z := (st : Int) + 1) (by omega) (by omega)]
                rcases b with b0 | b0
                · rw [if_pos b0]; rw [b0] at nx2; exact nx2
                · rw [if_neg (by omega)]; rw [b0] at nx2; exact nx2
              by_cases ec : g.2 = f0.2
              · rw [if_pos ec]; exact last 0 (by rw [if_pos ec.symm])
              · rw [if_neg ec]; exact last 1 (by rw [if_neg (fun w => ec w.symm)])
            have stop : osN (aCs z) s.1 s.2.1 = none → orG (aCs z) (m + 1) s = s := fun h => by rw [orG, h]
            cases ha : osA (aCs z) f0.1 (kPs d) with
            | some q =>
              obtain ⟨a1, j2, g2, a3, a4⟩ := osA_at ha
              have hp := (hO s.1 d hc).1.2.1 q.1 a1
              have hos : osN (aCs z) s.1 s.2.1 = some (q.1, q.2, 0) := by unfold osN; rw [hpt, hps, ha]
              have hpl : q.1.toNat < (aCs z).length := by omega
              have hdd := List.getElem?_eq_getElem hpl
              have tp := (cT_rng hC1 hdd).2.2
              have hspt := sp_X1_tree hO1 hC1 hdd
              rw [show ((q.1.toNat : Nat) : Int) = q.1 by omega] at tp hspt
              show (if fstO (some q) < 0 then _ else _)
              rw [show fstO (some q) = q.1 from rfl, if_neg (by omega)]
              refine w_X11_origin_125 hO1 ?_
              rw [if_neg (by omega), if_pos rfl]
              refine ⟨_, hspt, _, sp_X1_tree hO1 hC1 hc, ⟨tk.1.1, tk.1.2.2.2⟩, 16, tk.1.2.1, ⟨by omega, by omega⟩, ⟨tp.1.1, tp.1.2.2.2⟩, ?_⟩
              rw [pv]
              refine ⟨_, sp_X10_find hO1 tp, ?_⟩
              have eq2 : tFind f0.1 (kFs (aCs z)[q.1.toNat]) 0 = q.2 := by
                have key : ∀ (ps : List Int), osA (aCs z) f0.1 ps = some q → tFind f0.1 (fFs (aCs z) q.1.toNat) 0 = q.2 := fun ps => by
                  induction ps with
                  | nil => intro h; cases h
                  | cons p r ihp =>
                    intro h
                    rw [osA] at h
                    by_cases e : tFind f0.1 (fFs (aCs z) p.toNat) 0 = -1
                    · rw [if_pos e] at h; exact ihp h
                    · rw [if_neg e] at h; cases h; rfl
                have := key (kPs d) ha
                rw [fFs_at hdd] at this
                exact this
              rw [eq2]
              exact step _ M1 hos z1 f1 q.1 rfl
            | none =>
              show (if fstO none < 0 then _ else _)
              rw [show fstO none = -1 from rfl, if_pos (by decide)]
              refine ⟨_, sp_X11_parentRenamed z1 hO hT hc, fun r2 M2 hP2 => ?_⟩
              obtain ⟨rfl, g1, g2, g3⟩ := hP2
              have z2 : cS sh M2 z := cS_keep z1 g1 (fun b hb => g2 b (by omega))
              have f2 : ∀ b : Int, (b = 475 ∨ b = 476 ∨ 710 < b) → M2 b = M b := fun b hb => by rw [g2 b (by omega)]; exact f1 b hb
              refine ⟨_, rfl, g1, ?_⟩
              rw [s2] at step stop
              cases hb : osB (aCs z) s.1 (j0 : Int) (kPs d) with
              | none =>
                have hos : osN (aCs z) s.1 (j0 : Int) = none := by
                  unfold osN
                  rw [← s2, hpt, hps, ha, s2, hb]
                refine w_X11_origin_125 g1 ?_
                rw [show fstO none = -1 from rfl, if_pos (by decide), stop hos]
                have := don s _ M2 z2 f2 hf rfl
                rw [s2] at this
                exact this
              | some q =>
                obtain ⟨a1, j2, gg, a3, a4⟩ := osB_at hb
                have hp := (hO s.1 d hc).1.2.1 q.1 a1
                have hos : osN (aCs z) s.1 (j0 : Int) = some (q.1, q.2, 1) := by
                  unfold osN
                  rw [← s2, hpt, hps, ha, s2, hb]
                obtain ⟨gl, nl, ps, vs, hcp, hqq⟩ := g3 q hb
                refine w_X11_origin_125 g1 ?_
                rw [show fstO (some q) = q.1 from rfl, if_neg (by omega), if_neg (by decide)]
                refine ⟨_, sp_X0_pairedWith g1 ⟨(hSh440 g1).1, by decide⟩ (kSh440 g1) hcp, ?_⟩
                rw [← hqq]
                exact step _ M2 hos z2 f2 q.1 rfl
        exact lp (n + 1) (n, (j : Int), 0, 0, gfl FP.fconst1) 0 M (by show n < n + 1; omega) (by show 0 + n ≤ 119; omega) hz (fun _ _ => rfl) ⟨hl, ⟨j, _, rfl, by rw [fFs_at hk]; exact hj⟩, ⟨Int.le_refl 0, by show (0 : Int) + (n : Int) ≤ 119; omega⟩, ⟨Int.le_refl 0, by show (0 : Int) + (n : Int) ≤ 119; omega⟩, _, f01_one⟩
      · rw [if_neg q5, if_neg q5]; exact cPo_same hz rfl
    · rw [decide_eq_false q2, if_pos bIf, if_neg (fun w => q2 w.2.1)]; exact cPo_same hz rfl
  · rw [if_pos (bI_eq (by simpa using q1)), if_neg (fun w => q1 w.1)]; exact cPo_same hz rfl
