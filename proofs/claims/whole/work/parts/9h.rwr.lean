-- ==== a COMMIT is REWRITTEN, in the class
def rEb (cs : List kC) (pl : kP) (k : Nat) (c : kC) : Bool := match kForeL c pl (k : Int) with
  | [] => decide (kFs c = [])
  | [q] => match cs[q.toNat]? with
    | some e => decide (kFs c = kFs e)
    | none => false
  | _ => false
theorem kLow_eq {cs : List kC} {c e : kC} (hc : c ∈ cs) (he : e ∈ cs) : kLow (kFs c) cs 0 = kLow (kFs e) cs 0 ↔ kFs c = kFs e := by
  constructor
  · intro h
    rcases kLow_sp (kFs c) cs 0 with ⟨-, a⟩ | ⟨j, x, a1, a2, a3, -⟩
    · exact absurd rfl (a c hc)
    · rcases kLow_sp (kFs e) cs 0 with ⟨-, b⟩ | ⟨i, y, b1, b2, b3, -⟩
      · exact absurd rfl (b e he)
      · have : i = j := by omega
        subst this
        rw [a1] at b1
        cases b1
        rw [← a2, b2]
  · intro h; rw [h]
theorem sp_X8_isEmptyByItself {sh : gS} {M : gM} {a : Int} {cs : List kC} {pl : kP} {k : Nat} {c : kC} (hOK : gOK sh M) (hC : cOk sh M cs) (hP : plOk sh M a pl) (hF : kForeOk cs pl) (hk : cs[k]? = some c) : gC (gr 2 46) yX8_isEmptyByItself cX8_isEmptyByItself 4 (some (.boolean)) [(4, 3), (4, a), (0, (k : Int))] sh M (gPp sh M (0, bI (rEb cs pl k c))) := by
  have hl := cOk_len hC hk
  have hsh := hP.1.1
  have hlt := hP.1.2.2.2.2.2.2.2.2.2.2
  refine w_X8_isEmptyByItself hOK ⟨⟨hsh, by omega⟩, _, sp_X5_foreCount hOK hC hk hP, ?_⟩
  have hfo := hF k c hk
  unfold rEb
  cases hfl : kForeL c pl (k : Int) with
  | nil =>
    rw [if_pos (show (([] : List Int).length : Int) = 0 from rfl)]
    have hct := (cT_rng hC hk).2.2
    obtain ⟨⟨z0, z1, z2, z3⟩, -⟩ := id hct
    have e2 := (tOk_c hct).1
    refine ⟨_, sp_X1_tree hOK hC hk, ⟨z0, z3⟩, ?_⟩
    rw [e2]
    by_cases q : kFs c = []
    · rw [q, if_pos (show (([] : List gF).length : Int) = 0 from rfl)]; exact ⟨by rw [decide_eq_true rfl]; rfl, rfl, rfl⟩
    · have : (kFs c).length ≠ 0 := fun z => q (List.length_eq_zero_iff.mp z)
      rw [if_neg (by omega)]; exact ⟨by rw [decide_eq_false q]; rfl, rfl, rfl⟩
  | cons q r =>
    rw [hfl] at hfo
    have hq := hfo q List.mem_cons_self
    rw [if_neg (show ¬ (((q :: r).length : Nat) : Int) = 0 by rw [List.length_cons]; omega)]
    cases r with
    | nil =>
      have hat : (kForeL c pl (k : Int))[0]? = some q := by rw [hfl]; rfl
      have hfa := sp_X5_foreAt hOK hC hk hP hat
      rw [if_pos (show ((([q] : List Int).length : Nat) : Int) = 1 from rfl)]
      refine ⟨⟨by omega, by omega⟩, _, hfa, ⟨hq.1, by omega⟩, ?_⟩
      obtain ⟨n, hn⟩ : ∃ n : Nat, q = (n : Int) := ⟨q.toNat, by omega⟩
      have hnc : cs[n]? = some cs[n] := List.getElem?_eq_getElem (by omega)
      have t1 := (hC.2.2.2 k c hk).2.2.1
      have t2 := (hC.2.2.2 n _ hnc).2.2.1
      rw [t1, hn, t2]
      simp only [Int.toNat_natCast, hnc]
      have hiff := kLow_eq (List.mem_of_getElem? hk) (List.mem_of_getElem? hnc)
      by_cases z : kFs c = kFs cs[n]
      · rw [if_pos (hiff.mpr z), decide_eq_true z]; exact ⟨rfl, rfl, rfl⟩
      · rw [if_neg (fun w => z (hiff.mp w)), decide_eq_false z]; exact ⟨rfl, rfl, rfl⟩
    | cons q2 r2 =>
      rw [if_neg (show ¬ (((q :: q2 :: r2).length : Nat) : Int) = 1 by rw [List.length_cons, List.length_cons]; omega)]
      exact ⟨rfl, rfl, rfl⟩
def rSk (pl : kP) (c d : kC) : Bool := (decide (gand (gushr (pl.2.1 11) (kWh c)) 1 ≠ 0) || decide (kHr c < pl.2.1 15)) && decide ((kPs d).length ≤ 1)
theorem sp_X8_isSkipped {sh : gS} {M : gM} {a : Int} {cs : List kC} {pl : kP} {k : Nat} {c d : kC} (hOK : gOK sh M) (hC : cOk sh M cs) (hP : plOk sh M a pl) (hk : cs[k]? = some c) (hD : dOk sh M 380 d) : gC (gr 0 0) yX8_isSkipped cX8_isSkipped 4 (some (.boolean)) [(4, 3), (4, a), (0, (k : Int))] sh M (gPp sh M (0, bI (rSk pl c d))) := by
  have hl := cOk_len hC hk
  have hlt := hP.1.2.2.2.2.2.2.2.2.2.2
  obtain ⟨⟨-, -, -, -, r5, r6⟩, -⟩ := hC.2.2.2 k c hk
  have e11 : M a 11 = pl.2.1 11 := hP.2.2.2.1 11 (by decide)
  have e15 : M a 15 = pl.2.1 15 := hP.2.2.2.1 15 (by decide)
  refine w_X8_isSkipped hOK ⟨⟨hP.1.1, by omega⟩, ⟨by omega, by omega⟩, ?_⟩
  rw [e11, e15, r5, r6]
  have fin : ∀ x1 x2 : Int, (decide (gand (gushr (pl.2.1 11) (kWh c)) 1 ≠ 0) || decide (kHr c < pl.2.1 15)) = true → P_X8_isSkipped_35 sh (gPp sh M (0, bI (rSk pl c d))) x1 x2 M := fun x1 x2 h => by
    refine w_X8_isSkipped_35 hOK ?_
    unfold rSk
    rw [h, Bool.true_and, hD.2.1]
    by_cases q : (kPs d).length ≤ 1
    · rw [if_neg (by omega), decide_eq_true q]; exact ⟨rfl, rfl, rfl⟩
    · rw [if_pos (by omega), decide_eq_false q]; exact ⟨rfl, rfl, rfl⟩
  by_cases q1 : gand (gushr (pl.2.1 11) (kWh c)) 1 = 0
  · rw [if_pos q1]
    by_cases q2 : kHr c < pl.2.1 15
    · rw [if_pos q2]; exact fin _ _ (by rw [decide_eq_true q2, Bool.or_true])
    · rw [if_neg q2]
      exact ⟨by unfold rSk; rw [decide_eq_false (show ¬ gand (gushr (pl.2.1 11) (kWh c)) 1 ≠ 0 from fun z => z q1), decide_eq_false q2]; rfl, rfl, rfl⟩
  · rw [if_neg q1]; exact fin _ _ (by rw [decide_eq_true (show gand (gushr (pl.2.1 11) (kWh c)) 1 ≠ 0 from q1), Bool.true_or])
/-- the WHO that a COMMIT comes to have; its draft -/
def rwW (pl : kP) (c : kC) : Int := (qGet (kWh c) (pl.1 6)).getD (kWh c)
def rwG (pl : kP) (im : Int → Int) (k : Nat) (c : kC) : kC × List Int := rGa im (kForeL c pl (k : Int)) ([], (rCt pl (kFs c) 0 0 []).2.2, [], rwW pl c, kHr c) []
def rwD (cs : List kC) (el : Nat → Nat → Bool) (pl : kP) (im : Int → Int) (k : Nat) (c : kC) : kC := dPs (rwG pl im k c).1 (thAll cs el (pl.2.1 12) (kFs (rwG pl im k c).1) (kPs (rwG pl im k c).1) (rwG pl im k c).2)
def rwE (cs : List kC) (el : Nat → Nat → Bool) (pl : kP) (im : Int → Int) (k : Nat) (c : kC) : Bool := decide (0 < pl.2.1 13) && rBn cs (rwD cs el pl im k c) && (decide (pl.2.1 13 = 2) || !rEb cs pl k c)
/-- a COMMIT is REWRITTEN: how, its IMAGE, COMMITS then; none: no room -/
def aRw (cs : List kC) (el : Nat → Nat → Bool) (pl : kP) (im : Int → Int) (k : Nat) (c : kC) : Option (Int × Int × List kC) :=
  if (rwE cs el pl im k c || rSk pl c (rwD cs el pl im k c)) = true then some (if rwE cs el pl im k c = true then 1 else 2, ((kPs (rwD cs el pl im k c)).head?).getD (-1), cs)
  else if (kSet cs (dAdds (rwD cs el pl im k c) (mgGo (mgM (el k) im) (mgW pl) (kMs c).length (kMs c)))).1 < 0 then none
  else some (0, kSet cs (dAdds (rwD cs el pl im k c) (mgGo (mgM (el k) im) (mgW pl) (kMs c).length (kMs c))))
theorem rGa_is (im : Int → Int) : ∀ (es : List Int) (d : kC) (ca : List Int), (rGa im es d ca).1.2 = d.2 ∧ (∀ x ∈ kPs (rGa im es d ca).1, x ∈ kPs d ∨ ∃ e ∈ es, x = im e ∧ 0 ≤ x) ∧ (∀ x ∈ (rGa im es d ca).2, x ∈ ca ∨ x ∈ es) ∧ (ca.length = (kPs d).length → (rGa im es d ca).2.length = (kPs (rGa im es d ca).1).length) ∧ ((kPs d).length ≤ 3 → (kPs (rGa im es d ca).1).length ≤ 3)
  | [], d, ca => ⟨rfl, fun x h => Or.inl h, fun x h => Or.inl h, fun h => h, fun h => h⟩
  | e :: r, d, ca => by
    unfold rGa
    split
    · rename_i q
      obtain ⟨h1, h2, h3, h4, h5⟩ := rGa_is im r (dAddP d (im e)) (ca ++ [e])
      have ea : dAddP d (im e) = dPs d (kPs d ++ [im e]) := by rw [dAddP, if_pos q.2.2]
      rw [ea] at h1 h2 h3 h4 h5 ⊢
      refine ⟨h1, fun x hx => ?_, fun x hx => ?_, fun hc => h4 ?_, fun hl => h5 ?_⟩
      · rcases h2 x hx with z | ⟨y, y1, y2⟩
        · rcases List.mem_append.mp (show x ∈ kPs d ++ [im e] from z) with w | w
          · exact Or.inl w
          · exact Or.inr ⟨e, List.mem_cons_self, List.mem_singleton.mp w, by rw [List.mem_singleton.mp w]; exact q.1⟩
        · exact Or.inr ⟨y, List.mem_cons_of_mem _ y1, y2⟩
      · rcases h3 x hx with z | z
        · rcases List.mem_append.mp z with w | w
          · exact Or.inl w
          · rw [List.mem_singleton.mp w]; exact Or.inr List.mem_cons_self
        · exact Or.inr (List.mem_cons_of_mem _ z)
      · show (ca ++ [e]).length = (kPs d ++ [im e]).length
        rw [List.length_append, List.length_append, hc]; rfl
      · show (kPs d ++ [im e]).length ≤ 3
        rw [List.length_append, List.length_singleton]; omega
    · obtain ⟨h1, h2, h3, h4, h5⟩ := rGa_is im r d ca
      refine ⟨h1, fun x hx => ?_, fun x hx => ?_, h4, h5⟩
      · rcases h2 x hx with z | ⟨y, y1, y2⟩
        · exact Or.inl z
        · exact Or.inr ⟨y, List.mem_cons_of_mem _ y1, y2⟩
      · rcases h3 x hx with z | z
        · exact Or.inl z
        · exact Or.inr (List.mem_cons_of_mem _ z)
