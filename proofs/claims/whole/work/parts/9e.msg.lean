-- ==== MESSAGE': its pieces, in the class
def rT (lo hi : Int) : List Int → List Int
  | [] => []
  | c :: r => if lo ≤ c ∧ c ≤ hi then c :: rT lo hi r else []
def rR (lo hi : Int) : List Int → List Int
  | [] => []
  | c :: r => if lo ≤ c ∧ c ≤ hi then rR lo hi r else c :: r
theorem rT_app (lo hi : Int) : ∀ s : List Int, rT lo hi s ++ rR lo hi s = s
  | [] => rfl
  | c :: r => by
    unfold rT rR
    split
    · rw [List.cons_append, rT_app lo hi r]
    · rfl
theorem rT_in {lo hi : Int} : ∀ (s : List Int), ∀ c ∈ rT lo hi s, lo ≤ c ∧ c ≤ hi
  | [], c, h => by cases h
  | d :: r, c, h => by
    unfold rT at h
    split at h
    · rename_i q
      rcases List.mem_cons.mp h with e | e
      · rw [e]; exact q
      · exact rT_in r c e
    · cases h
theorem rT_ls (s : List Int) : isLs (rT 97 122 s) := rT_in s
def msgAt (M : gM) (k : Int) (ms : List Int) : Prop := (0 ≤ k ∧ k < 120) ∧ M 10 k = (ms.length : Int) ∧ rw_ (M 9) (k * 24) ms ∧ ms.length ≤ 24 ∧ ∀ b ∈ ms, 0 ≤ b ∧ b < 128
theorem msgAt_fr {M M1 : gM} {k : Int} {ms : List Int} (h : msgAt M k ms) (h9 : M1 9 = M 9) (h10 : M1 10 = M 10) : msgAt M1 k ms := by
  unfold msgAt; rw [h9, h10]; exact h
theorem msgAt_C {sh : gS} {M : gM} {cs : List kC} {k : Nat} {c : kC} (hC : cOk sh M cs) (hk : cs[k]? = some c) : msgAt M (k : Int) (kMs c) := by
  have hl := cOk_len hC hk
  obtain ⟨⟨-, -, r3, r4, -⟩, ⟨-, -, w3, w4, -⟩, -⟩ := hC.2.2.2 k c hk
  exact ⟨⟨by omega, by omega⟩, r3, r4, w3, w4⟩
theorem sp_msgByte {sh : gS} {M : gM} {k : Int} {ms pre r : List Int} {c : Int} (hOK : gOK sh M) (h : msgAt M k ms) (e : ms = pre ++ c :: r) : gC (gr 0 0) yX1_messageByte cX1_messageByte 3 (some (.int)) [(4, 4), (0, k), (0, (pre.length : Int))] sh M (gPp sh M (0, c)) := by
  obtain ⟨h1, h2, h3, h4, h5⟩ := h
  have hl := len_mid e
  have := sp_X1_messageByte (i := (pre.length : Int)) hOK h1 ⟨by omega, by omega⟩
  rw [h3 pre.length c (by rw [e, List.getElem?_append_right (Nat.le_refl _), Nat.sub_self]; rfl)] at this
  exact this
def pcN (c : Int) (r : List Int) : Nat := if c = 35 then (rT 48 57 r).length else if 97 ≤ c ∧ c ≤ 122 then (rT 97 122 r).length else 0
theorem sp_X8_endOfPiece {sh : gS} {M : gM} {k : Int} {ms pre r : List Int} {c : Int} (hOK : gOK sh M) (h : msgAt M k ms) (e : ms = pre ++ c :: r) : gC (gr 1 22) yX8_endOfPiece cX8_endOfPiece 7 (some (.int)) [(4, 3), (0, k), (0, (pre.length : Int))] sh M (gPp sh M (0, ((pre.length + 1 + pcN c r : Nat) : Int))) := by
  obtain ⟨h1, h2, h3, h4, h5⟩ := id h
  have hl := len_mid e
  have nx : ((pre.length : Int) + 1) = ((pre.length + 1 : Nat) : Int) := by omega
  have lp : ∀ (lo hi x2 x3 : Int) (v : Nat) (suf p1 : List Int), ms = p1 ++ suf → p1.length + (rT lo hi suf).length = v → P_X8_endOfPiece_66 sh (gPp sh M (0, (v : Int))) k x2 x3 lo hi (p1.length : Int) M := by
    intro lo hi x2 x3 v suf
    induction suf with
    | nil =>
      intro p1 e1 hv
      rw [List.append_nil] at e1
      refine w_X8_endOfPiece_66 hOK ⟨h1, ?_⟩
      rw [h2, e1, if_neg (by omega)]
      exact ⟨by rw [← hv]; rfl, rfl, rfl⟩
    | cons d q ih =>
      intro p1 e1 hv
      have hl1 := len_mid e1
      refine w_X8_endOfPiece_66 hOK ⟨h1, ?_⟩
      rw [h2, if_pos (by omega)]
      refine ⟨_, sp_msgByte hOK h e1, ?_⟩
      unfold rT at hv
      by_cases c1 : d < lo
      · rw [if_pos c1]
        rw [if_neg (by omega)] at hv
        exact ⟨by rw [← hv]; rfl, rfl, rfl⟩
      · rw [if_neg c1]
        refine ⟨_, sp_msgByte hOK h e1, ?_⟩
        by_cases c2 : hi < d
        · rw [if_pos c2]
          rw [if_neg (by omega)] at hv
          exact ⟨by rw [← hv]; rfl, rfl, rfl⟩
        · rw [if_neg c2, gw32_id (by omega) (by omega)]
          rw [if_pos (by omega), List.length_cons] at hv
          have := ih (p1 ++ [d]) (app_mid e1) (by rw [List.length_append, List.length_singleton]; omega)
          rw [List.length_append, List.length_singleton] at this
          rw [show (p1.length : Int) + 1 = ((p1.length + 1 : Nat) : Int) by omega]
          exact this
  have go : ∀ (lo hi x3 : Int) (v : Nat), pre.length + 1 + (rT lo hi r).length = v → P_X8_endOfPiece_66 sh (gPp sh M (0, (v : Int))) k (pre.length : Int) x3 lo hi (gw32 ((pre.length : Int) + 1)) M := fun lo hi x3 v hv => by
    have := lp lo hi (pre.length : Int) x3 v r (pre ++ [c]) (app_mid e) (by rw [List.length_append, List.length_singleton]; exact hv)
    rw [List.length_append, List.length_singleton] at this
    rw [gw32_id (by omega) (by omega), nx]
    exact this
  refine w_X8_endOfPiece hOK ⟨_, sp_msgByte hOK h e, ?_⟩
  unfold pcN
  by_cases c35 : c = 35
  · rw [if_pos c35, if_pos c35, if_pos c35]
    refine w_X8_endOfPiece_38 hOK ?_
    rw [if_pos c35]
    exact go 48 57 c _ rfl
  · rw [if_neg c35, if_neg c35, if_neg c35]
    refine w_X8_endOfPiece_38 hOK ?_
    rw [if_neg c35]
    by_cases c1 : c < 97
    · rw [if_pos c1, if_neg (show ¬ (97 ≤ c ∧ c ≤ 122) by omega), gw32_id (by omega) (by omega)]
      exact ⟨by rw [nx], rfl, rfl⟩
    · rw [if_neg c1]
      by_cases c2 : 122 < c
      · rw [if_pos c2, if_neg (show ¬ (97 ≤ c ∧ c ≤ 122) by omega), gw32_id (by omega) (by omega)]
        exact ⟨by rw [nx], rfl, rfl⟩
      · rw [if_neg c2, if_pos (show 97 ≤ c ∧ c ≤ 122 by omega)]
        exact go 97 122 c _ rfl
theorem or5 {v d : Int} (hv : 0 ≤ v ∧ v < 32768) (hd : 0 ≤ d ∧ d < 32) : gor (gshl v 5) d = 32 * v + d := by
  have eg : gshl v 5 = v * 32 := by
    rw [gshl_mul hv.1 5 5 (by decide +kernel) (by simp; omega)]
    simp
  rw [eg, gor_add 5 (by omega) (by omega) (by omega) (by simp; omega) (by decide) (by simp)]
  omega
theorem sp_X8_wordAt {sh : gS} {M : gM} {k : Int} {ms pre w rest : List Int} (hOK : gOK sh M) (h : msgAt M k ms) (e : ms = pre ++ (w ++ rest)) (hw : isLs w) (h4 : w.length ≤ 4) : gC (gr 1 22) yX8_wordAt cX8_wordAt 6 (some (.int)) [(4, 3), (0, k), (0, (pre.length : Int)), (0, ((pre.length + w.length : Nat) : Int))] sh M (gPp sh M (0, cdF 0 w)) := by
  have hll := h.2.2.2.1
  have hlt : ms.length = pre.length + (w.length + rest.length) := by rw [e]; simp
  have lp : ∀ (w2 w1 : List Int), w = w1 ++ w2 → P_X8_wordAt_6 sh (gPp sh M (0, cdF 0 w)) k (pre.length : Int) ((pre.length + w.length : Nat) : Int) (cdF 0 w1) ((pre.length + w1.length : Nat) : Int) M := by
    intro w2
    induction w2 with
    | nil =>
      intro w1 e1
      rw [List.append_nil] at e1
      refine w_X8_wordAt_6 hOK ?_
      rw [e1, if_neg (by omega)]
      exact ⟨rfl, rfl, rfl⟩
    | cons c r ih =>
      intro w1 e1
      have hl1 := len_mid e1
      have hc := hw c (by rw [e1]; simp)
      have rg := cdF_rng w1.length w1 rfl (fun x hx => hw x (by rw [e1]; exact List.mem_append_left _ hx))
      have p3 : (32 ^ w1.length : Nat) ≤ 32 ^ 3 := Nat.pow_le_pow_right (by decide) (by omega)
      have p3' : (32 ^ 3 : Nat) = 32768 := by decide
      have eb := sp_msgByte (pre := pre ++ w1) (c := c) (r := r ++ rest) hOK h (by rw [e, e1]; simp)
      rw [List.length_append] at eb
      refine w_X8_wordAt_6 hOK ?_
      rw [if_pos (by omega)]
      refine ⟨_, eb, ?_⟩
      rw [gw32_id (z := c - 97) (by omega) (by omega), gw32_id (z := c - 97 + 1) (by omega) (by omega), gw32_id (by omega) (by omega), or5 (by omega) (by omega)]
      have := ih (w1 ++ [c]) (app_mid e1)
      rw [cdF_app, List.length_append, List.length_singleton] at this
      rw [show 32 * cdF 0 w1 + (c - 97 + 1) = 32 * cdF 0 w1 + c - 96 by omega, show ((pre.length + w1.length : Nat) : Int) + 1 = ((pre.length + (w1.length + 1) : Nat) : Int) by omega]
      exact this
  refine w_X8_wordAt hOK ?_
  have := lp w [] rfl
  rw [List.length_nil, Nat.add_zero] at this
  exact this
-- ---- what is added to the draft
def dAdds (d : kC) (l : List Int) : kC := l.foldl dAddM d
theorem dAdds_app (d : kC) (a b : List Int) : dAdds d (a ++ b) = dAdds (dAdds d a) b := List.foldl_append
theorem dAdds_is : ∀ (l : List Int) (d : kC), (kMs d).length ≤ 24 → dAdds d l = dMs d ((kMs d ++ l).take 24)
  | [], d, h => by
    rw [List.append_nil, List.take_of_length_le h]; rfl
  | c :: r, d, h => by
    show dAdds (dAddM d c) r = _
    unfold dAddM
    by_cases q : (kMs d).length < 24
    · rw [if_pos q, dAdds_is r _ (by show (kMs d ++ [c]).length ≤ 24; rw [List.length_append, List.length_singleton]; omega)]
      show dMs d ((kMs d ++ [c] ++ r).take 24) = _
      rw [List.append_assoc]; rfl
    · rw [if_neg q, dAdds_is r d h, List.take_append_of_le_length (by omega), List.take_append_of_le_length (by omega)]
def dQ (sh : gS) (M : gM) (d : kC) (M1 : gM) : Prop := dOk sh M1 380 d ∧ gOK sh M1 ∧ ∀ b : Int, b < 380 ∨ 388 < b → M1 b = M b
theorem dQ_add {sh : gS} {M M1 M2 : gM} {d d2 : kC} (h : dQ sh M d M1) (h2 : dPost sh M1 380 d2 M2) : dQ sh M d2 M2 := by
  obtain ⟨a, b, c⟩ := h2
  exact ⟨a, b, fun x hx => (c x (by omega)).trans (h.2.2 x hx)⟩
/-- letters of a word, the highest first; so many at most -/
def wBits (v : Int) : Nat → List Int
  | 0 => []
  | n + 1 => if v / (32 ^ n : Nat) % 32 = 0 then wBits v n else (96 + v / (32 ^ n : Nat) % 32) :: wBits v n
theorem sh5 {v : Int} (hv : 0 ≤ v ∧ v < 2147483648) : ∀ n : Nat, n < 4 → gand (gushr v (5 * (n : Int))) 31 = v / (32 ^ n : Nat) % 32 := by
  intro n hn
  have hc : n = 0 ∨ n = 1 ∨ n = 2 ∨ n = 3 := by omega
  have key : ∀ (s : Int) (k : Nat) (m : Nat), (((Int32.ofInt s).toUInt32 &&& Int32.toUInt32 31).toBitVec % 32).toNat = k → (2 ^ k : Nat) = m → 0 < m → gand (gushr v s) 31 = v / (m : Int) % 32 := fun s k m h1 h2 h3 => by
    have hd : 0 ≤ v / (m : Int) := Int.ediv_nonneg hv.1 (by omega)
    have hd2 : v / (m : Int) ≤ v := Int.ediv_le_self _ hv.1
    rw [gushr_div hv.1 hv.2 s k h1, h2, gand_mask hd (by omega) 5 31 (by decide) (by decide)]
    rfl
  rcases hc with rfl | rfl | rfl | rfl
  · exact key _ 0 _ (by decide) (by decide) (by decide)
  · exact key _ 5 _ (by decide) (by decide) (by decide)
  · exact key _ 10 _ (by decide) (by decide) (by decide)
  · exact key _ 15 _ (by decide) (by decide) (by decide)
theorem sp_X8_addWord {sh : gS} {M : gM} {v : Int} {d : kC} (hOK : gOK sh M) (hD : dOk sh M 380 d) (hv : 0 ≤ v ∧ v < 2147483648) : gC (gr 1 21) yX8_addWord cX8_addWord 4 none [(4, 3), (0, v)] sh M (gPm sh (fun r M1 => r = none ∧ dQ sh M (dAdds d (wBits v 4)) M1)) := by
  have lp : ∀ (n : Nat) (d1 : kC) (M1 : gM), n ≤ 4 → dQ sh M d1 M1 → dAdds d1 (wBits v n) = dAdds d (wBits v 4) → P_X8_addWord_3 sh (gPm sh (fun r M1 => r = none ∧ dQ sh M (dAdds d (wBits v 4)) M1)) v (5 * (n : Int) - 5) M1 := by
    intro n
    induction n with
    | zero =>
      intro d1 M1 hn h e
      refine w_X8_addWord_3 h.2.1 ?_
      rw [if_pos (by omega)]
      rw [← e]
      exact ⟨rfl, rfl, h⟩
    | succ n ih =>
      intro d1 M1 hn h e
      refine w_X8_addWord_3 h.2.1 ?_
      rw [if_neg (by omega), show 5 * ((n + 1 : Nat) : Int) - 5 = 5 * (n : Int) by omega, sh5 hv n (by omega), gw32_id (z := 5 * (n : Int) + -5) (by omega) (by omega), show 5 * (n : Int) + -5 = 5 * (n : Int) - 5 by omega]
      have hr : 0 ≤ v / (32 ^ n : Nat) % 32 ∧ v / (32 ^ n : Nat) % 32 < 32 := by omega
      by_cases q : v / (32 ^ n : Nat) % 32 = 0
      · rw [if_pos q]
        exact ih d1 M1 (by omega) h (by rw [← e, wBits, if_pos q])
      · rw [if_neg q, gw32_id (z := 97 + v / (32 ^ n : Nat) % 32) (by omega) (by omega), gw32_id (z := 97 + v / (32 ^ n : Nat) % 32 - 1) (by omega) (by omega)]
        refine ⟨_, sp_X2_addToMessage h.2.1 h.1 (by omega), fun r2 M2 hP2 => ?_⟩
        obtain ⟨rfl, hP⟩ := hP2
        refine ⟨rfl, hP.2.1, ?_⟩
        rw [show 97 + v / (32 ^ n : Nat) % 32 - 1 = 96 + v / (32 ^ n : Nat) % 32 by omega] at hP
        exact ih _ M2 (by omega) (dQ_add h hP) (by rw [← e, wBits, if_neg q]; rfl)
  exact w_X8_addWord hOK (lp 4 d M (by omega) ⟨hD, hOK, fun _ _ => rfl⟩ rfl)
def decF : Int → List Int → Int
  | v, [] => v
  | v, c :: r => decF (10 * v + c - 48) r
theorem decF_app : ∀ (a : List Int) (v c : Int), decF v (a ++ [c]) = 10 * decF v a + c - 48
  | [], v, c => rfl
  | d :: r, v, c => decF_app r (10 * v + d - 48) c
theorem decF_rng : ∀ (k : Nat) (w : List Int), w.length = k → (∀ c ∈ w, 48 ≤ c ∧ c ≤ 57) → 0 ≤ decF 0 w ∧ decF 0 w < (10 ^ k : Nat)
  | 0, w, hk, _ => by
    rw [List.length_eq_zero_iff.mp hk]; exact ⟨by decide, by decide⟩
  | k + 1, w, hk, h => by
    obtain ⟨ys, y, rfl, hy⟩ := ls_snoc hk
    have := decF_rng k ys hy (fun c hc => h c (List.mem_append_left _ hc))
    have hc := h y (by simp)
    rw [decF_app, Nat.pow_succ]
    omega
/-- digits of a number, so many -/
def dgS (x : Int) : Nat → List Int
  | 0 => []
  | n + 1 => (48 + dgB n x) :: dgS x n
def numS (x : Int) : List Int := dgS x (if x < 10 then 1 else if x < 100 then 2 else 3)
/-- whether digits name an ELDER -/
def mnt (el : Nat → Bool) (D : List Int) : Bool := decide (1 ≤ D.length ∧ D.length ≤ 3 ∧ (D.length = 1 ∨ hd D ≠ 48)) && el (decF 0 D).toNat
def mntS (im : Int → Int) (D : List Int) : List Int := if im (decF 0 D) < 0 then [63] else numS (im (decF 0 D))
theorem dgB_rng : ∀ (n : Nat) (x : Int), 0 ≤ dgB n x ∧ dgB n x < 10
  | 0, x => by unfold dgB; omega
  | n + 1, x => by unfold dgB; exact dgB_rng n _
theorem sp_X8_carryMention {sh : gS} {M : gM} {k : Nat} {ms pre D rest : List Int} {d : kC} {el : Nat → Bool} {im : Int → Int} (hOK : gOK sh M) (h : msgAt M (k : Int) ms) (e : ms = pre ++ 35 :: (D ++ rest)) (hD10 : ∀ c ∈ D, 48 ≤ c ∧ c ≤ 57) (hD : dOk sh M 380 d) (hE : mIs M 389 (k : Int) el) (hel : ∀ j : Nat, el j = true → j < 120) (him : ∀ q : Int, 0 ≤ q → q < 120 → M 395 q = im q) (hir : ∀ j : Nat, el j = true → im (j : Int) < 1000) :
    gC (gr 1 23) yX8_carryMention cX8_carryMention 9 (some (.boolean)) [(4, 3), (0, (k : Int)), (0, ((pre.length + 1 : Nat) : Int)), (0, ((pre.length + 1 + D.length : Nat) : Int))] sh M (gPm sh (fun r M1 => r = some (0, bI (mnt el D)) ∧ dQ sh M (if mnt el D then dAdds d (35 :: mntS im D) else d) M1)) := by
  have hk1 := h.1
  have hll := h.2.2.2.1
  have hlt : ms.length = pre.length + (D.length + rest.length) + 1 := by rw [e]; simp; omega
  have el1 : gw32 (((pre.length + 1 + D.length : Nat) : Int) - ((pre.length + 1 : Nat) : Int)) = (D.length : Int) := by rw [gw32_id (by omega) (by omega)]; omega
  refine w_X8_carryMention hOK ?_
  rw [el1]
  have no : mnt el D = false → gPm sh (fun r M1 => r = some (0, bI (mnt el D)) ∧ dQ sh M (if mnt el D then dAdds d (35 :: mntS im D) else d) M1) (some (0, 0)) sh M := fun q => by
    rw [q]; exact ⟨rfl, rfl, hD, hOK, fun _ _ => rfl⟩
  by_cases q1 : (D.length : Int) < 1
  · rw [if_pos q1]
    exact no (by unfold mnt; rw [decide_eq_false (fun z => by have := z.1; omega), Bool.false_and])
  rw [if_neg q1]
  by_cases q3 : (3 : Int) < (D.length : Int)
  · rw [if_pos q3]
    exact no (by unfold mnt; rw [decide_eq_false (fun z => by have := z.2.1; omega), Bool.false_and])
  rw [if_neg q3]
  -- the number that is named
  have go : (D.length = 1 ∨ hd D ≠ 48) → P_X8_carryMention_45 sh (gPm sh (fun r M1 => r = some (0, bI (mnt el D)) ∧ dQ sh M (if mnt el D then dAdds d (35 :: mntS im D) else d) M1)) (k : Int) ((pre.length + 1 : Nat) : Int) ((pre.length + 1 + D.length : Nat) : Int) (D.length : Int) 0 ((pre.length + 1 : Nat) : Int) M := fun hz => by
    have hm : mnt el D = el (decF 0 D).toNat := by unfold mnt; rw [decide_eq_true (show 1 ≤ D.length ∧ D.length ≤ 3 ∧ (D.length = 1 ∨ hd D ≠ 48) from ⟨by omega, by omega, hz⟩), Bool.true_and]
    have rgD := decF_rng D.length D rfl hD10
    have p3 : (10 ^ D.length : Nat) ≤ 10 ^ 3 := Nat.pow_le_pow_right (by decide) (by omega)
    have p3' : (10 ^ 3 : Nat) = 1000 := by decide
    have lp : ∀ (w2 w1 : List Int), D = w1 ++ w2 → P_X8_carryMention_45 sh (gPm sh (fun r M1 => r = some (0, bI (mnt el D)) ∧ dQ sh M (if mnt el D then dAdds d (35 :: mntS im D) else d) M1)) (k : Int) ((pre.length + 1 : Nat) : Int) ((pre.length + 1 + D.length : Nat) : Int) (D.length : Int) (decF 0 w1) ((pre.length + 1 + w1.length : Nat) : Int) M := by
      intro w2
      induction w2 with
      | nil =>
        intro w1 e1
        rw [List.append_nil] at e1
        refine w_X8_carryMention_45 hOK ?_
        rw [← e1, if_neg (by omega)]
        have hhas : mHas M 389 (k : Int) (decF 0 D) = mnt el D := by
          rw [hm]
          by_cases c : decF 0 D < 120
          · have := mHas_of hE (decF 0 D).toNat (by omega)
            rwa [show (((decF 0 D).toNat : Nat) : Int) = decF 0 D by omega] at this
          · unfold mHas
            rw [decide_eq_false c, Bool.and_false, Bool.false_and]
            cases hz : el (decF 0 D).toNat with
            | false => rfl
            | true => have := hel _ hz; omega
        refine ⟨_, sp_X3_has hOK (mSh389 hOK) ⟨by omega, by omega⟩, ?_⟩
        rw [hhas]
        cases hq : mnt el D with
        | false => rw [if_pos bIf]; have := no hq; rw [hq] at this; exact this
        | true =>
          rw [if_neg bIt, if_pos rfl]
          have hel1 : el (decF 0 D).toNat = true := by rw [← hm]; exact hq
          have h120 := hel _ hel1
          have hi1 := hir _ hel1
          rw [show (((decF 0 D).toNat : Nat) : Int) = decF 0 D by omega] at hi1
          refine ⟨_, sp_X2_addToMessage hOK hD (by decide), fun r2 M2 hP2 => ?_⟩
          obtain ⟨rfl, hP⟩ := hP2
          have d2 : dQ sh M (dAddM d 35) M2 := dQ_add ⟨hD, hOK, fun _ _ => rfl⟩ hP
          refine ⟨rfl, hP.2.1, ⟨rgD.1, by omega⟩, ?_⟩
          rw [d2.2.2 395 (by omega), him _ rgD.1 (by omega)]
          have hs : mntS im D = if im (decF 0 D) < 0 then [63] else numS (im (decF 0 D)) := rfl
          rw [hs]
          generalize im (decF 0 D) = x at hi1 ⊢
          by_cases c : x < 0
          · rw [if_pos c, if_pos c]
            refine ⟨_, sp_X2_addToMessage d2.2.1 d2.1 (by decide), fun r3 M3 hP3 => ?_⟩
            obtain ⟨rfl, hP⟩ := hP3
            exact ⟨rfl, hP.2.1, rfl, rfl, dQ_add d2 hP⟩
          · rw [if_neg c, if_neg c]
            have lp2 : ∀ (n : Nat) (d1 : kC) (x7 : Int) (M1 : gM), n ≤ 3 → dQ sh M d1 M1 → dAdds d1 (dgS x n) = dAdds d (35 :: numS x) → P_X8_carryMention_158 sh (gPm sh (fun r M1 => r = some (0, bI true) ∧ dQ sh M (dAdds d (35 :: numS x)) M1)) (k : Int) ((pre.length + 1 : Nat) : Int) ((pre.length + 1 + D.length : Nat) : Int) (D.length : Int) (decF 0 D) x x7 ((n : Int) - 1) M1 := by
              intro n
              induction n with
              | zero =>
                intro d1 x7 M1 hn hd e2
                refine w_X8_carryMention_158 hd.2.1 ?_
                rw [if_pos (by omega), ← e2]
                exact ⟨rfl, rfl, hd⟩
              | succ n ih =>
                intro d1 x7 M1 hn hd e2
                have hb := dgB_rng n x
                refine w_X8_carryMention_158 hd.2.1 ?_
                rw [if_neg (by omega), show ((n + 1 : Nat) : Int) - 1 = (n : Int) by omega]
                refine ⟨_, sp_X0_digitFromBehind (by omega) (by omega), ?_⟩
                rw [gw32_id (z := 48 + dgB n x) (by omega) (by omega), gw32_id (z := (n : Int) + -1) (by omega) (by omega), show (n : Int) + -1 = (n : Int) - 1 by omega]
                refine ⟨_, sp_X2_addToMessage hd.2.1 hd.1 (by omega), fun r3 M3 hP3 => ?_⟩
                obtain ⟨rfl, hP⟩ := hP3
                exact ⟨rfl, hP.2.1, ih _ _ M3 (by omega) (dQ_add hd hP) (by rw [← e2]; rfl)⟩
            by_cases c1 : x < 100
            · rw [if_pos c1]
              by_cases c2 : x < 10
              · rw [if_pos c2]
                exact lp2 1 _ _ M2 (by omega) d2 (by unfold numS; rw [if_pos c2]; rfl)
              · rw [if_neg c2]
                exact lp2 2 _ _ M2 (by omega) d2 (by unfold numS; rw [if_neg c2, if_pos c1]; rfl)
            · rw [if_neg c1]
              exact lp2 3 _ _ M2 (by omega) d2 (by unfold numS; rw [if_neg (by omega), if_neg c1]; rfl)
      | cons c r ih =>
        intro w1 e1
        have hl1 := len_mid e1
        have hc := hD10 c (by rw [e1]; simp)
        have rg := decF_rng w1.length w1 rfl (fun x hx => hD10 x (by rw [e1]; exact List.mem_append_left _ hx))
        have p4 : (10 ^ w1.length : Nat) ≤ 10 ^ 3 := Nat.pow_le_pow_right (by decide) (by omega)
        have eb := sp_msgByte (pre := pre ++ 35 :: w1) (c := c) (r := r ++ rest) hOK h (by rw [e, e1]; simp)
        rw [show (pre ++ 35 :: w1).length = pre.length + 1 + w1.length by simp; omega] at eb
        refine w_X8_carryMention_45 hOK ?_
        rw [if_pos (by omega)]
        refine ⟨_, eb, ?_⟩
        have ev : gw32 (gw32 (gw32 (decF 0 w1 * 10) + c) - 48) = decF 0 (w1 ++ [c]) := by
          rw [decF_app, gw32_id (z := decF 0 w1 * 10) (by omega) (by omega), gw32_id (z := decF 0 w1 * 10 + c) (by omega) (by omega), gw32_id (by omega) (by omega)]; omega
        rw [ev, gw32_id (by omega) (by omega)]
        have := ih (w1 ++ [c]) (app_mid e1)
        rw [List.length_append, List.length_singleton] at this
        rw [show ((pre.length + 1 + w1.length : Nat) : Int) + 1 = ((pre.length + 1 + (w1.length + 1) : Nat) : Int) by omega]
        exact this
    have := lp D [] rfl
    rw [List.length_nil, Nat.add_zero] at this
    exact this
  by_cases q2 : (1 : Int) < (D.length : Int)
  · rw [if_pos q2]
    cases hDc : D with
    | nil => rw [hDc] at q2; simp at q2
    | cons c r =>
      have eb := sp_msgByte (pre := pre ++ [35]) (c := c) (r := r ++ rest) hOK h (by rw [e, hDc]; simp)
      rw [List.length_append, List.length_singleton] at eb
      rw [← hDc]
      refine ⟨_, eb, ?_⟩
      have hh : hd D = c := by rw [hDc]; rfl
      by_cases q4 : c = 48
      · rw [if_pos q4]
        exact no (by unfold mnt; rw [decide_eq_false (fun z => z.2.2.elim (fun z => by omega) (fun z => z (by rw [hh, q4]))), Bool.false_and])
      · rw [if_neg q4]
        exact go (Or.inr (by rw [hh]; exact q4))
  · rw [if_neg q2]
    exact go (Or.inl (by omega))
