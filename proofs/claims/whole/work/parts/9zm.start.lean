-- ==== what the Statement gives of the start
theorem tm_1 {j : Nat} {w : Cond} (h : tables_1_1[j]? = some w) : w ∈ tables_1 := List.mem_append_left _ (List.mem_of_getElem? h)
theorem tm_2 {j : Nat} {w : Cond} (h : tables_1_2[j]? = some w) : w ∈ tables_1 := List.mem_append_right _ (List.mem_append_left _ (List.mem_of_getElem? h))
theorem tm_3 {j : Nat} {w : Cond} (h : tables_1_3[j]? = some w) : w ∈ tables_1 := List.mem_append_right _ (List.mem_append_right _ (List.mem_append_left _ (List.mem_of_getElem? h)))
theorem tm_4 {j : Nat} {w : Cond} (h : tables_1_4[j]? = some w) : w ∈ tables_1 := List.mem_append_right _ (List.mem_append_right _ (List.mem_append_right _ (List.mem_append_left _ (List.mem_of_getElem? h))))
theorem tm_5 {j : Nat} {w : Cond} (h : tables_1_5[j]? = some w) : w ∈ tables_1 := List.mem_append_right _ (List.mem_append_right _ (List.mem_append_right _ (List.mem_append_right _ (List.mem_append_left _ (List.mem_of_getElem? h)))))
theorem tm_6 {j : Nat} {w : Cond} (h : tables_1_6[j]? = some w) : w ∈ tables_1 := List.mem_append_right _ (List.mem_append_right _ (List.mem_append_right _ (List.mem_append_right _ (List.mem_append_right _ (List.mem_append_left _ (List.mem_of_getElem? h))))))
theorem tm_7 {j : Nat} {w : Cond} (h : tables_1_7[j]? = some w) : w ∈ tables_1 := List.mem_append_right _ (List.mem_append_right _ (List.mem_append_right _ (List.mem_append_right _ (List.mem_append_right _ (List.mem_append_right _ (List.mem_append_left _ (List.mem_of_getElem? h)))))))
theorem tm_8 {j : Nat} {w : Cond} (h : tables_1_8[j]? = some w) : w ∈ tables_1 := List.mem_append_right _ (List.mem_append_right _ (List.mem_append_right _ (List.mem_append_right _ (List.mem_append_right _ (List.mem_append_right _ (List.mem_append_right _ (List.mem_append_left _ (List.mem_of_getElem? h))))))))
theorem tm_9 {j : Nat} {w : Cond} (h : tables_1_9[j]? = some w) : w ∈ tables_1 := List.mem_append_right _ (List.mem_append_right _ (List.mem_append_right _ (List.mem_append_right _ (List.mem_append_right _ (List.mem_append_right _ (List.mem_append_right _ (List.mem_append_right _ (List.mem_append_left _ (List.mem_of_getElem? h)))))))))
theorem tm_10 {j : Nat} {w : Cond} (h : tables_1_10[j]? = some w) : w ∈ tables_1 := List.mem_append_right _ (List.mem_append_right _ (List.mem_append_right _ (List.mem_append_right _ (List.mem_append_right _ (List.mem_append_right _ (List.mem_append_right _ (List.mem_append_right _ (List.mem_append_right _ (List.mem_append_left _ (List.mem_of_getElem? h))))))))))
theorem tm_11 {j : Nat} {w : Cond} (h : tables_1_11[j]? = some w) : w ∈ tables_1 := List.mem_append_right _ (List.mem_append_right _ (List.mem_append_right _ (List.mem_append_right _ (List.mem_append_right _ (List.mem_append_right _ (List.mem_append_right _ (List.mem_append_right _ (List.mem_append_right _ (List.mem_append_right _ (List.mem_append_left _ (List.mem_of_getElem? h)))))))))))
theorem tm_12 {j : Nat} {w : Cond} (h : tables_1_12[j]? = some w) : w ∈ tables_1 := List.mem_append_right _ (List.mem_append_right _ (List.mem_append_right _ (List.mem_append_right _ (List.mem_append_right _ (List.mem_append_right _ (List.mem_append_right _ (List.mem_append_right _ (List.mem_append_right _ (List.mem_append_right _ (List.mem_append_right _ (List.mem_of_getElem? h)))))))))))
def lwF : List Cond := flatC (Jvm.Cond.and given_1 narrow_1)
def stT (i : Nat) : Term := Term.string RX6 (112 + 2 * i)
def stV (i : Nat) : Term := Term.field (stT i) "java/lang/String" "value" "[B"
def stO : Term := Term.static "java/lang/Integer" "DigitOnes" "[B"
def stN : Term := Term.static "java/lang/Integer" "DigitTens" "[B"
theorem st_o : ∀ j : Nat, j < 100 → lwF[12 + j]? = some (Cond.eq (.elem stO (.int (Int32.ofNat j))) (.int (Int32.ofNat (48 + j % 10)))) := by decide +kernel
theorem st_t : ∀ j : Nat, j < 100 → lwF[115 + j]? = some (Cond.eq (.elem stN (.int (Int32.ofNat j))) (.int (Int32.ofNat (48 + j / 10)))) := by decide +kernel
theorem st_r : lwF[11]? = some (Cond.eq (.length stO) (.int (Int32.ofNat 100))) ∧ lwF[10]? = some (Cond.arrayOf stO .byte) ∧ lwF[114]? = some (Cond.eq (.length stN) (.int (Int32.ofNat 100))) ∧ lwF[113]? = some (Cond.arrayOf stN .byte) := by decide +kernel
theorem st_c : lwF[4]? = some (Cond.eq (.static "java/lang/String" "COMPACT_STRINGS" "Z") (.int 1)) ∧ lwF[5]? = some (Cond.isRef (.static "jdk/internal/util/Preconditions" "SIOOBE_FORMATTER" "Ljava/util/function/BiFunction;")) := by decide +kernel
theorem st_e : ∀ i : Nat, i < 15 → lwF[([257, 265, 272, 282, 293, 305, 318, 332, 348, 364, 381, 401, 421, 441, 463] : List Nat).getD i 0]? = some (Cond.exactly (stT i) "java/lang/String") := by decide +kernel
theorem st_k : ∀ i : Nat, i < 15 → lwF[([258, 266, 273, 283, 294, 306, 319, 333, 349, 365, 382, 402, 422, 442, 464] : List Nat).getD i 0]? = some (Cond.eq (.field (stT i) "java/lang/String" "coder" "B") (.int 0)) := by decide +kernel
theorem st_a : ∀ i : Nat, i < 15 → lwF[([259, 267, 274, 284, 295, 307, 320, 334, 350, 366, 383, 403, 423, 443, 465] : List Nat).getD i 0]? = some (Cond.arrayOf (stV i) .byte) := by decide +kernel
theorem st_l : ∀ i : Nat, i < 15 → lwF[([260, 268, 275, 285, 296, 308, 321, 335, 351, 367, 384, 404, 424, 444, 466] : List Nat).getD i 0]? = some (Cond.eq (.length (stV i)) (.int (Int32.ofNat (gSlen.getD i 0)))) := by decide +kernel
theorem st_b : ∀ i : Nat, i < 15 → ∀ j : Nat, j < gSlen.getD i 0 → lwF[([261, 269, 276, 286, 297, 309, 322, 336, 352, 368, 385, 405, 425, 445, 467] : List Nat).getD i 0 + j]? = some (Cond.eq (.elem (stV i) (.int (Int32.ofNat j))) (.int ((gSbyt.getD i []).getD j 0))) := by decide +kernel
theorem st_n : ∀ j : Nat, j < 15 → ∀ i : Nat, i < j → lwF[(([[], [271], [280, 281], [290, 291, 292], [301, 302, 303, 304], [313, 314, 315, 316, 317], [326, 327, 328, 329, 330, 331], [341, 342, 343, 344, 345, 346, 347], [356, 357, 358, 359, 360, 361, 362, 363], [372, 373, 374, 375, 376, 377, 378, 379, 380], [391, 392, 393, 394, 395, 396, 397, 398, 399, 400], [410, 411, 412, 413, 414, 415, 416, 417, 418, 419, 420], [429, 430, 431, 432, 433, 434, 435, 436, 437, 438, 439, 440], [450, 451, 452, 453, 454, 455, 456, 457, 458, 459, 460, 461, 462], [471, 472, 473, 474, 475, 476, 477, 478, 479, 480, 481, 482, 483, 484]] : List (List Nat)).getD j []).getD i 0]? = some (Cond.not (Cond.eq (stT i) (stT j))) := by decide +kernel
theorem st_s : ∀ i : Nat, i < 15 → tables_1_4[124 + i]? = some (Cond.stringRef RX6 (112 + 2 * i) (gTxt.getD i "")) := by decide +kernel
theorem sel_x2 {args : Array Value} {s : State} {y y2 : MethodName} {n : Nat} (hy : y.cls ≠ "java/lang/invoke/MethodHandle" ∧ y.cls ≠ "java/lang/invoke/VarHandle") (h1 : (Cond.instantiable RJ4 n).before args s = true) (h2 : (Cond.privateMethod y).before args s = true) (h3 : (Cond.instanceMethod y).before args s = true) (h4 : (Cond.selects RJ4 y2 y2).before args s = true) (hc2 : y2.cls = y.cls) : (Cond.selects RJ4 y y).before args s = true := by
  obtain ⟨c, k, hc, hk, -⟩ := Cond.instantiable_spec h1
  obtain ⟨mk, methM, hnamed, hmethM, -, -⟩ := Cond.instanceMethod_spec h3
  have hfound : s.methodFound? y.cls y.name y.desc = some mk := State.methodFound?_of_named hnamed hy
  have hsel : selectMethod {} s.vm c mk = .method mk := selectMethod_private hmethM (Cond.privateMethod_at h2 mk methM hnamed hmethM)
  obtain ⟨c2, r2, m2, q1, q2, q3, q4, mk2, q5, q6⟩ := Cond.selects_spec h4
  have hcls : m2.cls = mk.cls := by
    have a := findClass_of_methodNamed q3
    have b := findClass_of_methodNamed hnamed
    rw [hc2] at a
    exact Option.some.inj (a.symm.trans b)
  rw [hcls] at q5
  simp only [Cond.before, Cond.holds, Cond.value, hc, hfound, hnamed, hsel, q5]
  simp
  exact q6
theorem st_all {args : Array Value} {s : State} (hts : ∀ w ∈ lw_tbl, w.before args s = true) : ∀ w ∈ gAll, w.before args s = true := by
  have ht : ∀ w ∈ tables_1, w.before args s = true := fun w hw => hts w (List.mem_append_right _ hw)
  intro w hw
  rcases List.mem_append.mp (gAll_in hw) with h | h
  · rcases List.mem_cons.mp h with rfl | h
    · exact sel_x2 (y2 := ⟨"java/lang/AbstractStringBuilder", "isLatin1", "()Z"⟩) ⟨by decide +kernel, by decide +kernel⟩ (ht _ (tm_3 (j := 42) rfl)) (ht _ (tm_6 (j := 65) rfl)) (ht _ (tm_6 (j := 66) rfl)) (ht _ (tm_6 (j := 96) rfl)) rfl
    · rw [List.mem_singleton.mp h]
      exact sel_x2 (y2 := ⟨"java/lang/AbstractStringBuilder", "isLatin1", "()Z"⟩) ⟨by decide +kernel, by decide +kernel⟩ (ht _ (tm_3 (j := 42) rfl)) (ht _ (tm_6 (j := 69) rfl)) (ht _ (tm_6 (j := 70) rfl)) (ht _ (tm_6 (j := 96) rfl)) rfl
  · exact hts w h
theorem st_cls {args : Array Value} {s : State} (hts : ∀ w ∈ gAll, w.before args s = true) : ∃ f : Nat → ClassId × (Nat → Nat), ∀ (k : Nat) (r : vw_C), vwCl[k]? = some r → u_Kn s r.1 r.2.1 r.2.2 (f k).1 (f k).2 := by
  refine Classical.axiomOfChoice (r := fun (k : Nat) (q : ClassId × (Nat → Nat)) => ∀ r : vw_C, vwCl[k]? = some r → u_Kn s r.1 r.2.1 r.2.2 q.1 q.2) (fun k => ?_)
  match k with
  | 0 =>
    obtain ⟨cC, iS, h⟩ := u_known hts gcl_0.2.1 (hts _ it_J4)
    exact ⟨(cC, iS), fun r hr => by cases hr; exact h⟩
  | 1 =>
    obtain ⟨cC, iS, h⟩ := u_known hts gcl_1.2.1 (hts _ it_X0)
    exact ⟨(cC, iS), fun r hr => by cases hr; exact h⟩
  | 2 =>
    obtain ⟨cC, iS, h⟩ := u_known hts gcl_2.2.1 (hts _ it_X1)
    exact ⟨(cC, iS), fun r hr => by cases hr; exact h⟩
  | 3 =>
    obtain ⟨cC, iS, h⟩ := u_known hts gcl_3.2.1 (hts _ it_X2)
    exact ⟨(cC, iS), fun r hr => by cases hr; exact h⟩
  | 4 =>
    obtain ⟨cC, iS, h⟩ := u_known hts gcl_4.2.1 (hts _ it_X3)
    exact ⟨(cC, iS), fun r hr => by cases hr; exact h⟩
  | 5 =>
    obtain ⟨cC, iS, h⟩ := u_known hts gcl_5.2.1 (hts _ it_X4)
    exact ⟨(cC, iS), fun r hr => by cases hr; exact h⟩
  | 6 =>
    obtain ⟨cC, iS, h⟩ := u_known hts gcl_6.2.1 (hts _ it_X5)
    exact ⟨(cC, iS), fun r hr => by cases hr; exact h⟩
  | 7 =>
    obtain ⟨cC, iS, h⟩ := u_known hts gcl_7.2.1 (hts _ it_X6)
    exact ⟨(cC, iS), fun r hr => by cases hr; exact h⟩
  | 8 =>
    obtain ⟨cC, iS, h⟩ := u_known hts gcl_8.2.1 (hts _ it_X7)
    exact ⟨(cC, iS), fun r hr => by cases hr; exact h⟩
  | 9 =>
    obtain ⟨cC, iS, h⟩ := u_known hts gcl_9.2.1 (hts _ it_X8)
    exact ⟨(cC, iS), fun r hr => by cases hr; exact h⟩
  | 10 =>
    obtain ⟨cC, iS, h⟩ := u_known hts gcl_10.2.1 (hts _ it_X9)
    exact ⟨(cC, iS), fun r hr => by cases hr; exact h⟩
  | 11 =>
    obtain ⟨cC, iS, h⟩ := u_known hts gcl_11.2.1 (hts _ it_X10)
    exact ⟨(cC, iS), fun r hr => by cases hr; exact h⟩
  | 12 =>
    obtain ⟨cC, iS, h⟩ := u_known hts gcl_12.2.1 (hts _ it_X11)
    exact ⟨(cC, iS), fun r hr => by cases hr; exact h⟩
  | 13 =>
    obtain ⟨cC, iS, h⟩ := u_known hts gcl_13.2.1 (hts _ it_X12)
    exact ⟨(cC, iS), fun r hr => by cases hr; exact h⟩
  | n + 14 => exact ⟨(0, fun _ => 0), fun r hr => by simp [vwCl] at hr⟩
theorem st_arr1 {args : Array Value} {s : State} {ty : FieldType} (h : (Cond.arrayClass ty).before args s = true) (hty : ∀ c : ClassId, s.vm.findClass ("[" ++ ty.toString) = some c → va_RA s c ty) : ∃ c : ClassId, ArrOfT s c ty ∧ va_RA s c ty := by
  obtain ⟨c, k, comp, h1, h2, h3⟩ := Cond.arrayClass_spec h
  exact ⟨c, fun n z => ⟨fun k h => (by cases h), k, h2, comp, h3⟩, hty c h1⟩
theorem st_arr2 {s : State} {C : String} (h : va_AO C s) : ∃ c : ClassId, ArrOfT s c (.object C) ∧ va_RA s c (.object C) := by
  obtain ⟨comp, c, k, h1, h2, h3, h4, h5⟩ := Cond.arrayOver_spec h
  exact ⟨c, fun n z => ⟨fun k h => (by cases h), k, h3, comp, h4⟩, k, comp, h3, h4, h1, h5⟩
theorem st_arr {args : Array Value} {s : State} (hts : ∀ w ∈ gAll, w.before args s = true) (hO : ∀ C ∈ [RX10, RX7, RX5], va_AO C s) : ∃ f : Nat → ClassId, ∀ (k : Nat) (ty : FieldType), gT[k]? = some ty → ArrOfT s (f k) ty ∧ va_RA s (f k) ty := by
  refine Classical.axiomOfChoice (r := fun (k : Nat) (c : ClassId) => ∀ ty : FieldType, gT[k]? = some ty → ArrOfT s c ty ∧ va_RA s c ty) (fun k => ?_)
  match k with
  | 0 =>
    obtain ⟨c, h1, h2⟩ := st_arr1 (hts _ ac_int) (fun c h => h)
    exact ⟨c, fun ty h => by cases h; exact ⟨h1, h2⟩⟩
  | 1 =>
    obtain ⟨c, h1, h2⟩ := st_arr1 (hts _ ac_byte) (fun c h => h)
    exact ⟨c, fun ty h => by cases h; exact ⟨h1, h2⟩⟩
  | 2 =>
    obtain ⟨c, h1, h2⟩ := st_arr1 (hts _ ac_boolean) (fun c h => h)
    exact ⟨c, fun ty h => by cases h; exact ⟨h1, h2⟩⟩
  | 3 =>
    obtain ⟨c, h1, h2⟩ := st_arr1 (hts _ ac_long) (fun c h => h)
    exact ⟨c, fun ty h => by cases h; exact ⟨h1, h2⟩⟩
  | 4 =>
    obtain ⟨c, h1, h2⟩ := st_arr1 (hts _ ac_float) (fun c h => h)
    exact ⟨c, fun ty h => by cases h; exact ⟨h1, h2⟩⟩
  | 5 =>
    obtain ⟨c, h1, h2⟩ := st_arr2 (hO RX10 (List.mem_cons_self))
    exact ⟨c, fun ty h => by cases h; exact ⟨h1, h2⟩⟩
  | 6 =>
    obtain ⟨c, h1, h2⟩ := st_arr2 (hO RX7 (List.mem_cons_of_mem _ List.mem_cons_self))
    exact ⟨c, fun ty h => by cases h; exact ⟨h1, h2⟩⟩
  | 7 =>
    obtain ⟨c, h1, h2⟩ := st_arr2 (hO RX5 (List.mem_cons_of_mem _ (List.mem_cons_of_mem _ List.mem_cons_self)))
    exact ⟨c, fun ty h => by cases h; exact ⟨h1, h2⟩⟩
  | n + 8 => exact ⟨0, fun ty h => by simp [gT] at h⟩
theorem st_nest {args : Array Value} {s : State} (ht : ∀ w ∈ tables_1, w.before args s = true) : ∀ w ∈ gNest, va_Nw w s := by
  intro w hw
  simp only [gNest, List.mem_cons, List.not_mem_nil, or_false] at hw
  rcases hw with rfl | rfl | rfl | rfl | rfl | rfl | rfl | rfl | rfl
  · exact va_Nw.of rfl (ht _ (tm_1 (j := 39) rfl))
  · exact va_Nw.of rfl (ht _ (tm_1 (j := 69) rfl))
  · exact va_Nw.of rfl (ht _ (tm_1 (j := 178) rfl))
  · exact va_Nw.of rfl (ht _ (tm_2 (j := 23) rfl))
  · exact va_Nw.of rfl (ht _ (tm_2 (j := 30) rfl))
  · exact va_Nw.of rfl (ht _ (tm_2 (j := 36) rfl))
  · exact va_Nw.of rfl (ht _ (tm_2 (j := 183) rfl))
  · exact va_Nw.of rfl (ht _ (tm_2 (j := 214) rfl))
  · exact va_Nw.of rfl (ht _ (tm_3 (j := 72) rfl))
theorem st_ao {args : Array Value} {s : State} (ht : ∀ w ∈ tables_1, w.before args s = true) : ∀ C ∈ [RX10, RX7, RX5], va_AO C s := by
  intro C hC
  simp only [List.mem_cons, List.not_mem_nil, or_false] at hC
  rcases hC with rfl | rfl | rfl
  · exact va_AO.of (ht _ (tm_1 (j := 80) rfl))
  · exact va_AO.of (ht _ (tm_2 (j := 25) rfl))
  · exact va_AO.of (ht _ (tm_2 (j := 27) rfl))
theorem i32_bits (x : Int32) : Int32.ofNat x.toBitVec.toNat = x := by
  first
    | exact Int32.ofNat_toBitVec_toNat x
    | (apply Int32.toBitVec_inj.mp; simp)
    | (apply Int32.toBitVec.inj; simp [Int32.ofNat])
/-- the world at the start -/
theorem st_G {b L : Nat} {xs : Nat → Int32} {s : State} (hts : ∀ w ∈ lw_tbl, w.before #[Value.ref b] s = true) (hX : va_X b L xs s s.heap) (hbl : b < s.heap.size) (hg : (Jvm.Cond.and given_1 narrow_1).before #[Value.ref b] s = true) :
    ∃ G : gG, G.1 = s.heap.size ∧ gK G s ∧ G.2.2.2 33 = some b ∧ G.2.2.2 34 = some L := by
  have ht : ∀ w ∈ tables_1, w.before #[Value.ref b] s = true := fun w hw => hts w (List.mem_append_right _ hw)
  have hga := st_all hts
  have hf : ∀ w ∈ lwF, w.before #[Value.ref b] s = true := flat_of_before _ hg
  have hAO := st_ao ht
  obtain ⟨fc, hfc⟩ := st_cls hga
  obtain ⟨fa, hfa⟩ := st_arr hga hAO
  have hA : ∀ a : Nat, a < s.heap.size → ¬ (fun q : Nat => s.heap.size ≤ q) a := fun a h w => by have w' : s.heap.size ≤ a := w; omega
  have hq : ∀ (k : Nat) (w : Cond), lwF[k]? = some w → w.before #[Value.ref b] s = true := fun k w h => hf w (List.mem_of_getElem? h)
  obtain ⟨adK, adV, hE, hEv⟩ := vk_Sof (N := 15) (tm := stT) (len := gSlen) (byt := gSbyt) (A := fun q => s.heap.size ≤ q) (args := #[Value.ref b]) (s := s) (by decide) (fun i hi => hq _ _ (st_e i hi)) (fun i hi => hq _ _ (st_k i hi)) (fun i hi => hq _ _ (st_a i hi)) (fun i hi => hq _ _ (st_l i hi)) (fun i hi j hj => hq _ _ (st_b i hi j hj)) (fun i j hi hj hij => by
    rcases Nat.lt_or_ge i j with w | w
    · exact Or.inl (hq _ _ (st_n j hj i w))
    · exact Or.inr (hq _ _ (st_n i hi j (by omega)))) hA
  have hCS := va_Zof (A := fun q => s.heap.size ≤ q) (ht _ (tm_3 (j := 51) rfl)) (ht _ (tm_1 (j := 15) rfl)) (va_eqi (hq _ _ st_c.1)) hA
  obtain ⟨t1, ho1, ho2⟩ := va_Tof (tm := stO) (ty := .byte) (N := 100) (f := fun j => .int (Int32.ofNat (48 + j % 10))) (A := fun q => s.heap.size ≤ q) (by decide) (hq _ _ st_r.2.1) (va_eqt (hq _ _ st_r.1)) (fun j hj => va_eqt (hq _ _ (st_o j hj))) hA
  obtain ⟨t2, hn1, hn2⟩ := va_Tof (tm := stN) (ty := .byte) (N := 100) (f := fun j => .int (Int32.ofNat (48 + j / 10))) (A := fun q => s.heap.size ≤ q) (by decide) (hq _ _ st_r.2.2.2) (va_eqt (hq _ _ st_r.2.2.1)) (fun j hj => va_eqt (hq _ _ (st_t j hj))) hA
  have hz1 := va_Zref (A := fun q => s.heap.size ≤ q) (ht _ (tm_6 (j := 160) rfl)) (ht _ (tm_1 (j := 26) rfl)) ho1 hA
  have hz2 := va_Zref (A := fun q => s.heap.size ≤ q) (ht _ (tm_6 (j := 162) rfl)) (ht _ (tm_1 (j := 26) rfl)) hn1 hA
  have hfm : ∃ o : Option Nat, va_Z "jdk/internal/util/Preconditions" "SIOOBE_FORMATTER" "Ljava/util/function/BiFunction;" (va_rf o) (fun q => s.heap.size ≤ q) s s.heap := by
    rcases va_Zqof (A := fun q => s.heap.size ≤ q) (ht _ (tm_4 (j := 171) rfl)) (ht _ (tm_1 (j := 22) rfl)) (hq _ _ st_c.2) hA with h | ⟨t, h⟩
    · exact ⟨none, h⟩
    · exact ⟨some t, h⟩
  obtain ⟨fm, hfm⟩ := hfm
  refine ⟨(s.heap.size, (fun k => (fc k).1, fun k => (fc k).2), fa, fun i => if i < 15 then some (adK i) else if i < 30 then some (adV (i - 15)) else if i = 30 then some t1 else if i = 31 then some t2 else if i = 32 then fm else if i = 33 then some b else if i = 34 then some L else some (xs (i - 35)).toBitVec.toNat), rfl, ⟨⟨fun k r hr => hfc k r hr, fun k q hq => ?_⟩, st_nest ht, hAO, ⟨adK, adV, hE, fun i hi => ⟨?_, ?_, ?_⟩⟩, hCS, ⟨t1, t2, rfl, rfl, hz1, hz2, ho2, hn2⟩, fun b' hb' => ?_, hfm⟩, rfl, rfl⟩
  · have hq' : ((gT.zipIdx.map (fun p => (fa p.2, p.1)))[k]?) = some q := hq
    rw [List.getElem?_map, List.getElem?_zipIdx] at hq'
    cases hk : gT[k]? with
    | none => rw [hk] at hq'; cases hq'
    | some ty =>
      rw [hk] at hq'
      cases hq'
      have h9 := hfa k ty hk
      simpa using h9
  · show (if i < 15 then some (adK i) else _) = _
    rw [if_pos hi]
  · show (if 15 + i < 15 then _ else if 15 + i < 30 then some (adV (15 + i - 15)) else _) = _
    rw [if_neg (by omega), if_pos (by omega), show 15 + i - 15 = i by omega]
  · exact vk_R.of (ht _ (tm_4 (st_s i hi))) (hEv i hi)
  · have e : b = b' := Option.some.inj hb'
    subst e
    refine ⟨hbl, hbl, ?_⟩
    have e1 : (fun i : Nat => Int32.ofNat (((if 35 + i < 15 then some (adK (35 + i)) else if 35 + i < 30 then some (adV (35 + i - 15)) else if 35 + i = 30 then some t1 else if 35 + i = 31 then some t2 else if 35 + i = 32 then fm else if 35 + i = 33 then some b else if 35 + i = 34 then some L else some (xs (35 + i - 35)).toBitVec.toNat) : Option Nat).getD 0)) = xs := by
      funext i
      rw [if_neg (by omega), if_neg (by omega), if_neg (by omega), if_neg (by omega), if_neg (by omega), if_neg (by omega), if_neg (by omega), show 35 + i - 35 = i by omega]
      exact i32_bits (xs i)
    show va_X b L (fun i : Nat => Int32.ofNat (((if 35 + i < 15 then some (adK (35 + i)) else if 35 + i < 30 then some (adV (35 + i - 15)) else if 35 + i = 30 then some t1 else if 35 + i = 31 then some t2 else if 35 + i = 32 then fm else if 35 + i = 33 then some b else if 35 + i = 34 then some L else some (xs (35 + i - 35)).toBitVec.toNat) : Option Nat).getD 0)) s s.heap
    rw [e1]
    exact hX
