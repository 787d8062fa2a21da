-- ==== an EDIT
theorem dX2_readEdit_0 : decode cX2_readEdit 0 = .ok (.aload_n 1, 1) := by decide +kernel
theorem dX2_readEdit_1 : decode cX2_readEdit 1 = .ok (.getfield 101, 3) := by decide +kernel
theorem dX2_readEdit_4 : decode cX2_readEdit 4 = .ok (.istore_n 3, 1) := by decide +kernel
theorem dX2_readEdit_5 : decode cX2_readEdit 5 = .ok (.aload_n 1, 1) := by decide +kernel
theorem dX2_readEdit_6 : decode cX2_readEdit 6 = .ok (.invokevirtual 66, 3) := by decide +kernel
theorem dX2_readEdit_9 : decode cX2_readEdit 9 = .ok (.istore 4, 2) := by decide +kernel
theorem dX2_readEdit_11 : decode cX2_readEdit 11 = .ok (.iload 4, 2) := by decide +kernel
theorem dX2_readEdit_13 : decode cX2_readEdit 13 = .ok (.bipush 43, 2) := by decide +kernel
theorem dX2_readEdit_15 : decode cX2_readEdit 15 = .ok (.if_icmp .eq 31, 3) := by decide +kernel
theorem dX2_readEdit_18 : decode cX2_readEdit 18 = .ok (.iload 4, 2) := by decide +kernel
theorem dX2_readEdit_20 : decode cX2_readEdit 20 = .ok (.bipush 45, 2) := by decide +kernel
theorem dX2_readEdit_22 : decode cX2_readEdit 22 = .ok (.if_icmp .eq 24, 3) := by decide +kernel
theorem dX2_readEdit_25 : decode cX2_readEdit 25 = .ok (.iload 4, 2) := by decide +kernel
theorem dX2_readEdit_27 : decode cX2_readEdit 27 = .ok (.bipush 42, 2) := by decide +kernel
theorem dX2_readEdit_29 : decode cX2_readEdit 29 = .ok (.if_icmp .eq 17, 3) := by decide +kernel
theorem dX2_readEdit_32 : decode cX2_readEdit 32 = .ok (.iload 4, 2) := by decide +kernel
theorem dX2_readEdit_34 : decode cX2_readEdit 34 = .ok (.bipush 94, 2) := by decide +kernel
theorem dX2_readEdit_36 : decode cX2_readEdit 36 = .ok (.if_icmp .eq 10, 3) := by decide +kernel
theorem dX2_readEdit_39 : decode cX2_readEdit 39 = .ok (.aload_n 1, 1) := by decide +kernel
theorem dX2_readEdit_40 : decode cX2_readEdit 40 = .ok (.iconst 1, 1) := by decide +kernel
theorem dX2_readEdit_41 : decode cX2_readEdit 41 = .ok (.iload_n 3, 1) := by decide +kernel
theorem dX2_readEdit_42 : decode cX2_readEdit 42 = .ok (.invokevirtual 107, 3) := by decide +kernel
theorem dX2_readEdit_45 : decode cX2_readEdit 45 = .ok (.return_, 1) := by decide +kernel
theorem dX2_readEdit_46 : decode cX2_readEdit 46 = .ok (.aload_n 1, 1) := by decide +kernel
theorem dX2_readEdit_47 : decode cX2_readEdit 47 = .ok (.dup, 1) := by decide +kernel
theorem dX2_readEdit_48 : decode cX2_readEdit 48 = .ok (.getfield 101, 3) := by decide +kernel
theorem dX2_readEdit_51 : decode cX2_readEdit 51 = .ok (.iconst 1, 1) := by decide +kernel
theorem dX2_readEdit_52 : decode cX2_readEdit 52 = .ok (.iadd, 1) := by decide +kernel
theorem dX2_readEdit_53 : decode cX2_readEdit 53 = .ok (.putfield 101, 3) := by decide +kernel
theorem dX2_readEdit_56 : decode cX2_readEdit 56 = .ok (.iload 4, 2) := by decide +kernel
theorem dX2_readEdit_58 : decode cX2_readEdit 58 = .ok (.bipush 94, 2) := by decide +kernel
theorem dX2_readEdit_60 : decode cX2_readEdit 60 = .ok (.if_icmp .ne 17, 3) := by decide +kernel
theorem dX2_readEdit_63 : decode cX2_readEdit 63 = .ok (.aload_n 1, 1) := by decide +kernel
theorem dX2_readEdit_64 : decode cX2_readEdit 64 = .ok (.iconst 0, 1) := by decide +kernel
theorem dX2_readEdit_65 : decode cX2_readEdit 65 = .ok (.aload_n 0, 1) := by decide +kernel
theorem dX2_readEdit_66 : decode cX2_readEdit 66 = .ok (.getfield 31, 3) := by decide +kernel
theorem dX2_readEdit_69 : decode cX2_readEdit 69 = .ok (.iconst 1, 1) := by decide +kernel
theorem dX2_readEdit_70 : decode cX2_readEdit 70 = .ok (.isub, 1) := by decide +kernel
theorem dX2_readEdit_71 : decode cX2_readEdit 71 = .ok (.invokevirtual 122, 3) := by decide +kernel
theorem dX2_readEdit_74 : decode cX2_readEdit 74 = .ok (.goto 4, 3) := by decide +kernel
theorem dX2_readEdit_77 : decode cX2_readEdit 77 = .ok (.iconst 0, 1) := by decide +kernel
theorem dX2_readEdit_78 : decode cX2_readEdit 78 = .ok (.istore 5, 2) := by decide +kernel
theorem dX2_readEdit_80 : decode cX2_readEdit 80 = .ok (.aload_n 1, 1) := by decide +kernel
theorem dX2_readEdit_81 : decode cX2_readEdit 81 = .ok (.getfield 75, 3) := by decide +kernel
theorem dX2_readEdit_84 : decode cX2_readEdit 84 = .ok (.ifCond .ne 11, 3) := by decide +kernel
theorem dX2_readEdit_87 : decode cX2_readEdit 87 = .ok (.aload_n 1, 1) := by decide +kernel
theorem dX2_readEdit_88 : decode cX2_readEdit 88 = .ok (.iconst 4, 1) := by decide +kernel
theorem dX2_readEdit_89 : decode cX2_readEdit 89 = .ok (.invokevirtual 125, 3) := by decide +kernel
theorem dX2_readEdit_92 : decode cX2_readEdit 92 = .ok (.goto 4, 3) := by decide +kernel
theorem dX2_readEdit_95 : decode cX2_readEdit 95 = .ok (.iconst 0, 1) := by decide +kernel
theorem dX2_readEdit_96 : decode cX2_readEdit 96 = .ok (.istore 6, 2) := by decide +kernel
theorem dX2_readEdit_98 : decode cX2_readEdit 98 = .ok (.iconst 0, 1) := by decide +kernel
theorem dX2_readEdit_99 : decode cX2_readEdit 99 = .ok (.istore 7, 2) := by decide +kernel
theorem dX2_readEdit_101 : decode cX2_readEdit 101 = .ok (.iload 4, 2) := by decide +kernel
theorem dX2_readEdit_103 : decode cX2_readEdit 103 = .ok (.bipush 43, 2) := by decide +kernel
theorem dX2_readEdit_105 : decode cX2_readEdit 105 = .ok (.if_icmp .ne 28, 3) := by decide +kernel
theorem dX2_readEdit_108 : decode cX2_readEdit 108 = .ok (.aload_n 1, 1) := by decide +kernel
theorem dX2_readEdit_109 : decode cX2_readEdit 109 = .ok (.getfield 75, 3) := by decide +kernel
theorem dX2_readEdit_112 : decode cX2_readEdit 112 = .ok (.ifCond .ne 21, 3) := by decide +kernel
theorem dX2_readEdit_115 : decode cX2_readEdit 115 = .ok (.aload_n 1, 1) := by decide +kernel
theorem dX2_readEdit_116 : decode cX2_readEdit 116 = .ok (.bipush 61, 2) := by decide +kernel
theorem dX2_readEdit_118 : decode cX2_readEdit 118 = .ok (.invokevirtual 78, 3) := by decide +kernel
theorem dX2_readEdit_121 : decode cX2_readEdit 121 = .ok (.ifCond .eq 12, 3) := by decide +kernel
theorem dX2_readEdit_124 : decode cX2_readEdit 124 = .ok (.aload_n 1, 1) := by decide +kernel
theorem dX2_readEdit_125 : decode cX2_readEdit 125 = .ok (.bipush 6, 2) := by decide +kernel
theorem dX2_readEdit_127 : decode cX2_readEdit 127 = .ok (.iconst 1, 1) := by decide +kernel
theorem dX2_readEdit_128 : decode cX2_readEdit 128 = .ok (.invokevirtual 110, 3) := by decide +kernel
theorem dX2_readEdit_131 : decode cX2_readEdit 131 = .ok (.istore 7, 2) := by decide +kernel
theorem dX2_readEdit_133 : decode cX2_readEdit 133 = .ok (.iload 4, 2) := by decide +kernel
theorem dX2_readEdit_135 : decode cX2_readEdit 135 = .ok (.bipush 42, 2) := by decide +kernel
theorem dX2_readEdit_137 : decode cX2_readEdit 137 = .ok (.if_icmp .ne 26, 3) := by decide +kernel
theorem dX2_readEdit_140 : decode cX2_readEdit 140 = .ok (.aload_n 1, 1) := by decide +kernel
theorem dX2_readEdit_141 : decode cX2_readEdit 141 = .ok (.getfield 75, 3) := by decide +kernel
theorem dX2_readEdit_144 : decode cX2_readEdit 144 = .ok (.ifCond .ne 19, 3) := by decide +kernel
theorem dX2_readEdit_147 : decode cX2_readEdit 147 = .ok (.aload_n 1, 1) := by decide +kernel
theorem dX2_readEdit_148 : decode cX2_readEdit 148 = .ok (.bipush 62, 2) := by decide +kernel
theorem dX2_readEdit_150 : decode cX2_readEdit 150 = .ok (.invokevirtual 78, 3) := by decide +kernel
theorem dX2_readEdit_153 : decode cX2_readEdit 153 = .ok (.ifCond .eq 10, 3) := by decide +kernel
theorem dX2_readEdit_156 : decode cX2_readEdit 156 = .ok (.aload_n 1, 1) := by decide +kernel
theorem dX2_readEdit_157 : decode cX2_readEdit 157 = .ok (.iconst 4, 1) := by decide +kernel
theorem dX2_readEdit_158 : decode cX2_readEdit 158 = .ok (.invokevirtual 125, 3) := by decide +kernel
theorem dX2_readEdit_161 : decode cX2_readEdit 161 = .ok (.istore 7, 2) := by decide +kernel
theorem dX2_readEdit_163 : decode cX2_readEdit 163 = .ok (.aload_n 1, 1) := by decide +kernel
theorem dX2_readEdit_164 : decode cX2_readEdit 164 = .ok (.getfield 75, 3) := by decide +kernel
theorem dX2_readEdit_167 : decode cX2_readEdit 167 = .ok (.ifCond .eq 4, 3) := by decide +kernel
theorem dX2_readEdit_170 : decode cX2_readEdit 170 = .ok (.return_, 1) := by decide +kernel
theorem dX2_readEdit_171 : decode cX2_readEdit 171 = .ok (.iconst 0, 1) := by decide +kernel
theorem dX2_readEdit_172 : decode cX2_readEdit 172 = .ok (.istore 8, 2) := by decide +kernel
theorem dX2_readEdit_174 : decode cX2_readEdit 174 = .ok (.iload 4, 2) := by decide +kernel
theorem dX2_readEdit_176 : decode cX2_readEdit 176 = .ok (.bipush 43, 2) := by decide +kernel
theorem dX2_readEdit_178 : decode cX2_readEdit 178 = .ok (.if_icmp .ne 16, 3) := by decide +kernel
theorem dX2_readEdit_181 : decode cX2_readEdit 181 = .ok (.aload_n 0, 1) := by decide +kernel
theorem dX2_readEdit_182 : decode cX2_readEdit 182 = .ok (.iload 6, 2) := by decide +kernel
theorem dX2_readEdit_184 : decode cX2_readEdit 184 = .ok (.iload 7, 2) := by decide +kernel
theorem dX2_readEdit_186 : decode cX2_readEdit 186 = .ok (.invokevirtual 129, 3) := by decide +kernel
theorem dX2_readEdit_189 : decode cX2_readEdit 189 = .ok (.istore 8, 2) := by decide +kernel
theorem dX2_readEdit_191 : decode cX2_readEdit 191 = .ok (.goto 80, 3) := by decide +kernel
theorem dX2_readEdit_194 : decode cX2_readEdit 194 = .ok (.iload 4, 2) := by decide +kernel
theorem dX2_readEdit_196 : decode cX2_readEdit 196 = .ok (.bipush 94, 2) := by decide +kernel
theorem dX2_readEdit_198 : decode cX2_readEdit 198 = .ok (.if_icmp .ne 25, 3) := by decide +kernel
theorem dX2_readEdit_201 : decode cX2_readEdit 201 = .ok (.aload_n 0, 1) := by decide +kernel
theorem dX2_readEdit_202 : decode cX2_readEdit 202 = .ok (.aload_n 2, 1) := by decide +kernel
theorem dX2_readEdit_203 : decode cX2_readEdit 203 = .ok (.aload_n 0, 1) := by decide +kernel
theorem dX2_readEdit_204 : decode cX2_readEdit 204 = .ok (.getfield 9, 3) := by decide +kernel
theorem dX2_readEdit_207 : decode cX2_readEdit 207 = .ok (.iload 5, 2) := by decide +kernel
theorem dX2_readEdit_209 : decode cX2_readEdit 209 = .ok (.iaload, 1) := by decide +kernel
theorem dX2_readEdit_210 : decode cX2_readEdit 210 = .ok (.invokevirtual 82, 3) := by decide +kernel
theorem dX2_readEdit_213 : decode cX2_readEdit 213 = .ok (.iload 6, 2) := by decide +kernel
theorem dX2_readEdit_215 : decode cX2_readEdit 215 = .ok (.invokevirtual 132, 3) := by decide +kernel
theorem dX2_readEdit_218 : decode cX2_readEdit 218 = .ok (.istore 8, 2) := by decide +kernel
theorem dX2_readEdit_220 : decode cX2_readEdit 220 = .ok (.goto 51, 3) := by decide +kernel
theorem dX2_readEdit_223 : decode cX2_readEdit 223 = .ok (.aload_n 0, 1) := by decide +kernel
theorem dX2_readEdit_224 : decode cX2_readEdit 224 = .ok (.getfield 20, 3) := by decide +kernel
theorem dX2_readEdit_227 : decode cX2_readEdit 227 = .ok (.iload 6, 2) := by decide +kernel
theorem dX2_readEdit_229 : decode cX2_readEdit 229 = .ok (.invokevirtual 136, 3) := by decide +kernel
theorem dX2_readEdit_232 : decode cX2_readEdit 232 = .ok (.ifCond .ne 10, 3) := by decide +kernel
theorem dX2_readEdit_235 : decode cX2_readEdit 235 = .ok (.bipush 8, 2) := by decide +kernel
theorem dX2_readEdit_237 : decode cX2_readEdit 237 = .ok (.istore 8, 2) := by decide +kernel
theorem dX2_readEdit_239 : decode cX2_readEdit 239 = .ok (.goto 32, 3) := by decide +kernel
theorem dX2_readEdit_242 : decode cX2_readEdit 242 = .ok (.iload 4, 2) := by decide +kernel
theorem dX2_readEdit_244 : decode cX2_readEdit 244 = .ok (.bipush 42, 2) := by decide +kernel
theorem dX2_readEdit_246 : decode cX2_readEdit 246 = .ok (.if_icmp .ne 16, 3) := by decide +kernel
theorem dX2_readEdit_249 : decode cX2_readEdit 249 = .ok (.aload_n 0, 1) := by decide +kernel
theorem dX2_readEdit_250 : decode cX2_readEdit 250 = .ok (.iload 6, 2) := by decide +kernel
theorem dX2_readEdit_252 : decode cX2_readEdit 252 = .ok (.iload 7, 2) := by decide +kernel
theorem dX2_readEdit_254 : decode cX2_readEdit 254 = .ok (.invokevirtual 139, 3) := by decide +kernel
theorem dX2_readEdit_257 : decode cX2_readEdit 257 = .ok (.istore 8, 2) := by decide +kernel
theorem dX2_readEdit_259 : decode cX2_readEdit 259 = .ok (.goto 12, 3) := by decide +kernel
theorem dX2_readEdit_262 : decode cX2_readEdit 262 = .ok (.aload_n 0, 1) := by decide +kernel
theorem dX2_readEdit_263 : decode cX2_readEdit 263 = .ok (.getfield 20, 3) := by decide +kernel
theorem dX2_readEdit_266 : decode cX2_readEdit 266 = .ok (.iload 6, 2) := by decide +kernel
theorem dX2_readEdit_268 : decode cX2_readEdit 268 = .ok (.invokevirtual 142, 3) := by decide +kernel
theorem dX2_readEdit_271 : decode cX2_readEdit 271 = .ok (.iload 8, 2) := by decide +kernel
theorem dX2_readEdit_273 : decode cX2_readEdit 273 = .ok (.ifCond .eq 10, 3) := by decide +kernel
theorem dX2_readEdit_276 : decode cX2_readEdit 276 = .ok (.aload_n 1, 1) := by decide +kernel
theorem dX2_readEdit_277 : decode cX2_readEdit 277 = .ok (.iload 8, 2) := by decide +kernel
theorem dX2_readEdit_279 : decode cX2_readEdit 279 = .ok (.iload_n 3, 1) := by decide +kernel
theorem dX2_readEdit_280 : decode cX2_readEdit 280 = .ok (.invokevirtual 107, 3) := by decide +kernel
theorem dX2_readEdit_283 : decode cX2_readEdit 283 = .ok (.return_, 1) := by decide +kernel
def pEditDo (cs : List kC) (sg v5 v6 v7 : Int) (d : kC) : Int × List gF :=
  if sg = 43 then dPutF v6 v7 (kFs d)
  else if sg = 94 then (match (kPs d)[v5.toNat]? with
    | some pp => match cs[pp.toNat]? with
      | some c => dFetch v6 (kFs c) (kFs d)
      | none => (0, kFs d)
    | none => (0, kFs d))
  else if tCnt v6 (kFs d) = 0 then (8, kFs d)
  else if sg = 42 then dMov v6 v7 (kFs d)
  else (0, (kFs d).filter (fun f => !pCov v6 f.1))
abbrev pE : Type := Int × Int × List Int × kC
def pEditEnd (cs : List kC) (sg v5 v6 p : Int) (d : kC) (y : pR) : pE :=
  if y.1 ≠ 0 then (y.1, y.2.2.1, y.2.2.2, d)
  else (if (pEditDo cs sg v5 v6 y.2.1 d).1 = 0 then 0 else -1000 * (pEditDo cs sg v5 v6 y.2.1 d).1 - p, y.2.2.1, y.2.2.2, dFs d (pEditDo cs sg v5 v6 y.2.1 d).2)
def pEd1 (sg : Int) (n : Int) (s : List Int) (p : Int) : pR := if sg = 94 then pDigit 0 (n - 1) s p else (0, 0, p, s)
def pEd2 (y : pR) : pR := if y.1 = 0 then pPath 4 y.2.2.2 y.2.2.1 else (y.1, 0, y.2.2.1, y.2.2.2)
def pEd3 (sg : Int) (y : pR) : pR :=
  if sg = 43 ∧ y.1 = 0 then (if hd y.2.2.2 = 61 then pDigits 6 1 y.2.2.2.tail (y.2.2.1 + 1) else (-1000 - y.2.2.1, 0, y.2.2.1, y.2.2.2))
  else if sg = 42 ∧ y.1 = 0 then (if hd y.2.2.2 = 62 then pPath 4 y.2.2.2.tail (y.2.2.1 + 1) else (-1000 - y.2.2.1, 0, y.2.2.1, y.2.2.2))
  else (y.1, 0, y.2.2.1, y.2.2.2)
def pEdit (cs : List kC) (s : List Int) (p : Int) (d : kC) : pE :=
  if hd s = 43 ∨ hd s = 45 ∨ hd s = 42 ∨ hd s = 94 then
    pEditEnd cs (hd s) (pEd1 (hd s) ((kPs d).length : Int) s.tail (p + 1)).2.1 (pEd2 (pEd1 (hd s) ((kPs d).length : Int) s.tail (p + 1))).2.1 p d (pEd3 (hd s) (pEd2 (pEd1 (hd s) ((kPs d).length : Int) s.tail (p + 1))))
  else (-1000 - p, p, s, d)
theorem dPutF_rng (w c : Int) (fs : List gF) : 0 ≤ (dPutF w c fs).1 ∧ (dPutF w c fs).1 ≤ 9 := by
  unfold dPutF
  split
  · exact ⟨by simp, by simp⟩
  · split <;> exact ⟨by simp, by simp⟩
theorem dFetch_rng (w : Int) (os fs : List gF) : 0 ≤ (dFetch w os fs).1 ∧ (dFetch w os fs).1 ≤ 9 := by
  unfold dFetch
  split
  · exact ⟨by simp, by simp⟩
  · split <;> exact ⟨by simp, by simp⟩
theorem dMov_rng (f t : Int) (fs : List gF) : 0 ≤ (dMov f t fs).1 ∧ (dMov f t fs).1 ≤ 9 := by
  unfold dMov
  split
  · exact ⟨by simp, by simp⟩
  · split <;> exact ⟨by simp, by simp⟩
theorem pPath_ok {k : Nat} {s : List Int} {p : Int} (hk : k ≤ 6) (hp : 0 ≤ p) (h : (pPath k s p).1 = 0) : 0 ≤ (pPath k s p).2.1 ∧ (pPath k s p).2.1 < 1073741824 := by
  rcases pPathGo_rng k 0 33554432 0 s p (by omega) (by omega) (by omega) (fun _ => ⟨rfl, rfl⟩) with z | z
  · exact ⟨z.2.1, z.2.2⟩
  · unfold pPath at h
    omega
theorem pDigit_ok {lo hi : Int} {s : List Int} {p : Int} (hp : 0 ≤ p) (h : (pDigit lo hi s p).1 = 0) : lo ≤ (pDigit lo hi s p).2.1 ∧ (pDigit lo hi s p).2.1 ≤ hi := by
  cases s with
  | nil => have h2 : -1000 - p = 0 := h; omega
  | cons c r =>
    rw [pDigit] at h ⊢
    by_cases h1 : 48 ≤ c ∧ c ≤ 57
    · rw [if_pos h1] at h ⊢
      by_cases h2 : lo ≤ c - 48 ∧ c - 48 ≤ hi
      · rw [if_pos h2] at h ⊢; exact h2
      · rw [if_neg h2] at h
        have h3 : -3000 - p = 0 := h
        omega
    · rw [if_neg h1] at h
      have h3 : -1000 - p = 0 := h
      omega
theorem sp_X2_readEdit {sh : gS} {M : gM} {a p : Int} {s : List Int} {d : kC} {cs : List kC} (hOK : gOK sh M) (hC : cOk sh M cs) (hT : tpIn M p s) (h0 : M 1 4 = 0) (hD : dOk sh M a d) (hps : ∀ q ∈ kPs d, 0 ≤ q ∧ q < (cs.length : Int)) (hfl : (kFs d).length ≤ 16) :
    gC (gr 3 112) yX2_readEdit cX2_readEdit 9 none [(4, a), (4, 1), (4, 4)] sh M (gPm sh (fun r M1 => r = none ∧ rdP sh M a (pEdit cs s p d).1 (pEdit cs s p d).2.1 (pEdit cs s p d).2.2.1 (pEdit cs s p d).2.2.2 M1)) := by
  have hsa := hD.1.1
  have hst := hD.1.2.2.1
  have hss1 := hD.1.2.1
  obtain ⟨s8, s9, s10, s11⟩ := id hst
  have ha0 : 379 < a := hD.1.2.2.2.2.2.1
  have ha1 : a < 750 := hD.1.2.2.2.2.2.2
  generalize hx : pEdit cs s p d = x
  have hlp := tpIn_len hT
  have h271 : ∀ (sg v5 v6 v7 r : Int) (fs : List gF) (q : Int) (s1 : List Int) (M1 : gM), rdP sh M a 0 q s1 (dFs d fs) M1 → 0 ≤ r → r ≤ 9 → x = (if r = 0 then 0 else -1000 * r - p, q, s1, dFs d fs) →
      gA (gr 3 112) yX2_readEdit cX2_readEdit 9 none (gPm sh (fun r M1 => r = none ∧ rdP sh M a x.1 x.2.1 x.2.2.1 x.2.2.2 M1)) (0, 0) 271 [(4, a), (4, 1), (4, 4), (0, p), (0, sg), (0, v5), (0, v6), (0, v7), (0, r)] [] sh M1 := by
    intro sg v5 v6 v7 r fs q s1 M1 hP r0 r1 hv
    obtain ⟨hT1, hf1, hD1, hO1, hF1⟩ := id hP
    refine g_iload (q0 := 273) (j := 8) rfl dX2_readEdit_271 rfl ?_
    refine g_if_eq (q0 := 276) (tgt := 283) rfl dX2_readEdit_273 (by decide) (fun h273 => ?_) (fun h273 => ?_)
    · rw [if_pos h273] at hv
      refine g_return dX2_readEdit_283 rfl ⟨Nat.zero_le _, Nat.zero_le _⟩ ?_
      rw [hv]
      exact ⟨rfl, rfl, hP⟩
    · rw [if_neg h273] at hv
      refine g_aload_n (q0 := 277) (j := 1) rfl dX2_readEdit_276 rfl ?_
      refine g_iload (q0 := 279) (j := 8) rfl dX2_readEdit_277 rfl ?_
      refine g_iload_n (q0 := 280) (j := 3) rfl dX2_readEdit_279 rfl ?_
      refine g_callVm (as := [_, _]) (rest := []) mt_X9_fail mi_X9_fail se_X9_fail ml_X2_107 dX2_readEdit_280 (q0 := 283) rfl rfl (sh_1 hO1) rfl rfl (sp_X9_fail hO1 ⟨by omega, by omega⟩ ⟨by omega, by omega⟩) rfl ⟨by decide, by decide⟩ (Nat.le_of_ble_eq_true rfl) ⟨Nat.zero_le _, Nat.zero_le _⟩ (fun r1 M1 hP1 hw1 hMw1 => ?_)
      obtain ⟨rfl, rfl⟩ := hP1
      refine g_return dX2_readEdit_283 rfl ⟨Nat.zero_le _, Nat.zero_le _⟩ ?_
      rw [hv]
      refine ⟨rfl, rfl, ?_⟩
      rw [hT1.1, hf1]
      exact rdP_t hP (tpIn_self hT1)
  have h163 : ∀ (sg v5 v6 v7 : Int) (y : pR) (w8 : gV) (M1 : gM), gw w8 → rdP sh M a y.1 y.2.2.1 y.2.2.2 d M1 → y.2.1 = v7 → (y.1 = 0 → 0 ≤ v6 ∧ v6 < 1073741824) → (y.1 = 0 → sg = 42 → 0 ≤ v7 ∧ v7 < 1073741824) → (y.1 = 0 → sg = 94 → 0 ≤ v5 ∧ v5 < ((kPs d).length : Int)) → x = pEditEnd cs sg v5 v6 p d y →
      gA (gr 3 112) yX2_readEdit cX2_readEdit 9 none (gPm sh (fun r M1 => r = none ∧ rdP sh M a x.1 x.2.1 x.2.2.1 x.2.2.2 M1)) (0, 0) 163 [(4, a), (4, 1), (4, 4), (0, p), (0, sg), (0, v5), (0, v6), (0, v7), w8] [] sh M1 := by
    intro sg v5 v6 v7 y w8 M1 hw8 hP hy k6 k7 k5 hv
    obtain ⟨hT1, hf1, hD1, hO1, hF1⟩ := id hP
    rw [pEditEnd, hy] at hv
    refine g_aload_n (q0 := 164) (j := 1) rfl dX2_readEdit_163 rfl ?_
    refine g_getf (q0 := 167) (t := 0) (fi := 4) rfl rfl ff_X2_75 dX2_readEdit_164 rfl (sh_1 hO1) ?_
    refine g_if_eq (q0 := 170) (tgt := 171) rfl dX2_readEdit_167 (by decide) (fun h167 => ?_) (fun h167 => ?_)
    · rw [hf1] at h167
      rw [if_neg (by omega)] at hv
      have k6 := k6 h167
      have k7 := k7 h167
      have k5 := k5 h167
      rw [h167] at hP hf1
      have hrw := hD1.2.2.2.1
      have htr := hD1.2.2.2.2.1
      have hC1 : cOk sh M1 cs := cOk_fr hC (fun b b0 b1 => hF1 b (by omega) (by omega))
      refine g_iconst (q0 := 172) rfl dX2_readEdit_171 (k := ?_)
      refine g_istore (q0 := 174) (j := 8) (lv2 := [_, _, _, _, _, _, _, _, _]) rfl dX2_readEdit_172 (by decide) rfl rfl ?_
      refine g_iload (q0 := 176) (j := 4) rfl dX2_readEdit_174 rfl ?_
      refine g_bipush (q0 := 178) rfl dX2_readEdit_176 (k := ?_)
      refine g_icmp_ne (q0 := 181) (tgt := 194) rfl dX2_readEdit_178 (by decide) (fun h178 => ?_) (fun h178 => ?_)
      · rw [pEditDo, if_neg h178] at hv
        refine g_iload (q0 := 196) (j := 4) rfl dX2_readEdit_194 rfl ?_
        refine g_bipush (q0 := 198) rfl dX2_readEdit_196 (k := ?_)
        refine g_icmp_ne (q0 := 201) (tgt := 223) rfl dX2_readEdit_198 (by decide) (fun h198 => ?_) (fun h198 => ?_)
        · rw [if_neg h198] at hv
          refine g_aload_n (q0 := 224) (j := 0) rfl dX2_readEdit_223 rfl ?_
          refine g_getp (q0 := 227) (b := a + 2) rfl ff_X2_20 dX2_readEdit_224 rfl hO1 (by omega) (by assumption) rfl rfl ?_
          refine g_iload (q0 := 229) (j := 6) rfl dX2_readEdit_227 rfl ?_
          refine g_callVp (as := [_]) (rest := []) mt_X10_filesAt mi_X10_filesAt se_X10_filesAt ml_X2_136 dX2_readEdit_229 (q0 := 232) rfl rfl (by assumption) rfl rfl (sp_X10_filesAt hO1 htr k6) rfl ⟨by decide, by decide⟩ (Nat.le_of_ble_eq_true rfl) ⟨Nat.zero_le _, Nat.zero_le _⟩ (fun hwc => ?_)
          refine g_if_ne (q0 := 235) (tgt := 242) rfl dX2_readEdit_232 (by decide) (fun h232 => ?_) (fun h232 => ?_)
          · rw [if_neg h232] at hv
            refine g_iload (q0 := 244) (j := 4) rfl dX2_readEdit_242 rfl ?_
            refine g_bipush (q0 := 246) rfl dX2_readEdit_244 (k := ?_)
            refine g_icmp_ne (q0 := 249) (tgt := 262) rfl dX2_readEdit_246 (by decide) (fun h246 => ?_) (fun h246 => ?_)
            · rw [if_neg h246] at hv
              refine g_aload_n (q0 := 263) (j := 0) rfl dX2_readEdit_262 rfl ?_
              refine g_getp (q0 := 266) (b := a + 2) rfl ff_X2_20 dX2_readEdit_263 rfl hO1 (by omega) (by assumption) rfl rfl ?_
              refine g_iload (q0 := 268) (j := 6) rfl dX2_readEdit_266 rfl ?_
              refine g_callVm (as := [_]) (rest := []) mt_X10_removeAt mi_X10_removeAt se_X10_removeAt ml_X2_142 dX2_readEdit_268 (q0 := 271) rfl rfl (by assumption) rfl rfl (sp_X10_removeAt hO1 htr k6) rfl ⟨by decide, by decide⟩ (Nat.le_of_ble_eq_true rfl) ⟨Nat.zero_le _, Nat.zero_le _⟩ (fun r2 M2 hP2 hw2 hMw2 => ?_)
              obtain ⟨rfl, t1, hO2, t2⟩ := hP2
              exact h271 _ _ _ _ 0 _ _ _ M2 (rdP_d hP ⟨dOk_tree hD1 t1 (fun b b0 b1 b2 _ => t2 b b0 b1 b2), hO2, fun b hb => t2 b (by omega) (by omega) (by omega)⟩) (by decide) (by decide) hv
            · rw [if_pos h246] at hv
              refine g_aload_n (q0 := 250) (j := 0) rfl dX2_readEdit_249 rfl ?_
              refine g_iload (q0 := 252) (j := 6) rfl dX2_readEdit_250 rfl ?_
              refine g_iload (q0 := 254) (j := 7) rfl dX2_readEdit_252 rfl ?_
              refine g_callVm (as := [_, _]) (rest := []) mt_X2_moveAll mi_X2_moveAll se_X2_moveAll ml_X2_139 dX2_readEdit_254 (q0 := 257) rfl rfl (by assumption) rfl rfl (sp_X2_moveAll hO1 hD1 k6 (k7 h246)) rfl ⟨by decide, by decide⟩ (Nat.le_of_ble_eq_true rfl) ⟨Nat.zero_le _, Nat.zero_le _⟩ (fun r2 M2 hP2 hw2 hMw2 => ?_)
              obtain ⟨rfl, hP2⟩ := hP2
              refine g_istore (q0 := 259) (j := 8) (lv2 := [_, _, _, _, _, _, _, _, _]) rfl dX2_readEdit_257 (by decide) rfl rfl ?_
              refine g_goto (tgt := 271) dX2_readEdit_259 (by decide) ?_
              exact h271 _ _ _ _ _ _ _ _ M2 (rdP_d hP hP2) (dMov_rng _ _ _).1 (dMov_rng _ _ _).2 hv
          · rw [if_pos h232] at hv
            refine g_bipush (q0 := 237) rfl dX2_readEdit_235 (k := ?_)
            refine g_istore (q0 := 239) (j := 8) (lv2 := [_, _, _, _, _, _, _, _, _]) rfl dX2_readEdit_237 (by decide) rfl rfl ?_
            refine g_goto (tgt := 271) dX2_readEdit_239 (by decide) ?_
            exact h271 _ _ _ _ 8 _ _ _ M1 (by rw [dFs_self]; exact hP) (by decide) (by decide) hv
        · rw [if_pos h198] at hv
          have k5 := k5 h198
          obtain ⟨m, rfl⟩ : ∃ m : Nat, v5 = (m : Int) := ⟨v5.toNat, by omega⟩
          have hpm : (kPs d)[m]? = some (kPs d)[m] := List.getElem?_eq_getElem (by omega)
          have hpr := hps _ (List.getElem_mem (show m < (kPs d).length by omega))
          have hpv : M1 (a + 1) (m : Int) = (kPs d)[m] := by
            have := hrw m _ hpm
            rwa [Int.zero_add] at this
          rw [Int.toNat_natCast, hpm] at hv
          generalize (kPs d)[m] = pp at hpm hpr hpv hv
          obtain ⟨j, rfl⟩ : ∃ j : Nat, pp = (j : Int) := ⟨pp.toNat, by omega⟩
          have hcj : cs[j]? = some cs[j] := List.getElem?_eq_getElem (by omega)
          simp only [Int.toNat_natCast, hcj] at hv
          have hl3 := hD1.2.2.1
          have hct := (cT_rng hC1 hcj).2.2
          have hcr := cT_rng hC1 hcj
          have hcl := cOk_len hC1 hcj
          have hca : cT M1 (j : Int) + 2 < a := by unfold cT; omega
          refine g_aload_n (q0 := 202) (j := 0) rfl dX2_readEdit_201 rfl ?_
          refine g_aload_n (q0 := 203) (j := 2) rfl dX2_readEdit_202 rfl ?_
          refine g_aload_n (q0 := 204) (j := 0) rfl dX2_readEdit_203 rfl ?_
          refine g_getp (q0 := 207) (b := a + 1) rfl ff_X2_9 dX2_readEdit_204 rfl hO1 (by omega) (by assumption) rfl rfl ?_
          refine g_iload (q0 := 209) (j := 5) rfl dX2_readEdit_207 rfl ?_
          refine g_iald (q0 := 210) rfl dX2_readEdit_209 (by assumption) (by omega) (by omega) ?_
          rw [hpv]
          refine g_callVp (as := [_]) (rest := [_]) mt_X1_tree mi_X1_tree se_X1_tree ml_X2_82 dX2_readEdit_210 (q0 := 213) rfl rfl (sh_4 hO1) rfl rfl (sp_X1_tree hO1 hC1 hcj) rfl ⟨by decide, by decide⟩ (Nat.le_of_ble_eq_true rfl) ⟨Nat.zero_le _, Nat.zero_le _⟩ (fun hwc => ?_)
          refine g_iload (q0 := 215) (j := 6) rfl dX2_readEdit_213 rfl ?_
          refine g_callVm (as := [_, _]) (rest := []) mt_X2_fetch mi_X2_fetch se_X2_fetch ml_X2_132 dX2_readEdit_215 (q0 := 218) rfl rfl (by assumption) rfl rfl (sp_X2_fetch hO1 hD1 hct k6 hca) rfl ⟨by decide, by decide⟩ (Nat.le_of_ble_eq_true rfl) ⟨Nat.zero_le _, Nat.zero_le _⟩ (fun r2 M2 hP2 hw2 hMw2 => ?_)
          obtain ⟨rfl, hP2⟩ := hP2
          refine g_istore (q0 := 220) (j := 8) (lv2 := [_, _, _, _, _, _, _, _, _]) rfl dX2_readEdit_218 (by decide) rfl rfl ?_
          refine g_goto (tgt := 271) dX2_readEdit_220 (by decide) ?_
          exact h271 _ _ _ _ _ _ _ _ M2 (rdP_d hP hP2) (dFetch_rng _ _ _).1 (dFetch_rng _ _ _).2 hv
      · rw [pEditDo, if_pos h178] at hv
        refine g_aload_n (q0 := 182) (j := 0) rfl dX2_readEdit_181 rfl ?_
        refine g_iload (q0 := 184) (j := 6) rfl dX2_readEdit_182 rfl ?_
        refine g_iload (q0 := 186) (j := 7) rfl dX2_readEdit_184 rfl ?_
        refine g_callVm (as := [_, _]) (rest := []) mt_X2_putFile mi_X2_putFile se_X2_putFile ml_X2_129 dX2_readEdit_186 (q0 := 189) rfl rfl (by assumption) rfl rfl (sp_X2_putFile hO1 hD1 k6 (by omega)) rfl ⟨by decide, by decide⟩ (Nat.le_of_ble_eq_true rfl) ⟨Nat.zero_le _, Nat.zero_le _⟩ (fun r2 M2 hP2 hw2 hMw2 => ?_)
        obtain ⟨rfl, hP2⟩ := hP2
        refine g_istore (q0 := 191) (j := 8) (lv2 := [_, _, _, _, _, _, _, _, _]) rfl dX2_readEdit_189 (by decide) rfl rfl ?_
        refine g_goto (tgt := 271) dX2_readEdit_191 (by decide) ?_
        exact h271 _ _ _ _ _ _ _ _ M2 (rdP_d hP hP2) (dPutF_rng _ _ _).1 (dPutF_rng _ _ _).2 hv
    · rw [hf1] at h167
      rw [if_pos h167] at hv
      refine g_return dX2_readEdit_170 rfl ⟨Nat.zero_le _, Nat.zero_le _⟩ ?_
      rw [hv]
      exact ⟨rfl, rfl, hP⟩
  have hy0 : ∀ z : Int, ff 0 z = z := fun z => by unfold ff; simp
  have h98 : ∀ (sg v5 : Int) (y : pR) (M1 : gM), rdP sh M a y.1 y.2.2.1 y.2.2.2 d M1 → (y.1 = 0 → 0 ≤ y.2.1 ∧ y.2.1 < 1073741824) → (y.1 = 0 → sg = 94 → 0 ≤ v5 ∧ v5 < ((kPs d).length : Int)) → x = pEditEnd cs sg v5 y.2.1 p d (pEd3 sg y) →
      gA (gr 3 112) yX2_readEdit cX2_readEdit 9 none (gPm sh (fun r M1 => r = none ∧ rdP sh M a x.1 x.2.1 x.2.2.1 x.2.2.2 M1)) (0, 0) 98 [(4, a), (4, 1), (4, 4), (0, p), (0, sg), (0, v5), (0, y.2.1), (9, 0), (9, 0)] [] sh M1 := by
    intro sg v5 y M1 hP k6 k5 hv
    obtain ⟨hT1, hf1, hD1, hO1, hF1⟩ := id hP
    have hl1 := tpIn_len hT1
    have g9 : gw (9, 0) := trivial
    refine g_iconst (q0 := 99) rfl dX2_readEdit_98 (k := ?_)
    refine g_istore (q0 := 101) (j := 7) (lv2 := [_, _, _, _, _, _, _, _, _]) rfl dX2_readEdit_99 (by decide) rfl rfl ?_
    refine g_iload (q0 := 103) (j := 4) rfl dX2_readEdit_101 rfl ?_
    refine g_bipush (q0 := 105) rfl dX2_readEdit_103 (k := ?_)
    refine g_icmp_ne (q0 := 108) (tgt := 133) rfl dX2_readEdit_105 (by decide) (fun h105 => ?_) (fun h105 => ?_)
    · -- not a +
      refine g_iload (q0 := 135) (j := 4) rfl dX2_readEdit_133 rfl ?_
      refine g_bipush (q0 := 137) rfl dX2_readEdit_135 (k := ?_)
      refine g_icmp_ne (q0 := 140) (tgt := 163) rfl dX2_readEdit_137 (by decide) (fun h137 => ?_) (fun h137 => ?_)
      · rw [show pEd3 sg y = (y.1, 0, y.2.2.1, y.2.2.2) from by rw [pEd3, if_neg (fun e => h105 e.1), if_neg (fun e => h137 e.1)]] at hv
        exact h163 _ _ _ 0 (y.1, 0, y.2.2.1, y.2.2.2) _ M1 g9 hP rfl k6 (fun _ e => absurd e h137) k5 hv
      · refine g_aload_n (q0 := 141) (j := 1) rfl dX2_readEdit_140 rfl ?_
        refine g_getf (q0 := 144) (t := 0) (fi := 4) rfl rfl ff_X2_75 dX2_readEdit_141 rfl (sh_1 hO1) ?_
        refine g_if_ne (q0 := 147) (tgt := 163) rfl dX2_readEdit_144 (by decide) (fun h144 => ?_) (fun h144 => ?_)
        · rw [hf1] at h144
          rw [show pEd3 sg y = (y.1, 0, y.2.2.1, y.2.2.2) from by rw [pEd3, if_neg (fun e => h105 e.1), if_neg (fun e => h144 e.2)]] at hv
          exact h163 _ _ _ 0 (y.1, 0, y.2.2.1, y.2.2.2) _ M1 g9 hP rfl k6 (fun e => absurd e h144) k5 hv
        · rw [hf1] at h144
          rw [pEd3, if_neg (fun e => h105 e.1), if_pos ⟨h137, h144⟩] at hv
          have k6 := k6 h144
          rw [h144] at hP hf1
          refine g_aload_n (q0 := 148) (j := 1) rfl dX2_readEdit_147 rfl ?_
          refine g_bipush (q0 := 150) rfl dX2_readEdit_148 (k := ?_)
          refine g_callVm (as := [_]) (rest := []) mt_X9_expect mi_X9_expect se_X9_expect ml_X2_78 dX2_readEdit_150 (q0 := 153) rfl rfl (sh_1 hO1) rfl rfl (sp_X9_expect hO1 hT1 (by decide)) rfl ⟨by decide, by decide⟩ (Nat.le_of_ble_eq_true rfl) ⟨Nat.zero_le _, Nat.zero_le _⟩ (fun r2 M2 hP2 hw2 hMw2 => ?_)
          obtain ⟨rfl, hM2, hT2⟩ := hP2
          rw [hf1, hy0] at hM2
          by_cases he : hd y.2.2.2 = 62
          · rw [if_pos he] at hM2 hT2 hv ⊢
            rw [hM2] at hT2
            have hP3 := rdP_t hP hT2
            rw [← hM2] at hP3
            obtain ⟨hT3, hf3, hD3, hO2, hF3⟩ := id hP3
            have hl3 := tpIn_len hT3
            refine g_if_eq (q0 := 156) (tgt := 163) rfl dX2_readEdit_153 (by decide) (fun h153 => ?_) (fun h153 => ?_)
            · exact absurd h153 (by simp)
            · refine g_aload_n (q0 := 157) (j := 1) rfl dX2_readEdit_156 rfl ?_
              refine g_iconst (q0 := 158) rfl dX2_readEdit_157 (k := ?_)
              refine g_callVm (as := [_]) (rest := []) mt_X9_path mi_X9_path se_X9_path ml_X2_125 dX2_readEdit_158 (q0 := 161) rfl rfl (sh_1 hO1) rfl rfl (sp_X9_path (most := 4) hO2 hT3 (by decide)) rfl ⟨by decide, by decide⟩ (Nat.le_of_ble_eq_true rfl) ⟨Nat.zero_le _, Nat.zero_le _⟩ (fun r4 M4 hP4 hw4 hMw4 => ?_)
              obtain ⟨rfl, hM4, hT4⟩ := hP4
              rw [hf3, hy0] at hM4
              rw [hM4] at hT4
              have hP5 := rdP_t hP3 hT4
              rw [← hM4] at hP5
              obtain ⟨hT5, hf5, hD5, hO4, hF5⟩ := id hP5
              refine g_istore (q0 := 163) (j := 7) (lv2 := [_, _, _, _, _, _, _, _, _]) rfl dX2_readEdit_161 (by decide) rfl rfl ?_
              exact h163 _ _ _ _ _ _ M4 g9 hP5 rfl (fun _ => k6) (fun e _ => pPath_ok (by decide) (by omega) e) (fun _ e => by omega) hv
          · rw [if_neg he] at hM2 hT2 hv ⊢
            rw [hM2] at hT2
            have hP3 := rdP_t hP hT2
            rw [← hM2] at hP3
            obtain ⟨hT3, hf3, hD3, hO2, hF3⟩ := id hP3
            refine g_if_eq (q0 := 156) (tgt := 163) rfl dX2_readEdit_153 (by decide) (fun h153 => ?_) (fun h153 => ?_)
            · exact h163 _ _ _ 0 (-1000 - y.2.2.1, 0, y.2.2.1, y.2.2.2) _ M2 g9 hP3 rfl (fun _ => k6) (fun e => by have e2 : -1000 - y.2.2.1 = 0 := e; omega) (fun e => by have e2 : -1000 - y.2.2.1 = 0 := e; omega) hv
            · exact absurd rfl h153
    · -- a +
      have hto : ∀ (v7 : Int) (z : pR) (w8 : gV) (M2 : gM), gw w8 → rdP sh M a z.1 z.2.2.1 z.2.2.2 d M2 → z.2.1 = v7 → (z.1 = 0 → 0 ≤ y.2.1 ∧ y.2.1 < 1073741824) → x = pEditEnd cs sg v5 y.2.1 p d z →
          gA (gr 3 112) yX2_readEdit cX2_readEdit 9 none (gPm sh (fun r M1 => r = none ∧ rdP sh M a x.1 x.2.1 x.2.2.1 x.2.2.2 M1)) (0, 0) 133 [(4, a), (4, 1), (4, 4), (0, p), (0, sg), (0, v5), (0, y.2.1), (0, v7), w8] [] sh M2 := by
        intro v7 z w8 M2 hw8 hPz hz kz hvz
        have hO2 := hPz.2.2.2.1
        refine g_iload (q0 := 135) (j := 4) rfl dX2_readEdit_133 rfl ?_
        refine g_bipush (q0 := 137) rfl dX2_readEdit_135 (k := ?_)
        refine g_icmp_ne (q0 := 140) (tgt := 163) rfl dX2_readEdit_137 (by decide) (fun h137 => ?_) (fun h137 => ?_)
        · exact h163 _ _ _ _ _ _ M2 hw8 hPz hz kz (fun _ e => by omega) (fun _ e => by omega) hvz
        · omega
      refine g_aload_n (q0 := 109) (j := 1) rfl dX2_readEdit_108 rfl ?_
      refine g_getf (q0 := 112) (t := 0) (fi := 4) rfl rfl ff_X2_75 dX2_readEdit_109 rfl (sh_1 hO1) ?_
      refine g_if_ne (q0 := 115) (tgt := 133) rfl dX2_readEdit_112 (by decide) (fun h112 => ?_) (fun h112 => ?_)
      · rw [hf1] at h112
        rw [show pEd3 sg y = (y.1, 0, y.2.2.1, y.2.2.2) from by rw [pEd3, if_neg (fun e => h112 e.2), if_neg (fun e => h112 e.2)]] at hv
        exact hto 0 (y.1, 0, y.2.2.1, y.2.2.2) _ M1 g9 hP rfl k6 hv
      · rw [hf1] at h112
        rw [pEd3, if_pos ⟨h105, h112⟩] at hv
        have k6 := k6 h112
        rw [h112] at hP hf1
        refine g_aload_n (q0 := 116) (j := 1) rfl dX2_readEdit_115 rfl ?_
        refine g_bipush (q0 := 118) rfl dX2_readEdit_116 (k := ?_)
        refine g_callVm (as := [_]) (rest := []) mt_X9_expect mi_X9_expect se_X9_expect ml_X2_78 dX2_readEdit_118 (q0 := 121) rfl rfl (sh_1 hO1) rfl rfl (sp_X9_expect hO1 hT1 (by decide)) rfl ⟨by decide, by decide⟩ (Nat.le_of_ble_eq_true rfl) ⟨Nat.zero_le _, Nat.zero_le _⟩ (fun r2 M2 hP2 hw2 hMw2 => ?_)
        obtain ⟨rfl, hM2, hT2⟩ := hP2
        rw [hf1, hy0] at hM2
        by_cases he : hd y.2.2.2 = 61
        · rw [if_pos he] at hM2 hT2 hv ⊢
          rw [hM2] at hT2
          have hP3 := rdP_t hP hT2
          rw [← hM2] at hP3
          obtain ⟨hT3, hf3, hD3, hO2, hF3⟩ := id hP3
          have hl3 := tpIn_len hT3
          refine g_if_eq (q0 := 124) (tgt := 133) rfl dX2_readEdit_121 (by decide) (fun h121 => ?_) (fun h121 => ?_)
          · exact absurd h121 (by simp)
          · refine g_aload_n (q0 := 125) (j := 1) rfl dX2_readEdit_124 rfl ?_
            refine g_bipush (q0 := 127) rfl dX2_readEdit_125 (k := ?_)
            refine g_iconst (q0 := 128) rfl dX2_readEdit_127 (k := ?_)
            refine g_callVm (as := [_, _]) (rest := []) mt_X9_digits mi_X9_digits se_X9_digits ml_X2_110 dX2_readEdit_128 (q0 := 131) rfl rfl (sh_1 hO1) rfl rfl (sp_X9_digits (most := 6) hO2 hT3 (by decide) ⟨by decide, by decide⟩) rfl ⟨by decide, by decide⟩ (Nat.le_of_ble_eq_true rfl) ⟨Nat.zero_le _, Nat.zero_le _⟩ (fun r4 M4 hP4 hw4 hMw4 => ?_)
            obtain ⟨rfl, hM4, hT4⟩ := hP4
            rw [hf3, hy0] at hM4
            rw [hM4] at hT4
            have hP5 := rdP_t hP3 hT4
            rw [← hM4] at hP5
            obtain ⟨hT5, hf5, hD5, hO4, hF5⟩ := id hP5
            refine g_istore (q0 := 133) (j := 7) (lv2 := [_, _, _, _, _, _, _, _, _]) rfl dX2_readEdit_131 (by decide) rfl rfl ?_
            exact hto _ _ _ M4 g9 hP5 rfl (fun _ => k6) hv
        · rw [if_neg he] at hM2 hT2 hv ⊢
          rw [hM2] at hT2
          have hP3 := rdP_t hP hT2
          rw [← hM2] at hP3
          obtain ⟨hT3, hf3, hD3, hO2, hF3⟩ := id hP3
          refine g_if_eq (q0 := 124) (tgt := 133) rfl dX2_readEdit_121 (by decide) (fun h121 => ?_) (fun h121 => ?_)
          · exact hto 0 (-1000 - y.2.2.1, 0, y.2.2.1, y.2.2.2) _ M2 g9 hP3 rfl (fun _ => k6) hv
          · exact absurd rfl h121
  have h80 : ∀ (sg v5 : Int) (y : pR) (M1 : gM), rdP sh M a y.1 y.2.2.1 y.2.2.2 d M1 → y.2.1 = v5 → (y.1 = 0 → sg = 94 → 0 ≤ v5 ∧ v5 < ((kPs d).length : Int)) → x = pEditEnd cs sg v5 (pEd2 y).2.1 p d (pEd3 sg (pEd2 y)) →
      gA (gr 3 112) yX2_readEdit cX2_readEdit 9 none (gPm sh (fun r M1 => r = none ∧ rdP sh M a x.1 x.2.1 x.2.2.1 x.2.2.2 M1)) (0, 0) 80 [(4, a), (4, 1), (4, 4), (0, p), (0, sg), (0, v5), (9, 0), (9, 0), (9, 0)] [] sh M1 := by
    intro sg v5 y M1 hP hyv k5 hv
    obtain ⟨hT1, hf1, hD1, hO1, hF1⟩ := id hP
    have hl1 := tpIn_len hT1
    refine g_aload_n (q0 := 81) (j := 1) rfl dX2_readEdit_80 rfl ?_
    refine g_getf (q0 := 84) (t := 0) (fi := 4) rfl rfl ff_X2_75 dX2_readEdit_81 rfl (sh_1 hO1) ?_
    refine g_if_ne (q0 := 87) (tgt := 95) rfl dX2_readEdit_84 (by decide) (fun h84 => ?_) (fun h84 => ?_)
    · rw [hf1] at h84
      rw [pEd2, if_neg h84] at hv
      refine g_iconst (q0 := 96) rfl dX2_readEdit_95 (k := ?_)
      refine g_istore (q0 := 98) (j := 6) (lv2 := [_, _, _, _, _, _, _, _, _]) rfl dX2_readEdit_96 (by decide) rfl rfl ?_
      exact h98 sg v5 (y.1, 0, y.2.2.1, y.2.2.2) M1 hP (fun e => absurd e h84) k5 hv
    · rw [hf1] at h84
      rw [pEd2, if_pos h84] at hv
      have k5 := k5 h84
      rw [h84] at hP hf1
      refine g_aload_n (q0 := 88) (j := 1) rfl dX2_readEdit_87 rfl ?_
      refine g_iconst (q0 := 89) rfl dX2_readEdit_88 (k := ?_)
      refine g_callVm (as := [_]) (rest := []) mt_X9_path mi_X9_path se_X9_path ml_X2_125 dX2_readEdit_89 (q0 := 92) rfl rfl (sh_1 hO1) rfl rfl (sp_X9_path (most := 4) hO1 hT1 (by decide)) rfl ⟨by decide, by decide⟩ (Nat.le_of_ble_eq_true rfl) ⟨Nat.zero_le _, Nat.zero_le _⟩ (fun r4 M4 hP4 hw4 hMw4 => ?_)
      obtain ⟨rfl, hM4, hT4⟩ := hP4
      rw [hf1, hy0] at hM4
      rw [hM4] at hT4
      have hP5 := rdP_t hP hT4
      rw [← hM4] at hP5
      refine g_goto (tgt := 96) dX2_readEdit_92 (by decide) ?_
      refine g_istore (q0 := 98) (j := 6) (lv2 := [_, _, _, _, _, _, _, _, _]) rfl dX2_readEdit_96 (by decide) rfl rfl ?_
      exact h98 sg v5 (pPath 4 y.2.2.2 y.2.2.1) M4 hP5 (fun e => pPath_ok (by decide) (by omega) e) (fun _ => k5) hv
  have hP0 : rdP sh M a 0 p s d M := ⟨hT, h0, hD, hOK, fun _ _ _ => rfl⟩
  have h46 : ∀ (sg : Int) (r : List Int), s = sg :: r → (sg = 43 ∨ sg = 45 ∨ sg = 42 ∨ sg = 94) →
      gA (gr 3 112) yX2_readEdit cX2_readEdit 9 none (gPm sh (fun r M1 => r = none ∧ rdP sh M a x.1 x.2.1 x.2.2.1 x.2.2.2 M1)) (0, 0) 46 [(4, a), (4, 1), (4, 4), (0, p), (0, sg), (9, 0), (9, 0), (9, 0), (9, 0)] [] sh M := by
    intro sg r hs hsg
    subst hs
    simp only [List.length_cons] at hlp
    have hq := hT.1
    have hv : x = pEditEnd cs sg (pEd1 sg ((kPs d).length : Int) r (p + 1)).2.1 (pEd2 (pEd1 sg ((kPs d).length : Int) r (p + 1))).2.1 p d (pEd3 sg (pEd2 (pEd1 sg ((kPs d).length : Int) r (p + 1)))) := by
      rw [← hx]
      show (if sg = 43 ∨ sg = 45 ∨ sg = 42 ∨ sg = 94 then _ else _) = _
      rw [if_pos hsg]
      rfl
    have hP1 := rdP_adv hP0
    have hpl := hD.2.2.1
    refine g_aload_n (q0 := 47) (j := 1) rfl dX2_readEdit_46 rfl ?_
    refine g_dup (q0 := 48) rfl dX2_readEdit_47 (k := ?_)
    refine g_getf (q0 := 51) (t := 0) (fi := 2) rfl rfl ff_X2_101 dX2_readEdit_48 rfl (sh_1 hOK) ?_
    refine g_iconst (q0 := 52) rfl dX2_readEdit_51 (k := ?_)
    refine g_iadd (q0 := 53) rfl dX2_readEdit_52 (by omega) (by omega) ?_
    refine g_put (q0 := 56) (t := 0) (fi := 2) rfl rfl ff_X2_101 dX2_readEdit_53 rfl (sh_1 hOK) rfl (fun _ => ⟨rfl, rfl⟩) ?_
    refine g_iload (q0 := 58) (j := 4) rfl dX2_readEdit_56 rfl ?_
    refine g_bipush (q0 := 60) rfl dX2_readEdit_58 (k := ?_)
    refine g_icmp_ne (q0 := 63) (tgt := 77) rfl dX2_readEdit_60 (by decide) (fun h60 => ?_) (fun h60 => ?_)
    · rw [pEd1, if_neg h60] at hv
      obtain ⟨hT1, hf1, hD1, hO1, hF1⟩ := id hP1
      refine g_iconst (q0 := 78) rfl dX2_readEdit_77 (k := ?_)
      refine g_istore (q0 := 80) (j := 5) (lv2 := [_, _, _, _, _, _, _, _, _]) rfl dX2_readEdit_78 (by decide) rfl rfl ?_
      exact h80 sg 0 (0, 0, p + 1, r) _ hP1 rfl (fun _ e => absurd e h60) hv
    · rw [pEd1, if_pos h60] at hv
      obtain ⟨hT1, hf1, hD1, hO1, hF1⟩ := id hP1
      have hl1 := tpIn_len hT1
      generalize gU M 1 2 (M 1 2 + 1) = M1 at hP1 hT1 hf1 hD1 hO1 hF1 ⊢
      have hn := hD1.2.1
      refine g_aload_n (q0 := 64) (j := 1) rfl dX2_readEdit_63 rfl ?_
      refine g_iconst (q0 := 65) rfl dX2_readEdit_64 (k := ?_)
      refine g_aload_n (q0 := 66) (j := 0) rfl dX2_readEdit_65 rfl ?_
      refine g_getf (q0 := 69) (t := 0) (fi := 1) rfl rfl ff_X2_31 dX2_readEdit_66 rfl (by assumption) ?_
      refine g_iconst (q0 := 70) rfl dX2_readEdit_69 (k := ?_)
      refine g_isub (q0 := 71) rfl dX2_readEdit_70 (by omega) (by omega) ?_
      rw [hn]
      refine g_callVm (as := [_, _]) (rest := []) mt_X9_digit mi_X9_digit se_X9_digit ml_X2_122 dX2_readEdit_71 (q0 := 74) rfl rfl (sh_1 hO1) rfl rfl (sp_X9_digit hO1 hT1) rfl ⟨by decide, by decide⟩ (Nat.le_of_ble_eq_true rfl) ⟨Nat.zero_le _, Nat.zero_le _⟩ (fun r4 M4 hP4 hw4 hMw4 => ?_)
      obtain ⟨rfl, hM4, hT4⟩ := hP4
      rw [hf1, hy0] at hM4
      rw [hM4] at hT4
      have hP5 := rdP_t hP1 hT4
      rw [← hM4] at hP5
      refine g_goto (tgt := 78) dX2_readEdit_74 (by decide) ?_
      refine g_istore (q0 := 80) (j := 5) (lv2 := [_, _, _, _, _, _, _, _, _]) rfl dX2_readEdit_78 (by decide) rfl rfl ?_
      exact h80 sg _ (pDigit 0 (((kPs d).length : Int) - 1) r (p + 1)) M4 hP5 rfl (fun e _ => by have := pDigit_ok (by omega) e; omega) hv
  refine gC_ofA (lv := [_, _, _, _, _, _, _, _, _]) (by decide +kernel) (Nat.le_of_ble_eq_true rfl) rfl (fun hMw hav => ?_)
  have hq := hT.1
  refine g_aload_n (q0 := 1) (j := 1) rfl dX2_readEdit_0 rfl ?_
  refine g_getf (q0 := 4) (t := 0) (fi := 2) rfl rfl ff_X2_101 dX2_readEdit_1 rfl (sh_1 hOK) ?_
  refine g_istore_n (q0 := 5) (j := 3) (lv2 := [_, _, _, _, _, _, _, _, _]) rfl dX2_readEdit_4 (by decide) rfl rfl ?_
  refine g_aload_n (q0 := 6) (j := 1) rfl dX2_readEdit_5 rfl ?_
  refine g_callVp (as := []) (rest := []) mt_X9_next mi_X9_next se_X9_next ml_X2_66 dX2_readEdit_6 (q0 := 9) rfl rfl (sh_1 hOK) rfl rfl (sp_X9_next hOK hT) rfl ⟨by decide, by decide⟩ (Nat.le_of_ble_eq_true rfl) ⟨Nat.zero_le _, Nat.zero_le _⟩ (fun hwc => ?_)
  rw [hq]
  have hgo : (hd s = 43 ∨ hd s = 45 ∨ hd s = 42 ∨ hd s = 94) → gA (gr 3 112) yX2_readEdit cX2_readEdit 9 none (gPm sh (fun r M1 => r = none ∧ rdP sh M a x.1 x.2.1 x.2.2.1 x.2.2.2 M1)) (0, 0) 46 [(4, a), (4, 1), (4, 4), (0, p), (0, hd s), (9, 0), (9, 0), (9, 0), (9, 0)] [] sh M := by
    intro h
    cases s with
    | nil => have h2 : hd [] = -1 := rfl; omega
    | cons c r => exact h46 c r rfl h
  refine g_istore (q0 := 11) (j := 4) (lv2 := [_, _, _, _, _, _, _, _, _]) rfl dX2_readEdit_9 (by decide) rfl rfl ?_
  refine g_iload (q0 := 13) (j := 4) rfl dX2_readEdit_11 rfl ?_
  refine g_bipush (q0 := 15) rfl dX2_readEdit_13 (k := ?_)
  refine g_icmp_eq (q0 := 18) (tgt := 46) rfl dX2_readEdit_15 (by decide) (fun h15 => ?_) (fun h15 => ?_)
  · exact hgo (Or.inl h15)
  · refine g_iload (q0 := 20) (j := 4) rfl dX2_readEdit_18 rfl ?_
    refine g_bipush (q0 := 22) rfl dX2_readEdit_20 (k := ?_)
    refine g_icmp_eq (q0 := 25) (tgt := 46) rfl dX2_readEdit_22 (by decide) (fun h22 => ?_) (fun h22 => ?_)
    · exact hgo (Or.inr (Or.inl h22))
    · refine g_iload (q0 := 27) (j := 4) rfl dX2_readEdit_25 rfl ?_
      refine g_bipush (q0 := 29) rfl dX2_readEdit_27 (k := ?_)
      refine g_icmp_eq (q0 := 32) (tgt := 46) rfl dX2_readEdit_29 (by decide) (fun h29 => ?_) (fun h29 => ?_)
      · exact hgo (Or.inr (Or.inr (Or.inl h29)))
      · refine g_iload (q0 := 34) (j := 4) rfl dX2_readEdit_32 rfl ?_
        refine g_bipush (q0 := 36) rfl dX2_readEdit_34 (k := ?_)
        refine g_icmp_eq (q0 := 39) (tgt := 46) rfl dX2_readEdit_36 (by decide) (fun h36 => ?_) (fun h36 => ?_)
        · exact hgo (Or.inr (Or.inr (Or.inr h36)))
        · refine g_aload_n (q0 := 40) (j := 1) rfl dX2_readEdit_39 rfl ?_
          refine g_iconst (q0 := 41) rfl dX2_readEdit_40 (k := ?_)
          refine g_iload_n (q0 := 42) (j := 3) rfl dX2_readEdit_41 rfl ?_
          refine g_callVm (as := [_, _]) (rest := []) mt_X9_fail mi_X9_fail se_X9_fail ml_X2_107 dX2_readEdit_42 (q0 := 45) rfl rfl (sh_1 hOK) rfl rfl (sp_X9_fail hOK ⟨by omega, by omega⟩ ⟨by omega, by omega⟩) rfl ⟨by decide, by decide⟩ (Nat.le_of_ble_eq_true rfl) ⟨Nat.zero_le _, Nat.zero_le _⟩ (fun r1 M1 hP1 hw1 hMw1 => ?_)
          obtain ⟨rfl, rfl⟩ := hP1
          refine g_return dX2_readEdit_45 rfl ⟨Nat.zero_le _, Nat.zero_le _⟩ ?_
          rw [← hx, pEdit, if_neg (by omega), hq, h0, hy0]
          exact ⟨rfl, rfl, rdP_t hP0 (tpIn_self hT)⟩
