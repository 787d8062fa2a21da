-- ==== a TREE is carried
theorem dX8_carryTree_0 : decode cX8_carryTree 0 = .ok (.aload_n 0, 1) := by decide +kernel
theorem dX8_carryTree_1 : decode cX8_carryTree 1 = .ok (.getfield 21, 3) := by decide +kernel
theorem dX8_carryTree_4 : decode cX8_carryTree 4 = .ok (.getfield 51, 3) := by decide +kernel
theorem dX8_carryTree_7 : decode cX8_carryTree 7 = .ok (.astore_n 3, 1) := by decide +kernel
theorem dX8_carryTree_8 : decode cX8_carryTree 8 = .ok (.aload_n 3, 1) := by decide +kernel
theorem dX8_carryTree_9 : decode cX8_carryTree 9 = .ok (.iconst 0, 1) := by decide +kernel
theorem dX8_carryTree_10 : decode cX8_carryTree 10 = .ok (.putfield 171, 3) := by decide +kernel
theorem dX8_carryTree_13 : decode cX8_carryTree 13 = .ok (.aload_n 0, 1) := by decide +kernel
theorem dX8_carryTree_14 : decode cX8_carryTree 14 = .ok (.iconst 0, 1) := by decide +kernel
theorem dX8_carryTree_15 : decode cX8_carryTree 15 = .ok (.putfield 174, 3) := by decide +kernel
theorem dX8_carryTree_18 : decode cX8_carryTree 18 = .ok (.aload_n 0, 1) := by decide +kernel
theorem dX8_carryTree_19 : decode cX8_carryTree 19 = .ok (.iconst 0, 1) := by decide +kernel
theorem dX8_carryTree_20 : decode cX8_carryTree 20 = .ok (.putfield 177, 3) := by decide +kernel
theorem dX8_carryTree_23 : decode cX8_carryTree 23 = .ok (.iconst 0, 1) := by decide +kernel
theorem dX8_carryTree_24 : decode cX8_carryTree 24 = .ok (.istore 4, 2) := by decide +kernel
theorem dX8_carryTree_26 : decode cX8_carryTree 26 = .ok (.iload 4, 2) := by decide +kernel
theorem dX8_carryTree_28 : decode cX8_carryTree 28 = .ok (.aload_n 2, 1) := by decide +kernel
theorem dX8_carryTree_29 : decode cX8_carryTree 29 = .ok (.getfield 171, 3) := by decide +kernel
theorem dX8_carryTree_32 : decode cX8_carryTree 32 = .ok (.if_icmp .ge 149, 3) := by decide +kernel
theorem dX8_carryTree_35 : decode cX8_carryTree 35 = .ok (.aload_n 2, 1) := by decide +kernel
theorem dX8_carryTree_36 : decode cX8_carryTree 36 = .ok (.getfield 180, 3) := by decide +kernel
theorem dX8_carryTree_39 : decode cX8_carryTree 39 = .ok (.iload 4, 2) := by decide +kernel
theorem dX8_carryTree_41 : decode cX8_carryTree 41 = .ok (.iaload, 1) := by decide +kernel
theorem dX8_carryTree_42 : decode cX8_carryTree 42 = .ok (.istore 5, 2) := by decide +kernel
theorem dX8_carryTree_44 : decode cX8_carryTree 44 = .ok (.aload_n 1, 1) := by decide +kernel
theorem dX8_carryTree_45 : decode cX8_carryTree 45 = .ok (.getfield 183, 3) := by decide +kernel
theorem dX8_carryTree_48 : decode cX8_carryTree 48 = .ok (.getfield 186, 3) := by decide +kernel
theorem dX8_carryTree_51 : decode cX8_carryTree 51 = .ok (.ifCond .eq 15, 3) := by decide +kernel
theorem dX8_carryTree_54 : decode cX8_carryTree 54 = .ok (.aload_n 1, 1) := by decide +kernel
theorem dX8_carryTree_55 : decode cX8_carryTree 55 = .ok (.getfield 183, 3) := by decide +kernel
theorem dX8_carryTree_58 : decode cX8_carryTree 58 = .ok (.iload 5, 2) := by decide +kernel
theorem dX8_carryTree_60 : decode cX8_carryTree 60 = .ok (.invokevirtual 187, 3) := by decide +kernel
theorem dX8_carryTree_63 : decode cX8_carryTree 63 = .ok (.ifCond .eq 7, 3) := by decide +kernel
theorem dX8_carryTree_66 : decode cX8_carryTree 66 = .ok (.iconst 1, 1) := by decide +kernel
theorem dX8_carryTree_67 : decode cX8_carryTree 67 = .ok (.goto 4, 3) := by decide +kernel
theorem dX8_carryTree_70 : decode cX8_carryTree 70 = .ok (.iconst 0, 1) := by decide +kernel
theorem dX8_carryTree_71 : decode cX8_carryTree 71 = .ok (.istore 6, 2) := by decide +kernel
theorem dX8_carryTree_73 : decode cX8_carryTree 73 = .ok (.aload_n 2, 1) := by decide +kernel
theorem dX8_carryTree_74 : decode cX8_carryTree 74 = .ok (.getfield 191, 3) := by decide +kernel
theorem dX8_carryTree_77 : decode cX8_carryTree 77 = .ok (.iload 4, 2) := by decide +kernel
theorem dX8_carryTree_79 : decode cX8_carryTree 79 = .ok (.iaload, 1) := by decide +kernel
theorem dX8_carryTree_80 : decode cX8_carryTree 80 = .ok (.invokestatic 194, 3) := by decide +kernel
theorem dX8_carryTree_83 : decode cX8_carryTree 83 = .ok (.aload_n 1, 1) := by decide +kernel
theorem dX8_carryTree_84 : decode cX8_carryTree 84 = .ok (.getfield 199, 3) := by decide +kernel
theorem dX8_carryTree_87 : decode cX8_carryTree 87 = .ok (.if_icmp .gt 88, 3) := by decide +kernel
theorem dX8_carryTree_90 : decode cX8_carryTree 90 = .ok (.iload 6, 2) := by decide +kernel
theorem dX8_carryTree_92 : decode cX8_carryTree 92 = .ok (.ifCond .eq 83, 3) := by decide +kernel
theorem dX8_carryTree_95 : decode cX8_carryTree 95 = .ok (.aload_n 1, 1) := by decide +kernel
theorem dX8_carryTree_96 : decode cX8_carryTree 96 = .ok (.getfield 202, 3) := by decide +kernel
theorem dX8_carryTree_99 : decode cX8_carryTree 99 = .ok (.iload 5, 2) := by decide +kernel
theorem dX8_carryTree_101 : decode cX8_carryTree 101 = .ok (.invokevirtual 187, 3) := by decide +kernel
theorem dX8_carryTree_104 : decode cX8_carryTree 104 = .ok (.ifCond .eq 6, 3) := by decide +kernel
theorem dX8_carryTree_107 : decode cX8_carryTree 107 = .ok (.goto 68, 3) := by decide +kernel
theorem dX8_carryTree_110 : decode cX8_carryTree 110 = .ok (.aload_n 0, 1) := by decide +kernel
theorem dX8_carryTree_111 : decode cX8_carryTree 111 = .ok (.dup, 1) := by decide +kernel
theorem dX8_carryTree_112 : decode cX8_carryTree 112 = .ok (.getfield 174, 3) := by decide +kernel
theorem dX8_carryTree_115 : decode cX8_carryTree 115 = .ok (.iconst 1, 1) := by decide +kernel
theorem dX8_carryTree_116 : decode cX8_carryTree 116 = .ok (.iadd, 1) := by decide +kernel
theorem dX8_carryTree_117 : decode cX8_carryTree 117 = .ok (.putfield 174, 3) := by decide +kernel
theorem dX8_carryTree_120 : decode cX8_carryTree 120 = .ok (.aload_n 1, 1) := by decide +kernel
theorem dX8_carryTree_121 : decode cX8_carryTree 121 = .ok (.iload 5, 2) := by decide +kernel
theorem dX8_carryTree_123 : decode cX8_carryTree 123 = .ok (.invokevirtual 205, 3) := by decide +kernel
theorem dX8_carryTree_126 : decode cX8_carryTree 126 = .ok (.istore 7, 2) := by decide +kernel
theorem dX8_carryTree_128 : decode cX8_carryTree 128 = .ok (.iload 7, 2) := by decide +kernel
theorem dX8_carryTree_130 : decode cX8_carryTree 130 = .ok (.ifCond .lt 12, 3) := by decide +kernel
theorem dX8_carryTree_133 : decode cX8_carryTree 133 = .ok (.aload_n 3, 1) := by decide +kernel
theorem dX8_carryTree_134 : decode cX8_carryTree 134 = .ok (.iload 7, 2) := by decide +kernel
theorem dX8_carryTree_136 : decode cX8_carryTree 136 = .ok (.invokevirtual 208, 3) := by decide +kernel
theorem dX8_carryTree_139 : decode cX8_carryTree 139 = .ok (.ifCond .eq 16, 3) := by decide +kernel
theorem dX8_carryTree_142 : decode cX8_carryTree 142 = .ok (.aload_n 0, 1) := by decide +kernel
theorem dX8_carryTree_143 : decode cX8_carryTree 143 = .ok (.dup, 1) := by decide +kernel
theorem dX8_carryTree_144 : decode cX8_carryTree 144 = .ok (.getfield 177, 3) := by decide +kernel
theorem dX8_carryTree_147 : decode cX8_carryTree 147 = .ok (.iconst 1, 1) := by decide +kernel
theorem dX8_carryTree_148 : decode cX8_carryTree 148 = .ok (.iadd, 1) := by decide +kernel
theorem dX8_carryTree_149 : decode cX8_carryTree 149 = .ok (.putfield 177, 3) := by decide +kernel
theorem dX8_carryTree_152 : decode cX8_carryTree 152 = .ok (.goto 23, 3) := by decide +kernel
theorem dX8_carryTree_155 : decode cX8_carryTree 155 = .ok (.aload_n 3, 1) := by decide +kernel
theorem dX8_carryTree_156 : decode cX8_carryTree 156 = .ok (.iload 7, 2) := by decide +kernel
theorem dX8_carryTree_158 : decode cX8_carryTree 158 = .ok (.aload_n 1, 1) := by decide +kernel
theorem dX8_carryTree_159 : decode cX8_carryTree 159 = .ok (.getfield 211, 3) := by decide +kernel
theorem dX8_carryTree_162 : decode cX8_carryTree 162 = .ok (.aload_n 2, 1) := by decide +kernel
theorem dX8_carryTree_163 : decode cX8_carryTree 163 = .ok (.getfield 191, 3) := by decide +kernel
theorem dX8_carryTree_166 : decode cX8_carryTree 166 = .ok (.iload 4, 2) := by decide +kernel
theorem dX8_carryTree_168 : decode cX8_carryTree 168 = .ok (.iaload, 1) := by decide +kernel
theorem dX8_carryTree_169 : decode cX8_carryTree 169 = .ok (.invokevirtual 115, 3) := by decide +kernel
theorem dX8_carryTree_172 : decode cX8_carryTree 172 = .ok (.invokevirtual 214, 3) := by decide +kernel
theorem dX8_carryTree_175 : decode cX8_carryTree 175 = .ok (.iinc 4 1, 3) := by decide +kernel
theorem dX8_carryTree_178 : decode cX8_carryTree 178 = .ok (.goto (-152), 3) := by decide +kernel
theorem dX8_carryTree_181 : decode cX8_carryTree 181 = .ok (.return_, 1) := by decide +kernel
/-- whether a FILE is TAKEN -/
def rTk (pl : kP) (f : gF) : Bool := !(decide (pl.2.1 16 < dgN 6 f.2)) && (decide (pl.1 0 = []) || qCov f.1 (pl.1 0)) && !qCov f.1 (pl.1 1)
/-- how many are TAKEN, LOST; the TREE' -/
def rCt (pl : kP) : List gF → Int → Int → List gF → Int × Int × List gF
  | [], tk, ls, acc => (tk, ls, acc)
  | f :: r, tk, ls, acc =>
    if rTk pl f then
      if plPlace f.1 (pl.1 2) < 0 ∨ tTaken (plPlace f.1 (pl.1 2)) acc = true then rCt pl r (tk + 1) (ls + 1) acc
      else rCt pl r (tk + 1) ls (tPut (plPlace f.1 (pl.1 2)) ((qGet f.2 (pl.1 3)).getD f.2) acc)
    else rCt pl r tk ls acc
def ctP (sh : gS) (M : gM) (tk ls : Int) (acc : List gF) (M1 : gM) : Prop :=
  tOk sh M1 382 32 acc ∧ M1 3 6 = tk ∧ M1 3 7 = ls ∧ gOK sh M1 ∧ ∀ b : Int, b ≠ 3 → b ≠ 382 → b ≠ 383 → b ≠ 384 → M1 b = M b
def plRng (pl : kP) : Prop := (∀ f ∈ pl.1 0, 0 ≤ f.1 ∧ f.1 < 1073741824) ∧ (∀ f ∈ pl.1 1, 0 ≤ f.1 ∧ f.1 < 1073741824) ∧ ∀ f ∈ pl.1 2, (0 ≤ f.1 ∧ f.1 < 1073741824) ∧ 0 ≤ f.2 ∧ f.2 < 1073741824
theorem plPlace_mem (p : Int) : ∀ (ms : List (Int × Int)) (b : Option (Int × Int)) (x : Int × Int), plBest p b ms = some x → b = some x ∨ x ∈ ms
  | [], b, x, h => by cases b <;> exact Or.inl h
  | f :: r, none, x, h => by
    rw [plBest] at h
    split at h
    · rcases plPlace_mem p r _ x h with z | z
      · exact Or.inr (by cases z; exact List.mem_cons_self)
      · exact Or.inr (List.mem_cons_of_mem _ z)
    · rcases plPlace_mem p r _ x h with z | z
      · cases z
      · exact Or.inr (List.mem_cons_of_mem _ z)
  | f :: r, some b, x, h => by
    rw [plBest] at h
    split at h
    · split at h
      · rcases plPlace_mem p r _ x h with z | z
        · exact Or.inr (by cases z; exact List.mem_cons_self)
        · exact Or.inr (List.mem_cons_of_mem _ z)
      · rcases plPlace_mem p r _ x h with z | z
        · exact Or.inl z
        · exact Or.inr (List.mem_cons_of_mem _ z)
    · rcases plPlace_mem p r _ x h with z | z
      · exact Or.inl z
      · exact Or.inr (List.mem_cons_of_mem _ z)
theorem plPlace_rng {p : Int} {ms : List (Int × Int)} (hp : 0 ≤ p ∧ p < 1073741824) (hm : ∀ f ∈ ms, (0 ≤ f.1 ∧ f.1 < 1073741824) ∧ 0 ≤ f.2 ∧ f.2 < 1073741824) : plPlace p ms = -1 ∨ (0 ≤ plPlace p ms ∧ plPlace p ms < 1073741824) := by
  unfold plPlace
  cases h : plBest p none ms with
  | none => exact Or.inr hp
  | some b =>
    rcases plPlace_mem p ms none b h with z | z
    · cases z
    · exact pMov_rng (hm b z).2
theorem plKeep {sh : gS} {M : gM} {a : Int} {pl : kP} (hP : plOk sh M a pl) : qOk sh M (a + 1) 4 (pl.1 0) ∧ qOk sh M (a + 4) 4 (pl.1 1) ∧ qOk sh M (a + 10) 4 (pl.1 3) := ⟨plP hP (i := 0) (by decide) (by omega), plP hP (i := 1) (by decide) (by omega), plP hP (i := 3) (by decide) (by omega)⟩
