-- ==== a COMMIT is written
theorem dX1_write_0 : decode cX1_write 0 = .ok (.aload_n 0, 1) := by decide +kernel
theorem dX1_write_1 : decode cX1_write 1 = .ok (.getfield 34, 3) := by decide +kernel
theorem dX1_write_4 : decode cX1_write 4 = .ok (.iload_n 1, 1) := by decide +kernel
theorem dX1_write_5 : decode cX1_write 5 = .ok (.aload_n 2, 1) := by decide +kernel
theorem dX1_write_6 : decode cX1_write 6 = .ok (.getfield 110, 3) := by decide +kernel
theorem dX1_write_9 : decode cX1_write 9 = .ok (.iastore, 1) := by decide +kernel
theorem dX1_write_10 : decode cX1_write 10 = .ok (.aload_n 0, 1) := by decide +kernel
theorem dX1_write_11 : decode cX1_write 11 = .ok (.getfield 37, 3) := by decide +kernel
theorem dX1_write_14 : decode cX1_write 14 = .ok (.iload_n 1, 1) := by decide +kernel
theorem dX1_write_15 : decode cX1_write 15 = .ok (.aload_n 2, 1) := by decide +kernel
theorem dX1_write_16 : decode cX1_write 16 = .ok (.getfield 112, 3) := by decide +kernel
theorem dX1_write_19 : decode cX1_write 19 = .ok (.iastore, 1) := by decide +kernel
theorem dX1_write_20 : decode cX1_write 20 = .ok (.aload_n 0, 1) := by decide +kernel
theorem dX1_write_21 : decode cX1_write 21 = .ok (.getfield 9, 3) := by decide +kernel
theorem dX1_write_24 : decode cX1_write 24 = .ok (.iload_n 1, 1) := by decide +kernel
theorem dX1_write_25 : decode cX1_write 25 = .ok (.aload_n 2, 1) := by decide +kernel
theorem dX1_write_26 : decode cX1_write 26 = .ok (.getfield 114, 3) := by decide +kernel
theorem dX1_write_29 : decode cX1_write 29 = .ok (.iastore, 1) := by decide +kernel
theorem dX1_write_30 : decode cX1_write 30 = .ok (.aload_n 0, 1) := by decide +kernel
theorem dX1_write_31 : decode cX1_write 31 = .ok (.getfield 31, 3) := by decide +kernel
theorem dX1_write_34 : decode cX1_write 34 = .ok (.iload_n 1, 1) := by decide +kernel
theorem dX1_write_35 : decode cX1_write 35 = .ok (.aload_n 2, 1) := by decide +kernel
theorem dX1_write_36 : decode cX1_write 36 = .ok (.getfield 116, 3) := by decide +kernel
theorem dX1_write_39 : decode cX1_write 39 = .ok (.iastore, 1) := by decide +kernel
theorem dX1_write_40 : decode cX1_write 40 = .ok (.aload_n 2, 1) := by decide +kernel
theorem dX1_write_41 : decode cX1_write 41 = .ok (.getfield 122, 3) := by decide +kernel
theorem dX1_write_44 : decode cX1_write 44 = .ok (.iconst 0, 1) := by decide +kernel
theorem dX1_write_45 : decode cX1_write 45 = .ok (.aload_n 0, 1) := by decide +kernel
theorem dX1_write_46 : decode cX1_write 46 = .ok (.getfield 27, 3) := by decide +kernel
theorem dX1_write_49 : decode cX1_write 49 = .ok (.iload_n 1, 1) := by decide +kernel
theorem dX1_write_50 : decode cX1_write 50 = .ok (.bipush 24, 2) := by decide +kernel
theorem dX1_write_52 : decode cX1_write 52 = .ok (.imul, 1) := by decide +kernel
theorem dX1_write_53 : decode cX1_write 53 = .ok (.aload_n 2, 1) := by decide +kernel
theorem dX1_write_54 : decode cX1_write 54 = .ok (.getfield 116, 3) := by decide +kernel
theorem dX1_write_57 : decode cX1_write 57 = .ok (.invokestatic 125, 3) := by decide +kernel
theorem dX1_write_60 : decode cX1_write 60 = .ok (.aload_n 0, 1) := by decide +kernel
theorem dX1_write_61 : decode cX1_write 61 = .ok (.getfield 18, 3) := by decide +kernel
theorem dX1_write_64 : decode cX1_write 64 = .ok (.iload_n 1, 1) := by decide +kernel
theorem dX1_write_65 : decode cX1_write 65 = .ok (.iload_n 3, 1) := by decide +kernel
theorem dX1_write_66 : decode cX1_write 66 = .ok (.ifCond .ge 7, 3) := by decide +kernel
theorem dX1_write_69 : decode cX1_write 69 = .ok (.iload_n 1, 1) := by decide +kernel
theorem dX1_write_70 : decode cX1_write 70 = .ok (.goto 4, 3) := by decide +kernel
theorem dX1_write_73 : decode cX1_write 73 = .ok (.iload_n 3, 1) := by decide +kernel
theorem dX1_write_74 : decode cX1_write 74 = .ok (.iastore, 1) := by decide +kernel
theorem dX1_write_75 : decode cX1_write 75 = .ok (.iload_n 3, 1) := by decide +kernel
theorem dX1_write_76 : decode cX1_write 76 = .ok (.ifCond .ge 16, 3) := by decide +kernel
theorem dX1_write_79 : decode cX1_write 79 = .ok (.aload_n 0, 1) := by decide +kernel
theorem dX1_write_80 : decode cX1_write 80 = .ok (.getfield 23, 3) := by decide +kernel
theorem dX1_write_83 : decode cX1_write 83 = .ok (.iload_n 1, 1) := by decide +kernel
theorem dX1_write_84 : decode cX1_write 84 = .ok (.aaload, 1) := by decide +kernel
theorem dX1_write_85 : decode cX1_write 85 = .ok (.aload_n 2, 1) := by decide +kernel
theorem dX1_write_86 : decode cX1_write 86 = .ok (.getfield 94, 3) := by decide +kernel
theorem dX1_write_89 : decode cX1_write 89 = .ok (.invokevirtual 131, 3) := by decide +kernel
theorem dX1_write_92 : decode cX1_write 92 = .ok (.aload_n 0, 1) := by decide +kernel
theorem dX1_write_93 : decode cX1_write 93 = .ok (.getfield 40, 3) := by decide +kernel
theorem dX1_write_96 : decode cX1_write 96 = .ok (.iload_n 1, 1) := by decide +kernel
theorem dX1_write_97 : decode cX1_write 97 = .ok (.iconst 0, 1) := by decide +kernel
theorem dX1_write_98 : decode cX1_write 98 = .ok (.iastore, 1) := by decide +kernel
theorem dX1_write_99 : decode cX1_write 99 = .ok (.aload_n 0, 1) := by decide +kernel
theorem dX1_write_100 : decode cX1_write 100 = .ok (.getfield 48, 3) := by decide +kernel
theorem dX1_write_103 : decode cX1_write 103 = .ok (.iload_n 1, 1) := by decide +kernel
theorem dX1_write_104 : decode cX1_write 104 = .ok (.invokevirtual 73, 3) := by decide +kernel
theorem dX1_write_107 : decode cX1_write 107 = .ok (.iconst 0, 1) := by decide +kernel
theorem dX1_write_108 : decode cX1_write 108 = .ok (.istore 4, 2) := by decide +kernel
theorem dX1_write_110 : decode cX1_write 110 = .ok (.iload 4, 2) := by decide +kernel
theorem dX1_write_112 : decode cX1_write 112 = .ok (.aload_n 2, 1) := by decide +kernel
theorem dX1_write_113 : decode cX1_write 113 = .ok (.getfield 114, 3) := by decide +kernel
theorem dX1_write_116 : decode cX1_write 116 = .ok (.if_icmp .ge 79, 3) := by decide +kernel
theorem dX1_write_119 : decode cX1_write 119 = .ok (.aload_n 2, 1) := by decide +kernel
theorem dX1_write_120 : decode cX1_write 120 = .ok (.getfield 118, 3) := by decide +kernel
theorem dX1_write_123 : decode cX1_write 123 = .ok (.iload 4, 2) := by decide +kernel
theorem dX1_write_125 : decode cX1_write 125 = .ok (.iaload, 1) := by decide +kernel
theorem dX1_write_126 : decode cX1_write 126 = .ok (.istore 5, 2) := by decide +kernel
theorem dX1_write_128 : decode cX1_write 128 = .ok (.aload_n 0, 1) := by decide +kernel
theorem dX1_write_129 : decode cX1_write 129 = .ok (.getfield 15, 3) := by decide +kernel
theorem dX1_write_132 : decode cX1_write 132 = .ok (.iload_n 1, 1) := by decide +kernel
theorem dX1_write_133 : decode cX1_write 133 = .ok (.iconst 3, 1) := by decide +kernel
theorem dX1_write_134 : decode cX1_write 134 = .ok (.imul, 1) := by decide +kernel
theorem dX1_write_135 : decode cX1_write 135 = .ok (.iload 4, 2) := by decide +kernel
theorem dX1_write_137 : decode cX1_write 137 = .ok (.iadd, 1) := by decide +kernel
theorem dX1_write_138 : decode cX1_write 138 = .ok (.iload 5, 2) := by decide +kernel
theorem dX1_write_140 : decode cX1_write 140 = .ok (.iastore, 1) := by decide +kernel
theorem dX1_write_141 : decode cX1_write 141 = .ok (.aload_n 0, 1) := by decide +kernel
theorem dX1_write_142 : decode cX1_write 142 = .ok (.getfield 40, 3) := by decide +kernel
theorem dX1_write_145 : decode cX1_write 145 = .ok (.iload_n 1, 1) := by decide +kernel
theorem dX1_write_146 : decode cX1_write 146 = .ok (.aload_n 0, 1) := by decide +kernel
theorem dX1_write_147 : decode cX1_write 147 = .ok (.getfield 40, 3) := by decide +kernel
theorem dX1_write_150 : decode cX1_write 150 = .ok (.iload_n 1, 1) := by decide +kernel
theorem dX1_write_151 : decode cX1_write 151 = .ok (.iaload, 1) := by decide +kernel
theorem dX1_write_152 : decode cX1_write 152 = .ok (.aload_n 0, 1) := by decide +kernel
theorem dX1_write_153 : decode cX1_write 153 = .ok (.getfield 40, 3) := by decide +kernel
theorem dX1_write_156 : decode cX1_write 156 = .ok (.iload 5, 2) := by decide +kernel
theorem dX1_write_158 : decode cX1_write 158 = .ok (.iaload, 1) := by decide +kernel
theorem dX1_write_159 : decode cX1_write 159 = .ok (.iconst 1, 1) := by decide +kernel
theorem dX1_write_160 : decode cX1_write 160 = .ok (.iadd, 1) := by decide +kernel
theorem dX1_write_161 : decode cX1_write 161 = .ok (.invokestatic 135, 3) := by decide +kernel
theorem dX1_write_164 : decode cX1_write 164 = .ok (.iastore, 1) := by decide +kernel
theorem dX1_write_165 : decode cX1_write 165 = .ok (.aload_n 0, 1) := by decide +kernel
theorem dX1_write_166 : decode cX1_write 166 = .ok (.getfield 48, 3) := by decide +kernel
theorem dX1_write_169 : decode cX1_write 169 = .ok (.iload_n 1, 1) := by decide +kernel
theorem dX1_write_170 : decode cX1_write 170 = .ok (.aload_n 0, 1) := by decide +kernel
theorem dX1_write_171 : decode cX1_write 171 = .ok (.getfield 48, 3) := by decide +kernel
theorem dX1_write_174 : decode cX1_write 174 = .ok (.iload 5, 2) := by decide +kernel
theorem dX1_write_176 : decode cX1_write 176 = .ok (.invokevirtual 76, 3) := by decide +kernel
theorem dX1_write_179 : decode cX1_write 179 = .ok (.aload_n 0, 1) := by decide +kernel
theorem dX1_write_180 : decode cX1_write 180 = .ok (.getfield 48, 3) := by decide +kernel
theorem dX1_write_183 : decode cX1_write 183 = .ok (.iload_n 1, 1) := by decide +kernel
theorem dX1_write_184 : decode cX1_write 184 = .ok (.iload 5, 2) := by decide +kernel
theorem dX1_write_186 : decode cX1_write 186 = .ok (.invokevirtual 80, 3) := by decide +kernel
theorem dX1_write_189 : decode cX1_write 189 = .ok (.iinc 4 1, 3) := by decide +kernel
theorem dX1_write_192 : decode cX1_write 192 = .ok (.goto (-82), 3) := by decide +kernel
theorem dX1_write_195 : decode cX1_write 195 = .ok (.return_, 1) := by decide +kernel
theorem dX1_settle_0 : decode cX1_settle 0 = .ok (.aload_n 0, 1) := by decide +kernel
theorem dX1_settle_1 : decode cX1_settle 1 = .ok (.aload_n 1, 1) := by decide +kernel
theorem dX1_settle_2 : decode cX1_settle 2 = .ok (.getfield 94, 3) := by decide +kernel
theorem dX1_settle_5 : decode cX1_settle 5 = .ok (.invokevirtual 98, 3) := by decide +kernel
theorem dX1_settle_8 : decode cX1_settle 8 = .ok (.istore_n 2, 1) := by decide +kernel
theorem dX1_settle_9 : decode cX1_settle 9 = .ok (.iconst 0, 1) := by decide +kernel
theorem dX1_settle_10 : decode cX1_settle 10 = .ok (.istore_n 3, 1) := by decide +kernel
theorem dX1_settle_11 : decode cX1_settle 11 = .ok (.iload_n 2, 1) := by decide +kernel
theorem dX1_settle_12 : decode cX1_settle 12 = .ok (.ifCond .lt 38, 3) := by decide +kernel
theorem dX1_settle_15 : decode cX1_settle 15 = .ok (.iload_n 3, 1) := by decide +kernel
theorem dX1_settle_16 : decode cX1_settle 16 = .ok (.aload_n 0, 1) := by decide +kernel
theorem dX1_settle_17 : decode cX1_settle 17 = .ok (.getfield 57, 3) := by decide +kernel
theorem dX1_settle_20 : decode cX1_settle 20 = .ok (.if_icmp .ge 30, 3) := by decide +kernel
theorem dX1_settle_23 : decode cX1_settle 23 = .ok (.aload_n 0, 1) := by decide +kernel
theorem dX1_settle_24 : decode cX1_settle 24 = .ok (.getfield 18, 3) := by decide +kernel
theorem dX1_settle_27 : decode cX1_settle 27 = .ok (.iload_n 3, 1) := by decide +kernel
theorem dX1_settle_28 : decode cX1_settle 28 = .ok (.iaload, 1) := by decide +kernel
theorem dX1_settle_29 : decode cX1_settle 29 = .ok (.iload_n 2, 1) := by decide +kernel
theorem dX1_settle_30 : decode cX1_settle 30 = .ok (.if_icmp .ne 14, 3) := by decide +kernel
theorem dX1_settle_33 : decode cX1_settle 33 = .ok (.aload_n 0, 1) := by decide +kernel
theorem dX1_settle_34 : decode cX1_settle 34 = .ok (.iload_n 3, 1) := by decide +kernel
theorem dX1_settle_35 : decode cX1_settle 35 = .ok (.aload_n 1, 1) := by decide +kernel
theorem dX1_settle_36 : decode cX1_settle 36 = .ok (.invokevirtual 102, 3) := by decide +kernel
theorem dX1_settle_39 : decode cX1_settle 39 = .ok (.ifCond .eq 5, 3) := by decide +kernel
theorem dX1_settle_42 : decode cX1_settle 42 = .ok (.iload_n 3, 1) := by decide +kernel
theorem dX1_settle_43 : decode cX1_settle 43 = .ok (.ireturn, 1) := by decide +kernel
theorem dX1_settle_44 : decode cX1_settle 44 = .ok (.iinc 3 1, 3) := by decide +kernel
theorem dX1_settle_47 : decode cX1_settle 47 = .ok (.goto (-36), 3) := by decide +kernel
theorem dX1_settle_50 : decode cX1_settle 50 = .ok (.aload_n 0, 1) := by decide +kernel
theorem dX1_settle_51 : decode cX1_settle 51 = .ok (.getfield 57, 3) := by decide +kernel
theorem dX1_settle_54 : decode cX1_settle 54 = .ok (.bipush 120, 2) := by decide +kernel
theorem dX1_settle_56 : decode cX1_settle 56 = .ok (.if_icmp .lt 6, 3) := by decide +kernel
theorem dX1_settle_59 : decode cX1_settle 59 = .ok (.bipush (-3), 2) := by decide +kernel
theorem dX1_settle_61 : decode cX1_settle 61 = .ok (.ireturn, 1) := by decide +kernel
theorem dX1_settle_62 : decode cX1_settle 62 = .ok (.aload_n 0, 1) := by decide +kernel
theorem dX1_settle_63 : decode cX1_settle 63 = .ok (.aload_n 0, 1) := by decide +kernel
theorem dX1_settle_64 : decode cX1_settle 64 = .ok (.getfield 57, 3) := by decide +kernel
theorem dX1_settle_67 : decode cX1_settle 67 = .ok (.aload_n 1, 1) := by decide +kernel
theorem dX1_settle_68 : decode cX1_settle 68 = .ok (.iload_n 2, 1) := by decide +kernel
theorem dX1_settle_69 : decode cX1_settle 69 = .ok (.invokevirtual 106, 3) := by decide +kernel
theorem dX1_settle_72 : decode cX1_settle 72 = .ok (.aload_n 0, 1) := by decide +kernel
theorem dX1_settle_73 : decode cX1_settle 73 = .ok (.dup, 1) := by decide +kernel
theorem dX1_settle_74 : decode cX1_settle 74 = .ok (.getfield 57, 3) := by decide +kernel
theorem dX1_settle_77 : decode cX1_settle 77 = .ok (.iconst 1, 1) := by decide +kernel
theorem dX1_settle_78 : decode cX1_settle 78 = .ok (.iadd, 1) := by decide +kernel
theorem dX1_settle_79 : decode cX1_settle 79 = .ok (.putfield 57, 3) := by decide +kernel
theorem dX1_settle_82 : decode cX1_settle 82 = .ok (.aload_n 0, 1) := by decide +kernel
theorem dX1_settle_83 : decode cX1_settle 83 = .ok (.getfield 57, 3) := by decide +kernel
theorem dX1_settle_86 : decode cX1_settle 86 = .ok (.iconst 1, 1) := by decide +kernel
theorem dX1_settle_87 : decode cX1_settle 87 = .ok (.isub, 1) := by decide +kernel
theorem dX1_settle_88 : decode cX1_settle 88 = .ok (.ireturn, 1) := by decide +kernel
theorem kAnc_app (cs : List kC) (d : kC) (k j : Nat) : kAnc (cs ++ [d]) k j = if k = cs.length then (kPs d).any (fun p => p.toNat == j || kAnc cs p.toNat j) else kAnc cs k j := by
  unfold kAnc
  rw [List.reverse_append]
  show kAncR (d :: cs.reverse) k j = _
  rw [kAncR, List.length_reverse]
theorem kGen_app (cs : List kC) (d : kC) (k : Int) : kGen (cs ++ [d]) k = if k = (cs.length : Int) then (kPs d).foldl (fun g p => if g < kGen cs p + 1 then kGen cs p + 1 else g) 0 else kGen cs k := by
  unfold kGen
  rw [List.reverse_append]
  show kGenR (d :: cs.reverse) k = _
  rw [kGenR, List.length_reverse]
theorem kLow_app (fs : List gF) (d : kC) : ∀ (cs : List kC) (i : Int), kLow fs (cs ++ [d]) i = if kLow fs cs i = -1 ∧ ∀ c ∈ cs, kFs c ≠ fs then (if kFs d = fs then i + (cs.length : Int) else -1) else kLow fs cs i
  | [], i => by simp [kLow]
  | c :: r, i => by
    rw [List.cons_append, kLow, kLow]
    by_cases h : kFs c = fs
    · rw [if_pos h, if_pos h, if_neg (fun q => q.2 c List.mem_cons_self h)]
    · rw [if_neg h, if_neg h, kLow_app fs d r (i + 1)]
      by_cases h2 : kLow fs r (i + 1) = -1 ∧ ∀ c ∈ r, kFs c ≠ fs
      · have h4 : kLow fs r (i + 1) = -1 ∧ ∀ x ∈ c :: r, kFs x ≠ fs := ⟨h2.1, fun x hx => by
          rcases List.mem_cons.mp hx with rfl | q
          · exact h
          · exact h2.2 x q⟩
        simp only [if_pos h2, if_pos h4]
        by_cases h3 : kFs d = fs
        · simp only [if_pos h3, List.length_cons]; omega
        · simp only [if_neg h3]
      · rw [if_neg h2, if_neg (fun q => h2 ⟨q.1, fun x hx => q.2 x (List.mem_cons_of_mem _ hx)⟩)]
theorem kGenR_rng : ∀ (o : List kC) (k : Int), (∀ (n : Nat) (c : kC), o.reverse[n]? = some c → ∀ p ∈ kPs c, 0 ≤ p ∧ p < (n : Int)) → 0 ≤ k → 0 ≤ kGenR o k ∧ kGenR o k ≤ k
  | [], k, _, h => ⟨Int.le_refl 0, h⟩
  | c :: o, k, hw, h => by
    have hw2 : ∀ (n : Nat) (x : kC), o.reverse[n]? = some x → ∀ p ∈ kPs x, 0 ≤ p ∧ p < (n : Int) := by
      intro n x hx p hp
      refine hw n x ?_ p hp
      rw [List.reverse_cons, List.getElem?_append_left (List.getElem?_eq_some_iff.mp hx).1]
      exact hx
    have hc : ∀ p ∈ kPs c, 0 ≤ p ∧ p < (o.length : Int) := by
      intro p hp
      have := hw o.length c (by rw [List.reverse_cons, List.getElem?_append_right (by rw [List.length_reverse]; exact Nat.le_refl _)]; simp) p hp
      exact this
    rw [kGenR]
    by_cases hk : k = (o.length : Int)
    · rw [if_pos hk]
      have hf : ∀ (ps : List Int) (g : Int), 0 ≤ g → g ≤ k → (∀ p ∈ ps, 0 ≤ p ∧ p < (o.length : Int)) → 0 ≤ ps.foldl (fun g p => if g < kGenR o p + 1 then kGenR o p + 1 else g) g ∧ ps.foldl (fun g p => if g < kGenR o p + 1 then kGenR o p + 1 else g) g ≤ k := by
        intro ps
        induction ps with
        | nil => intro g h0 h1 _; exact ⟨h0, h1⟩
        | cons p r ih =>
          intro g h0 h1 hp
          have hp0 := hp p List.mem_cons_self
          have hr := kGenR_rng o p hw2 hp0.1
          rw [List.foldl_cons]
          refine ih _ ?_ ?_ (fun x hx => hp x (List.mem_cons_of_mem _ hx))
          · split <;> omega
          · split <;> omega
      exact hf _ 0 (Int.le_refl 0) h hc
    · rw [if_neg hk]
      exact kGenR_rng o k hw2 h
theorem cGen_rng {sh : gS} {M : gM} {cs : List kC} (hC : cOk sh M cs) {k : Int} (hk : 0 ≤ k) : 0 ≤ kGen cs k ∧ kGen cs k ≤ k := by
  refine kGenR_rng cs.reverse k (fun n c hc => ?_) hk
  rw [List.reverse_reverse] at hc
  exact (hC.2.2.2 n c hc).2.1.2.1
/-- rows below n are as they were -/
def kSame (M M1 : gM) (n : Int) : Prop :=
  (∀ q : Int, q < n → M1 5 q = M 5 q ∧ M1 7 q = M 7 q ∧ M1 10 q = M 10 q ∧ M1 11 q = M 11 q ∧ M1 12 q = M 12 q ∧ M1 13 q = M 13 q ∧ M1 15 q = M 15 q ∧ M1 16 q = M 16 q) ∧ (∀ q : Int, q < n * 3 → M1 6 q = M 6 q) ∧ (∀ q : Int, q < n * 24 → M1 9 q = M 9 q) ∧ ∀ b : Int, 19 < b → b < 20 + 3 * n → M1 b = M b
def kFr (M M1 : gM) : Prop := ∀ b : Int, (b < 5 ∨ (16 < b ∧ b < 20) ∨ 379 < b) → M1 b = M b
theorem kSame_refl (M : gM) (n : Int) : kSame M M n := ⟨fun _ _ => ⟨rfl, rfl, rfl, rfl, rfl, rfl, rfl, rfl⟩, fun _ _ => rfl, fun _ _ => rfl, fun _ _ _ => rfl⟩
theorem kSame_trans {M M1 M2 : gM} {n : Int} (h1 : kSame M M1 n) (h2 : kSame M1 M2 n) : kSame M M2 n := by
  refine ⟨fun q hq => ?_, fun q hq => by rw [h2.2.1 q hq, h1.2.1 q hq], fun q hq => by rw [h2.2.2.1 q hq, h1.2.2.1 q hq], fun b h h' => by rw [h2.2.2.2 b h h', h1.2.2.2 b h h']⟩
  obtain ⟨a1, a2, a3, a4, a5, a6, a7, a8⟩ := h1.1 q hq
  obtain ⟨b1, b2, b3, b4, b5, b6, b7, b8⟩ := h2.1 q hq
  exact ⟨b1.trans a1, b2.trans a2, b3.trans a3, b4.trans a4, b5.trans a5, b6.trans a6, b7.trans a7, b8.trans a8⟩
theorem kFr_trans {M M1 M2 : gM} (h1 : kFr M M1) (h2 : kFr M1 M2) : kFr M M2 := fun b hb => (h2 b hb).trans (h1 b hb)
/-- one write above the rows -/
theorem kSame_U {M : gM} {n b i v : Int} (hn : 0 ≤ n) (h : ((b = 5 ∨ b = 7 ∨ b = 10 ∨ b = 11 ∨ b = 12 ∨ b = 13 ∨ b = 15 ∨ b = 16) ∧ n ≤ i) ∨ (b = 6 ∧ n * 3 ≤ i) ∨ (b = 9 ∧ n * 24 ≤ i) ∨ b < 5 ∨ 379 < b) (hn2 : n ≤ 120) : kSame M (gU M b i v) n := by
  refine ⟨fun q hq => ⟨?_, ?_, ?_, ?_, ?_, ?_, ?_, ?_⟩, fun q hq => ?_, fun q hq => ?_, fun x h1 h2 => ?_⟩
  all_goals first
    | (simp only [gU]; rw [if_neg (by omega)])
    | (rw [gU_cell _ _ _ (by omega)])
theorem kFr_U {M : gM} {b i v : Int} (h : (4 < b ∧ b < 17) ∨ (19 < b ∧ b < 380)) : kFr M (gU M b i v) := by
  intro x hx
  rw [gU_cell _ _ _ (by omega)]
theorem tOk_congr {sh : gS} {M M1 : gM} {t : Int} {n : Nat} {fs : List gF} (h : tOk sh M t n fs) (h0 : M1 t = M t) (h1 : M1 (t + 1) = M (t + 1)) (h2 : M1 (t + 2) = M (t + 2)) : tOk sh M1 t n fs := by
  obtain ⟨a, b, ⟨c, d, e⟩, f⟩ := h
  refine ⟨a, b, ⟨c, by rw [h0]; exact d, fun j x hx => ?_⟩, f⟩
  rw [h1, h2]
  exact e j x hx
theorem cOne_same {sh : gS} {M M1 : gM} {cs : List kC} {n : Int} {k : Nat} {c : kC} (h : cOne sh M cs k c) (hs : kSame M M1 n) (hk : cs[k]? = some c) (hl : (cs.length : Int) ≤ n) : cOne sh M1 cs k c := by
  have hkl := (List.getElem?_eq_some_iff.mp hk).1
  obtain ⟨⟨c1, c2, c3, c4, c5, c6⟩, w, e1, e2, e3, e4⟩ := h
  obtain ⟨j, ej, hj⟩ := kLow_at hk
  obtain ⟨w1, w2, w3, -⟩ := id w
  obtain ⟨s1, s2, s3, s4⟩ := hs
  obtain ⟨a1, a2, a3, a4, a5, a6, a7, a8⟩ := s1 (k : Int) (by omega)
  refine ⟨⟨a1.trans c1, ?_, a3.trans c3, ?_, a4.trans c5, a5.trans c6⟩, w, a2.trans e1, ?_, a6.trans e3, fun q hq => ?_⟩
  · exact rw_congr c2 (fun q q0 q1 => s2 q (by omega))
  · exact rw_congr c4 (fun q q0 q1 => s3 q (by omega))
  · rw [ej] at e2 ⊢
    exact tOk_congr e2 (s4 _ (by omega) (by omega)) (s4 _ (by omega) (by omega)) (s4 _ (by omega) (by omega))
  · rw [mB_row (M := M) ⟨a7, a8⟩]
    exact e4 q hq
theorem cOne_app {sh : gS} {M : gM} {cs : List kC} {d : kC} {k : Nat} {c : kC} (h : cOne sh M cs k c) (hk : cs[k]? = some c) : cOne sh M (cs ++ [d]) k c := by
  have hkl := (List.getElem?_eq_some_iff.mp hk).1
  obtain ⟨r, w, e1, e2, e3, e4⟩ := h
  have el : kLow (kFs c) (cs ++ [d]) 0 = kLow (kFs c) cs 0 := by
    rw [kLow_app, if_neg (fun q => q.2 c (List.mem_of_getElem? hk) rfl)]
  refine ⟨r, w, by rw [el]; exact e1, by rw [el]; exact e2, by rw [kGen_app, if_neg (by omega)]; exact e3, fun j hj => ?_⟩
  rw [kAnc_app, if_neg (by omega)]
  exact e4 j hj
theorem gCpy_in {M : gM} {a0 sp a dp n j : Int} (h : dp ≤ j ∧ j < dp + n) : gCpy M a0 sp a dp n a j = M a0 (sp + (j - dp)) := by
  simp only [gCpy]
  rw [if_pos ⟨trivial, h⟩]
theorem sp_X1_write {sh : gS} {M : gM} {cs : List kC} {a : Int} {d : kC} (hOK : gOK sh M) (hC : cOk sh M cs) (hl : cs.length < 120) (hD : dOk sh M a d) (hw : kWf (cs.length : Int) d) :
    gC (gr 2 89) yX1_write cX1_write 6 none [(4, 4), (0, (cs.length : Int)), (4, a), (0, kLow (kFs d) cs 0)] sh M (gPm sh (fun x M1 => x = none ∧ gOK sh M1 ∧ kSame M M1 (cs.length : Int) ∧ kFr M M1 ∧ cOne sh M1 (cs ++ [d]) cs.length d)) := by
  obtain ⟨⟨s1, s2, s3, s4, s5, s6, s7⟩, d1, d2, d3, d4, d5, d6, d7, d8, d9⟩ := hD
  have hw0 := hw
  obtain ⟨w1, w2, w3, w4, w5, w6, w7⟩ := hw
  generalize hn : (cs.length : Int) = n at *
  have hn0 : 0 ≤ n := by omega
  have hn1 : n < 120 := by omega
  have hrow := hC.2.2.2
  generalize hQ : gPm sh (fun (x : Option gV) M1 => x = none ∧ gOK sh M1 ∧ kSame M M1 n ∧ kFr M M1 ∧ cOne sh M1 (cs ++ [d]) cs.length d) = Q
  -- the PARENTS
  have lp : ∀ (s2 s1 : List Int) (i : Int) (M1 : gM) (w : gV), gw w → kPs d = s1 ++ s2 → i = (s1.length : Int) → gOK sh M1 → kSame M M1 n → kFr M M1 →
      M1 5 n = ((kPs d).length : Int) → M1 10 n = ((kMs d).length : Int) → rw_ (M1 9) (n * 24) (kMs d) → M1 11 n = kWh d → M1 12 n = kHr d → M1 7 n = kLow (kFs d) (cs ++ [d]) 0 → tOk sh M1 (20 + 3 * kLow (kFs d) (cs ++ [d]) 0) 16 (kFs d) →
      rw_ (M1 6) (n * 3) s1 → M1 13 n = s1.foldl (fun g p => if g < kGen cs p + 1 then kGen cs p + 1 else g) 0 → mIs M1 14 n (fun j => s1.any (fun p => p.toNat == j || kAnc cs p.toNat j)) →
      0 ≤ M1 13 n → M1 13 n ≤ n →
      gA (gr 2 89) yX1_write cX1_write 6 none Q (0, 0) 110 [(4, 4), (0, n), (4, a), (0, kLow (kFs d) cs 0), (0, i), w] [] sh M1 := by
    intro t2
    induction t2 with
    | nil =>
      intro t1 i M1 w hw9 e1 e2 hO f1 f2 r1 r2 r3 r4 r5 r6 r7 p1 p2 p3 p4 p5
      have ea : M1 a 1 = ((kPs d).length : Int) := by rw [f2 a (by omega), d1]
      rw [List.append_nil] at e1
      refine g_iload (q0 := 112) (j := 4) rfl dX1_write_110 rfl ?_
      refine g_aload_n (q0 := 113) (j := 2) rfl dX1_write_112 rfl ?_
      refine g_getf (q0 := 116) (t := 0) (fi := 1) rfl rfl ff_X1_114 dX1_write_113 rfl (by assumption) ?_
      refine g_icmp_ge (q0 := 119) (tgt := 195) rfl dX1_write_116 (by decide) (fun h116 => ?_) (fun h116 => ?_)
      · refine g_return dX1_write_195 rfl ⟨Nat.zero_le _, Nat.zero_le _⟩ ?_
        subst hQ
        rw [← e1] at p1 p2 p3
        refine ⟨rfl, rfl, hO, f1, f2, ⟨?_, by rw [hn]; exact hw0, by rw [hn]; exact r6, r7, ?_, ?_⟩⟩
        · rw [hn]
          exact ⟨r1, p1, r2, r3, r4, r5⟩
        · rw [hn, p2, kGen_app, if_pos hn.symm]
        · rw [hn]
          intro j hj
          rw [p3 j hj, kAnc_app, if_pos rfl]
      · rw [e1] at ea; omega
    | cons p t2 ih =>
      intro t1 i M1 w hw9 e1 e2 hO f1 f2 r1 r2 r3 r4 r5 r6 r7 p1 p2 p3 p4 p5
      have ea : M1 a 1 = ((kPs d).length : Int) := by rw [f2 a (by omega), d1]
      have hlp : (kPs d).length = t1.length + t2.length + 1 := by rw [e1]; simp; omega
      have hp := w2 p (by rw [e1]; simp)
      have ep : M1 (a + 1) i = p := by
        rw [f2 (a + 1) (by omega)]
        rw [e1] at d3
        have := (rw_cons (rw_app d3).2).1
        rwa [Int.zero_add, ← e2] at this
      obtain ⟨m, hm⟩ : ∃ m : Nat, p = (m : Int) := ⟨p.toNat, by omega⟩
      have hmc : cs[m]? = some cs[m] := List.getElem?_eq_getElem (by omega)
      obtain ⟨-, -, -, -, q3, q4⟩ := hrow m _ hmc
      have eg : M1 13 p = kGen cs p := by
        rw [(f1.1 p (by omega)).2.2.2.2.2.1, hm]; exact q3
      have egr := cGen_rng hC hp.1
      refine g_iload (q0 := 112) (j := 4) rfl dX1_write_110 rfl ?_
      refine g_aload_n (q0 := 113) (j := 2) rfl dX1_write_112 rfl ?_
      refine g_getf (q0 := 116) (t := 0) (fi := 1) rfl rfl ff_X1_114 dX1_write_113 rfl (by assumption) ?_
      refine g_icmp_ge (q0 := 119) (tgt := 195) rfl dX1_write_116 (by decide) (fun h116 => ?_) (fun h116 => ?_)
      · omega
      · refine g_aload_n (q0 := 120) (j := 2) rfl dX1_write_119 rfl ?_
        refine g_getp (q0 := 123) (b := a + 1) rfl ff_X1_118 dX1_write_120 rfl hO (by omega) (by assumption) rfl rfl ?_
        refine g_iload (q0 := 125) (j := 4) rfl dX1_write_123 rfl ?_
        refine g_iald (q0 := 126) rfl dX1_write_125 (by assumption) (by omega) (by omega) ?_
        refine g_istore (q0 := 128) (j := 5) (lv2 := [_, _, _, _, _, _]) rfl dX1_write_126 (by decide) rfl rfl ?_
        rw [ep]
        refine g_aload_n (q0 := 129) (j := 0) rfl dX1_write_128 rfl ?_
        refine g_getp (q0 := 132) (b := 6) rfl ff_X1_15 dX1_write_129 rfl hO (by decide) (sh_4 hO) rfl (by decide) ?_
        refine g_iload_n (q0 := 133) (j := 1) rfl dX1_write_132 rfl ?_
        refine g_iconst (q0 := 134) rfl dX1_write_133 (k := ?_)
        refine g_imul (q0 := 135) rfl dX1_write_134 (by omega) (by omega) ?_
        refine g_iload (q0 := 137) (j := 4) rfl dX1_write_135 rfl ?_
        refine g_iadd (q0 := 138) rfl dX1_write_137 (by omega) (by omega) ?_
        refine g_iload (q0 := 140) (j := 5) rfl dX1_write_138 rfl ?_
        refine g_iast (q0 := 141) rfl dX1_write_140 (sh_6 hO) (by omega) (by omega) ?_
        refine g_aload_n (q0 := 142) (j := 0) rfl dX1_write_141 rfl ?_
        refine g_getp (q0 := 145) (b := 13) rfl ff_X1_40 dX1_write_142 rfl (gOK_i hO (sh_6 hO)) (by decide) (sh_4 hO) rfl (by decide) ?_
        refine g_iload_n (q0 := 146) (j := 1) rfl dX1_write_145 rfl ?_
        refine g_aload_n (q0 := 147) (j := 0) rfl dX1_write_146 rfl ?_
        refine g_getp (q0 := 150) (b := 13) rfl ff_X1_40 dX1_write_147 rfl (gOK_i hO (sh_6 hO)) (by decide) (sh_4 hO) rfl (by decide) ?_
        refine g_iload_n (q0 := 151) (j := 1) rfl dX1_write_150 rfl ?_
        refine g_iald (q0 := 152) rfl dX1_write_151 (sh_13 hO) (by omega) (by omega) ?_
        try simp (disch := omega) only [gU_same, gU_idx, gU_cel]
        refine g_aload_n (q0 := 153) (j := 0) rfl dX1_write_152 rfl ?_
        refine g_getp (q0 := 156) (b := 13) rfl ff_X1_40 dX1_write_153 rfl (gOK_i hO (sh_6 hO)) (by decide) (sh_4 hO) rfl (by decide) ?_
        refine g_iload (q0 := 158) (j := 5) rfl dX1_write_156 rfl ?_
        refine g_iald (q0 := 159) rfl dX1_write_158 (sh_13 hO) (by omega) (by omega) ?_
        try simp (disch := omega) only [gU_same, gU_idx, gU_cel]
        refine g_iconst (q0 := 160) rfl dX1_write_159 (k := ?_)
        refine g_iadd (q0 := 161) rfl dX1_write_160 (by omega) (by omega) ?_
        rw [eg]
        refine g_mmax (q0 := 164) rfl ml_X1_135 ms_J9_max_7cf53 inic_Math mt_J9_max_7cf53.1 dX1_write_161 (by decide) (Nat.le_of_ble_eq_true rfl) ⟨Nat.zero_le _, Nat.zero_le _⟩ ?_
        refine g_iast (q0 := 165) rfl dX1_write_164 (sh_13 hO) (by omega) (by omega) ?_
        refine g_aload_n (q0 := 166) (j := 0) rfl dX1_write_165 rfl ?_
        refine g_getp (q0 := 169) (b := 14) rfl ff_X1_48 dX1_write_166 rfl (gOK_i (gOK_i hO (sh_6 hO)) (sh_13 hO)) (by decide) (sh_4 hO) rfl (by decide) ?_
        refine g_iload_n (q0 := 170) (j := 1) rfl dX1_write_169 rfl ?_
        refine g_aload_n (q0 := 171) (j := 0) rfl dX1_write_170 rfl ?_
        refine g_getp (q0 := 174) (b := 14) rfl ff_X1_48 dX1_write_171 rfl (gOK_i (gOK_i hO (sh_6 hO)) (sh_13 hO)) (by decide) (sh_4 hO) rfl (by decide) ?_
        refine g_iload (q0 := 176) (j := 5) rfl dX1_write_174 rfl ?_
        generalize hM2 : gU (gU M1 6 (n * 3 + i) p) 13 n (if M1 13 n < kGen cs p + 1 then kGen cs p + 1 else M1 13 n) = M2
        have hO2 : gOK sh M2 := by rw [← hM2]; exact gOK_i (gOK_i hO (sh_6 hO)) (sh_13 hO)
        have g1 : kSame M1 M2 n := by
          rw [← hM2]
          exact kSame_trans (kSame_U hn0 (by omega) (by omega)) (kSame_U hn0 (by omega) (by omega))
        have g2 : kFr M1 M2 := by rw [← hM2]; exact kFr_trans (kFr_U (by omega)) (kFr_U (by omega))
        have g3 : ∀ b : Int, b ≠ 6 → b ≠ 13 → M2 b = M1 b := fun b h1 h2 => by rw [← hM2, gU_cell _ _ _ h2, gU_cell _ _ _ h1]
        have g4 : rw_ (M2 6) (n * 3) (t1 ++ [p]) := by
          refine rw_snoc (rw_congr p1 (fun q q0 q1 => ?_)) ?_
          · rw [← hM2]
            simp (disch := omega) only [gU_cel, gU_idx]
          · rw [← hM2, ← e2]
            simp (disch := omega) only [gU_cel, gU_same]
        have g5 : M2 13 n = (t1 ++ [p]).foldl (fun g p => if g < kGen cs p + 1 then kGen cs p + 1 else g) 0 := by
          rw [← hM2, gU_same, List.foldl_append, List.foldl_cons, List.foldl_nil, ← p2]
        have g6 : 0 ≤ M2 13 n ∧ M2 13 n ≤ n := by
          rw [← hM2, gU_same]
          split <;> omega
        rw [hm]
        refine g_callVm (as := [_, _, _]) (rest := []) mt_X3_putAll mi_X3_putAll se_X3_putAll ml_X1_76 dX1_write_176 (q0 := 179) rfl rfl (sh_14 hO2) rfl rfl (sp_X3_putAll hO2 (mSh14 hO2) ⟨by omega, by omega⟩ (mSh14 hO2) ⟨by omega, by omega⟩ (Or.inl rfl)) rfl ⟨by decide, by decide⟩ (Nat.le_of_ble_eq_true rfl) ⟨Nat.zero_le _, Nat.zero_le _⟩ (fun r3 M3 hP3 hw3 hMw3 => ?_)
        obtain ⟨rfl, b1, hO3, b2, b3⟩ := hP3
        refine g_aload_n (q0 := 180) (j := 0) rfl dX1_write_179 rfl ?_
        refine g_getp (q0 := 183) (b := 14) rfl ff_X1_48 dX1_write_180 rfl hO3 (by decide) (sh_4 hO2) rfl (by decide) ?_
        refine g_iload_n (q0 := 184) (j := 1) rfl dX1_write_183 rfl ?_
        refine g_iload (q0 := 186) (j := 5) rfl dX1_write_184 rfl ?_
        refine g_callVm (as := [_, _]) (rest := []) mt_X3_put mi_X3_put se_X3_put ml_X1_80 dX1_write_186 (q0 := 189) rfl rfl (sh_14 hO2) rfl rfl (sp_X3_put hO3 (mSh14 hO3) ⟨by omega, by omega⟩ (show m < 120 by omega)) rfl ⟨by decide, by decide⟩ (Nat.le_of_ble_eq_true rfl) ⟨Nat.zero_le _, Nat.zero_le _⟩ (fun r4 M4 hP4 hw4 hMw4 => ?_)
        obtain ⟨rfl, c1, hO4, c2, c3⟩ := hP4
        have k1 : kSame M2 M4 n := by
          refine ⟨fun q hq => ?_, fun q hq => ?_, fun q hq => ?_, fun b h h' => ?_⟩
          · obtain ⟨x1, x2⟩ := b3 q (by omega)
            obtain ⟨y1, y2⟩ := c3 q (by omega)
            refine ⟨?_, ?_, ?_, ?_, ?_, ?_, y1.trans x1, y2.trans x2⟩ <;> rw [c2 _ (by omega) (by omega), b2 _ (by omega) (by omega)]
          · rw [c2 _ (by omega) (by omega), b2 _ (by omega) (by omega)]
          · rw [c2 _ (by omega) (by omega), b2 _ (by omega) (by omega)]
          · rw [c2 _ (by omega) (by omega), b2 _ (by omega) (by omega)]
        have k2 : ∀ b : Int, b ≠ 15 → b ≠ 16 → M4 b = M2 b := fun b h1 h2 => by rw [c2 b h1 h2, b2 b h1 h2]
        have k3 : ∀ b : Int, b ≠ 6 → b ≠ 13 → b ≠ 15 → b ≠ 16 → M4 b = M1 b := fun b h1 h2 h3 h4 => by rw [k2 b h3 h4, g3 b h1 h2]
        refine g_iinc (q0 := 192) (lv2 := [_, _, _, _, _, _]) rfl dX1_write_189 rfl (by decide) rfl rfl (by omega) (by omega) ?_
        refine g_goto (tgt := 110) dX1_write_192 (by decide) ?_
        have hlow : ∃ j : Nat, kLow (kFs d) (cs ++ [d]) 0 = (j : Int) := by
          have := kLow_at (cs := cs ++ [d]) (k := cs.length) (c := d) (by simp)
          exact ⟨this.choose, this.choose_spec.1⟩
        obtain ⟨j0, hj0⟩ := hlow
        refine ih (t1 ++ [p]) (i + 1) M4 _ ⟨by show -2147483648 ≤ (m : Int); omega, by show (m : Int) < 2147483648; omega⟩ (by rw [e1]; simp) (by simp; omega) hO4 (kSame_trans f1 (kSame_trans g1 k1)) (kFr_trans f2 (kFr_trans g2 (fun b hb => k2 b (by omega) (by omega)))) (by rw [k3 5 (by decide) (by decide) (by decide) (by decide)]; exact r1) (by rw [k3 10 (by decide) (by decide) (by decide) (by decide)]; exact r2) (by rw [k3 9 (by decide) (by decide) (by decide) (by decide)]; exact r3) (by rw [k3 11 (by decide) (by decide) (by decide) (by decide)]; exact r4) (by rw [k3 12 (by decide) (by decide) (by decide) (by decide)]; exact r5) (by rw [k3 7 (by decide) (by decide) (by decide) (by decide)]; exact r6) ?_ ?_ ?_ ?_ ?_ ?_
        · rw [hj0] at r7 ⊢
          exact tOk_congr r7 (k3 _ (by omega) (by omega) (by omega) (by omega)) (k3 _ (by omega) (by omega) (by omega) (by omega)) (k3 _ (by omega) (by omega) (by omega) (by omega))
        · rw [k2 6 (by decide) (by decide)]; exact g4
        · rw [k2 13 (by decide) (by decide)]; exact g5
        · intro j hj
          rw [c1 j hj]
          show (mB M3 14 n j || decide (j = m)) = _
          rw [b1 j hj]
          show ((mB M2 14 n j || mB M2 14 (m : Int) j) || decide (j = m)) = _
          rw [mB_row (M := M1) (M1 := M2) (r := n) ⟨by rw [g3 _ (by decide) (by decide)], by rw [g3 _ (by decide) (by decide)]⟩, p3 j hj]
          rw [mB_row (M := M1) (M1 := M2) (r := (m : Int)) ⟨by rw [g3 _ (by decide) (by decide)], by rw [g3 _ (by decide) (by decide)]⟩]
          rw [mB_row (M := M) (M1 := M1) (r := (m : Int)) ⟨(f1.1 (m : Int) (by omega)).2.2.2.2.2.2.1, (f1.1 (m : Int) (by omega)).2.2.2.2.2.2.2⟩, q4 j hj]
          show _ = (t1 ++ [p]).any (fun p => p.toNat == j || kAnc cs p.toNat j)
          rw [List.any_append, List.any_cons, List.any_nil, Bool.or_false, hm, Int.toNat_natCast, Bool.or_assoc, Bool.or_comm (kAnc cs m j)]
          congr 2
          by_cases z : j = m
          · simp [z]
          · have z2 : ¬ m = j := fun h => z h.symm
            simp [z, z2]
        · rw [k2 13 (by decide) (by decide)]; exact g6.1
        · rw [k2 13 (by decide) (by decide)]; exact g6.2
  have h92 : ∀ (MB : gM), gOK sh MB → kSame M MB n → kFr M MB → MB 5 n = ((kPs d).length : Int) → MB 10 n = ((kMs d).length : Int) → rw_ (MB 9) (n * 24) (kMs d) → MB 11 n = kWh d → MB 12 n = kHr d → MB 7 n = kLow (kFs d) (cs ++ [d]) 0 → tOk sh MB (20 + 3 * kLow (kFs d) (cs ++ [d]) 0) 16 (kFs d) →
      gA (gr 2 89) yX1_write cX1_write 6 none Q (0, 0) 92 [(4, 4), (0, n), (4, a), (0, kLow (kFs d) cs 0), (9, 0), (9, 0)] [] sh MB := by
    intro MB hO f1 f2 r1 r2 r3 r4 r5 r6 r7
    obtain ⟨j0, hj0, -⟩ := kLow_at (cs := cs ++ [d]) (k := cs.length) (c := d) (by simp)
    refine g_aload_n (q0 := 93) (j := 0) rfl dX1_write_92 rfl ?_
    refine g_getp (q0 := 96) (b := 13) rfl ff_X1_40 dX1_write_93 rfl hO (by decide) (sh_4 hO) rfl (by decide) ?_
    refine g_iload_n (q0 := 97) (j := 1) rfl dX1_write_96 rfl ?_
    refine g_iconst (q0 := 98) rfl dX1_write_97 (k := ?_)
    refine g_iast (q0 := 99) rfl dX1_write_98 (sh_13 hO) (by omega) (by omega) ?_
    refine g_aload_n (q0 := 100) (j := 0) rfl dX1_write_99 rfl ?_
    refine g_getp (q0 := 103) (b := 14) rfl ff_X1_48 dX1_write_100 rfl (gOK_i hO (sh_13 hO)) (by decide) (sh_4 hO) rfl (by decide) ?_
    refine g_iload_n (q0 := 104) (j := 1) rfl dX1_write_103 rfl ?_
    have hO1 : gOK sh (gU MB 13 n 0) := gOK_i hO (sh_13 hO)
    have g1 : kSame MB (gU MB 13 n 0) n := kSame_U hn0 (by omega) (by omega)
    have g2 : kFr MB (gU MB 13 n 0) := kFr_U (by omega)
    have g3 : ∀ b : Int, b ≠ 13 → gU MB 13 n 0 b = MB b := fun b hb => gU_cell _ _ _ hb
    have g4 : gU MB 13 n 0 13 n = 0 := gU_same _ _ _ _
    generalize gU MB 13 n 0 = M2 at hO1 g1 g2 g3 g4 ⊢
    refine g_callVm (as := [_]) (rest := []) mt_X3_clear mi_X3_clear se_X3_clear ml_X1_73 dX1_write_104 (q0 := 107) rfl rfl (sh_14 hO1) rfl rfl (sp_X3_clear hO1 (mSh14 hO1) ⟨by omega, by omega⟩) rfl ⟨by decide, by decide⟩ (Nat.le_of_ble_eq_true rfl) ⟨Nat.zero_le _, Nat.zero_le _⟩ (fun r3 M3 hP3 hw3 hMw3 => ?_)
    obtain ⟨rfl, b1, hO3, b2, b3⟩ := hP3
    refine g_iconst (q0 := 108) rfl dX1_write_107 (k := ?_)
    refine g_istore (q0 := 110) (j := 4) (lv2 := [_, _, _, _, _, _]) rfl dX1_write_108 (by decide) rfl rfl ?_
    have k1 : kSame M2 M3 n := by
      refine ⟨fun q hq => ?_, fun q hq => ?_, fun q hq => ?_, fun b h h' => ?_⟩
      · obtain ⟨x1, x2⟩ := b3 q (by omega)
        refine ⟨?_, ?_, ?_, ?_, ?_, ?_, x1, x2⟩ <;> rw [b2 _ (by omega) (by omega)]
      · rw [b2 _ (by omega) (by omega)]
      · rw [b2 _ (by omega) (by omega)]
      · rw [b2 _ (by omega) (by omega)]
    have k3 : ∀ b : Int, b ≠ 13 → b ≠ 15 → b ≠ 16 → M3 b = MB b := fun b h1 h2 h3 => by rw [b2 b h2 h3, g3 b h1]
    refine lp (kPs d) [] 0 M3 _ trivial rfl rfl hO3 (kSame_trans f1 (kSame_trans g1 k1)) (kFr_trans f2 (kFr_trans g2 (fun b hb => b2 b (by omega) (by omega)))) (by rw [k3 5 (by decide) (by decide) (by decide)]; exact r1) (by rw [k3 10 (by decide) (by decide) (by decide)]; exact r2) (by rw [k3 9 (by decide) (by decide) (by decide)]; exact r3) (by rw [k3 11 (by decide) (by decide) (by decide)]; exact r4) (by rw [k3 12 (by decide) (by decide) (by decide)]; exact r5) (by rw [k3 7 (by decide) (by decide) (by decide)]; exact r6) ?_ rw_nil ?_ ?_ ?_ ?_
    · rw [hj0] at r7 ⊢
      exact tOk_congr r7 (k3 _ (by omega) (by omega) (by omega)) (k3 _ (by omega) (by omega) (by omega)) (k3 _ (by omega) (by omega) (by omega))
    · rw [b2 13 (by decide) (by decide), g4]; rfl
    · exact b1
    · rw [b2 13 (by decide) (by decide), g4]; exact Int.le_refl 0
    · rw [b2 13 (by decide) (by decide), g4]; exact hn0
  have hms : ∀ q : Int, 0 ≤ q → q < ((kMs d).length : Int) → 0 ≤ M (a + 5) q ∧ M (a + 5) q < 128 := by
    intro q q0 q1
    obtain ⟨j, rfl⟩ : ∃ j : Nat, q = (j : Int) := ⟨q.toNat, by omega⟩
    have hj : (kMs d)[j]? = some (kMs d)[j] := List.getElem?_eq_getElem (by omega)
    have := d7 j _ hj
    rw [Int.zero_add] at this
    rw [this]
    exact w4 _ (List.getElem_mem _)
  refine gC_ofA (lv := [_, _, _, _, _, _]) (by decide +kernel) (Nat.le_of_ble_eq_true rfl) rfl (fun hMw hav => ?_)
  refine g_aload_n (q0 := 1) (j := 0) rfl dX1_write_0 rfl ?_
  refine g_getp (q0 := 4) (b := 11) rfl ff_X1_34 dX1_write_1 rfl hOK (by decide) (sh_4 hOK) rfl (by decide) ?_
  refine g_iload_n (q0 := 5) (j := 1) rfl dX1_write_4 rfl ?_
  refine g_aload_n (q0 := 6) (j := 2) rfl dX1_write_5 rfl ?_
  refine g_getf (q0 := 9) (t := 0) (fi := 5) rfl rfl ff_X1_110 dX1_write_6 rfl (by assumption) ?_
  refine g_iast (q0 := 10) rfl dX1_write_9 (sh_11 hOK) (by omega) (by omega) ?_
  refine g_aload_n (q0 := 11) (j := 0) rfl dX1_write_10 rfl ?_
  refine g_getp (q0 := 14) (b := 12) rfl ff_X1_37 dX1_write_11 rfl (gOK_i hOK (sh_11 hOK)) (by decide) (sh_4 hOK) rfl (by decide) ?_
  refine g_iload_n (q0 := 15) (j := 1) rfl dX1_write_14 rfl ?_
  refine g_aload_n (q0 := 16) (j := 2) rfl dX1_write_15 rfl ?_
  refine g_getf (q0 := 19) (t := 0) (fi := 6) rfl rfl ff_X1_112 dX1_write_16 rfl (by assumption) ?_
  try simp (disch := omega) only [gU_same, gU_idx, gU_cel]
  refine g_iast (q0 := 20) rfl dX1_write_19 (sh_12 hOK) (by omega) (by omega) ?_
  refine g_aload_n (q0 := 21) (j := 0) rfl dX1_write_20 rfl ?_
  refine g_getp (q0 := 24) (b := 5) rfl ff_X1_9 dX1_write_21 rfl (gOK_i (gOK_i hOK (sh_11 hOK)) (sh_12 hOK)) (by decide) (sh_4 hOK) rfl (by decide) ?_
  refine g_iload_n (q0 := 25) (j := 1) rfl dX1_write_24 rfl ?_
  refine g_aload_n (q0 := 26) (j := 2) rfl dX1_write_25 rfl ?_
  refine g_getf (q0 := 29) (t := 0) (fi := 1) rfl rfl ff_X1_114 dX1_write_26 rfl (by assumption) ?_
  try simp (disch := omega) only [gU_same, gU_idx, gU_cel]
  refine g_iast (q0 := 30) rfl dX1_write_29 (sh_5 hOK) (by omega) (by omega) ?_
  refine g_aload_n (q0 := 31) (j := 0) rfl dX1_write_30 rfl ?_
  refine g_getp (q0 := 34) (b := 10) rfl ff_X1_31 dX1_write_31 rfl (gOK_i (gOK_i (gOK_i hOK (sh_11 hOK)) (sh_12 hOK)) (sh_5 hOK)) (by decide) (sh_4 hOK) rfl (by decide) ?_
  refine g_iload_n (q0 := 35) (j := 1) rfl dX1_write_34 rfl ?_
  refine g_aload_n (q0 := 36) (j := 2) rfl dX1_write_35 rfl ?_
  refine g_getf (q0 := 39) (t := 0) (fi := 4) rfl rfl ff_X1_116 dX1_write_36 rfl (by assumption) ?_
  try simp (disch := omega) only [gU_same, gU_idx, gU_cel]
  refine g_iast (q0 := 40) rfl dX1_write_39 (sh_10 hOK) (by omega) (by omega) ?_
  refine g_aload_n (q0 := 41) (j := 2) rfl dX1_write_40 rfl ?_
  refine g_getp (q0 := 44) (b := a + 5) rfl ff_X1_122 dX1_write_41 rfl (gOK_i (gOK_i (gOK_i (gOK_i hOK (sh_11 hOK)) (sh_12 hOK)) (sh_5 hOK)) (sh_10 hOK)) (by omega) (by assumption) rfl rfl ?_
  refine g_iconst (q0 := 45) rfl dX1_write_44 (k := ?_)
  refine g_aload_n (q0 := 46) (j := 0) rfl dX1_write_45 rfl ?_
  refine g_getp (q0 := 49) (b := 9) rfl ff_X1_27 dX1_write_46 rfl (gOK_i (gOK_i (gOK_i (gOK_i hOK (sh_11 hOK)) (sh_12 hOK)) (sh_5 hOK)) (sh_10 hOK)) (by decide) (sh_4 hOK) rfl (by decide) ?_
  refine g_iload_n (q0 := 50) (j := 1) rfl dX1_write_49 rfl ?_
  refine g_bipush (q0 := 52) rfl dX1_write_50 (k := ?_)
  refine g_imul (q0 := 53) rfl dX1_write_52 (by omega) (by omega) ?_
  refine g_aload_n (q0 := 54) (j := 2) rfl dX1_write_53 rfl ?_
  refine g_getf (q0 := 57) (t := 0) (fi := 4) rfl rfl ff_X1_116 dX1_write_54 rfl (by assumption) ?_
  try simp (disch := omega) only [gU_same, gU_idx, gU_cel]
  refine g_copy (q0 := 60) rfl (Or.inr rfl) ml_X1_125 nat_acopy sta_acopy inic_System dX1_write_57 (by assumption) (sh_9 hOK) (by omega) (by omega) (by omega) (by omega) (by omega) (fun _ i h0 h1 => by simp (disch := omega) only [gU_cel]; have := hms (0 + i) (by omega) (by omega); omega) (by decide) (Nat.le_of_ble_eq_true rfl) ?_
  generalize hMA : gCpy (gU (gU (gU (gU M 11 n (M a 5)) 12 n (M a 6)) 5 n (M a 1)) 10 n (M a 4)) (a + 5) 0 9 (n * 24) (M a 4) = MA
  have hOA : gOK sh MA := by rw [← hMA]; exact gOK_cpy (gOK_i (gOK_i (gOK_i (gOK_i hOK (sh_11 hOK)) (sh_12 hOK)) (sh_5 hOK)) (sh_10 hOK)) (sh_9 hOK) (Or.inr rfl)
  have hcc : ∀ (M' : gM) (b q : Int), b ≠ 9 ∨ q < n * 24 → gCpy M' (a + 5) 0 9 (n * 24) (M a 4) b q = M' b q := fun M' b q h => by
    simp only [gCpy]
    rw [if_neg (by omega)]
  have fA0 : ∀ M' : gM, kSame M' (gCpy M' (a + 5) 0 9 (n * 24) (M a 4)) n := by
    intro M'
    refine ⟨fun q hq => ⟨?_, ?_, ?_, ?_, ?_, ?_, ?_, ?_⟩, fun q hq => ?_, fun q hq => ?_, fun b h h' => ?_⟩
    all_goals first
      | exact hcc M' _ _ (by omega)
      | (funext y; exact hcc M' _ _ (by omega))
  have fA1 : kSame M MA n := by
    rw [← hMA]
    exact kSame_trans (kSame_trans (kSame_trans (kSame_trans (kSame_U hn0 (by omega) (by omega)) (kSame_U hn0 (by omega) (by omega))) (kSame_U hn0 (by omega) (by omega))) (kSame_U hn0 (by omega) (by omega))) (fA0 _)
  have fA2 : kFr M MA := by
    rw [← hMA]
    intro b hb
    funext y
    rw [hcc _ _ _ (by omega)]
    simp (disch := omega) only [gU_cel]
  have a5 : MA 5 n = ((kPs d).length : Int) := by
    rw [← hMA, hcc _ _ _ (by omega)]
    simp (disch := omega) only [gU_cel, gU_same]
    exact d1
  have a10 : MA 10 n = ((kMs d).length : Int) := by
    rw [← hMA, hcc _ _ _ (by omega)]
    simp (disch := omega) only [gU_cel, gU_same]
    exact d5
  have a11 : MA 11 n = kWh d := by
    rw [← hMA, hcc _ _ _ (by omega)]
    simp (disch := omega) only [gU_cel, gU_same]
    exact d8
  have a12 : MA 12 n = kHr d := by
    rw [← hMA, hcc _ _ _ (by omega)]
    simp (disch := omega) only [gU_cel, gU_same]
    exact d9
  have a9 : rw_ (MA 9) (n * 24) (kMs d) := by
    have := rw_shift (g2 := MA 9) (d := n * 24) d7 (fun q q0 q1 => by
      rw [← hMA]
      rw [gCpy_in ⟨by omega, by omega⟩, show 0 + (q + n * 24 - n * 24) = q by omega]
      simp (disch := omega) only [gU_cel])
    rwa [Int.zero_add] at this
  clear hMA hcc fA0
  have hfl : kFr M MA := fA2
  refine g_aload_n (q0 := 61) (j := 0) rfl dX1_write_60 rfl ?_
  refine g_getp (q0 := 64) (b := 7) rfl ff_X1_18 dX1_write_61 rfl hOA (by decide) (sh_4 hOA) rfl (by decide) ?_
  refine g_iload_n (q0 := 65) (j := 1) rfl dX1_write_64 rfl ?_
  refine g_iload_n (q0 := 66) (j := 3) rfl dX1_write_65 rfl ?_
  refine g_if_ge (q0 := 69) (tgt := 73) rfl dX1_write_66 (by decide) (fun h66 => ?_) (fun h66 => ?_)
  · -- a like TREE is there
    rcases kLow_sp (kFs d) cs 0 with ⟨z, -⟩ | ⟨j, c, z1, z2, z3, -⟩
    · omega
    · obtain ⟨-, -, -, y4, -, -⟩ := hrow j c z1
      rw [z2] at y4
      have el : kLow (kFs d) (cs ++ [d]) 0 = kLow (kFs d) cs 0 := by
        rw [kLow_app, if_neg (fun q => q.2 c (List.mem_of_getElem? z1) z2)]
      have hjl := (List.getElem?_eq_some_iff.mp z1).1
      refine g_iload_n (q0 := 74) (j := 3) rfl dX1_write_73 rfl ?_
      refine g_iast (q0 := 75) rfl dX1_write_74 (sh_7 hOA) (by omega) (by omega) ?_
      refine g_iload_n (q0 := 76) (j := 3) rfl dX1_write_75 rfl ?_
      refine g_if_ge (q0 := 79) (tgt := 92) rfl dX1_write_76 (by decide) (fun h76 => ?_) (fun h76 => ?_)
      · refine h92 _ (gOK_i hOA (sh_7 hOA)) (kSame_trans fA1 (kSame_U hn0 (by omega) (by omega))) (kFr_trans fA2 (kFr_U (by omega))) (by rw [gU_cell _ _ _ (by decide)]; exact a5) (by rw [gU_cell _ _ _ (by decide)]; exact a10) (by rw [gU_cell _ _ _ (by decide)]; exact a9) (by rw [gU_cell _ _ _ (by decide)]; exact a11) (by rw [gU_cell _ _ _ (by decide)]; exact a12) (by rw [gU_same, el]) ?_
        rw [el]
        rw [z3] at y4 ⊢
        refine tOk_congr y4 ?_ ?_ ?_ <;> rw [gU_cell _ _ _ (by omega)] <;> exact fA1.2.2.2 _ (by omega) (by omega)
      · omega
  · rcases kLow_sp (kFs d) cs 0 with ⟨z, z0⟩ | ⟨j, c, z1, z2, z3, -⟩
    · have el : kLow (kFs d) (cs ++ [d]) 0 = n := by
        rw [kLow_app, if_pos ⟨z, z0⟩, if_pos rfl, hn]; omega
      refine g_iload_n (q0 := 70) (j := 1) rfl dX1_write_69 rfl ?_
      refine g_goto (tgt := 74) dX1_write_70 (by decide) ?_
      refine g_iast (q0 := 75) rfl dX1_write_74 (sh_7 hOA) (by omega) (by omega) ?_
      refine g_iload_n (q0 := 76) (j := 3) rfl dX1_write_75 rfl ?_
      refine g_if_ge (q0 := 79) (tgt := 92) rfl dX1_write_76 (by decide) (fun h76 => ?_) (fun h76 => ?_)
      · omega
      · have hO7 : gOK sh (gU MA 7 n n) := gOK_i hOA (sh_7 hOA)
        have g1 : kSame MA (gU MA 7 n n) n := kSame_U hn0 (by omega) (by omega)
        have g2 : kFr MA (gU MA 7 n n) := kFr_U (by omega)
        have g3 : ∀ b : Int, b ≠ 7 → gU MA 7 n n b = MA b := fun b hb => gU_cell _ _ _ hb
        have g4 : gU MA 7 n n 7 n = n := gU_same _ _ _ _
        generalize gU MA 7 n n = M7 at hO7 g1 g2 g3 g4 ⊢
        have g5 := kFr_trans fA2 g2
        obtain ⟨t1, t2, t3, t4⟩ := shT hOK hn0 hn1
        refine g_aload_n (q0 := 80) (j := 0) rfl dX1_write_79 rfl ?_
        refine g_getp (q0 := 83) (b := 8) rfl ff_X1_23 dX1_write_80 rfl hO7 (by decide) (sh_4 hO7) rfl (by decide) ?_
        refine g_iload_n (q0 := 84) (j := 1) rfl dX1_write_83 rfl ?_
        refine g_aald (q0 := 85) (q := 0) rfl dX1_write_84 (sh_8 hO7) rfl (by omega) (by omega) ?_
        rw [hO7.2.2.1 _ (by omega) (by omega)]
        refine g_aload_n (q0 := 86) (j := 2) rfl dX1_write_85 rfl ?_
        refine g_getp (q0 := 89) (b := a + 2) rfl ff_X1_94 dX1_write_86 rfl hO7 (by omega) (by assumption) rfl rfl ?_
        refine g_callVm (as := [_]) (rest := []) mt_X10_copy mi_X10_copy se_X10_copy ml_X1_131 dX1_write_89 (q0 := 92) rfl rfl (by assumption) rfl rfl (sp_X10_copy (fs := []) hO7 (shT hO7 hn0 hn1) (by decide) (tOk_congr d4 (g5 _ (by omega)) (g5 _ (by omega)) (g5 _ (by omega))) w7 (by omega)) rfl ⟨by decide, by decide⟩ (Nat.le_of_ble_eq_true rfl) ⟨Nat.zero_le _, Nat.zero_le _⟩ (fun r8 M8 hP8 hw8 hMw8 => ?_)
        obtain ⟨rfl, e1, hO8, e2⟩ := hP8
        refine h92 M8 hO8 (kSame_trans fA1 (kSame_trans g1 ⟨fun q hq => ?_, fun q hq => ?_, fun q hq => ?_, fun b h h' => ?_⟩)) (kFr_trans g5 (fun b hb => e2 b (by omega) (by omega) (by omega))) ?_ ?_ ?_ ?_ ?_ ?_ (by rw [el]; exact e1)
        · refine ⟨?_, ?_, ?_, ?_, ?_, ?_, ?_, ?_⟩ <;> rw [e2 _ (by omega) (by omega) (by omega)]
        · rw [e2 _ (by omega) (by omega) (by omega)]
        · rw [e2 _ (by omega) (by omega) (by omega)]
        · exact e2 _ (by omega) (by omega) (by omega)
        · rw [e2 _ (by omega) (by omega) (by omega), g3 _ (by decide)]; exact a5
        · rw [e2 _ (by omega) (by omega) (by omega), g3 _ (by decide)]; exact a10
        · rw [e2 _ (by omega) (by omega) (by omega), g3 _ (by decide)]; exact a9
        · rw [e2 _ (by omega) (by omega) (by omega), g3 _ (by decide)]; exact a11
        · rw [e2 _ (by omega) (by omega) (by omega), g3 _ (by decide)]; exact a12
        · rw [e2 _ (by omega) (by omega) (by omega), g4, el]
    · omega
def kFind (d : kC) : List kC → Int → Int
  | [], _ => -1
  | c :: r, i => if kFs c = kFs d ∧ kAs c d then i else kFind d r (i + 1)
/-- the number of the COMMIT that is so, or what is told; the COMMITS then -/
def kSet (cs : List kC) (d : kC) : Int × List kC := if 0 ≤ kFind d cs 0 then (kFind d cs 0, cs) else if 120 ≤ cs.length then (-3, cs) else ((cs.length : Int), cs ++ [d])
theorem kFind_none {d : kC} : ∀ {cs : List kC} (i : Int), (∀ c ∈ cs, kFs c ≠ kFs d) → kFind d cs i = -1
  | [], _, _ => rfl
  | c :: r, i, h => by
    rw [kFind, if_neg (fun q => h c List.mem_cons_self q.1), kFind_none (i + 1) (fun x hx => h x (List.mem_cons_of_mem _ hx))]
theorem kFind_m1 {d : kC} : ∀ (cs : List kC) (i : Int), 0 ≤ i → kFind d cs i = -1 ∨ (i ≤ kFind d cs i ∧ kFind d cs i < i + (cs.length : Int))
  | [], _, _ => Or.inl rfl
  | c :: r, i, h => by
    rw [kFind]
    split
    · exact Or.inr ⟨Int.le_refl _, by simp only [List.length_cons]; omega⟩
    · rcases kFind_m1 r (i + 1) (by omega) with z | z
      · exact Or.inl z
      · exact Or.inr ⟨by omega, by simp only [List.length_cons]; omega⟩
theorem cOk_fr {sh : gS} {M M1 : gM} {cs : List kC} (h : cOk sh M cs) (hf : ∀ b : Int, 4 ≤ b → b < 380 → M1 b = M b) : cOk sh M1 cs := by
  obtain ⟨h1, h2, h3, h4⟩ := h
  refine ⟨by rw [hf 4 (by decide) (by decide)]; exact h1, h2, by rw [hf 17 (by decide) (by decide)]; exact h3, fun k c hk => ?_⟩
  have hs : kSame M M1 120 := by
    refine ⟨fun q hq => ?_, fun q hq => ?_, fun q hq => ?_, fun b h h' => hf b (by omega) (by omega)⟩
    · refine ⟨?_, ?_, ?_, ?_, ?_, ?_, ?_, ?_⟩ <;> rw [hf _ (by decide) (by decide)]
    · rw [hf _ (by decide) (by decide)]
    · rw [hf _ (by decide) (by decide)]
  exact cOne_same (h4 k c hk) hs hk (by omega)
theorem cOk_add {sh : gS} {M M1 : gM} {cs : List kC} {d : kC} (h : cOk sh M cs) (hs : kSame M M1 (cs.length : Int)) (hf : kFr M M1) (h1 : cOne sh M1 (cs ++ [d]) cs.length d) (hl : cs.length < 120) : cOk sh (gU M1 4 0 ((cs.length : Int) + 1)) (cs ++ [d]) := by
  obtain ⟨e1, e2, e3, e4⟩ := h
  have hs2 : kSame M1 (gU M1 4 0 ((cs.length : Int) + 1)) 120 := kSame_U (by decide) (by omega) (by decide)
  have hlen : (cs ++ [d]).length = cs.length + 1 := by simp
  refine ⟨by rw [gU_same, hlen]; rfl, by omega, by rw [gU_cell _ _ _ (by decide), hf 17 (by decide)]; exact e3, fun k c hk => ?_⟩
  refine cOne_same ?_ hs2 hk (by omega)
  rcases Nat.lt_trichotomy k cs.length with z | z | z
  · rw [List.getElem?_append_left z] at hk
    exact cOne_app (cOne_same (e4 k c hk) hs hk (by omega)) hk
  · rw [List.getElem?_append_right (by omega), show k - cs.length = 0 by omega] at hk
    cases hk
    rw [z]
    exact h1
  · have := (List.getElem?_eq_some_iff.mp hk).1
    omega
theorem sp_X1_settle {sh : gS} {M : gM} {cs : List kC} {a : Int} {d : kC} (hOK : gOK sh M) (hC : cOk sh M cs) (hD : dOk sh M a d) (hw : cs.length < 120 → kWf (cs.length : Int) d) :
    gC (gr 3 114) yX1_settle cX1_settle 4 (some (.int)) [(4, 4), (4, a)] sh M (gPm sh (fun r M1 => r = some (0, (kSet cs d).1) ∧ gOK sh M1 ∧ cOk sh M1 (kSet cs d).2 ∧ ∀ b : Int, b < 4 ∨ 379 < b → M1 b = M b)) := by
  have hD0 := hD
  obtain ⟨⟨s1, s2, s3, s4, s5, s6, s7⟩, d1, d2, d3, d4, d5, d6, d7, d8, d9⟩ := hD
  have e0 := hC.1
  have e1 := hC.2.1
  generalize hQ : gPm sh (fun (r : Option gV) M1 => r = some (0, (kSet cs d).1) ∧ gOK sh M1 ∧ cOk sh M1 (kSet cs d).2 ∧ ∀ b : Int, b < 4 ∨ 379 < b → M1 b = M b) = Q
  have h50 : ∀ w : gV, gw w → kFind d cs 0 = -1 → gA (gr 3 114) yX1_settle cX1_settle 4 (some (.int)) Q (0, 0) 50 [(4, 4), (4, a), (0, kLow (kFs d) cs 0), w] [] sh M := by
    intro w hw9 hf
    refine g_aload_n (q0 := 51) (j := 0) rfl dX1_settle_50 rfl ?_
    refine g_getf (q0 := 54) (t := 0) (fi := 0) rfl rfl ff_X1_57 dX1_settle_51 rfl (sh_4 hOK) ?_
    refine g_bipush (q0 := 56) rfl dX1_settle_54 (k := ?_)
    refine g_icmp_lt (q0 := 59) (tgt := 62) rfl dX1_settle_56 (by decide) (fun h56 => ?_) (fun h56 => ?_)
    · refine g_aload_n (q0 := 63) (j := 0) rfl dX1_settle_62 rfl ?_
      refine g_aload_n (q0 := 64) (j := 0) rfl dX1_settle_63 rfl ?_
      refine g_getf (q0 := 67) (t := 0) (fi := 0) rfl rfl ff_X1_57 dX1_settle_64 rfl (sh_4 hOK) ?_
      refine g_aload_n (q0 := 68) (j := 1) rfl dX1_settle_67 rfl ?_
      refine g_iload_n (q0 := 69) (j := 2) rfl dX1_settle_68 rfl ?_
      have hlt : cs.length < 120 := by omega
      rw [e0]
      refine g_callVm (as := [_, _, _]) (rest := []) mt_X1_write mi_X1_write se_X1_write ml_X1_106 dX1_settle_69 (q0 := 72) rfl rfl (sh_4 hOK) rfl rfl (sp_X1_write hOK hC hlt hD0 (hw hlt)) rfl ⟨by decide, by decide⟩ (Nat.le_of_ble_eq_true rfl) ⟨Nat.zero_le _, Nat.zero_le _⟩ (fun r1 M1 hP1 hw1 hMw1 => ?_)
      obtain ⟨rfl, hO1, f1, f2, f3⟩ := hP1
      have e4 : M1 4 0 = (cs.length : Int) := by rw [f2 4 (by decide)]; exact e0
      refine g_aload_n (q0 := 73) (j := 0) rfl dX1_settle_72 rfl ?_
      refine g_dup (q0 := 74) rfl dX1_settle_73 (k := ?_)
      refine g_getf (q0 := 77) (t := 0) (fi := 0) rfl rfl ff_X1_57 dX1_settle_74 rfl (sh_4 hOK) ?_
      refine g_iconst (q0 := 78) rfl dX1_settle_77 (k := ?_)
      refine g_iadd (q0 := 79) rfl dX1_settle_78 (by omega) (by omega) ?_
      refine g_put (q0 := 82) (t := 0) (fi := 0) rfl rfl ff_X1_57 dX1_settle_79 rfl (sh_4 hOK) rfl (fun _ => ⟨rfl, rfl⟩) ?_
      refine g_aload_n (q0 := 83) (j := 0) rfl dX1_settle_82 rfl ?_
      refine g_getf (q0 := 86) (t := 0) (fi := 0) rfl rfl ff_X1_57 dX1_settle_83 rfl (sh_4 hOK) ?_
      try simp (disch := omega) only [gU_same, gU_idx, gU_cel]
      refine g_iconst (q0 := 87) rfl dX1_settle_86 (k := ?_)
      refine g_isub (q0 := 88) rfl dX1_settle_87 (by omega) (by omega) ?_
      refine g_ireturn dX1_settle_88 rfl ⟨Nat.zero_le _, Nat.zero_le _⟩ ?_
      subst hQ
      have hk : kSet cs d = ((cs.length : Int), cs ++ [d]) := by rw [kSet, if_neg (by omega), if_neg (by omega)]
      rw [hk, e4]
      refine ⟨rfl, by simp, gOK_o (f := 0) hO1 (sh_4 hO1) rfl rfl, cOk_add hC f1 f2 f3 hlt, fun b hb => ?_⟩
      rw [gU_cell _ _ _ (by omega)]
      exact f2 b (by omega)
    · refine g_bipush (q0 := 61) rfl dX1_settle_59 (k := ?_)
      refine g_ireturn dX1_settle_61 rfl ⟨Nat.zero_le _, Nat.zero_le _⟩ ?_
      subst hQ
      have hk : kSet cs d = (-3, cs) := by rw [kSet, if_neg (by omega), if_pos (by omega)]
      rw [hk]
      exact ⟨rfl, rfl, hOK, hC, fun _ _ => rfl⟩
  have lp : ∀ (suf pre : List kC) (k : Nat), cs = pre ++ suf → k = pre.length → kFind d suf (k : Int) = kFind d cs 0 → 0 ≤ kLow (kFs d) cs 0 →
      gA (gr 3 114) yX1_settle cX1_settle 4 (some (.int)) Q (0, 0) 11 [(4, 4), (4, a), (0, kLow (kFs d) cs 0), (0, (k : Int))] [] sh M := by
    intro suf
    induction suf with
    | nil =>
      intro pre k he hk hv hlow
      have hl : cs.length = pre.length := by rw [he]; simp
      refine g_iload_n (q0 := 12) (j := 2) rfl dX1_settle_11 rfl ?_
      refine g_if_lt (q0 := 15) (tgt := 50) rfl dX1_settle_12 (by decide) (fun h12 => ?_) (fun h12 => ?_)
      · omega
      · refine g_iload_n (q0 := 16) (j := 3) rfl dX1_settle_15 rfl ?_
        refine g_aload_n (q0 := 17) (j := 0) rfl dX1_settle_16 rfl ?_
        refine g_getf (q0 := 20) (t := 0) (fi := 0) rfl rfl ff_X1_57 dX1_settle_17 rfl (sh_4 hOK) ?_
        refine g_icmp_ge (q0 := 23) (tgt := 50) rfl dX1_settle_20 (by decide) (fun h20 => ?_) (fun h20 => ?_)
        · exact h50 _ ⟨by show -2147483648 ≤ (k : Int); omega, by show (k : Int) < 2147483648; omega⟩ (by rw [← hv]; rfl)
        · omega
    | cons c r ih =>
      intro pre k he hk hv hlow
      have hl : cs.length = pre.length + r.length + 1 := by rw [he]; simp; omega
      have hkc : cs[k]? = some c := by rw [he, hk, List.getElem?_append_right (by omega)]; simp
      have h3 := (hC.2.2.2 k c hkc).2.2.1
      have hnext : ¬ (kFs c = kFs d ∧ kAs c d) → gA (gr 3 114) yX1_settle cX1_settle 4 (some (.int)) Q (0, 0) 44 [(4, 4), (4, a), (0, kLow (kFs d) cs 0), (0, (k : Int))] [] sh M := by
        intro hne
        rw [kFind, if_neg hne] at hv
        refine g_iinc (q0 := 47) (lv2 := [_, _, _, _]) rfl dX1_settle_44 rfl (by decide) rfl rfl (by omega) (by omega) ?_
        refine g_goto (tgt := 11) dX1_settle_47 (by decide) ?_
        exact ih (pre ++ [c]) (k + 1) (by rw [he]; simp) (by simp; omega) hv hlow
      refine g_iload_n (q0 := 12) (j := 2) rfl dX1_settle_11 rfl ?_
      refine g_if_lt (q0 := 15) (tgt := 50) rfl dX1_settle_12 (by decide) (fun h12 => ?_) (fun h12 => ?_)
      · omega
      · refine g_iload_n (q0 := 16) (j := 3) rfl dX1_settle_15 rfl ?_
        refine g_aload_n (q0 := 17) (j := 0) rfl dX1_settle_16 rfl ?_
        refine g_getf (q0 := 20) (t := 0) (fi := 0) rfl rfl ff_X1_57 dX1_settle_17 rfl (sh_4 hOK) ?_
        refine g_icmp_ge (q0 := 23) (tgt := 50) rfl dX1_settle_20 (by decide) (fun h20 => ?_) (fun h20 => ?_)
        · omega
        · refine g_aload_n (q0 := 24) (j := 0) rfl dX1_settle_23 rfl ?_
          refine g_getp (q0 := 27) (b := 7) rfl ff_X1_18 dX1_settle_24 rfl hOK (by decide) (sh_4 hOK) rfl (by decide) ?_
          refine g_iload_n (q0 := 28) (j := 3) rfl dX1_settle_27 rfl ?_
          refine g_iald (q0 := 29) rfl dX1_settle_28 (sh_7 hOK) (by omega) (by omega) ?_
          refine g_iload_n (q0 := 30) (j := 2) rfl dX1_settle_29 rfl ?_
          refine g_icmp_ne (q0 := 33) (tgt := 44) rfl dX1_settle_30 (by decide) (fun h30 => ?_) (fun h30 => ?_)
          · rw [h3] at h30
            exact hnext (fun q => h30 (by rw [q.1]))
          · rw [h3] at h30
            have hfs : kFs c = kFs d := by
              rcases kLow_sp (kFs d) cs 0 with ⟨z, -⟩ | ⟨j, x, z1, z2, z3, -⟩
              · omega
              · rcases kLow_sp (kFs c) cs 0 with ⟨-, y⟩ | ⟨j2, x2, y1, y2, y3, -⟩
                · exact absurd rfl (y c (List.mem_of_getElem? hkc))
                · have : j = j2 := by omega
                  subst this
                  rw [z1] at y1
                  cases y1
                  rw [← y2, ← z2]
            refine g_aload_n (q0 := 34) (j := 0) rfl dX1_settle_33 rfl ?_
            refine g_iload_n (q0 := 35) (j := 3) rfl dX1_settle_34 rfl ?_
            refine g_aload_n (q0 := 36) (j := 1) rfl dX1_settle_35 rfl ?_
            refine g_callVp (as := [_, _]) (rest := []) mt_X1_isAs mi_X1_isAs se_X1_isAs ml_X1_102 dX1_settle_36 (q0 := 39) rfl rfl (sh_4 hOK) rfl rfl (sp_X1_isAs hOK hC hkc hD0) rfl ⟨by decide, by decide⟩ (Nat.le_of_ble_eq_true rfl) ⟨Nat.zero_le _, Nat.zero_le _⟩ (fun hwc => ?_)
            refine g_if_eq (q0 := 42) (tgt := 44) rfl dX1_settle_39 (by decide) (fun h39 => ?_) (fun h39 => ?_)
            · exact hnext (fun q => by rw [decide_eq_true q.2] at h39; exact absurd h39 (by decide))
            · have has : kAs c d := of_decide_eq_true (bI_t h39)
              rw [kFind, if_pos ⟨hfs, has⟩] at hv
              refine g_iload_n (q0 := 43) (j := 3) rfl dX1_settle_42 rfl ?_
              refine g_ireturn dX1_settle_43 rfl ⟨Nat.zero_le _, Nat.zero_le _⟩ ?_
              subst hQ
              have hk2 : kSet cs d = ((k : Int), cs) := by rw [kSet, ← hv, if_pos (by omega)]
              rw [hk2]
              exact ⟨rfl, rfl, hOK, hC, fun _ _ => rfl⟩
  refine gC_ofA (lv := [_, _, _, _]) (by decide +kernel) (Nat.le_of_ble_eq_true rfl) rfl (fun hMw hav => ?_)
  refine g_aload_n (q0 := 1) (j := 0) rfl dX1_settle_0 rfl ?_
  refine g_aload_n (q0 := 2) (j := 1) rfl dX1_settle_1 rfl ?_
  refine g_getp (q0 := 5) (b := a + 2) rfl ff_X1_94 dX1_settle_2 rfl hOK (by omega) (by assumption) rfl rfl ?_
  refine g_callVp (as := [_]) (rest := []) mt_X1_lowestWith mi_X1_lowestWith se_X1_lowestWith ml_X1_98 dX1_settle_5 (q0 := 8) rfl rfl (sh_4 hOK) rfl rfl (sp_X1_lowestWith hOK hC d4) rfl ⟨by decide, by decide⟩ (Nat.le_of_ble_eq_true rfl) ⟨Nat.zero_le _, Nat.zero_le _⟩ (fun hwc => ?_)
  refine g_istore_n (q0 := 9) (j := 2) (lv2 := [_, _, _, _]) rfl dX1_settle_8 (by decide) rfl rfl ?_
  refine g_iconst (q0 := 10) rfl dX1_settle_9 (k := ?_)
  refine g_istore_n (q0 := 11) (j := 3) (lv2 := [_, _, _, _]) rfl dX1_settle_10 (by decide) rfl rfl ?_
  rcases kLow_sp (kFs d) cs 0 with ⟨z, z0⟩ | ⟨j, c, z1, z2, z3, -⟩
  · have hf := kFind_none (d := d) (cs := cs) 0 z0
    have h51 := h50 (0, 0) ⟨by decide, by decide⟩ hf
    rw [z] at h51 ⊢
    refine g_iload_n (q0 := 12) (j := 2) rfl dX1_settle_11 rfl ?_
    refine g_if_lt (q0 := 15) (tgt := 50) rfl dX1_settle_12 (by decide) (fun h12 => ?_) (fun h12 => ?_)
    · exact h51
    · omega
  · exact lp cs [] 0 rfl rfl rfl (by omega)
