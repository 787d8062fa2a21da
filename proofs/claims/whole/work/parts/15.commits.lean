-- ==== all COMMITS
theorem dX1_has_0 : decode cX1_has 0 = .ok (.iload_n 1, 1) := by decide +kernel
theorem dX1_has_1 : decode cX1_has 1 = .ok (.ifCond .lt 15, 3) := by decide +kernel
theorem dX1_has_4 : decode cX1_has 4 = .ok (.iload_n 1, 1) := by decide +kernel
theorem dX1_has_5 : decode cX1_has 5 = .ok (.aload_n 0, 1) := by decide +kernel
theorem dX1_has_6 : decode cX1_has 6 = .ok (.getfield 57, 3) := by decide +kernel
theorem dX1_has_9 : decode cX1_has 9 = .ok (.if_icmp .ge 7, 3) := by decide +kernel
theorem dX1_has_12 : decode cX1_has 12 = .ok (.iconst 1, 1) := by decide +kernel
theorem dX1_has_13 : decode cX1_has 13 = .ok (.goto 4, 3) := by decide +kernel
theorem dX1_has_16 : decode cX1_has 16 = .ok (.iconst 0, 1) := by decide +kernel
theorem dX1_has_17 : decode cX1_has 17 = .ok (.ireturn, 1) := by decide +kernel
theorem dX1_parent_0 : decode cX1_parent 0 = .ok (.aload_n 0, 1) := by decide +kernel
theorem dX1_parent_1 : decode cX1_parent 1 = .ok (.getfield 15, 3) := by decide +kernel
theorem dX1_parent_4 : decode cX1_parent 4 = .ok (.iload_n 1, 1) := by decide +kernel
theorem dX1_parent_5 : decode cX1_parent 5 = .ok (.iconst 3, 1) := by decide +kernel
theorem dX1_parent_6 : decode cX1_parent 6 = .ok (.imul, 1) := by decide +kernel
theorem dX1_parent_7 : decode cX1_parent 7 = .ok (.iload_n 2, 1) := by decide +kernel
theorem dX1_parent_8 : decode cX1_parent 8 = .ok (.iadd, 1) := by decide +kernel
theorem dX1_parent_9 : decode cX1_parent 9 = .ok (.iaload, 1) := by decide +kernel
theorem dX1_parent_10 : decode cX1_parent 10 = .ok (.ireturn, 1) := by decide +kernel
theorem dX1_tree_0 : decode cX1_tree 0 = .ok (.aload_n 0, 1) := by decide +kernel
theorem dX1_tree_1 : decode cX1_tree 1 = .ok (.getfield 23, 3) := by decide +kernel
theorem dX1_tree_4 : decode cX1_tree 4 = .ok (.aload_n 0, 1) := by decide +kernel
theorem dX1_tree_5 : decode cX1_tree 5 = .ok (.getfield 18, 3) := by decide +kernel
theorem dX1_tree_8 : decode cX1_tree 8 = .ok (.iload_n 1, 1) := by decide +kernel
theorem dX1_tree_9 : decode cX1_tree 9 = .ok (.iaload, 1) := by decide +kernel
theorem dX1_tree_10 : decode cX1_tree 10 = .ok (.aaload, 1) := by decide +kernel
theorem dX1_tree_11 : decode cX1_tree 11 = .ok (.areturn, 1) := by decide +kernel
theorem dX1_firstTree_0 : decode cX1_firstTree 0 = .ok (.aload_n 0, 1) := by decide +kernel
theorem dX1_firstTree_1 : decode cX1_firstTree 1 = .ok (.getfield 9, 3) := by decide +kernel
theorem dX1_firstTree_4 : decode cX1_firstTree 4 = .ok (.iload_n 1, 1) := by decide +kernel
theorem dX1_firstTree_5 : decode cX1_firstTree 5 = .ok (.iaload, 1) := by decide +kernel
theorem dX1_firstTree_6 : decode cX1_firstTree 6 = .ok (.ifCond .ne 10, 3) := by decide +kernel
theorem dX1_firstTree_9 : decode cX1_firstTree 9 = .ok (.aload_n 0, 1) := by decide +kernel
theorem dX1_firstTree_10 : decode cX1_firstTree 10 = .ok (.getfield 53, 3) := by decide +kernel
theorem dX1_firstTree_13 : decode cX1_firstTree 13 = .ok (.goto 13, 3) := by decide +kernel
theorem dX1_firstTree_16 : decode cX1_firstTree 16 = .ok (.aload_n 0, 1) := by decide +kernel
theorem dX1_firstTree_17 : decode cX1_firstTree 17 = .ok (.aload_n 0, 1) := by decide +kernel
theorem dX1_firstTree_18 : decode cX1_firstTree 18 = .ok (.iload_n 1, 1) := by decide +kernel
theorem dX1_firstTree_19 : decode cX1_firstTree 19 = .ok (.iconst 0, 1) := by decide +kernel
theorem dX1_firstTree_20 : decode cX1_firstTree 20 = .ok (.invokevirtual 61, 3) := by decide +kernel
theorem dX1_firstTree_23 : decode cX1_firstTree 23 = .ok (.invokevirtual 65, 3) := by decide +kernel
theorem dX1_firstTree_26 : decode cX1_firstTree 26 = .ok (.areturn, 1) := by decide +kernel
theorem dX1_messageByte_0 : decode cX1_messageByte 0 = .ok (.aload_n 0, 1) := by decide +kernel
theorem dX1_messageByte_1 : decode cX1_messageByte 1 = .ok (.getfield 27, 3) := by decide +kernel
theorem dX1_messageByte_4 : decode cX1_messageByte 4 = .ok (.iload_n 1, 1) := by decide +kernel
theorem dX1_messageByte_5 : decode cX1_messageByte 5 = .ok (.bipush 24, 2) := by decide +kernel
theorem dX1_messageByte_7 : decode cX1_messageByte 7 = .ok (.imul, 1) := by decide +kernel
theorem dX1_messageByte_8 : decode cX1_messageByte 8 = .ok (.iload_n 2, 1) := by decide +kernel
theorem dX1_messageByte_9 : decode cX1_messageByte 9 = .ok (.iadd, 1) := by decide +kernel
theorem dX1_messageByte_10 : decode cX1_messageByte 10 = .ok (.baload, 1) := by decide +kernel
theorem dX1_messageByte_11 : decode cX1_messageByte 11 = .ok (.ireturn, 1) := by decide +kernel
theorem dX1_isAbove_0 : decode cX1_isAbove 0 = .ok (.aload_n 0, 1) := by decide +kernel
theorem dX1_isAbove_1 : decode cX1_isAbove 1 = .ok (.getfield 48, 3) := by decide +kernel
theorem dX1_isAbove_4 : decode cX1_isAbove 4 = .ok (.iload_n 2, 1) := by decide +kernel
theorem dX1_isAbove_5 : decode cX1_isAbove 5 = .ok (.iload_n 1, 1) := by decide +kernel
theorem dX1_isAbove_6 : decode cX1_isAbove 6 = .ok (.invokevirtual 69, 3) := by decide +kernel
theorem dX1_isAbove_9 : decode cX1_isAbove 9 = .ok (.ireturn, 1) := by decide +kernel
theorem dX1_childrenOf_0 : decode cX1_childrenOf 0 = .ok (.iconst 0, 1) := by decide +kernel
theorem dX1_childrenOf_1 : decode cX1_childrenOf 1 = .ok (.istore_n 2, 1) := by decide +kernel
theorem dX1_childrenOf_2 : decode cX1_childrenOf 2 = .ok (.iload_n 1, 1) := by decide +kernel
theorem dX1_childrenOf_3 : decode cX1_childrenOf 3 = .ok (.iconst 1, 1) := by decide +kernel
theorem dX1_childrenOf_4 : decode cX1_childrenOf 4 = .ok (.iadd, 1) := by decide +kernel
theorem dX1_childrenOf_5 : decode cX1_childrenOf 5 = .ok (.istore_n 3, 1) := by decide +kernel
theorem dX1_childrenOf_6 : decode cX1_childrenOf 6 = .ok (.iload_n 3, 1) := by decide +kernel
theorem dX1_childrenOf_7 : decode cX1_childrenOf 7 = .ok (.aload_n 0, 1) := by decide +kernel
theorem dX1_childrenOf_8 : decode cX1_childrenOf 8 = .ok (.getfield 57, 3) := by decide +kernel
theorem dX1_childrenOf_11 : decode cX1_childrenOf 11 = .ok (.if_icmp .ge 43, 3) := by decide +kernel
theorem dX1_childrenOf_14 : decode cX1_childrenOf 14 = .ok (.iconst 0, 1) := by decide +kernel
theorem dX1_childrenOf_15 : decode cX1_childrenOf 15 = .ok (.istore 4, 2) := by decide +kernel
theorem dX1_childrenOf_17 : decode cX1_childrenOf 17 = .ok (.iload 4, 2) := by decide +kernel
theorem dX1_childrenOf_19 : decode cX1_childrenOf 19 = .ok (.aload_n 0, 1) := by decide +kernel
theorem dX1_childrenOf_20 : decode cX1_childrenOf 20 = .ok (.getfield 9, 3) := by decide +kernel
theorem dX1_childrenOf_23 : decode cX1_childrenOf 23 = .ok (.iload_n 3, 1) := by decide +kernel
theorem dX1_childrenOf_24 : decode cX1_childrenOf 24 = .ok (.iaload, 1) := by decide +kernel
theorem dX1_childrenOf_25 : decode cX1_childrenOf 25 = .ok (.if_icmp .ge 23, 3) := by decide +kernel
theorem dX1_childrenOf_28 : decode cX1_childrenOf 28 = .ok (.aload_n 0, 1) := by decide +kernel
theorem dX1_childrenOf_29 : decode cX1_childrenOf 29 = .ok (.iload_n 3, 1) := by decide +kernel
theorem dX1_childrenOf_30 : decode cX1_childrenOf 30 = .ok (.iload 4, 2) := by decide +kernel
theorem dX1_childrenOf_32 : decode cX1_childrenOf 32 = .ok (.invokevirtual 61, 3) := by decide +kernel
theorem dX1_childrenOf_35 : decode cX1_childrenOf 35 = .ok (.iload_n 1, 1) := by decide +kernel
theorem dX1_childrenOf_36 : decode cX1_childrenOf 36 = .ok (.if_icmp .ne 6, 3) := by decide +kernel
theorem dX1_childrenOf_39 : decode cX1_childrenOf 39 = .ok (.iinc 2 1, 3) := by decide +kernel
theorem dX1_childrenOf_42 : decode cX1_childrenOf 42 = .ok (.iinc 4 1, 3) := by decide +kernel
theorem dX1_childrenOf_45 : decode cX1_childrenOf 45 = .ok (.goto (-28), 3) := by decide +kernel
theorem dX1_childrenOf_48 : decode cX1_childrenOf 48 = .ok (.iinc 3 1, 3) := by decide +kernel
theorem dX1_childrenOf_51 : decode cX1_childrenOf 51 = .ok (.goto (-45), 3) := by decide +kernel
theorem dX1_childrenOf_54 : decode cX1_childrenOf 54 = .ok (.iload_n 2, 1) := by decide +kernel
theorem dX1_childrenOf_55 : decode cX1_childrenOf 55 = .ok (.ireturn, 1) := by decide +kernel
theorem dX1_markHistory_0 : decode cX1_markHistory 0 = .ok (.aload_n 2, 1) := by decide +kernel
theorem dX1_markHistory_1 : decode cX1_markHistory 1 = .ok (.iload_n 3, 1) := by decide +kernel
theorem dX1_markHistory_2 : decode cX1_markHistory 2 = .ok (.invokevirtual 73, 3) := by decide +kernel
theorem dX1_markHistory_5 : decode cX1_markHistory 5 = .ok (.iconst 0, 1) := by decide +kernel
theorem dX1_markHistory_6 : decode cX1_markHistory 6 = .ok (.istore 4, 2) := by decide +kernel
theorem dX1_markHistory_8 : decode cX1_markHistory 8 = .ok (.iload 4, 2) := by decide +kernel
theorem dX1_markHistory_10 : decode cX1_markHistory 10 = .ok (.aload_n 1, 1) := by decide +kernel
theorem dX1_markHistory_11 : decode cX1_markHistory 11 = .ok (.getfield 84, 3) := by decide +kernel
theorem dX1_markHistory_14 : decode cX1_markHistory 14 = .ok (.if_icmp .ge 37, 3) := by decide +kernel
theorem dX1_markHistory_17 : decode cX1_markHistory 17 = .ok (.aload_n 2, 1) := by decide +kernel
theorem dX1_markHistory_18 : decode cX1_markHistory 18 = .ok (.iload_n 3, 1) := by decide +kernel
theorem dX1_markHistory_19 : decode cX1_markHistory 19 = .ok (.aload_n 0, 1) := by decide +kernel
theorem dX1_markHistory_20 : decode cX1_markHistory 20 = .ok (.getfield 48, 3) := by decide +kernel
theorem dX1_markHistory_23 : decode cX1_markHistory 23 = .ok (.aload_n 1, 1) := by decide +kernel
theorem dX1_markHistory_24 : decode cX1_markHistory 24 = .ok (.getfield 87, 3) := by decide +kernel
theorem dX1_markHistory_27 : decode cX1_markHistory 27 = .ok (.iload 4, 2) := by decide +kernel
theorem dX1_markHistory_29 : decode cX1_markHistory 29 = .ok (.iaload, 1) := by decide +kernel
theorem dX1_markHistory_30 : decode cX1_markHistory 30 = .ok (.invokevirtual 76, 3) := by decide +kernel
theorem dX1_markHistory_33 : decode cX1_markHistory 33 = .ok (.aload_n 2, 1) := by decide +kernel
theorem dX1_markHistory_34 : decode cX1_markHistory 34 = .ok (.iload_n 3, 1) := by decide +kernel
theorem dX1_markHistory_35 : decode cX1_markHistory 35 = .ok (.aload_n 1, 1) := by decide +kernel
theorem dX1_markHistory_36 : decode cX1_markHistory 36 = .ok (.getfield 87, 3) := by decide +kernel
theorem dX1_markHistory_39 : decode cX1_markHistory 39 = .ok (.iload 4, 2) := by decide +kernel
theorem dX1_markHistory_41 : decode cX1_markHistory 41 = .ok (.iaload, 1) := by decide +kernel
theorem dX1_markHistory_42 : decode cX1_markHistory 42 = .ok (.invokevirtual 80, 3) := by decide +kernel
theorem dX1_markHistory_45 : decode cX1_markHistory 45 = .ok (.iinc 4 1, 3) := by decide +kernel
theorem dX1_markHistory_48 : decode cX1_markHistory 48 = .ok (.goto (-40), 3) := by decide +kernel
theorem dX1_markHistory_51 : decode cX1_markHistory 51 = .ok (.return_, 1) := by decide +kernel
theorem dX1_markWithAncestors_0 : decode cX1_markWithAncestors 0 = .ok (.aload_n 2, 1) := by decide +kernel
theorem dX1_markWithAncestors_1 : decode cX1_markWithAncestors 1 = .ok (.iload_n 3, 1) := by decide +kernel
theorem dX1_markWithAncestors_2 : decode cX1_markWithAncestors 2 = .ok (.invokevirtual 73, 3) := by decide +kernel
theorem dX1_markWithAncestors_5 : decode cX1_markWithAncestors 5 = .ok (.aload_n 2, 1) := by decide +kernel
theorem dX1_markWithAncestors_6 : decode cX1_markWithAncestors 6 = .ok (.iload_n 3, 1) := by decide +kernel
theorem dX1_markWithAncestors_7 : decode cX1_markWithAncestors 7 = .ok (.aload_n 0, 1) := by decide +kernel
theorem dX1_markWithAncestors_8 : decode cX1_markWithAncestors 8 = .ok (.getfield 48, 3) := by decide +kernel
theorem dX1_markWithAncestors_11 : decode cX1_markWithAncestors 11 = .ok (.iload_n 1, 1) := by decide +kernel
theorem dX1_markWithAncestors_12 : decode cX1_markWithAncestors 12 = .ok (.invokevirtual 76, 3) := by decide +kernel
theorem dX1_markWithAncestors_15 : decode cX1_markWithAncestors 15 = .ok (.aload_n 2, 1) := by decide +kernel
theorem dX1_markWithAncestors_16 : decode cX1_markWithAncestors 16 = .ok (.iload_n 3, 1) := by decide +kernel
theorem dX1_markWithAncestors_17 : decode cX1_markWithAncestors 17 = .ok (.iload_n 1, 1) := by decide +kernel
theorem dX1_markWithAncestors_18 : decode cX1_markWithAncestors 18 = .ok (.invokevirtual 80, 3) := by decide +kernel
theorem dX1_markWithAncestors_21 : decode cX1_markWithAncestors 21 = .ok (.return_, 1) := by decide +kernel
theorem dX1_unlikeTrees_0 : decode cX1_unlikeTrees 0 = .ok (.iconst 0, 1) := by decide +kernel
theorem dX1_unlikeTrees_1 : decode cX1_unlikeTrees 1 = .ok (.istore_n 1, 1) := by decide +kernel
theorem dX1_unlikeTrees_2 : decode cX1_unlikeTrees 2 = .ok (.iconst 0, 1) := by decide +kernel
theorem dX1_unlikeTrees_3 : decode cX1_unlikeTrees 3 = .ok (.istore_n 2, 1) := by decide +kernel
theorem dX1_unlikeTrees_4 : decode cX1_unlikeTrees 4 = .ok (.iload_n 2, 1) := by decide +kernel
theorem dX1_unlikeTrees_5 : decode cX1_unlikeTrees 5 = .ok (.aload_n 0, 1) := by decide +kernel
theorem dX1_unlikeTrees_6 : decode cX1_unlikeTrees 6 = .ok (.getfield 57, 3) := by decide +kernel
theorem dX1_unlikeTrees_9 : decode cX1_unlikeTrees 9 = .ok (.if_icmp .ge 22, 3) := by decide +kernel
theorem dX1_unlikeTrees_12 : decode cX1_unlikeTrees 12 = .ok (.aload_n 0, 1) := by decide +kernel
theorem dX1_unlikeTrees_13 : decode cX1_unlikeTrees 13 = .ok (.getfield 18, 3) := by decide +kernel
theorem dX1_unlikeTrees_16 : decode cX1_unlikeTrees 16 = .ok (.iload_n 2, 1) := by decide +kernel
theorem dX1_unlikeTrees_17 : decode cX1_unlikeTrees 17 = .ok (.iaload, 1) := by decide +kernel
theorem dX1_unlikeTrees_18 : decode cX1_unlikeTrees 18 = .ok (.iload_n 2, 1) := by decide +kernel
theorem dX1_unlikeTrees_19 : decode cX1_unlikeTrees 19 = .ok (.if_icmp .ne 6, 3) := by decide +kernel
theorem dX1_unlikeTrees_22 : decode cX1_unlikeTrees 22 = .ok (.iinc 1 1, 3) := by decide +kernel
theorem dX1_unlikeTrees_25 : decode cX1_unlikeTrees 25 = .ok (.iinc 2 1, 3) := by decide +kernel
theorem dX1_unlikeTrees_28 : decode cX1_unlikeTrees 28 = .ok (.goto (-24), 3) := by decide +kernel
theorem dX1_unlikeTrees_31 : decode cX1_unlikeTrees 31 = .ok (.iload_n 1, 1) := by decide +kernel
theorem dX1_unlikeTrees_32 : decode cX1_unlikeTrees 32 = .ok (.ireturn, 1) := by decide +kernel
theorem dX1_lowestWith_0 : decode cX1_lowestWith 0 = .ok (.iconst 0, 1) := by decide +kernel
theorem dX1_lowestWith_1 : decode cX1_lowestWith 1 = .ok (.istore_n 2, 1) := by decide +kernel
theorem dX1_lowestWith_2 : decode cX1_lowestWith 2 = .ok (.iload_n 2, 1) := by decide +kernel
theorem dX1_lowestWith_3 : decode cX1_lowestWith 3 = .ok (.aload_n 0, 1) := by decide +kernel
theorem dX1_lowestWith_4 : decode cX1_lowestWith 4 = .ok (.getfield 57, 3) := by decide +kernel
theorem dX1_lowestWith_7 : decode cX1_lowestWith 7 = .ok (.if_icmp .ge 34, 3) := by decide +kernel
theorem dX1_lowestWith_10 : decode cX1_lowestWith 10 = .ok (.aload_n 0, 1) := by decide +kernel
theorem dX1_lowestWith_11 : decode cX1_lowestWith 11 = .ok (.getfield 18, 3) := by decide +kernel
theorem dX1_lowestWith_14 : decode cX1_lowestWith 14 = .ok (.iload_n 2, 1) := by decide +kernel
theorem dX1_lowestWith_15 : decode cX1_lowestWith 15 = .ok (.iaload, 1) := by decide +kernel
theorem dX1_lowestWith_16 : decode cX1_lowestWith 16 = .ok (.iload_n 2, 1) := by decide +kernel
theorem dX1_lowestWith_17 : decode cX1_lowestWith 17 = .ok (.if_icmp .ne 18, 3) := by decide +kernel
theorem dX1_lowestWith_20 : decode cX1_lowestWith 20 = .ok (.aload_n 0, 1) := by decide +kernel
theorem dX1_lowestWith_21 : decode cX1_lowestWith 21 = .ok (.getfield 23, 3) := by decide +kernel
theorem dX1_lowestWith_24 : decode cX1_lowestWith 24 = .ok (.iload_n 2, 1) := by decide +kernel
theorem dX1_lowestWith_25 : decode cX1_lowestWith 25 = .ok (.aaload, 1) := by decide +kernel
theorem dX1_lowestWith_26 : decode cX1_lowestWith 26 = .ok (.aload_n 1, 1) := by decide +kernel
theorem dX1_lowestWith_27 : decode cX1_lowestWith 27 = .ok (.invokevirtual 90, 3) := by decide +kernel
theorem dX1_lowestWith_30 : decode cX1_lowestWith 30 = .ok (.ifCond .eq 5, 3) := by decide +kernel
theorem dX1_lowestWith_33 : decode cX1_lowestWith 33 = .ok (.iload_n 2, 1) := by decide +kernel
theorem dX1_lowestWith_34 : decode cX1_lowestWith 34 = .ok (.ireturn, 1) := by decide +kernel
theorem dX1_lowestWith_35 : decode cX1_lowestWith 35 = .ok (.iinc 2 1, 3) := by decide +kernel
theorem dX1_lowestWith_38 : decode cX1_lowestWith 38 = .ok (.goto (-36), 3) := by decide +kernel
theorem dX1_lowestWith_41 : decode cX1_lowestWith 41 = .ok (.iconst (-1), 1) := by decide +kernel
theorem dX1_lowestWith_42 : decode cX1_lowestWith 42 = .ok (.ireturn, 1) := by decide +kernel
/-- a COMMIT: its PARENTS, its TREE, its MESSAGE, WHO, HOUR -/
abbrev kC : Type := List Int × List gF × List Int × Int × Int
def kPs (c : kC) : List Int := c.1
def kFs (c : kC) : List gF := c.2.1
def kMs (c : kC) : List Int := c.2.2.1
def kWh (c : kC) : Int := c.2.2.2.1
def kHr (c : kC) : Int := c.2.2.2.2
/-- the lowest one with that TREE, or -1 -/
def kLow (fs : List gF) : List kC → Int → Int
  | [], _ => -1
  | c :: r, i => if kFs c = fs then i else kLow fs r (i + 1)
def kAncR : List kC → Nat → Nat → Bool
  | [], _, _ => false
  | c :: o, k, j => if k = o.length then (kPs c).any (fun p => p.toNat == j || kAncR o p.toNat j) else kAncR o k j
/-- whether j is an ANCESTOR of k -/
def kAnc (cs : List kC) (k j : Nat) : Bool := kAncR cs.reverse k j
def kGenR : List kC → Int → Int
  | [], _ => 0
  | c :: o, k => if k = (o.length : Int) then (kPs c).foldl (fun g p => if g < kGenR o p + 1 then kGenR o p + 1 else g) 0 else kGenR o k
def kGen (cs : List kC) (k : Int) : Int := kGenR cs.reverse k
def kWf (k : Int) (c : kC) : Prop := (kPs c).length ≤ 3 ∧ (∀ p ∈ kPs c, 0 ≤ p ∧ p < k) ∧ (kMs c).length ≤ 24 ∧ (∀ b ∈ kMs c, 0 ≤ b ∧ b < 128) ∧ (0 ≤ kWh c ∧ kWh c ≤ 9) ∧ (0 ≤ kHr c ∧ kHr c ≤ 999) ∧ (kFs c).length ≤ 16
def cRow (M : gM) (k : Int) (c : kC) : Prop := M 5 k = ((kPs c).length : Int) ∧ rw_ (M 6) (k * 3) (kPs c) ∧ M 10 k = ((kMs c).length : Int) ∧ rw_ (M 9) (k * 24) (kMs c) ∧ M 11 k = kWh c ∧ M 12 k = kHr c
def cOne (sh : gS) (M : gM) (cs : List kC) (k : Nat) (c : kC) : Prop :=
  cRow M (k : Int) c ∧ kWf (k : Int) c ∧ M 7 (k : Int) = kLow (kFs c) cs 0 ∧ tOk sh M (20 + 3 * kLow (kFs c) cs 0) 16 (kFs c) ∧ M 13 (k : Int) = kGen cs (k : Int) ∧ mIs M 14 (k : Int) (kAnc cs k)
def cOk (sh : gS) (M : gM) (cs : List kC) : Prop :=
  M 4 0 = (cs.length : Int) ∧ cs.length ≤ 120 ∧ M 17 2 = 0 ∧ ∀ (k : Nat) (c : kC), cs[k]? = some c → cOne sh M cs k c
/-- the TREE of a COMMIT, in the class's memory -/
def cT (M : gM) (k : Int) : Int := 20 + 3 * M 7 k
theorem kLow_sp (fs : List gF) : ∀ (cs : List kC) (i : Int), (kLow fs cs i = -1 ∧ ∀ c ∈ cs, kFs c ≠ fs) ∨ (∃ (j : Nat) (c : kC), cs[j]? = some c ∧ kFs c = fs ∧ kLow fs cs i = i + (j : Int) ∧ ∀ (m : Nat) (d : kC), m < j → cs[m]? = some d → kFs d ≠ fs)
  | [], i => Or.inl ⟨rfl, fun c hc => by cases hc⟩
  | c :: r, i => by
    unfold kLow
    by_cases h : kFs c = fs
    · rw [if_pos h]
      exact Or.inr ⟨0, c, rfl, h, by simp, fun m d hm => by omega⟩
    · rw [if_neg h]
      rcases kLow_sp fs r (i + 1) with ⟨a, b⟩ | ⟨j, d, a, b, e, f⟩
      · refine Or.inl ⟨a, fun x hx => ?_⟩
        rcases List.mem_cons.mp hx with rfl | q
        · exact h
        · exact b x q
      · refine Or.inr ⟨j + 1, d, a, b, by rw [e]; omega, fun m x hm hx => ?_⟩
        cases m with
        | zero => simp at hx; subst hx; exact h
        | succ m => exact f m x (by omega) hx
theorem kLow_at {cs : List kC} {k : Nat} {c : kC} (h : cs[k]? = some c) : ∃ j : Nat, kLow (kFs c) cs 0 = (j : Int) ∧ j ≤ k := by
  rcases kLow_sp (kFs c) cs 0 with ⟨-, b⟩ | ⟨j, d, a, b, e, f⟩
  · exact absurd rfl (b c (List.mem_of_getElem? h))
  · refine ⟨j, by rw [e]; omega, ?_⟩
    rcases Nat.lt_or_ge k j with z | z
    · exact absurd rfl (f k c z h)
    · exact z
theorem cOk_len {sh : gS} {M : gM} {cs : List kC} (h : cOk sh M cs) {k : Nat} {c : kC} (hk : cs[k]? = some c) : k < cs.length ∧ cs.length ≤ 120 := ⟨(List.getElem?_eq_some_iff.mp hk).1, h.2.1⟩
theorem shT_all : ∀ i : Nat, i < 120 → gSH[20 + 3 * i]? = some (0, 11) ∧ gSH[20 + 3 * i + 1]? = some (1, 16) ∧ gSH[20 + 3 * i + 2]? = some (1, 16) := by decide +kernel
theorem shT {sh : gS} {M : gM} (h : gOK sh M) {i : Int} (h0 : 0 ≤ i) (h1 : i < 120) : tSh sh (20 + 3 * i) 16 := by
  obtain ⟨n, rfl⟩ : ∃ n : Nat, i = (n : Int) := ⟨i.toNat, by omega⟩
  obtain ⟨a, b, c⟩ := shT_all n (by omega)
  have e1 := gOK_sh h _ a
  have e2 := gOK_sh h _ b
  have e3 := gOK_sh h _ c
  refine ⟨?_, ?_, ?_, by omega⟩
  · rw [← e1]; congr 1
  · rw [← e2]; congr 1
  · rw [← e3]; congr 1
theorem cT_rng {sh : gS} {M : gM} {cs : List kC} (h : cOk sh M cs) {k : Nat} {c : kC} (hk : cs[k]? = some c) : 0 ≤ M 7 (k : Int) ∧ M 7 (k : Int) ≤ k ∧ tOk sh M (cT M (k : Int)) 16 (kFs c) := by
  obtain ⟨-, -, h3, h4, -, -⟩ := h.2.2.2 k c hk
  obtain ⟨j, e, hj⟩ := kLow_at hk
  refine ⟨by rw [h3, e]; omega, by rw [h3, e]; omega, ?_⟩
  unfold cT
  rw [h3]
  exact h4
theorem sp_X1_has {sh : gS} {M : gM} {cs : List kC} {k : Int} (hOK : gOK sh M) (hC : cOk sh M cs) :
    gC (gr 0 0) yX1_has cX1_has 2 (some (.boolean)) [(4, 4), (0, k)] sh M (gPp sh M (0, if 0 ≤ k ∧ k < (cs.length : Int) then 1 else 0)) := by
  have h0 := hC.1
  refine gC_ofA (lv := [_, _]) (by decide +kernel) (Nat.le_of_ble_eq_true rfl) rfl (fun hMw hav => ?_)
  refine g_iload_n (q0 := 1) (j := 1) rfl dX1_has_0 rfl ?_
  refine g_if_lt (q0 := 4) (tgt := 16) rfl dX1_has_1 (by decide) (fun h1 => ?_) (fun h1 => ?_)
  · refine g_iconst (q0 := 17) rfl dX1_has_16 (k := ?_)
    refine g_zreturn dX1_has_17 rfl (by first | rfl | exact gnz (by omega)) ⟨Nat.zero_le _, Nat.zero_le _⟩ ?_
    exact ⟨by rw [if_neg (by omega)], rfl, rfl⟩
  · refine g_iload_n (q0 := 5) (j := 1) rfl dX1_has_4 rfl ?_
    refine g_aload_n (q0 := 6) (j := 0) rfl dX1_has_5 rfl ?_
    refine g_getf (q0 := 9) (t := 0) (fi := 0) rfl rfl ff_X1_57 dX1_has_6 rfl (sh_4 hOK) ?_
    refine g_icmp_ge (q0 := 12) (tgt := 16) rfl dX1_has_9 (by decide) (fun h9 => ?_) (fun h9 => ?_)
    · refine g_iconst (q0 := 17) rfl dX1_has_16 (k := ?_)
      refine g_zreturn dX1_has_17 rfl (by first | rfl | exact gnz (by omega)) ⟨Nat.zero_le _, Nat.zero_le _⟩ ?_
      exact ⟨by rw [if_neg (by omega)], rfl, rfl⟩
    · refine g_iconst (q0 := 13) rfl dX1_has_12 (k := ?_)
      refine g_goto (tgt := 17) dX1_has_13 (by decide) ?_
      refine g_zreturn dX1_has_17 rfl (by first | rfl | exact gnz (by omega)) ⟨Nat.zero_le _, Nat.zero_le _⟩ ?_
      exact ⟨by rw [if_pos (by omega)], rfl, rfl⟩
theorem sp_X1_parent {sh : gS} {M : gM} {k i : Int} (hOK : gOK sh M) (hk : 0 ≤ k ∧ k < 120) (hi : 0 ≤ i ∧ i < 3) :
    gC (gr 0 0) yX1_parent cX1_parent 3 (some (.int)) [(4, 4), (0, k), (0, i)] sh M (gPp sh M (0, M 6 (k * 3 + i))) := by
  refine gC_ofA (lv := [_, _, _]) (by decide +kernel) (Nat.le_of_ble_eq_true rfl) rfl (fun hMw hav => ?_)
  refine g_aload_n (q0 := 1) (j := 0) rfl dX1_parent_0 rfl ?_
  refine g_getp (q0 := 4) (b := 6) rfl ff_X1_15 dX1_parent_1 rfl hOK (by decide) (sh_4 hOK) rfl (by decide) ?_
  refine g_iload_n (q0 := 5) (j := 1) rfl dX1_parent_4 rfl ?_
  refine g_iconst (q0 := 6) rfl dX1_parent_5 (k := ?_)
  refine g_imul (q0 := 7) rfl dX1_parent_6 (by omega) (by omega) ?_
  refine g_iload_n (q0 := 8) (j := 2) rfl dX1_parent_7 rfl ?_
  refine g_iadd (q0 := 9) rfl dX1_parent_8 (by omega) (by omega) ?_
  refine g_iald (q0 := 10) rfl dX1_parent_9 (sh_6 hOK) (by omega) (by omega) ?_
  refine g_ireturn dX1_parent_10 rfl ⟨Nat.zero_le _, Nat.zero_le _⟩ ?_
  exact ⟨rfl, rfl, rfl⟩
theorem sp_X1_messageByte {sh : gS} {M : gM} {k i : Int} (hOK : gOK sh M) (hk : 0 ≤ k ∧ k < 120) (hi : 0 ≤ i ∧ i < 24) :
    gC (gr 0 0) yX1_messageByte cX1_messageByte 3 (some (.int)) [(4, 4), (0, k), (0, i)] sh M (gPp sh M (0, M 9 (k * 24 + i))) := by
  refine gC_ofA (lv := [_, _, _]) (by decide +kernel) (Nat.le_of_ble_eq_true rfl) rfl (fun hMw hav => ?_)
  refine g_aload_n (q0 := 1) (j := 0) rfl dX1_messageByte_0 rfl ?_
  refine g_getp (q0 := 4) (b := 9) rfl ff_X1_27 dX1_messageByte_1 rfl hOK (by decide) (sh_4 hOK) rfl (by decide) ?_
  refine g_iload_n (q0 := 5) (j := 1) rfl dX1_messageByte_4 rfl ?_
  refine g_bipush (q0 := 7) rfl dX1_messageByte_5 (k := ?_)
  refine g_imul (q0 := 8) rfl dX1_messageByte_7 (by omega) (by omega) ?_
  refine g_iload_n (q0 := 9) (j := 2) rfl dX1_messageByte_8 rfl ?_
  refine g_iadd (q0 := 10) rfl dX1_messageByte_9 (by omega) (by omega) ?_
  refine g_bald (q0 := 11) rfl dX1_messageByte_10 (sh_9 hOK) (by omega) (by omega) ?_
  refine g_ireturn dX1_messageByte_11 rfl ⟨Nat.zero_le _, Nat.zero_le _⟩ ?_
  exact ⟨rfl, rfl, rfl⟩
theorem sp_X1_tree {sh : gS} {M : gM} {cs : List kC} {k : Nat} {c : kC} (hOK : gOK sh M) (hC : cOk sh M cs) (hk : cs[k]? = some c) :
    gC (gr 0 0) yX1_tree cX1_tree 2 (some (.object "CarriedHistory$Tree")) [(4, 4), (0, (k : Int))] sh M (gPp sh M (4, cT M (k : Int))) := by
  obtain ⟨h1, h2, h3⟩ := cT_rng hC hk
  have h4 := cOk_len hC hk
  refine gC_ofA (lv := [_, _]) (by decide +kernel) (Nat.le_of_ble_eq_true rfl) rfl (fun hMw hav => ?_)
  refine g_aload_n (q0 := 1) (j := 0) rfl dX1_tree_0 rfl ?_
  refine g_getp (q0 := 4) (b := 8) rfl ff_X1_23 dX1_tree_1 rfl hOK (by decide) (sh_4 hOK) rfl (by decide) ?_
  refine g_aload_n (q0 := 5) (j := 0) rfl dX1_tree_4 rfl ?_
  refine g_getp (q0 := 8) (b := 7) rfl ff_X1_18 dX1_tree_5 rfl hOK (by decide) (sh_4 hOK) rfl (by decide) ?_
  refine g_iload_n (q0 := 9) (j := 1) rfl dX1_tree_8 rfl ?_
  refine g_iald (q0 := 10) rfl dX1_tree_9 (sh_7 hOK) (by omega) (by omega) ?_
  refine g_aald (q0 := 11) (q := 0) rfl dX1_tree_10 (sh_8 hOK) rfl (by omega) (by omega) ?_
  rw [hOK.2.2.1 _ (by omega) (by omega)]
  refine g_areturn dX1_tree_11 rfl (by omega) ⟨Nat.zero_le _, Nat.zero_le _⟩ ?_
  exact ⟨rfl, rfl, rfl⟩
theorem cPar {sh : gS} {M : gM} {cs : List kC} (h : cOk sh M cs) {k : Nat} {c : kC} (hk : cs[k]? = some c) {pre suf : List Int} {p : Int} (he : kPs c = pre ++ p :: suf) : M 6 ((k : Int) * 3 + (pre.length : Int)) = p ∧ pre.length < 3 ∧ 0 ≤ p ∧ p < (k : Int) ∧ ∃ d, cs[p.toNat]? = some d := by
  obtain ⟨h1, h2, -⟩ := h.2.2.2 k c hk
  have hl := cOk_len h hk
  obtain ⟨-, h3, -⟩ := h1
  rw [he] at h3
  have hw := h2.1
  have hp := h2.2.1 p (by rw [he]; simp)
  rw [he, List.length_append, List.length_cons] at hw
  exact ⟨(rw_cons (rw_app h3).2).1, by omega, hp.1, hp.2, _, List.getElem?_eq_getElem (by omega)⟩
/-- the TREE of the first PARENT -/
def cFT (M : gM) (k : Int) (c : kC) : Int := match kPs c with
  | [] => 17
  | p :: _ => cT M p
def kFF (cs : List kC) (c : kC) : List gF := match kPs c with
  | [] => []
  | p :: _ => match cs[p.toNat]? with
    | some d => kFs d
    | none => []
theorem sh17 {sh : gS} {M : gM} {cs : List kC} (h : gOK sh M) (hC : cOk sh M cs) : tOk sh M 17 0 [] :=
  ⟨⟨sh_17 h, sh_18 h, sh_19 h, by decide⟩, by decide, ⟨by decide, hC.2.2.1, fun j f hf => by simp at hf⟩, by decide⟩
theorem cFT_ok {sh : gS} {M : gM} {cs : List kC} {k : Nat} {c : kC} (hOK : gOK sh M) (hC : cOk sh M cs) (hk : cs[k]? = some c) : ∃ n, n ≤ 16 ∧ tOk sh M (cFT M (k : Int) c) n (kFF cs c) := by
  unfold cFT kFF
  cases hp : kPs c with
  | nil => exact ⟨0, by decide, sh17 hOK hC⟩
  | cons p r =>
    obtain ⟨-, -, h1, h2, d, hd⟩ := cPar hC hk (pre := []) (suf := r) (p := p) (by rw [hp]; rfl)
    have := (cT_rng hC hd).2.2
    rw [Int.toNat_of_nonneg h1] at this
    refine ⟨16, by decide, ?_⟩
    simp only [hd]
    exact this
theorem sp_X1_firstTree {sh : gS} {M : gM} {cs : List kC} {k : Nat} {c : kC} (hOK : gOK sh M) (hC : cOk sh M cs) (hk : cs[k]? = some c) :
    gC (gr 1 22) yX1_firstTree cX1_firstTree 2 (some (.object "CarriedHistory$Tree")) [(4, 4), (0, (k : Int))] sh M (gPp sh M (4, cFT M (k : Int) c)) := by
  have h4 := cOk_len hC hk
  obtain ⟨⟨h5, -⟩, -⟩ := hC.2.2.2 k c hk
  unfold cFT
  refine gC_ofA (lv := [_, _]) (by decide +kernel) (Nat.le_of_ble_eq_true rfl) rfl (fun hMw hav => ?_)
  refine g_aload_n (q0 := 1) (j := 0) rfl dX1_firstTree_0 rfl ?_
  refine g_getp (q0 := 4) (b := 5) rfl ff_X1_9 dX1_firstTree_1 rfl hOK (by decide) (sh_4 hOK) rfl (by decide) ?_
  refine g_iload_n (q0 := 5) (j := 1) rfl dX1_firstTree_4 rfl ?_
  refine g_iald (q0 := 6) rfl dX1_firstTree_5 (sh_5 hOK) (by omega) (by omega) ?_
  refine g_if_ne (q0 := 9) (tgt := 16) rfl dX1_firstTree_6 (by decide) (fun h6 => ?_) (fun h6 => ?_)
  · cases hp : kPs c with
    | nil => rw [hp] at h5; exact absurd h5 h6
    | cons p r =>
      obtain ⟨e1, -, h1, h2, d, hd⟩ := cPar hC hk (pre := []) (suf := r) (p := p) (by rw [hp]; rfl)
      simp only [List.length_nil, Int.natCast_zero] at e1
      refine g_aload_n (q0 := 17) (j := 0) rfl dX1_firstTree_16 rfl ?_
      refine g_aload_n (q0 := 18) (j := 0) rfl dX1_firstTree_17 rfl ?_
      refine g_iload_n (q0 := 19) (j := 1) rfl dX1_firstTree_18 rfl ?_
      refine g_iconst (q0 := 20) rfl dX1_firstTree_19 (k := ?_)
      refine g_callVp (as := [_, _]) (rest := [_]) mt_X1_parent mi_X1_parent se_X1_parent ml_X1_61 dX1_firstTree_20 (q0 := 23) rfl rfl (sh_4 hOK) rfl rfl (sp_X1_parent hOK ⟨by omega, by omega⟩ ⟨by omega, by omega⟩) rfl ⟨by decide, by decide⟩ (Nat.le_of_ble_eq_true rfl) ⟨Nat.zero_le _, Nat.zero_le _⟩ (fun hwc => ?_)
      rw [e1]
      have := sp_X1_tree hOK hC hd
      rw [Int.toNat_of_nonneg h1] at this
      have h9 := (cT_rng hC hd).1
      rw [Int.toNat_of_nonneg h1] at h9
      have h10 : 0 ≤ cT M p := by unfold cT; omega
      refine g_callVp (as := [_]) (rest := []) mt_X1_tree mi_X1_tree se_X1_tree ml_X1_65 dX1_firstTree_23 (q0 := 26) rfl rfl (sh_4 hOK) rfl rfl this rfl ⟨by decide, by decide⟩ (Nat.le_of_ble_eq_true rfl) ⟨Nat.zero_le _, Nat.zero_le _⟩ (fun hwc => ?_)
      refine g_areturn dX1_firstTree_26 rfl (by omega) ⟨Nat.zero_le _, Nat.zero_le _⟩ ?_
      exact ⟨rfl, rfl, rfl⟩
  · cases hp : kPs c with
    | nil =>
      refine g_aload_n (q0 := 10) (j := 0) rfl dX1_firstTree_9 rfl ?_
      refine g_getp (q0 := 13) (b := 17) rfl ff_X1_53 dX1_firstTree_10 rfl hOK (by decide) (sh_4 hOK) rfl (by decide) ?_
      refine g_goto (tgt := 26) dX1_firstTree_13 (by decide) ?_
      refine g_areturn dX1_firstTree_26 rfl (by omega) ⟨Nat.zero_le _, Nat.zero_le _⟩ ?_
      exact ⟨rfl, rfl, rfl⟩
    | cons p r => rw [h5, hp] at h6; simp at h6; omega
theorem mSh14 {sh : gS} {M : gM} (h : gOK sh M) : mSh sh 14 120 := ⟨sh_14 h, sh_15 h, sh_16 h, by decide, by decide⟩
theorem kAnc_up {sh : gS} {M : gM} {cs : List kC} (hC : cOk sh M cs) {k : Nat} {c : kC} (hk : cs[k]? = some c) (j : Nat) (hj : j < 120) : mHas M 14 (k : Int) (j : Int) = kAnc cs k j := mHas_of (hC.2.2.2 k c hk).2.2.2.2.2 j hj
theorem sp_X1_isAbove {sh : gS} {M : gM} {cs : List kC} {k j : Nat} {c : kC} (hOK : gOK sh M) (hC : cOk sh M cs) (hk : cs[k]? = some c) (hj : j < 120) :
    gC (gr 1 22) yX1_isAbove cX1_isAbove 3 (some (.boolean)) [(4, 4), (0, (j : Int)), (0, (k : Int))] sh M (gPp sh M (0, bI (kAnc cs k j))) := by
  have h4 := cOk_len hC hk
  have h5 := kAnc_up hC hk j hj
  have hb := bI_01 (kAnc cs k j)
  refine gC_ofA (lv := [_, _, _]) (by decide +kernel) (Nat.le_of_ble_eq_true rfl) rfl (fun hMw hav => ?_)
  refine g_aload_n (q0 := 1) (j := 0) rfl dX1_isAbove_0 rfl ?_
  refine g_getp (q0 := 4) (b := 14) rfl ff_X1_48 dX1_isAbove_1 rfl hOK (by decide) (sh_4 hOK) rfl (by decide) ?_
  refine g_iload_n (q0 := 5) (j := 2) rfl dX1_isAbove_4 rfl ?_
  refine g_iload_n (q0 := 6) (j := 1) rfl dX1_isAbove_5 rfl ?_
  refine g_callVp (as := [_, _]) (rest := []) mt_X3_has mi_X3_has se_X3_has ml_X1_69 dX1_isAbove_6 (q0 := 9) rfl rfl (sh_14 hOK) rfl rfl (sp_X3_has hOK (mSh14 hOK) ⟨by omega, by omega⟩) rfl ⟨by decide, by decide⟩ (Nat.le_of_ble_eq_true rfl) ⟨Nat.zero_le _, Nat.zero_le _⟩ (fun hwc => ?_)
  rw [h5]
  clear h5
  refine g_zreturn dX1_isAbove_9 rfl (by first | rfl | exact gnz (by omega)) ⟨Nat.zero_le _, Nat.zero_le _⟩ ?_
  exact ⟨rfl, rfl, rfl⟩
theorem sp_X1_unlikeTrees {sh : gS} {M : gM} {cs : List kC} (hOK : gOK sh M) (hC : cOk sh M cs) :
    gC (gr 0 0) yX1_unlikeTrees cX1_unlikeTrees 3 (some (.int)) [(4, 4)] sh M (gPp sh M (0, cnt (fun k => decide (M 7 (k : Int) = (k : Int))) cs.length)) := by
  have h0 := hC.1
  have h1 := hC.2.1
  refine gC_ofA (lv := [_, _, _]) (by decide +kernel) (Nat.le_of_ble_eq_true rfl) rfl (fun hMw hav => ?_)
  have lp : ∀ (m k : Nat) (acc : Int), k + m = cs.length → acc = cnt (fun k => decide (M 7 (k : Int) = (k : Int))) k →
      gA (gr 0 0) yX1_unlikeTrees cX1_unlikeTrees 3 (some (.int)) (gPp sh M (0, cnt (fun k => decide (M 7 (k : Int) = (k : Int))) cs.length)) (0, 0) 4 [(4, 4), (0, acc), (0, (k : Int))] [] sh M := by
    intro m
    induction m with
    | zero =>
      intro k acc hk ha
      refine g_iload_n (q0 := 5) (j := 2) rfl dX1_unlikeTrees_4 rfl ?_
      refine g_aload_n (q0 := 6) (j := 0) rfl dX1_unlikeTrees_5 rfl ?_
      refine g_getf (q0 := 9) (t := 0) (fi := 0) rfl rfl ff_X1_57 dX1_unlikeTrees_6 rfl (sh_4 hOK) ?_
      refine g_icmp_ge (q0 := 12) (tgt := 31) rfl dX1_unlikeTrees_9 (by decide) (fun h9 => ?_) (fun h9 => ?_)
      · refine g_iload_n (q0 := 32) (j := 1) rfl dX1_unlikeTrees_31 rfl ?_
        refine g_ireturn dX1_unlikeTrees_32 rfl ⟨Nat.zero_le _, Nat.zero_le _⟩ ?_
        exact ⟨by rw [ha, show k = cs.length by omega], rfl, rfl⟩
      · omega
    | succ m ih =>
      intro k acc hk ha
      have hr := cnt_rng (fun k => decide (M 7 (k : Int) = (k : Int))) k
      rw [← ha] at hr
      refine g_iload_n (q0 := 5) (j := 2) rfl dX1_unlikeTrees_4 rfl ?_
      refine g_aload_n (q0 := 6) (j := 0) rfl dX1_unlikeTrees_5 rfl ?_
      refine g_getf (q0 := 9) (t := 0) (fi := 0) rfl rfl ff_X1_57 dX1_unlikeTrees_6 rfl (sh_4 hOK) ?_
      refine g_icmp_ge (q0 := 12) (tgt := 31) rfl dX1_unlikeTrees_9 (by decide) (fun h9 => ?_) (fun h9 => ?_)
      · omega
      · refine g_aload_n (q0 := 13) (j := 0) rfl dX1_unlikeTrees_12 rfl ?_
        refine g_getp (q0 := 16) (b := 7) rfl ff_X1_18 dX1_unlikeTrees_13 rfl hOK (by decide) (sh_4 hOK) rfl (by decide) ?_
        refine g_iload_n (q0 := 17) (j := 2) rfl dX1_unlikeTrees_16 rfl ?_
        refine g_iald (q0 := 18) rfl dX1_unlikeTrees_17 (sh_7 hOK) (by omega) (by omega) ?_
        refine g_iload_n (q0 := 19) (j := 2) rfl dX1_unlikeTrees_18 rfl ?_
        refine g_icmp_ne (q0 := 22) (tgt := 25) rfl dX1_unlikeTrees_19 (by decide) (fun h19 => ?_) (fun h19 => ?_)
        · refine g_iinc (q0 := 28) (lv2 := [_, _, _]) rfl dX1_unlikeTrees_25 rfl (by decide) rfl rfl (by omega) (by omega) ?_
          refine g_goto (tgt := 4) dX1_unlikeTrees_28 (by decide) ?_
          exact ih (k + 1) acc (by omega) (by rw [cnt, decide_eq_false h19, ← ha, bI]; simp)
        · refine g_iinc (q0 := 25) (lv2 := [_, _, _]) rfl dX1_unlikeTrees_22 rfl (by decide) rfl rfl (by omega) (by omega) ?_
          refine g_iinc (q0 := 28) (lv2 := [_, _, _]) rfl dX1_unlikeTrees_25 rfl (by decide) rfl rfl (by omega) (by omega) ?_
          refine g_goto (tgt := 4) dX1_unlikeTrees_28 (by decide) ?_
          exact ih (k + 1) (acc + 1) (by omega) (by rw [cnt, decide_eq_true h19, ← ha]; rfl)
  refine g_iconst (q0 := 1) rfl dX1_unlikeTrees_0 (k := ?_)
  refine g_istore_n (q0 := 2) (j := 1) (lv2 := [_, _, _]) rfl dX1_unlikeTrees_1 (by decide) rfl rfl ?_
  refine g_iconst (q0 := 3) rfl dX1_unlikeTrees_2 (k := ?_)
  refine g_istore_n (q0 := 4) (j := 2) (lv2 := [_, _, _]) rfl dX1_unlikeTrees_3 (by decide) rfl rfl ?_
  exact lp cs.length 0 0 (by omega) rfl
theorem sp_X1_lowestWith {sh : gS} {M : gM} {cs : List kC} {t : Int} {n : Nat} {fs : List gF} (hOK : gOK sh M) (hC : cOk sh M cs) (hT : tOk sh M t n fs) :
    gC (gr 1 22) yX1_lowestWith cX1_lowestWith 3 (some (.int)) [(4, 4), (4, t)] sh M (gPp sh M (0, kLow fs cs 0)) := by
  have h0 := hC.1
  have h1 := hC.2.1
  refine gC_ofA (lv := [_, _, _]) (by decide +kernel) (Nat.le_of_ble_eq_true rfl) rfl (fun hMw hav => ?_)
  have lp : ∀ (suf pre : List kC) (k : Nat), cs = pre ++ suf → k = pre.length → (∀ c ∈ pre, kFs c ≠ fs) → kLow fs suf (k : Int) = kLow fs cs 0 →
      gA (gr 1 22) yX1_lowestWith cX1_lowestWith 3 (some (.int)) (gPp sh M (0, kLow fs cs 0)) (0, 0) 2 [(4, 4), (4, t), (0, (k : Int))] [] sh M := by
    intro suf
    induction suf with
    | nil =>
      intro pre k he hk hp hv
      have hl : cs.length = pre.length := by rw [he]; simp
      refine g_iload_n (q0 := 3) (j := 2) rfl dX1_lowestWith_2 rfl ?_
      refine g_aload_n (q0 := 4) (j := 0) rfl dX1_lowestWith_3 rfl ?_
      refine g_getf (q0 := 7) (t := 0) (fi := 0) rfl rfl ff_X1_57 dX1_lowestWith_4 rfl (sh_4 hOK) ?_
      refine g_icmp_ge (q0 := 10) (tgt := 41) rfl dX1_lowestWith_7 (by decide) (fun h7 => ?_) (fun h7 => ?_)
      · refine g_iconst (q0 := 42) rfl dX1_lowestWith_41 (k := ?_)
        refine g_ireturn dX1_lowestWith_42 rfl ⟨Nat.zero_le _, Nat.zero_le _⟩ ?_
        exact ⟨by rw [← hv]; rfl, rfl, rfl⟩
      · omega
    | cons c r ih =>
      intro pre k he hk hp hv
      have hl : cs.length = pre.length + r.length + 1 := by rw [he]; simp; omega
      have hkc : cs[k]? = some c := by rw [he, hk, List.getElem?_append_right (by omega)]; simp
      obtain ⟨-, -, h3, h4, -, -⟩ := hC.2.2.2 k c hkc
      have hnext : (kFs c ≠ fs) → gA (gr 1 22) yX1_lowestWith cX1_lowestWith 3 (some (.int)) (gPp sh M (0, kLow fs cs 0)) (0, 0) 35 [(4, 4), (4, t), (0, (k : Int))] [] sh M := by
        intro hne
        rw [kLow, if_neg hne] at hv
        refine g_iinc (q0 := 38) (lv2 := [_, _, _]) rfl dX1_lowestWith_35 rfl (by decide) rfl rfl (by omega) (by omega) ?_
        refine g_goto (tgt := 2) dX1_lowestWith_38 (by decide) ?_
        refine ih (pre ++ [c]) (k + 1) (by rw [he]; simp) (by simp; omega) (fun d hd => ?_) hv
        rcases List.mem_append.mp hd with q | q
        · exact hp d q
        · rw [List.mem_singleton.mp q]; exact hne
      refine g_iload_n (q0 := 3) (j := 2) rfl dX1_lowestWith_2 rfl ?_
      refine g_aload_n (q0 := 4) (j := 0) rfl dX1_lowestWith_3 rfl ?_
      refine g_getf (q0 := 7) (t := 0) (fi := 0) rfl rfl ff_X1_57 dX1_lowestWith_4 rfl (sh_4 hOK) ?_
      refine g_icmp_ge (q0 := 10) (tgt := 41) rfl dX1_lowestWith_7 (by decide) (fun h7 => ?_) (fun h7 => ?_)
      · omega
      · refine g_aload_n (q0 := 11) (j := 0) rfl dX1_lowestWith_10 rfl ?_
        refine g_getp (q0 := 14) (b := 7) rfl ff_X1_18 dX1_lowestWith_11 rfl hOK (by decide) (sh_4 hOK) rfl (by decide) ?_
        refine g_iload_n (q0 := 15) (j := 2) rfl dX1_lowestWith_14 rfl ?_
        refine g_iald (q0 := 16) rfl dX1_lowestWith_15 (sh_7 hOK) (by omega) (by omega) ?_
        refine g_iload_n (q0 := 17) (j := 2) rfl dX1_lowestWith_16 rfl ?_
        refine g_icmp_ne (q0 := 20) (tgt := 35) rfl dX1_lowestWith_17 (by decide) (fun h17 => ?_) (fun h17 => ?_)
        · refine hnext (fun hf => h17 ?_)
          rw [h3]
          rcases kLow_sp (kFs c) cs 0 with ⟨-, b⟩ | ⟨j, d, a, b, e, f⟩
          · exact absurd rfl (b c (List.mem_of_getElem? hkc))
          · rw [e]
            rcases Nat.lt_trichotomy j k with z | z | z
            · have hd : d ∈ pre := by
                rw [he, List.getElem?_append_left (by omega)] at a
                exact List.mem_of_getElem? a
              exact absurd (b.trans hf) (hp d hd)
            · omega
            · exact absurd rfl (f k c z hkc)
        · rw [h3] at h17
          rw [h17] at h4
          have hts := h4.1
          obtain ⟨hs0, hs1, hs2, hlt⟩ := hts
          refine g_aload_n (q0 := 21) (j := 0) rfl dX1_lowestWith_20 rfl ?_
          refine g_getp (q0 := 24) (b := 8) rfl ff_X1_23 dX1_lowestWith_21 rfl hOK (by decide) (sh_4 hOK) rfl (by decide) ?_
          refine g_iload_n (q0 := 25) (j := 2) rfl dX1_lowestWith_24 rfl ?_
          refine g_aald (q0 := 26) (q := 0) rfl dX1_lowestWith_25 (sh_8 hOK) rfl (by omega) (by omega) ?_
          rw [hOK.2.2.1 _ (by omega) (by omega)]
          refine g_aload_n (q0 := 27) (j := 1) rfl dX1_lowestWith_26 rfl ?_
          refine g_callVp (as := [_]) (rest := []) mt_X10_isLike mi_X10_isLike se_X10_isLike ml_X1_90 dX1_lowestWith_27 (q0 := 30) rfl rfl (by assumption) rfl rfl (sp_X10_isLike hOK h4 hT) rfl ⟨by decide, by decide⟩ (Nat.le_of_ble_eq_true rfl) ⟨Nat.zero_le _, Nat.zero_le _⟩ (fun hwc => ?_)
          refine g_if_eq (q0 := 33) (tgt := 35) rfl dX1_lowestWith_30 (by decide) (fun h30 => ?_) (fun h30 => ?_)
          · exact hnext (fun hf => by rw [decide_eq_true hf] at h30; exact absurd h30 (by decide))
          · rw [kLow, if_pos (of_decide_eq_true (bI_t h30))] at hv
            refine g_iload_n (q0 := 34) (j := 2) rfl dX1_lowestWith_33 rfl ?_
            refine g_ireturn dX1_lowestWith_34 rfl ⟨Nat.zero_le _, Nat.zero_le _⟩ ?_
            exact ⟨by rw [← hv], rfl, rfl⟩
  refine g_iconst (q0 := 1) rfl dX1_lowestWith_0 (k := ?_)
  refine g_istore_n (q0 := 2) (j := 2) (lv2 := [_, _, _]) rfl dX1_lowestWith_1 (by decide) rfl rfl ?_
  exact lp cs [] 0 rfl rfl (fun c hc => by cases hc) rfl
theorem sp_X1_markWithAncestors {sh : gS} {M : gM} {cs : List kC} {k n : Nat} {c : kC} {a r : Int} (hOK : gOK sh M) (hC : cOk sh M cs) (hk : cs[k]? = some c) (hT : mSh sh a n) (hr : 0 ≤ r ∧ r < n) (ha : 16 < a) :
    gC (gr 1 23) yX1_markWithAncestors cX1_markWithAncestors 4 none [(4, 4), (0, (k : Int)), (4, a), (0, r)] sh M (gPm sh (fun x M1 => x = none ∧ mPost sh M a r (fun j => decide (j = k) || kAnc cs k j) M1)) := by
  have h4 := cOk_len hC hk
  have hT0 := hT
  have hanc := (hC.2.2.2 k c hk).2.2.2.2.2
  obtain ⟨hs0, hs1, hs2, hlt, hn9⟩ := hT
  refine gC_ofA (lv := [_, _, _, _]) (by decide +kernel) (Nat.le_of_ble_eq_true rfl) rfl (fun hMw hav => ?_)
  refine g_aload_n (q0 := 1) (j := 2) rfl dX1_markWithAncestors_0 rfl ?_
  refine g_iload_n (q0 := 2) (j := 3) rfl dX1_markWithAncestors_1 rfl ?_
  refine g_callVm (as := [_]) (rest := []) mt_X3_clear mi_X3_clear se_X3_clear ml_X1_73 dX1_markWithAncestors_2 (q0 := 5) rfl rfl (by assumption) rfl rfl (sp_X3_clear hOK hT0 hr) rfl ⟨by decide, by decide⟩ (Nat.le_of_ble_eq_true rfl) ⟨Nat.zero_le _, Nat.zero_le _⟩ (fun r1 M1 hP1 hw1 hMw1 => ?_)
  obtain ⟨rfl, a1, hO1, a2, a3⟩ := hP1
  refine g_aload_n (q0 := 6) (j := 2) rfl dX1_markWithAncestors_5 rfl ?_
  refine g_iload_n (q0 := 7) (j := 3) rfl dX1_markWithAncestors_6 rfl ?_
  refine g_aload_n (q0 := 8) (j := 0) rfl dX1_markWithAncestors_7 rfl ?_
  refine g_getp (q0 := 11) (b := 14) rfl ff_X1_48 dX1_markWithAncestors_8 rfl hO1 (by decide) (sh_4 hOK) rfl (by decide) ?_
  refine g_iload_n (q0 := 12) (j := 1) rfl dX1_markWithAncestors_11 rfl ?_
  refine g_callVm (as := [_, _, _]) (rest := []) mt_X3_putAll mi_X3_putAll se_X3_putAll ml_X1_76 dX1_markWithAncestors_12 (q0 := 15) rfl rfl (by assumption) rfl rfl (sp_X3_putAll hO1 hT0 hr (mSh14 hO1) ⟨by omega, by omega⟩ (Or.inr (Or.inr ha))) rfl ⟨by decide, by decide⟩ (Nat.le_of_ble_eq_true rfl) ⟨Nat.zero_le _, Nat.zero_le _⟩ (fun r2 M2 hP2 hw2 hMw2 => ?_)
  obtain ⟨rfl, b1, hO2, b2, b3⟩ := hP2
  refine g_aload_n (q0 := 16) (j := 2) rfl dX1_markWithAncestors_15 rfl ?_
  refine g_iload_n (q0 := 17) (j := 3) rfl dX1_markWithAncestors_16 rfl ?_
  refine g_iload_n (q0 := 18) (j := 1) rfl dX1_markWithAncestors_17 rfl ?_
  refine g_callVm (as := [_, _]) (rest := []) mt_X3_put mi_X3_put se_X3_put ml_X1_80 dX1_markWithAncestors_18 (q0 := 21) rfl rfl (by assumption) rfl rfl (sp_X3_put hO2 hT0 hr (show k < 120 by omega)) rfl ⟨by decide, by decide⟩ (Nat.le_of_ble_eq_true rfl) ⟨Nat.zero_le _, Nat.zero_le _⟩ (fun r3 M3 hP3 hw3 hMw3 => ?_)
  obtain ⟨rfl, c1, hO3, c2, c3⟩ := hP3
  refine g_return dX1_markWithAncestors_21 rfl ⟨Nat.zero_le _, Nat.zero_le _⟩ ?_
  refine ⟨rfl, rfl, fun j hj => ?_, hO3, fun b h1 h2 => by rw [c2 b h1 h2, b2 b h1 h2, a2 b h1 h2], fun q hq => ⟨by rw [(c3 q hq).1, (b3 q hq).1, (a3 q hq).1], by rw [(c3 q hq).2, (b3 q hq).2, (a3 q hq).2]⟩⟩
  rw [c1 j hj]
  show (mB M2 a r j || decide (j = k)) = (decide (j = k) || kAnc cs k j)
  rw [b1 j hj]
  show ((mB M1 a r j || mB M1 14 (k : Int) j) || decide (j = k)) = (decide (j = k) || kAnc cs k j)
  rw [a1 j hj, mB_row (M := M) ⟨by rw [a2 _ (by omega) (by omega)], by rw [a2 _ (by omega) (by omega)]⟩, hanc j hj, Bool.false_or, Bool.or_comm]
