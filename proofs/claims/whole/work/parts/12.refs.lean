-- ==== REFS of a HISTORY: (kind, letter, at, laidBy)
theorem dX7_find_0 : decode cX7_find 0 = .ok (.iconst 0, 1) := by decide +kernel
theorem dX7_find_1 : decode cX7_find 1 = .ok (.istore_n 3, 1) := by decide +kernel
theorem dX7_find_2 : decode cX7_find 2 = .ok (.iload_n 3, 1) := by decide +kernel
theorem dX7_find_3 : decode cX7_find 3 = .ok (.aload_n 0, 1) := by decide +kernel
theorem dX7_find_4 : decode cX7_find 4 = .ok (.getfield 24, 3) := by decide +kernel
theorem dX7_find_7 : decode cX7_find 7 = .ok (.if_icmp .ge 31, 3) := by decide +kernel
theorem dX7_find_10 : decode cX7_find 10 = .ok (.aload_n 0, 1) := by decide +kernel
theorem dX7_find_11 : decode cX7_find 11 = .ok (.getfield 9, 3) := by decide +kernel
theorem dX7_find_14 : decode cX7_find 14 = .ok (.iload_n 3, 1) := by decide +kernel
theorem dX7_find_15 : decode cX7_find 15 = .ok (.iaload, 1) := by decide +kernel
theorem dX7_find_16 : decode cX7_find 16 = .ok (.iload_n 1, 1) := by decide +kernel
theorem dX7_find_17 : decode cX7_find 17 = .ok (.if_icmp .ne 15, 3) := by decide +kernel
theorem dX7_find_20 : decode cX7_find 20 = .ok (.aload_n 0, 1) := by decide +kernel
theorem dX7_find_21 : decode cX7_find 21 = .ok (.getfield 15, 3) := by decide +kernel
theorem dX7_find_24 : decode cX7_find 24 = .ok (.iload_n 3, 1) := by decide +kernel
theorem dX7_find_25 : decode cX7_find 25 = .ok (.iaload, 1) := by decide +kernel
theorem dX7_find_26 : decode cX7_find 26 = .ok (.iload_n 2, 1) := by decide +kernel
theorem dX7_find_27 : decode cX7_find 27 = .ok (.if_icmp .ne 5, 3) := by decide +kernel
theorem dX7_find_30 : decode cX7_find 30 = .ok (.iload_n 3, 1) := by decide +kernel
theorem dX7_find_31 : decode cX7_find 31 = .ok (.ireturn, 1) := by decide +kernel
theorem dX7_find_32 : decode cX7_find 32 = .ok (.iinc 3 1, 3) := by decide +kernel
theorem dX7_find_35 : decode cX7_find 35 = .ok (.goto (-33), 3) := by decide +kernel
theorem dX7_find_38 : decode cX7_find 38 = .ok (.iconst (-1), 1) := by decide +kernel
theorem dX7_find_39 : decode cX7_find 39 = .ok (.ireturn, 1) := by decide +kernel
theorem dX7_branch_0 : decode cX7_branch 0 = .ok (.aload_n 0, 1) := by decide +kernel
theorem dX7_branch_1 : decode cX7_branch 1 = .ok (.iconst 0, 1) := by decide +kernel
theorem dX7_branch_2 : decode cX7_branch 2 = .ok (.iload_n 1, 1) := by decide +kernel
theorem dX7_branch_3 : decode cX7_branch 3 = .ok (.invokevirtual 28, 3) := by decide +kernel
theorem dX7_branch_6 : decode cX7_branch 6 = .ok (.istore_n 2, 1) := by decide +kernel
theorem dX7_branch_7 : decode cX7_branch 7 = .ok (.iload_n 2, 1) := by decide +kernel
theorem dX7_branch_8 : decode cX7_branch 8 = .ok (.ifCond .ge 7, 3) := by decide +kernel
theorem dX7_branch_11 : decode cX7_branch 11 = .ok (.iconst (-1), 1) := by decide +kernel
theorem dX7_branch_12 : decode cX7_branch 12 = .ok (.goto 9, 3) := by decide +kernel
theorem dX7_branch_15 : decode cX7_branch 15 = .ok (.aload_n 0, 1) := by decide +kernel
theorem dX7_branch_16 : decode cX7_branch 16 = .ok (.getfield 18, 3) := by decide +kernel
theorem dX7_branch_19 : decode cX7_branch 19 = .ok (.iload_n 2, 1) := by decide +kernel
theorem dX7_branch_20 : decode cX7_branch 20 = .ok (.iaload, 1) := by decide +kernel
theorem dX7_branch_21 : decode cX7_branch 21 = .ok (.ireturn, 1) := by decide +kernel
theorem dX7_take_0 : decode cX7_take 0 = .ok (.aload_n 0, 1) := by decide +kernel
theorem dX7_take_1 : decode cX7_take 1 = .ok (.getfield 9, 3) := by decide +kernel
theorem dX7_take_4 : decode cX7_take 4 = .ok (.iload_n 1, 1) := by decide +kernel
theorem dX7_take_5 : decode cX7_take 5 = .ok (.aload_n 2, 1) := by decide +kernel
theorem dX7_take_6 : decode cX7_take 6 = .ok (.getfield 9, 3) := by decide +kernel
theorem dX7_take_9 : decode cX7_take 9 = .ok (.iload_n 3, 1) := by decide +kernel
theorem dX7_take_10 : decode cX7_take 10 = .ok (.iaload, 1) := by decide +kernel
theorem dX7_take_11 : decode cX7_take 11 = .ok (.iastore, 1) := by decide +kernel
theorem dX7_take_12 : decode cX7_take 12 = .ok (.aload_n 0, 1) := by decide +kernel
theorem dX7_take_13 : decode cX7_take 13 = .ok (.getfield 15, 3) := by decide +kernel
theorem dX7_take_16 : decode cX7_take 16 = .ok (.iload_n 1, 1) := by decide +kernel
theorem dX7_take_17 : decode cX7_take 17 = .ok (.aload_n 2, 1) := by decide +kernel
theorem dX7_take_18 : decode cX7_take 18 = .ok (.getfield 15, 3) := by decide +kernel
theorem dX7_take_21 : decode cX7_take 21 = .ok (.iload_n 3, 1) := by decide +kernel
theorem dX7_take_22 : decode cX7_take 22 = .ok (.iaload, 1) := by decide +kernel
theorem dX7_take_23 : decode cX7_take 23 = .ok (.iastore, 1) := by decide +kernel
theorem dX7_take_24 : decode cX7_take 24 = .ok (.aload_n 0, 1) := by decide +kernel
theorem dX7_take_25 : decode cX7_take 25 = .ok (.getfield 18, 3) := by decide +kernel
theorem dX7_take_28 : decode cX7_take 28 = .ok (.iload_n 1, 1) := by decide +kernel
theorem dX7_take_29 : decode cX7_take 29 = .ok (.aload_n 2, 1) := by decide +kernel
theorem dX7_take_30 : decode cX7_take 30 = .ok (.getfield 18, 3) := by decide +kernel
theorem dX7_take_33 : decode cX7_take 33 = .ok (.iload_n 3, 1) := by decide +kernel
theorem dX7_take_34 : decode cX7_take 34 = .ok (.iaload, 1) := by decide +kernel
theorem dX7_take_35 : decode cX7_take 35 = .ok (.iastore, 1) := by decide +kernel
theorem dX7_take_36 : decode cX7_take 36 = .ok (.aload_n 0, 1) := by decide +kernel
theorem dX7_take_37 : decode cX7_take 37 = .ok (.getfield 21, 3) := by decide +kernel
theorem dX7_take_40 : decode cX7_take 40 = .ok (.iload_n 1, 1) := by decide +kernel
theorem dX7_take_41 : decode cX7_take 41 = .ok (.aload_n 2, 1) := by decide +kernel
theorem dX7_take_42 : decode cX7_take 42 = .ok (.getfield 21, 3) := by decide +kernel
theorem dX7_take_45 : decode cX7_take 45 = .ok (.iload_n 3, 1) := by decide +kernel
theorem dX7_take_46 : decode cX7_take 46 = .ok (.iaload, 1) := by decide +kernel
theorem dX7_take_47 : decode cX7_take 47 = .ok (.iastore, 1) := by decide +kernel
theorem dX7_take_48 : decode cX7_take 48 = .ok (.return_, 1) := by decide +kernel
theorem dX7_makeRoom_0 : decode cX7_makeRoom 0 = .ok (.aload_n 0, 1) := by decide +kernel
theorem dX7_makeRoom_1 : decode cX7_makeRoom 1 = .ok (.getfield 24, 3) := by decide +kernel
theorem dX7_makeRoom_4 : decode cX7_makeRoom 4 = .ok (.istore_n 2, 1) := by decide +kernel
theorem dX7_makeRoom_5 : decode cX7_makeRoom 5 = .ok (.iload_n 2, 1) := by decide +kernel
theorem dX7_makeRoom_6 : decode cX7_makeRoom 6 = .ok (.ifCond .le 42, 3) := by decide +kernel
theorem dX7_makeRoom_9 : decode cX7_makeRoom 9 = .ok (.aload_n 0, 1) := by decide +kernel
theorem dX7_makeRoom_10 : decode cX7_makeRoom 10 = .ok (.getfield 9, 3) := by decide +kernel
theorem dX7_makeRoom_13 : decode cX7_makeRoom 13 = .ok (.iload_n 2, 1) := by decide +kernel
theorem dX7_makeRoom_14 : decode cX7_makeRoom 14 = .ok (.iconst 1, 1) := by decide +kernel
theorem dX7_makeRoom_15 : decode cX7_makeRoom 15 = .ok (.isub, 1) := by decide +kernel
theorem dX7_makeRoom_16 : decode cX7_makeRoom 16 = .ok (.iaload, 1) := by decide +kernel
theorem dX7_makeRoom_17 : decode cX7_makeRoom 17 = .ok (.bipush 26, 2) := by decide +kernel
theorem dX7_makeRoom_19 : decode cX7_makeRoom 19 = .ok (.imul, 1) := by decide +kernel
theorem dX7_makeRoom_20 : decode cX7_makeRoom 20 = .ok (.aload_n 0, 1) := by decide +kernel
theorem dX7_makeRoom_21 : decode cX7_makeRoom 21 = .ok (.getfield 15, 3) := by decide +kernel
theorem dX7_makeRoom_24 : decode cX7_makeRoom 24 = .ok (.iload_n 2, 1) := by decide +kernel
theorem dX7_makeRoom_25 : decode cX7_makeRoom 25 = .ok (.iconst 1, 1) := by decide +kernel
theorem dX7_makeRoom_26 : decode cX7_makeRoom 26 = .ok (.isub, 1) := by decide +kernel
theorem dX7_makeRoom_27 : decode cX7_makeRoom 27 = .ok (.iaload, 1) := by decide +kernel
theorem dX7_makeRoom_28 : decode cX7_makeRoom 28 = .ok (.iadd, 1) := by decide +kernel
theorem dX7_makeRoom_29 : decode cX7_makeRoom 29 = .ok (.iload_n 1, 1) := by decide +kernel
theorem dX7_makeRoom_30 : decode cX7_makeRoom 30 = .ok (.if_icmp .le 18, 3) := by decide +kernel
theorem dX7_makeRoom_33 : decode cX7_makeRoom 33 = .ok (.aload_n 0, 1) := by decide +kernel
theorem dX7_makeRoom_34 : decode cX7_makeRoom 34 = .ok (.iload_n 2, 1) := by decide +kernel
theorem dX7_makeRoom_35 : decode cX7_makeRoom 35 = .ok (.aload_n 0, 1) := by decide +kernel
theorem dX7_makeRoom_36 : decode cX7_makeRoom 36 = .ok (.iload_n 2, 1) := by decide +kernel
theorem dX7_makeRoom_37 : decode cX7_makeRoom 37 = .ok (.iconst 1, 1) := by decide +kernel
theorem dX7_makeRoom_38 : decode cX7_makeRoom 38 = .ok (.isub, 1) := by decide +kernel
theorem dX7_makeRoom_39 : decode cX7_makeRoom 39 = .ok (.invokevirtual 36, 3) := by decide +kernel
theorem dX7_makeRoom_42 : decode cX7_makeRoom 42 = .ok (.iinc 2 (-1), 3) := by decide +kernel
theorem dX7_makeRoom_45 : decode cX7_makeRoom 45 = .ok (.goto (-40), 3) := by decide +kernel
theorem dX7_makeRoom_48 : decode cX7_makeRoom 48 = .ok (.aload_n 0, 1) := by decide +kernel
theorem dX7_makeRoom_49 : decode cX7_makeRoom 49 = .ok (.dup, 1) := by decide +kernel
theorem dX7_makeRoom_50 : decode cX7_makeRoom 50 = .ok (.getfield 24, 3) := by decide +kernel
theorem dX7_makeRoom_53 : decode cX7_makeRoom 53 = .ok (.iconst 1, 1) := by decide +kernel
theorem dX7_makeRoom_54 : decode cX7_makeRoom 54 = .ok (.iadd, 1) := by decide +kernel
theorem dX7_makeRoom_55 : decode cX7_makeRoom 55 = .ok (.putfield 24, 3) := by decide +kernel
theorem dX7_makeRoom_58 : decode cX7_makeRoom 58 = .ok (.iload_n 2, 1) := by decide +kernel
theorem dX7_makeRoom_59 : decode cX7_makeRoom 59 = .ok (.ireturn, 1) := by decide +kernel
theorem dX7_lay_0 : decode cX7_lay 0 = .ok (.aload_n 0, 1) := by decide +kernel
theorem dX7_lay_1 : decode cX7_lay 1 = .ok (.iload_n 1, 1) := by decide +kernel
theorem dX7_lay_2 : decode cX7_lay 2 = .ok (.iload_n 2, 1) := by decide +kernel
theorem dX7_lay_3 : decode cX7_lay 3 = .ok (.invokevirtual 28, 3) := by decide +kernel
theorem dX7_lay_6 : decode cX7_lay 6 = .ok (.istore 5, 2) := by decide +kernel
theorem dX7_lay_8 : decode cX7_lay 8 = .ok (.iload 5, 2) := by decide +kernel
theorem dX7_lay_10 : decode cX7_lay 10 = .ok (.ifCond .ge 44, 3) := by decide +kernel
theorem dX7_lay_13 : decode cX7_lay 13 = .ok (.aload_n 0, 1) := by decide +kernel
theorem dX7_lay_14 : decode cX7_lay 14 = .ok (.getfield 24, 3) := by decide +kernel
theorem dX7_lay_17 : decode cX7_lay 17 = .ok (.aload_n 0, 1) := by decide +kernel
theorem dX7_lay_18 : decode cX7_lay 18 = .ok (.getfield 9, 3) := by decide +kernel
theorem dX7_lay_21 : decode cX7_lay 21 = .ok (.arraylength, 1) := by decide +kernel
theorem dX7_lay_22 : decode cX7_lay 22 = .ok (.if_icmp .lt 4, 3) := by decide +kernel
theorem dX7_lay_25 : decode cX7_lay 25 = .ok (.return_, 1) := by decide +kernel
theorem dX7_lay_26 : decode cX7_lay 26 = .ok (.aload_n 0, 1) := by decide +kernel
theorem dX7_lay_27 : decode cX7_lay 27 = .ok (.iload_n 1, 1) := by decide +kernel
theorem dX7_lay_28 : decode cX7_lay 28 = .ok (.bipush 26, 2) := by decide +kernel
theorem dX7_lay_30 : decode cX7_lay 30 = .ok (.imul, 1) := by decide +kernel
theorem dX7_lay_31 : decode cX7_lay 31 = .ok (.iload_n 2, 1) := by decide +kernel
theorem dX7_lay_32 : decode cX7_lay 32 = .ok (.iadd, 1) := by decide +kernel
theorem dX7_lay_33 : decode cX7_lay 33 = .ok (.invokevirtual 32, 3) := by decide +kernel
theorem dX7_lay_36 : decode cX7_lay 36 = .ok (.istore 5, 2) := by decide +kernel
theorem dX7_lay_38 : decode cX7_lay 38 = .ok (.aload_n 0, 1) := by decide +kernel
theorem dX7_lay_39 : decode cX7_lay 39 = .ok (.getfield 9, 3) := by decide +kernel
theorem dX7_lay_42 : decode cX7_lay 42 = .ok (.iload 5, 2) := by decide +kernel
theorem dX7_lay_44 : decode cX7_lay 44 = .ok (.iload_n 1, 1) := by decide +kernel
theorem dX7_lay_45 : decode cX7_lay 45 = .ok (.iastore, 1) := by decide +kernel
theorem dX7_lay_46 : decode cX7_lay 46 = .ok (.aload_n 0, 1) := by decide +kernel
theorem dX7_lay_47 : decode cX7_lay 47 = .ok (.getfield 15, 3) := by decide +kernel
theorem dX7_lay_50 : decode cX7_lay 50 = .ok (.iload 5, 2) := by decide +kernel
theorem dX7_lay_52 : decode cX7_lay 52 = .ok (.iload_n 2, 1) := by decide +kernel
theorem dX7_lay_53 : decode cX7_lay 53 = .ok (.iastore, 1) := by decide +kernel
theorem dX7_lay_54 : decode cX7_lay 54 = .ok (.aload_n 0, 1) := by decide +kernel
theorem dX7_lay_55 : decode cX7_lay 55 = .ok (.getfield 18, 3) := by decide +kernel
theorem dX7_lay_58 : decode cX7_lay 58 = .ok (.iload 5, 2) := by decide +kernel
theorem dX7_lay_60 : decode cX7_lay 60 = .ok (.iload_n 3, 1) := by decide +kernel
theorem dX7_lay_61 : decode cX7_lay 61 = .ok (.iastore, 1) := by decide +kernel
theorem dX7_lay_62 : decode cX7_lay 62 = .ok (.aload_n 0, 1) := by decide +kernel
theorem dX7_lay_63 : decode cX7_lay 63 = .ok (.getfield 21, 3) := by decide +kernel
theorem dX7_lay_66 : decode cX7_lay 66 = .ok (.iload 5, 2) := by decide +kernel
theorem dX7_lay_68 : decode cX7_lay 68 = .ok (.iload 4, 2) := by decide +kernel
theorem dX7_lay_70 : decode cX7_lay 70 = .ok (.iastore, 1) := by decide +kernel
theorem dX7_lay_71 : decode cX7_lay 71 = .ok (.return_, 1) := by decide +kernel
theorem dX7_remove_0 : decode cX7_remove 0 = .ok (.aload_n 0, 1) := by decide +kernel
theorem dX7_remove_1 : decode cX7_remove 1 = .ok (.iload_n 1, 1) := by decide +kernel
theorem dX7_remove_2 : decode cX7_remove 2 = .ok (.iload_n 2, 1) := by decide +kernel
theorem dX7_remove_3 : decode cX7_remove 3 = .ok (.invokevirtual 28, 3) := by decide +kernel
theorem dX7_remove_6 : decode cX7_remove 6 = .ok (.istore_n 3, 1) := by decide +kernel
theorem dX7_remove_7 : decode cX7_remove 7 = .ok (.iload_n 3, 1) := by decide +kernel
theorem dX7_remove_8 : decode cX7_remove 8 = .ok (.ifCond .ge 4, 3) := by decide +kernel
theorem dX7_remove_11 : decode cX7_remove 11 = .ok (.return_, 1) := by decide +kernel
theorem dX7_remove_12 : decode cX7_remove 12 = .ok (.iload_n 3, 1) := by decide +kernel
theorem dX7_remove_13 : decode cX7_remove 13 = .ok (.istore 4, 2) := by decide +kernel
theorem dX7_remove_15 : decode cX7_remove 15 = .ok (.iload 4, 2) := by decide +kernel
theorem dX7_remove_17 : decode cX7_remove 17 = .ok (.iconst 1, 1) := by decide +kernel
theorem dX7_remove_18 : decode cX7_remove 18 = .ok (.iadd, 1) := by decide +kernel
theorem dX7_remove_19 : decode cX7_remove 19 = .ok (.aload_n 0, 1) := by decide +kernel
theorem dX7_remove_20 : decode cX7_remove 20 = .ok (.getfield 24, 3) := by decide +kernel
theorem dX7_remove_23 : decode cX7_remove 23 = .ok (.if_icmp .ge 20, 3) := by decide +kernel
theorem dX7_remove_26 : decode cX7_remove 26 = .ok (.aload_n 0, 1) := by decide +kernel
theorem dX7_remove_27 : decode cX7_remove 27 = .ok (.iload 4, 2) := by decide +kernel
theorem dX7_remove_29 : decode cX7_remove 29 = .ok (.aload_n 0, 1) := by decide +kernel
theorem dX7_remove_30 : decode cX7_remove 30 = .ok (.iload 4, 2) := by decide +kernel
theorem dX7_remove_32 : decode cX7_remove 32 = .ok (.iconst 1, 1) := by decide +kernel
theorem dX7_remove_33 : decode cX7_remove 33 = .ok (.iadd, 1) := by decide +kernel
theorem dX7_remove_34 : decode cX7_remove 34 = .ok (.invokevirtual 36, 3) := by decide +kernel
theorem dX7_remove_37 : decode cX7_remove 37 = .ok (.iinc 4 1, 3) := by decide +kernel
theorem dX7_remove_40 : decode cX7_remove 40 = .ok (.goto (-25), 3) := by decide +kernel
theorem dX7_remove_43 : decode cX7_remove 43 = .ok (.aload_n 0, 1) := by decide +kernel
theorem dX7_remove_44 : decode cX7_remove 44 = .ok (.dup, 1) := by decide +kernel
theorem dX7_remove_45 : decode cX7_remove 45 = .ok (.getfield 24, 3) := by decide +kernel
theorem dX7_remove_48 : decode cX7_remove 48 = .ok (.iconst 1, 1) := by decide +kernel
theorem dX7_remove_49 : decode cX7_remove 49 = .ok (.isub, 1) := by decide +kernel
theorem dX7_remove_50 : decode cX7_remove 50 = .ok (.putfield 24, 3) := by decide +kernel
theorem dX7_remove_53 : decode cX7_remove 53 = .ok (.return_, 1) := by decide +kernel
theorem dX7_removeLaidBy_0 : decode cX7_removeLaidBy 0 = .ok (.iconst 0, 1) := by decide +kernel
theorem dX7_removeLaidBy_1 : decode cX7_removeLaidBy 1 = .ok (.istore_n 2, 1) := by decide +kernel
theorem dX7_removeLaidBy_2 : decode cX7_removeLaidBy 2 = .ok (.iconst 0, 1) := by decide +kernel
theorem dX7_removeLaidBy_3 : decode cX7_removeLaidBy 3 = .ok (.istore_n 3, 1) := by decide +kernel
theorem dX7_removeLaidBy_4 : decode cX7_removeLaidBy 4 = .ok (.iload_n 3, 1) := by decide +kernel
theorem dX7_removeLaidBy_5 : decode cX7_removeLaidBy 5 = .ok (.aload_n 0, 1) := by decide +kernel
theorem dX7_removeLaidBy_6 : decode cX7_removeLaidBy 6 = .ok (.getfield 24, 3) := by decide +kernel
theorem dX7_removeLaidBy_9 : decode cX7_removeLaidBy 9 = .ok (.if_icmp .ge 29, 3) := by decide +kernel
theorem dX7_removeLaidBy_12 : decode cX7_removeLaidBy 12 = .ok (.aload_n 0, 1) := by decide +kernel
theorem dX7_removeLaidBy_13 : decode cX7_removeLaidBy 13 = .ok (.getfield 21, 3) := by decide +kernel
theorem dX7_removeLaidBy_16 : decode cX7_removeLaidBy 16 = .ok (.iload_n 3, 1) := by decide +kernel
theorem dX7_removeLaidBy_17 : decode cX7_removeLaidBy 17 = .ok (.iaload, 1) := by decide +kernel
theorem dX7_removeLaidBy_18 : decode cX7_removeLaidBy 18 = .ok (.iload_n 1, 1) := by decide +kernel
theorem dX7_removeLaidBy_19 : decode cX7_removeLaidBy 19 = .ok (.if_icmp .eq 13, 3) := by decide +kernel
theorem dX7_removeLaidBy_22 : decode cX7_removeLaidBy 22 = .ok (.aload_n 0, 1) := by decide +kernel
theorem dX7_removeLaidBy_23 : decode cX7_removeLaidBy 23 = .ok (.iload_n 2, 1) := by decide +kernel
theorem dX7_removeLaidBy_24 : decode cX7_removeLaidBy 24 = .ok (.aload_n 0, 1) := by decide +kernel
theorem dX7_removeLaidBy_25 : decode cX7_removeLaidBy 25 = .ok (.iload_n 3, 1) := by decide +kernel
theorem dX7_removeLaidBy_26 : decode cX7_removeLaidBy 26 = .ok (.invokevirtual 36, 3) := by decide +kernel
theorem dX7_removeLaidBy_29 : decode cX7_removeLaidBy 29 = .ok (.iinc 2 1, 3) := by decide +kernel
theorem dX7_removeLaidBy_32 : decode cX7_removeLaidBy 32 = .ok (.iinc 3 1, 3) := by decide +kernel
theorem dX7_removeLaidBy_35 : decode cX7_removeLaidBy 35 = .ok (.goto (-31), 3) := by decide +kernel
theorem dX7_removeLaidBy_38 : decode cX7_removeLaidBy 38 = .ok (.aload_n 0, 1) := by decide +kernel
theorem dX7_removeLaidBy_39 : decode cX7_removeLaidBy 39 = .ok (.iload_n 2, 1) := by decide +kernel
theorem dX7_removeLaidBy_40 : decode cX7_removeLaidBy 40 = .ok (.putfield 24, 3) := by decide +kernel
theorem dX7_removeLaidBy_43 : decode cX7_removeLaidBy 43 = .ok (.return_, 1) := by decide +kernel
theorem dX7_copy_0 : decode cX7_copy 0 = .ok (.aload_n 0, 1) := by decide +kernel
theorem dX7_copy_1 : decode cX7_copy 1 = .ok (.aload_n 1, 1) := by decide +kernel
theorem dX7_copy_2 : decode cX7_copy 2 = .ok (.getfield 24, 3) := by decide +kernel
theorem dX7_copy_5 : decode cX7_copy 5 = .ok (.putfield 24, 3) := by decide +kernel
theorem dX7_copy_8 : decode cX7_copy 8 = .ok (.iconst 0, 1) := by decide +kernel
theorem dX7_copy_9 : decode cX7_copy 9 = .ok (.istore_n 2, 1) := by decide +kernel
theorem dX7_copy_10 : decode cX7_copy 10 = .ok (.iload_n 2, 1) := by decide +kernel
theorem dX7_copy_11 : decode cX7_copy 11 = .ok (.aload_n 0, 1) := by decide +kernel
theorem dX7_copy_12 : decode cX7_copy 12 = .ok (.getfield 24, 3) := by decide +kernel
theorem dX7_copy_15 : decode cX7_copy 15 = .ok (.if_icmp .ge 16, 3) := by decide +kernel
theorem dX7_copy_18 : decode cX7_copy 18 = .ok (.aload_n 0, 1) := by decide +kernel
theorem dX7_copy_19 : decode cX7_copy 19 = .ok (.iload_n 2, 1) := by decide +kernel
theorem dX7_copy_20 : decode cX7_copy 20 = .ok (.aload_n 1, 1) := by decide +kernel
theorem dX7_copy_21 : decode cX7_copy 21 = .ok (.iload_n 2, 1) := by decide +kernel
theorem dX7_copy_22 : decode cX7_copy 22 = .ok (.invokevirtual 36, 3) := by decide +kernel
theorem dX7_copy_25 : decode cX7_copy 25 = .ok (.iinc 2 1, 3) := by decide +kernel
theorem dX7_copy_28 : decode cX7_copy 28 = .ok (.goto (-18), 3) := by decide +kernel
theorem dX7_copy_31 : decode cX7_copy 31 = .ok (.return_, 1) := by decide +kernel
theorem dX7_missesOf_0 : decode cX7_missesOf 0 = .ok (.iconst 0, 1) := by decide +kernel
theorem dX7_missesOf_1 : decode cX7_missesOf 1 = .ok (.istore_n 2, 1) := by decide +kernel
theorem dX7_missesOf_2 : decode cX7_missesOf 2 = .ok (.iconst 0, 1) := by decide +kernel
theorem dX7_missesOf_3 : decode cX7_missesOf 3 = .ok (.istore_n 3, 1) := by decide +kernel
theorem dX7_missesOf_4 : decode cX7_missesOf 4 = .ok (.iload_n 3, 1) := by decide +kernel
theorem dX7_missesOf_5 : decode cX7_missesOf 5 = .ok (.aload_n 0, 1) := by decide +kernel
theorem dX7_missesOf_6 : decode cX7_missesOf 6 = .ok (.getfield 24, 3) := by decide +kernel
theorem dX7_missesOf_9 : decode cX7_missesOf 9 = .ok (.if_icmp .ge 51, 3) := by decide +kernel
theorem dX7_missesOf_12 : decode cX7_missesOf 12 = .ok (.aload_n 1, 1) := by decide +kernel
theorem dX7_missesOf_13 : decode cX7_missesOf 13 = .ok (.aload_n 0, 1) := by decide +kernel
theorem dX7_missesOf_14 : decode cX7_missesOf 14 = .ok (.getfield 9, 3) := by decide +kernel
theorem dX7_missesOf_17 : decode cX7_missesOf 17 = .ok (.iload_n 3, 1) := by decide +kernel
theorem dX7_missesOf_18 : decode cX7_missesOf 18 = .ok (.iaload, 1) := by decide +kernel
theorem dX7_missesOf_19 : decode cX7_missesOf 19 = .ok (.aload_n 0, 1) := by decide +kernel
theorem dX7_missesOf_20 : decode cX7_missesOf 20 = .ok (.getfield 15, 3) := by decide +kernel
theorem dX7_missesOf_23 : decode cX7_missesOf 23 = .ok (.iload_n 3, 1) := by decide +kernel
theorem dX7_missesOf_24 : decode cX7_missesOf 24 = .ok (.iaload, 1) := by decide +kernel
theorem dX7_missesOf_25 : decode cX7_missesOf 25 = .ok (.invokevirtual 28, 3) := by decide +kernel
theorem dX7_missesOf_28 : decode cX7_missesOf 28 = .ok (.istore 4, 2) := by decide +kernel
theorem dX7_missesOf_30 : decode cX7_missesOf 30 = .ok (.iload 4, 2) := by decide +kernel
theorem dX7_missesOf_32 : decode cX7_missesOf 32 = .ok (.ifCond .lt 19, 3) := by decide +kernel
theorem dX7_missesOf_35 : decode cX7_missesOf 35 = .ok (.aload_n 1, 1) := by decide +kernel
theorem dX7_missesOf_36 : decode cX7_missesOf 36 = .ok (.getfield 18, 3) := by decide +kernel
theorem dX7_missesOf_39 : decode cX7_missesOf 39 = .ok (.iload 4, 2) := by decide +kernel
theorem dX7_missesOf_41 : decode cX7_missesOf 41 = .ok (.iaload, 1) := by decide +kernel
theorem dX7_missesOf_42 : decode cX7_missesOf 42 = .ok (.aload_n 0, 1) := by decide +kernel
theorem dX7_missesOf_43 : decode cX7_missesOf 43 = .ok (.getfield 18, 3) := by decide +kernel
theorem dX7_missesOf_46 : decode cX7_missesOf 46 = .ok (.iload_n 3, 1) := by decide +kernel
theorem dX7_missesOf_47 : decode cX7_missesOf 47 = .ok (.iaload, 1) := by decide +kernel
theorem dX7_missesOf_48 : decode cX7_missesOf 48 = .ok (.if_icmp .eq 6, 3) := by decide +kernel
theorem dX7_missesOf_51 : decode cX7_missesOf 51 = .ok (.iinc 2 1, 3) := by decide +kernel
theorem dX7_missesOf_54 : decode cX7_missesOf 54 = .ok (.iinc 3 1, 3) := by decide +kernel
theorem dX7_missesOf_57 : decode cX7_missesOf 57 = .ok (.goto (-53), 3) := by decide +kernel
theorem dX7_missesOf_60 : decode cX7_missesOf 60 = .ok (.iload_n 2, 1) := by decide +kernel
theorem dX7_missesOf_61 : decode cX7_missesOf 61 = .ok (.ireturn, 1) := by decide +kernel
theorem dX7_movesOf_0 : decode cX7_movesOf 0 = .ok (.iconst 0, 1) := by decide +kernel
theorem dX7_movesOf_1 : decode cX7_movesOf 1 = .ok (.istore_n 2, 1) := by decide +kernel
theorem dX7_movesOf_2 : decode cX7_movesOf 2 = .ok (.iconst 0, 1) := by decide +kernel
theorem dX7_movesOf_3 : decode cX7_movesOf 3 = .ok (.istore_n 3, 1) := by decide +kernel
theorem dX7_movesOf_4 : decode cX7_movesOf 4 = .ok (.iload_n 3, 1) := by decide +kernel
theorem dX7_movesOf_5 : decode cX7_movesOf 5 = .ok (.aload_n 0, 1) := by decide +kernel
theorem dX7_movesOf_6 : decode cX7_movesOf 6 = .ok (.getfield 24, 3) := by decide +kernel
theorem dX7_movesOf_9 : decode cX7_movesOf 9 = .ok (.if_icmp .ge 51, 3) := by decide +kernel
theorem dX7_movesOf_12 : decode cX7_movesOf 12 = .ok (.aload_n 1, 1) := by decide +kernel
theorem dX7_movesOf_13 : decode cX7_movesOf 13 = .ok (.aload_n 0, 1) := by decide +kernel
theorem dX7_movesOf_14 : decode cX7_movesOf 14 = .ok (.getfield 9, 3) := by decide +kernel
theorem dX7_movesOf_17 : decode cX7_movesOf 17 = .ok (.iload_n 3, 1) := by decide +kernel
theorem dX7_movesOf_18 : decode cX7_movesOf 18 = .ok (.iaload, 1) := by decide +kernel
theorem dX7_movesOf_19 : decode cX7_movesOf 19 = .ok (.aload_n 0, 1) := by decide +kernel
theorem dX7_movesOf_20 : decode cX7_movesOf 20 = .ok (.getfield 15, 3) := by decide +kernel
theorem dX7_movesOf_23 : decode cX7_movesOf 23 = .ok (.iload_n 3, 1) := by decide +kernel
theorem dX7_movesOf_24 : decode cX7_movesOf 24 = .ok (.iaload, 1) := by decide +kernel
theorem dX7_movesOf_25 : decode cX7_movesOf 25 = .ok (.invokevirtual 28, 3) := by decide +kernel
theorem dX7_movesOf_28 : decode cX7_movesOf 28 = .ok (.istore 4, 2) := by decide +kernel
theorem dX7_movesOf_30 : decode cX7_movesOf 30 = .ok (.iload 4, 2) := by decide +kernel
theorem dX7_movesOf_32 : decode cX7_movesOf 32 = .ok (.ifCond .lt 22, 3) := by decide +kernel
theorem dX7_movesOf_35 : decode cX7_movesOf 35 = .ok (.aload_n 1, 1) := by decide +kernel
theorem dX7_movesOf_36 : decode cX7_movesOf 36 = .ok (.getfield 18, 3) := by decide +kernel
theorem dX7_movesOf_39 : decode cX7_movesOf 39 = .ok (.iload 4, 2) := by decide +kernel
theorem dX7_movesOf_41 : decode cX7_movesOf 41 = .ok (.iaload, 1) := by decide +kernel
theorem dX7_movesOf_42 : decode cX7_movesOf 42 = .ok (.aload_n 0, 1) := by decide +kernel
theorem dX7_movesOf_43 : decode cX7_movesOf 43 = .ok (.getfield 18, 3) := by decide +kernel
theorem dX7_movesOf_46 : decode cX7_movesOf 46 = .ok (.iload_n 3, 1) := by decide +kernel
theorem dX7_movesOf_47 : decode cX7_movesOf 47 = .ok (.iaload, 1) := by decide +kernel
theorem dX7_movesOf_48 : decode cX7_movesOf 48 = .ok (.if_icmp .eq 6, 3) := by decide +kernel
theorem dX7_movesOf_51 : decode cX7_movesOf 51 = .ok (.iinc 2 1, 3) := by decide +kernel
theorem dX7_movesOf_54 : decode cX7_movesOf 54 = .ok (.iinc 3 1, 3) := by decide +kernel
theorem dX7_movesOf_57 : decode cX7_movesOf 57 = .ok (.goto (-53), 3) := by decide +kernel
theorem dX7_movesOf_60 : decode cX7_movesOf 60 = .ok (.iload_n 2, 1) := by decide +kernel
theorem dX7_movesOf_61 : decode cX7_movesOf 61 = .ok (.ireturn, 1) := by decide +kernel
abbrev rF : Type := Int × Int × Int × Int
def rG (M : gM) (a q : Int) : rF := (M (a + 1) q, M (a + 2) q, M (a + 3) q, M (a + 4) q)
def rSh (sh : gS) (a : Int) : Prop := gsh sh a = some (0, 8) ∧ gsh sh (a + 1) = some (1, 16) ∧ gsh sh (a + 2) = some (1, 16) ∧ gsh sh (a + 3) = some (1, 16) ∧ gsh sh (a + 4) = some (1, 16) ∧ a < 758
def rRng (x : rF) : Prop := 0 ≤ x.1 ∧ x.1 ≤ 1 ∧ 0 ≤ x.2.1 ∧ x.2.1 ≤ 25
def rOk (sh : gS) (M : gM) (a : Int) (rs : List rF) : Prop := rSh sh a ∧ rs.length ≤ 16 ∧ M a 0 = (rs.length : Int) ∧ rw_ (rG M a) 0 rs
def rOrd (x : rF) : Int := x.1 * 26 + x.2.1
def rFind (k l : Int) : List rF → Int → Int
  | [], _ => -1
  | f :: r, i => if f.1 = k ∧ f.2.1 = l then i else rFind k l r (i + 1)
def rGet (k l : Int) : List rF → Option Int
  | [] => none
  | f :: r => if f.1 = k ∧ f.2.1 = l then some f.2.2.1 else rGet k l r
def rRem (k l : Int) : List rF → List rF
  | [] => []
  | f :: r => if f.1 = k ∧ f.2.1 = l then r else f :: rRem k l r
def rSet (k l c p : Int) : List rF → List rF
  | [] => []
  | f :: r => if f.1 = k ∧ f.2.1 = l then (k, l, c, p) :: r else f :: rSet k l c p r
def rIns (x : rF) : List rF → List rF
  | [] => [x]
  | f :: r => if rOrd x < rOrd f then x :: f :: r else f :: rIns x r
def rLay (k l c p : Int) (rs : List rF) : List rF := if rGet k l rs = none then rIns (k, l, c, p) rs else rSet k l c p rs
theorem rFind_sp (k l : Int) : ∀ (ps : List rF) (i : Int), (rFind k l ps i = -1 ∧ rGet k l ps = none ∧ ∀ f ∈ ps, ¬ (f.1 = k ∧ f.2.1 = l)) ∨ (∃ (pre suf : List rF) (c p : Int), ps = pre ++ (k, l, c, p) :: suf ∧ rFind k l ps i = i + (pre.length : Int) ∧ rGet k l ps = some c ∧ rRem k l ps = pre ++ suf ∧ ∀ c2 p2, rSet k l c2 p2 ps = pre ++ (k, l, c2, p2) :: suf)
  | [], i => Or.inl ⟨rfl, rfl, fun f hf => by cases hf⟩
  | g :: r, i => by
    unfold rFind rGet rRem rSet
    by_cases h : g.1 = k ∧ g.2.1 = l
    · simp only [if_pos h]
      exact Or.inr ⟨[], r, g.2.2.1, g.2.2.2, by rw [← h.1, ← h.2]; rfl, by simp, rfl, rfl, fun _ _ => rfl⟩
    · simp only [if_neg h]
      rcases rFind_sp k l r (i + 1) with ⟨z1, z2, z3⟩ | ⟨pre, suf, c, p, a, b, d, e, f⟩
      · refine Or.inl ⟨z1, z2, fun f hf => ?_⟩
        rcases List.mem_cons.mp hf with rfl | q
        · exact h
        · exact z3 f q
      · exact Or.inr ⟨g :: pre, suf, c, p, by rw [a]; rfl, by rw [b]; simp only [List.length_cons]; omega, d, by rw [e]; rfl, fun c2 p2 => by rw [f]; rfl⟩
theorem rG_1 {M : gM} {a q : Int} {f : rF} (h : rG M a q = f) : M (a + 1) q = f.1 ∧ M (a + 2) q = f.2.1 ∧ M (a + 3) q = f.2.2.1 ∧ M (a + 4) q = f.2.2.2 := by subst h; exact ⟨rfl, rfl, rfl, rfl⟩
theorem sp_X7_find {sh : gS} {M : gM} {t u v : Int} {rs : List rF} (hOK : gOK sh M) (hT : rOk sh M t rs) :
    gC (gr 0 0) yX7_find cX7_find 4 (some (.int)) [(4, t), (0, u), (0, v)] sh M (gPp sh M (0, rFind u v rs 0)) := by
  obtain ⟨⟨hs0, hs1, hs2, hs3, hs4, hlt⟩, hl, hc, hR⟩ := hT
  refine gC_ofA (lv := [_, _, _, _]) (by decide +kernel) (Nat.le_of_ble_eq_true rfl) rfl (fun hMw hav => ?_)
  have lp : ∀ (suf : List rF) (i : Int), 0 ≤ i → M t 0 = i + (suf.length : Int) → rw_ (rG M t) i suf → rFind u v suf i = rFind u v rs 0 →
      gA (gr 0 0) yX7_find cX7_find 4 (some (.int)) (gPp sh M (0, rFind u v rs 0)) (0, 0) 2 [(4, t), (0, u), (0, v), (0, i)] [] sh M := by
    intro suf
    induction suf with
    | nil =>
      intro i h0 hS hg hv
      simp only [List.length_nil] at hS
      refine g_iload_n (q0 := 3) (j := 3) rfl dX7_find_2 rfl ?_
      refine g_aload_n (q0 := 4) (j := 0) rfl dX7_find_3 rfl ?_
      refine g_getf (q0 := 7) (t := 0) (fi := 0) rfl rfl ff_X7_24 dX7_find_4 rfl (by assumption) ?_
      refine g_icmp_ge (q0 := 10) (tgt := 38) rfl dX7_find_7 (by decide) (fun h7 => ?_) (fun h7 => ?_)
      · refine g_iconst (q0 := 39) rfl dX7_find_38 (k := ?_)
        refine g_ireturn dX7_find_39 rfl ⟨Nat.zero_le _, Nat.zero_le _⟩ ?_
        exact ⟨by rw [← hv]; rfl, rfl, rfl⟩
      · omega
    | cons f r ih =>
      intro i h0 hS hg hv
      simp only [List.length_cons] at hS
      obtain ⟨g0, g1⟩ := rw_cons hg
      obtain ⟨k1, k2, k3, k4⟩ := rG_1 g0
      rw [rFind] at hv
      refine g_iload_n (q0 := 3) (j := 3) rfl dX7_find_2 rfl ?_
      refine g_aload_n (q0 := 4) (j := 0) rfl dX7_find_3 rfl ?_
      refine g_getf (q0 := 7) (t := 0) (fi := 0) rfl rfl ff_X7_24 dX7_find_4 rfl (by assumption) ?_
      refine g_icmp_ge (q0 := 10) (tgt := 38) rfl dX7_find_7 (by decide) (fun h7 => ?_) (fun h7 => ?_)
      · omega
      · refine g_aload_n (q0 := 11) (j := 0) rfl dX7_find_10 rfl ?_
        refine g_getp (q0 := 14) (b := t + 1) rfl ff_X7_9 dX7_find_11 rfl hOK (by omega) (by assumption) rfl rfl ?_
        refine g_iload_n (q0 := 15) (j := 3) rfl dX7_find_14 rfl ?_
        refine g_iald (q0 := 16) rfl dX7_find_15 (by assumption) (by omega) (by omega) ?_
        refine g_iload_n (q0 := 17) (j := 1) rfl dX7_find_16 rfl ?_
        refine g_icmp_ne (q0 := 20) (tgt := 32) rfl dX7_find_17 (by decide) (fun h17 => ?_) (fun h17 => ?_)
        · rw [k1] at h17
          rw [if_neg (fun e => h17 e.1)] at hv
          refine g_iinc (q0 := 35) (lv2 := [_, _, _, _]) rfl dX7_find_32 rfl (by decide) rfl rfl (by omega) (by omega) ?_
          refine g_goto (tgt := 2) dX7_find_35 (by decide) ?_
          exact ih (i + 1) (by omega) (by omega) g1 hv
        · rw [k1] at h17
          refine g_aload_n (q0 := 21) (j := 0) rfl dX7_find_20 rfl ?_
          refine g_getp (q0 := 24) (b := t + 2) rfl ff_X7_15 dX7_find_21 rfl hOK (by omega) (by assumption) rfl rfl ?_
          refine g_iload_n (q0 := 25) (j := 3) rfl dX7_find_24 rfl ?_
          refine g_iald (q0 := 26) rfl dX7_find_25 (by assumption) (by omega) (by omega) ?_
          refine g_iload_n (q0 := 27) (j := 2) rfl dX7_find_26 rfl ?_
          refine g_icmp_ne (q0 := 30) (tgt := 32) rfl dX7_find_27 (by decide) (fun h27 => ?_) (fun h27 => ?_)
          · rw [k2] at h27
            rw [if_neg (fun e => h27 e.2)] at hv
            refine g_iinc (q0 := 35) (lv2 := [_, _, _, _]) rfl dX7_find_32 rfl (by decide) rfl rfl (by omega) (by omega) ?_
            refine g_goto (tgt := 2) dX7_find_35 (by decide) ?_
            exact ih (i + 1) (by omega) (by omega) g1 hv
          · rw [k2] at h27
            rw [if_pos ⟨h17, h27⟩] at hv
            refine g_iload_n (q0 := 31) (j := 3) rfl dX7_find_30 rfl ?_
            refine g_ireturn dX7_find_31 rfl ⟨Nat.zero_le _, Nat.zero_le _⟩ ?_
            exact ⟨by rw [← hv], rfl, rfl⟩
  refine g_iconst (q0 := 1) rfl dX7_find_0 (k := ?_)
  refine g_istore_n (q0 := 2) (j := 3) (lv2 := [_, _, _, _]) rfl dX7_find_1 (by decide) rfl rfl ?_
  exact lp rs 0 (by omega) (by omega) hR rfl
theorem sp_X7_branch {sh : gS} {M : gM} {t v : Int} {rs : List rF} (hOK : gOK sh M) (hT : rOk sh M t rs) :
    gC (gr 1 23) yX7_branch cX7_branch 3 (some (.int)) [(4, t), (0, v)] sh M (gPp sh M (0, (rGet 0 v rs).getD (-1))) := by
  have hT0 := hT
  obtain ⟨⟨hs0, hs1, hs2, hs3, hs4, hlt⟩, hl, hc, hR⟩ := hT
  refine gC_ofA (lv := [_, _, _]) (by decide +kernel) (Nat.le_of_ble_eq_true rfl) rfl (fun hMw hav => ?_)
  refine g_aload_n (q0 := 1) (j := 0) rfl dX7_branch_0 rfl ?_
  refine g_iconst (q0 := 2) rfl dX7_branch_1 (k := ?_)
  refine g_iload_n (q0 := 3) (j := 1) rfl dX7_branch_2 rfl ?_
  refine g_callVp (as := [_, _]) (rest := []) mt_X7_find mi_X7_find se_X7_find ml_X7_28 dX7_branch_3 (q0 := 6) rfl rfl (by assumption) rfl rfl (sp_X7_find hOK hT0) rfl ⟨by decide, by decide⟩ (Nat.le_of_ble_eq_true rfl) ⟨Nat.zero_le _, Nat.zero_le _⟩ (fun hwc => ?_)
  rcases rFind_sp 0 v rs 0 with ⟨a, b, -⟩ | ⟨pre, suf, c, p, a, b, d, -, -⟩
  · rw [a, b]
    refine g_istore_n (q0 := 7) (j := 2) (lv2 := [_, _, _]) rfl dX7_branch_6 (by decide) rfl rfl ?_
    refine g_iload_n (q0 := 8) (j := 2) rfl dX7_branch_7 rfl ?_
    refine g_if_ge (q0 := 11) (tgt := 15) rfl dX7_branch_8 (by decide) (fun h8 => ?_) (fun h8 => ?_)
    · omega
    · refine g_iconst (q0 := 12) rfl dX7_branch_11 (k := ?_)
      refine g_goto (tgt := 21) dX7_branch_12 (by decide) ?_
      refine g_ireturn dX7_branch_21 rfl ⟨Nat.zero_le _, Nat.zero_le _⟩ ?_
      exact ⟨rfl, rfl, rfl⟩
  · rw [b, d]
    have hlen : (rs.length : Int) = (pre.length : Int) + (suf.length : Int) + 1 := by rw [a]; simp; omega
    rw [a] at hR
    have g0 := rG_1 (rw_cons (rw_app hR).2).1
    refine g_istore_n (q0 := 7) (j := 2) (lv2 := [_, _, _]) rfl dX7_branch_6 (by decide) rfl rfl ?_
    refine g_iload_n (q0 := 8) (j := 2) rfl dX7_branch_7 rfl ?_
    refine g_if_ge (q0 := 11) (tgt := 15) rfl dX7_branch_8 (by decide) (fun h8 => ?_) (fun h8 => ?_)
    · refine g_aload_n (q0 := 16) (j := 0) rfl dX7_branch_15 rfl ?_
      refine g_getp (q0 := 19) (b := t + 3) rfl ff_X7_18 dX7_branch_16 rfl hOK (by omega) (by assumption) rfl rfl ?_
      refine g_iload_n (q0 := 20) (j := 2) rfl dX7_branch_19 rfl ?_
      refine g_iald (q0 := 21) rfl dX7_branch_20 (by assumption) (by omega) (by omega) ?_
      refine g_ireturn dX7_branch_21 rfl ⟨Nat.zero_le _, Nat.zero_le _⟩ ?_
      exact ⟨by rw [g0.2.2.1]; rfl, rfl, rfl⟩
    · omega
/-- place i of a becomes place j of b -/
def rTake (M : gM) (a i b j : Int) : gM := fun x y => if (a + 1 ≤ x ∧ x ≤ a + 4) ∧ y = i then M (b + (x - a)) j else M x y
theorem rTake_G {M : gM} {a i b j q : Int} : rG (rTake M a i b j) a q = if q = i then rG M b j else rG M a q := by
  unfold rG rTake
  by_cases h : q = i
  · subst h
    rw [if_pos ⟨by omega, rfl⟩, if_pos ⟨by omega, rfl⟩, if_pos ⟨by omega, rfl⟩, if_pos ⟨by omega, rfl⟩, if_pos rfl, show b + (a + 1 - a) = b + 1 by omega, show b + (a + 2 - a) = b + 2 by omega, show b + (a + 3 - a) = b + 3 by omega, show b + (a + 4 - a) = b + 4 by omega]
  · simp only [h, and_false, if_false]
theorem rTake_o {M : gM} {a i b j x : Int} (h : x < a + 1 ∨ a + 4 < x) : rTake M a i b j x = M x := by
  funext y
  unfold rTake
  rw [if_neg (by omega)]
theorem sp_X7_take {sh : gS} {M : gM} {t i u j : Int} (hOK : gOK sh M) (hT : rSh sh t) (hU : rSh sh u) (hi : 0 ≤ i ∧ i < 16) (hj : 0 ≤ j ∧ j < 16) (htu : t = u ∨ t + 4 < u ∨ u + 4 < t) :
    gC (gr 0 0) yX7_take cX7_take 4 none [(4, t), (0, i), (4, u), (0, j)] sh M (gPm sh (fun r M1 => r = none ∧ M1 = rTake M t i u j ∧ gOK sh M1)) := by
  obtain ⟨hs0, hs1, hs2, hs3, hs4, hlt⟩ := hT
  obtain ⟨hu0, hu1, hu2, hu3, hu4, hlu⟩ := hU
  refine gC_ofA (lv := [_, _, _, _]) (by decide +kernel) (Nat.le_of_ble_eq_true rfl) rfl (fun hMw hav => ?_)
  refine g_aload_n (q0 := 1) (j := 0) rfl dX7_take_0 rfl ?_
  refine g_getp (q0 := 4) (b := t + 1) rfl ff_X7_9 dX7_take_1 rfl hOK (by omega) (by assumption) rfl rfl ?_
  refine g_iload_n (q0 := 5) (j := 1) rfl dX7_take_4 rfl ?_
  refine g_aload_n (q0 := 6) (j := 2) rfl dX7_take_5 rfl ?_
  refine g_getp (q0 := 9) (b := u + 1) rfl ff_X7_9 dX7_take_6 rfl hOK (by omega) (by assumption) rfl rfl ?_
  refine g_iload_n (q0 := 10) (j := 3) rfl dX7_take_9 rfl ?_
  refine g_iald (q0 := 11) rfl dX7_take_10 (by assumption) (by omega) (by omega) ?_
  refine g_iast (q0 := 12) rfl dX7_take_11 (by assumption) (by omega) (by omega) ?_
  refine g_aload_n (q0 := 13) (j := 0) rfl dX7_take_12 rfl ?_
  refine g_getp (q0 := 16) (b := t + 2) rfl ff_X7_15 dX7_take_13 rfl (gOK_i hOK (by assumption)) (by omega) (by assumption) rfl rfl ?_
  refine g_iload_n (q0 := 17) (j := 1) rfl dX7_take_16 rfl ?_
  refine g_aload_n (q0 := 18) (j := 2) rfl dX7_take_17 rfl ?_
  refine g_getp (q0 := 21) (b := u + 2) rfl ff_X7_15 dX7_take_18 rfl (gOK_i hOK (by assumption)) (by omega) (by assumption) rfl rfl ?_
  refine g_iload_n (q0 := 22) (j := 3) rfl dX7_take_21 rfl ?_
  refine g_iald (q0 := 23) rfl dX7_take_22 (by assumption) (by omega) (by omega) ?_
  try simp (disch := omega) only [gU_same, gU_idx, gU_cel]
  refine g_iast (q0 := 24) rfl dX7_take_23 (by assumption) (by omega) (by omega) ?_
  refine g_aload_n (q0 := 25) (j := 0) rfl dX7_take_24 rfl ?_
  refine g_getp (q0 := 28) (b := t + 3) rfl ff_X7_18 dX7_take_25 rfl (gOK_i (gOK_i hOK (by assumption)) (by assumption)) (by omega) (by assumption) rfl rfl ?_
  refine g_iload_n (q0 := 29) (j := 1) rfl dX7_take_28 rfl ?_
  refine g_aload_n (q0 := 30) (j := 2) rfl dX7_take_29 rfl ?_
  refine g_getp (q0 := 33) (b := u + 3) rfl ff_X7_18 dX7_take_30 rfl (gOK_i (gOK_i hOK (by assumption)) (by assumption)) (by omega) (by assumption) rfl rfl ?_
  refine g_iload_n (q0 := 34) (j := 3) rfl dX7_take_33 rfl ?_
  refine g_iald (q0 := 35) rfl dX7_take_34 (by assumption) (by omega) (by omega) ?_
  try simp (disch := omega) only [gU_same, gU_idx, gU_cel]
  refine g_iast (q0 := 36) rfl dX7_take_35 (by assumption) (by omega) (by omega) ?_
  refine g_aload_n (q0 := 37) (j := 0) rfl dX7_take_36 rfl ?_
  refine g_getp (q0 := 40) (b := t + 4) rfl ff_X7_21 dX7_take_37 rfl (gOK_i (gOK_i (gOK_i hOK (by assumption)) (by assumption)) (by assumption)) (by omega) (by assumption) rfl rfl ?_
  refine g_iload_n (q0 := 41) (j := 1) rfl dX7_take_40 rfl ?_
  refine g_aload_n (q0 := 42) (j := 2) rfl dX7_take_41 rfl ?_
  refine g_getp (q0 := 45) (b := u + 4) rfl ff_X7_21 dX7_take_42 rfl (gOK_i (gOK_i (gOK_i hOK (by assumption)) (by assumption)) (by assumption)) (by omega) (by assumption) rfl rfl ?_
  refine g_iload_n (q0 := 46) (j := 3) rfl dX7_take_45 rfl ?_
  refine g_iald (q0 := 47) rfl dX7_take_46 (by assumption) (by omega) (by omega) ?_
  try simp (disch := omega) only [gU_same, gU_idx, gU_cel]
  refine g_iast (q0 := 48) rfl dX7_take_47 (by assumption) (by omega) (by omega) ?_
  refine g_return dX7_take_48 rfl ⟨Nat.zero_le _, Nat.zero_le _⟩ ?_
  have e : gU (gU (gU (gU M (t + 1) i (M (u + 1) j)) (t + 2) i (M (u + 2) j)) (t + 3) i (M (u + 3) j)) (t + 4) i (M (u + 4) j) = rTake M t i u j := by
    funext x y
    simp only [gU, rTake]
    by_cases hy : y = i
    · by_cases h4 : x = t + 4
      · rw [if_pos ⟨h4, hy⟩, if_pos (by omega), h4, show u + (t + 4 - t) = u + 4 by omega]
      · rw [if_neg (by omega)]
        by_cases h3 : x = t + 3
        · rw [if_pos ⟨h3, hy⟩, if_pos (by omega), h3, show u + (t + 3 - t) = u + 3 by omega]
        · rw [if_neg (by omega)]
          by_cases h2 : x = t + 2
          · rw [if_pos ⟨h2, hy⟩, if_pos (by omega), h2, show u + (t + 2 - t) = u + 2 by omega]
          · rw [if_neg (by omega)]
            by_cases h1 : x = t + 1
            · rw [if_pos ⟨h1, hy⟩, if_pos (by omega), h1, show u + (t + 1 - t) = u + 1 by omega]
            · rw [if_neg (by omega), if_neg (by omega)]
    · simp only [hy, and_false, if_false]
  refine ⟨rfl, rfl, e, ?_⟩
  exact gOK_i (gOK_i (gOK_i (gOK_i hOK hs1) hs2) hs3) hs4
theorem rOrd_rng {x : rF} (h : rRng x) : 0 ≤ rOrd x ∧ rOrd x ≤ 51 := by unfold rOrd; unfold rRng at h; omega
theorem sp_X7_makeRoom {sh : gS} {M : gM} {t o : Int} {rs pre suf : List rF} (hOK : gOK sh M) (hT : rOk sh M t rs) (hr : ∀ x ∈ rs, rRng x) (hl : rs.length + 1 ≤ 16) (hs : rs = pre ++ suf) (hpre : ∀ x ∈ pre, rOrd x ≤ o) (hsuf : ∀ x ∈ suf, o < rOrd x) :
    gC (gr 1 23) yX7_makeRoom cX7_makeRoom 3 (some (.int)) [(4, t), (0, o)] sh M (gPm sh (fun r M1 => r = some (0, (pre.length : Int)) ∧ M1 t 0 = (rs.length : Int) + 1 ∧ rw_ (rG M1 t) 0 pre ∧ rw_ (rG M1 t) ((pre.length : Int) + 1) suf ∧ gOK sh M1 ∧ ∀ b : Int, b < t ∨ t + 4 < b → M1 b = M b)) := by
  have hTs := hT.1
  obtain ⟨⟨hs0, hs1, hs2, hs3, hs4, hlt⟩, -, hc, hR⟩ := hT
  have hln : rs.length = pre.length + suf.length := by rw [hs, List.length_append]
  refine gC_ofA (lv := [_, _, _]) (by decide +kernel) (Nat.le_of_ble_eq_true rfl) rfl (fun hMw hav => ?_)
  generalize hQ : gPm sh (fun (r : Option gV) M1 => r = some (0, (pre.length : Int)) ∧ M1 t 0 = (rs.length : Int) + 1 ∧ rw_ (rG M1 t) 0 pre ∧ rw_ (rG M1 t) ((pre.length : Int) + 1) suf ∧ gOK sh M1 ∧ ∀ b : Int, b < t ∨ t + 4 < b → M1 b = M b) = Q
  have lp : ∀ (k : Nat) (i : Int) (s1 s2 : List rF) (M1 : gM), s1.length = k → i = (pre.length : Int) + (k : Int) → suf = s1 ++ s2 → rw_ (rG M1 t) 0 (pre ++ s1) → rw_ (rG M1 t) (i + 1) s2 → M1 t = M t → gOK sh M1 → (∀ b : Int, b < t ∨ t + 4 < b → M1 b = M b) →
      gA (gr 1 23) yX7_makeRoom cX7_makeRoom 3 (some (.int)) Q (0, 0) 5 [(4, t), (0, o), (0, i)] [] sh M1 := by
    intro k
    induction k with
    | zero =>
      intro i s1 s2 M1 h1 hi h2 h3 h4 h5 hO e9
      have e1 : s1 = [] := List.length_eq_zero_iff.mp h1
      subst e1
      rw [List.append_nil] at h3
      rw [List.nil_append] at h2
      have hct : M1 t 0 = (rs.length : Int) := by rw [h5, hc]
      have hfin : gA (gr 1 23) yX7_makeRoom cX7_makeRoom 3 (some (.int)) Q (0, 0) 48 [(4, t), (0, o), (0, i)] [] sh M1 := by
        refine g_aload_n (q0 := 49) (j := 0) rfl dX7_makeRoom_48 rfl ?_
        refine g_dup (q0 := 50) rfl dX7_makeRoom_49 (k := ?_)
        refine g_getf (q0 := 53) (t := 0) (fi := 0) rfl rfl ff_X7_24 dX7_makeRoom_50 rfl (by assumption) ?_
        refine g_iconst (q0 := 54) rfl dX7_makeRoom_53 (k := ?_)
        refine g_iadd (q0 := 55) rfl dX7_makeRoom_54 (by omega) (by omega) ?_
        refine g_put (q0 := 58) (t := 0) (fi := 0) rfl rfl ff_X7_24 dX7_makeRoom_55 rfl (by assumption) rfl (fun _ => ⟨rfl, rfl⟩) ?_
        refine g_iload_n (q0 := 59) (j := 2) rfl dX7_makeRoom_58 rfl ?_
        refine g_ireturn dX7_makeRoom_59 rfl ⟨Nat.zero_le _, Nat.zero_le _⟩ ?_
        subst hQ
        refine ⟨rfl, by rw [hi]; simp, by rw [gU_same, hct], ?_, ?_, gOK_o (f := 0) hO hs0 rfl rfl, fun b hb => by rw [gU_cell _ _ _ (by omega)]; exact e9 b hb⟩
        · refine rw_congr h3 (fun q _ _ => ?_)
          simp (disch := omega) only [rG, gU_cel]
        · rw [h2, show (pre.length : Int) + 1 = i + 1 by omega]
          refine rw_congr h4 (fun q _ _ => ?_)
          simp (disch := omega) only [rG, gU_cel]
      refine g_iload_n (q0 := 6) (j := 2) rfl dX7_makeRoom_5 rfl ?_
      refine g_if_le (q0 := 9) (tgt := 48) rfl dX7_makeRoom_6 (by decide) (fun h6 => ?_) (fun h6 => ?_)
      · exact hfin
      · cases hp : pre.length with
        | zero => omega
        | succ n =>
          obtain ⟨ys, y, hy2, hy⟩ := ls_snoc hp
          have hyo := hpre y (by rw [hy2]; simp)
          rw [hy2] at h3
          have hg := rG_1 (rw_cons (rw_app h3).2).1
          have hyr := hr y (by rw [hs, hy2]; simp)
          unfold rOrd at hyo
          unfold rRng at hyr
          have hi2 : i - 1 = 0 + (ys.length : Int) := by omega
          rw [← hi2] at hg
          have g1 := hg.1
          have g2 := hg.2.1
          refine g_aload_n (q0 := 10) (j := 0) rfl dX7_makeRoom_9 rfl ?_
          refine g_getp (q0 := 13) (b := t + 1) rfl ff_X7_9 dX7_makeRoom_10 rfl hO (by omega) (by assumption) rfl rfl ?_
          refine g_iload_n (q0 := 14) (j := 2) rfl dX7_makeRoom_13 rfl ?_
          refine g_iconst (q0 := 15) rfl dX7_makeRoom_14 (k := ?_)
          refine g_isub (q0 := 16) rfl dX7_makeRoom_15 (by omega) (by omega) ?_
          refine g_iald (q0 := 17) rfl dX7_makeRoom_16 (by assumption) (by omega) (by omega) ?_
          refine g_bipush (q0 := 19) rfl dX7_makeRoom_17 (k := ?_)
          refine g_imul (q0 := 20) rfl dX7_makeRoom_19 (by omega) (by omega) ?_
          refine g_aload_n (q0 := 21) (j := 0) rfl dX7_makeRoom_20 rfl ?_
          refine g_getp (q0 := 24) (b := t + 2) rfl ff_X7_15 dX7_makeRoom_21 rfl hO (by omega) (by assumption) rfl rfl ?_
          refine g_iload_n (q0 := 25) (j := 2) rfl dX7_makeRoom_24 rfl ?_
          refine g_iconst (q0 := 26) rfl dX7_makeRoom_25 (k := ?_)
          refine g_isub (q0 := 27) rfl dX7_makeRoom_26 (by omega) (by omega) ?_
          refine g_iald (q0 := 28) rfl dX7_makeRoom_27 (by assumption) (by omega) (by omega) ?_
          refine g_iadd (q0 := 29) rfl dX7_makeRoom_28 (by omega) (by omega) ?_
          refine g_iload_n (q0 := 30) (j := 1) rfl dX7_makeRoom_29 rfl ?_
          refine g_icmp_le (q0 := 33) (tgt := 48) rfl dX7_makeRoom_30 (by decide) (fun h30 => ?_) (fun h30 => ?_)
          · exact hfin
          · rw [g1, g2] at h30
            omega
    | succ k ih =>
      intro i s1 s2 M1 h1 hi h2 h3 h4 h5 hO e9
      obtain ⟨ys, y, hy2, hy⟩ := ls_snoc h1
      subst hy2
      have hyo := hsuf y (by rw [h2]; simp)
      have hyr := hr y (by rw [hs, h2]; simp)
      rw [← List.append_assoc] at h3
      have h3y := (rw_cons (rw_app h3).2).1
      have hg := rG_1 h3y
      have hi2 : i - 1 = 0 + ((pre ++ ys).length : Int) := by rw [List.length_append]; omega
      rw [← hi2] at hg h3y
      have hyo2 := hyo
      unfold rOrd at hyo2
      unfold rRng at hyr
      have g1 := hg.1
      have g2 := hg.2.1
      have hln2 : suf.length = ys.length + 1 + s2.length := by rw [h2]; simp; omega
      refine g_iload_n (q0 := 6) (j := 2) rfl dX7_makeRoom_5 rfl ?_
      refine g_if_le (q0 := 9) (tgt := 48) rfl dX7_makeRoom_6 (by decide) (fun h6 => ?_) (fun h6 => ?_)
      · omega
      · refine g_aload_n (q0 := 10) (j := 0) rfl dX7_makeRoom_9 rfl ?_
        refine g_getp (q0 := 13) (b := t + 1) rfl ff_X7_9 dX7_makeRoom_10 rfl hO (by omega) (by assumption) rfl rfl ?_
        refine g_iload_n (q0 := 14) (j := 2) rfl dX7_makeRoom_13 rfl ?_
        refine g_iconst (q0 := 15) rfl dX7_makeRoom_14 (k := ?_)
        refine g_isub (q0 := 16) rfl dX7_makeRoom_15 (by omega) (by omega) ?_
        refine g_iald (q0 := 17) rfl dX7_makeRoom_16 (by assumption) (by omega) (by omega) ?_
        refine g_bipush (q0 := 19) rfl dX7_makeRoom_17 (k := ?_)
        refine g_imul (q0 := 20) rfl dX7_makeRoom_19 (by omega) (by omega) ?_
        refine g_aload_n (q0 := 21) (j := 0) rfl dX7_makeRoom_20 rfl ?_
        refine g_getp (q0 := 24) (b := t + 2) rfl ff_X7_15 dX7_makeRoom_21 rfl hO (by omega) (by assumption) rfl rfl ?_
        refine g_iload_n (q0 := 25) (j := 2) rfl dX7_makeRoom_24 rfl ?_
        refine g_iconst (q0 := 26) rfl dX7_makeRoom_25 (k := ?_)
        refine g_isub (q0 := 27) rfl dX7_makeRoom_26 (by omega) (by omega) ?_
        refine g_iald (q0 := 28) rfl dX7_makeRoom_27 (by assumption) (by omega) (by omega) ?_
        refine g_iadd (q0 := 29) rfl dX7_makeRoom_28 (by omega) (by omega) ?_
        refine g_iload_n (q0 := 30) (j := 1) rfl dX7_makeRoom_29 rfl ?_
        refine g_icmp_le (q0 := 33) (tgt := 48) rfl dX7_makeRoom_30 (by decide) (fun h30 => ?_) (fun h30 => ?_)
        · rw [g1, g2] at h30
          omega
        · refine g_aload_n (q0 := 34) (j := 0) rfl dX7_makeRoom_33 rfl ?_
          refine g_iload_n (q0 := 35) (j := 2) rfl dX7_makeRoom_34 rfl ?_
          refine g_aload_n (q0 := 36) (j := 0) rfl dX7_makeRoom_35 rfl ?_
          refine g_iload_n (q0 := 37) (j := 2) rfl dX7_makeRoom_36 rfl ?_
          refine g_iconst (q0 := 38) rfl dX7_makeRoom_37 (k := ?_)
          refine g_isub (q0 := 39) rfl dX7_makeRoom_38 (by omega) (by omega) ?_
          refine g_callVm (as := [_, _, _]) (rest := []) mt_X7_take mi_X7_take se_X7_take ml_X7_36 dX7_makeRoom_39 (q0 := 42) rfl rfl (by assumption) rfl rfl (sp_X7_take hO hTs hTs ⟨by omega, by omega⟩ ⟨by omega, by omega⟩ (Or.inl rfl)) rfl ⟨by decide, by decide⟩ (Nat.le_of_ble_eq_true rfl) ⟨Nat.zero_le _, Nat.zero_le _⟩ (fun r1 M2 hP1 hw1 hMw1 => ?_)
          obtain ⟨rfl, rfl, hO1⟩ := hP1
          refine g_iinc (q0 := 45) (lv2 := [_, _, _]) rfl dX7_makeRoom_42 rfl (by decide) rfl rfl (by omega) (by omega) ?_
          refine g_goto (tgt := 5) dX7_makeRoom_45 (by decide) ?_
          refine ih _ ys (y :: s2) _ (by omega) (by omega) (by rw [h2]; simp) ?_ ?_ ?_ hO1 (fun b hb => by rw [rTake_o (by omega)]; exact e9 b hb)
          · refine rw_congr (rw_app h3).1 (fun q q0 q1 => ?_)
            rw [rTake_G, if_neg (by omega)]
          · refine rw_mk ?_ ?_
            · rw [rTake_G, if_pos (by omega), h3y]
            · rw [show i + -1 + 1 + 1 = i + 1 by omega]
              refine rw_congr h4 (fun q q0 q1 => ?_)
              rw [rTake_G, if_neg (by omega)]
          · rw [rTake_o (by omega)]; exact h5
  refine g_aload_n (q0 := 1) (j := 0) rfl dX7_makeRoom_0 rfl ?_
  refine g_getf (q0 := 4) (t := 0) (fi := 0) rfl rfl ff_X7_24 dX7_makeRoom_1 rfl (by assumption) ?_
  refine g_istore_n (q0 := 5) (j := 2) (lv2 := [_, _, _]) rfl dX7_makeRoom_4 (by decide) rfl rfl ?_
  refine lp suf.length (M t 0) suf [] M rfl (by omega) (by simp) (by rw [← hs]; exact hR) rw_nil rfl hOK (fun b _ => rfl)
def rPost (sh : gS) (M : gM) (a : Int) (rs : List rF) (M1 : gM) : Prop := rOk sh M1 a rs ∧ gOK sh M1 ∧ ∀ b : Int, b < a ∨ a + 4 < b → M1 b = M b
def rSrt (rs : List rF) : Prop := rs.Pairwise (fun x y => rOrd x < rOrd y)
theorem rIns_sp (x : rF) : ∀ rs : List rF, rSrt rs → ∃ pre suf, rs = pre ++ suf ∧ (∀ y ∈ pre, rOrd y ≤ rOrd x) ∧ (∀ y ∈ suf, rOrd x < rOrd y) ∧ rIns x rs = pre ++ x :: suf
  | [], _ => ⟨[], [], rfl, (fun y h => by cases h), (fun y h => by cases h), rfl⟩
  | f :: r, h => by
    obtain ⟨h1, h2⟩ := List.pairwise_cons.mp h
    unfold rIns
    by_cases hx : rOrd x < rOrd f
    · rw [if_pos hx]
      refine ⟨[], f :: r, rfl, (fun y h => by cases h), fun y hy => ?_, rfl⟩
      rcases List.mem_cons.mp hy with rfl | q
      · exact hx
      · have := h1 y q; omega
    · rw [if_neg hx]
      obtain ⟨pre, suf, a, b, c, d⟩ := rIns_sp x r h2
      refine ⟨f :: pre, suf, by rw [a]; rfl, fun y hy => ?_, c, by rw [d]; rfl⟩
      rcases List.mem_cons.mp hy with rfl | q
      · omega
      · exact b y q
theorem sp_X7_lay {sh : gS} {M : gM} {t u v c p : Int} {rs : List rF} (hOK : gOK sh M) (hT : rOk sh M t rs) (hr : ∀ x ∈ rs, rRng x) (hsr : rSrt rs) (hu : 0 ≤ u ∧ u ≤ 1) (hv : 0 ≤ v ∧ v ≤ 25) (hl : rGet u v rs = none → rs.length + 1 ≤ 16) :
    gC (gr 2 45) yX7_lay cX7_lay 6 none [(4, t), (0, u), (0, v), (0, c), (0, p)] sh M (gPm sh (fun r M1 => r = none ∧ rPost sh M t (rLay u v c p rs) M1)) := by
  have hT0 := hT
  have hTs := hT.1
  obtain ⟨⟨hs0, hs1, hs2, hs3, hs4, hlt⟩, hll, hc, hR⟩ := hT
  refine gC_ofA (lv := [_, _, _, _, _, _]) (by decide +kernel) (Nat.le_of_ble_eq_true rfl) rfl (fun hMw hav => ?_)
  refine g_aload_n (q0 := 1) (j := 0) rfl dX7_lay_0 rfl ?_
  refine g_iload_n (q0 := 2) (j := 1) rfl dX7_lay_1 rfl ?_
  refine g_iload_n (q0 := 3) (j := 2) rfl dX7_lay_2 rfl ?_
  refine g_callVp (as := [_, _]) (rest := []) mt_X7_find mi_X7_find se_X7_find ml_X7_28 dX7_lay_3 (q0 := 6) rfl rfl (by assumption) rfl rfl (sp_X7_find hOK hT0) rfl ⟨by decide, by decide⟩ (Nat.le_of_ble_eq_true rfl) ⟨Nat.zero_le _, Nat.zero_le _⟩ (fun hwc => ?_)
  rcases rFind_sp u v rs 0 with ⟨a, b, -⟩ | ⟨pre, suf, c0, p0, a, b, d, -, e⟩
  · have hl1 := hl b
    obtain ⟨pre, suf, s1, s2, s3, s4⟩ := rIns_sp (u, v, c, p) rs hsr
    have hln : rs.length = pre.length + suf.length := by rw [s1, List.length_append]
    rw [a]
    refine g_istore (q0 := 8) (j := 5) (lv2 := [_, _, _, _, _, _]) rfl dX7_lay_6 (by decide) rfl rfl ?_
    refine g_iload (q0 := 10) (j := 5) rfl dX7_lay_8 rfl ?_
    refine g_if_ge (q0 := 13) (tgt := 54) rfl dX7_lay_10 (by decide) (fun h10 => ?_) (fun h10 => ?_)
    · omega
    · refine g_aload_n (q0 := 14) (j := 0) rfl dX7_lay_13 rfl ?_
      refine g_getf (q0 := 17) (t := 0) (fi := 0) rfl rfl ff_X7_24 dX7_lay_14 rfl (by assumption) ?_
      refine g_aload_n (q0 := 18) (j := 0) rfl dX7_lay_17 rfl ?_
      refine g_getp (q0 := 21) (b := t + 1) rfl ff_X7_9 dX7_lay_18 rfl hOK (by omega) (by assumption) rfl rfl ?_
      refine g_alen (q0 := 22) rfl dX7_lay_21 (by assumption) (by omega) ⟨_, rfl⟩ ?_
      refine g_icmp_lt (q0 := 25) (tgt := 26) rfl dX7_lay_22 (by decide) (fun h22 => ?_) (fun h22 => ?_)
      · refine g_aload_n (q0 := 27) (j := 0) rfl dX7_lay_26 rfl ?_
        refine g_iload_n (q0 := 28) (j := 1) rfl dX7_lay_27 rfl ?_
        refine g_bipush (q0 := 30) rfl dX7_lay_28 (k := ?_)
        refine g_imul (q0 := 31) rfl dX7_lay_30 (by omega) (by omega) ?_
        refine g_iload_n (q0 := 32) (j := 2) rfl dX7_lay_31 rfl ?_
        refine g_iadd (q0 := 33) rfl dX7_lay_32 (by omega) (by omega) ?_
        refine g_callVm (as := [_]) (rest := []) mt_X7_makeRoom mi_X7_makeRoom se_X7_makeRoom ml_X7_32 dX7_lay_33 (q0 := 36) rfl rfl (by assumption) rfl rfl (sp_X7_makeRoom hOK hT0 hr hl1 s1 s2 s3) rfl ⟨by decide, by decide⟩ (Nat.le_of_ble_eq_true rfl) ⟨Nat.zero_le _, Nat.zero_le _⟩ (fun r1 M1 hP1 hw1 hMw1 => ?_)
        obtain ⟨rfl, c1, c2, c3, hO1, c4⟩ := hP1
        refine g_istore (q0 := 38) (j := 5) (lv2 := [_, _, _, _, _, _]) rfl dX7_lay_36 (by decide) rfl rfl ?_
        refine g_aload_n (q0 := 39) (j := 0) rfl dX7_lay_38 rfl ?_
        refine g_getp (q0 := 42) (b := t + 1) rfl ff_X7_9 dX7_lay_39 rfl hO1 (by omega) (by assumption) rfl rfl ?_
        refine g_iload (q0 := 44) (j := 5) rfl dX7_lay_42 rfl ?_
        refine g_iload_n (q0 := 45) (j := 1) rfl dX7_lay_44 rfl ?_
        refine g_iast (q0 := 46) rfl dX7_lay_45 (by assumption) (by omega) (by omega) ?_
        refine g_aload_n (q0 := 47) (j := 0) rfl dX7_lay_46 rfl ?_
        refine g_getp (q0 := 50) (b := t + 2) rfl ff_X7_15 dX7_lay_47 rfl (gOK_i hO1 (by assumption)) (by omega) (by assumption) rfl rfl ?_
        refine g_iload (q0 := 52) (j := 5) rfl dX7_lay_50 rfl ?_
        refine g_iload_n (q0 := 53) (j := 2) rfl dX7_lay_52 rfl ?_
        refine g_iast (q0 := 54) rfl dX7_lay_53 (by assumption) (by omega) (by omega) ?_
        refine g_aload_n (q0 := 55) (j := 0) rfl dX7_lay_54 rfl ?_
        refine g_getp (q0 := 58) (b := t + 3) rfl ff_X7_18 dX7_lay_55 rfl (gOK_i (gOK_i hO1 (by assumption)) (by assumption)) (by omega) (by assumption) rfl rfl ?_
        refine g_iload (q0 := 60) (j := 5) rfl dX7_lay_58 rfl ?_
        refine g_iload_n (q0 := 61) (j := 3) rfl dX7_lay_60 rfl ?_
        refine g_iast (q0 := 62) rfl dX7_lay_61 (by assumption) (by omega) (by omega) ?_
        refine g_aload_n (q0 := 63) (j := 0) rfl dX7_lay_62 rfl ?_
        refine g_getp (q0 := 66) (b := t + 4) rfl ff_X7_21 dX7_lay_63 rfl (gOK_i (gOK_i (gOK_i hO1 (by assumption)) (by assumption)) (by assumption)) (by omega) (by assumption) rfl rfl ?_
        refine g_iload (q0 := 68) (j := 5) rfl dX7_lay_66 rfl ?_
        refine g_iload (q0 := 70) (j := 4) rfl dX7_lay_68 rfl ?_
        refine g_iast (q0 := 71) rfl dX7_lay_70 (by assumption) (by omega) (by omega) ?_
        refine g_return dX7_lay_71 rfl ⟨Nat.zero_le _, Nat.zero_le _⟩ ?_
        refine ⟨rfl, rfl, ⟨hTs, ?_, ?_, ?_⟩, gOK_i (gOK_i (gOK_i (gOK_i hO1 hs1) hs2) hs3) hs4, fun b hb => ?_⟩
        · rw [rLay, if_pos (by assumption), s4]; simp; omega
        · rw [rLay, if_pos (by assumption), s4]
          simp (disch := omega) only [gU_cel]
          rw [c1, hln]; simp; omega
        · rw [rLay, if_pos (by assumption), s4]
          refine rw_mkapp (rw_congr c2 (fun q q0 q1 => ?_)) (rw_mk ?_ ?_)
          · simp (disch := omega) only [rG, gU_cel, gU_idx]
          · rw [Int.zero_add]
            simp (disch := omega) only [rG, gU_cel, gU_same]
          · rw [Int.zero_add]
            refine rw_congr c3 (fun q q0 q1 => ?_)
            simp (disch := omega) only [rG, gU_cel, gU_idx]
        · rw [gU_cell _ _ _ (by omega), gU_cell _ _ _ (by omega), gU_cell _ _ _ (by omega), gU_cell _ _ _ (by omega)]
          exact c4 b hb
      · omega
  · have hln : rs.length = pre.length + suf.length + 1 := by rw [a]; simp; omega
    have hR2 := hR
    rw [a] at hR2
    have g0 := rG_1 (rw_cons (rw_app hR2).2).1
    rw [b]
    rw [Int.zero_add] at g0 ⊢
    refine g_istore (q0 := 8) (j := 5) (lv2 := [_, _, _, _, _, _]) rfl dX7_lay_6 (by decide) rfl rfl ?_
    refine g_iload (q0 := 10) (j := 5) rfl dX7_lay_8 rfl ?_
    refine g_if_ge (q0 := 13) (tgt := 54) rfl dX7_lay_10 (by decide) (fun h10 => ?_) (fun h10 => ?_)
    · refine g_aload_n (q0 := 55) (j := 0) rfl dX7_lay_54 rfl ?_
      refine g_getp (q0 := 58) (b := t + 3) rfl ff_X7_18 dX7_lay_55 rfl hOK (by omega) (by assumption) rfl rfl ?_
      refine g_iload (q0 := 60) (j := 5) rfl dX7_lay_58 rfl ?_
      refine g_iload_n (q0 := 61) (j := 3) rfl dX7_lay_60 rfl ?_
      refine g_iast (q0 := 62) rfl dX7_lay_61 (by assumption) (by omega) (by omega) ?_
      refine g_aload_n (q0 := 63) (j := 0) rfl dX7_lay_62 rfl ?_
      refine g_getp (q0 := 66) (b := t + 4) rfl ff_X7_21 dX7_lay_63 rfl (gOK_i hOK (by assumption)) (by omega) (by assumption) rfl rfl ?_
      refine g_iload (q0 := 68) (j := 5) rfl dX7_lay_66 rfl ?_
      refine g_iload (q0 := 70) (j := 4) rfl dX7_lay_68 rfl ?_
      refine g_iast (q0 := 71) rfl dX7_lay_70 (by assumption) (by omega) (by omega) ?_
      refine g_return dX7_lay_71 rfl ⟨Nat.zero_le _, Nat.zero_le _⟩ ?_
      have hLay : rLay u v c p rs = pre ++ (u, v, c, p) :: suf := by rw [rLay, if_neg (by rw [d]; exact fun h => by cases h), e]
      refine ⟨rfl, rfl, ⟨hTs, ?_, ?_, ?_⟩, gOK_i (gOK_i hOK hs3) hs4, fun b hb => ?_⟩
      · rw [hLay]; simp; omega
      · rw [hLay]
        simp (disch := omega) only [gU_cel]
        rw [hc, hln]; simp; omega
      · rw [hLay]
        refine rw_mkapp (rw_congr (rw_app hR2).1 (fun q q0 q1 => ?_)) (rw_mk ?_ (rw_congr (rw_cons (rw_app hR2).2).2 (fun q q0 q1 => ?_)))
        · simp (disch := omega) only [rG, gU_cel, gU_idx]
        · rw [Int.zero_add]
          simp (disch := omega) only [rG, gU_cel, gU_same]
          rw [g0.1, g0.2.1]
        · simp (disch := omega) only [rG, gU_cel, gU_idx]
      · rw [gU_cell _ _ _ (by omega), gU_cell _ _ _ (by omega)]
    · omega
theorem rRem_none {k l : Int} : ∀ {rs : List rF}, (∀ f ∈ rs, ¬ (f.1 = k ∧ f.2.1 = l)) → rRem k l rs = rs
  | [], _ => rfl
  | f :: r, h => by
    rw [rRem, if_neg (h f List.mem_cons_self), rRem_none (fun g hg => h g (List.mem_cons_of_mem _ hg))]
theorem sp_X7_remove {sh : gS} {M : gM} {t u v : Int} {rs : List rF} (hOK : gOK sh M) (hT : rOk sh M t rs) :
    gC (gr 1 23) yX7_remove cX7_remove 5 none [(4, t), (0, u), (0, v)] sh M (gPm sh (fun r M1 => r = none ∧ rPost sh M t (rRem u v rs) M1)) := by
  have hT0 := hT
  have hTs := hT.1
  obtain ⟨⟨hs0, hs1, hs2, hs3, hs4, hlt⟩, hll, hc, hR⟩ := hT
  refine gC_ofA (lv := [_, _, _, _, _]) (by decide +kernel) (Nat.le_of_ble_eq_true rfl) rfl (fun hMw hav => ?_)
  rcases rFind_sp u v rs 0 with ⟨a, -, b⟩ | ⟨pre, suf, c0, p0, a, b, d, e, -⟩
  · refine g_aload_n (q0 := 1) (j := 0) rfl dX7_remove_0 rfl ?_
    refine g_iload_n (q0 := 2) (j := 1) rfl dX7_remove_1 rfl ?_
    refine g_iload_n (q0 := 3) (j := 2) rfl dX7_remove_2 rfl ?_
    refine g_callVp (as := [_, _]) (rest := []) mt_X7_find mi_X7_find se_X7_find ml_X7_28 dX7_remove_3 (q0 := 6) rfl rfl (by assumption) rfl rfl (sp_X7_find hOK hT0) rfl ⟨by decide, by decide⟩ (Nat.le_of_ble_eq_true rfl) ⟨Nat.zero_le _, Nat.zero_le _⟩ (fun hwc => ?_)
    rw [a]
    refine g_istore_n (q0 := 7) (j := 3) (lv2 := [_, _, _, _, _]) rfl dX7_remove_6 (by decide) rfl rfl ?_
    refine g_iload_n (q0 := 8) (j := 3) rfl dX7_remove_7 rfl ?_
    refine g_if_ge (q0 := 11) (tgt := 12) rfl dX7_remove_8 (by decide) (fun h8 => ?_) (fun h8 => ?_)
    · omega
    · refine g_return dX7_remove_11 rfl ⟨Nat.zero_le _, Nat.zero_le _⟩ ?_
      rw [rRem_none b]
      exact ⟨rfl, rfl, hT0, hOK, fun _ _ => rfl⟩
  · have hln : rs.length = pre.length + suf.length + 1 := by rw [a]; simp; omega
    have hR2 := hR
    rw [a] at hR2
    rw [e]
    have lp : ∀ (s2 d : List rF) (i : Int) (M1 : gM), suf = d ++ s2 → i = (pre.length : Int) + (d.length : Int) → rw_ (rG M1 t) 0 (pre ++ d) → rw_ (rG M1 t) (i + 1) s2 → M1 t = M t → gOK sh M1 → (∀ b : Int, b < t ∨ t + 4 < b → M1 b = M b) →
        gA (gr 1 23) yX7_remove cX7_remove 5 none (gPm sh (fun r M1 => r = none ∧ rPost sh M t (pre ++ suf) M1)) (0, 0) 15 [(4, t), (0, u), (0, v), (0, (pre.length : Int)), (0, i)] [] sh M1 := by
      intro s2
      induction s2 with
      | nil =>
        intro d i M1 e1 e2 e3 e4 e5 hO e6
        have hct : M1 t 0 = (rs.length : Int) := by rw [e5, hc]
        rw [List.append_nil] at e1
        have hl9 : suf.length = d.length := by rw [e1]
        refine g_iload (q0 := 17) (j := 4) rfl dX7_remove_15 rfl ?_
        refine g_iconst (q0 := 18) rfl dX7_remove_17 (k := ?_)
        refine g_iadd (q0 := 19) rfl dX7_remove_18 (by omega) (by omega) ?_
        refine g_aload_n (q0 := 20) (j := 0) rfl dX7_remove_19 rfl ?_
        refine g_getf (q0 := 23) (t := 0) (fi := 0) rfl rfl ff_X7_24 dX7_remove_20 rfl (by assumption) ?_
        refine g_icmp_ge (q0 := 26) (tgt := 43) rfl dX7_remove_23 (by decide) (fun h23 => ?_) (fun h23 => ?_)
        · refine g_aload_n (q0 := 44) (j := 0) rfl dX7_remove_43 rfl ?_
          refine g_dup (q0 := 45) rfl dX7_remove_44 (k := ?_)
          refine g_getf (q0 := 48) (t := 0) (fi := 0) rfl rfl ff_X7_24 dX7_remove_45 rfl (by assumption) ?_
          refine g_iconst (q0 := 49) rfl dX7_remove_48 (k := ?_)
          refine g_isub (q0 := 50) rfl dX7_remove_49 (by omega) (by omega) ?_
          refine g_put (q0 := 53) (t := 0) (fi := 0) rfl rfl ff_X7_24 dX7_remove_50 rfl (by assumption) rfl (fun _ => ⟨rfl, rfl⟩) ?_
          refine g_return dX7_remove_53 rfl ⟨Nat.zero_le _, Nat.zero_le _⟩ ?_
          refine ⟨rfl, rfl, ⟨hTs, ?_, ?_, ?_⟩, gOK_o (f := 0) hO hs0 rfl rfl, fun b hb => by rw [gU_cell _ _ _ (by omega)]; exact e6 b hb⟩
          · simp; omega
          · rw [gU_same, hct]; simp; omega
          · rw [e1]
            refine rw_congr e3 (fun q q0 q1 => ?_)
            simp (disch := omega) only [rG, gU_cel]
        · omega
      | cons y r ih =>
        intro d i M1 e1 e2 e3 e4 e5 hO e6
        have hct : M1 t 0 = (rs.length : Int) := by rw [e5, hc]
        have hl9 : suf.length = d.length + r.length + 1 := by rw [e1]; simp; omega
        obtain ⟨g0, g1⟩ := rw_cons e4
        refine g_iload (q0 := 17) (j := 4) rfl dX7_remove_15 rfl ?_
        refine g_iconst (q0 := 18) rfl dX7_remove_17 (k := ?_)
        refine g_iadd (q0 := 19) rfl dX7_remove_18 (by omega) (by omega) ?_
        refine g_aload_n (q0 := 20) (j := 0) rfl dX7_remove_19 rfl ?_
        refine g_getf (q0 := 23) (t := 0) (fi := 0) rfl rfl ff_X7_24 dX7_remove_20 rfl (by assumption) ?_
        refine g_icmp_ge (q0 := 26) (tgt := 43) rfl dX7_remove_23 (by decide) (fun h23 => ?_) (fun h23 => ?_)
        · omega
        · refine g_aload_n (q0 := 27) (j := 0) rfl dX7_remove_26 rfl ?_
          refine g_iload (q0 := 29) (j := 4) rfl dX7_remove_27 rfl ?_
          refine g_aload_n (q0 := 30) (j := 0) rfl dX7_remove_29 rfl ?_
          refine g_iload (q0 := 32) (j := 4) rfl dX7_remove_30 rfl ?_
          refine g_iconst (q0 := 33) rfl dX7_remove_32 (k := ?_)
          refine g_iadd (q0 := 34) rfl dX7_remove_33 (by omega) (by omega) ?_
          refine g_callVm (as := [_, _, _]) (rest := []) mt_X7_take mi_X7_take se_X7_take ml_X7_36 dX7_remove_34 (q0 := 37) rfl rfl (by assumption) rfl rfl (sp_X7_take hO hTs hTs ⟨by omega, by omega⟩ ⟨by omega, by omega⟩ (Or.inl rfl)) rfl ⟨by decide, by decide⟩ (Nat.le_of_ble_eq_true rfl) ⟨Nat.zero_le _, Nat.zero_le _⟩ (fun r1 M1 hP1 hw1 hMw1 => ?_)
          obtain ⟨rfl, rfl, hO1⟩ := hP1
          refine g_iinc (q0 := 40) (lv2 := [_, _, _, _, _]) rfl dX7_remove_37 rfl (by decide) rfl rfl (by omega) (by omega) ?_
          refine g_goto (tgt := 15) dX7_remove_40 (by decide) ?_
          refine ih (d ++ [y]) _ _ (by rw [e1]; simp) (by simp; omega) ?_ ?_ ?_ hO1 (fun b hb => by rw [rTake_o (by omega)]; exact e6 b hb)
          · rw [← List.append_assoc]
            refine rw_snoc (rw_congr e3 (fun q q0 q1 => ?_)) ?_
            · simp only [List.length_append] at q1
              rw [rTake_G, if_neg (by omega)]
            · rw [rTake_G, if_pos (by rw [List.length_append]; omega)]
              exact g0
          · refine rw_congr g1 (fun q q0 q1 => ?_)
            rw [rTake_G, if_neg (by omega)]
          · rw [rTake_o (by omega)]; exact e5
    refine g_aload_n (q0 := 1) (j := 0) rfl dX7_remove_0 rfl ?_
    refine g_iload_n (q0 := 2) (j := 1) rfl dX7_remove_1 rfl ?_
    refine g_iload_n (q0 := 3) (j := 2) rfl dX7_remove_2 rfl ?_
    refine g_callVp (as := [_, _]) (rest := []) mt_X7_find mi_X7_find se_X7_find ml_X7_28 dX7_remove_3 (q0 := 6) rfl rfl (by assumption) rfl rfl (sp_X7_find hOK hT0) rfl ⟨by decide, by decide⟩ (Nat.le_of_ble_eq_true rfl) ⟨Nat.zero_le _, Nat.zero_le _⟩ (fun hwc => ?_)
    rw [b, Int.zero_add]
    refine g_istore_n (q0 := 7) (j := 3) (lv2 := [_, _, _, _, _]) rfl dX7_remove_6 (by decide) rfl rfl ?_
    refine g_iload_n (q0 := 8) (j := 3) rfl dX7_remove_7 rfl ?_
    refine g_if_ge (q0 := 11) (tgt := 12) rfl dX7_remove_8 (by decide) (fun h8 => ?_) (fun h8 => ?_)
    · refine g_iload_n (q0 := 13) (j := 3) rfl dX7_remove_12 rfl ?_
      refine g_istore (q0 := 15) (j := 4) (lv2 := [_, _, _, _, _]) rfl dX7_remove_13 (by decide) rfl rfl ?_
      exact lp suf [] _ M rfl (by simp) (by rw [List.append_nil]; exact (rw_app hR2).1) (by have := (rw_cons (rw_app hR2).2).2; rwa [Int.zero_add] at this) rfl hOK (fun _ _ => rfl)
    · omega
theorem sp_X7_removeLaidBy {sh : gS} {M : gM} {t p : Int} {rs : List rF} (hOK : gOK sh M) (hT : rOk sh M t rs) :
    gC (gr 1 23) yX7_removeLaidBy cX7_removeLaidBy 4 none [(4, t), (0, p)] sh M (gPm sh (fun r M1 => r = none ∧ rPost sh M t (rs.filter (fun x => decide (x.2.2.2 ≠ p))) M1)) := by
  have hTs := hT.1
  obtain ⟨⟨hs0, hs1, hs2, hs3, hs4, hlt⟩, hll, hc, hR⟩ := hT
  generalize hp : (fun x : rF => decide (x.2.2.2 ≠ p)) = f
  refine gC_ofA (lv := [_, _, _, _]) (by decide +kernel) (Nat.le_of_ble_eq_true rfl) rfl (fun hMw hav => ?_)
  have lp : ∀ (suf don : List rF) (i q : Int) (M1 : gM), (rs.length : Int) = i + (suf.length : Int) → rw_ (rG M1 t) i suf → don ++ suf.filter f = rs.filter f → q = (don.length : Int) → q ≤ i → gOK sh M1 → M1 t = M t → (∀ b : Int, b < t ∨ t + 4 < b → M1 b = M b) → rw_ (rG M1 t) 0 don →
      gA (gr 1 23) yX7_removeLaidBy cX7_removeLaidBy 4 none (gPm sh (fun r M1 => r = none ∧ rPost sh M t (rs.filter f) M1)) (0, 0) 4 [(4, t), (0, p), (0, q), (0, i)] [] sh M1 := by
    intro suf
    induction suf with
    | nil =>
      intro don i q M1 hS hg hd hq hqi hO e0 e1 e2
      have hct : M1 t 0 = (rs.length : Int) := by rw [e0, hc]
      simp only [List.length_nil] at hS
      refine g_iload_n (q0 := 5) (j := 3) rfl dX7_removeLaidBy_4 rfl ?_
      refine g_aload_n (q0 := 6) (j := 0) rfl dX7_removeLaidBy_5 rfl ?_
      refine g_getf (q0 := 9) (t := 0) (fi := 0) rfl rfl ff_X7_24 dX7_removeLaidBy_6 rfl (by assumption) ?_
      refine g_icmp_ge (q0 := 12) (tgt := 38) rfl dX7_removeLaidBy_9 (by decide) (fun h9 => ?_) (fun h9 => ?_)
      · refine g_aload_n (q0 := 39) (j := 0) rfl dX7_removeLaidBy_38 rfl ?_
        refine g_iload_n (q0 := 40) (j := 2) rfl dX7_removeLaidBy_39 rfl ?_
        refine g_put (q0 := 43) (t := 0) (fi := 0) rfl rfl ff_X7_24 dX7_removeLaidBy_40 rfl (by assumption) rfl (fun _ => ⟨rfl, rfl⟩) ?_
        refine g_return dX7_removeLaidBy_43 rfl ⟨Nat.zero_le _, Nat.zero_le _⟩ ?_
        have hd2 : rs.filter f = don := by rw [← hd]; simp
        rw [hd2]
        refine ⟨rfl, rfl, ⟨hTs, by omega, by rw [gU_same, hq], ?_⟩, gOK_o (f := 0) hO hs0 rfl rfl, fun b hb => by rw [gU_cell _ _ _ (by omega)]; exact e1 b hb⟩
        refine rw_congr e2 (fun q q0 q1 => ?_)
        simp (disch := omega) only [rG, gU_cel]
      · omega
    | cons x r ih =>
      intro don i q M1 hS hg hd hq hqi hO e0 e1 e2
      have hct : M1 t 0 = (rs.length : Int) := by rw [e0, hc]
      simp only [List.length_cons] at hS
      obtain ⟨g0, g1⟩ := rw_cons hg
      have gx := (rG_1 g0).2.2.2
      rw [List.filter_cons] at hd
      have hpf : f x = decide (x.2.2.2 ≠ p) := by rw [← hp]
      refine g_iload_n (q0 := 5) (j := 3) rfl dX7_removeLaidBy_4 rfl ?_
      refine g_aload_n (q0 := 6) (j := 0) rfl dX7_removeLaidBy_5 rfl ?_
      refine g_getf (q0 := 9) (t := 0) (fi := 0) rfl rfl ff_X7_24 dX7_removeLaidBy_6 rfl (by assumption) ?_
      refine g_icmp_ge (q0 := 12) (tgt := 38) rfl dX7_removeLaidBy_9 (by decide) (fun h9 => ?_) (fun h9 => ?_)
      · omega
      · refine g_aload_n (q0 := 13) (j := 0) rfl dX7_removeLaidBy_12 rfl ?_
        refine g_getp (q0 := 16) (b := t + 4) rfl ff_X7_21 dX7_removeLaidBy_13 rfl hO (by omega) (by assumption) rfl rfl ?_
        refine g_iload_n (q0 := 17) (j := 3) rfl dX7_removeLaidBy_16 rfl ?_
        refine g_iald (q0 := 18) rfl dX7_removeLaidBy_17 (by assumption) (by omega) (by omega) ?_
        refine g_iload_n (q0 := 19) (j := 1) rfl dX7_removeLaidBy_18 rfl ?_
        refine g_icmp_eq (q0 := 22) (tgt := 32) rfl dX7_removeLaidBy_19 (by decide) (fun h19 => ?_) (fun h19 => ?_)
        · rw [gx] at h19
          refine g_iinc (q0 := 35) (lv2 := [_, _, _, _]) rfl dX7_removeLaidBy_32 rfl (by decide) rfl rfl (by omega) (by omega) ?_
          refine g_goto (tgt := 4) dX7_removeLaidBy_35 (by decide) ?_
          rw [hpf, show decide (x.2.2.2 ≠ p) = false from by simp [h19], if_neg (by decide)] at hd
          exact ih don (i + 1) q M1 (by omega) g1 hd hq (by omega) hO e0 e1 e2
        · rw [gx] at h19
          refine g_aload_n (q0 := 23) (j := 0) rfl dX7_removeLaidBy_22 rfl ?_
          refine g_iload_n (q0 := 24) (j := 2) rfl dX7_removeLaidBy_23 rfl ?_
          refine g_aload_n (q0 := 25) (j := 0) rfl dX7_removeLaidBy_24 rfl ?_
          refine g_iload_n (q0 := 26) (j := 3) rfl dX7_removeLaidBy_25 rfl ?_
          refine g_callVm (as := [_, _, _]) (rest := []) mt_X7_take mi_X7_take se_X7_take ml_X7_36 dX7_removeLaidBy_26 (q0 := 29) rfl rfl (by assumption) rfl rfl (sp_X7_take hO hTs hTs ⟨by omega, by omega⟩ ⟨by omega, by omega⟩ (Or.inl rfl)) rfl ⟨by decide, by decide⟩ (Nat.le_of_ble_eq_true rfl) ⟨Nat.zero_le _, Nat.zero_le _⟩ (fun r1 M1 hP1 hw1 hMw1 => ?_)
          obtain ⟨rfl, rfl, hO1⟩ := hP1
          refine g_iinc (q0 := 32) (lv2 := [_, _, _, _]) rfl dX7_removeLaidBy_29 rfl (by decide) rfl rfl (by omega) (by omega) ?_
          refine g_iinc (q0 := 35) (lv2 := [_, _, _, _]) rfl dX7_removeLaidBy_32 rfl (by decide) rfl rfl (by omega) (by omega) ?_
          refine g_goto (tgt := 4) dX7_removeLaidBy_35 (by decide) ?_
          rw [hpf, show decide (x.2.2.2 ≠ p) = true from by simp [h19], if_pos rfl] at hd
          refine ih (don ++ [x]) (i + 1) (q + 1) _ (by omega) (rw_congr g1 (fun z z0 z1 => by rw [rTake_G, if_neg (by omega)])) (by rw [← hd]; simp) (by simp; omega) (by omega) hO1 (by rw [rTake_o (by omega)]; exact e0) (fun b hb => by rw [rTake_o (by omega)]; exact e1 b hb) (rw_snoc (rw_congr e2 (fun z z0 z1 => by rw [rTake_G, if_neg (by omega)])) (by rw [rTake_G, if_pos (by omega)]; exact g0))
  refine g_iconst (q0 := 1) rfl dX7_removeLaidBy_0 (k := ?_)
  refine g_istore_n (q0 := 2) (j := 2) (lv2 := [_, _, _, _]) rfl dX7_removeLaidBy_1 (by decide) rfl rfl ?_
  refine g_iconst (q0 := 3) rfl dX7_removeLaidBy_2 (k := ?_)
  refine g_istore_n (q0 := 4) (j := 3) (lv2 := [_, _, _, _]) rfl dX7_removeLaidBy_3 (by decide) rfl rfl ?_
  exact lp rs [] 0 0 M (by omega) hR rfl rfl (Int.le_refl 0) hOK rfl (fun b _ => rfl) rw_nil
theorem sp_X7_copy {sh : gS} {M : gM} {t u : Int} {rs : List rF} (hOK : gOK sh M) (hT : rSh sh t) (hU : rOk sh M u rs) (htu : t + 4 < u ∨ u + 4 < t) :
    gC (gr 1 23) yX7_copy cX7_copy 3 none [(4, t), (4, u)] sh M (gPm sh (fun r M1 => r = none ∧ rPost sh M t rs M1)) := by
  have hUs := hU.1
  obtain ⟨⟨hu0, hu1, hu2, hu3, hu4, hlu⟩, hll, huc, hR⟩ := hU
  obtain ⟨hs0, hs1, hs2, hs3, hs4, hlt⟩ := id hT
  refine gC_ofA (lv := [_, _, _]) (by decide +kernel) (Nat.le_of_ble_eq_true rfl) rfl (fun hMw hav => ?_)
  have lp : ∀ (suf don : List rF) (i : Int) (M1 : gM), rs = don ++ suf → i = (don.length : Int) → rw_ (rG M1 t) 0 don → M1 t 0 = (rs.length : Int) → gOK sh M1 → (∀ b : Int, b < t ∨ t + 4 < b → M1 b = M b) →
      gA (gr 1 23) yX7_copy cX7_copy 3 none (gPm sh (fun r M1 => r = none ∧ rPost sh M t rs M1)) (0, 0) 10 [(4, t), (4, u), (0, i)] [] sh M1 := by
    intro suf
    induction suf with
    | nil =>
      intro don i M1 e1 e2 e3 e4 hO e5
      rw [List.append_nil] at e1
      subst e1
      refine g_iload_n (q0 := 11) (j := 2) rfl dX7_copy_10 rfl ?_
      refine g_aload_n (q0 := 12) (j := 0) rfl dX7_copy_11 rfl ?_
      refine g_getf (q0 := 15) (t := 0) (fi := 0) rfl rfl ff_X7_24 dX7_copy_12 rfl (by assumption) ?_
      refine g_icmp_ge (q0 := 18) (tgt := 31) rfl dX7_copy_15 (by decide) (fun h15 => ?_) (fun h15 => ?_)
      · refine g_return dX7_copy_31 rfl ⟨Nat.zero_le _, Nat.zero_le _⟩ ?_
        exact ⟨rfl, rfl, ⟨hT, hll, e4, e3⟩, hO, e5⟩
      · omega
    | cons x r ih =>
      intro don i M1 e1 e2 e3 e4 hO e5
      have hl9 : rs.length = don.length + r.length + 1 := by rw [e1]; simp; omega
      have hx : rG M u i = x := by
        have := hR
        rw [e1] at this
        have := (rw_cons (rw_app this).2).1
        rwa [Int.zero_add, ← e2] at this
      have hx1 : rG M1 u i = x := by
        rw [← hx]
        unfold rG
        rw [e5 _ (by omega), e5 _ (by omega), e5 _ (by omega), e5 _ (by omega)]
      refine g_iload_n (q0 := 11) (j := 2) rfl dX7_copy_10 rfl ?_
      refine g_aload_n (q0 := 12) (j := 0) rfl dX7_copy_11 rfl ?_
      refine g_getf (q0 := 15) (t := 0) (fi := 0) rfl rfl ff_X7_24 dX7_copy_12 rfl (by assumption) ?_
      refine g_icmp_ge (q0 := 18) (tgt := 31) rfl dX7_copy_15 (by decide) (fun h15 => ?_) (fun h15 => ?_)
      · omega
      · refine g_aload_n (q0 := 19) (j := 0) rfl dX7_copy_18 rfl ?_
        refine g_iload_n (q0 := 20) (j := 2) rfl dX7_copy_19 rfl ?_
        refine g_aload_n (q0 := 21) (j := 1) rfl dX7_copy_20 rfl ?_
        refine g_iload_n (q0 := 22) (j := 2) rfl dX7_copy_21 rfl ?_
        refine g_callVm (as := [_, _, _]) (rest := []) mt_X7_take mi_X7_take se_X7_take ml_X7_36 dX7_copy_22 (q0 := 25) rfl rfl (by assumption) rfl rfl (sp_X7_take hO hT hUs ⟨by omega, by omega⟩ ⟨by omega, by omega⟩ (Or.inr htu)) rfl ⟨by decide, by decide⟩ (Nat.le_of_ble_eq_true rfl) ⟨Nat.zero_le _, Nat.zero_le _⟩ (fun r1 M1 hP1 hw1 hMw1 => ?_)
        obtain ⟨rfl, rfl, hO1⟩ := hP1
        refine g_iinc (q0 := 28) (lv2 := [_, _, _]) rfl dX7_copy_25 rfl (by decide) rfl rfl (by omega) (by omega) ?_
        refine g_goto (tgt := 10) dX7_copy_28 (by decide) ?_
        refine ih (don ++ [x]) (i + 1) _ (by rw [e1]; simp) (by simp; omega) (rw_snoc (rw_congr e3 (fun z z0 z1 => by rw [rTake_G, if_neg (by omega)])) (by rw [rTake_G, if_pos (by omega)]; exact hx1)) (by rw [rTake_o (by omega)]; exact e4) hO1 (fun b hb => by rw [rTake_o (by omega)]; exact e5 b hb)
  refine g_aload_n (q0 := 1) (j := 0) rfl dX7_copy_0 rfl ?_
  refine g_aload_n (q0 := 2) (j := 1) rfl dX7_copy_1 rfl ?_
  refine g_getf (q0 := 5) (t := 0) (fi := 0) rfl rfl ff_X7_24 dX7_copy_2 rfl (by assumption) ?_
  refine g_put (q0 := 8) (t := 0) (fi := 0) rfl rfl ff_X7_24 dX7_copy_5 rfl (by assumption) rfl (fun _ => ⟨rfl, rfl⟩) ?_
  refine g_iconst (q0 := 9) rfl dX7_copy_8 (k := ?_)
  refine g_istore_n (q0 := 10) (j := 2) (lv2 := [_, _, _]) rfl dX7_copy_9 (by decide) rfl rfl ?_
  exact lp rs [] 0 _ rfl rfl rw_nil (by rw [gU_same]; exact huc) (gOK_o (f := 0) hOK hs0 rfl rfl) (fun b hb => by rw [gU_cell _ _ _ (by omega)])
def rMiss (os : List rF) : List rF → Int
  | [] => 0
  | x :: r => (if rGet x.1 x.2.1 os = some x.2.2.1 then 0 else 1) + rMiss os r
def rMov (os : List rF) : List rF → Int
  | [] => 0
  | x :: r => (match rGet x.1 x.2.1 os with
      | none => 0
      | some v => if v = x.2.2.1 then 0 else 1) + rMov os r
theorem rMiss_rng (os : List rF) : ∀ rs : List rF, 0 ≤ rMiss os rs ∧ rMiss os rs ≤ (rs.length : Int)
  | [] => ⟨Int.le_refl 0, Int.le_refl 0⟩
  | f :: r => by
    have := rMiss_rng os r
    simp only [rMiss, List.length_cons]
    split <;> omega
theorem rMov_rng (os : List rF) : ∀ rs : List rF, 0 ≤ rMov os rs ∧ rMov os rs ≤ (rs.length : Int)
  | [] => ⟨Int.le_refl 0, Int.le_refl 0⟩
  | f :: r => by
    have := rMov_rng os r
    simp only [rMov, List.length_cons]
    split
    · omega
    · split <;> omega
theorem sp_X7_missesOf {sh : gS} {M : gM} {t u : Int} {rs os : List rF} (hOK : gOK sh M) (hT : rOk sh M t rs) (hU : rOk sh M u os) :
    gC (gr 1 23) yX7_missesOf cX7_missesOf 5 (some (.int)) [(4, t), (4, u)] sh M (gPp sh M (0, rMiss os rs)) := by
  have hU0 := hU
  obtain ⟨⟨hu0, hu1, hu2, hu3, hu4, hlu⟩, hul, huc, hUR⟩ := hU
  obtain ⟨⟨hs0, hs1, hs2, hs3, hs4, hlt⟩, hll, hc, hR⟩ := hT
  have hrg := rMiss_rng os rs
  refine gC_ofA (lv := [_, _, _, _, _]) (by decide +kernel) (Nat.le_of_ble_eq_true rfl) rfl (fun hMw hav => ?_)
  have lp : ∀ (suf : List rF) (i acc : Int) (w : gV), gw w → 0 ≤ i → M t 0 = i + (suf.length : Int) → rw_ (rG M t) i suf → 0 ≤ acc → acc ≤ i → acc + rMiss os suf = rMiss os rs →
      gA (gr 1 23) yX7_missesOf cX7_missesOf 5 (some (.int)) (gPp sh M (0, rMiss os rs)) (0, 0) 4 [(4, t), (4, u), (0, acc), (0, i), w] [] sh M := by
    intro suf
    induction suf with
    | nil =>
      intro i acc w hw h0 hS hg ha0 ha1 hv
      simp only [List.length_nil] at hS
      refine g_iload_n (q0 := 5) (j := 3) rfl dX7_missesOf_4 rfl ?_
      refine g_aload_n (q0 := 6) (j := 0) rfl dX7_missesOf_5 rfl ?_
      refine g_getf (q0 := 9) (t := 0) (fi := 0) rfl rfl ff_X7_24 dX7_missesOf_6 rfl (by assumption) ?_
      refine g_icmp_ge (q0 := 12) (tgt := 60) rfl dX7_missesOf_9 (by decide) (fun h9 => ?_) (fun h9 => ?_)
      · refine g_iload_n (q0 := 61) (j := 2) rfl dX7_missesOf_60 rfl ?_
        refine g_ireturn dX7_missesOf_61 rfl ⟨Nat.zero_le _, Nat.zero_le _⟩ ?_
        exact ⟨by rw [← hv, rMiss, Int.add_zero], rfl, rfl⟩
      · omega
    | cons x r ih =>
      intro i acc w hw h0 hS hg ha0 ha1 hv
      simp only [List.length_cons] at hS
      obtain ⟨g0, g1⟩ := rw_cons hg
      obtain ⟨k1, k2, k3, k4⟩ := rG_1 g0
      rw [rMiss] at hv
      refine g_iload_n (q0 := 5) (j := 3) rfl dX7_missesOf_4 rfl ?_
      refine g_aload_n (q0 := 6) (j := 0) rfl dX7_missesOf_5 rfl ?_
      refine g_getf (q0 := 9) (t := 0) (fi := 0) rfl rfl ff_X7_24 dX7_missesOf_6 rfl (by assumption) ?_
      refine g_icmp_ge (q0 := 12) (tgt := 60) rfl dX7_missesOf_9 (by decide) (fun h9 => ?_) (fun h9 => ?_)
      · omega
      · refine g_aload_n (q0 := 13) (j := 1) rfl dX7_missesOf_12 rfl ?_
        refine g_aload_n (q0 := 14) (j := 0) rfl dX7_missesOf_13 rfl ?_
        refine g_getp (q0 := 17) (b := t + 1) rfl ff_X7_9 dX7_missesOf_14 rfl hOK (by omega) (by assumption) rfl rfl ?_
        refine g_iload_n (q0 := 18) (j := 3) rfl dX7_missesOf_17 rfl ?_
        refine g_iald (q0 := 19) rfl dX7_missesOf_18 (by assumption) (by omega) (by omega) ?_
        refine g_aload_n (q0 := 20) (j := 0) rfl dX7_missesOf_19 rfl ?_
        refine g_getp (q0 := 23) (b := t + 2) rfl ff_X7_15 dX7_missesOf_20 rfl hOK (by omega) (by assumption) rfl rfl ?_
        refine g_iload_n (q0 := 24) (j := 3) rfl dX7_missesOf_23 rfl ?_
        refine g_iald (q0 := 25) rfl dX7_missesOf_24 (by assumption) (by omega) (by omega) ?_
        rw [k1, k2]
        refine g_callVp (as := [_, _]) (rest := []) mt_X7_find mi_X7_find se_X7_find ml_X7_28 dX7_missesOf_25 (q0 := 28) rfl rfl (by assumption) rfl rfl (sp_X7_find hOK hU0) rfl ⟨by decide, by decide⟩ (Nat.le_of_ble_eq_true rfl) ⟨Nat.zero_le _, Nat.zero_le _⟩ (fun hwc => ?_)
        rcases rFind_sp x.1 x.2.1 os 0 with ⟨a, b, -⟩ | ⟨pre, su, c, p, a, b, d, -, -⟩
        · rw [a] at hwc ⊢
          rw [b, if_neg (fun h => by cases h)] at hv
          refine g_istore (q0 := 30) (j := 4) (lv2 := [_, _, _, _, _]) rfl dX7_missesOf_28 (by decide) rfl rfl ?_
          refine g_iload (q0 := 32) (j := 4) rfl dX7_missesOf_30 rfl ?_
          refine g_if_lt (q0 := 35) (tgt := 51) rfl dX7_missesOf_32 (by decide) (fun h32 => ?_) (fun h32 => ?_)
          · refine g_iinc (q0 := 54) (lv2 := [_, _, _, _, _]) rfl dX7_missesOf_51 rfl (by decide) rfl rfl (by omega) (by omega) ?_
            refine g_iinc (q0 := 57) (lv2 := [_, _, _, _, _]) rfl dX7_missesOf_54 rfl (by decide) rfl rfl (by omega) (by omega) ?_
            refine g_goto (tgt := 4) dX7_missesOf_57 (by decide) ?_
            exact ih (i + 1) (acc + 1) _ hwc (by omega) (by omega) g1 (by omega) (by omega) (by omega)
          · omega
        · have hlen : (os.length : Int) = (pre.length : Int) + (su.length : Int) + 1 := by rw [a]; simp; omega
          have hUR2 := hUR
          rw [a] at hUR2
          have q0 := (rG_1 (rw_cons (rw_app hUR2).2).1).2.2.1
          rw [d] at hv
          rw [b] at hwc ⊢
          refine g_istore (q0 := 30) (j := 4) (lv2 := [_, _, _, _, _]) rfl dX7_missesOf_28 (by decide) rfl rfl ?_
          refine g_iload (q0 := 32) (j := 4) rfl dX7_missesOf_30 rfl ?_
          refine g_if_lt (q0 := 35) (tgt := 51) rfl dX7_missesOf_32 (by decide) (fun h32 => ?_) (fun h32 => ?_)
          · omega
          · refine g_aload_n (q0 := 36) (j := 1) rfl dX7_missesOf_35 rfl ?_
            refine g_getp (q0 := 39) (b := u + 3) rfl ff_X7_18 dX7_missesOf_36 rfl hOK (by omega) (by assumption) rfl rfl ?_
            refine g_iload (q0 := 41) (j := 4) rfl dX7_missesOf_39 rfl ?_
            refine g_iald (q0 := 42) rfl dX7_missesOf_41 (by assumption) (by omega) (by omega) ?_
            refine g_aload_n (q0 := 43) (j := 0) rfl dX7_missesOf_42 rfl ?_
            refine g_getp (q0 := 46) (b := t + 3) rfl ff_X7_18 dX7_missesOf_43 rfl hOK (by omega) (by assumption) rfl rfl ?_
            refine g_iload_n (q0 := 47) (j := 3) rfl dX7_missesOf_46 rfl ?_
            refine g_iald (q0 := 48) rfl dX7_missesOf_47 (by assumption) (by omega) (by omega) ?_
            refine g_icmp_eq (q0 := 51) (tgt := 54) rfl dX7_missesOf_48 (by decide) (fun h48 => ?_) (fun h48 => ?_)
            · rw [q0, k3] at h48
              rw [if_pos (by rw [← h48])] at hv
              refine g_iinc (q0 := 57) (lv2 := [_, _, _, _, _]) rfl dX7_missesOf_54 rfl (by decide) rfl rfl (by omega) (by omega) ?_
              refine g_goto (tgt := 4) dX7_missesOf_57 (by decide) ?_
              exact ih (i + 1) acc _ hwc (by omega) (by omega) g1 (by omega) (by omega) (by omega)
            · rw [q0, k3] at h48
              rw [if_neg (fun h => h48 (by injection h))] at hv
              refine g_iinc (q0 := 54) (lv2 := [_, _, _, _, _]) rfl dX7_missesOf_51 rfl (by decide) rfl rfl (by omega) (by omega) ?_
              refine g_iinc (q0 := 57) (lv2 := [_, _, _, _, _]) rfl dX7_missesOf_54 rfl (by decide) rfl rfl (by omega) (by omega) ?_
              refine g_goto (tgt := 4) dX7_missesOf_57 (by decide) ?_
              exact ih (i + 1) (acc + 1) _ hwc (by omega) (by omega) g1 (by omega) (by omega) (by omega)
  refine g_iconst (q0 := 1) rfl dX7_missesOf_0 (k := ?_)
  refine g_istore_n (q0 := 2) (j := 2) (lv2 := [_, _, _, _, _]) rfl dX7_missesOf_1 (by decide) rfl rfl ?_
  refine g_iconst (q0 := 3) rfl dX7_missesOf_2 (k := ?_)
  refine g_istore_n (q0 := 4) (j := 3) (lv2 := [_, _, _, _, _]) rfl dX7_missesOf_3 (by decide) rfl rfl ?_
  exact lp rs 0 0 _ trivial (by omega) (by omega) hR (by omega) (by omega) (by omega)
theorem sp_X7_movesOf {sh : gS} {M : gM} {t u : Int} {rs os : List rF} (hOK : gOK sh M) (hT : rOk sh M t rs) (hU : rOk sh M u os) :
    gC (gr 1 23) yX7_movesOf cX7_movesOf 5 (some (.int)) [(4, t), (4, u)] sh M (gPp sh M (0, rMov os rs)) := by
  have hU0 := hU
  obtain ⟨⟨hu0, hu1, hu2, hu3, hu4, hlu⟩, hul, huc, hUR⟩ := hU
  obtain ⟨⟨hs0, hs1, hs2, hs3, hs4, hlt⟩, hll, hc, hR⟩ := hT
  have hrg := rMov_rng os rs
  refine gC_ofA (lv := [_, _, _, _, _]) (by decide +kernel) (Nat.le_of_ble_eq_true rfl) rfl (fun hMw hav => ?_)
  have lp : ∀ (suf : List rF) (i acc : Int) (w : gV), gw w → 0 ≤ i → M t 0 = i + (suf.length : Int) → rw_ (rG M t) i suf → 0 ≤ acc → acc ≤ i → acc + rMov os suf = rMov os rs →
      gA (gr 1 23) yX7_movesOf cX7_movesOf 5 (some (.int)) (gPp sh M (0, rMov os rs)) (0, 0) 4 [(4, t), (4, u), (0, acc), (0, i), w] [] sh M := by
    intro suf
    induction suf with
    | nil =>
      intro i acc w hw h0 hS hg ha0 ha1 hv
      simp only [List.length_nil] at hS
      refine g_iload_n (q0 := 5) (j := 3) rfl dX7_movesOf_4 rfl ?_
      refine g_aload_n (q0 := 6) (j := 0) rfl dX7_movesOf_5 rfl ?_
      refine g_getf (q0 := 9) (t := 0) (fi := 0) rfl rfl ff_X7_24 dX7_movesOf_6 rfl (by assumption) ?_
      refine g_icmp_ge (q0 := 12) (tgt := 60) rfl dX7_movesOf_9 (by decide) (fun h9 => ?_) (fun h9 => ?_)
      · refine g_iload_n (q0 := 61) (j := 2) rfl dX7_movesOf_60 rfl ?_
        refine g_ireturn dX7_movesOf_61 rfl ⟨Nat.zero_le _, Nat.zero_le _⟩ ?_
        exact ⟨by rw [← hv, rMov, Int.add_zero], rfl, rfl⟩
      · omega
    | cons x r ih =>
      intro i acc w hw h0 hS hg ha0 ha1 hv
      simp only [List.length_cons] at hS
      obtain ⟨g0, g1⟩ := rw_cons hg
      obtain ⟨k1, k2, k3, k4⟩ := rG_1 g0
      rw [rMov] at hv
      refine g_iload_n (q0 := 5) (j := 3) rfl dX7_movesOf_4 rfl ?_
      refine g_aload_n (q0 := 6) (j := 0) rfl dX7_movesOf_5 rfl ?_
      refine g_getf (q0 := 9) (t := 0) (fi := 0) rfl rfl ff_X7_24 dX7_movesOf_6 rfl (by assumption) ?_
      refine g_icmp_ge (q0 := 12) (tgt := 60) rfl dX7_movesOf_9 (by decide) (fun h9 => ?_) (fun h9 => ?_)
      · omega
      · refine g_aload_n (q0 := 13) (j := 1) rfl dX7_movesOf_12 rfl ?_
        refine g_aload_n (q0 := 14) (j := 0) rfl dX7_movesOf_13 rfl ?_
        refine g_getp (q0 := 17) (b := t + 1) rfl ff_X7_9 dX7_movesOf_14 rfl hOK (by omega) (by assumption) rfl rfl ?_
        refine g_iload_n (q0 := 18) (j := 3) rfl dX7_movesOf_17 rfl ?_
        refine g_iald (q0 := 19) rfl dX7_movesOf_18 (by assumption) (by omega) (by omega) ?_
        refine g_aload_n (q0 := 20) (j := 0) rfl dX7_movesOf_19 rfl ?_
        refine g_getp (q0 := 23) (b := t + 2) rfl ff_X7_15 dX7_movesOf_20 rfl hOK (by omega) (by assumption) rfl rfl ?_
        refine g_iload_n (q0 := 24) (j := 3) rfl dX7_movesOf_23 rfl ?_
        refine g_iald (q0 := 25) rfl dX7_movesOf_24 (by assumption) (by omega) (by omega) ?_
        rw [k1, k2]
        refine g_callVp (as := [_, _]) (rest := []) mt_X7_find mi_X7_find se_X7_find ml_X7_28 dX7_movesOf_25 (q0 := 28) rfl rfl (by assumption) rfl rfl (sp_X7_find hOK hU0) rfl ⟨by decide, by decide⟩ (Nat.le_of_ble_eq_true rfl) ⟨Nat.zero_le _, Nat.zero_le _⟩ (fun hwc => ?_)
        rcases rFind_sp x.1 x.2.1 os 0 with ⟨a, b, -⟩ | ⟨pre, su, c, p, a, b, d, -, -⟩
        · rw [a] at hwc ⊢
          rw [b] at hv
          refine g_istore (q0 := 30) (j := 4) (lv2 := [_, _, _, _, _]) rfl dX7_movesOf_28 (by decide) rfl rfl ?_
          refine g_iload (q0 := 32) (j := 4) rfl dX7_movesOf_30 rfl ?_
          refine g_if_lt (q0 := 35) (tgt := 54) rfl dX7_movesOf_32 (by decide) (fun h32 => ?_) (fun h32 => ?_)
          · refine g_iinc (q0 := 57) (lv2 := [_, _, _, _, _]) rfl dX7_movesOf_54 rfl (by decide) rfl rfl (by omega) (by omega) ?_
            refine g_goto (tgt := 4) dX7_movesOf_57 (by decide) ?_
            exact ih (i + 1) acc _ hwc (by omega) (by omega) g1 (by omega) (by omega) (by simp only at hv; omega)
          · omega
        · have hlen : (os.length : Int) = (pre.length : Int) + (su.length : Int) + 1 := by rw [a]; simp; omega
          have hUR2 := hUR
          rw [a] at hUR2
          have q0 := (rG_1 (rw_cons (rw_app hUR2).2).1).2.2.1
          rw [d] at hv
          simp only at hv
          rw [b] at hwc ⊢
          refine g_istore (q0 := 30) (j := 4) (lv2 := [_, _, _, _, _]) rfl dX7_movesOf_28 (by decide) rfl rfl ?_
          refine g_iload (q0 := 32) (j := 4) rfl dX7_movesOf_30 rfl ?_
          refine g_if_lt (q0 := 35) (tgt := 54) rfl dX7_movesOf_32 (by decide) (fun h32 => ?_) (fun h32 => ?_)
          · omega
          · refine g_aload_n (q0 := 36) (j := 1) rfl dX7_movesOf_35 rfl ?_
            refine g_getp (q0 := 39) (b := u + 3) rfl ff_X7_18 dX7_movesOf_36 rfl hOK (by omega) (by assumption) rfl rfl ?_
            refine g_iload (q0 := 41) (j := 4) rfl dX7_movesOf_39 rfl ?_
            refine g_iald (q0 := 42) rfl dX7_movesOf_41 (by assumption) (by omega) (by omega) ?_
            refine g_aload_n (q0 := 43) (j := 0) rfl dX7_movesOf_42 rfl ?_
            refine g_getp (q0 := 46) (b := t + 3) rfl ff_X7_18 dX7_movesOf_43 rfl hOK (by omega) (by assumption) rfl rfl ?_
            refine g_iload_n (q0 := 47) (j := 3) rfl dX7_movesOf_46 rfl ?_
            refine g_iald (q0 := 48) rfl dX7_movesOf_47 (by assumption) (by omega) (by omega) ?_
            refine g_icmp_eq (q0 := 51) (tgt := 54) rfl dX7_movesOf_48 (by decide) (fun h48 => ?_) (fun h48 => ?_)
            · rw [q0, k3] at h48
              rw [if_pos h48] at hv
              refine g_iinc (q0 := 57) (lv2 := [_, _, _, _, _]) rfl dX7_movesOf_54 rfl (by decide) rfl rfl (by omega) (by omega) ?_
              refine g_goto (tgt := 4) dX7_movesOf_57 (by decide) ?_
              exact ih (i + 1) acc _ hwc (by omega) (by omega) g1 (by omega) (by omega) (by omega)
            · rw [q0, k3] at h48
              rw [if_neg h48] at hv
              refine g_iinc (q0 := 54) (lv2 := [_, _, _, _, _]) rfl dX7_movesOf_51 rfl (by decide) rfl rfl (by omega) (by omega) ?_
              refine g_iinc (q0 := 57) (lv2 := [_, _, _, _, _]) rfl dX7_movesOf_54 rfl (by decide) rfl rfl (by omega) (by omega) ?_
              refine g_goto (tgt := 4) dX7_movesOf_57 (by decide) ?_
              exact ih (i + 1) (acc + 1) _ hwc (by omega) (by omega) g1 (by omega) (by omega) (by omega)
  refine g_iconst (q0 := 1) rfl dX7_movesOf_0 (k := ?_)
  refine g_istore_n (q0 := 2) (j := 2) (lv2 := [_, _, _, _, _]) rfl dX7_movesOf_1 (by decide) rfl rfl ?_
  refine g_iconst (q0 := 3) rfl dX7_movesOf_2 (k := ?_)
  refine g_istore_n (q0 := 4) (j := 3) (lv2 := [_, _, _, _, _]) rfl dX7_movesOf_3 (by decide) rfl rfl ?_
  exact lp rs 0 0 _ trivial (by omega) (by omega) hR (by omega) (by omega) (by omega)
