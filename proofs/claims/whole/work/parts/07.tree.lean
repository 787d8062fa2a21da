-- ==== a tree of the class: reading
theorem dX10_find_0 : decode cX10_find 0 = .ok (.iconst 0, 1) := by decide +kernel
theorem dX10_find_1 : decode cX10_find 1 = .ok (.istore_n 2, 1) := by decide +kernel
theorem dX10_find_2 : decode cX10_find 2 = .ok (.iload_n 2, 1) := by decide +kernel
theorem dX10_find_3 : decode cX10_find 3 = .ok (.aload_n 0, 1) := by decide +kernel
theorem dX10_find_4 : decode cX10_find 4 = .ok (.getfield 23, 3) := by decide +kernel
theorem dX10_find_7 : decode cX10_find 7 = .ok (.if_icmp .ge 21, 3) := by decide +kernel
theorem dX10_find_10 : decode cX10_find 10 = .ok (.aload_n 0, 1) := by decide +kernel
theorem dX10_find_11 : decode cX10_find 11 = .ok (.getfield 9, 3) := by decide +kernel
theorem dX10_find_14 : decode cX10_find 14 = .ok (.iload_n 2, 1) := by decide +kernel
theorem dX10_find_15 : decode cX10_find 15 = .ok (.iaload, 1) := by decide +kernel
theorem dX10_find_16 : decode cX10_find 16 = .ok (.iload_n 1, 1) := by decide +kernel
theorem dX10_find_17 : decode cX10_find 17 = .ok (.if_icmp .ne 5, 3) := by decide +kernel
theorem dX10_find_20 : decode cX10_find 20 = .ok (.iload_n 2, 1) := by decide +kernel
theorem dX10_find_21 : decode cX10_find 21 = .ok (.ireturn, 1) := by decide +kernel
theorem dX10_find_22 : decode cX10_find 22 = .ok (.iinc 2 1, 3) := by decide +kernel
theorem dX10_find_25 : decode cX10_find 25 = .ok (.goto (-23), 3) := by decide +kernel
theorem dX10_find_28 : decode cX10_find 28 = .ok (.iconst (-1), 1) := by decide +kernel
theorem dX10_find_29 : decode cX10_find 29 = .ok (.ireturn, 1) := by decide +kernel
theorem dX10_contentAt_0 : decode cX10_contentAt 0 = .ok (.aload_n 0, 1) := by decide +kernel
theorem dX10_contentAt_1 : decode cX10_contentAt 1 = .ok (.iload_n 1, 1) := by decide +kernel
theorem dX10_contentAt_2 : decode cX10_contentAt 2 = .ok (.invokevirtual 39, 3) := by decide +kernel
theorem dX10_contentAt_5 : decode cX10_contentAt 5 = .ok (.istore_n 2, 1) := by decide +kernel
theorem dX10_contentAt_6 : decode cX10_contentAt 6 = .ok (.iload_n 2, 1) := by decide +kernel
theorem dX10_contentAt_7 : decode cX10_contentAt 7 = .ok (.ifCond .ge 7, 3) := by decide +kernel
theorem dX10_contentAt_10 : decode cX10_contentAt 10 = .ok (.iconst 0, 1) := by decide +kernel
theorem dX10_contentAt_11 : decode cX10_contentAt 11 = .ok (.goto 9, 3) := by decide +kernel
theorem dX10_contentAt_14 : decode cX10_contentAt 14 = .ok (.aload_n 0, 1) := by decide +kernel
theorem dX10_contentAt_15 : decode cX10_contentAt 15 = .ok (.getfield 15, 3) := by decide +kernel
theorem dX10_contentAt_18 : decode cX10_contentAt 18 = .ok (.iload_n 2, 1) := by decide +kernel
theorem dX10_contentAt_19 : decode cX10_contentAt 19 = .ok (.iaload, 1) := by decide +kernel
theorem dX10_contentAt_20 : decode cX10_contentAt 20 = .ok (.ireturn, 1) := by decide +kernel
theorem dX10_filesAt_0 : decode cX10_filesAt 0 = .ok (.iconst 0, 1) := by decide +kernel
theorem dX10_filesAt_1 : decode cX10_filesAt 1 = .ok (.istore_n 2, 1) := by decide +kernel
theorem dX10_filesAt_2 : decode cX10_filesAt 2 = .ok (.iconst 0, 1) := by decide +kernel
theorem dX10_filesAt_3 : decode cX10_filesAt 3 = .ok (.istore_n 3, 1) := by decide +kernel
theorem dX10_filesAt_4 : decode cX10_filesAt 4 = .ok (.iload_n 3, 1) := by decide +kernel
theorem dX10_filesAt_5 : decode cX10_filesAt 5 = .ok (.aload_n 0, 1) := by decide +kernel
theorem dX10_filesAt_6 : decode cX10_filesAt 6 = .ok (.getfield 23, 3) := by decide +kernel
theorem dX10_filesAt_9 : decode cX10_filesAt 9 = .ok (.if_icmp .ge 25, 3) := by decide +kernel
theorem dX10_filesAt_12 : decode cX10_filesAt 12 = .ok (.iload_n 1, 1) := by decide +kernel
theorem dX10_filesAt_13 : decode cX10_filesAt 13 = .ok (.aload_n 0, 1) := by decide +kernel
theorem dX10_filesAt_14 : decode cX10_filesAt 14 = .ok (.getfield 9, 3) := by decide +kernel
theorem dX10_filesAt_17 : decode cX10_filesAt 17 = .ok (.iload_n 3, 1) := by decide +kernel
theorem dX10_filesAt_18 : decode cX10_filesAt 18 = .ok (.iaload, 1) := by decide +kernel
theorem dX10_filesAt_19 : decode cX10_filesAt 19 = .ok (.invokestatic 42, 3) := by decide +kernel
theorem dX10_filesAt_22 : decode cX10_filesAt 22 = .ok (.ifCond .eq 6, 3) := by decide +kernel
theorem dX10_filesAt_25 : decode cX10_filesAt 25 = .ok (.iinc 2 1, 3) := by decide +kernel
theorem dX10_filesAt_28 : decode cX10_filesAt 28 = .ok (.iinc 3 1, 3) := by decide +kernel
theorem dX10_filesAt_31 : decode cX10_filesAt 31 = .ok (.goto (-27), 3) := by decide +kernel
theorem dX10_filesAt_34 : decode cX10_filesAt 34 = .ok (.iload_n 2, 1) := by decide +kernel
theorem dX10_filesAt_35 : decode cX10_filesAt 35 = .ok (.ireturn, 1) := by decide +kernel
theorem dX10_hasFolder_0 : decode cX10_hasFolder 0 = .ok (.iconst 0, 1) := by decide +kernel
theorem dX10_hasFolder_1 : decode cX10_hasFolder 1 = .ok (.istore_n 2, 1) := by decide +kernel
theorem dX10_hasFolder_2 : decode cX10_hasFolder 2 = .ok (.iload_n 2, 1) := by decide +kernel
theorem dX10_hasFolder_3 : decode cX10_hasFolder 3 = .ok (.aload_n 0, 1) := by decide +kernel
theorem dX10_hasFolder_4 : decode cX10_hasFolder 4 = .ok (.getfield 23, 3) := by decide +kernel
theorem dX10_hasFolder_7 : decode cX10_hasFolder 7 = .ok (.if_icmp .ge 34, 3) := by decide +kernel
theorem dX10_hasFolder_10 : decode cX10_hasFolder 10 = .ok (.aload_n 0, 1) := by decide +kernel
theorem dX10_hasFolder_11 : decode cX10_hasFolder 11 = .ok (.getfield 9, 3) := by decide +kernel
theorem dX10_hasFolder_14 : decode cX10_hasFolder 14 = .ok (.iload_n 2, 1) := by decide +kernel
theorem dX10_hasFolder_15 : decode cX10_hasFolder 15 = .ok (.iaload, 1) := by decide +kernel
theorem dX10_hasFolder_16 : decode cX10_hasFolder 16 = .ok (.iload_n 1, 1) := by decide +kernel
theorem dX10_hasFolder_17 : decode cX10_hasFolder 17 = .ok (.if_icmp .eq 18, 3) := by decide +kernel
theorem dX10_hasFolder_20 : decode cX10_hasFolder 20 = .ok (.iload_n 1, 1) := by decide +kernel
theorem dX10_hasFolder_21 : decode cX10_hasFolder 21 = .ok (.aload_n 0, 1) := by decide +kernel
theorem dX10_hasFolder_22 : decode cX10_hasFolder 22 = .ok (.getfield 9, 3) := by decide +kernel
theorem dX10_hasFolder_25 : decode cX10_hasFolder 25 = .ok (.iload_n 2, 1) := by decide +kernel
theorem dX10_hasFolder_26 : decode cX10_hasFolder 26 = .ok (.iaload, 1) := by decide +kernel
theorem dX10_hasFolder_27 : decode cX10_hasFolder 27 = .ok (.invokestatic 42, 3) := by decide +kernel
theorem dX10_hasFolder_30 : decode cX10_hasFolder 30 = .ok (.ifCond .eq 5, 3) := by decide +kernel
theorem dX10_hasFolder_33 : decode cX10_hasFolder 33 = .ok (.iconst 1, 1) := by decide +kernel
theorem dX10_hasFolder_34 : decode cX10_hasFolder 34 = .ok (.ireturn, 1) := by decide +kernel
theorem dX10_hasFolder_35 : decode cX10_hasFolder 35 = .ok (.iinc 2 1, 3) := by decide +kernel
theorem dX10_hasFolder_38 : decode cX10_hasFolder 38 = .ok (.goto (-36), 3) := by decide +kernel
theorem dX10_hasFolder_41 : decode cX10_hasFolder 41 = .ok (.iconst 0, 1) := by decide +kernel
theorem dX10_hasFolder_42 : decode cX10_hasFolder 42 = .ok (.ireturn, 1) := by decide +kernel
theorem dX10_hasFileAhead_0 : decode cX10_hasFileAhead 0 = .ok (.iconst 0, 1) := by decide +kernel
theorem dX10_hasFileAhead_1 : decode cX10_hasFileAhead 1 = .ok (.istore_n 2, 1) := by decide +kernel
theorem dX10_hasFileAhead_2 : decode cX10_hasFileAhead 2 = .ok (.iload_n 2, 1) := by decide +kernel
theorem dX10_hasFileAhead_3 : decode cX10_hasFileAhead 3 = .ok (.aload_n 0, 1) := by decide +kernel
theorem dX10_hasFileAhead_4 : decode cX10_hasFileAhead 4 = .ok (.getfield 23, 3) := by decide +kernel
theorem dX10_hasFileAhead_7 : decode cX10_hasFileAhead 7 = .ok (.if_icmp .ge 34, 3) := by decide +kernel
theorem dX10_hasFileAhead_10 : decode cX10_hasFileAhead 10 = .ok (.aload_n 0, 1) := by decide +kernel
theorem dX10_hasFileAhead_11 : decode cX10_hasFileAhead 11 = .ok (.getfield 9, 3) := by decide +kernel
theorem dX10_hasFileAhead_14 : decode cX10_hasFileAhead 14 = .ok (.iload_n 2, 1) := by decide +kernel
theorem dX10_hasFileAhead_15 : decode cX10_hasFileAhead 15 = .ok (.iaload, 1) := by decide +kernel
theorem dX10_hasFileAhead_16 : decode cX10_hasFileAhead 16 = .ok (.iload_n 1, 1) := by decide +kernel
theorem dX10_hasFileAhead_17 : decode cX10_hasFileAhead 17 = .ok (.if_icmp .eq 18, 3) := by decide +kernel
theorem dX10_hasFileAhead_20 : decode cX10_hasFileAhead 20 = .ok (.aload_n 0, 1) := by decide +kernel
theorem dX10_hasFileAhead_21 : decode cX10_hasFileAhead 21 = .ok (.getfield 9, 3) := by decide +kernel
theorem dX10_hasFileAhead_24 : decode cX10_hasFileAhead 24 = .ok (.iload_n 2, 1) := by decide +kernel
theorem dX10_hasFileAhead_25 : decode cX10_hasFileAhead 25 = .ok (.iaload, 1) := by decide +kernel
theorem dX10_hasFileAhead_26 : decode cX10_hasFileAhead 26 = .ok (.iload_n 1, 1) := by decide +kernel
theorem dX10_hasFileAhead_27 : decode cX10_hasFileAhead 27 = .ok (.invokestatic 42, 3) := by decide +kernel
theorem dX10_hasFileAhead_30 : decode cX10_hasFileAhead 30 = .ok (.ifCond .eq 5, 3) := by decide +kernel
theorem dX10_hasFileAhead_33 : decode cX10_hasFileAhead 33 = .ok (.iconst 1, 1) := by decide +kernel
theorem dX10_hasFileAhead_34 : decode cX10_hasFileAhead 34 = .ok (.ireturn, 1) := by decide +kernel
theorem dX10_hasFileAhead_35 : decode cX10_hasFileAhead 35 = .ok (.iinc 2 1, 3) := by decide +kernel
theorem dX10_hasFileAhead_38 : decode cX10_hasFileAhead 38 = .ok (.goto (-36), 3) := by decide +kernel
theorem dX10_hasFileAhead_41 : decode cX10_hasFileAhead 41 = .ok (.iconst 0, 1) := by decide +kernel
theorem dX10_hasFileAhead_42 : decode cX10_hasFileAhead 42 = .ok (.ireturn, 1) := by decide +kernel
theorem dX10_hasFilesAlone_0 : decode cX10_hasFilesAlone 0 = .ok (.iload_n 1, 1) := by decide +kernel
theorem dX10_hasFilesAlone_1 : decode cX10_hasFilesAlone 1 = .ok (.invokestatic 18, 3) := by decide +kernel
theorem dX10_hasFilesAlone_4 : decode cX10_hasFilesAlone 4 = .ok (.iconst 1, 1) := by decide +kernel
theorem dX10_hasFilesAlone_5 : decode cX10_hasFilesAlone 5 = .ok (.iadd, 1) := by decide +kernel
theorem dX10_hasFilesAlone_6 : decode cX10_hasFilesAlone 6 = .ok (.istore_n 2, 1) := by decide +kernel
theorem dX10_hasFilesAlone_7 : decode cX10_hasFilesAlone 7 = .ok (.iconst 0, 1) := by decide +kernel
theorem dX10_hasFilesAlone_8 : decode cX10_hasFilesAlone 8 = .ok (.istore_n 3, 1) := by decide +kernel
theorem dX10_hasFilesAlone_9 : decode cX10_hasFilesAlone 9 = .ok (.iload_n 3, 1) := by decide +kernel
theorem dX10_hasFilesAlone_10 : decode cX10_hasFilesAlone 10 = .ok (.aload_n 0, 1) := by decide +kernel
theorem dX10_hasFilesAlone_11 : decode cX10_hasFilesAlone 11 = .ok (.getfield 23, 3) := by decide +kernel
theorem dX10_hasFilesAlone_14 : decode cX10_hasFilesAlone 14 = .ok (.if_icmp .ge 37, 3) := by decide +kernel
theorem dX10_hasFilesAlone_17 : decode cX10_hasFilesAlone 17 = .ok (.iload_n 1, 1) := by decide +kernel
theorem dX10_hasFilesAlone_18 : decode cX10_hasFilesAlone 18 = .ok (.aload_n 0, 1) := by decide +kernel
theorem dX10_hasFilesAlone_19 : decode cX10_hasFilesAlone 19 = .ok (.getfield 9, 3) := by decide +kernel
theorem dX10_hasFilesAlone_22 : decode cX10_hasFilesAlone 22 = .ok (.iload_n 3, 1) := by decide +kernel
theorem dX10_hasFilesAlone_23 : decode cX10_hasFilesAlone 23 = .ok (.iaload, 1) := by decide +kernel
theorem dX10_hasFilesAlone_24 : decode cX10_hasFilesAlone 24 = .ok (.invokestatic 42, 3) := by decide +kernel
theorem dX10_hasFilesAlone_27 : decode cX10_hasFilesAlone 27 = .ok (.ifCond .eq 18, 3) := by decide +kernel
theorem dX10_hasFilesAlone_30 : decode cX10_hasFilesAlone 30 = .ok (.aload_n 0, 1) := by decide +kernel
theorem dX10_hasFilesAlone_31 : decode cX10_hasFilesAlone 31 = .ok (.getfield 9, 3) := by decide +kernel
theorem dX10_hasFilesAlone_34 : decode cX10_hasFilesAlone 34 = .ok (.iload_n 3, 1) := by decide +kernel
theorem dX10_hasFilesAlone_35 : decode cX10_hasFilesAlone 35 = .ok (.iaload, 1) := by decide +kernel
theorem dX10_hasFilesAlone_36 : decode cX10_hasFilesAlone 36 = .ok (.invokestatic 18, 3) := by decide +kernel
theorem dX10_hasFilesAlone_39 : decode cX10_hasFilesAlone 39 = .ok (.iload_n 2, 1) := by decide +kernel
theorem dX10_hasFilesAlone_40 : decode cX10_hasFilesAlone 40 = .ok (.if_icmp .le 5, 3) := by decide +kernel
theorem dX10_hasFilesAlone_43 : decode cX10_hasFilesAlone 43 = .ok (.iconst 0, 1) := by decide +kernel
theorem dX10_hasFilesAlone_44 : decode cX10_hasFilesAlone 44 = .ok (.ireturn, 1) := by decide +kernel
theorem dX10_hasFilesAlone_45 : decode cX10_hasFilesAlone 45 = .ok (.iinc 3 1, 3) := by decide +kernel
theorem dX10_hasFilesAlone_48 : decode cX10_hasFilesAlone 48 = .ok (.goto (-39), 3) := by decide +kernel
theorem dX10_hasFilesAlone_51 : decode cX10_hasFilesAlone 51 = .ok (.iconst 1, 1) := by decide +kernel
theorem dX10_hasFilesAlone_52 : decode cX10_hasFilesAlone 52 = .ok (.ireturn, 1) := by decide +kernel
theorem dX10_entriesIn_0 : decode cX10_entriesIn 0 = .ok (.iload_n 1, 1) := by decide +kernel
theorem dX10_entriesIn_1 : decode cX10_entriesIn 1 = .ok (.invokestatic 18, 3) := by decide +kernel
theorem dX10_entriesIn_4 : decode cX10_entriesIn 4 = .ok (.istore_n 2, 1) := by decide +kernel
theorem dX10_entriesIn_5 : decode cX10_entriesIn 5 = .ok (.bipush 25, 2) := by decide +kernel
theorem dX10_entriesIn_7 : decode cX10_entriesIn 7 = .ok (.iconst 5, 1) := by decide +kernel
theorem dX10_entriesIn_8 : decode cX10_entriesIn 8 = .ok (.iload_n 2, 1) := by decide +kernel
theorem dX10_entriesIn_9 : decode cX10_entriesIn 9 = .ok (.imul, 1) := by decide +kernel
theorem dX10_entriesIn_10 : decode cX10_entriesIn 10 = .ok (.isub, 1) := by decide +kernel
theorem dX10_entriesIn_11 : decode cX10_entriesIn 11 = .ok (.istore_n 3, 1) := by decide +kernel
theorem dX10_entriesIn_12 : decode cX10_entriesIn 12 = .ok (.iconst 0, 1) := by decide +kernel
theorem dX10_entriesIn_13 : decode cX10_entriesIn 13 = .ok (.istore 4, 2) := by decide +kernel
theorem dX10_entriesIn_15 : decode cX10_entriesIn 15 = .ok (.iconst (-1), 1) := by decide +kernel
theorem dX10_entriesIn_16 : decode cX10_entriesIn 16 = .ok (.istore 5, 2) := by decide +kernel
theorem dX10_entriesIn_18 : decode cX10_entriesIn 18 = .ok (.iconst 0, 1) := by decide +kernel
theorem dX10_entriesIn_19 : decode cX10_entriesIn 19 = .ok (.istore 6, 2) := by decide +kernel
theorem dX10_entriesIn_21 : decode cX10_entriesIn 21 = .ok (.iload 6, 2) := by decide +kernel
theorem dX10_entriesIn_23 : decode cX10_entriesIn 23 = .ok (.aload_n 0, 1) := by decide +kernel
theorem dX10_entriesIn_24 : decode cX10_entriesIn 24 = .ok (.getfield 23, 3) := by decide +kernel
theorem dX10_entriesIn_27 : decode cX10_entriesIn 27 = .ok (.if_icmp .ge 66, 3) := by decide +kernel
theorem dX10_entriesIn_30 : decode cX10_entriesIn 30 = .ok (.iload_n 3, 1) := by decide +kernel
theorem dX10_entriesIn_31 : decode cX10_entriesIn 31 = .ok (.ifCond .lt 62, 3) := by decide +kernel
theorem dX10_entriesIn_34 : decode cX10_entriesIn 34 = .ok (.aload_n 0, 1) := by decide +kernel
theorem dX10_entriesIn_35 : decode cX10_entriesIn 35 = .ok (.getfield 9, 3) := by decide +kernel
theorem dX10_entriesIn_38 : decode cX10_entriesIn 38 = .ok (.iload 6, 2) := by decide +kernel
theorem dX10_entriesIn_40 : decode cX10_entriesIn 40 = .ok (.iaload, 1) := by decide +kernel
theorem dX10_entriesIn_41 : decode cX10_entriesIn 41 = .ok (.iload_n 1, 1) := by decide +kernel
theorem dX10_entriesIn_42 : decode cX10_entriesIn 42 = .ok (.if_icmp .eq 45, 3) := by decide +kernel
theorem dX10_entriesIn_45 : decode cX10_entriesIn 45 = .ok (.iload_n 1, 1) := by decide +kernel
theorem dX10_entriesIn_46 : decode cX10_entriesIn 46 = .ok (.aload_n 0, 1) := by decide +kernel
theorem dX10_entriesIn_47 : decode cX10_entriesIn 47 = .ok (.getfield 9, 3) := by decide +kernel
theorem dX10_entriesIn_50 : decode cX10_entriesIn 50 = .ok (.iload 6, 2) := by decide +kernel
theorem dX10_entriesIn_52 : decode cX10_entriesIn 52 = .ok (.iaload, 1) := by decide +kernel
theorem dX10_entriesIn_53 : decode cX10_entriesIn 53 = .ok (.invokestatic 42, 3) := by decide +kernel
theorem dX10_entriesIn_56 : decode cX10_entriesIn 56 = .ok (.ifCond .eq 31, 3) := by decide +kernel
theorem dX10_entriesIn_59 : decode cX10_entriesIn 59 = .ok (.aload_n 0, 1) := by decide +kernel
theorem dX10_entriesIn_60 : decode cX10_entriesIn 60 = .ok (.getfield 9, 3) := by decide +kernel
theorem dX10_entriesIn_63 : decode cX10_entriesIn 63 = .ok (.iload 6, 2) := by decide +kernel
theorem dX10_entriesIn_65 : decode cX10_entriesIn 65 = .ok (.iaload, 1) := by decide +kernel
theorem dX10_entriesIn_66 : decode cX10_entriesIn 66 = .ok (.iload_n 3, 1) := by decide +kernel
theorem dX10_entriesIn_67 : decode cX10_entriesIn 67 = .ok (.iushr, 1) := by decide +kernel
theorem dX10_entriesIn_68 : decode cX10_entriesIn 68 = .ok (.iload 5, 2) := by decide +kernel
theorem dX10_entriesIn_70 : decode cX10_entriesIn 70 = .ok (.if_icmp .eq 17, 3) := by decide +kernel
theorem dX10_entriesIn_73 : decode cX10_entriesIn 73 = .ok (.aload_n 0, 1) := by decide +kernel
theorem dX10_entriesIn_74 : decode cX10_entriesIn 74 = .ok (.getfield 9, 3) := by decide +kernel
theorem dX10_entriesIn_77 : decode cX10_entriesIn 77 = .ok (.iload 6, 2) := by decide +kernel
theorem dX10_entriesIn_79 : decode cX10_entriesIn 79 = .ok (.iaload, 1) := by decide +kernel
theorem dX10_entriesIn_80 : decode cX10_entriesIn 80 = .ok (.iload_n 3, 1) := by decide +kernel
theorem dX10_entriesIn_81 : decode cX10_entriesIn 81 = .ok (.iushr, 1) := by decide +kernel
theorem dX10_entriesIn_82 : decode cX10_entriesIn 82 = .ok (.istore 5, 2) := by decide +kernel
theorem dX10_entriesIn_84 : decode cX10_entriesIn 84 = .ok (.iinc 4 1, 3) := by decide +kernel
theorem dX10_entriesIn_87 : decode cX10_entriesIn 87 = .ok (.iinc 6 1, 3) := by decide +kernel
theorem dX10_entriesIn_90 : decode cX10_entriesIn 90 = .ok (.goto (-69), 3) := by decide +kernel
theorem dX10_entriesIn_93 : decode cX10_entriesIn 93 = .ok (.iload 4, 2) := by decide +kernel
theorem dX10_entriesIn_95 : decode cX10_entriesIn 95 = .ok (.ireturn, 1) := by decide +kernel
theorem dX10_clashes_0 : decode cX10_clashes 0 = .ok (.iconst 1, 1) := by decide +kernel
theorem dX10_clashes_1 : decode cX10_clashes 1 = .ok (.istore_n 1, 1) := by decide +kernel
theorem dX10_clashes_2 : decode cX10_clashes 2 = .ok (.iload_n 1, 1) := by decide +kernel
theorem dX10_clashes_3 : decode cX10_clashes 3 = .ok (.aload_n 0, 1) := by decide +kernel
theorem dX10_clashes_4 : decode cX10_clashes 4 = .ok (.getfield 23, 3) := by decide +kernel
theorem dX10_clashes_7 : decode cX10_clashes 7 = .ok (.if_icmp .ge 31, 3) := by decide +kernel
theorem dX10_clashes_10 : decode cX10_clashes 10 = .ok (.aload_n 0, 1) := by decide +kernel
theorem dX10_clashes_11 : decode cX10_clashes 11 = .ok (.getfield 9, 3) := by decide +kernel
theorem dX10_clashes_14 : decode cX10_clashes 14 = .ok (.iload_n 1, 1) := by decide +kernel
theorem dX10_clashes_15 : decode cX10_clashes 15 = .ok (.iconst 1, 1) := by decide +kernel
theorem dX10_clashes_16 : decode cX10_clashes 16 = .ok (.isub, 1) := by decide +kernel
theorem dX10_clashes_17 : decode cX10_clashes 17 = .ok (.iaload, 1) := by decide +kernel
theorem dX10_clashes_18 : decode cX10_clashes 18 = .ok (.aload_n 0, 1) := by decide +kernel
theorem dX10_clashes_19 : decode cX10_clashes 19 = .ok (.getfield 9, 3) := by decide +kernel
theorem dX10_clashes_22 : decode cX10_clashes 22 = .ok (.iload_n 1, 1) := by decide +kernel
theorem dX10_clashes_23 : decode cX10_clashes 23 = .ok (.iaload, 1) := by decide +kernel
theorem dX10_clashes_24 : decode cX10_clashes 24 = .ok (.invokestatic 42, 3) := by decide +kernel
theorem dX10_clashes_27 : decode cX10_clashes 27 = .ok (.ifCond .eq 5, 3) := by decide +kernel
theorem dX10_clashes_30 : decode cX10_clashes 30 = .ok (.iconst 1, 1) := by decide +kernel
theorem dX10_clashes_31 : decode cX10_clashes 31 = .ok (.ireturn, 1) := by decide +kernel
theorem dX10_clashes_32 : decode cX10_clashes 32 = .ok (.iinc 1 1, 3) := by decide +kernel
theorem dX10_clashes_35 : decode cX10_clashes 35 = .ok (.goto (-33), 3) := by decide +kernel
theorem dX10_clashes_38 : decode cX10_clashes 38 = .ok (.iconst 0, 1) := by decide +kernel
theorem dX10_clashes_39 : decode cX10_clashes 39 = .ok (.ireturn, 1) := by decide +kernel
theorem dX10_isTaken_0 : decode cX10_isTaken 0 = .ok (.iconst 0, 1) := by decide +kernel
theorem dX10_isTaken_1 : decode cX10_isTaken 1 = .ok (.istore_n 2, 1) := by decide +kernel
theorem dX10_isTaken_2 : decode cX10_isTaken 2 = .ok (.iload_n 2, 1) := by decide +kernel
theorem dX10_isTaken_3 : decode cX10_isTaken 3 = .ok (.aload_n 0, 1) := by decide +kernel
theorem dX10_isTaken_4 : decode cX10_isTaken 4 = .ok (.getfield 23, 3) := by decide +kernel
theorem dX10_isTaken_7 : decode cX10_isTaken 7 = .ok (.if_icmp .ge 37, 3) := by decide +kernel
theorem dX10_isTaken_10 : decode cX10_isTaken 10 = .ok (.aload_n 0, 1) := by decide +kernel
theorem dX10_isTaken_11 : decode cX10_isTaken 11 = .ok (.getfield 9, 3) := by decide +kernel
theorem dX10_isTaken_14 : decode cX10_isTaken 14 = .ok (.iload_n 2, 1) := by decide +kernel
theorem dX10_isTaken_15 : decode cX10_isTaken 15 = .ok (.iaload, 1) := by decide +kernel
theorem dX10_isTaken_16 : decode cX10_isTaken 16 = .ok (.iload_n 1, 1) := by decide +kernel
theorem dX10_isTaken_17 : decode cX10_isTaken 17 = .ok (.invokestatic 42, 3) := by decide +kernel
theorem dX10_isTaken_20 : decode cX10_isTaken 20 = .ok (.ifCond .ne 16, 3) := by decide +kernel
theorem dX10_isTaken_23 : decode cX10_isTaken 23 = .ok (.iload_n 1, 1) := by decide +kernel
theorem dX10_isTaken_24 : decode cX10_isTaken 24 = .ok (.aload_n 0, 1) := by decide +kernel
theorem dX10_isTaken_25 : decode cX10_isTaken 25 = .ok (.getfield 9, 3) := by decide +kernel
theorem dX10_isTaken_28 : decode cX10_isTaken 28 = .ok (.iload_n 2, 1) := by decide +kernel
theorem dX10_isTaken_29 : decode cX10_isTaken 29 = .ok (.iaload, 1) := by decide +kernel
theorem dX10_isTaken_30 : decode cX10_isTaken 30 = .ok (.invokestatic 42, 3) := by decide +kernel
theorem dX10_isTaken_33 : decode cX10_isTaken 33 = .ok (.ifCond .eq 5, 3) := by decide +kernel
theorem dX10_isTaken_36 : decode cX10_isTaken 36 = .ok (.iconst 1, 1) := by decide +kernel
theorem dX10_isTaken_37 : decode cX10_isTaken 37 = .ok (.ireturn, 1) := by decide +kernel
theorem dX10_isTaken_38 : decode cX10_isTaken 38 = .ok (.iinc 2 1, 3) := by decide +kernel
theorem dX10_isTaken_41 : decode cX10_isTaken 41 = .ok (.goto (-39), 3) := by decide +kernel
theorem dX10_isTaken_44 : decode cX10_isTaken 44 = .ok (.iconst 0, 1) := by decide +kernel
theorem dX10_isTaken_45 : decode cX10_isTaken 45 = .ok (.ireturn, 1) := by decide +kernel
theorem dX10_isLike_0 : decode cX10_isLike 0 = .ok (.aload_n 0, 1) := by decide +kernel
theorem dX10_isLike_1 : decode cX10_isLike 1 = .ok (.getfield 23, 3) := by decide +kernel
theorem dX10_isLike_4 : decode cX10_isLike 4 = .ok (.aload_n 1, 1) := by decide +kernel
theorem dX10_isLike_5 : decode cX10_isLike 5 = .ok (.getfield 23, 3) := by decide +kernel
theorem dX10_isLike_8 : decode cX10_isLike 8 = .ok (.if_icmp .eq 5, 3) := by decide +kernel
theorem dX10_isLike_11 : decode cX10_isLike 11 = .ok (.iconst 0, 1) := by decide +kernel
theorem dX10_isLike_12 : decode cX10_isLike 12 = .ok (.ireturn, 1) := by decide +kernel
theorem dX10_isLike_13 : decode cX10_isLike 13 = .ok (.iconst 0, 1) := by decide +kernel
theorem dX10_isLike_14 : decode cX10_isLike 14 = .ok (.istore_n 2, 1) := by decide +kernel
theorem dX10_isLike_15 : decode cX10_isLike 15 = .ok (.iload_n 2, 1) := by decide +kernel
theorem dX10_isLike_16 : decode cX10_isLike 16 = .ok (.aload_n 0, 1) := by decide +kernel
theorem dX10_isLike_17 : decode cX10_isLike 17 = .ok (.getfield 23, 3) := by decide +kernel
theorem dX10_isLike_20 : decode cX10_isLike 20 = .ok (.if_icmp .ge 41, 3) := by decide +kernel
theorem dX10_isLike_23 : decode cX10_isLike 23 = .ok (.aload_n 0, 1) := by decide +kernel
theorem dX10_isLike_24 : decode cX10_isLike 24 = .ok (.getfield 9, 3) := by decide +kernel
theorem dX10_isLike_27 : decode cX10_isLike 27 = .ok (.iload_n 2, 1) := by decide +kernel
theorem dX10_isLike_28 : decode cX10_isLike 28 = .ok (.iaload, 1) := by decide +kernel
theorem dX10_isLike_29 : decode cX10_isLike 29 = .ok (.aload_n 1, 1) := by decide +kernel
theorem dX10_isLike_30 : decode cX10_isLike 30 = .ok (.getfield 9, 3) := by decide +kernel
theorem dX10_isLike_33 : decode cX10_isLike 33 = .ok (.iload_n 2, 1) := by decide +kernel
theorem dX10_isLike_34 : decode cX10_isLike 34 = .ok (.iaload, 1) := by decide +kernel
theorem dX10_isLike_35 : decode cX10_isLike 35 = .ok (.if_icmp .ne 18, 3) := by decide +kernel
theorem dX10_isLike_38 : decode cX10_isLike 38 = .ok (.aload_n 0, 1) := by decide +kernel
theorem dX10_isLike_39 : decode cX10_isLike 39 = .ok (.getfield 15, 3) := by decide +kernel
theorem dX10_isLike_42 : decode cX10_isLike 42 = .ok (.iload_n 2, 1) := by decide +kernel
theorem dX10_isLike_43 : decode cX10_isLike 43 = .ok (.iaload, 1) := by decide +kernel
theorem dX10_isLike_44 : decode cX10_isLike 44 = .ok (.aload_n 1, 1) := by decide +kernel
theorem dX10_isLike_45 : decode cX10_isLike 45 = .ok (.getfield 15, 3) := by decide +kernel
theorem dX10_isLike_48 : decode cX10_isLike 48 = .ok (.iload_n 2, 1) := by decide +kernel
theorem dX10_isLike_49 : decode cX10_isLike 49 = .ok (.iaload, 1) := by decide +kernel
theorem dX10_isLike_50 : decode cX10_isLike 50 = .ok (.if_icmp .eq 5, 3) := by decide +kernel
theorem dX10_isLike_53 : decode cX10_isLike 53 = .ok (.iconst 0, 1) := by decide +kernel
theorem dX10_isLike_54 : decode cX10_isLike 54 = .ok (.ireturn, 1) := by decide +kernel
theorem dX10_isLike_55 : decode cX10_isLike 55 = .ok (.iinc 2 1, 3) := by decide +kernel
theorem dX10_isLike_58 : decode cX10_isLike 58 = .ok (.goto (-43), 3) := by decide +kernel
theorem dX10_isLike_61 : decode cX10_isLike 61 = .ok (.iconst 1, 1) := by decide +kernel
theorem dX10_isLike_62 : decode cX10_isLike 62 = .ok (.ireturn, 1) := by decide +kernel
theorem dX10_isLikeAt_0 : decode cX10_isLikeAt 0 = .ok (.aload_n 0, 1) := by decide +kernel
theorem dX10_isLikeAt_1 : decode cX10_isLikeAt 1 = .ok (.iload_n 2, 1) := by decide +kernel
theorem dX10_isLikeAt_2 : decode cX10_isLikeAt 2 = .ok (.invokevirtual 53, 3) := by decide +kernel
theorem dX10_isLikeAt_5 : decode cX10_isLikeAt 5 = .ok (.aload_n 1, 1) := by decide +kernel
theorem dX10_isLikeAt_6 : decode cX10_isLikeAt 6 = .ok (.iload_n 2, 1) := by decide +kernel
theorem dX10_isLikeAt_7 : decode cX10_isLikeAt 7 = .ok (.invokevirtual 53, 3) := by decide +kernel
theorem dX10_isLikeAt_10 : decode cX10_isLikeAt 10 = .ok (.if_icmp .eq 5, 3) := by decide +kernel
theorem dX10_isLikeAt_13 : decode cX10_isLikeAt 13 = .ok (.iconst 0, 1) := by decide +kernel
theorem dX10_isLikeAt_14 : decode cX10_isLikeAt 14 = .ok (.ireturn, 1) := by decide +kernel
theorem dX10_isLikeAt_15 : decode cX10_isLikeAt 15 = .ok (.iconst 0, 1) := by decide +kernel
theorem dX10_isLikeAt_16 : decode cX10_isLikeAt 16 = .ok (.istore_n 3, 1) := by decide +kernel
theorem dX10_isLikeAt_17 : decode cX10_isLikeAt 17 = .ok (.iload_n 3, 1) := by decide +kernel
theorem dX10_isLikeAt_18 : decode cX10_isLikeAt 18 = .ok (.aload_n 0, 1) := by decide +kernel
theorem dX10_isLikeAt_19 : decode cX10_isLikeAt 19 = .ok (.getfield 23, 3) := by decide +kernel
theorem dX10_isLikeAt_22 : decode cX10_isLikeAt 22 = .ok (.if_icmp .ge 43, 3) := by decide +kernel
theorem dX10_isLikeAt_25 : decode cX10_isLikeAt 25 = .ok (.iload_n 2, 1) := by decide +kernel
theorem dX10_isLikeAt_26 : decode cX10_isLikeAt 26 = .ok (.aload_n 0, 1) := by decide +kernel
theorem dX10_isLikeAt_27 : decode cX10_isLikeAt 27 = .ok (.getfield 9, 3) := by decide +kernel
theorem dX10_isLikeAt_30 : decode cX10_isLikeAt 30 = .ok (.iload_n 3, 1) := by decide +kernel
theorem dX10_isLikeAt_31 : decode cX10_isLikeAt 31 = .ok (.iaload, 1) := by decide +kernel
theorem dX10_isLikeAt_32 : decode cX10_isLikeAt 32 = .ok (.invokestatic 42, 3) := by decide +kernel
theorem dX10_isLikeAt_35 : decode cX10_isLikeAt 35 = .ok (.ifCond .eq 24, 3) := by decide +kernel
theorem dX10_isLikeAt_38 : decode cX10_isLikeAt 38 = .ok (.aload_n 1, 1) := by decide +kernel
theorem dX10_isLikeAt_39 : decode cX10_isLikeAt 39 = .ok (.aload_n 0, 1) := by decide +kernel
theorem dX10_isLikeAt_40 : decode cX10_isLikeAt 40 = .ok (.getfield 9, 3) := by decide +kernel
theorem dX10_isLikeAt_43 : decode cX10_isLikeAt 43 = .ok (.iload_n 3, 1) := by decide +kernel
theorem dX10_isLikeAt_44 : decode cX10_isLikeAt 44 = .ok (.iaload, 1) := by decide +kernel
theorem dX10_isLikeAt_45 : decode cX10_isLikeAt 45 = .ok (.invokevirtual 46, 3) := by decide +kernel
theorem dX10_isLikeAt_48 : decode cX10_isLikeAt 48 = .ok (.aload_n 0, 1) := by decide +kernel
theorem dX10_isLikeAt_49 : decode cX10_isLikeAt 49 = .ok (.getfield 15, 3) := by decide +kernel
theorem dX10_isLikeAt_52 : decode cX10_isLikeAt 52 = .ok (.iload_n 3, 1) := by decide +kernel
theorem dX10_isLikeAt_53 : decode cX10_isLikeAt 53 = .ok (.iaload, 1) := by decide +kernel
theorem dX10_isLikeAt_54 : decode cX10_isLikeAt 54 = .ok (.if_icmp .eq 5, 3) := by decide +kernel
theorem dX10_isLikeAt_57 : decode cX10_isLikeAt 57 = .ok (.iconst 0, 1) := by decide +kernel
theorem dX10_isLikeAt_58 : decode cX10_isLikeAt 58 = .ok (.ireturn, 1) := by decide +kernel
theorem dX10_isLikeAt_59 : decode cX10_isLikeAt 59 = .ok (.iinc 3 1, 3) := by decide +kernel
theorem dX10_isLikeAt_62 : decode cX10_isLikeAt 62 = .ok (.goto (-45), 3) := by decide +kernel
theorem dX10_isLikeAt_65 : decode cX10_isLikeAt 65 = .ok (.iconst 1, 1) := by decide +kernel
theorem dX10_isLikeAt_66 : decode cX10_isLikeAt 66 = .ok (.ireturn, 1) := by decide +kernel
abbrev gF : Type := Int × Int
/-- a tree at t: its shape -/
def tSh (sh : gS) (t : Int) (n : Nat) : Prop := gsh sh t = some (0, 11) ∧ gsh sh (t + 1) = some (1, n) ∧ gsh sh (t + 2) = some (1, n) ∧ t < 758
/-- files from place i on -/
def tSuf (M : gM) (t i : Int) (fs : List gF) : Prop := 0 ≤ i ∧ M t 2 = i + (fs.length : Int) ∧ ∀ (j : Nat) (f : gF), fs[j]? = some f → M (t + 1) (i + (j : Int)) = f.1 ∧ M (t + 2) (i + (j : Int)) = f.2 ∧ 0 ≤ f.1 ∧ f.1 < 1073741824
def tOk (sh : gS) (M : gM) (t : Int) (n : Nat) (fs : List gF) : Prop := tSh sh t n ∧ n ≤ 32 ∧ tSuf M t 0 fs ∧ fs.length ≤ n
theorem tSuf_nil {M : gM} {t i : Int} (h : tSuf M t i []) : M t 2 = i := by have := h.2.1; simpa using this
theorem tSuf_cons {M : gM} {t i : Int} {f : gF} {r : List gF} (h : tSuf M t i (f :: r)) : 0 ≤ i ∧ i < M t 2 ∧ M (t + 1) i = f.1 ∧ M (t + 2) i = f.2 ∧ (0 ≤ f.1 ∧ f.1 < 1073741824) ∧ tSuf M t (i + 1) r := by
  obtain ⟨h0, h1, h2⟩ := h
  simp only [List.length_cons] at h1
  obtain ⟨a, b, c, d⟩ := h2 0 f rfl
  simp only [Int.natCast_zero, Int.add_zero] at a b
  refine ⟨h0, by omega, a, b, ⟨c, d⟩, by omega, by omega, fun j g hg => ?_⟩
  obtain ⟨a2, b2, c2, d2⟩ := h2 (j + 1) g hg
  have e : i + 1 + (j : Int) = i + ((j + 1 : Nat) : Int) := by omega
  rw [e]
  exact ⟨a2, b2, c2, d2⟩
theorem tOk_c {sh : gS} {M : gM} {t : Int} {n : Nat} {fs : List gF} (h : tOk sh M t n fs) : M t 2 = (fs.length : Int) ∧ M t 2 ≤ (n : Int) ∧ (n : Int) ≤ 32 ∧ 0 ≤ M t 2 := by
  obtain ⟨h1, h2, h3, h4⟩ := h
  have := h3.2.1
  omega
def tFind (w : Int) : List gF → Int → Int
  | [], _ => -1
  | f :: r, i => if f.1 = w then i else tFind w r (i + 1)
def tCont (w : Int) : List gF → Int
  | [] => 0
  | f :: r => if f.1 = w then f.2 else tCont w r
def tCnt (w : Int) : List gF → Int
  | [] => 0
  | f :: r => bI (pCov w f.1) + tCnt w r
def tFolder (w : Int) : List gF → Bool
  | [] => false
  | f :: r => if f.1 = w then tFolder w r else if pCov w f.1 then true else tFolder w r
def tAhead (w : Int) : List gF → Bool
  | [] => false
  | f :: r => if f.1 = w then tAhead w r else if pCov f.1 w then true else tAhead w r
def tAlone (w : Int) : List gF → Bool
  | [] => true
  | f :: r => if pCov w f.1 then if pNm w + 1 < pNm f.1 then false else tAlone w r else tAlone w r
def tEnt (w : Int) : List gF → Int → Int
  | [], _ => 0
  | f :: r, last => if f.1 = w then tEnt w r last else if pCov w f.1 then if gushr f.1 (25 - 5 * pNm w) = last then tEnt w r last else 1 + tEnt w r (gushr f.1 (25 - 5 * pNm w)) else tEnt w r last
def tClash : Int → List gF → Bool
  | _, [] => false
  | a, f :: r => if pCov a f.1 then true else tClash f.1 r
def tClash0 : List gF → Bool
  | [] => false
  | f :: r => tClash f.1 r
def tTaken (w : Int) : List gF → Bool
  | [] => false
  | f :: r => if pCov f.1 w then true else if pCov w f.1 then true else tTaken w r
theorem bI_t {b : Bool} (h : bI b ≠ 0) : b = true := by cases b <;> simp_all [bI]
theorem bI_f {b : Bool} (h : bI b = 0) : b = false := by cases b <;> simp_all [bI]
theorem bI_01 (b : Bool) : bI b = 0 ∨ bI b = 1 := by cases b <;> simp [bI]
theorem tCnt_rng (w : Int) : ∀ fs : List gF, 0 ≤ tCnt w fs ∧ tCnt w fs ≤ (fs.length : Int)
  | [] => ⟨Int.le_refl 0, Int.le_refl 0⟩
  | f :: r => by
    have := tCnt_rng w r
    have := bI_01 (pCov w f.1)
    simp only [tCnt, List.length_cons]
    omega
theorem sp_X10_find {sh : gS} {M : gM} {t w : Int} {n : Nat} {fs : List gF} (hOK : gOK sh M) (hT : tOk sh M t n fs) :
    gC (gr 0 0) yX10_find cX10_find 3 (some (.int)) [(4, t), (0, w)] sh M (gPp sh M (0, tFind w fs 0)) := by
  have hc := tOk_c hT
  obtain ⟨⟨hs0, hs1, hs2, hlt⟩, hn, hT, hl⟩ := hT
  refine gC_ofA (lv := [_, _, _]) (by decide +kernel) (Nat.le_of_ble_eq_true rfl) rfl (fun hMw hav => ?_)
  have lp : ∀ (suf : List gF) (i : Int), tSuf M t i suf → tFind w suf i = tFind w fs 0 →
      gA (gr 0 0) yX10_find cX10_find 3 (some (.int)) (gPp sh M (0, tFind w fs 0)) (0, 0) 2 [(4, t), (0, w), (0, i)] [] sh M := by
    intro suf
    induction suf with
    | nil =>
      intro i hS hv
      have h0 := tSuf_nil hS
      refine g_iload_n (q0 := 3) (j := 2) rfl dX10_find_2 rfl ?_
      refine g_aload_n (q0 := 4) (j := 0) rfl dX10_find_3 rfl ?_
      refine g_getf (q0 := 7) (t := 0) (fi := 2) rfl rfl ff_X10_23 dX10_find_4 rfl (by assumption) ?_
      refine g_icmp_ge (q0 := 10) (tgt := 28) rfl dX10_find_7 (by decide) (fun h7 => ?_) (fun h7 => ?_)
      · refine g_iconst (q0 := 29) rfl dX10_find_28 (k := ?_)
        refine g_ireturn dX10_find_29 rfl ⟨Nat.zero_le _, Nat.zero_le _⟩ ?_
        exact ⟨by rw [← hv]; rfl, rfl, rfl⟩
      · omega
    | cons f r ih =>
      intro i hS hv
      obtain ⟨k0, k1, k2, k3, k4, k5⟩ := tSuf_cons hS
      rw [tFind] at hv
      refine g_iload_n (q0 := 3) (j := 2) rfl dX10_find_2 rfl ?_
      refine g_aload_n (q0 := 4) (j := 0) rfl dX10_find_3 rfl ?_
      refine g_getf (q0 := 7) (t := 0) (fi := 2) rfl rfl ff_X10_23 dX10_find_4 rfl (by assumption) ?_
      refine g_icmp_ge (q0 := 10) (tgt := 28) rfl dX10_find_7 (by decide) (fun h7 => ?_) (fun h7 => ?_)
      · omega
      · refine g_aload_n (q0 := 11) (j := 0) rfl dX10_find_10 rfl ?_
        refine g_getp (q0 := 14) (b := t + 1) rfl ff_X10_9 dX10_find_11 rfl hOK (by omega) (by assumption) rfl rfl ?_
        refine g_iload_n (q0 := 15) (j := 2) rfl dX10_find_14 rfl ?_
        refine g_iald (q0 := 16) rfl dX10_find_15 (by assumption) (by omega) (by omega) ?_
        refine g_iload_n (q0 := 17) (j := 1) rfl dX10_find_16 rfl ?_
        refine g_icmp_ne (q0 := 20) (tgt := 22) rfl dX10_find_17 (by decide) (fun h17 => ?_) (fun h17 => ?_)
        · rw [k2] at h17
          rw [if_neg h17] at hv
          refine g_iinc (q0 := 25) (lv2 := [_, _, _]) rfl dX10_find_22 rfl (by decide) rfl rfl (by omega) (by omega) ?_
          refine g_goto (tgt := 2) dX10_find_25 (by decide) ?_
          exact ih (i + 1) k5 hv
        · rw [k2] at h17
          rw [if_pos h17] at hv
          refine g_iload_n (q0 := 21) (j := 2) rfl dX10_find_20 rfl ?_
          refine g_ireturn dX10_find_21 rfl ⟨Nat.zero_le _, Nat.zero_le _⟩ ?_
          exact ⟨by rw [← hv], rfl, rfl⟩
  refine g_iconst (q0 := 1) rfl dX10_find_0 (k := ?_)
  refine g_istore_n (q0 := 2) (j := 2) (lv2 := [_, _, _]) rfl dX10_find_1 (by decide) rfl rfl ?_
  exact lp fs 0 hT rfl
theorem tFind_i (w : Int) : ∀ (fs : List gF) (i : Int), (tFind w fs i = -1 ∧ tCont w fs = 0 ∧ ∀ f ∈ fs, f.1 ≠ w) ∨ (∃ (j : Nat) (f : gF), fs[j]? = some f ∧ f.1 = w ∧ tFind w fs i = i + (j : Int) ∧ tCont w fs = f.2)
  | [], i => Or.inl ⟨rfl, rfl, fun _ h => by cases h⟩
  | g :: r, i => by
    unfold tFind tCont
    by_cases h : g.1 = w
    · rw [if_pos h, if_pos h]
      exact Or.inr ⟨0, g, rfl, h, by simp, rfl⟩
    · rw [if_neg h, if_neg h]
      rcases tFind_i w r (i + 1) with ⟨a, b, c⟩ | ⟨j, f, a, b, c, d⟩
      · exact Or.inl ⟨a, b, fun f hf => (List.mem_cons.mp hf).elim (fun e => by rw [e]; exact h) (fun q => c f q)⟩
      · exact Or.inr ⟨j + 1, f, a, b, by omega, d⟩
theorem sp_X10_contentAt {sh : gS} {M : gM} {t w : Int} {n : Nat} {fs : List gF} (hOK : gOK sh M) (hT : tOk sh M t n fs) :
    gC (gr 1 22) yX10_contentAt cX10_contentAt 3 (some (.int)) [(4, t), (0, w)] sh M (gPp sh M (0, tCont w fs)) := by
  have hc := tOk_c hT
  have hT0 := hT
  obtain ⟨⟨hs0, hs1, hs2, hlt⟩, hn, hT, hl⟩ := hT
  refine gC_ofA (lv := [_, _, _]) (by decide +kernel) (Nat.le_of_ble_eq_true rfl) rfl (fun hMw hav => ?_)
  refine g_aload_n (q0 := 1) (j := 0) rfl dX10_contentAt_0 rfl ?_
  refine g_iload_n (q0 := 2) (j := 1) rfl dX10_contentAt_1 rfl ?_
  refine g_callVp (as := [_]) (rest := []) mt_X10_find mi_X10_find se_X10_find ml_X10_39 dX10_contentAt_2 (q0 := 5) rfl rfl (by assumption) rfl rfl (sp_X10_find hOK hT0) rfl ⟨by decide, by decide⟩ (Nat.le_of_ble_eq_true rfl) ⟨Nat.zero_le _, Nat.zero_le _⟩ (fun hwc => ?_)
  rcases tFind_i w fs 0 with ⟨a, b, -⟩ | ⟨j, f, a, -, c, d⟩
  · rw [a, b]
    refine g_istore_n (q0 := 6) (j := 2) (lv2 := [_, _, _]) rfl dX10_contentAt_5 (by decide) rfl rfl ?_
    refine g_iload_n (q0 := 7) (j := 2) rfl dX10_contentAt_6 rfl ?_
    refine g_if_ge (q0 := 10) (tgt := 14) rfl dX10_contentAt_7 (by decide) (fun h7 => ?_) (fun h7 => ?_)
    · omega
    · refine g_iconst (q0 := 11) rfl dX10_contentAt_10 (k := ?_)
      refine g_goto (tgt := 20) dX10_contentAt_11 (by decide) ?_
      refine g_ireturn dX10_contentAt_20 rfl ⟨Nat.zero_le _, Nat.zero_le _⟩ ?_
      exact ⟨rfl, rfl, rfl⟩
  · obtain ⟨e1, e2, e3, e4⟩ := hT.2.2 j f a
    have hj := (List.getElem?_eq_some_iff.mp a).1
    rw [c, d]
    refine g_istore_n (q0 := 6) (j := 2) (lv2 := [_, _, _]) rfl dX10_contentAt_5 (by decide) rfl rfl ?_
    refine g_iload_n (q0 := 7) (j := 2) rfl dX10_contentAt_6 rfl ?_
    refine g_if_ge (q0 := 10) (tgt := 14) rfl dX10_contentAt_7 (by decide) (fun h7 => ?_) (fun h7 => ?_)
    · refine g_aload_n (q0 := 15) (j := 0) rfl dX10_contentAt_14 rfl ?_
      refine g_getp (q0 := 18) (b := t + 2) rfl ff_X10_15 dX10_contentAt_15 rfl hOK (by omega) (by assumption) rfl rfl ?_
      refine g_iload_n (q0 := 19) (j := 2) rfl dX10_contentAt_18 rfl ?_
      refine g_iald (q0 := 20) rfl dX10_contentAt_19 (by assumption) (by omega) (by omega) ?_
      refine g_ireturn dX10_contentAt_20 rfl ⟨Nat.zero_le _, Nat.zero_le _⟩ ?_
      exact ⟨by rw [e2], rfl, rfl⟩
    · omega
theorem sp_X10_filesAt {sh : gS} {M : gM} {t w : Int} {n : Nat} {fs : List gF} (hOK : gOK sh M) (hT : tOk sh M t n fs) (hw : 0 ≤ w ∧ w < 1073741824) :
    gC (gr 1 23) yX10_filesAt cX10_filesAt 4 (some (.int)) [(4, t), (0, w)] sh M (gPp sh M (0, tCnt w fs)) := by
  have hc := tOk_c hT
  obtain ⟨⟨hs0, hs1, hs2, hlt⟩, hn, hT, hl⟩ := hT
  refine gC_ofA (lv := [_, _, _, _]) (by decide +kernel) (Nat.le_of_ble_eq_true rfl) rfl (fun hMw hav => ?_)
  have lp : ∀ (suf : List gF) (i acc : Int), tSuf M t i suf → 0 ≤ acc → acc ≤ i → acc + tCnt w suf = tCnt w fs →
      gA (gr 1 23) yX10_filesAt cX10_filesAt 4 (some (.int)) (gPp sh M (0, tCnt w fs)) (0, 0) 4 [(4, t), (0, w), (0, acc), (0, i)] [] sh M := by
    intro suf
    induction suf with
    | nil =>
      intro i acc hS h0 h1 hv
      have h0 := tSuf_nil hS
      refine g_iload_n (q0 := 5) (j := 3) rfl dX10_filesAt_4 rfl ?_
      refine g_aload_n (q0 := 6) (j := 0) rfl dX10_filesAt_5 rfl ?_
      refine g_getf (q0 := 9) (t := 0) (fi := 2) rfl rfl ff_X10_23 dX10_filesAt_6 rfl (by assumption) ?_
      refine g_icmp_ge (q0 := 12) (tgt := 34) rfl dX10_filesAt_9 (by decide) (fun h9 => ?_) (fun h9 => ?_)
      · refine g_iload_n (q0 := 35) (j := 2) rfl dX10_filesAt_34 rfl ?_
        refine g_ireturn dX10_filesAt_35 rfl ⟨Nat.zero_le _, Nat.zero_le _⟩ ?_
        exact ⟨by rw [← hv]; simp [tCnt], rfl, rfl⟩
      · omega
    | cons f r ih =>
      intro i acc hS h0 h1 hv
      obtain ⟨k0, k1, k2, k3, k4, k5⟩ := tSuf_cons hS
      rw [tCnt] at hv
      refine g_iload_n (q0 := 5) (j := 3) rfl dX10_filesAt_4 rfl ?_
      refine g_aload_n (q0 := 6) (j := 0) rfl dX10_filesAt_5 rfl ?_
      refine g_getf (q0 := 9) (t := 0) (fi := 2) rfl rfl ff_X10_23 dX10_filesAt_6 rfl (by assumption) ?_
      refine g_icmp_ge (q0 := 12) (tgt := 34) rfl dX10_filesAt_9 (by decide) (fun h9 => ?_) (fun h9 => ?_)
      · omega
      · refine g_iload_n (q0 := 13) (j := 1) rfl dX10_filesAt_12 rfl ?_
        refine g_aload_n (q0 := 14) (j := 0) rfl dX10_filesAt_13 rfl ?_
        refine g_getp (q0 := 17) (b := t + 1) rfl ff_X10_9 dX10_filesAt_14 rfl hOK (by omega) (by assumption) rfl rfl ?_
        refine g_iload_n (q0 := 18) (j := 3) rfl dX10_filesAt_17 rfl ?_
        refine g_iald (q0 := 19) rfl dX10_filesAt_18 (by assumption) (by omega) (by omega) ?_
        rw [k2]
        refine g_callSp (as := [_, _]) (rest := []) mt_X10_covers ms_X10_covers ml_X10_42 dX10_filesAt_19 (q0 := 22) rfl rfl (sp_X10_covers hw k4) rfl ⟨by decide, by decide⟩ (Nat.le_of_ble_eq_true rfl) ⟨Nat.zero_le _, Nat.zero_le _⟩ (fun hwc => ?_)
        refine g_if_eq (q0 := 25) (tgt := 28) rfl dX10_filesAt_22 (by decide) (fun h22 => ?_) (fun h22 => ?_)
        · rw [h22] at hv
          refine g_iinc (q0 := 31) (lv2 := [_, _, _, _]) rfl dX10_filesAt_28 rfl (by decide) rfl rfl (by omega) (by omega) ?_
          refine g_goto (tgt := 4) dX10_filesAt_31 (by decide) ?_
          exact ih (i + 1) acc k5 h0 (by omega) (by omega)
        · have e1 := bI_01 (pCov w f.1)
          refine g_iinc (q0 := 28) (lv2 := [_, _, _, _]) rfl dX10_filesAt_25 rfl (by decide) rfl rfl (by omega) (by omega) ?_
          refine g_iinc (q0 := 31) (lv2 := [_, _, _, _]) rfl dX10_filesAt_28 rfl (by decide) rfl rfl (by omega) (by omega) ?_
          refine g_goto (tgt := 4) dX10_filesAt_31 (by decide) ?_
          exact ih (i + 1) (acc + 1) k5 (by omega) (by omega) (by omega)
  refine g_iconst (q0 := 1) rfl dX10_filesAt_0 (k := ?_)
  refine g_istore_n (q0 := 2) (j := 2) (lv2 := [_, _, _, _]) rfl dX10_filesAt_1 (by decide) rfl rfl ?_
  refine g_iconst (q0 := 3) rfl dX10_filesAt_2 (k := ?_)
  refine g_istore_n (q0 := 4) (j := 3) (lv2 := [_, _, _, _]) rfl dX10_filesAt_3 (by decide) rfl rfl ?_
  exact lp fs 0 0 hT (by omega) (by omega) (by omega)
theorem sp_X10_hasFolder {sh : gS} {M : gM} {t w : Int} {n : Nat} {fs : List gF} (hOK : gOK sh M) (hT : tOk sh M t n fs) (hw : 0 ≤ w ∧ w < 1073741824) :
    gC (gr 1 23) yX10_hasFolder cX10_hasFolder 3 (some (.boolean)) [(4, t), (0, w)] sh M (gPp sh M (0, bI (tFolder w fs))) := by
  have hc := tOk_c hT
  obtain ⟨⟨hs0, hs1, hs2, hlt⟩, hn, hT, hl⟩ := hT
  refine gC_ofA (lv := [_, _, _]) (by decide +kernel) (Nat.le_of_ble_eq_true rfl) rfl (fun hMw hav => ?_)
  have lp : ∀ (suf : List gF) (i : Int), tSuf M t i suf → tFolder w suf = tFolder w fs →
      gA (gr 1 23) yX10_hasFolder cX10_hasFolder 3 (some (.boolean)) (gPp sh M (0, bI (tFolder w fs))) (0, 0) 2 [(4, t), (0, w), (0, i)] [] sh M := by
    intro suf
    induction suf with
    | nil =>
      intro i hS hv
      have h0 := tSuf_nil hS
      refine g_iload_n (q0 := 3) (j := 2) rfl dX10_hasFolder_2 rfl ?_
      refine g_aload_n (q0 := 4) (j := 0) rfl dX10_hasFolder_3 rfl ?_
      refine g_getf (q0 := 7) (t := 0) (fi := 2) rfl rfl ff_X10_23 dX10_hasFolder_4 rfl (by assumption) ?_
      refine g_icmp_ge (q0 := 10) (tgt := 41) rfl dX10_hasFolder_7 (by decide) (fun h7 => ?_) (fun h7 => ?_)
      · refine g_iconst (q0 := 42) rfl dX10_hasFolder_41 (k := ?_)
        refine g_zreturn dX10_hasFolder_42 rfl (by first | rfl | exact gnz (by omega)) ⟨Nat.zero_le _, Nat.zero_le _⟩ ?_
        exact ⟨by rw [← hv]; rfl, rfl, rfl⟩
      · omega
    | cons f r ih =>
      intro i hS hv
      obtain ⟨k0, k1, k2, k3, k4, k5⟩ := tSuf_cons hS
      rw [tFolder] at hv
      refine g_iload_n (q0 := 3) (j := 2) rfl dX10_hasFolder_2 rfl ?_
      refine g_aload_n (q0 := 4) (j := 0) rfl dX10_hasFolder_3 rfl ?_
      refine g_getf (q0 := 7) (t := 0) (fi := 2) rfl rfl ff_X10_23 dX10_hasFolder_4 rfl (by assumption) ?_
      refine g_icmp_ge (q0 := 10) (tgt := 41) rfl dX10_hasFolder_7 (by decide) (fun h7 => ?_) (fun h7 => ?_)
      · omega
      · refine g_aload_n (q0 := 11) (j := 0) rfl dX10_hasFolder_10 rfl ?_
        refine g_getp (q0 := 14) (b := t + 1) rfl ff_X10_9 dX10_hasFolder_11 rfl hOK (by omega) (by assumption) rfl rfl ?_
        refine g_iload_n (q0 := 15) (j := 2) rfl dX10_hasFolder_14 rfl ?_
        refine g_iald (q0 := 16) rfl dX10_hasFolder_15 (by assumption) (by omega) (by omega) ?_
        refine g_iload_n (q0 := 17) (j := 1) rfl dX10_hasFolder_16 rfl ?_
        refine g_icmp_eq (q0 := 20) (tgt := 35) rfl dX10_hasFolder_17 (by decide) (fun h17 => ?_) (fun h17 => ?_)
        · rw [k2] at h17
          rw [if_pos h17] at hv
          refine g_iinc (q0 := 38) (lv2 := [_, _, _]) rfl dX10_hasFolder_35 rfl (by decide) rfl rfl (by omega) (by omega) ?_
          refine g_goto (tgt := 2) dX10_hasFolder_38 (by decide) ?_
          exact ih (i + 1) k5 hv
        · rw [k2] at h17
          rw [if_neg h17] at hv
          refine g_iload_n (q0 := 21) (j := 1) rfl dX10_hasFolder_20 rfl ?_
          refine g_aload_n (q0 := 22) (j := 0) rfl dX10_hasFolder_21 rfl ?_
          refine g_getp (q0 := 25) (b := t + 1) rfl ff_X10_9 dX10_hasFolder_22 rfl hOK (by omega) (by assumption) rfl rfl ?_
          refine g_iload_n (q0 := 26) (j := 2) rfl dX10_hasFolder_25 rfl ?_
          refine g_iald (q0 := 27) rfl dX10_hasFolder_26 (by assumption) (by omega) (by omega) ?_
          rw [k2]
          refine g_callSp (as := [_, _]) (rest := []) mt_X10_covers ms_X10_covers ml_X10_42 dX10_hasFolder_27 (q0 := 30) rfl rfl (sp_X10_covers hw k4) rfl ⟨by decide, by decide⟩ (Nat.le_of_ble_eq_true rfl) ⟨Nat.zero_le _, Nat.zero_le _⟩ (fun hwc => ?_)
          refine g_if_eq (q0 := 33) (tgt := 35) rfl dX10_hasFolder_30 (by decide) (fun h30 => ?_) (fun h30 => ?_)
          · rw [bI_f h30] at hv
            refine g_iinc (q0 := 38) (lv2 := [_, _, _]) rfl dX10_hasFolder_35 rfl (by decide) rfl rfl (by omega) (by omega) ?_
            refine g_goto (tgt := 2) dX10_hasFolder_38 (by decide) ?_
            exact ih (i + 1) k5 hv
          · rw [bI_t h30] at hv
            refine g_iconst (q0 := 34) rfl dX10_hasFolder_33 (k := ?_)
            refine g_zreturn dX10_hasFolder_34 rfl (by first | rfl | exact gnz (by omega)) ⟨Nat.zero_le _, Nat.zero_le _⟩ ?_
            exact ⟨by rw [← hv]; rfl, rfl, rfl⟩
  refine g_iconst (q0 := 1) rfl dX10_hasFolder_0 (k := ?_)
  refine g_istore_n (q0 := 2) (j := 2) (lv2 := [_, _, _]) rfl dX10_hasFolder_1 (by decide) rfl rfl ?_
  exact lp fs 0 hT rfl
theorem sp_X10_hasFileAhead {sh : gS} {M : gM} {t w : Int} {n : Nat} {fs : List gF} (hOK : gOK sh M) (hT : tOk sh M t n fs) (hw : 0 ≤ w ∧ w < 1073741824) :
    gC (gr 1 23) yX10_hasFileAhead cX10_hasFileAhead 3 (some (.boolean)) [(4, t), (0, w)] sh M (gPp sh M (0, bI (tAhead w fs))) := by
  have hc := tOk_c hT
  obtain ⟨⟨hs0, hs1, hs2, hlt⟩, hn, hT, hl⟩ := hT
  refine gC_ofA (lv := [_, _, _]) (by decide +kernel) (Nat.le_of_ble_eq_true rfl) rfl (fun hMw hav => ?_)
  have lp : ∀ (suf : List gF) (i : Int), tSuf M t i suf → tAhead w suf = tAhead w fs →
      gA (gr 1 23) yX10_hasFileAhead cX10_hasFileAhead 3 (some (.boolean)) (gPp sh M (0, bI (tAhead w fs))) (0, 0) 2 [(4, t), (0, w), (0, i)] [] sh M := by
    intro suf
    induction suf with
    | nil =>
      intro i hS hv
      have h0 := tSuf_nil hS
      refine g_iload_n (q0 := 3) (j := 2) rfl dX10_hasFileAhead_2 rfl ?_
      refine g_aload_n (q0 := 4) (j := 0) rfl dX10_hasFileAhead_3 rfl ?_
      refine g_getf (q0 := 7) (t := 0) (fi := 2) rfl rfl ff_X10_23 dX10_hasFileAhead_4 rfl (by assumption) ?_
      refine g_icmp_ge (q0 := 10) (tgt := 41) rfl dX10_hasFileAhead_7 (by decide) (fun h7 => ?_) (fun h7 => ?_)
      · refine g_iconst (q0 := 42) rfl dX10_hasFileAhead_41 (k := ?_)
        refine g_zreturn dX10_hasFileAhead_42 rfl (by first | rfl | exact gnz (by omega)) ⟨Nat.zero_le _, Nat.zero_le _⟩ ?_
        exact ⟨by rw [← hv]; rfl, rfl, rfl⟩
      · omega
    | cons f r ih =>
      intro i hS hv
      obtain ⟨k0, k1, k2, k3, k4, k5⟩ := tSuf_cons hS
      rw [tAhead] at hv
      refine g_iload_n (q0 := 3) (j := 2) rfl dX10_hasFileAhead_2 rfl ?_
      refine g_aload_n (q0 := 4) (j := 0) rfl dX10_hasFileAhead_3 rfl ?_
      refine g_getf (q0 := 7) (t := 0) (fi := 2) rfl rfl ff_X10_23 dX10_hasFileAhead_4 rfl (by assumption) ?_
      refine g_icmp_ge (q0 := 10) (tgt := 41) rfl dX10_hasFileAhead_7 (by decide) (fun h7 => ?_) (fun h7 => ?_)
      · omega
      · refine g_aload_n (q0 := 11) (j := 0) rfl dX10_hasFileAhead_10 rfl ?_
        refine g_getp (q0 := 14) (b := t + 1) rfl ff_X10_9 dX10_hasFileAhead_11 rfl hOK (by omega) (by assumption) rfl rfl ?_
        refine g_iload_n (q0 := 15) (j := 2) rfl dX10_hasFileAhead_14 rfl ?_
        refine g_iald (q0 := 16) rfl dX10_hasFileAhead_15 (by assumption) (by omega) (by omega) ?_
        refine g_iload_n (q0 := 17) (j := 1) rfl dX10_hasFileAhead_16 rfl ?_
        refine g_icmp_eq (q0 := 20) (tgt := 35) rfl dX10_hasFileAhead_17 (by decide) (fun h17 => ?_) (fun h17 => ?_)
        · rw [k2] at h17
          rw [if_pos h17] at hv
          refine g_iinc (q0 := 38) (lv2 := [_, _, _]) rfl dX10_hasFileAhead_35 rfl (by decide) rfl rfl (by omega) (by omega) ?_
          refine g_goto (tgt := 2) dX10_hasFileAhead_38 (by decide) ?_
          exact ih (i + 1) k5 hv
        · rw [k2] at h17
          rw [if_neg h17] at hv
          refine g_aload_n (q0 := 21) (j := 0) rfl dX10_hasFileAhead_20 rfl ?_
          refine g_getp (q0 := 24) (b := t + 1) rfl ff_X10_9 dX10_hasFileAhead_21 rfl hOK (by omega) (by assumption) rfl rfl ?_
          refine g_iload_n (q0 := 25) (j := 2) rfl dX10_hasFileAhead_24 rfl ?_
          refine g_iald (q0 := 26) rfl dX10_hasFileAhead_25 (by assumption) (by omega) (by omega) ?_
          refine g_iload_n (q0 := 27) (j := 1) rfl dX10_hasFileAhead_26 rfl ?_
          rw [k2]
          refine g_callSp (as := [_, _]) (rest := []) mt_X10_covers ms_X10_covers ml_X10_42 dX10_hasFileAhead_27 (q0 := 30) rfl rfl (sp_X10_covers k4 hw) rfl ⟨by decide, by decide⟩ (Nat.le_of_ble_eq_true rfl) ⟨Nat.zero_le _, Nat.zero_le _⟩ (fun hwc => ?_)
          refine g_if_eq (q0 := 33) (tgt := 35) rfl dX10_hasFileAhead_30 (by decide) (fun h30 => ?_) (fun h30 => ?_)
          · rw [bI_f h30] at hv
            refine g_iinc (q0 := 38) (lv2 := [_, _, _]) rfl dX10_hasFileAhead_35 rfl (by decide) rfl rfl (by omega) (by omega) ?_
            refine g_goto (tgt := 2) dX10_hasFileAhead_38 (by decide) ?_
            exact ih (i + 1) k5 hv
          · rw [bI_t h30] at hv
            refine g_iconst (q0 := 34) rfl dX10_hasFileAhead_33 (k := ?_)
            refine g_zreturn dX10_hasFileAhead_34 rfl (by first | rfl | exact gnz (by omega)) ⟨Nat.zero_le _, Nat.zero_le _⟩ ?_
            exact ⟨by rw [← hv]; rfl, rfl, rfl⟩
  refine g_iconst (q0 := 1) rfl dX10_hasFileAhead_0 (k := ?_)
  refine g_istore_n (q0 := 2) (j := 2) (lv2 := [_, _, _]) rfl dX10_hasFileAhead_1 (by decide) rfl rfl ?_
  exact lp fs 0 hT rfl

theorem sp_X10_hasFilesAlone {sh : gS} {M : gM} {t w : Int} {n : Nat} {fs : List gF} (hOK : gOK sh M) (hT : tOk sh M t n fs) (hw : 0 ≤ w ∧ w < 1073741824) :
    gC (gr 1 23) yX10_hasFilesAlone cX10_hasFilesAlone 4 (some (.boolean)) [(4, t), (0, w)] sh M (gPp sh M (0, bI (tAlone w fs))) := by
  have hc := tOk_c hT
  obtain ⟨⟨hs0, hs1, hs2, hlt⟩, hn, hT, hl⟩ := hT
  have hnw := pNm_rng w
  refine gC_ofA (lv := [_, _, _, _]) (by decide +kernel) (Nat.le_of_ble_eq_true rfl) rfl (fun hMw hav => ?_)
  have lp : ∀ (suf : List gF) (i : Int), tSuf M t i suf → tAlone w suf = tAlone w fs →
      gA (gr 1 23) yX10_hasFilesAlone cX10_hasFilesAlone 4 (some (.boolean)) (gPp sh M (0, bI (tAlone w fs))) (0, 0) 9 [(4, t), (0, w), (0, pNm w + 1), (0, i)] [] sh M := by
    intro suf
    induction suf with
    | nil =>
      intro i hS hv
      have h0 := tSuf_nil hS
      refine g_iload_n (q0 := 10) (j := 3) rfl dX10_hasFilesAlone_9 rfl ?_
      refine g_aload_n (q0 := 11) (j := 0) rfl dX10_hasFilesAlone_10 rfl ?_
      refine g_getf (q0 := 14) (t := 0) (fi := 2) rfl rfl ff_X10_23 dX10_hasFilesAlone_11 rfl (by assumption) ?_
      refine g_icmp_ge (q0 := 17) (tgt := 51) rfl dX10_hasFilesAlone_14 (by decide) (fun h14 => ?_) (fun h14 => ?_)
      · refine g_iconst (q0 := 52) rfl dX10_hasFilesAlone_51 (k := ?_)
        refine g_zreturn dX10_hasFilesAlone_52 rfl (by first | rfl | exact gnz (by omega)) ⟨Nat.zero_le _, Nat.zero_le _⟩ ?_
        exact ⟨by rw [← hv]; rfl, rfl, rfl⟩
      · omega
    | cons f r ih =>
      intro i hS hv
      obtain ⟨k0, k1, k2, k3, k4, k5⟩ := tSuf_cons hS
      rw [tAlone] at hv
      refine g_iload_n (q0 := 10) (j := 3) rfl dX10_hasFilesAlone_9 rfl ?_
      refine g_aload_n (q0 := 11) (j := 0) rfl dX10_hasFilesAlone_10 rfl ?_
      refine g_getf (q0 := 14) (t := 0) (fi := 2) rfl rfl ff_X10_23 dX10_hasFilesAlone_11 rfl (by assumption) ?_
      refine g_icmp_ge (q0 := 17) (tgt := 51) rfl dX10_hasFilesAlone_14 (by decide) (fun h14 => ?_) (fun h14 => ?_)
      · omega
      · refine g_iload_n (q0 := 18) (j := 1) rfl dX10_hasFilesAlone_17 rfl ?_
        refine g_aload_n (q0 := 19) (j := 0) rfl dX10_hasFilesAlone_18 rfl ?_
        refine g_getp (q0 := 22) (b := t + 1) rfl ff_X10_9 dX10_hasFilesAlone_19 rfl hOK (by omega) (by assumption) rfl rfl ?_
        refine g_iload_n (q0 := 23) (j := 3) rfl dX10_hasFilesAlone_22 rfl ?_
        refine g_iald (q0 := 24) rfl dX10_hasFilesAlone_23 (by assumption) (by omega) (by omega) ?_
        rw [k2]
        refine g_callSp (as := [_, _]) (rest := []) mt_X10_covers ms_X10_covers ml_X10_42 dX10_hasFilesAlone_24 (q0 := 27) rfl rfl (sp_X10_covers hw k4) rfl ⟨by decide, by decide⟩ (Nat.le_of_ble_eq_true rfl) ⟨Nat.zero_le _, Nat.zero_le _⟩ (fun hwc => ?_)
        refine g_if_eq (q0 := 30) (tgt := 45) rfl dX10_hasFilesAlone_27 (by decide) (fun h27 => ?_) (fun h27 => ?_)
        · rw [bI_f h27] at hv
          refine g_iinc (q0 := 48) (lv2 := [_, _, _, _]) rfl dX10_hasFilesAlone_45 rfl (by decide) rfl rfl (by omega) (by omega) ?_
          refine g_goto (tgt := 9) dX10_hasFilesAlone_48 (by decide) ?_
          exact ih (i + 1) k5 hv
        · rw [bI_t h27] at hv
          refine g_aload_n (q0 := 31) (j := 0) rfl dX10_hasFilesAlone_30 rfl ?_
          refine g_getp (q0 := 34) (b := t + 1) rfl ff_X10_9 dX10_hasFilesAlone_31 rfl hOK (by omega) (by assumption) rfl rfl ?_
          refine g_iload_n (q0 := 35) (j := 3) rfl dX10_hasFilesAlone_34 rfl ?_
          refine g_iald (q0 := 36) rfl dX10_hasFilesAlone_35 (by assumption) (by omega) (by omega) ?_
          rw [k2]
          refine g_callSp (as := [_]) (rest := []) mt_X10_namesIn ms_X10_namesIn ml_X10_18 dX10_hasFilesAlone_36 (q0 := 39) rfl rfl (sp_X10_namesIn k4) rfl ⟨by decide, by decide⟩ (Nat.le_of_ble_eq_true rfl) ⟨Nat.zero_le _, Nat.zero_le _⟩ (fun hwc => ?_)
          refine g_iload_n (q0 := 40) (j := 2) rfl dX10_hasFilesAlone_39 rfl ?_
          refine g_icmp_le (q0 := 43) (tgt := 45) rfl dX10_hasFilesAlone_40 (by decide) (fun h40 => ?_) (fun h40 => ?_)
          · simp only [if_true] at hv
            rw [if_neg (by omega)] at hv
            refine g_iinc (q0 := 48) (lv2 := [_, _, _, _]) rfl dX10_hasFilesAlone_45 rfl (by decide) rfl rfl (by omega) (by omega) ?_
            refine g_goto (tgt := 9) dX10_hasFilesAlone_48 (by decide) ?_
            exact ih (i + 1) k5 hv
          · simp only [if_true] at hv
            rw [if_pos (by omega)] at hv
            refine g_iconst (q0 := 44) rfl dX10_hasFilesAlone_43 (k := ?_)
            refine g_zreturn dX10_hasFilesAlone_44 rfl (by first | rfl | exact gnz (by omega)) ⟨Nat.zero_le _, Nat.zero_le _⟩ ?_
            exact ⟨by rw [← hv]; rfl, rfl, rfl⟩
  refine g_iload_n (q0 := 1) (j := 1) rfl dX10_hasFilesAlone_0 rfl ?_
  refine g_callSp (as := [_]) (rest := []) mt_X10_namesIn ms_X10_namesIn ml_X10_18 dX10_hasFilesAlone_1 (q0 := 4) rfl rfl (sp_X10_namesIn hw) rfl ⟨by decide, by decide⟩ (Nat.le_of_ble_eq_true rfl) ⟨Nat.zero_le _, Nat.zero_le _⟩ (fun hwc => ?_)
  refine g_iconst (q0 := 5) rfl dX10_hasFilesAlone_4 (k := ?_)
  refine g_iadd (q0 := 6) rfl dX10_hasFilesAlone_5 (by omega) (by omega) ?_
  refine g_istore_n (q0 := 7) (j := 2) (lv2 := [_, _, _, _]) rfl dX10_hasFilesAlone_6 (by decide) rfl rfl ?_
  refine g_iconst (q0 := 8) rfl dX10_hasFilesAlone_7 (k := ?_)
  refine g_istore_n (q0 := 9) (j := 3) (lv2 := [_, _, _, _]) rfl dX10_hasFilesAlone_8 (by decide) rfl rfl ?_
  exact lp fs 0 hT rfl
theorem sp_X10_entriesIn {sh : gS} {M : gM} {t w : Int} {n : Nat} {fs : List gF} (hOK : gOK sh M) (hT : tOk sh M t n fs) (hw : 0 ≤ w ∧ w < 1073741824) :
    gC (gr 1 23) yX10_entriesIn cX10_entriesIn 7 (some (.int)) [(4, t), (0, w)] sh M (gPp sh M (0, if pNm w = 6 then 0 else tEnt w fs (-1))) := by
  have hc := tOk_c hT
  obtain ⟨⟨hs0, hs1, hs2, hlt⟩, hn, hT, hl⟩ := hT
  have hnw := pNm_rng w
  generalize hres : (if pNm w = 6 then 0 else tEnt w fs (-1)) = res
  refine gC_ofA (lv := [_, _, _, _, _, _, _]) (by decide +kernel) (Nat.le_of_ble_eq_true rfl) rfl (fun hMw hav => ?_)
  have lp : ∀ (suf : List gF) (i acc last : Int), tSuf M t i suf → 0 ≤ acc → acc ≤ i → gw (0, last) → acc + (if pNm w = 6 then 0 else tEnt w suf last) = res →
      gA (gr 1 23) yX10_entriesIn cX10_entriesIn 7 (some (.int)) (gPp sh M (0, res)) (0, 0) 21 [(4, t), (0, w), (0, pNm w), (0, 25 - 5 * pNm w), (0, acc), (0, last), (0, i)] [] sh M := by
    intro suf
    induction suf with
    | nil =>
      intro i acc last hS h0 h1 hla hv
      have h0 := tSuf_nil hS
      refine g_iload (q0 := 23) (j := 6) rfl dX10_entriesIn_21 rfl ?_
      refine g_aload_n (q0 := 24) (j := 0) rfl dX10_entriesIn_23 rfl ?_
      refine g_getf (q0 := 27) (t := 0) (fi := 2) rfl rfl ff_X10_23 dX10_entriesIn_24 rfl (by assumption) ?_
      refine g_icmp_ge (q0 := 30) (tgt := 93) rfl dX10_entriesIn_27 (by decide) (fun h27 => ?_) (fun h27 => ?_)
      · refine g_iload (q0 := 95) (j := 4) rfl dX10_entriesIn_93 rfl ?_
        refine g_ireturn dX10_entriesIn_95 rfl ⟨Nat.zero_le _, Nat.zero_le _⟩ ?_
        exact ⟨by rw [← hv]; simp [tEnt], rfl, rfl⟩
      · omega
    | cons f r ih =>
      intro i acc last hS h0 h1 hla hv
      obtain ⟨k0, k1, k2, k3, k4, k5⟩ := tSuf_cons hS
      rw [tEnt] at hv
      refine g_iload (q0 := 23) (j := 6) rfl dX10_entriesIn_21 rfl ?_
      refine g_aload_n (q0 := 24) (j := 0) rfl dX10_entriesIn_23 rfl ?_
      refine g_getf (q0 := 27) (t := 0) (fi := 2) rfl rfl ff_X10_23 dX10_entriesIn_24 rfl (by assumption) ?_
      refine g_icmp_ge (q0 := 30) (tgt := 93) rfl dX10_entriesIn_27 (by decide) (fun h27 => ?_) (fun h27 => ?_)
      · omega
      · refine g_iload_n (q0 := 31) (j := 3) rfl dX10_entriesIn_30 rfl ?_
        refine g_if_lt (q0 := 34) (tgt := 93) rfl dX10_entriesIn_31 (by decide) (fun h31 => ?_) (fun h31 => ?_)
        · rw [if_pos (by omega)] at hv
          refine g_iload (q0 := 95) (j := 4) rfl dX10_entriesIn_93 rfl ?_
          refine g_ireturn dX10_entriesIn_95 rfl ⟨Nat.zero_le _, Nat.zero_le _⟩ ?_
          exact ⟨by rw [← hv]; simp, rfl, rfl⟩
        · have h6 : ¬ pNm w = 6 := by omega
          rw [if_neg h6] at hv
          refine g_aload_n (q0 := 35) (j := 0) rfl dX10_entriesIn_34 rfl ?_
          refine g_getp (q0 := 38) (b := t + 1) rfl ff_X10_9 dX10_entriesIn_35 rfl hOK (by omega) (by assumption) rfl rfl ?_
          refine g_iload (q0 := 40) (j := 6) rfl dX10_entriesIn_38 rfl ?_
          refine g_iald (q0 := 41) rfl dX10_entriesIn_40 (by assumption) (by omega) (by omega) ?_
          refine g_iload_n (q0 := 42) (j := 1) rfl dX10_entriesIn_41 rfl ?_
          refine g_icmp_eq (q0 := 45) (tgt := 87) rfl dX10_entriesIn_42 (by decide) (fun h42 => ?_) (fun h42 => ?_)
          · rw [k2] at h42
            rw [if_pos h42] at hv
            refine g_iinc (q0 := 90) (lv2 := [_, _, _, _, _, _, _]) rfl dX10_entriesIn_87 rfl (by decide) rfl rfl (by omega) (by omega) ?_
            refine g_goto (tgt := 21) dX10_entriesIn_90 (by decide) ?_
            exact ih (i + 1) acc last k5 h0 (by omega) hla (by rw [if_neg h6]; exact hv)
          · rw [k2] at h42
            rw [if_neg h42] at hv
            refine g_iload_n (q0 := 46) (j := 1) rfl dX10_entriesIn_45 rfl ?_
            refine g_aload_n (q0 := 47) (j := 0) rfl dX10_entriesIn_46 rfl ?_
            refine g_getp (q0 := 50) (b := t + 1) rfl ff_X10_9 dX10_entriesIn_47 rfl hOK (by omega) (by assumption) rfl rfl ?_
            refine g_iload (q0 := 52) (j := 6) rfl dX10_entriesIn_50 rfl ?_
            refine g_iald (q0 := 53) rfl dX10_entriesIn_52 (by assumption) (by omega) (by omega) ?_
            rw [k2]
            refine g_callSp (as := [_, _]) (rest := []) mt_X10_covers ms_X10_covers ml_X10_42 dX10_entriesIn_53 (q0 := 56) rfl rfl (sp_X10_covers hw k4) rfl ⟨by decide, by decide⟩ (Nat.le_of_ble_eq_true rfl) ⟨Nat.zero_le _, Nat.zero_le _⟩ (fun hwc => ?_)
            refine g_if_eq (q0 := 59) (tgt := 87) rfl dX10_entriesIn_56 (by decide) (fun h56 => ?_) (fun h56 => ?_)
            · rw [bI_f h56] at hv
              refine g_iinc (q0 := 90) (lv2 := [_, _, _, _, _, _, _]) rfl dX10_entriesIn_87 rfl (by decide) rfl rfl (by omega) (by omega) ?_
              refine g_goto (tgt := 21) dX10_entriesIn_90 (by decide) ?_
              exact ih (i + 1) acc last k5 h0 (by omega) hla (by rw [if_neg h6]; exact hv)
            · rw [bI_t h56] at hv
              simp only [if_true] at hv
              refine g_aload_n (q0 := 60) (j := 0) rfl dX10_entriesIn_59 rfl ?_
              refine g_getp (q0 := 63) (b := t + 1) rfl ff_X10_9 dX10_entriesIn_60 rfl hOK (by omega) (by assumption) rfl rfl ?_
              refine g_iload (q0 := 65) (j := 6) rfl dX10_entriesIn_63 rfl ?_
              refine g_iald (q0 := 66) rfl dX10_entriesIn_65 (by assumption) (by omega) (by omega) ?_
              refine g_iload_n (q0 := 67) (j := 3) rfl dX10_entriesIn_66 rfl ?_
              refine g_iushr (q0 := 68) rfl dX10_entriesIn_67 ?_
              refine g_iload (q0 := 70) (j := 5) rfl dX10_entriesIn_68 rfl ?_
              refine g_icmp_eq (q0 := 73) (tgt := 87) rfl dX10_entriesIn_70 (by decide) (fun h70 => ?_) (fun h70 => ?_)
              · rw [k2] at h70
                rw [if_pos h70] at hv
                refine g_iinc (q0 := 90) (lv2 := [_, _, _, _, _, _, _]) rfl dX10_entriesIn_87 rfl (by decide) rfl rfl (by omega) (by omega) ?_
                refine g_goto (tgt := 21) dX10_entriesIn_90 (by decide) ?_
                exact ih (i + 1) acc last k5 h0 (by omega) hla (by rw [if_neg h6]; exact hv)
              · rw [k2] at h70
                rw [if_neg h70] at hv
                refine g_aload_n (q0 := 74) (j := 0) rfl dX10_entriesIn_73 rfl ?_
                refine g_getp (q0 := 77) (b := t + 1) rfl ff_X10_9 dX10_entriesIn_74 rfl hOK (by omega) (by assumption) rfl rfl ?_
                refine g_iload (q0 := 79) (j := 6) rfl dX10_entriesIn_77 rfl ?_
                refine g_iald (q0 := 80) rfl dX10_entriesIn_79 (by assumption) (by omega) (by omega) ?_
                refine g_iload_n (q0 := 81) (j := 3) rfl dX10_entriesIn_80 rfl ?_
                refine g_iushr (q0 := 82) rfl dX10_entriesIn_81 ?_
                refine g_istore (q0 := 84) (j := 5) (lv2 := [_, _, _, _, _, _, _]) rfl dX10_entriesIn_82 (by decide) rfl rfl ?_
                refine g_iinc (q0 := 87) (lv2 := [_, _, _, _, _, _, _]) rfl dX10_entriesIn_84 rfl (by decide) rfl rfl (by omega) (by omega) ?_
                refine g_iinc (q0 := 90) (lv2 := [_, _, _, _, _, _, _]) rfl dX10_entriesIn_87 rfl (by decide) rfl rfl (by omega) (by omega) ?_
                refine g_goto (tgt := 21) dX10_entriesIn_90 (by decide) ?_
                rw [k2]
                exact ih (i + 1) (acc + 1) _ k5 (by omega) (by omega) (gw_to _) (by rw [if_neg h6]; omega)
  refine g_iload_n (q0 := 1) (j := 1) rfl dX10_entriesIn_0 rfl ?_
  refine g_callSp (as := [_]) (rest := []) mt_X10_namesIn ms_X10_namesIn ml_X10_18 dX10_entriesIn_1 (q0 := 4) rfl rfl (sp_X10_namesIn hw) rfl ⟨by decide, by decide⟩ (Nat.le_of_ble_eq_true rfl) ⟨Nat.zero_le _, Nat.zero_le _⟩ (fun hwc => ?_)
  refine g_istore_n (q0 := 5) (j := 2) (lv2 := [_, _, _, _, _, _, _]) rfl dX10_entriesIn_4 (by decide) rfl rfl ?_
  refine g_bipush (q0 := 7) rfl dX10_entriesIn_5 (k := ?_)
  refine g_iconst (q0 := 8) rfl dX10_entriesIn_7 (k := ?_)
  refine g_iload_n (q0 := 9) (j := 2) rfl dX10_entriesIn_8 rfl ?_
  refine g_imul (q0 := 10) rfl dX10_entriesIn_9 (by omega) (by omega) ?_
  refine g_isub (q0 := 11) rfl dX10_entriesIn_10 (by omega) (by omega) ?_
  refine g_istore_n (q0 := 12) (j := 3) (lv2 := [_, _, _, _, _, _, _]) rfl dX10_entriesIn_11 (by decide) rfl rfl ?_
  refine g_iconst (q0 := 13) rfl dX10_entriesIn_12 (k := ?_)
  refine g_istore (q0 := 15) (j := 4) (lv2 := [_, _, _, _, _, _, _]) rfl dX10_entriesIn_13 (by decide) rfl rfl ?_
  refine g_iconst (q0 := 16) rfl dX10_entriesIn_15 (k := ?_)
  refine g_istore (q0 := 18) (j := 5) (lv2 := [_, _, _, _, _, _, _]) rfl dX10_entriesIn_16 (by decide) rfl rfl ?_
  refine g_iconst (q0 := 19) rfl dX10_entriesIn_18 (k := ?_)
  refine g_istore (q0 := 21) (j := 6) (lv2 := [_, _, _, _, _, _, _]) rfl dX10_entriesIn_19 (by decide) rfl rfl ?_
  exact lp fs 0 0 (-1) hT (by omega) (by omega) ⟨by decide, by decide⟩ (by rw [← hres]; omega)
theorem sp_X10_clashes {sh : gS} {M : gM} {t : Int} {n : Nat} {fs : List gF} (hOK : gOK sh M) (hT : tOk sh M t n fs) :
    gC (gr 1 23) yX10_clashes cX10_clashes 2 (some (.boolean)) [(4, t)] sh M (gPp sh M (0, bI (tClash0 fs))) := by
  have hc := tOk_c hT
  obtain ⟨⟨hs0, hs1, hs2, hlt⟩, hn, hT, hl⟩ := hT
  generalize hres : (tClash0 fs) = res
  refine gC_ofA (lv := [_, _]) (by decide +kernel) (Nat.le_of_ble_eq_true rfl) rfl (fun hMw hav => ?_)
  have lp : ∀ (suf : List gF) (i a : Int), 1 ≤ i → tSuf M t i suf → M (t + 1) (i - 1) = a → (0 ≤ a ∧ a < 1073741824) → tClash a suf = res →
      gA (gr 1 23) yX10_clashes cX10_clashes 2 (some (.boolean)) (gPp sh M (0, bI res)) (0, 0) 2 [(4, t), (0, i)] [] sh M := by
    intro suf
    induction suf with
    | nil =>
      intro i a h1 hS ha har hv
      have h0 := tSuf_nil hS
      refine g_iload_n (q0 := 3) (j := 1) rfl dX10_clashes_2 rfl ?_
      refine g_aload_n (q0 := 4) (j := 0) rfl dX10_clashes_3 rfl ?_
      refine g_getf (q0 := 7) (t := 0) (fi := 2) rfl rfl ff_X10_23 dX10_clashes_4 rfl (by assumption) ?_
      refine g_icmp_ge (q0 := 10) (tgt := 38) rfl dX10_clashes_7 (by decide) (fun h7 => ?_) (fun h7 => ?_)
      · refine g_iconst (q0 := 39) rfl dX10_clashes_38 (k := ?_)
        refine g_zreturn dX10_clashes_39 rfl (by first | rfl | exact gnz (by omega)) ⟨Nat.zero_le _, Nat.zero_le _⟩ ?_
        exact ⟨by rw [← hv]; rfl, rfl, rfl⟩
      · omega
    | cons f r ih =>
      intro i a h1 hS ha har hv
      obtain ⟨k0, k1, k2, k3, k4, k5⟩ := tSuf_cons hS
      rw [tClash] at hv
      refine g_iload_n (q0 := 3) (j := 1) rfl dX10_clashes_2 rfl ?_
      refine g_aload_n (q0 := 4) (j := 0) rfl dX10_clashes_3 rfl ?_
      refine g_getf (q0 := 7) (t := 0) (fi := 2) rfl rfl ff_X10_23 dX10_clashes_4 rfl (by assumption) ?_
      refine g_icmp_ge (q0 := 10) (tgt := 38) rfl dX10_clashes_7 (by decide) (fun h7 => ?_) (fun h7 => ?_)
      · omega
      · refine g_aload_n (q0 := 11) (j := 0) rfl dX10_clashes_10 rfl ?_
        refine g_getp (q0 := 14) (b := t + 1) rfl ff_X10_9 dX10_clashes_11 rfl hOK (by omega) (by assumption) rfl rfl ?_
        refine g_iload_n (q0 := 15) (j := 1) rfl dX10_clashes_14 rfl ?_
        refine g_iconst (q0 := 16) rfl dX10_clashes_15 (k := ?_)
        refine g_isub (q0 := 17) rfl dX10_clashes_16 (by omega) (by omega) ?_
        refine g_iald (q0 := 18) rfl dX10_clashes_17 (by assumption) (by omega) (by omega) ?_
        refine g_aload_n (q0 := 19) (j := 0) rfl dX10_clashes_18 rfl ?_
        refine g_getp (q0 := 22) (b := t + 1) rfl ff_X10_9 dX10_clashes_19 rfl hOK (by omega) (by assumption) rfl rfl ?_
        refine g_iload_n (q0 := 23) (j := 1) rfl dX10_clashes_22 rfl ?_
        refine g_iald (q0 := 24) rfl dX10_clashes_23 (by assumption) (by omega) (by omega) ?_
        rw [ha, k2]
        refine g_callSp (as := [_, _]) (rest := []) mt_X10_covers ms_X10_covers ml_X10_42 dX10_clashes_24 (q0 := 27) rfl rfl (sp_X10_covers har k4) rfl ⟨by decide, by decide⟩ (Nat.le_of_ble_eq_true rfl) ⟨Nat.zero_le _, Nat.zero_le _⟩ (fun hwc => ?_)
        refine g_if_eq (q0 := 30) (tgt := 32) rfl dX10_clashes_27 (by decide) (fun h27 => ?_) (fun h27 => ?_)
        · rw [bI_f h27] at hv
          refine g_iinc (q0 := 35) (lv2 := [_, _]) rfl dX10_clashes_32 rfl (by decide) rfl rfl (by omega) (by omega) ?_
          refine g_goto (tgt := 2) dX10_clashes_35 (by decide) ?_
          exact ih (i + 1) f.1 (by omega) k5 (by rw [show i + 1 - 1 = i by omega]; exact k2) k4 hv
        · rw [bI_t h27] at hv
          refine g_iconst (q0 := 31) rfl dX10_clashes_30 (k := ?_)
          refine g_zreturn dX10_clashes_31 rfl (by first | rfl | exact gnz (by omega)) ⟨Nat.zero_le _, Nat.zero_le _⟩ ?_
          exact ⟨by rw [← hv]; rfl, rfl, rfl⟩
  refine g_iconst (q0 := 1) rfl dX10_clashes_0 (k := ?_)
  refine g_istore_n (q0 := 2) (j := 1) (lv2 := [_, _]) rfl dX10_clashes_1 (by decide) rfl rfl ?_
  cases fs with
  | nil =>
    have h0 := tSuf_nil hT
    refine g_iload_n (q0 := 3) (j := 1) rfl dX10_clashes_2 rfl ?_
    refine g_aload_n (q0 := 4) (j := 0) rfl dX10_clashes_3 rfl ?_
    refine g_getf (q0 := 7) (t := 0) (fi := 2) rfl rfl ff_X10_23 dX10_clashes_4 rfl (by assumption) ?_
    refine g_icmp_ge (q0 := 10) (tgt := 38) rfl dX10_clashes_7 (by decide) (fun h7 => ?_) (fun h7 => ?_)
    · refine g_iconst (q0 := 39) rfl dX10_clashes_38 (k := ?_)
      refine g_zreturn dX10_clashes_39 rfl (by first | rfl | exact gnz (by omega)) ⟨Nat.zero_le _, Nat.zero_le _⟩ ?_
      exact ⟨by rw [← hres]; rfl, rfl, rfl⟩
    · omega
  | cons f r =>
    obtain ⟨k0, k1, k2, k3, k4, k5⟩ := tSuf_cons hT
    exact lp r 1 f.1 (by omega) k5 k2 k4 hres
theorem sp_X10_isTaken {sh : gS} {M : gM} {t w : Int} {n : Nat} {fs : List gF} (hOK : gOK sh M) (hT : tOk sh M t n fs) (hw : 0 ≤ w ∧ w < 1073741824) :
    gC (gr 1 23) yX10_isTaken cX10_isTaken 3 (some (.boolean)) [(4, t), (0, w)] sh M (gPp sh M (0, bI (tTaken w fs))) := by
  have hc := tOk_c hT
  obtain ⟨⟨hs0, hs1, hs2, hlt⟩, hn, hT, hl⟩ := hT
  refine gC_ofA (lv := [_, _, _]) (by decide +kernel) (Nat.le_of_ble_eq_true rfl) rfl (fun hMw hav => ?_)
  have lp : ∀ (suf : List gF) (i : Int), tSuf M t i suf → tTaken w suf = tTaken w fs →
      gA (gr 1 23) yX10_isTaken cX10_isTaken 3 (some (.boolean)) (gPp sh M (0, bI (tTaken w fs))) (0, 0) 2 [(4, t), (0, w), (0, i)] [] sh M := by
    intro suf
    induction suf with
    | nil =>
      intro i hS hv
      have h0 := tSuf_nil hS
      refine g_iload_n (q0 := 3) (j := 2) rfl dX10_isTaken_2 rfl ?_
      refine g_aload_n (q0 := 4) (j := 0) rfl dX10_isTaken_3 rfl ?_
      refine g_getf (q0 := 7) (t := 0) (fi := 2) rfl rfl ff_X10_23 dX10_isTaken_4 rfl (by assumption) ?_
      refine g_icmp_ge (q0 := 10) (tgt := 44) rfl dX10_isTaken_7 (by decide) (fun h7 => ?_) (fun h7 => ?_)
      · refine g_iconst (q0 := 45) rfl dX10_isTaken_44 (k := ?_)
        refine g_zreturn dX10_isTaken_45 rfl (by first | rfl | exact gnz (by omega)) ⟨Nat.zero_le _, Nat.zero_le _⟩ ?_
        exact ⟨by rw [← hv]; rfl, rfl, rfl⟩
      · omega
    | cons f r ih =>
      intro i hS hv
      obtain ⟨k0, k1, k2, k3, k4, k5⟩ := tSuf_cons hS
      rw [tTaken] at hv
      refine g_iload_n (q0 := 3) (j := 2) rfl dX10_isTaken_2 rfl ?_
      refine g_aload_n (q0 := 4) (j := 0) rfl dX10_isTaken_3 rfl ?_
      refine g_getf (q0 := 7) (t := 0) (fi := 2) rfl rfl ff_X10_23 dX10_isTaken_4 rfl (by assumption) ?_
      refine g_icmp_ge (q0 := 10) (tgt := 44) rfl dX10_isTaken_7 (by decide) (fun h7 => ?_) (fun h7 => ?_)
      · omega
      · refine g_aload_n (q0 := 11) (j := 0) rfl dX10_isTaken_10 rfl ?_
        refine g_getp (q0 := 14) (b := t + 1) rfl ff_X10_9 dX10_isTaken_11 rfl hOK (by omega) (by assumption) rfl rfl ?_
        refine g_iload_n (q0 := 15) (j := 2) rfl dX10_isTaken_14 rfl ?_
        refine g_iald (q0 := 16) rfl dX10_isTaken_15 (by assumption) (by omega) (by omega) ?_
        refine g_iload_n (q0 := 17) (j := 1) rfl dX10_isTaken_16 rfl ?_
        rw [k2]
        refine g_callSp (as := [_, _]) (rest := []) mt_X10_covers ms_X10_covers ml_X10_42 dX10_isTaken_17 (q0 := 20) rfl rfl (sp_X10_covers k4 hw) rfl ⟨by decide, by decide⟩ (Nat.le_of_ble_eq_true rfl) ⟨Nat.zero_le _, Nat.zero_le _⟩ (fun hwc => ?_)
        refine g_if_ne (q0 := 23) (tgt := 36) rfl dX10_isTaken_20 (by decide) (fun h20 => ?_) (fun h20 => ?_)
        · rw [bI_t h20] at hv
          refine g_iconst (q0 := 37) rfl dX10_isTaken_36 (k := ?_)
          refine g_zreturn dX10_isTaken_37 rfl (by first | rfl | exact gnz (by omega)) ⟨Nat.zero_le _, Nat.zero_le _⟩ ?_
          exact ⟨by rw [← hv]; rfl, rfl, rfl⟩
        · rw [bI_f h20] at hv
          refine g_iload_n (q0 := 24) (j := 1) rfl dX10_isTaken_23 rfl ?_
          refine g_aload_n (q0 := 25) (j := 0) rfl dX10_isTaken_24 rfl ?_
          refine g_getp (q0 := 28) (b := t + 1) rfl ff_X10_9 dX10_isTaken_25 rfl hOK (by omega) (by assumption) rfl rfl ?_
          refine g_iload_n (q0 := 29) (j := 2) rfl dX10_isTaken_28 rfl ?_
          refine g_iald (q0 := 30) rfl dX10_isTaken_29 (by assumption) (by omega) (by omega) ?_
          rw [k2]
          refine g_callSp (as := [_, _]) (rest := []) mt_X10_covers ms_X10_covers ml_X10_42 dX10_isTaken_30 (q0 := 33) rfl rfl (sp_X10_covers hw k4) rfl ⟨by decide, by decide⟩ (Nat.le_of_ble_eq_true rfl) ⟨Nat.zero_le _, Nat.zero_le _⟩ (fun hwc => ?_)
          refine g_if_eq (q0 := 36) (tgt := 38) rfl dX10_isTaken_33 (by decide) (fun h33 => ?_) (fun h33 => ?_)
          · rw [bI_f h33] at hv
            refine g_iinc (q0 := 41) (lv2 := [_, _, _]) rfl dX10_isTaken_38 rfl (by decide) rfl rfl (by omega) (by omega) ?_
            refine g_goto (tgt := 2) dX10_isTaken_41 (by decide) ?_
            exact ih (i + 1) k5 hv
          · rw [bI_t h33] at hv
            refine g_iconst (q0 := 37) rfl dX10_isTaken_36 (k := ?_)
            refine g_zreturn dX10_isTaken_37 rfl (by first | rfl | exact gnz (by omega)) ⟨Nat.zero_le _, Nat.zero_le _⟩ ?_
            exact ⟨by rw [← hv]; rfl, rfl, rfl⟩
  refine g_iconst (q0 := 1) rfl dX10_isTaken_0 (k := ?_)
  refine g_istore_n (q0 := 2) (j := 2) (lv2 := [_, _, _]) rfl dX10_isTaken_1 (by decide) rfl rfl ?_
  exact lp fs 0 hT rfl
theorem sp_X10_isLike {sh : gS} {M : gM} {t u : Int} {n m : Nat} {fs gs : List gF} (hOK : gOK sh M) (hT : tOk sh M t n fs) (hU : tOk sh M u m gs) :
    gC (gr 0 0) yX10_isLike cX10_isLike 3 (some (.boolean)) [(4, t), (4, u)] sh M (gPp sh M (0, bI (decide (fs = gs)))) := by
  have hc := tOk_c hT
  have hc2 := tOk_c hU
  obtain ⟨⟨hs0, hs1, hs2, hlt⟩, hn, hT, hl⟩ := hT
  obtain ⟨⟨hu0, hu1, hu2, hult⟩, hm, hU, hul⟩ := hU
  generalize hres : decide (fs = gs) = res
  refine gC_ofA (lv := [_, _, _]) (by decide +kernel) (Nat.le_of_ble_eq_true rfl) rfl (fun hMw hav => ?_)
  have lp : ∀ (a b : List gF) (i : Int), tSuf M t i a → tSuf M u i b → a.length = b.length → decide (a = b) = res →
      gA (gr 0 0) yX10_isLike cX10_isLike 3 (some (.boolean)) (gPp sh M (0, bI res)) (0, 0) 15 [(4, t), (4, u), (0, i)] [] sh M := by
    intro a
    induction a with
    | nil =>
      intro b i hS hS2 hlen hv
      have h0 := tSuf_nil hS
      refine g_iload_n (q0 := 16) (j := 2) rfl dX10_isLike_15 rfl ?_
      refine g_aload_n (q0 := 17) (j := 0) rfl dX10_isLike_16 rfl ?_
      refine g_getf (q0 := 20) (t := 0) (fi := 2) rfl rfl ff_X10_23 dX10_isLike_17 rfl (by assumption) ?_
      refine g_icmp_ge (q0 := 23) (tgt := 61) rfl dX10_isLike_20 (by decide) (fun h20 => ?_) (fun h20 => ?_)
      · refine g_iconst (q0 := 62) rfl dX10_isLike_61 (k := ?_)
        refine g_zreturn dX10_isLike_62 rfl (by first | rfl | exact gnz (by omega)) ⟨Nat.zero_le _, Nat.zero_le _⟩ ?_
        have : b = [] := List.length_eq_zero_iff.mp hlen.symm
        exact ⟨by rw [← hv, this]; rfl, rfl, rfl⟩
      · omega
    | cons f r ih =>
      intro b i hS hS2 hlen hv
      obtain ⟨k0, k1, k2, k3, k4, k5⟩ := tSuf_cons hS
      cases b with
      | nil => cases hlen
      | cons g r2 =>
        obtain ⟨j0, j1, j2, j3, j4, j5⟩ := tSuf_cons hS2
        refine g_iload_n (q0 := 16) (j := 2) rfl dX10_isLike_15 rfl ?_
        refine g_aload_n (q0 := 17) (j := 0) rfl dX10_isLike_16 rfl ?_
        refine g_getf (q0 := 20) (t := 0) (fi := 2) rfl rfl ff_X10_23 dX10_isLike_17 rfl (by assumption) ?_
        refine g_icmp_ge (q0 := 23) (tgt := 61) rfl dX10_isLike_20 (by decide) (fun h20 => ?_) (fun h20 => ?_)
        · omega
        · refine g_aload_n (q0 := 24) (j := 0) rfl dX10_isLike_23 rfl ?_
          refine g_getp (q0 := 27) (b := t + 1) rfl ff_X10_9 dX10_isLike_24 rfl hOK (by omega) (by assumption) rfl rfl ?_
          refine g_iload_n (q0 := 28) (j := 2) rfl dX10_isLike_27 rfl ?_
          refine g_iald (q0 := 29) rfl dX10_isLike_28 (by assumption) (by omega) (by omega) ?_
          refine g_aload_n (q0 := 30) (j := 1) rfl dX10_isLike_29 rfl ?_
          refine g_getp (q0 := 33) (b := u + 1) rfl ff_X10_9 dX10_isLike_30 rfl hOK (by omega) (by assumption) rfl rfl ?_
          refine g_iload_n (q0 := 34) (j := 2) rfl dX10_isLike_33 rfl ?_
          refine g_iald (q0 := 35) rfl dX10_isLike_34 (by assumption) (by omega) (by omega) ?_
          refine g_icmp_ne (q0 := 38) (tgt := 53) rfl dX10_isLike_35 (by decide) (fun h35 => ?_) (fun h35 => ?_)
          · rw [k2, j2] at h35
            refine g_iconst (q0 := 54) rfl dX10_isLike_53 (k := ?_)
            refine g_zreturn dX10_isLike_54 rfl (by first | rfl | exact gnz (by omega)) ⟨Nat.zero_le _, Nat.zero_le _⟩ ?_
            exact ⟨by rw [← hv, decide_eq_false (fun e => h35 (by cases e; rfl))]; rfl, rfl, rfl⟩
          · rw [k2, j2] at h35
            refine g_aload_n (q0 := 39) (j := 0) rfl dX10_isLike_38 rfl ?_
            refine g_getp (q0 := 42) (b := t + 2) rfl ff_X10_15 dX10_isLike_39 rfl hOK (by omega) (by assumption) rfl rfl ?_
            refine g_iload_n (q0 := 43) (j := 2) rfl dX10_isLike_42 rfl ?_
            refine g_iald (q0 := 44) rfl dX10_isLike_43 (by assumption) (by omega) (by omega) ?_
            refine g_aload_n (q0 := 45) (j := 1) rfl dX10_isLike_44 rfl ?_
            refine g_getp (q0 := 48) (b := u + 2) rfl ff_X10_15 dX10_isLike_45 rfl hOK (by omega) (by assumption) rfl rfl ?_
            refine g_iload_n (q0 := 49) (j := 2) rfl dX10_isLike_48 rfl ?_
            refine g_iald (q0 := 50) rfl dX10_isLike_49 (by assumption) (by omega) (by omega) ?_
            refine g_icmp_eq (q0 := 53) (tgt := 55) rfl dX10_isLike_50 (by decide) (fun h50 => ?_) (fun h50 => ?_)
            · rw [k3, j3] at h50
              refine g_iinc (q0 := 58) (lv2 := [_, _, _]) rfl dX10_isLike_55 rfl (by decide) rfl rfl (by omega) (by omega) ?_
              refine g_goto (tgt := 15) dX10_isLike_58 (by decide) ?_
              refine ih r2 (i + 1) k5 j5 (by simpa using hlen) ?_
              rw [← hv]
              have e : f = g := Prod.ext h35 h50
              subst e
              simp
            · rw [k3, j3] at h50
              refine g_iconst (q0 := 54) rfl dX10_isLike_53 (k := ?_)
              refine g_zreturn dX10_isLike_54 rfl (by first | rfl | exact gnz (by omega)) ⟨Nat.zero_le _, Nat.zero_le _⟩ ?_
              exact ⟨by rw [← hv, decide_eq_false (fun e => h50 (by cases e; rfl))]; rfl, rfl, rfl⟩
  refine g_aload_n (q0 := 1) (j := 0) rfl dX10_isLike_0 rfl ?_
  refine g_getf (q0 := 4) (t := 0) (fi := 2) rfl rfl ff_X10_23 dX10_isLike_1 rfl (by assumption) ?_
  refine g_aload_n (q0 := 5) (j := 1) rfl dX10_isLike_4 rfl ?_
  refine g_getf (q0 := 8) (t := 0) (fi := 2) rfl rfl ff_X10_23 dX10_isLike_5 rfl (by assumption) ?_
  refine g_icmp_eq (q0 := 11) (tgt := 13) rfl dX10_isLike_8 (by decide) (fun h8 => ?_) (fun h8 => ?_)
  · have e : fs.length = gs.length := by omega
    refine g_iconst (q0 := 14) rfl dX10_isLike_13 (k := ?_)
    refine g_istore_n (q0 := 15) (j := 2) (lv2 := [_, _, _]) rfl dX10_isLike_14 (by decide) rfl rfl ?_
    exact lp fs gs 0 hT hU e hres
  · refine g_iconst (q0 := 12) rfl dX10_isLike_11 (k := ?_)
    refine g_zreturn dX10_isLike_12 rfl (by first | rfl | exact gnz (by omega)) ⟨Nat.zero_le _, Nat.zero_le _⟩ ?_
    exact ⟨by rw [← hres, decide_eq_false (fun e => h8 (by rw [hc.1, hc2.1, e]))]; rfl, rfl, rfl⟩
def tLkGo (w : Int) (gs : List gF) : List gF → Bool
  | [] => true
  | f :: r => if pCov w f.1 then if tCont f.1 gs = f.2 then tLkGo w gs r else false else tLkGo w gs r
def tLkAt (w : Int) (fs gs : List gF) : Bool := if tCnt w fs = tCnt w gs then tLkGo w gs fs else false
theorem sp_X10_isLikeAt {sh : gS} {M : gM} {t u w : Int} {n m : Nat} {fs gs : List gF} (hOK : gOK sh M) (hT : tOk sh M t n fs) (hU : tOk sh M u m gs) (hw : 0 ≤ w ∧ w < 1073741824) :
    gC (gr 2 46) yX10_isLikeAt cX10_isLikeAt 4 (some (.boolean)) [(4, t), (4, u), (0, w)] sh M (gPp sh M (0, bI (tLkAt w fs gs))) := by
  have hc := tOk_c hT
  have hT0 := hT
  have hU0 := hU
  obtain ⟨⟨hs0, hs1, hs2, hlt⟩, hn, hT, hl⟩ := hT
  obtain ⟨⟨hu0, hu1, hu2, hult⟩, hm, hU, hul⟩ := hU
  generalize hres : tLkAt w fs gs = res
  refine gC_ofA (lv := [_, _, _, _]) (by decide +kernel) (Nat.le_of_ble_eq_true rfl) rfl (fun hMw hav => ?_)
  have lp : ∀ (suf : List gF) (i : Int), tSuf M t i suf → tLkGo w gs suf = res →
      gA (gr 2 46) yX10_isLikeAt cX10_isLikeAt 4 (some (.boolean)) (gPp sh M (0, bI res)) (0, 0) 17 [(4, t), (4, u), (0, w), (0, i)] [] sh M := by
    intro suf
    induction suf with
    | nil =>
      intro i hS hv
      have h0 := tSuf_nil hS
      refine g_iload_n (q0 := 18) (j := 3) rfl dX10_isLikeAt_17 rfl ?_
      refine g_aload_n (q0 := 19) (j := 0) rfl dX10_isLikeAt_18 rfl ?_
      refine g_getf (q0 := 22) (t := 0) (fi := 2) rfl rfl ff_X10_23 dX10_isLikeAt_19 rfl (by assumption) ?_
      refine g_icmp_ge (q0 := 25) (tgt := 65) rfl dX10_isLikeAt_22 (by decide) (fun h22 => ?_) (fun h22 => ?_)
      · refine g_iconst (q0 := 66) rfl dX10_isLikeAt_65 (k := ?_)
        refine g_zreturn dX10_isLikeAt_66 rfl (by first | rfl | exact gnz (by omega)) ⟨Nat.zero_le _, Nat.zero_le _⟩ ?_
        exact ⟨by rw [← hv]; rfl, rfl, rfl⟩
      · omega
    | cons f r ih =>
      intro i hS hv
      obtain ⟨k0, k1, k2, k3, k4, k5⟩ := tSuf_cons hS
      rw [tLkGo] at hv
      refine g_iload_n (q0 := 18) (j := 3) rfl dX10_isLikeAt_17 rfl ?_
      refine g_aload_n (q0 := 19) (j := 0) rfl dX10_isLikeAt_18 rfl ?_
      refine g_getf (q0 := 22) (t := 0) (fi := 2) rfl rfl ff_X10_23 dX10_isLikeAt_19 rfl (by assumption) ?_
      refine g_icmp_ge (q0 := 25) (tgt := 65) rfl dX10_isLikeAt_22 (by decide) (fun h22 => ?_) (fun h22 => ?_)
      · omega
      · refine g_iload_n (q0 := 26) (j := 2) rfl dX10_isLikeAt_25 rfl ?_
        refine g_aload_n (q0 := 27) (j := 0) rfl dX10_isLikeAt_26 rfl ?_
        refine g_getp (q0 := 30) (b := t + 1) rfl ff_X10_9 dX10_isLikeAt_27 rfl hOK (by omega) (by assumption) rfl rfl ?_
        refine g_iload_n (q0 := 31) (j := 3) rfl dX10_isLikeAt_30 rfl ?_
        refine g_iald (q0 := 32) rfl dX10_isLikeAt_31 (by assumption) (by omega) (by omega) ?_
        rw [k2]
        refine g_callSp (as := [_, _]) (rest := []) mt_X10_covers ms_X10_covers ml_X10_42 dX10_isLikeAt_32 (q0 := 35) rfl rfl (sp_X10_covers hw k4) rfl ⟨by decide, by decide⟩ (Nat.le_of_ble_eq_true rfl) ⟨Nat.zero_le _, Nat.zero_le _⟩ (fun hwc => ?_)
        refine g_if_eq (q0 := 38) (tgt := 59) rfl dX10_isLikeAt_35 (by decide) (fun h35 => ?_) (fun h35 => ?_)
        · rw [bI_f h35] at hv
          refine g_iinc (q0 := 62) (lv2 := [_, _, _, _]) rfl dX10_isLikeAt_59 rfl (by decide) rfl rfl (by omega) (by omega) ?_
          refine g_goto (tgt := 17) dX10_isLikeAt_62 (by decide) ?_
          exact ih (i + 1) k5 hv
        · rw [bI_t h35] at hv
          simp only [if_true] at hv
          refine g_aload_n (q0 := 39) (j := 1) rfl dX10_isLikeAt_38 rfl ?_
          refine g_aload_n (q0 := 40) (j := 0) rfl dX10_isLikeAt_39 rfl ?_
          refine g_getp (q0 := 43) (b := t + 1) rfl ff_X10_9 dX10_isLikeAt_40 rfl hOK (by omega) (by assumption) rfl rfl ?_
          refine g_iload_n (q0 := 44) (j := 3) rfl dX10_isLikeAt_43 rfl ?_
          refine g_iald (q0 := 45) rfl dX10_isLikeAt_44 (by assumption) (by omega) (by omega) ?_
          rw [k2]
          refine g_callVp (as := [_]) (rest := []) mt_X10_contentAt mi_X10_contentAt se_X10_contentAt ml_X10_46 dX10_isLikeAt_45 (q0 := 48) rfl rfl (by assumption) rfl rfl (sp_X10_contentAt hOK hU0) rfl ⟨by decide, by decide⟩ (Nat.le_of_ble_eq_true rfl) ⟨Nat.zero_le _, Nat.zero_le _⟩ (fun hwc => ?_)
          refine g_aload_n (q0 := 49) (j := 0) rfl dX10_isLikeAt_48 rfl ?_
          refine g_getp (q0 := 52) (b := t + 2) rfl ff_X10_15 dX10_isLikeAt_49 rfl hOK (by omega) (by assumption) rfl rfl ?_
          refine g_iload_n (q0 := 53) (j := 3) rfl dX10_isLikeAt_52 rfl ?_
          refine g_iald (q0 := 54) rfl dX10_isLikeAt_53 (by assumption) (by omega) (by omega) ?_
          refine g_icmp_eq (q0 := 57) (tgt := 59) rfl dX10_isLikeAt_54 (by decide) (fun h54 => ?_) (fun h54 => ?_)
          · rw [k3] at h54
            rw [if_pos h54] at hv
            refine g_iinc (q0 := 62) (lv2 := [_, _, _, _]) rfl dX10_isLikeAt_59 rfl (by decide) rfl rfl (by omega) (by omega) ?_
            refine g_goto (tgt := 17) dX10_isLikeAt_62 (by decide) ?_
            exact ih (i + 1) k5 hv
          · rw [k3] at h54
            rw [if_neg h54] at hv
            refine g_iconst (q0 := 58) rfl dX10_isLikeAt_57 (k := ?_)
            refine g_zreturn dX10_isLikeAt_58 rfl (by first | rfl | exact gnz (by omega)) ⟨Nat.zero_le _, Nat.zero_le _⟩ ?_
            exact ⟨by rw [← hv]; rfl, rfl, rfl⟩
  refine g_aload_n (q0 := 1) (j := 0) rfl dX10_isLikeAt_0 rfl ?_
  refine g_iload_n (q0 := 2) (j := 2) rfl dX10_isLikeAt_1 rfl ?_
  refine g_callVp (as := [_]) (rest := []) mt_X10_filesAt mi_X10_filesAt se_X10_filesAt ml_X10_53 dX10_isLikeAt_2 (q0 := 5) rfl rfl (by assumption) rfl rfl (sp_X10_filesAt hOK hT0 hw) rfl ⟨by decide, by decide⟩ (Nat.le_of_ble_eq_true rfl) ⟨Nat.zero_le _, Nat.zero_le _⟩ (fun hwc => ?_)
  refine g_aload_n (q0 := 6) (j := 1) rfl dX10_isLikeAt_5 rfl ?_
  refine g_iload_n (q0 := 7) (j := 2) rfl dX10_isLikeAt_6 rfl ?_
  refine g_callVp (as := [_]) (rest := [_]) mt_X10_filesAt mi_X10_filesAt se_X10_filesAt ml_X10_53 dX10_isLikeAt_7 (q0 := 10) rfl rfl (by assumption) rfl rfl (sp_X10_filesAt hOK hU0 hw) rfl ⟨by decide, by decide⟩ (Nat.le_of_ble_eq_true rfl) ⟨Nat.zero_le _, Nat.zero_le _⟩ (fun hwc => ?_)
  refine g_icmp_eq (q0 := 13) (tgt := 15) rfl dX10_isLikeAt_10 (by decide) (fun h10 => ?_) (fun h10 => ?_)
  · refine g_iconst (q0 := 16) rfl dX10_isLikeAt_15 (k := ?_)
    refine g_istore_n (q0 := 17) (j := 3) (lv2 := [_, _, _, _]) rfl dX10_isLikeAt_16 (by decide) rfl rfl ?_
    exact lp fs 0 hT (by rw [← hres, tLkAt, if_pos h10])
  · refine g_iconst (q0 := 14) rfl dX10_isLikeAt_13 (k := ?_)
    refine g_zreturn dX10_isLikeAt_14 rfl (by first | rfl | exact gnz (by omega)) ⟨Nat.zero_le _, Nat.zero_le _⟩ ?_
    exact ⟨by rw [← hres, tLkAt, if_neg h10]; rfl, rfl, rfl⟩
