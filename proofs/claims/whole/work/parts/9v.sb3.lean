-- ==== the text: numbers of a COMMIT, appends
theorem dJ6_stringSize_0f7a4_0 : decode cJ6_stringSize_0f7a4 0 = .ok (.iconst 1, 1) := by decide +kernel
theorem dJ6_stringSize_0f7a4_1 : decode cJ6_stringSize_0f7a4 1 = .ok (.istore_n 1, 1) := by decide +kernel
theorem dJ6_stringSize_0f7a4_2 : decode cJ6_stringSize_0f7a4 2 = .ok (.iload_n 0, 1) := by decide +kernel
theorem dJ6_stringSize_0f7a4_3 : decode cJ6_stringSize_0f7a4 3 = .ok (.ifCond .lt 8, 3) := by decide +kernel
theorem dJ6_stringSize_0f7a4_6 : decode cJ6_stringSize_0f7a4 6 = .ok (.iconst 0, 1) := by decide +kernel
theorem dJ6_stringSize_0f7a4_7 : decode cJ6_stringSize_0f7a4 7 = .ok (.istore_n 1, 1) := by decide +kernel
theorem dJ6_stringSize_0f7a4_8 : decode cJ6_stringSize_0f7a4 8 = .ok (.iload_n 0, 1) := by decide +kernel
theorem dJ6_stringSize_0f7a4_9 : decode cJ6_stringSize_0f7a4 9 = .ok (.ineg, 1) := by decide +kernel
theorem dJ6_stringSize_0f7a4_10 : decode cJ6_stringSize_0f7a4 10 = .ok (.istore_n 0, 1) := by decide +kernel
theorem dJ6_stringSize_0f7a4_11 : decode cJ6_stringSize_0f7a4 11 = .ok (.bipush (-10), 2) := by decide +kernel
theorem dJ6_stringSize_0f7a4_13 : decode cJ6_stringSize_0f7a4 13 = .ok (.istore_n 2, 1) := by decide +kernel
theorem dJ6_stringSize_0f7a4_14 : decode cJ6_stringSize_0f7a4 14 = .ok (.iconst 1, 1) := by decide +kernel
theorem dJ6_stringSize_0f7a4_15 : decode cJ6_stringSize_0f7a4 15 = .ok (.istore_n 3, 1) := by decide +kernel
theorem dJ6_stringSize_0f7a4_16 : decode cJ6_stringSize_0f7a4 16 = .ok (.iload_n 3, 1) := by decide +kernel
theorem dJ6_stringSize_0f7a4_17 : decode cJ6_stringSize_0f7a4 17 = .ok (.bipush 10, 2) := by decide +kernel
theorem dJ6_stringSize_0f7a4_19 : decode cJ6_stringSize_0f7a4 19 = .ok (.if_icmp .ge 23, 3) := by decide +kernel
theorem dJ6_stringSize_0f7a4_22 : decode cJ6_stringSize_0f7a4 22 = .ok (.iload_n 0, 1) := by decide +kernel
theorem dJ6_stringSize_0f7a4_23 : decode cJ6_stringSize_0f7a4 23 = .ok (.iload_n 2, 1) := by decide +kernel
theorem dJ6_stringSize_0f7a4_24 : decode cJ6_stringSize_0f7a4 24 = .ok (.if_icmp .le 7, 3) := by decide +kernel
theorem dJ6_stringSize_0f7a4_27 : decode cJ6_stringSize_0f7a4 27 = .ok (.iload_n 3, 1) := by decide +kernel
theorem dJ6_stringSize_0f7a4_28 : decode cJ6_stringSize_0f7a4 28 = .ok (.iload_n 1, 1) := by decide +kernel
theorem dJ6_stringSize_0f7a4_29 : decode cJ6_stringSize_0f7a4 29 = .ok (.iadd, 1) := by decide +kernel
theorem dJ6_stringSize_0f7a4_30 : decode cJ6_stringSize_0f7a4 30 = .ok (.ireturn, 1) := by decide +kernel
theorem dJ6_stringSize_0f7a4_31 : decode cJ6_stringSize_0f7a4 31 = .ok (.bipush 10, 2) := by decide +kernel
theorem dJ6_stringSize_0f7a4_33 : decode cJ6_stringSize_0f7a4 33 = .ok (.iload_n 2, 1) := by decide +kernel
theorem dJ6_stringSize_0f7a4_34 : decode cJ6_stringSize_0f7a4 34 = .ok (.imul, 1) := by decide +kernel
theorem dJ6_stringSize_0f7a4_35 : decode cJ6_stringSize_0f7a4 35 = .ok (.istore_n 2, 1) := by decide +kernel
theorem dJ6_stringSize_0f7a4_36 : decode cJ6_stringSize_0f7a4 36 = .ok (.iinc 3 1, 3) := by decide +kernel
theorem dJ6_stringSize_0f7a4_39 : decode cJ6_stringSize_0f7a4 39 = .ok (.goto (-23), 3) := by decide +kernel
theorem dJ6_stringSize_0f7a4_42 : decode cJ6_stringSize_0f7a4 42 = .ok (.bipush 10, 2) := by decide +kernel
theorem dJ6_stringSize_0f7a4_44 : decode cJ6_stringSize_0f7a4 44 = .ok (.iload_n 1, 1) := by decide +kernel
theorem dJ6_stringSize_0f7a4_45 : decode cJ6_stringSize_0f7a4 45 = .ok (.iadd, 1) := by decide +kernel
theorem dJ6_stringSize_0f7a4_46 : decode cJ6_stringSize_0f7a4 46 = .ok (.ireturn, 1) := by decide +kernel
theorem dJ6_getChars_ba4f3_0 : decode cJ6_getChars_ba4f3 0 = .ok (.iload_n 1, 1) := by decide +kernel
theorem dJ6_getChars_ba4f3_1 : decode cJ6_getChars_ba4f3 1 = .ok (.istore 5, 2) := by decide +kernel
theorem dJ6_getChars_ba4f3_3 : decode cJ6_getChars_ba4f3 3 = .ok (.iload_n 0, 1) := by decide +kernel
theorem dJ6_getChars_ba4f3_4 : decode cJ6_getChars_ba4f3 4 = .ok (.ifCond .ge 7, 3) := by decide +kernel
theorem dJ6_getChars_ba4f3_7 : decode cJ6_getChars_ba4f3 7 = .ok (.iconst 1, 1) := by decide +kernel
theorem dJ6_getChars_ba4f3_8 : decode cJ6_getChars_ba4f3 8 = .ok (.goto 4, 3) := by decide +kernel
theorem dJ6_getChars_ba4f3_11 : decode cJ6_getChars_ba4f3 11 = .ok (.iconst 0, 1) := by decide +kernel
theorem dJ6_getChars_ba4f3_12 : decode cJ6_getChars_ba4f3 12 = .ok (.istore 6, 2) := by decide +kernel
theorem dJ6_getChars_ba4f3_14 : decode cJ6_getChars_ba4f3 14 = .ok (.iload 6, 2) := by decide +kernel
theorem dJ6_getChars_ba4f3_16 : decode cJ6_getChars_ba4f3 16 = .ok (.ifCond .ne 6, 3) := by decide +kernel
theorem dJ6_getChars_ba4f3_19 : decode cJ6_getChars_ba4f3 19 = .ok (.iload_n 0, 1) := by decide +kernel
theorem dJ6_getChars_ba4f3_20 : decode cJ6_getChars_ba4f3 20 = .ok (.ineg, 1) := by decide +kernel
theorem dJ6_getChars_ba4f3_21 : decode cJ6_getChars_ba4f3 21 = .ok (.istore_n 0, 1) := by decide +kernel
theorem dJ6_getChars_ba4f3_22 : decode cJ6_getChars_ba4f3 22 = .ok (.iload_n 0, 1) := by decide +kernel
theorem dJ6_getChars_ba4f3_23 : decode cJ6_getChars_ba4f3 23 = .ok (.bipush (-100), 2) := by decide +kernel
theorem dJ6_getChars_ba4f3_25 : decode cJ6_getChars_ba4f3 25 = .ok (.if_icmp .gt 47, 3) := by decide +kernel
theorem dJ6_getChars_ba4f3_28 : decode cJ6_getChars_ba4f3 28 = .ok (.iload_n 0, 1) := by decide +kernel
theorem dJ6_getChars_ba4f3_29 : decode cJ6_getChars_ba4f3 29 = .ok (.bipush 100, 2) := by decide +kernel
theorem dJ6_getChars_ba4f3_31 : decode cJ6_getChars_ba4f3 31 = .ok (.idiv, 1) := by decide +kernel
theorem dJ6_getChars_ba4f3_32 : decode cJ6_getChars_ba4f3 32 = .ok (.istore_n 3, 1) := by decide +kernel
theorem dJ6_getChars_ba4f3_33 : decode cJ6_getChars_ba4f3 33 = .ok (.iload_n 3, 1) := by decide +kernel
theorem dJ6_getChars_ba4f3_34 : decode cJ6_getChars_ba4f3 34 = .ok (.bipush 100, 2) := by decide +kernel
theorem dJ6_getChars_ba4f3_36 : decode cJ6_getChars_ba4f3 36 = .ok (.imul, 1) := by decide +kernel
theorem dJ6_getChars_ba4f3_37 : decode cJ6_getChars_ba4f3 37 = .ok (.iload_n 0, 1) := by decide +kernel
theorem dJ6_getChars_ba4f3_38 : decode cJ6_getChars_ba4f3 38 = .ok (.isub, 1) := by decide +kernel
theorem dJ6_getChars_ba4f3_39 : decode cJ6_getChars_ba4f3 39 = .ok (.istore 4, 2) := by decide +kernel
theorem dJ6_getChars_ba4f3_41 : decode cJ6_getChars_ba4f3 41 = .ok (.iload_n 3, 1) := by decide +kernel
theorem dJ6_getChars_ba4f3_42 : decode cJ6_getChars_ba4f3 42 = .ok (.istore_n 0, 1) := by decide +kernel
theorem dJ6_getChars_ba4f3_43 : decode cJ6_getChars_ba4f3 43 = .ok (.aload_n 2, 1) := by decide +kernel
theorem dJ6_getChars_ba4f3_44 : decode cJ6_getChars_ba4f3 44 = .ok (.iinc 5 (-1), 3) := by decide +kernel
theorem dJ6_getChars_ba4f3_47 : decode cJ6_getChars_ba4f3 47 = .ok (.iload 5, 2) := by decide +kernel
theorem dJ6_getChars_ba4f3_49 : decode cJ6_getChars_ba4f3 49 = .ok (.getstatic 83, 3) := by decide +kernel
theorem dJ6_getChars_ba4f3_52 : decode cJ6_getChars_ba4f3 52 = .ok (.iload 4, 2) := by decide +kernel
theorem dJ6_getChars_ba4f3_54 : decode cJ6_getChars_ba4f3 54 = .ok (.baload, 1) := by decide +kernel
theorem dJ6_getChars_ba4f3_55 : decode cJ6_getChars_ba4f3 55 = .ok (.bastore, 1) := by decide +kernel
theorem dJ6_getChars_ba4f3_56 : decode cJ6_getChars_ba4f3 56 = .ok (.aload_n 2, 1) := by decide +kernel
theorem dJ6_getChars_ba4f3_57 : decode cJ6_getChars_ba4f3 57 = .ok (.iinc 5 (-1), 3) := by decide +kernel
theorem dJ6_getChars_ba4f3_60 : decode cJ6_getChars_ba4f3 60 = .ok (.iload 5, 2) := by decide +kernel
theorem dJ6_getChars_ba4f3_62 : decode cJ6_getChars_ba4f3 62 = .ok (.getstatic 87, 3) := by decide +kernel
theorem dJ6_getChars_ba4f3_65 : decode cJ6_getChars_ba4f3 65 = .ok (.iload 4, 2) := by decide +kernel
theorem dJ6_getChars_ba4f3_67 : decode cJ6_getChars_ba4f3 67 = .ok (.baload, 1) := by decide +kernel
theorem dJ6_getChars_ba4f3_68 : decode cJ6_getChars_ba4f3 68 = .ok (.bastore, 1) := by decide +kernel
theorem dJ6_getChars_ba4f3_69 : decode cJ6_getChars_ba4f3 69 = .ok (.goto (-47), 3) := by decide +kernel
theorem dJ6_getChars_ba4f3_72 : decode cJ6_getChars_ba4f3 72 = .ok (.aload_n 2, 1) := by decide +kernel
theorem dJ6_getChars_ba4f3_73 : decode cJ6_getChars_ba4f3 73 = .ok (.iinc 5 (-1), 3) := by decide +kernel
theorem dJ6_getChars_ba4f3_76 : decode cJ6_getChars_ba4f3 76 = .ok (.iload 5, 2) := by decide +kernel
theorem dJ6_getChars_ba4f3_78 : decode cJ6_getChars_ba4f3 78 = .ok (.getstatic 83, 3) := by decide +kernel
theorem dJ6_getChars_ba4f3_81 : decode cJ6_getChars_ba4f3 81 = .ok (.iload_n 0, 1) := by decide +kernel
theorem dJ6_getChars_ba4f3_82 : decode cJ6_getChars_ba4f3 82 = .ok (.ineg, 1) := by decide +kernel
theorem dJ6_getChars_ba4f3_83 : decode cJ6_getChars_ba4f3 83 = .ok (.baload, 1) := by decide +kernel
theorem dJ6_getChars_ba4f3_84 : decode cJ6_getChars_ba4f3 84 = .ok (.bastore, 1) := by decide +kernel
theorem dJ6_getChars_ba4f3_85 : decode cJ6_getChars_ba4f3 85 = .ok (.iload_n 0, 1) := by decide +kernel
theorem dJ6_getChars_ba4f3_86 : decode cJ6_getChars_ba4f3 86 = .ok (.bipush (-9), 2) := by decide +kernel
theorem dJ6_getChars_ba4f3_88 : decode cJ6_getChars_ba4f3 88 = .ok (.if_icmp .ge 16, 3) := by decide +kernel
theorem dJ6_getChars_ba4f3_91 : decode cJ6_getChars_ba4f3 91 = .ok (.aload_n 2, 1) := by decide +kernel
theorem dJ6_getChars_ba4f3_92 : decode cJ6_getChars_ba4f3 92 = .ok (.iinc 5 (-1), 3) := by decide +kernel
theorem dJ6_getChars_ba4f3_95 : decode cJ6_getChars_ba4f3 95 = .ok (.iload 5, 2) := by decide +kernel
theorem dJ6_getChars_ba4f3_97 : decode cJ6_getChars_ba4f3 97 = .ok (.getstatic 87, 3) := by decide +kernel
theorem dJ6_getChars_ba4f3_100 : decode cJ6_getChars_ba4f3 100 = .ok (.iload_n 0, 1) := by decide +kernel
theorem dJ6_getChars_ba4f3_101 : decode cJ6_getChars_ba4f3 101 = .ok (.ineg, 1) := by decide +kernel
theorem dJ6_getChars_ba4f3_102 : decode cJ6_getChars_ba4f3 102 = .ok (.baload, 1) := by decide +kernel
theorem dJ6_getChars_ba4f3_103 : decode cJ6_getChars_ba4f3 103 = .ok (.bastore, 1) := by decide +kernel
theorem dJ6_getChars_ba4f3_104 : decode cJ6_getChars_ba4f3 104 = .ok (.iload 6, 2) := by decide +kernel
theorem dJ6_getChars_ba4f3_106 : decode cJ6_getChars_ba4f3 106 = .ok (.ifCond .eq 12, 3) := by decide +kernel
theorem dJ6_getChars_ba4f3_109 : decode cJ6_getChars_ba4f3 109 = .ok (.aload_n 2, 1) := by decide +kernel
theorem dJ6_getChars_ba4f3_110 : decode cJ6_getChars_ba4f3 110 = .ok (.iinc 5 (-1), 3) := by decide +kernel
theorem dJ6_getChars_ba4f3_113 : decode cJ6_getChars_ba4f3 113 = .ok (.iload 5, 2) := by decide +kernel
theorem dJ6_getChars_ba4f3_115 : decode cJ6_getChars_ba4f3 115 = .ok (.bipush 45, 2) := by decide +kernel
theorem dJ6_getChars_ba4f3_117 : decode cJ6_getChars_ba4f3 117 = .ok (.bastore, 1) := by decide +kernel
theorem dJ6_getChars_ba4f3_118 : decode cJ6_getChars_ba4f3 118 = .ok (.iload 5, 2) := by decide +kernel
theorem dJ6_getChars_ba4f3_120 : decode cJ6_getChars_ba4f3 120 = .ok (.ireturn, 1) := by decide +kernel
theorem dJ5_append_3fe6f_0 : decode cJ5_append_3fe6f 0 = .ok (.aload_n 0, 1) := by decide +kernel
theorem dJ5_append_3fe6f_1 : decode cJ5_append_3fe6f 1 = .ok (.aload_n 0, 1) := by decide +kernel
theorem dJ5_append_3fe6f_2 : decode cJ5_append_3fe6f 2 = .ok (.getfield 79, 3) := by decide +kernel
theorem dJ5_append_3fe6f_5 : decode cJ5_append_3fe6f 5 = .ok (.iconst 1, 1) := by decide +kernel
theorem dJ5_append_3fe6f_6 : decode cJ5_append_3fe6f 6 = .ok (.iadd, 1) := by decide +kernel
theorem dJ5_append_3fe6f_7 : decode cJ5_append_3fe6f 7 = .ok (.invokevirtual 100, 3) := by decide +kernel
theorem dJ5_append_3fe6f_10 : decode cJ5_append_3fe6f 10 = .ok (.aload_n 0, 1) := by decide +kernel
theorem dJ5_append_3fe6f_11 : decode cJ5_append_3fe6f 11 = .ok (.invokevirtual 83, 3) := by decide +kernel
theorem dJ5_append_3fe6f_14 : decode cJ5_append_3fe6f 14 = .ok (.ifCond .eq 31, 3) := by decide +kernel
theorem dJ5_append_3fe6f_17 : decode cJ5_append_3fe6f 17 = .ok (.iload_n 1, 1) := by decide +kernel
theorem dJ5_append_3fe6f_18 : decode cJ5_append_3fe6f 18 = .ok (.invokestatic 191, 3) := by decide +kernel
theorem dJ5_append_3fe6f_21 : decode cJ5_append_3fe6f 21 = .ok (.ifCond .eq 24, 3) := by decide +kernel
theorem dJ5_append_3fe6f_24 : decode cJ5_append_3fe6f 24 = .ok (.aload_n 0, 1) := by decide +kernel
theorem dJ5_append_3fe6f_25 : decode cJ5_append_3fe6f 25 = .ok (.getfield 15, 3) := by decide +kernel
theorem dJ5_append_3fe6f_28 : decode cJ5_append_3fe6f 28 = .ok (.aload_n 0, 1) := by decide +kernel
theorem dJ5_append_3fe6f_29 : decode cJ5_append_3fe6f 29 = .ok (.dup, 1) := by decide +kernel
theorem dJ5_append_3fe6f_30 : decode cJ5_append_3fe6f 30 = .ok (.getfield 79, 3) := by decide +kernel
theorem dJ5_append_3fe6f_33 : decode cJ5_append_3fe6f 33 = .ok (.dup_x1, 1) := by decide +kernel
theorem dJ5_append_3fe6f_34 : decode cJ5_append_3fe6f 34 = .ok (.iconst 1, 1) := by decide +kernel
theorem dJ5_append_3fe6f_35 : decode cJ5_append_3fe6f 35 = .ok (.iadd, 1) := by decide +kernel
theorem dJ5_append_3fe6f_36 : decode cJ5_append_3fe6f 36 = .ok (.putfield 79, 3) := by decide +kernel
theorem dJ5_append_3fe6f_39 : decode cJ5_append_3fe6f 39 = .ok (.iload_n 1, 1) := by decide +kernel
theorem dJ5_append_3fe6f_40 : decode cJ5_append_3fe6f 40 = .ok (.i2b, 1) := by decide +kernel
theorem dJ5_append_3fe6f_41 : decode cJ5_append_3fe6f 41 = .ok (.bastore, 1) := by decide +kernel
theorem dJ5_append_3fe6f_42 : decode cJ5_append_3fe6f 42 = .ok (.goto 33, 3) := by decide +kernel
theorem dJ5_append_3fe6f_45 : decode cJ5_append_3fe6f 45 = .ok (.aload_n 0, 1) := by decide +kernel
theorem dJ5_append_3fe6f_46 : decode cJ5_append_3fe6f 46 = .ok (.invokevirtual 83, 3) := by decide +kernel
theorem dJ5_append_3fe6f_49 : decode cJ5_append_3fe6f 49 = .ok (.ifCond .eq 7, 3) := by decide +kernel
theorem dJ5_append_3fe6f_52 : decode cJ5_append_3fe6f 52 = .ok (.aload_n 0, 1) := by decide +kernel
theorem dJ5_append_3fe6f_53 : decode cJ5_append_3fe6f 53 = .ok (.invokevirtual 195, 3) := by decide +kernel
theorem dJ5_append_3fe6f_56 : decode cJ5_append_3fe6f 56 = .ok (.aload_n 0, 1) := by decide +kernel
theorem dJ5_append_3fe6f_57 : decode cJ5_append_3fe6f 57 = .ok (.getfield 15, 3) := by decide +kernel
theorem dJ5_append_3fe6f_60 : decode cJ5_append_3fe6f 60 = .ok (.aload_n 0, 1) := by decide +kernel
theorem dJ5_append_3fe6f_61 : decode cJ5_append_3fe6f 61 = .ok (.dup, 1) := by decide +kernel
theorem dJ5_append_3fe6f_62 : decode cJ5_append_3fe6f 62 = .ok (.getfield 79, 3) := by decide +kernel
theorem dJ5_append_3fe6f_65 : decode cJ5_append_3fe6f 65 = .ok (.dup_x1, 1) := by decide +kernel
theorem dJ5_append_3fe6f_66 : decode cJ5_append_3fe6f 66 = .ok (.iconst 1, 1) := by decide +kernel
theorem dJ5_append_3fe6f_67 : decode cJ5_append_3fe6f 67 = .ok (.iadd, 1) := by decide +kernel
theorem dJ5_append_3fe6f_68 : decode cJ5_append_3fe6f 68 = .ok (.putfield 79, 3) := by decide +kernel
theorem dJ5_append_3fe6f_71 : decode cJ5_append_3fe6f 71 = .ok (.iload_n 1, 1) := by decide +kernel
theorem dJ5_append_3fe6f_72 : decode cJ5_append_3fe6f 72 = .ok (.invokestatic 197, 3) := by decide +kernel
theorem dJ5_append_3fe6f_75 : decode cJ5_append_3fe6f 75 = .ok (.aload_n 0, 1) := by decide +kernel
theorem dJ5_append_3fe6f_76 : decode cJ5_append_3fe6f 76 = .ok (.areturn, 1) := by decide +kernel
theorem dJ4_append_cf468_0 : decode cJ4_append_cf468 0 = .ok (.aload_n 0, 1) := by decide +kernel
theorem dJ4_append_cf468_1 : decode cJ4_append_cf468 1 = .ok (.iload_n 1, 1) := by decide +kernel
theorem dJ4_append_cf468_2 : decode cJ4_append_cf468 2 = .ok (.invokespecial 50, 3) := by decide +kernel
theorem dJ4_append_cf468_5 : decode cJ4_append_cf468 5 = .ok (.pop, 1) := by decide +kernel
theorem dJ4_append_cf468_6 : decode cJ4_append_cf468 6 = .ok (.aload_n 0, 1) := by decide +kernel
theorem dJ4_append_cf468_7 : decode cJ4_append_cf468 7 = .ok (.areturn, 1) := by decide +kernel
theorem dJ5_append_c97b9_0 : decode cJ5_append_c97b9 0 = .ok (.aload_n 0, 1) := by decide +kernel
theorem dJ5_append_c97b9_1 : decode cJ5_append_c97b9 1 = .ok (.getfield 79, 3) := by decide +kernel
theorem dJ5_append_c97b9_4 : decode cJ5_append_c97b9 4 = .ok (.istore_n 2, 1) := by decide +kernel
theorem dJ5_append_c97b9_5 : decode cJ5_append_c97b9 5 = .ok (.iload_n 2, 1) := by decide +kernel
theorem dJ5_append_c97b9_6 : decode cJ5_append_c97b9 6 = .ok (.iload_n 1, 1) := by decide +kernel
theorem dJ5_append_c97b9_7 : decode cJ5_append_c97b9 7 = .ok (.invokestatic 245, 3) := by decide +kernel
theorem dJ5_append_c97b9_10 : decode cJ5_append_c97b9 10 = .ok (.iadd, 1) := by decide +kernel
theorem dJ5_append_c97b9_11 : decode cJ5_append_c97b9 11 = .ok (.istore_n 3, 1) := by decide +kernel
theorem dJ5_append_c97b9_12 : decode cJ5_append_c97b9 12 = .ok (.aload_n 0, 1) := by decide +kernel
theorem dJ5_append_c97b9_13 : decode cJ5_append_c97b9 13 = .ok (.iload_n 3, 1) := by decide +kernel
theorem dJ5_append_c97b9_14 : decode cJ5_append_c97b9 14 = .ok (.invokevirtual 100, 3) := by decide +kernel
theorem dJ5_append_c97b9_17 : decode cJ5_append_c97b9 17 = .ok (.aload_n 0, 1) := by decide +kernel
theorem dJ5_append_c97b9_18 : decode cJ5_append_c97b9 18 = .ok (.invokevirtual 83, 3) := by decide +kernel
theorem dJ5_append_c97b9_21 : decode cJ5_append_c97b9 21 = .ok (.ifCond .eq 16, 3) := by decide +kernel
theorem dJ5_append_c97b9_24 : decode cJ5_append_c97b9 24 = .ok (.iload_n 1, 1) := by decide +kernel
theorem dJ5_append_c97b9_25 : decode cJ5_append_c97b9 25 = .ok (.iload_n 3, 1) := by decide +kernel
theorem dJ5_append_c97b9_26 : decode cJ5_append_c97b9 26 = .ok (.aload_n 0, 1) := by decide +kernel
theorem dJ5_append_c97b9_27 : decode cJ5_append_c97b9 27 = .ok (.getfield 15, 3) := by decide +kernel
theorem dJ5_append_c97b9_30 : decode cJ5_append_c97b9 30 = .ok (.invokestatic 248, 3) := by decide +kernel
theorem dJ5_append_c97b9_33 : decode cJ5_append_c97b9 33 = .ok (.pop, 1) := by decide +kernel
theorem dJ5_append_c97b9_34 : decode cJ5_append_c97b9 34 = .ok (.goto 14, 3) := by decide +kernel
theorem dJ5_append_c97b9_37 : decode cJ5_append_c97b9 37 = .ok (.iload_n 1, 1) := by decide +kernel
theorem dJ5_append_c97b9_38 : decode cJ5_append_c97b9 38 = .ok (.iload_n 2, 1) := by decide +kernel
theorem dJ5_append_c97b9_39 : decode cJ5_append_c97b9 39 = .ok (.iload_n 3, 1) := by decide +kernel
theorem dJ5_append_c97b9_40 : decode cJ5_append_c97b9 40 = .ok (.aload_n 0, 1) := by decide +kernel
theorem dJ5_append_c97b9_41 : decode cJ5_append_c97b9 41 = .ok (.getfield 15, 3) := by decide +kernel
theorem dJ5_append_c97b9_44 : decode cJ5_append_c97b9 44 = .ok (.invokestatic 251, 3) := by decide +kernel
theorem dJ5_append_c97b9_47 : decode cJ5_append_c97b9 47 = .ok (.pop, 1) := by decide +kernel
theorem dJ5_append_c97b9_48 : decode cJ5_append_c97b9 48 = .ok (.aload_n 0, 1) := by decide +kernel
theorem dJ5_append_c97b9_49 : decode cJ5_append_c97b9 49 = .ok (.iload_n 3, 1) := by decide +kernel
theorem dJ5_append_c97b9_50 : decode cJ5_append_c97b9 50 = .ok (.putfield 79, 3) := by decide +kernel
theorem dJ5_append_c97b9_53 : decode cJ5_append_c97b9 53 = .ok (.aload_n 0, 1) := by decide +kernel
theorem dJ5_append_c97b9_54 : decode cJ5_append_c97b9 54 = .ok (.areturn, 1) := by decide +kernel
theorem dJ4_append_bf812_0 : decode cJ4_append_bf812 0 = .ok (.aload_n 0, 1) := by decide +kernel
theorem dJ4_append_bf812_1 : decode cJ4_append_bf812 1 = .ok (.iload_n 1, 1) := by decide +kernel
theorem dJ4_append_bf812_2 : decode cJ4_append_bf812 2 = .ok (.invokespecial 53, 3) := by decide +kernel
theorem dJ4_append_bf812_5 : decode cJ4_append_bf812 5 = .ok (.pop, 1) := by decide +kernel
theorem dJ4_append_bf812_6 : decode cJ4_append_bf812 6 = .ok (.aload_n 0, 1) := by decide +kernel
theorem dJ4_append_bf812_7 : decode cJ4_append_bf812 7 = .ok (.areturn, 1) := by decide +kernel
theorem dJ5_setLength_d00df_0 : decode cJ5_setLength_d00df 0 = .ok (.iload_n 1, 1) := by decide +kernel
theorem dJ5_setLength_d00df_1 : decode cJ5_setLength_d00df 1 = .ok (.ifCond .ge 12, 3) := by decide +kernel
theorem dJ5_setLength_d00df_4 : decode cJ5_setLength_d00df 4 = .ok (.new 129, 3) := by decide +kernel
theorem dJ5_setLength_d00df_7 : decode cJ5_setLength_d00df 7 = .ok (.dup, 1) := by decide +kernel
theorem dJ5_setLength_d00df_8 : decode cJ5_setLength_d00df 8 = .ok (.iload_n 1, 1) := by decide +kernel
theorem dJ5_setLength_d00df_9 : decode cJ5_setLength_d00df 9 = .ok (.invokespecial 131, 3) := by decide +kernel
theorem dJ5_setLength_d00df_12 : decode cJ5_setLength_d00df 12 = .ok (.athrow, 1) := by decide +kernel
theorem dJ5_setLength_d00df_13 : decode cJ5_setLength_d00df 13 = .ok (.aload_n 0, 1) := by decide +kernel
theorem dJ5_setLength_d00df_14 : decode cJ5_setLength_d00df 14 = .ok (.iload_n 1, 1) := by decide +kernel
theorem dJ5_setLength_d00df_15 : decode cJ5_setLength_d00df 15 = .ok (.invokevirtual 100, 3) := by decide +kernel
theorem dJ5_setLength_d00df_18 : decode cJ5_setLength_d00df 18 = .ok (.aload_n 0, 1) := by decide +kernel
theorem dJ5_setLength_d00df_19 : decode cJ5_setLength_d00df 19 = .ok (.getfield 79, 3) := by decide +kernel
theorem dJ5_setLength_d00df_22 : decode cJ5_setLength_d00df 22 = .ok (.iload_n 1, 1) := by decide +kernel
theorem dJ5_setLength_d00df_23 : decode cJ5_setLength_d00df 23 = .ok (.if_icmp .ge 40, 3) := by decide +kernel
theorem dJ5_setLength_d00df_26 : decode cJ5_setLength_d00df 26 = .ok (.aload_n 0, 1) := by decide +kernel
theorem dJ5_setLength_d00df_27 : decode cJ5_setLength_d00df 27 = .ok (.invokevirtual 83, 3) := by decide +kernel
theorem dJ5_setLength_d00df_30 : decode cJ5_setLength_d00df 30 = .ok (.ifCond .eq 18, 3) := by decide +kernel
theorem dJ5_setLength_d00df_33 : decode cJ5_setLength_d00df 33 = .ok (.aload_n 0, 1) := by decide +kernel
theorem dJ5_setLength_d00df_34 : decode cJ5_setLength_d00df 34 = .ok (.getfield 15, 3) := by decide +kernel
theorem dJ5_setLength_d00df_37 : decode cJ5_setLength_d00df 37 = .ok (.aload_n 0, 1) := by decide +kernel
theorem dJ5_setLength_d00df_38 : decode cJ5_setLength_d00df 38 = .ok (.getfield 79, 3) := by decide +kernel
theorem dJ5_setLength_d00df_41 : decode cJ5_setLength_d00df 41 = .ok (.iload_n 1, 1) := by decide +kernel
theorem dJ5_setLength_d00df_42 : decode cJ5_setLength_d00df 42 = .ok (.invokestatic 133, 3) := by decide +kernel
theorem dJ5_setLength_d00df_45 : decode cJ5_setLength_d00df 45 = .ok (.goto 31, 3) := by decide +kernel
theorem dJ5_setLength_d00df_48 : decode cJ5_setLength_d00df 48 = .ok (.aload_n 0, 1) := by decide +kernel
theorem dJ5_setLength_d00df_49 : decode cJ5_setLength_d00df 49 = .ok (.getfield 15, 3) := by decide +kernel
theorem dJ5_setLength_d00df_52 : decode cJ5_setLength_d00df 52 = .ok (.aload_n 0, 1) := by decide +kernel
theorem dJ5_setLength_d00df_53 : decode cJ5_setLength_d00df 53 = .ok (.getfield 79, 3) := by decide +kernel
theorem dJ5_setLength_d00df_56 : decode cJ5_setLength_d00df 56 = .ok (.iload_n 1, 1) := by decide +kernel
theorem dJ5_setLength_d00df_57 : decode cJ5_setLength_d00df 57 = .ok (.invokestatic 137, 3) := by decide +kernel
theorem dJ5_setLength_d00df_60 : decode cJ5_setLength_d00df 60 = .ok (.goto 16, 3) := by decide +kernel
theorem dJ5_setLength_d00df_63 : decode cJ5_setLength_d00df 63 = .ok (.aload_n 0, 1) := by decide +kernel
theorem dJ5_setLength_d00df_64 : decode cJ5_setLength_d00df 64 = .ok (.getfield 79, 3) := by decide +kernel
theorem dJ5_setLength_d00df_67 : decode cJ5_setLength_d00df 67 = .ok (.iload_n 1, 1) := by decide +kernel
theorem dJ5_setLength_d00df_68 : decode cJ5_setLength_d00df 68 = .ok (.if_icmp .le 8, 3) := by decide +kernel
theorem dJ5_setLength_d00df_71 : decode cJ5_setLength_d00df 71 = .ok (.aload_n 0, 1) := by decide +kernel
theorem dJ5_setLength_d00df_72 : decode cJ5_setLength_d00df 72 = .ok (.iconst 1, 1) := by decide +kernel
theorem dJ5_setLength_d00df_73 : decode cJ5_setLength_d00df 73 = .ok (.putfield 73, 3) := by decide +kernel
theorem dJ5_setLength_d00df_76 : decode cJ5_setLength_d00df 76 = .ok (.aload_n 0, 1) := by decide +kernel
theorem dJ5_setLength_d00df_77 : decode cJ5_setLength_d00df 77 = .ok (.iload_n 1, 1) := by decide +kernel
theorem dJ5_setLength_d00df_78 : decode cJ5_setLength_d00df 78 = .ok (.putfield 79, 3) := by decide +kernel
theorem dJ5_setLength_d00df_81 : decode cJ5_setLength_d00df 81 = .ok (.return_, 1) := by decide +kernel
theorem dJ4_setLength_d00df_0 : decode cJ4_setLength_d00df 0 = .ok (.aload_n 0, 1) := by decide +kernel
theorem dJ4_setLength_d00df_1 : decode cJ4_setLength_d00df 1 = .ok (.iload_n 1, 1) := by decide +kernel
theorem dJ4_setLength_d00df_2 : decode cJ4_setLength_d00df 2 = .ok (.invokespecial 333, 3) := by decide +kernel
theorem dJ4_setLength_d00df_5 : decode cJ4_setLength_d00df 5 = .ok (.return_, 1) := by decide +kernel
theorem dJ5_length_8abf5_0 : decode cJ5_length_8abf5 0 = .ok (.aload_n 0, 1) := by decide +kernel
theorem dJ5_length_8abf5_1 : decode cJ5_length_8abf5 1 = .ok (.getfield 79, 3) := by decide +kernel
theorem dJ5_length_8abf5_4 : decode cJ5_length_8abf5 4 = .ok (.ireturn, 1) := by decide +kernel
theorem dJ4_length_8abf5_0 : decode cJ4_length_8abf5 0 = .ok (.aload_n 0, 1) := by decide +kernel
theorem dJ4_length_8abf5_1 : decode cJ4_length_8abf5 1 = .ok (.invokespecial 343, 3) := by decide +kernel
theorem dJ4_length_8abf5_4 : decode cJ4_length_8abf5 4 = .ok (.ireturn, 1) := by decide +kernel
theorem dJ5_charAt_5068e_0 : decode cJ5_charAt_5068e 0 = .ok (.aload_n 0, 1) := by decide +kernel
theorem dJ5_charAt_5068e_1 : decode cJ5_charAt_5068e 1 = .ok (.getfield 22, 3) := by decide +kernel
theorem dJ5_charAt_5068e_4 : decode cJ5_charAt_5068e 4 = .ok (.istore_n 2, 1) := by decide +kernel
theorem dJ5_charAt_5068e_5 : decode cJ5_charAt_5068e 5 = .ok (.aload_n 0, 1) := by decide +kernel
theorem dJ5_charAt_5068e_6 : decode cJ5_charAt_5068e 6 = .ok (.getfield 15, 3) := by decide +kernel
theorem dJ5_charAt_5068e_9 : decode cJ5_charAt_5068e 9 = .ok (.astore_n 3, 1) := by decide +kernel
theorem dJ5_charAt_5068e_10 : decode cJ5_charAt_5068e 10 = .ok (.aload_n 0, 1) := by decide +kernel
theorem dJ5_charAt_5068e_11 : decode cJ5_charAt_5068e 11 = .ok (.getfield 79, 3) := by decide +kernel
theorem dJ5_charAt_5068e_14 : decode cJ5_charAt_5068e 14 = .ok (.aload_n 3, 1) := by decide +kernel
theorem dJ5_charAt_5068e_15 : decode cJ5_charAt_5068e 15 = .ok (.arraylength, 1) := by decide +kernel
theorem dJ5_charAt_5068e_16 : decode cJ5_charAt_5068e 16 = .ok (.iload_n 2, 1) := by decide +kernel
theorem dJ5_charAt_5068e_17 : decode cJ5_charAt_5068e 17 = .ok (.ishr, 1) := by decide +kernel
theorem dJ5_charAt_5068e_18 : decode cJ5_charAt_5068e 18 = .ok (.invokestatic 138, 3) := by decide +kernel
theorem dJ5_charAt_5068e_21 : decode cJ5_charAt_5068e 21 = .ok (.istore 4, 2) := by decide +kernel
theorem dJ5_charAt_5068e_23 : decode cJ5_charAt_5068e 23 = .ok (.iload_n 1, 1) := by decide +kernel
theorem dJ5_charAt_5068e_24 : decode cJ5_charAt_5068e 24 = .ok (.iload 4, 2) := by decide +kernel
theorem dJ5_charAt_5068e_26 : decode cJ5_charAt_5068e 26 = .ok (.invokestatic 144, 3) := by decide +kernel
theorem dJ5_charAt_5068e_29 : decode cJ5_charAt_5068e 29 = .ok (.iload_n 2, 1) := by decide +kernel
theorem dJ5_charAt_5068e_30 : decode cJ5_charAt_5068e 30 = .ok (.ifCond .ne 12, 3) := by decide +kernel
theorem dJ5_charAt_5068e_33 : decode cJ5_charAt_5068e 33 = .ok (.aload_n 3, 1) := by decide +kernel
theorem dJ5_charAt_5068e_34 : decode cJ5_charAt_5068e 34 = .ok (.iload_n 1, 1) := by decide +kernel
theorem dJ5_charAt_5068e_35 : decode cJ5_charAt_5068e 35 = .ok (.baload, 1) := by decide +kernel
theorem dJ5_charAt_5068e_36 : decode cJ5_charAt_5068e 36 = .ok (.sipush 255, 3) := by decide +kernel
theorem dJ5_charAt_5068e_39 : decode cJ5_charAt_5068e 39 = .ok (.iand, 1) := by decide +kernel
theorem dJ5_charAt_5068e_40 : decode cJ5_charAt_5068e 40 = .ok (.i2c, 1) := by decide +kernel
theorem dJ5_charAt_5068e_41 : decode cJ5_charAt_5068e 41 = .ok (.ireturn, 1) := by decide +kernel
theorem dJ5_charAt_5068e_42 : decode cJ5_charAt_5068e 42 = .ok (.aload_n 3, 1) := by decide +kernel
theorem dJ5_charAt_5068e_43 : decode cJ5_charAt_5068e 43 = .ok (.iload_n 1, 1) := by decide +kernel
theorem dJ5_charAt_5068e_44 : decode cJ5_charAt_5068e 44 = .ok (.invokestatic 148, 3) := by decide +kernel
theorem dJ5_charAt_5068e_47 : decode cJ5_charAt_5068e 47 = .ok (.ireturn, 1) := by decide +kernel
theorem dJ4_charAt_5068e_0 : decode cJ4_charAt_5068e 0 = .ok (.aload_n 0, 1) := by decide +kernel
theorem dJ4_charAt_5068e_1 : decode cJ4_charAt_5068e 1 = .ok (.iload_n 1, 1) := by decide +kernel
theorem dJ4_charAt_5068e_2 : decode cJ4_charAt_5068e 2 = .ok (.invokespecial 329, 3) := by decide +kernel
theorem dJ4_charAt_5068e_5 : decode cJ4_charAt_5068e 5 = .ok (.ireturn, 1) := by decide +kernel
def kDg (x : Int) : List Int := if x < 10 then [48 + x] else if x < 100 then [48 + x / 10, 48 + x % 10] else [48 + x / 100, 48 + x / 10 % 10, 48 + x % 10]
theorem kDg_1 {x : Int} (h : x < 10) : kDg x = [48 + x] := by unfold kDg; rw [if_pos h]
theorem kDg_2 {x : Int} (h : ¬ x < 10) (h2 : x < 100) : kDg x = [48 + x / 10, 48 + x % 10] := by unfold kDg; rw [if_neg h, if_pos h2]
theorem kDg_3 {x : Int} (h : ¬ x < 100) : kDg x = [48 + x / 100, 48 + x / 10 % 10, 48 + x % 10] := by unfold kDg; rw [if_neg (by omega), if_neg h]
theorem kDg_len (x : Int) : 1 ≤ (kDg x).length ∧ (kDg x).length ≤ 3 := by
  by_cases h : x < 10
  · rw [kDg_1 h]; show 1 ≤ 1 ∧ 1 ≤ 3; decide
  · by_cases h2 : x < 100
    · rw [kDg_2 h h2]; show 1 ≤ 2 ∧ 2 ≤ 3; decide
    · rw [kDg_3 h2]; show 1 ≤ 3 ∧ 3 ≤ 3; decide
theorem kDg_rng {x c : Int} (h0 : 0 ≤ x) (h1 : x < 1000) (hc : c ∈ kDg x) : 0 ≤ c ∧ c < 128 := by
  by_cases h : x < 10
  · rw [kDg_1 h] at hc
    simp only [List.mem_cons, List.not_mem_nil, or_false] at hc
    omega
  · by_cases h2 : x < 100
    · rw [kDg_2 h h2] at hc
      simp only [List.mem_cons, List.not_mem_nil, or_false] at hc
      omega
    · rw [kDg_3 h2] at hc
      simp only [List.mem_cons, List.not_mem_nil, or_false] at hc
      omega
theorem sp_J6_stringSize {sh : gS} {M : gM} {x : Int} (h0 : 0 ≤ x) (h1 : x < 1000) : gC (gr 0 0) yJ6_stringSize_0f7a4 cJ6_stringSize_0f7a4 4 (some (.int)) [(0, x)] sh M (gPp sh M (0, ((kDg x).length : Int))) := by
  refine gC_ofA (lv := [_, _, _, _]) (by decide +kernel) (Nat.le_of_ble_eq_true rfl) rfl (fun hMw hav => ?_)
  refine g_iconst (q0 := 1) rfl dJ6_stringSize_0f7a4_0 (k := ?_)
  refine g_istore_n (q0 := 2) (j := 1) (lv2 := [_, _, _, _]) rfl dJ6_stringSize_0f7a4_1 (by decide) rfl rfl ?_
  refine g_iload_n (q0 := 3) (j := 0) rfl dJ6_stringSize_0f7a4_2 rfl ?_
  refine g_if_lt (q0 := 6) (tgt := 11) rfl dJ6_stringSize_0f7a4_3 (by decide) (fun h3 => ?_) (fun h3 => ?_)
  · exact absurd h3 (by omega)
  · refine g_iconst (q0 := 7) rfl dJ6_stringSize_0f7a4_6 (k := ?_)
    refine g_istore_n (q0 := 8) (j := 1) (lv2 := [_, _, _, _]) rfl dJ6_stringSize_0f7a4_7 (by decide) rfl rfl ?_
    refine g_iload_n (q0 := 9) (j := 0) rfl dJ6_stringSize_0f7a4_8 rfl ?_
    refine g_ineg (q0 := 10) rfl dJ6_stringSize_0f7a4_9 (by omega) (by omega) ?_
    refine g_istore_n (q0 := 11) (j := 0) (lv2 := [_, _, _, _]) rfl dJ6_stringSize_0f7a4_10 (by decide) rfl rfl ?_
    refine g_bipush (q0 := 13) rfl dJ6_stringSize_0f7a4_11 (k := ?_)
    refine g_istore_n (q0 := 14) (j := 2) (lv2 := [_, _, _, _]) rfl dJ6_stringSize_0f7a4_13 (by decide) rfl rfl ?_
    refine g_iconst (q0 := 15) rfl dJ6_stringSize_0f7a4_14 (k := ?_)
    refine g_istore_n (q0 := 16) (j := 3) (lv2 := [_, _, _, _]) rfl dJ6_stringSize_0f7a4_15 (by decide) rfl rfl ?_
    refine g_iload_n (q0 := 17) (j := 3) rfl dJ6_stringSize_0f7a4_16 rfl ?_
    refine g_bipush (q0 := 19) rfl dJ6_stringSize_0f7a4_17 (k := ?_)
    refine g_icmp_ge (q0 := 22) (tgt := 42) rfl dJ6_stringSize_0f7a4_19 (by decide) (fun h19 => ?_) (fun h19 => ?_)
    · exact absurd h19 (by decide)
    · refine g_iload_n (q0 := 23) (j := 0) rfl dJ6_stringSize_0f7a4_22 rfl ?_
      refine g_iload_n (q0 := 24) (j := 2) rfl dJ6_stringSize_0f7a4_23 rfl ?_
      refine g_icmp_le (q0 := 27) (tgt := 31) rfl dJ6_stringSize_0f7a4_24 (by decide) (fun h24 => ?_) (fun h24 => ?_)
      · refine g_bipush (q0 := 33) rfl dJ6_stringSize_0f7a4_31 (k := ?_)
        refine g_iload_n (q0 := 34) (j := 2) rfl dJ6_stringSize_0f7a4_33 rfl ?_
        refine g_imul (q0 := 35) rfl dJ6_stringSize_0f7a4_34 (by omega) (by omega) ?_
        refine g_istore_n (q0 := 36) (j := 2) (lv2 := [_, _, _, _]) rfl dJ6_stringSize_0f7a4_35 (by decide) rfl rfl ?_
        refine g_iinc (q0 := 39) (lv2 := [_, _, _, _]) rfl dJ6_stringSize_0f7a4_36 rfl (by decide) rfl rfl (by omega) (by omega) ?_
        refine g_goto (tgt := 16) dJ6_stringSize_0f7a4_39 (by decide) ?_
        refine g_iload_n (q0 := 17) (j := 3) rfl dJ6_stringSize_0f7a4_16 rfl ?_
        refine g_bipush (q0 := 19) rfl dJ6_stringSize_0f7a4_17 (k := ?_)
        refine g_icmp_ge (q0 := 22) (tgt := 42) rfl dJ6_stringSize_0f7a4_19 (by decide) (fun h19 => ?_) (fun h19 => ?_)
        · exact absurd h19 (by decide)
        · refine g_iload_n (q0 := 23) (j := 0) rfl dJ6_stringSize_0f7a4_22 rfl ?_
          refine g_iload_n (q0 := 24) (j := 2) rfl dJ6_stringSize_0f7a4_23 rfl ?_
          refine g_icmp_le (q0 := 27) (tgt := 31) rfl dJ6_stringSize_0f7a4_24 (by decide) (fun h24 => ?_) (fun h24 => ?_)
          · refine g_bipush (q0 := 33) rfl dJ6_stringSize_0f7a4_31 (k := ?_)
            refine g_iload_n (q0 := 34) (j := 2) rfl dJ6_stringSize_0f7a4_33 rfl ?_
            refine g_imul (q0 := 35) rfl dJ6_stringSize_0f7a4_34 (by omega) (by omega) ?_
            refine g_istore_n (q0 := 36) (j := 2) (lv2 := [_, _, _, _]) rfl dJ6_stringSize_0f7a4_35 (by decide) rfl rfl ?_
            refine g_iinc (q0 := 39) (lv2 := [_, _, _, _]) rfl dJ6_stringSize_0f7a4_36 rfl (by decide) rfl rfl (by omega) (by omega) ?_
            refine g_goto (tgt := 16) dJ6_stringSize_0f7a4_39 (by decide) ?_
            refine g_iload_n (q0 := 17) (j := 3) rfl dJ6_stringSize_0f7a4_16 rfl ?_
            refine g_bipush (q0 := 19) rfl dJ6_stringSize_0f7a4_17 (k := ?_)
            refine g_icmp_ge (q0 := 22) (tgt := 42) rfl dJ6_stringSize_0f7a4_19 (by decide) (fun h19 => ?_) (fun h19 => ?_)
            · exact absurd h19 (by decide)
            · refine g_iload_n (q0 := 23) (j := 0) rfl dJ6_stringSize_0f7a4_22 rfl ?_
              refine g_iload_n (q0 := 24) (j := 2) rfl dJ6_stringSize_0f7a4_23 rfl ?_
              refine g_icmp_le (q0 := 27) (tgt := 31) rfl dJ6_stringSize_0f7a4_24 (by decide) (fun h24 => ?_) (fun h24 => ?_)
              · exact absurd h24 (by omega)
              · refine g_iload_n (q0 := 28) (j := 3) rfl dJ6_stringSize_0f7a4_27 rfl ?_
                refine g_iload_n (q0 := 29) (j := 1) rfl dJ6_stringSize_0f7a4_28 rfl ?_
                refine g_iadd (q0 := 30) rfl dJ6_stringSize_0f7a4_29 (by omega) (by omega) ?_
                refine g_ireturn dJ6_stringSize_0f7a4_30 rfl ⟨Nat.zero_le _, Nat.zero_le _⟩ ?_
                rw [kDg_3 (by omega)]
                exact ⟨rfl, rfl, rfl⟩
          · refine g_iload_n (q0 := 28) (j := 3) rfl dJ6_stringSize_0f7a4_27 rfl ?_
            refine g_iload_n (q0 := 29) (j := 1) rfl dJ6_stringSize_0f7a4_28 rfl ?_
            refine g_iadd (q0 := 30) rfl dJ6_stringSize_0f7a4_29 (by omega) (by omega) ?_
            refine g_ireturn dJ6_stringSize_0f7a4_30 rfl ⟨Nat.zero_le _, Nat.zero_le _⟩ ?_
            rw [kDg_2 (by omega) (by omega)]
            exact ⟨rfl, rfl, rfl⟩
      · refine g_iload_n (q0 := 28) (j := 3) rfl dJ6_stringSize_0f7a4_27 rfl ?_
        refine g_iload_n (q0 := 29) (j := 1) rfl dJ6_stringSize_0f7a4_28 rfl ?_
        refine g_iadd (q0 := 30) rfl dJ6_stringSize_0f7a4_29 (by omega) (by omega) ?_
        refine g_ireturn dJ6_stringSize_0f7a4_30 rfl ⟨Nat.zero_le _, Nat.zero_le _⟩ ?_
        rw [kDg_1 (by omega)]
        exact ⟨rfl, rfl, rfl⟩
theorem gdiv_dg : ∀ n : Nat, n < 20 → gdiv (-(100 + (n : Int))) 100 = -1 := by decide
/-- a number's digits, laid at the places before k of the cell t -/
def gcP (sh : gS) (M : gM) (t k x : Int) (M1 : gM) : Prop := gOK sh M1 ∧ (∀ b : Int, b ≠ t → M1 b = M b) ∧ (∀ j : Int, j < k - ((kDg x).length : Int) ∨ k ≤ j → M1 t j = M t j) ∧ ∀ (q : Nat) (c : Int), (kDg x)[q]? = some c → M1 t (k - ((kDg x).length : Int) + (q : Int)) = c
theorem sp_J6_getChars {sh : gS} {M : gM} {x k t : Int} {n : Nat} (hOK : gOK sh M) (hs : gsh sh t = some (2, n)) (hn : n ≤ 1000) (h0 : 0 ≤ x) (h1 : x < 120) (hk : ((kDg x).length : Int) ≤ k) (hkn : k ≤ n) :
    gC (gr 0 0) yJ6_getChars_ba4f3 cJ6_getChars_ba4f3 7 (some (.int)) [(0, x), (0, k), (4, t)] sh M (gPm sh (fun r M1 => r = some (0, k - ((kDg x).length : Int)) ∧ gcP sh M t k x M1)) := by
  have hl := kDg_len x
  refine gC_ofA (lv := [_, _, _, _, _, _, _]) (by decide +kernel) (Nat.le_of_ble_eq_true rfl) rfl (fun hMw hav => ?_)
  refine g_iload_n (q0 := 1) (j := 1) rfl dJ6_getChars_ba4f3_0 rfl ?_
  refine g_istore (q0 := 3) (j := 5) (lv2 := [_, _, _, _, _, _, _]) rfl dJ6_getChars_ba4f3_1 (by decide) rfl rfl ?_
  refine g_iload_n (q0 := 4) (j := 0) rfl dJ6_getChars_ba4f3_3 rfl ?_
  refine g_if_ge (q0 := 7) (tgt := 11) rfl dJ6_getChars_ba4f3_4 (by decide) (fun h4 => ?_) (fun h4 => ?_)
  · refine g_iconst (q0 := 12) rfl dJ6_getChars_ba4f3_11 (k := ?_)
    refine g_istore (q0 := 14) (j := 6) (lv2 := [_, _, _, _, _, _, _]) rfl dJ6_getChars_ba4f3_12 (by decide) rfl rfl ?_
    refine g_iload (q0 := 16) (j := 6) rfl dJ6_getChars_ba4f3_14 rfl ?_
    refine g_if_ne (q0 := 19) (tgt := 22) rfl dJ6_getChars_ba4f3_16 (by decide) (fun h16 => ?_) (fun h16 => ?_)
    · exact absurd h16 (by decide)
    · refine g_iload_n (q0 := 20) (j := 0) rfl dJ6_getChars_ba4f3_19 rfl ?_
      refine g_ineg (q0 := 21) rfl dJ6_getChars_ba4f3_20 (by omega) (by omega) ?_
      refine g_istore_n (q0 := 22) (j := 0) (lv2 := [_, _, _, _, _, _, _]) rfl dJ6_getChars_ba4f3_21 (by decide) rfl rfl ?_
      refine g_iload_n (q0 := 23) (j := 0) rfl dJ6_getChars_ba4f3_22 rfl ?_
      refine g_bipush (q0 := 25) rfl dJ6_getChars_ba4f3_23 (k := ?_)
      refine g_icmp_gt (q0 := 28) (tgt := 72) rfl dJ6_getChars_ba4f3_25 (by decide) (fun h25 => ?_) (fun h25 => ?_)
      · -- below 100
        refine g_aload_n (q0 := 73) (j := 2) rfl dJ6_getChars_ba4f3_72 rfl ?_
        refine g_iinc (q0 := 76) (lv2 := [_, _, _, _, _, _, _]) rfl dJ6_getChars_ba4f3_73 rfl (by decide) rfl rfl (by omega) (by omega) ?_
        refine g_iload (q0 := 78) (j := 5) rfl dJ6_getChars_ba4f3_76 rfl ?_
        refine g_gsOnes (q0 := 81) rfl fs_J6_83 dJ6_getChars_ba4f3_78 ?_
        refine g_iload_n (q0 := 82) (j := 0) rfl dJ6_getChars_ba4f3_81 rfl ?_
        refine g_ineg (q0 := 83) rfl dJ6_getChars_ba4f3_82 (by omega) (by omega) ?_
        refine g_d1ld (q0 := 84) rfl dJ6_getChars_ba4f3_83 (by omega) (by omega) ?_
        refine g_bast (q0 := 85) rfl dJ6_getChars_ba4f3_84 (by assumption) (by omega) (by omega) ?_
        refine g_iload_n (q0 := 86) (j := 0) rfl dJ6_getChars_ba4f3_85 rfl ?_
        refine g_bipush (q0 := 88) rfl dJ6_getChars_ba4f3_86 (k := ?_)
        refine g_icmp_ge (q0 := 91) (tgt := 104) rfl dJ6_getChars_ba4f3_88 (by decide) (fun h88 => ?_) (fun h88 => ?_)
        · rw [kDg_1 (by omega)] at hk
          simp only [List.length_singleton] at hk
          refine g_iload (q0 := 106) (j := 6) rfl dJ6_getChars_ba4f3_104 rfl ?_
          refine g_if_eq (q0 := 109) (tgt := 118) rfl dJ6_getChars_ba4f3_106 (by decide) (fun h106 => ?_) (fun h106 => ?_)
          · refine g_iload (q0 := 120) (j := 5) rfl dJ6_getChars_ba4f3_118 rfl ?_
            refine g_ireturn dJ6_getChars_ba4f3_120 rfl ⟨Nat.zero_le _, Nat.zero_le _⟩ ?_
            rw [kDg_1 (by omega)]
            refine ⟨rfl, by simp only [List.length_singleton]; congr 2, gOK_b hOK hs, fun b hb => by rw [gU_cell _ _ _ hb], fun j hj => ?_, fun q c hq => ?_⟩
            · simp only [kDg_1 (show x < 10 by omega), List.length_singleton] at hj
              exact gU_idx (by omega)
            · rw [kDg_1 (by omega)] at hq ⊢
              match q, hq with
              | 0, hq =>
                simp only [List.getElem?_cons_zero] at hq
                cases hq
                simp only [List.length_singleton]
                rw [show k - ((1 : Nat) : Int) + ((0 : Nat) : Int) = k + -1 by omega, gU_same, i2b_id (by omega) (by omega)]
                omega
              | q + 1, hq => simp at hq
          · exact absurd h106 (by decide)
        · rw [kDg_2 (by omega) (by omega)] at hk
          simp only [List.length_cons, List.length_nil] at hk
          refine g_aload_n (q0 := 92) (j := 2) rfl dJ6_getChars_ba4f3_91 rfl ?_
          refine g_iinc (q0 := 95) (lv2 := [_, _, _, _, _, _, _]) rfl dJ6_getChars_ba4f3_92 rfl (by decide) rfl rfl (by omega) (by omega) ?_
          refine g_iload (q0 := 97) (j := 5) rfl dJ6_getChars_ba4f3_95 rfl ?_
          refine g_gsTens (q0 := 100) rfl fs_J6_87 dJ6_getChars_ba4f3_97 ?_
          refine g_iload_n (q0 := 101) (j := 0) rfl dJ6_getChars_ba4f3_100 rfl ?_
          refine g_ineg (q0 := 102) rfl dJ6_getChars_ba4f3_101 (by omega) (by omega) ?_
          refine g_d2ld (q0 := 103) rfl dJ6_getChars_ba4f3_102 (by omega) (by omega) ?_
          refine g_bast (q0 := 104) rfl dJ6_getChars_ba4f3_103 (by assumption) (by omega) (by omega) ?_
          refine g_iload (q0 := 106) (j := 6) rfl dJ6_getChars_ba4f3_104 rfl ?_
          refine g_if_eq (q0 := 109) (tgt := 118) rfl dJ6_getChars_ba4f3_106 (by decide) (fun h106 => ?_) (fun h106 => ?_)
          · refine g_iload (q0 := 120) (j := 5) rfl dJ6_getChars_ba4f3_118 rfl ?_
            refine g_ireturn dJ6_getChars_ba4f3_120 rfl ⟨Nat.zero_le _, Nat.zero_le _⟩ ?_
            refine ⟨rfl, by rw [kDg_2 (by omega) (by omega)]; simp only [List.length_cons, List.length_nil]; congr 2; omega, gOK_b (gOK_b hOK hs) hs, fun b hb => by rw [gU_cell _ _ _ hb, gU_cell _ _ _ hb], fun j hj => ?_, fun q c hq => ?_⟩
            · rw [kDg_2 (by omega) (by omega)] at hj
              simp only [List.length_cons, List.length_nil] at hj
              rw [gU_idx (by omega), gU_idx (by omega)]
            · rw [kDg_2 (by omega) (by omega)] at hq ⊢
              simp only [List.length_cons, List.length_nil]
              match q, hq with
              | 0, hq =>
                simp only [List.getElem?_cons_zero] at hq
                cases hq
                rw [show k - ((0 + 1 + 1 : Nat) : Int) + ((0 : Nat) : Int) = k + -1 + -1 by omega, gU_same, i2b_id (by omega) (by omega)]
                omega
              | 1, hq =>
                simp only [List.getElem?_cons_succ, List.getElem?_cons_zero] at hq
                cases hq
                rw [show k - ((0 + 1 + 1 : Nat) : Int) + ((1 : Nat) : Int) = k + -1 by omega, gU_idx (by omega), gU_same, i2b_id (by omega) (by omega)]
                omega
              | q + 2, hq => simp at hq
          · exact absurd h106 (by decide)
      · -- from 100 on
        rw [kDg_3 (by omega)] at hk
        simp only [List.length_cons, List.length_nil] at hk
        have ed : gdiv (-x) 100 = -1 := by
          have := gdiv_dg (x - 100).toNat (by omega)
          rw [show (-(100 + (((x - 100).toNat : Nat) : Int))) = -x by omega] at this
          exact this
        refine g_iload_n (q0 := 29) (j := 0) rfl dJ6_getChars_ba4f3_28 rfl ?_
        refine g_bipush (q0 := 31) rfl dJ6_getChars_ba4f3_29 (k := ?_)
        refine g_idiv (q0 := 32) rfl dJ6_getChars_ba4f3_31 (by omega) ?_
        rw [ed]
        refine g_istore_n (q0 := 33) (j := 3) (lv2 := [_, _, _, _, _, _, _]) rfl dJ6_getChars_ba4f3_32 (by decide) rfl rfl ?_
        refine g_iload_n (q0 := 34) (j := 3) rfl dJ6_getChars_ba4f3_33 rfl ?_
        refine g_bipush (q0 := 36) rfl dJ6_getChars_ba4f3_34 (k := ?_)
        refine g_imul (q0 := 37) rfl dJ6_getChars_ba4f3_36 (by omega) (by omega) ?_
        refine g_iload_n (q0 := 38) (j := 0) rfl dJ6_getChars_ba4f3_37 rfl ?_
        refine g_isub (q0 := 39) rfl dJ6_getChars_ba4f3_38 (by omega) (by omega) ?_
        refine g_istore (q0 := 41) (j := 4) (lv2 := [_, _, _, _, _, _, _]) rfl dJ6_getChars_ba4f3_39 (by decide) rfl rfl ?_
        refine g_iload_n (q0 := 42) (j := 3) rfl dJ6_getChars_ba4f3_41 rfl ?_
        refine g_istore_n (q0 := 43) (j := 0) (lv2 := [_, _, _, _, _, _, _]) rfl dJ6_getChars_ba4f3_42 (by decide) rfl rfl ?_
        refine g_aload_n (q0 := 44) (j := 2) rfl dJ6_getChars_ba4f3_43 rfl ?_
        refine g_iinc (q0 := 47) (lv2 := [_, _, _, _, _, _, _]) rfl dJ6_getChars_ba4f3_44 rfl (by decide) rfl rfl (by omega) (by omega) ?_
        refine g_iload (q0 := 49) (j := 5) rfl dJ6_getChars_ba4f3_47 rfl ?_
        refine g_gsOnes (q0 := 52) rfl fs_J6_83 dJ6_getChars_ba4f3_49 ?_
        refine g_iload (q0 := 54) (j := 4) rfl dJ6_getChars_ba4f3_52 rfl ?_
        refine g_d1ld (q0 := 55) rfl dJ6_getChars_ba4f3_54 (by omega) (by omega) ?_
        refine g_bast (q0 := 56) rfl dJ6_getChars_ba4f3_55 (by assumption) (by omega) (by omega) ?_
        refine g_aload_n (q0 := 57) (j := 2) rfl dJ6_getChars_ba4f3_56 rfl ?_
        refine g_iinc (q0 := 60) (lv2 := [_, _, _, _, _, _, _]) rfl dJ6_getChars_ba4f3_57 rfl (by decide) rfl rfl (by omega) (by omega) ?_
        refine g_iload (q0 := 62) (j := 5) rfl dJ6_getChars_ba4f3_60 rfl ?_
        refine g_gsTens (q0 := 65) rfl fs_J6_87 dJ6_getChars_ba4f3_62 ?_
        refine g_iload (q0 := 67) (j := 4) rfl dJ6_getChars_ba4f3_65 rfl ?_
        refine g_d2ld (q0 := 68) rfl dJ6_getChars_ba4f3_67 (by omega) (by omega) ?_
        refine g_bast (q0 := 69) rfl dJ6_getChars_ba4f3_68 (by assumption) (by omega) (by omega) ?_
        refine g_goto (tgt := 22) dJ6_getChars_ba4f3_69 (by decide) ?_
        refine g_iload_n (q0 := 23) (j := 0) rfl dJ6_getChars_ba4f3_22 rfl ?_
        refine g_bipush (q0 := 25) rfl dJ6_getChars_ba4f3_23 (k := ?_)
        refine g_icmp_gt (q0 := 28) (tgt := 72) rfl dJ6_getChars_ba4f3_25 (by decide) (fun h25 => ?_) (fun h25 => ?_)
        · refine g_aload_n (q0 := 73) (j := 2) rfl dJ6_getChars_ba4f3_72 rfl ?_
          refine g_iinc (q0 := 76) (lv2 := [_, _, _, _, _, _, _]) rfl dJ6_getChars_ba4f3_73 rfl (by decide) rfl rfl (by omega) (by omega) ?_
          refine g_iload (q0 := 78) (j := 5) rfl dJ6_getChars_ba4f3_76 rfl ?_
          refine g_gsOnes (q0 := 81) rfl fs_J6_83 dJ6_getChars_ba4f3_78 ?_
          refine g_iload_n (q0 := 82) (j := 0) rfl dJ6_getChars_ba4f3_81 rfl ?_
          refine g_ineg (q0 := 83) rfl dJ6_getChars_ba4f3_82 (by omega) (by omega) ?_
          refine g_d1ld (q0 := 84) rfl dJ6_getChars_ba4f3_83 (by omega) (by omega) ?_
          refine g_bast (q0 := 85) rfl dJ6_getChars_ba4f3_84 (by assumption) (by omega) (by omega) ?_
          refine g_iload_n (q0 := 86) (j := 0) rfl dJ6_getChars_ba4f3_85 rfl ?_
          refine g_bipush (q0 := 88) rfl dJ6_getChars_ba4f3_86 (k := ?_)
          refine g_icmp_ge (q0 := 91) (tgt := 104) rfl dJ6_getChars_ba4f3_88 (by decide) (fun h88 => ?_) (fun h88 => ?_)
          · refine g_iload (q0 := 106) (j := 6) rfl dJ6_getChars_ba4f3_104 rfl ?_
            refine g_if_eq (q0 := 109) (tgt := 118) rfl dJ6_getChars_ba4f3_106 (by decide) (fun h106 => ?_) (fun h106 => ?_)
            · refine g_iload (q0 := 120) (j := 5) rfl dJ6_getChars_ba4f3_118 rfl ?_
              refine g_ireturn dJ6_getChars_ba4f3_120 rfl ⟨Nat.zero_le _, Nat.zero_le _⟩ ?_
              refine ⟨rfl, by rw [kDg_3 (by omega)]; simp only [List.length_cons, List.length_nil]; congr 2; omega, gOK_b (gOK_b (gOK_b hOK hs) hs) hs, fun b hb => by rw [gU_cell _ _ _ hb, gU_cell _ _ _ hb, gU_cell _ _ _ hb], fun j hj => ?_, fun q c hq => ?_⟩
              · rw [kDg_3 (by omega)] at hj
                simp only [List.length_cons, List.length_nil] at hj
                rw [gU_idx (by omega), gU_idx (by omega), gU_idx (by omega)]
              · rw [kDg_3 (by omega)] at hq ⊢
                simp only [List.length_cons, List.length_nil]
                match q, hq with
                | 0, hq =>
                  simp only [List.getElem?_cons_zero] at hq
                  cases hq
                  rw [show k - ((0 + 1 + 1 + 1 : Nat) : Int) + ((0 : Nat) : Int) = k + -1 + -1 + -1 by omega, gU_same, i2b_id (by omega) (by omega)]
                  omega
                | 1, hq =>
                  simp only [List.getElem?_cons_succ, List.getElem?_cons_zero] at hq
                  cases hq
                  rw [show k - ((0 + 1 + 1 + 1 : Nat) : Int) + ((1 : Nat) : Int) = k + -1 + -1 by omega, gU_idx (by omega), gU_same, i2b_id (by omega) (by omega)]
                  omega
                | 2, hq =>
                  simp only [List.getElem?_cons_succ, List.getElem?_cons_zero] at hq
                  cases hq
                  rw [show k - ((0 + 1 + 1 + 1 : Nat) : Int) + ((2 : Nat) : Int) = k + -1 by omega, gU_idx (by omega), gU_idx (by omega), gU_same, i2b_id (by omega) (by omega)]
                  omega
                | q + 3, hq => simp at hq
            · exact absurd h106 (by decide)
          · exact absurd h88 (by decide)
        · exact absurd h25 (by decide)
  · exact absurd h4 (by omega)
theorem tX_wr {sh : gS} {M M2 : gM} {i : Nat} {s u : List Int} (hX : tX sh M i s) (hO : gOK sh M2) (h1 : ∀ b : Int, b ≠ 475 → b ≠ M 475 0 → M2 b = M b) (h2 : M2 475 0 = M 475 0) (h3 : M2 475 1 = 0) (h4 : M2 475 3 = ((s.length + u.length : Nat) : Int)) (h5 : ∀ j : Int, j < (s.length : Int) ∨ (s.length : Int) + (u.length : Int) ≤ j → M2 (M 475 0) j = M (M 475 0) j)
    (h6 : ∀ (q : Nat) (c : Int), u[q]? = some c → M2 (M 475 0) ((s.length : Int) + (q : Int)) = c) (hu : ∀ c ∈ u, 0 ≤ c ∧ c < 128) (hl : s.length + u.length ≤ tN i) : tX sh M2 i (s ++ u) ∧ tF sh M sh M2 := by
  obtain ⟨-, hs, hv, hc, hn, hln, hi5, hrg, hct⟩ := hX
  refine ⟨⟨hO, by rw [h2]; exact hs, by rw [h2]; exact hv, h3, by rw [h4, List.length_append], by rw [List.length_append]; exact hl, hi5, fun j j0 j1 => ?_, fun j c hj => ?_⟩, ⟨[], (List.append_nil sh).symm⟩, fun b b0 b1 b2 => h1 b b1 (by omega)⟩
  · rw [h2]
    by_cases hj : j < (s.length : Int) ∨ (s.length : Int) + (u.length : Int) ≤ j
    · rw [h5 j hj]; exact hrg j j0 j1
    · have hq : (j - (s.length : Int)).toNat < u.length := by omega
      have e := h6 _ _ (List.getElem?_eq_getElem hq)
      rw [show (s.length : Int) + (((j - (s.length : Int)).toNat : Nat) : Int) = j by omega] at e
      rw [e]
      exact hu _ (List.getElem_mem hq)
  · rw [h2]
    by_cases hj2 : j < s.length
    · rw [List.getElem?_append_left hj2] at hj
      rw [h5 _ (Or.inl (by omega))]
      exact hct j c hj
    · rw [List.getElem?_append_right (by omega)] at hj
      have e := h6 _ _ hj
      rw [show (s.length : Int) + ((j - s.length : Nat) : Int) = (j : Int) by omega] at e
      exact e
theorem tX_v {sh : gS} {M : gM} {i : Nat} {s : List Int} (hX : tX sh M i s) : M 475 0 ≠ 475 := by
  rcases hX.2.2.1 with h | h <;> omega
theorem tX_snoc {sh : gS} {M : gM} {i : Nat} {s : List Int} (hX : tX sh M i s) {c : Int} (hc : 0 ≤ c ∧ c < 128) (hl : s.length + 1 ≤ tN i) :
    tX sh (gU (gU M 475 3 ((s.length : Int) + 1)) (M 475 0) (s.length : Int) c) i (s ++ [c]) ∧ tF sh M sh (gU (gU M 475 3 ((s.length : Int) + 1)) (M 475 0) (s.length : Int) c) := by
  have hv := tX_v hX
  have hO1 : gOK sh (gU M 475 3 ((s.length : Int) + 1)) := gOK_o hX.1 (sh_475 hX.1) (f := 3) rfl rfl
  refine tX_wr hX (gOK_b hO1 hX.2.1) (fun b b1 b2 => by rw [gU_cell _ _ _ b2, gU_cell _ _ _ b1]) (by rw [gU_cel (Ne.symm hv), gU_idx (by decide)]) (by rw [gU_cel (Ne.symm hv), gU_idx (by decide)]; exact hX.2.2.2.1) ?_ (fun j hj => ?_) (fun q d hq => ?_) (fun d hd => by rw [List.mem_singleton.mp hd]; exact hc) (by rw [List.length_singleton]; exact hl)
  · rw [gU_cel (Ne.symm hv), gU_same, List.length_singleton]; omega
  · rw [List.length_singleton] at hj
    rw [gU_idx (by omega), gU_cel hv]
  · match q, hq with
    | 0, hq =>
      cases hq
      rw [show (s.length : Int) + ((0 : Nat) : Int) = (s.length : Int) by omega, gU_same]
    | q + 1, hq => simp at hq
theorem sp_J5_appendC {sh : gS} {M : gM} {i : Nat} {s : List Int} (hX : tX sh M i s) {c : Int} (hc : 0 ≤ c ∧ c < 128) (hL : s.length + 1 ≤ 574) :
    gC (gx 7 157 (txC i (tI i (s.length + 1))) (txD i (tI i (s.length + 1)))) yJ5_append_3fe6f cJ5_append_3fe6f 2 (some (.object "java/lang/AbstractStringBuilder")) [(4, 475), (0, c)] sh M (fun r sh1 M1 => r = some (4, 475) ∧ tX sh1 M1 (tI i (s.length + 1)) (s ++ [c]) ∧ tF sh M sh1 M1) := by
  have hOK := hX.1
  have hn := hX.2.2.2.2.1
  refine gC_ofA (lv := [_, _]) (by decide +kernel) (Nat.le_of_ble_eq_true rfl) rfl (fun hMw hav => ?_)
  refine g_aload_n (q0 := 1) (j := 0) rfl dJ5_append_3fe6f_0 rfl ?_
  refine g_aload_n (q0 := 2) (j := 0) rfl dJ5_append_3fe6f_1 rfl ?_
  refine g_getf (q0 := 5) (t := 0) (fi := 3) rfl rfl ff_J5_79 dJ5_append_3fe6f_2 rfl (sh_475 hOK) ?_
  rw [hn]
  refine g_iconst (q0 := 6) rfl dJ5_append_3fe6f_5 (k := ?_)
  refine g_iadd (q0 := 7) rfl dJ5_append_3fe6f_6 (by omega) (by omega) ?_
  rw [show ((s.length : Nat) : Int) + 1 = ((s.length + 1 : Nat) : Int) by omega]
  refine g_callVs (as := [_]) (rest := []) mt_J5_ensureCapacityInternal_d00df mi_J5_ensureCapacityInternal_d00df se_J4_ens ml_J5_100 dJ5_append_3fe6f_7 (q0 := 10) rfl rfl (sh_475 hOK) rfl rfl (sp_J5_ensure hX (by omega) hL) rfl ⟨Nat.le_of_ble_eq_true rfl, Nat.le_of_ble_eq_true rfl⟩ ⟨Nat.le_of_eq (Nat.zero_add _), Nat.le_of_eq (Nat.zero_add _)⟩ (Nat.le_of_ble_eq_true rfl) (fun r1 sh1 M1 hP1 hw1 hMw1 => ?_)
  obtain ⟨rfl, hX1, hF1⟩ := hP1
  refine gA_ck (c := txC i (tI i (s.length + 1))) (d := txD i (tI i (s.length + 1))) (Nat.zero_add _) (Nat.zero_add _) ?_
  have hO1 := hX1.1
  have hs1 := hX1.2.1
  have hc1 := hX1.2.2.2.1
  have hn1 := hX1.2.2.2.2.1
  have hfit : s.length + 1 ≤ tN (tI i (s.length + 1)) := tI_fit hL
  have hr1 := tN_rng (tI i (s.length + 1)) (by have := hX1.2.2.2.2.2.2.1; omega)
  have hv1 := tX_v hX1
  refine g_aload_n (q0 := 11) (j := 0) rfl dJ5_append_3fe6f_10 rfl ?_
  refine g_callVsp (as := []) (rest := []) mt_J5_isLatin1_aae02 mi_J5_isLatin1_aae02 se_J4_lat ml_J5_83 dJ5_append_3fe6f_11 (q0 := 14) rfl rfl (sh_475 hO1) rfl rfl (sp_J5_isLatin1 hO1 hc1) rfl ⟨Nat.le_of_ble_eq_true rfl, Nat.le_of_ble_eq_true rfl⟩ ⟨Nat.le_refl _, Nat.le_refl _⟩ (Nat.le_of_ble_eq_true rfl) (fun hwc => ?_)
  refine g_if_eq (q0 := 17) (tgt := 45) rfl dJ5_append_3fe6f_14 (by decide) (fun h14 => ?_) (fun h14 => ?_)
  · exact absurd h14 (by decide)
  · refine g_iload_n (q0 := 18) (j := 1) rfl dJ5_append_3fe6f_17 rfl ?_
    refine g_callSp (as := [_]) (rest := []) mt_J1_canEncode_fc78d ms_J1_canEncode_fc78d ml_J5_191 dJ5_append_3fe6f_18 (q0 := 21) rfl rfl (sp_J1_canEncode (by omega)) rfl ⟨Nat.le_of_ble_eq_true rfl, Nat.le_of_ble_eq_true rfl⟩ (Nat.le_of_ble_eq_true rfl) ⟨Nat.le_refl _, Nat.le_refl _⟩ (fun hwc => ?_)
    refine g_if_eq (q0 := 24) (tgt := 45) rfl dJ5_append_3fe6f_21 (by decide) (fun h21 => ?_) (fun h21 => ?_)
    · exact absurd h21 (by decide)
    · refine g_aload_n (q0 := 25) (j := 0) rfl dJ5_append_3fe6f_24 rfl ?_
      refine g_getf (q0 := 28) (t := 4) (fi := 0) rfl rfl ff_J5_15 dJ5_append_3fe6f_25 rfl (sh_475 hO1) ?_
      refine g_aload_n (q0 := 29) (j := 0) rfl dJ5_append_3fe6f_28 rfl ?_
      refine g_dup (q0 := 30) rfl dJ5_append_3fe6f_29 (k := ?_)
      refine g_getf (q0 := 33) (t := 0) (fi := 3) rfl rfl ff_J5_79 dJ5_append_3fe6f_30 rfl (sh_475 hO1) ?_
      rw [hn1]
      refine g_dup_x1 (q0 := 34) rfl dJ5_append_3fe6f_33 (k := ?_)
      refine g_iconst (q0 := 35) rfl dJ5_append_3fe6f_34 (k := ?_)
      refine g_iadd (q0 := 36) rfl dJ5_append_3fe6f_35 (by omega) (by omega) ?_
      refine g_put (q0 := 39) (t := 0) (fi := 3) rfl rfl ff_J5_79 dJ5_append_3fe6f_36 rfl (sh_475 hO1) rfl (fun _ => ⟨rfl, rfl⟩) ?_
      refine g_iload_n (q0 := 40) (j := 1) rfl dJ5_append_3fe6f_39 rfl ?_
      refine g_i2b (q0 := 41) rfl dJ5_append_3fe6f_40 ?_
      refine g_bast (q0 := 42) rfl dJ5_append_3fe6f_41 (by assumption) (by omega) (by omega) ?_
      refine g_goto (tgt := 75) dJ5_append_3fe6f_42 (by decide) ?_
      refine g_aload_n (q0 := 76) (j := 0) rfl dJ5_append_3fe6f_75 rfl ?_
      refine g_areturn dJ5_append_3fe6f_76 rfl (by omega) ⟨Nat.le_refl _, Nat.le_refl _⟩ ?_
      rw [i2b_2, i2b_id (x := c) (by omega) (by omega)]
      obtain ⟨q1, q2⟩ := tX_snoc hX1 hc hfit
      exact ⟨rfl, q1, tF_trans hF1 q2⟩
theorem sp_J4_appendC {sh : gS} {M : gM} {i : Nat} {s : List Int} (hX : tX sh M i s) {c : Int} (hc : 0 ≤ c ∧ c < 128) (hL : s.length + 1 ≤ 574) :
    gC (gx 8 178 (txC i (tI i (s.length + 1))) (txD i (tI i (s.length + 1)))) yJ4_append_cf468 cJ4_append_cf468 2 (some (.object "java/lang/StringBuilder")) [(4, 475), (0, c)] sh M (fun r sh1 M1 => r = some (4, 475) ∧ tX sh1 M1 (tI i (s.length + 1)) (s ++ [c]) ∧ tF sh M sh1 M1) := by
  have hOK := hX.1
  refine gC_ofA (lv := [_, _]) (by decide +kernel) (Nat.le_of_ble_eq_true rfl) rfl (fun hMw hav => ?_)
  refine g_aload_n (q0 := 1) (j := 0) rfl dJ4_append_cf468_0 rfl ?_
  refine g_iload_n (q0 := 2) (j := 1) rfl dJ4_append_cf468_1 rfl ?_
  refine g_callUp (as := [_]) (rest := []) mt_J5_append_3fe6f mi_J5_append_3fe6f (by decide) se_J4_lat rfl su_J4 ml_J4_50 dJ4_append_cf468_2 (q0 := 5) rfl rfl (sh_475 hOK) rfl rfl (sp_J5_appendC hX hc hL) rfl ⟨Nat.le_of_ble_eq_true rfl, Nat.le_of_ble_eq_true rfl⟩ ⟨Nat.le_of_eq (Nat.zero_add _), Nat.le_of_eq (Nat.zero_add _)⟩ (Nat.le_of_ble_eq_true rfl) (fun r1 sh1 M1 hP1 hw1 hMw1 => ?_)
  obtain ⟨rfl, hX1, hF1⟩ := hP1
  refine gA_ck (c := txC i (tI i (s.length + 1))) (d := txD i (tI i (s.length + 1))) (Nat.zero_add _) (Nat.zero_add _) ?_
  refine g_pop (q0 := 6) rfl dJ4_append_cf468_5 (k := ?_)
  refine g_aload_n (q0 := 7) (j := 0) rfl dJ4_append_cf468_6 rfl ?_
  refine g_areturn dJ4_append_cf468_7 rfl (by omega) ⟨Nat.le_refl _, Nat.le_refl _⟩ ?_
  exact ⟨rfl, hX1, hF1⟩
theorem sp_J5_appendI {sh : gS} {M : gM} {i : Nat} {s : List Int} (hX : tX sh M i s) {x : Int} (hx : 0 ≤ x ∧ x < 120) (hL : s.length + 3 ≤ 574) :
    gC (gx 5 112 (txC i (tI i (s.length + (kDg x).length))) (txD i (tI i (s.length + (kDg x).length)))) yJ5_append_c97b9 cJ5_append_c97b9 4 (some (.object "java/lang/AbstractStringBuilder")) [(4, 475), (0, x)] sh M (fun r sh1 M1 => r = some (4, 475) ∧ tX sh1 M1 (tI i (s.length + (kDg x).length)) (s ++ kDg x) ∧ tF sh M sh1 M1) := by
  have hOK := hX.1
  have hn := hX.2.2.2.2.1
  have hdl := kDg_len x
  refine gC_ofA (lv := [_, _, _, _]) (by decide +kernel) (Nat.le_of_ble_eq_true rfl) rfl (fun hMw hav => ?_)
  refine g_aload_n (q0 := 1) (j := 0) rfl dJ5_append_c97b9_0 rfl ?_
  refine g_getf (q0 := 4) (t := 0) (fi := 3) rfl rfl ff_J5_79 dJ5_append_c97b9_1 rfl (sh_475 hOK) ?_
  rw [hn]
  refine g_istore_n (q0 := 5) (j := 2) (lv2 := [_, _, _, _]) rfl dJ5_append_c97b9_4 (by decide) rfl rfl ?_
  refine g_iload_n (q0 := 6) (j := 2) rfl dJ5_append_c97b9_5 rfl ?_
  refine g_iload_n (q0 := 7) (j := 1) rfl dJ5_append_c97b9_6 rfl ?_
  refine g_callSp (as := [_]) (rest := [_]) mt_J6_stringSize_0f7a4 ms_J6_stringSize_0f7a4 ml_J5_245 dJ5_append_c97b9_7 (q0 := 10) rfl rfl (sp_J6_stringSize hx.1 (by omega)) rfl ⟨Nat.le_of_ble_eq_true rfl, Nat.le_of_ble_eq_true rfl⟩ (Nat.le_of_ble_eq_true rfl) ⟨Nat.zero_le _, Nat.zero_le _⟩ (fun hwc => ?_)
  refine g_iadd (q0 := 11) rfl dJ5_append_c97b9_10 (by omega) (by omega) ?_
  rw [show ((s.length : Nat) : Int) + ((kDg x).length : Int) = ((s.length + (kDg x).length : Nat) : Int) by omega]
  refine g_istore_n (q0 := 12) (j := 3) (lv2 := [_, _, _, _]) rfl dJ5_append_c97b9_11 (by decide) rfl rfl ?_
  refine g_aload_n (q0 := 13) (j := 0) rfl dJ5_append_c97b9_12 rfl ?_
  refine g_iload_n (q0 := 14) (j := 3) rfl dJ5_append_c97b9_13 rfl ?_
  refine g_callVs (as := [_]) (rest := []) mt_J5_ensureCapacityInternal_d00df mi_J5_ensureCapacityInternal_d00df se_J4_ens ml_J5_100 dJ5_append_c97b9_14 (q0 := 17) rfl rfl (sh_475 hOK) rfl rfl (sp_J5_ensure hX (by omega) (by omega)) rfl ⟨Nat.le_of_ble_eq_true rfl, Nat.le_of_ble_eq_true rfl⟩ ⟨Nat.le_of_eq (Nat.zero_add _), Nat.le_of_eq (Nat.zero_add _)⟩ (Nat.le_of_ble_eq_true rfl) (fun r1 sh1 M1 hP1 hw1 hMw1 => ?_)
  obtain ⟨rfl, hX1, hF1⟩ := hP1
  generalize hd : (kDg x).length = D at hdl ⊢
  refine gA_ck (c := txC i (tI i (s.length + D))) (d := txD i (tI i (s.length + D))) (Nat.zero_add _) (Nat.zero_add _) ?_
  rw [hd] at hX1
  have hO1 := hX1.1
  have hs1 := hX1.2.1
  have hc1 := hX1.2.2.2.1
  have hn1 := hX1.2.2.2.2.1
  have hfit : s.length + D ≤ tN (tI i (s.length + D)) := tI_fit (by omega)
  have hr1 := tN_rng (tI i (s.length + D)) (by have := hX1.2.2.2.2.2.2.1; omega)
  have hv1 := tX_v hX1
  refine g_aload_n (q0 := 18) (j := 0) rfl dJ5_append_c97b9_17 rfl ?_
  refine g_callVsp (as := []) (rest := []) mt_J5_isLatin1_aae02 mi_J5_isLatin1_aae02 se_J4_lat ml_J5_83 dJ5_append_c97b9_18 (q0 := 21) rfl rfl (sh_475 hO1) rfl rfl (sp_J5_isLatin1 hO1 hc1) rfl ⟨Nat.le_of_ble_eq_true rfl, Nat.le_of_ble_eq_true rfl⟩ ⟨Nat.le_refl _, Nat.le_refl _⟩ (Nat.le_of_ble_eq_true rfl) (fun hwc => ?_)
  refine g_if_eq (q0 := 24) (tgt := 37) rfl dJ5_append_c97b9_21 (by decide) (fun h21 => ?_) (fun h21 => ?_)
  · exact absurd h21 (by decide)
  · refine g_iload_n (q0 := 25) (j := 1) rfl dJ5_append_c97b9_24 rfl ?_
    refine g_iload_n (q0 := 26) (j := 3) rfl dJ5_append_c97b9_25 rfl ?_
    refine g_aload_n (q0 := 27) (j := 0) rfl dJ5_append_c97b9_26 rfl ?_
    refine g_getf (q0 := 30) (t := 4) (fi := 0) rfl rfl ff_J5_15 dJ5_append_c97b9_27 rfl (sh_475 hO1) ?_
    refine g_callSm (as := [_, _, _]) (rest := []) mt_J6_getChars_ba4f3 ms_J6_getChars_ba4f3 ml_J5_248 dJ5_append_c97b9_30 (q0 := 33) rfl rfl (sp_J6_getChars hO1 hs1 (by omega) hx.1 hx.2 (by omega) (by omega)) rfl ⟨Nat.le_of_ble_eq_true rfl, Nat.le_of_ble_eq_true rfl⟩ (Nat.le_of_ble_eq_true rfl) ⟨Nat.le_refl _, Nat.le_refl _⟩ (fun r2 M2 hP2 hw2 hMw2 => ?_)
    obtain ⟨rfl, hO2, g1, g2, g3⟩ := hP2
    rw [hd] at g2 g3
    refine g_pop (q0 := 34) rfl dJ5_append_c97b9_33 (k := ?_)
    refine g_goto (tgt := 48) dJ5_append_c97b9_34 (by decide) ?_
    refine g_aload_n (q0 := 49) (j := 0) rfl dJ5_append_c97b9_48 rfl ?_
    refine g_iload_n (q0 := 50) (j := 3) rfl dJ5_append_c97b9_49 rfl ?_
    refine g_put (q0 := 53) (t := 0) (fi := 3) rfl rfl ff_J5_79 dJ5_append_c97b9_50 rfl (sh_475 hO2) rfl (fun _ => ⟨rfl, rfl⟩) ?_
    refine g_aload_n (q0 := 54) (j := 0) rfl dJ5_append_c97b9_53 rfl ?_
    refine g_areturn dJ5_append_c97b9_54 rfl (by omega) ⟨Nat.le_refl _, Nat.le_refl _⟩ ?_
    have hk2 : ((s.length + D : Nat) : Int) - (D : Int) = (s.length : Int) := by omega
    rw [hk2] at g2 g3
    have e0 : M2 475 = _ := g1 475 (Ne.symm hv1)
    obtain ⟨q1, q2⟩ := tX_wr (u := kDg x) (M2 := gU M2 475 3 ((s.length + D : Nat) : Int)) hX1 (gOK_o hO2 (sh_475 hO2) (f := 3) rfl rfl) (fun b b1 b2 => by rw [gU_cell _ _ _ b1]; exact g1 b b2) (by rw [gU_idx (by decide), e0]) (by rw [gU_idx (by decide), e0]; exact hc1) (by rw [gU_same, hd]) (fun j hj => by rw [gU_cel hv1]; exact g2 j (by rw [hd] at hj; omega)) (fun q c hq => by rw [gU_cel hv1]; exact g3 q c hq) (fun c hcc => kDg_rng hx.1 (by omega) hcc) (by rw [hd]; exact hfit)
    exact ⟨rfl, q1, tF_trans hF1 q2⟩
theorem sp_J4_appendI {sh : gS} {M : gM} {i : Nat} {s : List Int} (hX : tX sh M i s) {x : Int} (hx : 0 ≤ x ∧ x < 120) (hL : s.length + 3 ≤ 574) :
    gC (gx 6 135 (txC i (tI i (s.length + (kDg x).length))) (txD i (tI i (s.length + (kDg x).length)))) yJ4_append_bf812 cJ4_append_bf812 2 (some (.object "java/lang/StringBuilder")) [(4, 475), (0, x)] sh M (fun r sh1 M1 => r = some (4, 475) ∧ tX sh1 M1 (tI i (s.length + (kDg x).length)) (s ++ kDg x) ∧ tF sh M sh1 M1) := by
  have hOK := hX.1
  refine gC_ofA (lv := [_, _]) (by decide +kernel) (Nat.le_of_ble_eq_true rfl) rfl (fun hMw hav => ?_)
  refine g_aload_n (q0 := 1) (j := 0) rfl dJ4_append_bf812_0 rfl ?_
  refine g_iload_n (q0 := 2) (j := 1) rfl dJ4_append_bf812_1 rfl ?_
  refine g_callUp (as := [_]) (rest := []) mt_J5_append_c97b9 mi_J5_append_c97b9 (by decide) se_J4_lat rfl su_J4 ml_J4_53 dJ4_append_bf812_2 (q0 := 5) rfl rfl (sh_475 hOK) rfl rfl (sp_J5_appendI hX hx hL) rfl ⟨Nat.le_of_ble_eq_true rfl, Nat.le_of_ble_eq_true rfl⟩ ⟨Nat.le_of_eq (Nat.zero_add _), Nat.le_of_eq (Nat.zero_add _)⟩ (Nat.le_of_ble_eq_true rfl) (fun r1 sh1 M1 hP1 hw1 hMw1 => ?_)
  obtain ⟨rfl, hX1, hF1⟩ := hP1
  refine gA_ck (c := txC i (tI i (s.length + (kDg x).length))) (d := txD i (tI i (s.length + (kDg x).length))) (Nat.zero_add _) (Nat.zero_add _) ?_
  refine g_pop (q0 := 6) rfl dJ4_append_bf812_5 (k := ?_)
  refine g_aload_n (q0 := 7) (j := 0) rfl dJ4_append_bf812_6 rfl ?_
  refine g_areturn dJ4_append_bf812_7 rfl (by omega) ⟨Nat.le_refl _, Nat.le_refl _⟩ ?_
  exact ⟨rfl, hX1, hF1⟩
theorem tX_zero {sh : gS} {M M2 : gM} {i : Nat} {s : List Int} (hX : tX sh M i s) (hO : gOK sh M2) (h1 : ∀ b : Int, b ≠ 475 → M2 b = M b) (h2 : M2 475 0 = M 475 0) (h3 : M2 475 1 = M 475 1) (h4 : M2 475 3 = 0) : tX sh M2 i [] ∧ tF sh M sh M2 := by
  have hv := tX_v hX
  obtain ⟨-, hs, hv2, hc, hn, hln, hi5, hrg, hct⟩ := hX
  refine ⟨⟨hO, by rw [h2]; exact hs, by rw [h2]; exact hv2, by rw [h3]; exact hc, h4, Nat.zero_le _, hi5, fun j j0 j1 => ?_, fun j c hj => by cases hj⟩, ⟨[], (List.append_nil sh).symm⟩, fun b b0 b1 b2 => h1 b b1⟩
  rw [h2, h1 _ hv]
  exact hrg j j0 j1
theorem sp_J5_setLength {sh : gS} {M : gM} {i : Nat} {s : List Int} (hX : tX sh M i s) :
    gC (gx 5 112 (0) (0)) yJ5_setLength_d00df cJ5_setLength_d00df 2 none [(4, 475), (0, 0)] sh M (fun r sh1 M1 => r = none ∧ tX sh1 M1 i [] ∧ tF sh M sh1 M1) := by
  have hOK := hX.1
  have hi := hX.2.2.2.2.2.2.1
  have hr := tN_rng i (by omega)
  have hen := sp_J5_ensure hX (m := 0) (by omega) (by omega)
  rw [tI_same hi (show 0 ≤ tN i by omega), txC_0, txD_0] at hen
  refine gC_ofA (lv := [_, _]) (by decide +kernel) (Nat.le_of_ble_eq_true rfl) rfl (fun hMw hav => ?_)
  refine g_iload_n (q0 := 1) (j := 1) rfl dJ5_setLength_d00df_0 rfl ?_
  refine g_if_ge (q0 := 4) (tgt := 13) rfl dJ5_setLength_d00df_1 (by decide) (fun h1 => ?_) (fun h1 => ?_)
  · refine g_aload_n (q0 := 14) (j := 0) rfl dJ5_setLength_d00df_13 rfl ?_
    refine g_iload_n (q0 := 15) (j := 1) rfl dJ5_setLength_d00df_14 rfl ?_
    refine g_callVs (as := [_]) (rest := []) mt_J5_ensureCapacityInternal_d00df mi_J5_ensureCapacityInternal_d00df se_J4_ens ml_J5_100 dJ5_setLength_d00df_15 (q0 := 18) rfl rfl (sh_475 hOK) rfl rfl hen rfl ⟨Nat.le_of_ble_eq_true rfl, Nat.le_of_ble_eq_true rfl⟩ ⟨Nat.zero_le _, Nat.zero_le _⟩ (Nat.le_of_ble_eq_true rfl) (fun r1 sh1 M1 hP1 hw1 hMw1 => ?_)
    obtain ⟨rfl, hX1, hF1⟩ := hP1
    have hO1 := hX1.1
    have hn1 := hX1.2.2.2.2.1
    refine g_aload_n (q0 := 19) (j := 0) rfl dJ5_setLength_d00df_18 rfl ?_
    refine g_getf (q0 := 22) (t := 0) (fi := 3) rfl rfl ff_J5_79 dJ5_setLength_d00df_19 rfl (sh_475 hO1) ?_
    refine g_iload_n (q0 := 23) (j := 1) rfl dJ5_setLength_d00df_22 rfl ?_
    refine g_icmp_ge (q0 := 26) (tgt := 63) rfl dJ5_setLength_d00df_23 (by decide) (fun h23 => ?_) (fun h23 => ?_)
    · refine g_aload_n (q0 := 64) (j := 0) rfl dJ5_setLength_d00df_63 rfl ?_
      refine g_getf (q0 := 67) (t := 0) (fi := 3) rfl rfl ff_J5_79 dJ5_setLength_d00df_64 rfl (sh_475 hO1) ?_
      refine g_iload_n (q0 := 68) (j := 1) rfl dJ5_setLength_d00df_67 rfl ?_
      refine g_icmp_le (q0 := 71) (tgt := 76) rfl dJ5_setLength_d00df_68 (by decide) (fun h68 => ?_) (fun h68 => ?_)
      · refine g_aload_n (q0 := 77) (j := 0) rfl dJ5_setLength_d00df_76 rfl ?_
        refine g_iload_n (q0 := 78) (j := 1) rfl dJ5_setLength_d00df_77 rfl ?_
        refine g_put (q0 := 81) (t := 0) (fi := 3) rfl rfl ff_J5_79 dJ5_setLength_d00df_78 rfl (sh_475 hO1) rfl (fun _ => ⟨rfl, rfl⟩) ?_
        refine g_return dJ5_setLength_d00df_81 rfl ⟨Nat.zero_le _, Nat.zero_le _⟩ ?_
        obtain ⟨q1, q2⟩ := tX_zero (M2 := gU M1 475 3 0) hX1 (gOK_o hO1 (sh_475 hO1) (f := 3) rfl rfl) (fun b b1 => gU_cell _ _ _ b1) (gU_idx (by decide)) (gU_idx (by decide)) (gU_same _ _ _ _)
        exact ⟨rfl, q1, tF_trans hF1 q2⟩
      · refine g_aload_n (q0 := 72) (j := 0) rfl dJ5_setLength_d00df_71 rfl ?_
        refine g_iconst (q0 := 73) rfl dJ5_setLength_d00df_72 (k := ?_)
        refine g_put (q0 := 76) (t := 0) (fi := 2) rfl rfl ff_J5_73 dJ5_setLength_d00df_73 rfl (sh_475 hO1) rfl (gfz (by omega)) ?_
        refine g_aload_n (q0 := 77) (j := 0) rfl dJ5_setLength_d00df_76 rfl ?_
        refine g_iload_n (q0 := 78) (j := 1) rfl dJ5_setLength_d00df_77 rfl ?_
        refine g_put (q0 := 81) (t := 0) (fi := 3) rfl rfl ff_J5_79 dJ5_setLength_d00df_78 rfl (sh_475 hO1) rfl (fun _ => ⟨rfl, rfl⟩) ?_
        refine g_return dJ5_setLength_d00df_81 rfl ⟨Nat.zero_le _, Nat.zero_le _⟩ ?_
        obtain ⟨q1, q2⟩ := tX_zero (M2 := gU (gU M1 475 2 1) 475 3 0) hX1 (gOK_o (gOK_o hO1 (sh_475 hO1) (f := 2) rfl rfl) (sh_475 hO1) (f := 3) rfl rfl) (fun b b1 => by rw [gU_cell _ _ _ b1, gU_cell _ _ _ b1]) (by rw [gU_idx (by decide), gU_idx (by decide)]) (by rw [gU_idx (by decide), gU_idx (by decide)]) (gU_same _ _ _ _)
        exact ⟨rfl, q1, tF_trans hF1 q2⟩
    · exact absurd h23 (by omega)
  · exact absurd h1 (by omega)
theorem sp_J4_setLength {sh : gS} {M : gM} {i : Nat} {s : List Int} (hX : tX sh M i s) :
    gC (gx 6 133 (0) (0)) yJ4_setLength_d00df cJ4_setLength_d00df 2 none [(4, 475), (0, 0)] sh M (fun r sh1 M1 => r = none ∧ tX sh1 M1 i [] ∧ tF sh M sh1 M1) := by
  have hOK := hX.1
  refine gC_ofA (lv := [_, _]) (by decide +kernel) (Nat.le_of_ble_eq_true rfl) rfl (fun hMw hav => ?_)
  refine g_aload_n (q0 := 1) (j := 0) rfl dJ4_setLength_d00df_0 rfl ?_
  refine g_iload_n (q0 := 2) (j := 1) rfl dJ4_setLength_d00df_1 rfl ?_
  refine g_callUp (as := [_]) (rest := []) mt_J5_setLength_d00df mi_J5_setLength_d00df (by decide) se_J4_lat rfl su_J4 ml_J4_333 dJ4_setLength_d00df_2 (q0 := 5) rfl rfl (sh_475 hOK) rfl rfl (sp_J5_setLength hX) rfl ⟨Nat.le_of_ble_eq_true rfl, Nat.le_of_ble_eq_true rfl⟩ ⟨Nat.zero_le _, Nat.zero_le _⟩ (Nat.le_of_ble_eq_true rfl) (fun r1 sh1 M1 hP1 hw1 hMw1 => ?_)
  obtain ⟨rfl, hX1, hF1⟩ := hP1
  refine g_return dJ4_setLength_d00df_5 rfl ⟨Nat.zero_le _, Nat.zero_le _⟩ ?_
  exact ⟨rfl, hX1, hF1⟩
theorem sp_J5_length {sh : gS} {M : gM} {i : Nat} {s : List Int} (hX : tX sh M i s) : gC (gr 0 0) yJ5_length_8abf5 cJ5_length_8abf5 1 (some (.int)) [(4, 475)] sh M (gPp sh M (0, (s.length : Int))) := by
  have hOK := hX.1
  refine gC_ofA (lv := [_]) (by decide +kernel) (Nat.le_of_ble_eq_true rfl) rfl (fun hMw hav => ?_)
  refine g_aload_n (q0 := 1) (j := 0) rfl dJ5_length_8abf5_0 rfl ?_
  refine g_getf (q0 := 4) (t := 0) (fi := 3) rfl rfl ff_J5_79 dJ5_length_8abf5_1 rfl (sh_475 hOK) ?_
  refine g_ireturn dJ5_length_8abf5_4 rfl ⟨Nat.zero_le _, Nat.zero_le _⟩ ?_
  exact ⟨by rw [hX.2.2.2.2.1], rfl, rfl⟩
theorem sp_J4_length {sh : gS} {M : gM} {i : Nat} {s : List Int} (hX : tX sh M i s) : gC (gr 1 20) yJ4_length_8abf5 cJ4_length_8abf5 1 (some (.int)) [(4, 475)] sh M (gPp sh M (0, (s.length : Int))) := by
  have hOK := hX.1
  refine gC_ofA (lv := [_]) (by decide +kernel) (Nat.le_of_ble_eq_true rfl) rfl (fun hMw hav => ?_)
  refine g_aload_n (q0 := 1) (j := 0) rfl dJ4_length_8abf5_0 rfl ?_
  refine g_callUpp (as := []) (rest := []) mt_J5_length_8abf5 mi_J5_length_8abf5 (by decide) se_J4_lat rfl su_J4 ml_J4_343 dJ4_length_8abf5_1 (q0 := 4) rfl rfl (sh_475 hOK) rfl rfl (sp_J5_length hX) rfl ⟨Nat.le_of_ble_eq_true rfl, Nat.le_of_ble_eq_true rfl⟩ ⟨Nat.zero_le _, Nat.zero_le _⟩ (Nat.le_of_ble_eq_true rfl) (fun hwc => ?_)
  refine g_ireturn dJ4_length_8abf5_4 rfl ⟨Nat.zero_le _, Nat.zero_le _⟩ ?_
  exact ⟨rfl, rfl, rfl⟩
theorem ch_all : ∀ n : Nat, n < 128 → gi2c (gand (n : Int) 255) = (n : Int) ∧ gi2c (n : Int) = (n : Int) ∧ narrow .char (.int (Int32.ofInt (n : Int))) = .int (Int32.ofInt (n : Int)) := by decide +kernel
theorem ch_id {x : Int} (h0 : 0 ≤ x) (h1 : x < 128) : gi2c (gand x 255) = x ∧ gi2c x = x ∧ narrow .char (.int (Int32.ofInt x)) = .int (Int32.ofInt x) := by
  have := ch_all x.toNat (by omega)
  rw [Int.toNat_of_nonneg h0] at this
  exact this
theorem sp_J5_charAt {sh : gS} {M : gM} {i : Nat} {s : List Int} (hX : tX sh M i s) {j : Nat} {c : Int} (hj : s[j]? = some c) : gC (gr 3 63) yJ5_charAt_5068e cJ5_charAt_5068e 5 (some (.char)) [(4, 475), (0, (j : Int))] sh M (gPp sh M (0, c)) := by
  have hX0 := hX
  obtain ⟨hOK, hs, hv2, hc, hn, hln, hi5, hrg, hct⟩ := hX
  have hr := tN_rng i (by omega)
  have hjl := (List.getElem?_eq_some_iff.mp hj).1
  have e := hct j c hj
  have hcr := hrg (j : Int) (by omega) (by omega)
  rw [e] at hcr
  obtain ⟨e1, e2, e3⟩ := ch_id hcr.1 hcr.2
  refine gC_ofA (lv := [_, _, _, _, _]) (by decide +kernel) (Nat.le_of_ble_eq_true rfl) rfl (fun hMw hav => ?_)
  refine g_aload_n (q0 := 1) (j := 0) rfl dJ5_charAt_5068e_0 rfl ?_
  refine g_getf (q0 := 4) (t := 0) (fi := 1) rfl rfl ff_J5_22 dJ5_charAt_5068e_1 rfl (sh_475 hOK) ?_
  rw [hc]
  refine g_istore_n (q0 := 5) (j := 2) (lv2 := [_, _, _, _, _]) rfl dJ5_charAt_5068e_4 (by decide) rfl rfl ?_
  refine g_aload_n (q0 := 6) (j := 0) rfl dJ5_charAt_5068e_5 rfl ?_
  refine g_getf (q0 := 9) (t := 4) (fi := 0) rfl rfl ff_J5_15 dJ5_charAt_5068e_6 rfl (sh_475 hOK) ?_
  refine g_astore_n (q0 := 10) (j := 3) (lv2 := [_, _, _, _, _]) rfl dJ5_charAt_5068e_9 (by decide) rfl rfl ?_
  refine g_aload_n (q0 := 11) (j := 0) rfl dJ5_charAt_5068e_10 rfl ?_
  refine g_getf (q0 := 14) (t := 0) (fi := 3) rfl rfl ff_J5_79 dJ5_charAt_5068e_11 rfl (sh_475 hOK) ?_
  rw [hn]
  refine g_aload_n (q0 := 15) (j := 3) rfl dJ5_charAt_5068e_14 rfl ?_
  refine g_alen (q0 := 16) rfl dJ5_charAt_5068e_15 (by assumption) (by omega) ⟨_, rfl⟩ ?_
  refine g_iload_n (q0 := 17) (j := 2) rfl dJ5_charAt_5068e_16 rfl ?_
  refine g_ishr (q0 := 18) rfl dJ5_charAt_5068e_17 ?_
  rw [gshr_0 (by omega) (by omega)]
  refine g_mmin (q0 := 21) rfl ml_J5_138 ms_J9_min_7cf53 inic_Math mt_J9_min_7cf53.1 dJ5_charAt_5068e_18 (by decide) (Nat.le_of_ble_eq_true rfl) ⟨Nat.zero_le _, Nat.zero_le _⟩ ?_
  rw [if_neg (show ¬ (tN i : Int) < (s.length : Int) by omega)]
  refine g_istore (q0 := 23) (j := 4) (lv2 := [_, _, _, _, _]) rfl dJ5_charAt_5068e_21 (by decide) rfl rfl ?_
  refine g_iload_n (q0 := 24) (j := 1) rfl dJ5_charAt_5068e_23 rfl ?_
  refine g_iload (q0 := 26) (j := 4) rfl dJ5_charAt_5068e_24 rfl ?_
  refine g_callSm (as := [_, _]) (rest := []) mt_J0_checkIndex_df160 ms_J0_checkIndex_df160 ml_J5_144 dJ5_charAt_5068e_26 (q0 := 29) rfl rfl (sp_J0_checkIndex ⟨by omega, by omega⟩) rfl ⟨by decide, by decide⟩ (Nat.le_of_ble_eq_true rfl) ⟨Nat.zero_le _, Nat.zero_le _⟩ (fun r2 M2 hP2 hw2 hMw2 => ?_)
  obtain ⟨rfl, rfl⟩ := hP2
  refine g_iload_n (q0 := 30) (j := 2) rfl dJ5_charAt_5068e_29 rfl ?_
  refine g_if_ne (q0 := 33) (tgt := 42) rfl dJ5_charAt_5068e_30 (by decide) (fun h30 => ?_) (fun h30 => ?_)
  · exact absurd h30 (by decide)
  · refine g_aload_n (q0 := 34) (j := 3) rfl dJ5_charAt_5068e_33 rfl ?_
    refine g_iload_n (q0 := 35) (j := 1) rfl dJ5_charAt_5068e_34 rfl ?_
    refine g_bald (q0 := 36) rfl dJ5_charAt_5068e_35 (by assumption) (by omega) (by omega) ?_
    rw [e]
    refine g_sipush (q0 := 39) rfl dJ5_charAt_5068e_36 (k := ?_)
    refine g_iand (q0 := 40) rfl dJ5_charAt_5068e_39 ?_
    refine g_i2c (q0 := 41) rfl dJ5_charAt_5068e_40 ?_
    rw [e1]
    refine g_zreturn dJ5_charAt_5068e_41 rfl (e3) ⟨Nat.zero_le _, Nat.zero_le _⟩ ?_
    exact ⟨rfl, rfl, rfl⟩
theorem sp_J4_charAt {sh : gS} {M : gM} {i : Nat} {s : List Int} (hX : tX sh M i s) {j : Nat} {c : Int} (hj : s[j]? = some c) : gC (gr 4 87) yJ4_charAt_5068e cJ4_charAt_5068e 2 (some (.char)) [(4, 475), (0, (j : Int))] sh M (gPp sh M (0, c)) := by
  have hOK := hX.1
  have hjl := (List.getElem?_eq_some_iff.mp hj).1
  have hcr := hX.2.2.2.2.2.2.2.1 (j : Int) (by omega) (by have := hX.2.2.2.2.2.1; omega)
  rw [hX.2.2.2.2.2.2.2.2 j c hj] at hcr
  obtain ⟨e1, e2, e3⟩ := ch_id hcr.1 hcr.2
  refine gC_ofA (lv := [_, _]) (by decide +kernel) (Nat.le_of_ble_eq_true rfl) rfl (fun hMw hav => ?_)
  refine g_aload_n (q0 := 1) (j := 0) rfl dJ4_charAt_5068e_0 rfl ?_
  refine g_iload_n (q0 := 2) (j := 1) rfl dJ4_charAt_5068e_1 rfl ?_
  refine g_callUpp (as := [_]) (rest := []) mt_J5_charAt_5068e mi_J5_charAt_5068e (by decide) se_J4_lat rfl su_J4 ml_J4_329 dJ4_charAt_5068e_2 (q0 := 5) rfl rfl (sh_475 hOK) rfl rfl (sp_J5_charAt hX hj) rfl ⟨Nat.le_of_ble_eq_true rfl, Nat.le_of_ble_eq_true rfl⟩ ⟨Nat.zero_le _, Nat.zero_le _⟩ (Nat.le_of_ble_eq_true rfl) (fun hwc => ?_)
  refine g_zreturn dJ4_charAt_5068e_5 rfl (e3) ⟨Nat.zero_le _, Nat.zero_le _⟩ ?_
  exact ⟨rfl, rfl, rfl⟩
