-- ==== a tree of the class: writing
theorem dX10_put_0 : decode cX10_put 0 = .ok (.iconst 0, 1) := by decide +kernel
theorem dX10_put_1 : decode cX10_put 1 = .ok (.istore_n 3, 1) := by decide +kernel
theorem dX10_put_2 : decode cX10_put 2 = .ok (.iload_n 3, 1) := by decide +kernel
theorem dX10_put_3 : decode cX10_put 3 = .ok (.aload_n 0, 1) := by decide +kernel
theorem dX10_put_4 : decode cX10_put 4 = .ok (.getfield 23, 3) := by decide +kernel
theorem dX10_put_7 : decode cX10_put 7 = .ok (.if_icmp .ge 19, 3) := by decide +kernel
theorem dX10_put_10 : decode cX10_put 10 = .ok (.aload_n 0, 1) := by decide +kernel
theorem dX10_put_11 : decode cX10_put 11 = .ok (.getfield 9, 3) := by decide +kernel
theorem dX10_put_14 : decode cX10_put 14 = .ok (.iload_n 3, 1) := by decide +kernel
theorem dX10_put_15 : decode cX10_put 15 = .ok (.iaload, 1) := by decide +kernel
theorem dX10_put_16 : decode cX10_put 16 = .ok (.iload_n 1, 1) := by decide +kernel
theorem dX10_put_17 : decode cX10_put 17 = .ok (.if_icmp .ge 9, 3) := by decide +kernel
theorem dX10_put_20 : decode cX10_put 20 = .ok (.iinc 3 1, 3) := by decide +kernel
theorem dX10_put_23 : decode cX10_put 23 = .ok (.goto (-21), 3) := by decide +kernel
theorem dX10_put_26 : decode cX10_put 26 = .ok (.iload_n 3, 1) := by decide +kernel
theorem dX10_put_27 : decode cX10_put 27 = .ok (.aload_n 0, 1) := by decide +kernel
theorem dX10_put_28 : decode cX10_put 28 = .ok (.getfield 23, 3) := by decide +kernel
theorem dX10_put_31 : decode cX10_put 31 = .ok (.if_icmp .ge 21, 3) := by decide +kernel
theorem dX10_put_34 : decode cX10_put 34 = .ok (.aload_n 0, 1) := by decide +kernel
theorem dX10_put_35 : decode cX10_put 35 = .ok (.getfield 9, 3) := by decide +kernel
theorem dX10_put_38 : decode cX10_put 38 = .ok (.iload_n 3, 1) := by decide +kernel
theorem dX10_put_39 : decode cX10_put 39 = .ok (.iaload, 1) := by decide +kernel
theorem dX10_put_40 : decode cX10_put 40 = .ok (.iload_n 1, 1) := by decide +kernel
theorem dX10_put_41 : decode cX10_put 41 = .ok (.if_icmp .ne 11, 3) := by decide +kernel
theorem dX10_put_44 : decode cX10_put 44 = .ok (.aload_n 0, 1) := by decide +kernel
theorem dX10_put_45 : decode cX10_put 45 = .ok (.getfield 15, 3) := by decide +kernel
theorem dX10_put_48 : decode cX10_put 48 = .ok (.iload_n 3, 1) := by decide +kernel
theorem dX10_put_49 : decode cX10_put 49 = .ok (.iload_n 2, 1) := by decide +kernel
theorem dX10_put_50 : decode cX10_put 50 = .ok (.iastore, 1) := by decide +kernel
theorem dX10_put_51 : decode cX10_put 51 = .ok (.return_, 1) := by decide +kernel
theorem dX10_put_52 : decode cX10_put 52 = .ok (.aload_n 0, 1) := by decide +kernel
theorem dX10_put_53 : decode cX10_put 53 = .ok (.getfield 23, 3) := by decide +kernel
theorem dX10_put_56 : decode cX10_put 56 = .ok (.aload_n 0, 1) := by decide +kernel
theorem dX10_put_57 : decode cX10_put 57 = .ok (.getfield 9, 3) := by decide +kernel
theorem dX10_put_60 : decode cX10_put 60 = .ok (.arraylength, 1) := by decide +kernel
theorem dX10_put_61 : decode cX10_put 61 = .ok (.if_icmp .lt 4, 3) := by decide +kernel
theorem dX10_put_64 : decode cX10_put 64 = .ok (.return_, 1) := by decide +kernel
theorem dX10_put_65 : decode cX10_put 65 = .ok (.aload_n 0, 1) := by decide +kernel
theorem dX10_put_66 : decode cX10_put 66 = .ok (.getfield 23, 3) := by decide +kernel
theorem dX10_put_69 : decode cX10_put 69 = .ok (.istore 4, 2) := by decide +kernel
theorem dX10_put_71 : decode cX10_put 71 = .ok (.iload 4, 2) := by decide +kernel
theorem dX10_put_73 : decode cX10_put 73 = .ok (.iload_n 3, 1) := by decide +kernel
theorem dX10_put_74 : decode cX10_put 74 = .ok (.if_icmp .le 41, 3) := by decide +kernel
theorem dX10_put_77 : decode cX10_put 77 = .ok (.aload_n 0, 1) := by decide +kernel
theorem dX10_put_78 : decode cX10_put 78 = .ok (.getfield 9, 3) := by decide +kernel
theorem dX10_put_81 : decode cX10_put 81 = .ok (.iload 4, 2) := by decide +kernel
theorem dX10_put_83 : decode cX10_put 83 = .ok (.aload_n 0, 1) := by decide +kernel
theorem dX10_put_84 : decode cX10_put 84 = .ok (.getfield 9, 3) := by decide +kernel
theorem dX10_put_87 : decode cX10_put 87 = .ok (.iload 4, 2) := by decide +kernel
theorem dX10_put_89 : decode cX10_put 89 = .ok (.iconst 1, 1) := by decide +kernel
theorem dX10_put_90 : decode cX10_put 90 = .ok (.isub, 1) := by decide +kernel
theorem dX10_put_91 : decode cX10_put 91 = .ok (.iaload, 1) := by decide +kernel
theorem dX10_put_92 : decode cX10_put 92 = .ok (.iastore, 1) := by decide +kernel
theorem dX10_put_93 : decode cX10_put 93 = .ok (.aload_n 0, 1) := by decide +kernel
theorem dX10_put_94 : decode cX10_put 94 = .ok (.getfield 15, 3) := by decide +kernel
theorem dX10_put_97 : decode cX10_put 97 = .ok (.iload 4, 2) := by decide +kernel
theorem dX10_put_99 : decode cX10_put 99 = .ok (.aload_n 0, 1) := by decide +kernel
theorem dX10_put_100 : decode cX10_put 100 = .ok (.getfield 15, 3) := by decide +kernel
theorem dX10_put_103 : decode cX10_put 103 = .ok (.iload 4, 2) := by decide +kernel
theorem dX10_put_105 : decode cX10_put 105 = .ok (.iconst 1, 1) := by decide +kernel
theorem dX10_put_106 : decode cX10_put 106 = .ok (.isub, 1) := by decide +kernel
theorem dX10_put_107 : decode cX10_put 107 = .ok (.iaload, 1) := by decide +kernel
theorem dX10_put_108 : decode cX10_put 108 = .ok (.iastore, 1) := by decide +kernel
theorem dX10_put_109 : decode cX10_put 109 = .ok (.iinc 4 (-1), 3) := by decide +kernel
theorem dX10_put_112 : decode cX10_put 112 = .ok (.goto (-41), 3) := by decide +kernel
theorem dX10_put_115 : decode cX10_put 115 = .ok (.aload_n 0, 1) := by decide +kernel
theorem dX10_put_116 : decode cX10_put 116 = .ok (.getfield 9, 3) := by decide +kernel
theorem dX10_put_119 : decode cX10_put 119 = .ok (.iload_n 3, 1) := by decide +kernel
theorem dX10_put_120 : decode cX10_put 120 = .ok (.iload_n 1, 1) := by decide +kernel
theorem dX10_put_121 : decode cX10_put 121 = .ok (.iastore, 1) := by decide +kernel
theorem dX10_put_122 : decode cX10_put 122 = .ok (.aload_n 0, 1) := by decide +kernel
theorem dX10_put_123 : decode cX10_put 123 = .ok (.getfield 15, 3) := by decide +kernel
theorem dX10_put_126 : decode cX10_put 126 = .ok (.iload_n 3, 1) := by decide +kernel
theorem dX10_put_127 : decode cX10_put 127 = .ok (.iload_n 2, 1) := by decide +kernel
theorem dX10_put_128 : decode cX10_put 128 = .ok (.iastore, 1) := by decide +kernel
theorem dX10_put_129 : decode cX10_put 129 = .ok (.aload_n 0, 1) := by decide +kernel
theorem dX10_put_130 : decode cX10_put 130 = .ok (.dup, 1) := by decide +kernel
theorem dX10_put_131 : decode cX10_put 131 = .ok (.getfield 23, 3) := by decide +kernel
theorem dX10_put_134 : decode cX10_put 134 = .ok (.iconst 1, 1) := by decide +kernel
theorem dX10_put_135 : decode cX10_put 135 = .ok (.iadd, 1) := by decide +kernel
theorem dX10_put_136 : decode cX10_put 136 = .ok (.putfield 23, 3) := by decide +kernel
theorem dX10_put_139 : decode cX10_put 139 = .ok (.return_, 1) := by decide +kernel
theorem dX10_removeFile_0 : decode cX10_removeFile 0 = .ok (.iconst 0, 1) := by decide +kernel
theorem dX10_removeFile_1 : decode cX10_removeFile 1 = .ok (.istore_n 2, 1) := by decide +kernel
theorem dX10_removeFile_2 : decode cX10_removeFile 2 = .ok (.iconst 0, 1) := by decide +kernel
theorem dX10_removeFile_3 : decode cX10_removeFile 3 = .ok (.istore_n 3, 1) := by decide +kernel
theorem dX10_removeFile_4 : decode cX10_removeFile 4 = .ok (.iload_n 3, 1) := by decide +kernel
theorem dX10_removeFile_5 : decode cX10_removeFile 5 = .ok (.aload_n 0, 1) := by decide +kernel
theorem dX10_removeFile_6 : decode cX10_removeFile 6 = .ok (.getfield 23, 3) := by decide +kernel
theorem dX10_removeFile_9 : decode cX10_removeFile 9 = .ok (.if_icmp .ge 46, 3) := by decide +kernel
theorem dX10_removeFile_12 : decode cX10_removeFile 12 = .ok (.aload_n 0, 1) := by decide +kernel
theorem dX10_removeFile_13 : decode cX10_removeFile 13 = .ok (.getfield 9, 3) := by decide +kernel
theorem dX10_removeFile_16 : decode cX10_removeFile 16 = .ok (.iload_n 3, 1) := by decide +kernel
theorem dX10_removeFile_17 : decode cX10_removeFile 17 = .ok (.iaload, 1) := by decide +kernel
theorem dX10_removeFile_18 : decode cX10_removeFile 18 = .ok (.iload_n 1, 1) := by decide +kernel
theorem dX10_removeFile_19 : decode cX10_removeFile 19 = .ok (.if_icmp .eq 30, 3) := by decide +kernel
theorem dX10_removeFile_22 : decode cX10_removeFile 22 = .ok (.aload_n 0, 1) := by decide +kernel
theorem dX10_removeFile_23 : decode cX10_removeFile 23 = .ok (.getfield 9, 3) := by decide +kernel
theorem dX10_removeFile_26 : decode cX10_removeFile 26 = .ok (.iload_n 2, 1) := by decide +kernel
theorem dX10_removeFile_27 : decode cX10_removeFile 27 = .ok (.aload_n 0, 1) := by decide +kernel
theorem dX10_removeFile_28 : decode cX10_removeFile 28 = .ok (.getfield 9, 3) := by decide +kernel
theorem dX10_removeFile_31 : decode cX10_removeFile 31 = .ok (.iload_n 3, 1) := by decide +kernel
theorem dX10_removeFile_32 : decode cX10_removeFile 32 = .ok (.iaload, 1) := by decide +kernel
theorem dX10_removeFile_33 : decode cX10_removeFile 33 = .ok (.iastore, 1) := by decide +kernel
theorem dX10_removeFile_34 : decode cX10_removeFile 34 = .ok (.aload_n 0, 1) := by decide +kernel
theorem dX10_removeFile_35 : decode cX10_removeFile 35 = .ok (.getfield 15, 3) := by decide +kernel
theorem dX10_removeFile_38 : decode cX10_removeFile 38 = .ok (.iload_n 2, 1) := by decide +kernel
theorem dX10_removeFile_39 : decode cX10_removeFile 39 = .ok (.aload_n 0, 1) := by decide +kernel
theorem dX10_removeFile_40 : decode cX10_removeFile 40 = .ok (.getfield 15, 3) := by decide +kernel
theorem dX10_removeFile_43 : decode cX10_removeFile 43 = .ok (.iload_n 3, 1) := by decide +kernel
theorem dX10_removeFile_44 : decode cX10_removeFile 44 = .ok (.iaload, 1) := by decide +kernel
theorem dX10_removeFile_45 : decode cX10_removeFile 45 = .ok (.iastore, 1) := by decide +kernel
theorem dX10_removeFile_46 : decode cX10_removeFile 46 = .ok (.iinc 2 1, 3) := by decide +kernel
theorem dX10_removeFile_49 : decode cX10_removeFile 49 = .ok (.iinc 3 1, 3) := by decide +kernel
theorem dX10_removeFile_52 : decode cX10_removeFile 52 = .ok (.goto (-48), 3) := by decide +kernel
theorem dX10_removeFile_55 : decode cX10_removeFile 55 = .ok (.aload_n 0, 1) := by decide +kernel
theorem dX10_removeFile_56 : decode cX10_removeFile 56 = .ok (.iload_n 2, 1) := by decide +kernel
theorem dX10_removeFile_57 : decode cX10_removeFile 57 = .ok (.putfield 23, 3) := by decide +kernel
theorem dX10_removeFile_60 : decode cX10_removeFile 60 = .ok (.return_, 1) := by decide +kernel
theorem dX10_removeAt_0 : decode cX10_removeAt 0 = .ok (.iconst 0, 1) := by decide +kernel
theorem dX10_removeAt_1 : decode cX10_removeAt 1 = .ok (.istore_n 2, 1) := by decide +kernel
theorem dX10_removeAt_2 : decode cX10_removeAt 2 = .ok (.iconst 0, 1) := by decide +kernel
theorem dX10_removeAt_3 : decode cX10_removeAt 3 = .ok (.istore_n 3, 1) := by decide +kernel
theorem dX10_removeAt_4 : decode cX10_removeAt 4 = .ok (.iload_n 3, 1) := by decide +kernel
theorem dX10_removeAt_5 : decode cX10_removeAt 5 = .ok (.aload_n 0, 1) := by decide +kernel
theorem dX10_removeAt_6 : decode cX10_removeAt 6 = .ok (.getfield 23, 3) := by decide +kernel
theorem dX10_removeAt_9 : decode cX10_removeAt 9 = .ok (.if_icmp .ge 49, 3) := by decide +kernel
theorem dX10_removeAt_12 : decode cX10_removeAt 12 = .ok (.iload_n 1, 1) := by decide +kernel
theorem dX10_removeAt_13 : decode cX10_removeAt 13 = .ok (.aload_n 0, 1) := by decide +kernel
theorem dX10_removeAt_14 : decode cX10_removeAt 14 = .ok (.getfield 9, 3) := by decide +kernel
theorem dX10_removeAt_17 : decode cX10_removeAt 17 = .ok (.iload_n 3, 1) := by decide +kernel
theorem dX10_removeAt_18 : decode cX10_removeAt 18 = .ok (.iaload, 1) := by decide +kernel
theorem dX10_removeAt_19 : decode cX10_removeAt 19 = .ok (.invokestatic 42, 3) := by decide +kernel
theorem dX10_removeAt_22 : decode cX10_removeAt 22 = .ok (.ifCond .ne 30, 3) := by decide +kernel
theorem dX10_removeAt_25 : decode cX10_removeAt 25 = .ok (.aload_n 0, 1) := by decide +kernel
theorem dX10_removeAt_26 : decode cX10_removeAt 26 = .ok (.getfield 9, 3) := by decide +kernel
theorem dX10_removeAt_29 : decode cX10_removeAt 29 = .ok (.iload_n 2, 1) := by decide +kernel
theorem dX10_removeAt_30 : decode cX10_removeAt 30 = .ok (.aload_n 0, 1) := by decide +kernel
theorem dX10_removeAt_31 : decode cX10_removeAt 31 = .ok (.getfield 9, 3) := by decide +kernel
theorem dX10_removeAt_34 : decode cX10_removeAt 34 = .ok (.iload_n 3, 1) := by decide +kernel
theorem dX10_removeAt_35 : decode cX10_removeAt 35 = .ok (.iaload, 1) := by decide +kernel
theorem dX10_removeAt_36 : decode cX10_removeAt 36 = .ok (.iastore, 1) := by decide +kernel
theorem dX10_removeAt_37 : decode cX10_removeAt 37 = .ok (.aload_n 0, 1) := by decide +kernel
theorem dX10_removeAt_38 : decode cX10_removeAt 38 = .ok (.getfield 15, 3) := by decide +kernel
theorem dX10_removeAt_41 : decode cX10_removeAt 41 = .ok (.iload_n 2, 1) := by decide +kernel
theorem dX10_removeAt_42 : decode cX10_removeAt 42 = .ok (.aload_n 0, 1) := by decide +kernel
theorem dX10_removeAt_43 : decode cX10_removeAt 43 = .ok (.getfield 15, 3) := by decide +kernel
theorem dX10_removeAt_46 : decode cX10_removeAt 46 = .ok (.iload_n 3, 1) := by decide +kernel
theorem dX10_removeAt_47 : decode cX10_removeAt 47 = .ok (.iaload, 1) := by decide +kernel
theorem dX10_removeAt_48 : decode cX10_removeAt 48 = .ok (.iastore, 1) := by decide +kernel
theorem dX10_removeAt_49 : decode cX10_removeAt 49 = .ok (.iinc 2 1, 3) := by decide +kernel
theorem dX10_removeAt_52 : decode cX10_removeAt 52 = .ok (.iinc 3 1, 3) := by decide +kernel
theorem dX10_removeAt_55 : decode cX10_removeAt 55 = .ok (.goto (-51), 3) := by decide +kernel
theorem dX10_removeAt_58 : decode cX10_removeAt 58 = .ok (.aload_n 0, 1) := by decide +kernel
theorem dX10_removeAt_59 : decode cX10_removeAt 59 = .ok (.iload_n 2, 1) := by decide +kernel
theorem dX10_removeAt_60 : decode cX10_removeAt 60 = .ok (.putfield 23, 3) := by decide +kernel
theorem dX10_removeAt_63 : decode cX10_removeAt 63 = .ok (.return_, 1) := by decide +kernel
theorem dX10_takeAll_0 : decode cX10_takeAll 0 = .ok (.iconst 0, 1) := by decide +kernel
theorem dX10_takeAll_1 : decode cX10_takeAll 1 = .ok (.istore_n 2, 1) := by decide +kernel
theorem dX10_takeAll_2 : decode cX10_takeAll 2 = .ok (.iload_n 2, 1) := by decide +kernel
theorem dX10_takeAll_3 : decode cX10_takeAll 3 = .ok (.aload_n 1, 1) := by decide +kernel
theorem dX10_takeAll_4 : decode cX10_takeAll 4 = .ok (.getfield 23, 3) := by decide +kernel
theorem dX10_takeAll_7 : decode cX10_takeAll 7 = .ok (.if_icmp .ge 52, 3) := by decide +kernel
theorem dX10_takeAll_10 : decode cX10_takeAll 10 = .ok (.aload_n 0, 1) := by decide +kernel
theorem dX10_takeAll_11 : decode cX10_takeAll 11 = .ok (.aload_n 1, 1) := by decide +kernel
theorem dX10_takeAll_12 : decode cX10_takeAll 12 = .ok (.getfield 9, 3) := by decide +kernel
theorem dX10_takeAll_15 : decode cX10_takeAll 15 = .ok (.iload_n 2, 1) := by decide +kernel
theorem dX10_takeAll_16 : decode cX10_takeAll 16 = .ok (.iaload, 1) := by decide +kernel
theorem dX10_takeAll_17 : decode cX10_takeAll 17 = .ok (.invokevirtual 46, 3) := by decide +kernel
theorem dX10_takeAll_20 : decode cX10_takeAll 20 = .ok (.istore_n 3, 1) := by decide +kernel
theorem dX10_takeAll_21 : decode cX10_takeAll 21 = .ok (.iload_n 3, 1) := by decide +kernel
theorem dX10_takeAll_22 : decode cX10_takeAll 22 = .ok (.ifCond .eq 15, 3) := by decide +kernel
theorem dX10_takeAll_25 : decode cX10_takeAll 25 = .ok (.iload_n 3, 1) := by decide +kernel
theorem dX10_takeAll_26 : decode cX10_takeAll 26 = .ok (.aload_n 1, 1) := by decide +kernel
theorem dX10_takeAll_27 : decode cX10_takeAll 27 = .ok (.getfield 15, 3) := by decide +kernel
theorem dX10_takeAll_30 : decode cX10_takeAll 30 = .ok (.iload_n 2, 1) := by decide +kernel
theorem dX10_takeAll_31 : decode cX10_takeAll 31 = .ok (.iaload, 1) := by decide +kernel
theorem dX10_takeAll_32 : decode cX10_takeAll 32 = .ok (.if_icmp .eq 5, 3) := by decide +kernel
theorem dX10_takeAll_35 : decode cX10_takeAll 35 = .ok (.iconst 0, 1) := by decide +kernel
theorem dX10_takeAll_36 : decode cX10_takeAll 36 = .ok (.ireturn, 1) := by decide +kernel
theorem dX10_takeAll_37 : decode cX10_takeAll 37 = .ok (.aload_n 0, 1) := by decide +kernel
theorem dX10_takeAll_38 : decode cX10_takeAll 38 = .ok (.aload_n 1, 1) := by decide +kernel
theorem dX10_takeAll_39 : decode cX10_takeAll 39 = .ok (.getfield 9, 3) := by decide +kernel
theorem dX10_takeAll_42 : decode cX10_takeAll 42 = .ok (.iload_n 2, 1) := by decide +kernel
theorem dX10_takeAll_43 : decode cX10_takeAll 43 = .ok (.iaload, 1) := by decide +kernel
theorem dX10_takeAll_44 : decode cX10_takeAll 44 = .ok (.aload_n 1, 1) := by decide +kernel
theorem dX10_takeAll_45 : decode cX10_takeAll 45 = .ok (.getfield 15, 3) := by decide +kernel
theorem dX10_takeAll_48 : decode cX10_takeAll 48 = .ok (.iload_n 2, 1) := by decide +kernel
theorem dX10_takeAll_49 : decode cX10_takeAll 49 = .ok (.iaload, 1) := by decide +kernel
theorem dX10_takeAll_50 : decode cX10_takeAll 50 = .ok (.invokevirtual 49, 3) := by decide +kernel
theorem dX10_takeAll_53 : decode cX10_takeAll 53 = .ok (.iinc 2 1, 3) := by decide +kernel
theorem dX10_takeAll_56 : decode cX10_takeAll 56 = .ok (.goto (-54), 3) := by decide +kernel
theorem dX10_takeAll_59 : decode cX10_takeAll 59 = .ok (.iconst 1, 1) := by decide +kernel
theorem dX10_takeAll_60 : decode cX10_takeAll 60 = .ok (.ireturn, 1) := by decide +kernel
theorem dX10_copy_0 : decode cX10_copy 0 = .ok (.aload_n 0, 1) := by decide +kernel
theorem dX10_copy_1 : decode cX10_copy 1 = .ok (.aload_n 1, 1) := by decide +kernel
theorem dX10_copy_2 : decode cX10_copy 2 = .ok (.getfield 23, 3) := by decide +kernel
theorem dX10_copy_5 : decode cX10_copy 5 = .ok (.aload_n 0, 1) := by decide +kernel
theorem dX10_copy_6 : decode cX10_copy 6 = .ok (.getfield 9, 3) := by decide +kernel
theorem dX10_copy_9 : decode cX10_copy 9 = .ok (.arraylength, 1) := by decide +kernel
theorem dX10_copy_10 : decode cX10_copy 10 = .ok (.invokestatic 27, 3) := by decide +kernel
theorem dX10_copy_13 : decode cX10_copy 13 = .ok (.putfield 23, 3) := by decide +kernel
theorem dX10_copy_16 : decode cX10_copy 16 = .ok (.aload_n 1, 1) := by decide +kernel
theorem dX10_copy_17 : decode cX10_copy 17 = .ok (.getfield 9, 3) := by decide +kernel
theorem dX10_copy_20 : decode cX10_copy 20 = .ok (.iconst 0, 1) := by decide +kernel
theorem dX10_copy_21 : decode cX10_copy 21 = .ok (.aload_n 0, 1) := by decide +kernel
theorem dX10_copy_22 : decode cX10_copy 22 = .ok (.getfield 9, 3) := by decide +kernel
theorem dX10_copy_25 : decode cX10_copy 25 = .ok (.iconst 0, 1) := by decide +kernel
theorem dX10_copy_26 : decode cX10_copy 26 = .ok (.aload_n 0, 1) := by decide +kernel
theorem dX10_copy_27 : decode cX10_copy 27 = .ok (.getfield 23, 3) := by decide +kernel
theorem dX10_copy_30 : decode cX10_copy 30 = .ok (.invokestatic 33, 3) := by decide +kernel
theorem dX10_copy_33 : decode cX10_copy 33 = .ok (.aload_n 1, 1) := by decide +kernel
theorem dX10_copy_34 : decode cX10_copy 34 = .ok (.getfield 15, 3) := by decide +kernel
theorem dX10_copy_37 : decode cX10_copy 37 = .ok (.iconst 0, 1) := by decide +kernel
theorem dX10_copy_38 : decode cX10_copy 38 = .ok (.aload_n 0, 1) := by decide +kernel
theorem dX10_copy_39 : decode cX10_copy 39 = .ok (.getfield 15, 3) := by decide +kernel
theorem dX10_copy_42 : decode cX10_copy 42 = .ok (.iconst 0, 1) := by decide +kernel
theorem dX10_copy_43 : decode cX10_copy 43 = .ok (.aload_n 0, 1) := by decide +kernel
theorem dX10_copy_44 : decode cX10_copy 44 = .ok (.getfield 23, 3) := by decide +kernel
theorem dX10_copy_47 : decode cX10_copy 47 = .ok (.invokestatic 33, 3) := by decide +kernel
theorem dX10_copy_50 : decode cX10_copy 50 = .ok (.return_, 1) := by decide +kernel
def tPost (sh : gS) (M : gM) (t : Int) (n : Nat) (fs : List gF) (M1 : gM) : Prop := tOk sh M1 t n fs ∧ gOK sh M1 ∧ ∀ b : Int, b ≠ t → b ≠ t + 1 → b ≠ t + 2 → M1 b = M b
def tPut (w c : Int) : List gF → List gF
  | [] => [(w, c)]
  | f :: r => if f.1 < w then f :: tPut w c r else if f.1 = w then (w, c) :: r else (w, c) :: f :: r
theorem tPut_app (w c : Int) : ∀ (pre suf : List gF), (∀ f ∈ pre, f.1 < w) → tPut w c (pre ++ suf) = pre ++ tPut w c suf
  | [], suf, _ => rfl
  | f :: r, suf, h => by
    rw [List.cons_append, tPut, if_pos (h f List.mem_cons_self), tPut_app w c r suf (fun g hg => h g (List.mem_cons_of_mem _ hg))]
    rfl
theorem tPut_len (w c : Int) : ∀ fs : List gF, (tPut w c fs).length ≤ fs.length + 1 ∧ fs.length ≤ (tPut w c fs).length
  | [] => ⟨Nat.le_refl _, Nat.zero_le _⟩
  | f :: r => by
    have := tPut_len w c r
    unfold tPut
    split
    · simp only [List.length_cons]; omega
    · split <;> (simp only [List.length_cons]; omega)
theorem tSuf_0 {M : gM} {t : Int} {fs : List gF} (h0 : M t 2 = (fs.length : Int)) (h : ∀ (j : Nat) (f : gF), fs[j]? = some f → M (t + 1) (j : Int) = f.1 ∧ M (t + 2) (j : Int) = f.2 ∧ 0 ≤ f.1 ∧ f.1 < 1073741824) : tSuf M t 0 fs :=
  ⟨Int.le_refl 0, by omega, fun j f hj => by rw [Int.zero_add]; exact h j f hj⟩
theorem tSuf_e {M : gM} {t : Int} {fs : List gF} (h : tSuf M t 0 fs) {j : Nat} {f : gF} (hj : fs[j]? = some f) : M (t + 1) (j : Int) = f.1 ∧ M (t + 2) (j : Int) = f.2 ∧ 0 ≤ f.1 ∧ f.1 < 1073741824 := by
  have := h.2.2 j f hj
  rwa [Int.zero_add] at this
theorem sp_X10_put {sh : gS} {M : gM} {t w c : Int} {n : Nat} {fs : List gF} (hOK : gOK sh M) (hT : tOk sh M t n fs) (hw : 0 ≤ w ∧ w < 1073741824) (hr : (tPut w c fs).length ≤ n) :
    gC (gr 0 0) yX10_put cX10_put 5 none [(4, t), (0, w), (0, c)] sh M (gPm sh (fun r M1 => r = none ∧ tPost sh M t n (tPut w c fs) M1)) := by
  have hc := tOk_c hT
  have hT0 := hT
  obtain ⟨hsh, hn, hT, hl⟩ := hT
  obtain ⟨hs0, hs1, hs2, hlt⟩ := id hsh
  generalize hQ : gPm sh (fun (r : Option gV) M1 => r = none ∧ tPost sh M t n (tPut w c fs) M1) = Q
  refine gC_ofA (lv := [_, _, _, _, _]) (by decide +kernel) (Nat.le_of_ble_eq_true rfl) rfl (fun hMw hav => ?_)
  have lq : ∀ (pre suf : List gF) (i : Int), fs = pre ++ suf → i = (pre.length : Int) → tPut w c fs = pre ++ (w, c) :: suf → fs.length + 1 ≤ n →
      ∀ (k : Nat) (j : Int) (M1 : gM), j = i + (k : Int) → j ≤ M t 2 → gOK sh M1 → (∀ q, M1 (t + 1) q = if j < q ∧ q ≤ M t 2 then M (t + 1) (q - 1) else M (t + 1) q) → (∀ q, M1 (t + 2) q = if j < q ∧ q ≤ M t 2 then M (t + 2) (q - 1) else M (t + 2) q) → (∀ b : Int, b ≠ t + 1 → b ≠ t + 2 → M1 b = M b) →
      gA (gr 0 0) yX10_put cX10_put 5 none Q (0, 0) 71 [(4, t), (0, w), (0, c), (0, i), (0, j)] [] sh M1 := by
    intro pre suf i hfs hi hp hn1 k
    induction k with
    | zero =>
      intro j M1 hj hjc hO e1 e2 e3
      have hlen : (fs.length : Int) = i + (suf.length : Int) := by rw [hfs, List.length_append]; omega
      have ec : M1 t 2 = M t 2 := by rw [e3 t (by omega) (by omega)]
      refine g_iload (q0 := 73) (j := 4) rfl dX10_put_71 rfl ?_
      refine g_iload_n (q0 := 74) (j := 3) rfl dX10_put_73 rfl ?_
      refine g_icmp_le (q0 := 77) (tgt := 115) rfl dX10_put_74 (by decide) (fun h74 => ?_) (fun h74 => ?_)
      · refine g_aload_n (q0 := 116) (j := 0) rfl dX10_put_115 rfl ?_
        refine g_getp (q0 := 119) (b := t + 1) rfl ff_X10_9 dX10_put_116 rfl hO (by omega) (by assumption) rfl rfl ?_
        refine g_iload_n (q0 := 120) (j := 3) rfl dX10_put_119 rfl ?_
        refine g_iload_n (q0 := 121) (j := 1) rfl dX10_put_120 rfl ?_
        refine g_iast (q0 := 122) rfl dX10_put_121 (by assumption) (by omega) (by omega) ?_
        refine g_aload_n (q0 := 123) (j := 0) rfl dX10_put_122 rfl ?_
        refine g_getp (q0 := 126) (b := t + 2) rfl ff_X10_15 dX10_put_123 rfl (gOK_i hO (by assumption)) (by omega) (by assumption) rfl rfl ?_
        refine g_iload_n (q0 := 127) (j := 3) rfl dX10_put_126 rfl ?_
        refine g_iload_n (q0 := 128) (j := 2) rfl dX10_put_127 rfl ?_
        refine g_iast (q0 := 129) rfl dX10_put_128 (by assumption) (by omega) (by omega) ?_
        refine g_aload_n (q0 := 130) (j := 0) rfl dX10_put_129 rfl ?_
        refine g_dup (q0 := 131) rfl dX10_put_130 (k := ?_)
        refine g_getf (q0 := 134) (t := 0) (fi := 2) rfl rfl ff_X10_23 dX10_put_131 rfl (by assumption) ?_
        have ec2 : gU (gU M1 (t + 1) i w) (t + 2) i c t 2 = M t 2 := by
          rw [gU_cell _ _ _ (by omega), gU_cell _ _ _ (by omega), ec]
        rw [ec2]
        refine g_iconst (q0 := 135) rfl dX10_put_134 (k := ?_)
        refine g_iadd (q0 := 136) rfl dX10_put_135 (by omega) (by omega) ?_
        refine g_put (q0 := 139) (t := 0) (fi := 2) rfl rfl ff_X10_23 dX10_put_136 rfl (by assumption) rfl (fun _ => ⟨rfl, rfl⟩) ?_
        refine g_return dX10_put_139 rfl ⟨Nat.zero_le _, Nat.zero_le _⟩ ?_
        subst hQ
        refine ⟨rfl, rfl, ⟨hsh, hn, ?_, hr⟩, (gOK_o (f := 2) (gOK_i (gOK_i hO hs1) hs2) hs0 rfl rfl), ?_⟩
        · rw [hp]
          refine tSuf_0 ?_ ?_
          · have n1 : ¬ t = t + 2 := by omega
            have n2 : ¬ t = t + 1 := by omega
            rw [gU_same, hc.1, hlen]
            simp only [List.length_append, List.length_cons]
            omega
          · intro q f hq
            have n1 : ¬ t + 1 = t := by omega
            have n2 : ¬ t + 1 = t + 2 := by omega
            have n3 : ¬ t + 2 = t := by omega
            have n4 : ¬ t + 2 = t + 1 := by omega
            simp only [gU, n1, n2, n3, n4, false_and, true_and, if_false]
            rw [e1, e2]
            rcases Nat.lt_trichotomy q pre.length with z | z | z
            · rw [List.getElem?_append_left z] at hq
              have h9 := tSuf_e hT (j := q) (f := f) (by rw [hfs, List.getElem?_append_left z]; exact hq)
              rw [if_neg (by omega), if_neg (by omega), if_neg (by omega), if_neg (by omega)]
              exact h9
            · rw [List.getElem?_append_right (by omega), show q - pre.length = 0 by omega] at hq
              cases hq
              rw [if_pos (by omega), if_pos (by omega)]
              exact ⟨rfl, rfl, hw.1, hw.2⟩
            · rw [List.getElem?_append_right (by omega), show q - pre.length = (q - 1 - pre.length) + 1 by omega, List.getElem?_cons_succ] at hq
              have hq2 : q - 1 - pre.length < suf.length := (List.getElem?_eq_some_iff.mp hq).1
              have h9 := tSuf_e hT (j := q - 1) (f := f) (by rw [hfs, List.getElem?_append_right (by omega)]; exact hq)
              rw [show ((q - 1 : Nat) : Int) = (q : Int) - 1 by omega] at h9
              rw [if_neg (by omega), if_pos (by omega), if_neg (by omega), if_pos (by omega)]
              exact h9
        · intro b b0 b1 b2
          funext x
          simp only [gU, b0, b1, b2, false_and, if_false]
          rw [e3 b b1 b2]
      · omega
    | succ k ih =>
      intro j M1 hj hjc hO e1 e2 e3
      have ec : M1 t 2 = M t 2 := by rw [e3 t (by omega) (by omega)]
      refine g_iload (q0 := 73) (j := 4) rfl dX10_put_71 rfl ?_
      refine g_iload_n (q0 := 74) (j := 3) rfl dX10_put_73 rfl ?_
      refine g_icmp_le (q0 := 77) (tgt := 115) rfl dX10_put_74 (by decide) (fun h74 => ?_) (fun h74 => ?_)
      · omega
      · refine g_aload_n (q0 := 78) (j := 0) rfl dX10_put_77 rfl ?_
        refine g_getp (q0 := 81) (b := t + 1) rfl ff_X10_9 dX10_put_78 rfl hO (by omega) (by assumption) rfl rfl ?_
        refine g_iload (q0 := 83) (j := 4) rfl dX10_put_81 rfl ?_
        refine g_aload_n (q0 := 84) (j := 0) rfl dX10_put_83 rfl ?_
        refine g_getp (q0 := 87) (b := t + 1) rfl ff_X10_9 dX10_put_84 rfl hO (by omega) (by assumption) rfl rfl ?_
        refine g_iload (q0 := 89) (j := 4) rfl dX10_put_87 rfl ?_
        refine g_iconst (q0 := 90) rfl dX10_put_89 (k := ?_)
        refine g_isub (q0 := 91) rfl dX10_put_90 (by omega) (by omega) ?_
        refine g_iald (q0 := 92) rfl dX10_put_91 (by assumption) (by omega) (by omega) ?_
        refine g_iast (q0 := 93) rfl dX10_put_92 (by assumption) (by omega) (by omega) ?_
        refine g_aload_n (q0 := 94) (j := 0) rfl dX10_put_93 rfl ?_
        refine g_getp (q0 := 97) (b := t + 2) rfl ff_X10_15 dX10_put_94 rfl (gOK_i hO (by assumption)) (by omega) (by assumption) rfl rfl ?_
        refine g_iload (q0 := 99) (j := 4) rfl dX10_put_97 rfl ?_
        refine g_aload_n (q0 := 100) (j := 0) rfl dX10_put_99 rfl ?_
        refine g_getp (q0 := 103) (b := t + 2) rfl ff_X10_15 dX10_put_100 rfl (gOK_i hO (by assumption)) (by omega) (by assumption) rfl rfl ?_
        refine g_iload (q0 := 105) (j := 4) rfl dX10_put_103 rfl ?_
        refine g_iconst (q0 := 106) rfl dX10_put_105 (k := ?_)
        refine g_isub (q0 := 107) rfl dX10_put_106 (by omega) (by omega) ?_
        refine g_iald (q0 := 108) rfl dX10_put_107 (by assumption) (by omega) (by omega) ?_
        refine g_iast (q0 := 109) rfl dX10_put_108 (by assumption) (by omega) (by omega) ?_
        refine g_iinc (q0 := 112) (lv2 := [_, _, _, _, _]) rfl dX10_put_109 rfl (by decide) rfl rfl (by omega) (by omega) ?_
        refine g_goto (tgt := 71) dX10_put_112 (by decide) ?_
        have n2 : ¬ t + 2 = t + 1 := by omega
        have n1 : ¬ t + 1 = t + 2 := by omega
        refine ih (j + -1) _ (by omega) (by omega) (gOK_i (gOK_i hO hs1) hs2) (fun q => ?_) (fun q => ?_) (fun b b1 b2 => ?_)
        · simp only [gU, n1, n2, false_and, true_and, if_false]
          rw [e1, e1]
          by_cases hq : q = j
          · subst hq
            rw [if_pos rfl, if_neg (by omega), if_pos (by omega)]
          · rw [if_neg hq]
            by_cases h8 : j < q ∧ q ≤ M t 2
            · rw [if_pos h8, if_pos (by omega)]
            · rw [if_neg h8, if_neg (by omega)]
        · simp only [gU, n1, n2, false_and, true_and, if_false]
          rw [e2, e2]
          by_cases hq : q = j
          · subst hq
            rw [if_pos rfl, if_neg (by omega), if_pos (by omega)]
          · rw [if_neg hq]
            by_cases h8 : j < q ∧ q ≤ M t 2
            · rw [if_pos h8, if_pos (by omega)]
            · rw [if_neg h8, if_neg (by omega)]
        · funext x
          simp only [gU, b1, b2, false_and, if_false]
          rw [e3 b b1 b2]
  have lp : ∀ (suf pre : List gF) (i : Int), fs = pre ++ suf → i = (pre.length : Int) → (∀ f ∈ pre, f.1 < w) → tSuf M t i suf →
      gA (gr 0 0) yX10_put cX10_put 5 none Q (0, 0) 2 [(4, t), (0, w), (0, c), (0, i), (9, 0)] [] sh M := by
    intro suf
    induction suf with
    | nil =>
      intro pre i hfs hi hlt2 hS
      have h0 := tSuf_nil hS
      have hp : tPut w c fs = pre ++ [(w, c)] := by rw [hfs, tPut_app w c pre [] hlt2]; rfl
      have hlen : fs.length + 1 ≤ n := by rw [hp] at hr; rw [hfs]; simpa using hr
      refine g_iload_n (q0 := 3) (j := 3) rfl dX10_put_2 rfl ?_
      refine g_aload_n (q0 := 4) (j := 0) rfl dX10_put_3 rfl ?_
      refine g_getf (q0 := 7) (t := 0) (fi := 2) rfl rfl ff_X10_23 dX10_put_4 rfl (by assumption) ?_
      refine g_icmp_ge (q0 := 10) (tgt := 26) rfl dX10_put_7 (by decide) (fun h7 => ?_) (fun h7 => ?_)
      · refine g_iload_n (q0 := 27) (j := 3) rfl dX10_put_26 rfl ?_
        refine g_aload_n (q0 := 28) (j := 0) rfl dX10_put_27 rfl ?_
        refine g_getf (q0 := 31) (t := 0) (fi := 2) rfl rfl ff_X10_23 dX10_put_28 rfl (by assumption) ?_
        refine g_icmp_ge (q0 := 34) (tgt := 52) rfl dX10_put_31 (by decide) (fun h31 => ?_) (fun h31 => ?_)
        · refine g_aload_n (q0 := 53) (j := 0) rfl dX10_put_52 rfl ?_
          refine g_getf (q0 := 56) (t := 0) (fi := 2) rfl rfl ff_X10_23 dX10_put_53 rfl (by assumption) ?_
          refine g_aload_n (q0 := 57) (j := 0) rfl dX10_put_56 rfl ?_
          refine g_getp (q0 := 60) (b := t + 1) rfl ff_X10_9 dX10_put_57 rfl hOK (by omega) (by assumption) rfl rfl ?_
          refine g_alen (q0 := 61) rfl dX10_put_60 (by assumption) (by omega) ⟨_, rfl⟩ ?_
          refine g_icmp_lt (q0 := 64) (tgt := 65) rfl dX10_put_61 (by decide) (fun h61 => ?_) (fun h61 => ?_)
          · refine g_aload_n (q0 := 66) (j := 0) rfl dX10_put_65 rfl ?_
            refine g_getf (q0 := 69) (t := 0) (fi := 2) rfl rfl ff_X10_23 dX10_put_66 rfl (by assumption) ?_
            refine g_istore (q0 := 71) (j := 4) (lv2 := [_, _, _, _, _]) rfl dX10_put_69 (by decide) rfl rfl ?_
            exact lq pre [] i hfs hi hp hlen 0 (M t 2) M (by omega) (by omega) hOK (fun q => by rw [if_neg (by omega)]) (fun q => by rw [if_neg (by omega)]) (fun b _ _ => rfl)
          · omega
        · omega
      · omega
    | cons f r ih =>
      intro pre i hfs hi hlt2 hS
      obtain ⟨k0, k1, k2, k3, k4, k5⟩ := tSuf_cons hS
      refine g_iload_n (q0 := 3) (j := 3) rfl dX10_put_2 rfl ?_
      refine g_aload_n (q0 := 4) (j := 0) rfl dX10_put_3 rfl ?_
      refine g_getf (q0 := 7) (t := 0) (fi := 2) rfl rfl ff_X10_23 dX10_put_4 rfl (by assumption) ?_
      refine g_icmp_ge (q0 := 10) (tgt := 26) rfl dX10_put_7 (by decide) (fun h7 => ?_) (fun h7 => ?_)
      · omega
      · refine g_aload_n (q0 := 11) (j := 0) rfl dX10_put_10 rfl ?_
        refine g_getp (q0 := 14) (b := t + 1) rfl ff_X10_9 dX10_put_11 rfl hOK (by omega) (by assumption) rfl rfl ?_
        refine g_iload_n (q0 := 15) (j := 3) rfl dX10_put_14 rfl ?_
        refine g_iald (q0 := 16) rfl dX10_put_15 (by assumption) (by omega) (by omega) ?_
        refine g_iload_n (q0 := 17) (j := 1) rfl dX10_put_16 rfl ?_
        refine g_icmp_ge (q0 := 20) (tgt := 26) rfl dX10_put_17 (by decide) (fun h17 => ?_) (fun h17 => ?_)
        · rw [k2] at h17
          have hnl : ¬ f.1 < w := by omega
          refine g_iload_n (q0 := 27) (j := 3) rfl dX10_put_26 rfl ?_
          refine g_aload_n (q0 := 28) (j := 0) rfl dX10_put_27 rfl ?_
          refine g_getf (q0 := 31) (t := 0) (fi := 2) rfl rfl ff_X10_23 dX10_put_28 rfl (by assumption) ?_
          refine g_icmp_ge (q0 := 34) (tgt := 52) rfl dX10_put_31 (by decide) (fun h31 => ?_) (fun h31 => ?_)
          · omega
          · refine g_aload_n (q0 := 35) (j := 0) rfl dX10_put_34 rfl ?_
            refine g_getp (q0 := 38) (b := t + 1) rfl ff_X10_9 dX10_put_35 rfl hOK (by omega) (by assumption) rfl rfl ?_
            refine g_iload_n (q0 := 39) (j := 3) rfl dX10_put_38 rfl ?_
            refine g_iald (q0 := 40) rfl dX10_put_39 (by assumption) (by omega) (by omega) ?_
            refine g_iload_n (q0 := 41) (j := 1) rfl dX10_put_40 rfl ?_
            refine g_icmp_ne (q0 := 44) (tgt := 52) rfl dX10_put_41 (by decide) (fun h41 => ?_) (fun h41 => ?_)
            · rw [k2] at h41
              have hp : tPut w c fs = pre ++ (w, c) :: f :: r := by rw [hfs, tPut_app w c pre _ hlt2, tPut, if_neg hnl, if_neg h41]
              have hlen : fs.length + 1 ≤ n := by rw [hp] at hr; rw [hfs]; simp only [List.length_append, List.length_cons] at hr ⊢; omega
              refine g_aload_n (q0 := 53) (j := 0) rfl dX10_put_52 rfl ?_
              refine g_getf (q0 := 56) (t := 0) (fi := 2) rfl rfl ff_X10_23 dX10_put_53 rfl (by assumption) ?_
              refine g_aload_n (q0 := 57) (j := 0) rfl dX10_put_56 rfl ?_
              refine g_getp (q0 := 60) (b := t + 1) rfl ff_X10_9 dX10_put_57 rfl hOK (by omega) (by assumption) rfl rfl ?_
              refine g_alen (q0 := 61) rfl dX10_put_60 (by assumption) (by omega) ⟨_, rfl⟩ ?_
              refine g_icmp_lt (q0 := 64) (tgt := 65) rfl dX10_put_61 (by decide) (fun h61 => ?_) (fun h61 => ?_)
              · refine g_aload_n (q0 := 66) (j := 0) rfl dX10_put_65 rfl ?_
                refine g_getf (q0 := 69) (t := 0) (fi := 2) rfl rfl ff_X10_23 dX10_put_66 rfl (by assumption) ?_
                refine g_istore (q0 := 71) (j := 4) (lv2 := [_, _, _, _, _]) rfl dX10_put_69 (by decide) rfl rfl ?_
                have hlen2 : (fs.length : Int) = i + ((f :: r).length : Int) := by rw [hfs, List.length_append]; omega
                exact lq pre (f :: r) i hfs hi hp hlen (f :: r).length (M t 2) M (by omega) (by omega) hOK (fun q => by rw [if_neg (by omega)]) (fun q => by rw [if_neg (by omega)]) (fun b _ _ => rfl)
              · omega
            · rw [k2] at h41
              have hp : tPut w c fs = pre ++ (w, c) :: r := by rw [hfs, tPut_app w c pre _ hlt2, tPut, if_neg hnl, if_pos h41]
              refine g_aload_n (q0 := 45) (j := 0) rfl dX10_put_44 rfl ?_
              refine g_getp (q0 := 48) (b := t + 2) rfl ff_X10_15 dX10_put_45 rfl hOK (by omega) (by assumption) rfl rfl ?_
              refine g_iload_n (q0 := 49) (j := 3) rfl dX10_put_48 rfl ?_
              refine g_iload_n (q0 := 50) (j := 2) rfl dX10_put_49 rfl ?_
              refine g_iast (q0 := 51) rfl dX10_put_50 (by assumption) (by omega) (by omega) ?_
              refine g_return dX10_put_51 rfl ⟨Nat.zero_le _, Nat.zero_le _⟩ ?_
              subst hQ
              refine ⟨rfl, rfl, ⟨hsh, hn, ?_, hr⟩, gOK_i hOK hs2, fun b b0 b1 b2 => by funext x; simp only [gU, b2, false_and, if_false]⟩
              rw [hp]
              have n1 : ¬ t = t + 2 := by omega
              have n2 : ¬ t + 1 = t + 2 := by omega
              refine tSuf_0 ?_ ?_
              · simp only [gU, n1, false_and, if_false]
                rw [hc.1, hfs]
                simp
              · intro q g hq
                simp only [gU, n2, false_and, true_and, if_false]
                rcases Nat.lt_trichotomy q pre.length with z | z | z
                · rw [List.getElem?_append_left z] at hq
                  rw [if_neg (by omega)]
                  exact tSuf_e hT (j := q) (f := g) (by rw [hfs, List.getElem?_append_left z]; exact hq)
                · rw [List.getElem?_append_right (by omega), show q - pre.length = 0 by omega] at hq
                  cases hq
                  rw [if_pos (by omega)]
                  have h9 := tSuf_e hT (j := q) (f := f) (by rw [hfs, List.getElem?_append_right (by omega), show q - pre.length = 0 by omega]; rfl)
                  exact ⟨by rw [h9.1]; exact h41, rfl, hw.1, hw.2⟩
                · rw [List.getElem?_append_right (by omega), show q - pre.length = (q - 1 - pre.length) + 1 by omega, List.getElem?_cons_succ] at hq
                  rw [if_neg (by omega)]
                  exact tSuf_e hT (j := q) (f := g) (by rw [hfs, List.getElem?_append_right (by omega), show q - pre.length = (q - 1 - pre.length) + 1 by omega, List.getElem?_cons_succ]; exact hq)
        · rw [k2] at h17
          refine g_iinc (q0 := 23) (lv2 := [_, _, _, _, _]) rfl dX10_put_20 rfl (by decide) rfl rfl (by omega) (by omega) ?_
          refine g_goto (tgt := 2) dX10_put_23 (by decide) ?_
          refine ih (pre ++ [f]) (i + 1) (by rw [hfs]; simp) (by simp; omega) (fun g hg => ?_) k5
          rcases List.mem_append.mp hg with q | q
          · exact hlt2 g q
          · rw [List.mem_singleton.mp q]; exact h17
  refine g_iconst (q0 := 1) rfl dX10_put_0 (k := ?_)
  refine g_istore_n (q0 := 2) (j := 3) (lv2 := [_, _, _, _, _]) rfl dX10_put_1 (by decide) rfl rfl ?_
  exact lp fs [] 0 rfl rfl (fun f hf => by cases hf) hT
-- what is kept when some files go
theorem tFil_cons {p : gF → Bool} {f : gF} {r : List gF} : (f :: r).filter p = if p f then f :: r.filter p else r.filter p := by
  simp [List.filter_cons]
theorem sp_X10_removeFile {sh : gS} {M : gM} {t w : Int} {n : Nat} {fs : List gF} (hOK : gOK sh M) (hT : tOk sh M t n fs) (hw : 0 ≤ w ∧ w < 1073741824) :
    gC (gr 0 0) yX10_removeFile cX10_removeFile 4 none [(4, t), (0, w)] sh M (gPm sh (fun r M1 => r = none ∧ tPost sh M t n (fs.filter (fun f => decide (f.1 ≠ w))) M1)) := by
  have hc := tOk_c hT
  obtain ⟨hsh, hn, hT, hl⟩ := hT
  obtain ⟨hs0, hs1, hs2, hlt⟩ := id hsh
  generalize hp : (fun f : gF => decide (f.1 ≠ w)) = p
  refine gC_ofA (lv := [_, _, _, _]) (by decide +kernel) (Nat.le_of_ble_eq_true rfl) rfl (fun hMw hav => ?_)
  have lp : ∀ (suf don : List gF) (i q : Int) (M1 : gM), tSuf M t i suf → don ++ suf.filter p = fs.filter p → q = (don.length : Int) → q ≤ i → gOK sh M1 → M1 t = M t → (∀ b : Int, b ≠ t → b ≠ t + 1 → b ≠ t + 2 → M1 b = M b) →
      (∀ (j : Nat) (f : gF), don[j]? = some f → M1 (t + 1) (j : Int) = f.1 ∧ M1 (t + 2) (j : Int) = f.2 ∧ 0 ≤ f.1 ∧ f.1 < 1073741824) → (∀ x : Int, i ≤ x → M1 (t + 1) x = M (t + 1) x ∧ M1 (t + 2) x = M (t + 2) x) →
      gA (gr 0 0) yX10_removeFile cX10_removeFile 4 none (gPm sh (fun r M1 => r = none ∧ tPost sh M t n (fs.filter p) M1)) (0, 0) 4 [(4, t), (0, w), (0, q), (0, i)] [] sh M1 := by
    intro suf
    induction suf with
    | nil =>
      intro don i q M1 hS hd hq hqi hO e0 e1 e2 e3
      have h0 := tSuf_nil hS
      rw [← e0] at h0
      refine g_iload_n (q0 := 5) (j := 3) rfl dX10_removeFile_4 rfl ?_
      refine g_aload_n (q0 := 6) (j := 0) rfl dX10_removeFile_5 rfl ?_
      refine g_getf (q0 := 9) (t := 0) (fi := 2) rfl rfl ff_X10_23 dX10_removeFile_6 rfl (by assumption) ?_
      refine g_icmp_ge (q0 := 12) (tgt := 55) rfl dX10_removeFile_9 (by decide) (fun h9 => ?_) (fun h9 => ?_)
      · refine g_aload_n (q0 := 56) (j := 0) rfl dX10_removeFile_55 rfl ?_
        refine g_iload_n (q0 := 57) (j := 2) rfl dX10_removeFile_56 rfl ?_
        refine g_put (q0 := 60) (t := 0) (fi := 2) rfl rfl ff_X10_23 dX10_removeFile_57 rfl (by assumption) rfl (fun _ => ⟨rfl, rfl⟩) ?_
        refine g_return dX10_removeFile_60 rfl ⟨Nat.zero_le _, Nat.zero_le _⟩ ?_
        have hd2 : fs.filter p = don := by rw [← hd]; simp
        have hlen : don.length ≤ n := by rw [← hd2]; exact Nat.le_trans (List.length_filter_le _ _) hl
        refine ⟨rfl, rfl, ⟨hsh, hn, ?_, by rw [hd2]; exact hlen⟩, gOK_o (f := 2) hO hs0 rfl rfl, fun b b0 b1 b2 => by rw [gU_cell _ _ _ b0]; exact e1 b b0 b1 b2⟩
        rw [hd2]
        refine tSuf_0 (by rw [gU_same, hq]) (fun j f hf => ?_)
        rw [gU_cell _ _ _ (by omega), gU_cell _ _ _ (by omega)]
        exact e2 j f hf
      · omega
    | cons f r ih =>
      intro don i q M1 hS hd hq hqi hO e0 e1 e2 e3
      obtain ⟨k0, k1, k2, k3, k4, k5⟩ := tSuf_cons hS
      rw [← e0] at k1
      obtain ⟨x1, x2⟩ := e3 i (Int.le_refl i)
      rw [tFil_cons] at hd
      have hpf : p f = decide (f.1 ≠ w) := by rw [← hp]
      have hct : M1 t 2 = M t 2 := by rw [e0]
      refine g_iload_n (q0 := 5) (j := 3) rfl dX10_removeFile_4 rfl ?_
      refine g_aload_n (q0 := 6) (j := 0) rfl dX10_removeFile_5 rfl ?_
      refine g_getf (q0 := 9) (t := 0) (fi := 2) rfl rfl ff_X10_23 dX10_removeFile_6 rfl (by assumption) ?_
      refine g_icmp_ge (q0 := 12) (tgt := 55) rfl dX10_removeFile_9 (by decide) (fun h9 => ?_) (fun h9 => ?_)
      · omega
      · refine g_aload_n (q0 := 13) (j := 0) rfl dX10_removeFile_12 rfl ?_
        refine g_getp (q0 := 16) (b := t + 1) rfl ff_X10_9 dX10_removeFile_13 rfl hO (by omega) (by assumption) rfl rfl ?_
        refine g_iload_n (q0 := 17) (j := 3) rfl dX10_removeFile_16 rfl ?_
        refine g_iald (q0 := 18) rfl dX10_removeFile_17 (by assumption) (by omega) (by omega) ?_
        refine g_iload_n (q0 := 19) (j := 1) rfl dX10_removeFile_18 rfl ?_
        refine g_icmp_eq (q0 := 22) (tgt := 49) rfl dX10_removeFile_19 (by decide) (fun h19 => ?_) (fun h19 => ?_)
        · rw [x1, k2] at h19
          refine g_iinc (q0 := 52) (lv2 := [_, _, _, _]) rfl dX10_removeFile_49 rfl (by decide) rfl rfl (by omega) (by omega) ?_
          refine g_goto (tgt := 4) dX10_removeFile_52 (by decide) ?_
          rw [hpf] at hd
          rw [show decide (f.1 ≠ w) = false from by simp [h19]] at hd
          rw [if_neg (by decide)] at hd
          exact ih don (i + 1) q M1 k5 hd hq (by omega) hO e0 e1 e2 (fun x hx => e3 x (by omega))
        · rw [x1, k2] at h19
          refine g_aload_n (q0 := 23) (j := 0) rfl dX10_removeFile_22 rfl ?_
          refine g_getp (q0 := 26) (b := t + 1) rfl ff_X10_9 dX10_removeFile_23 rfl hO (by omega) (by assumption) rfl rfl ?_
          refine g_iload_n (q0 := 27) (j := 2) rfl dX10_removeFile_26 rfl ?_
          refine g_aload_n (q0 := 28) (j := 0) rfl dX10_removeFile_27 rfl ?_
          refine g_getp (q0 := 31) (b := t + 1) rfl ff_X10_9 dX10_removeFile_28 rfl hO (by omega) (by assumption) rfl rfl ?_
          refine g_iload_n (q0 := 32) (j := 3) rfl dX10_removeFile_31 rfl ?_
          refine g_iald (q0 := 33) rfl dX10_removeFile_32 (by assumption) (by omega) (by omega) ?_
          refine g_iast (q0 := 34) rfl dX10_removeFile_33 (by assumption) (by omega) (by omega) ?_
          refine g_aload_n (q0 := 35) (j := 0) rfl dX10_removeFile_34 rfl ?_
          refine g_getp (q0 := 38) (b := t + 2) rfl ff_X10_15 dX10_removeFile_35 rfl (gOK_i hO (by assumption)) (by omega) (by assumption) rfl rfl ?_
          refine g_iload_n (q0 := 39) (j := 2) rfl dX10_removeFile_38 rfl ?_
          refine g_aload_n (q0 := 40) (j := 0) rfl dX10_removeFile_39 rfl ?_
          refine g_getp (q0 := 43) (b := t + 2) rfl ff_X10_15 dX10_removeFile_40 rfl (gOK_i hO (by assumption)) (by omega) (by assumption) rfl rfl ?_
          refine g_iload_n (q0 := 44) (j := 3) rfl dX10_removeFile_43 rfl ?_
          refine g_iald (q0 := 45) rfl dX10_removeFile_44 (by assumption) (by omega) (by omega) ?_
          refine g_iast (q0 := 46) rfl dX10_removeFile_45 (by assumption) (by omega) (by omega) ?_
          refine g_iinc (q0 := 49) (lv2 := [_, _, _, _]) rfl dX10_removeFile_46 rfl (by decide) rfl rfl (by omega) (by omega) ?_
          refine g_iinc (q0 := 52) (lv2 := [_, _, _, _]) rfl dX10_removeFile_49 rfl (by decide) rfl rfl (by omega) (by omega) ?_
          refine g_goto (tgt := 4) dX10_removeFile_52 (by decide) ?_
          rw [hpf] at hd
          rw [show decide (f.1 ≠ w) = true from by simp [h19]] at hd
          rw [if_pos rfl] at hd
          have n1 : ¬ t = t + 1 := by omega
          have n2 : ¬ t = t + 2 := by omega
          have n3 : ¬ t + 1 = t + 2 := by omega
          have n4 : ¬ t + 2 = t + 1 := by omega
          refine ih (don ++ [f]) (i + 1) (q + 1) _ k5 (by rw [← hd]; simp) (by simp; omega) (by omega) (gOK_i (gOK_i hO hs1) hs2) (by rw [gU_cell _ _ _ (by omega), gU_cell _ _ _ (by omega)]; exact e0) (fun b b0 b1 b2 => by rw [gU_cell _ _ _ b2, gU_cell _ _ _ b1]; exact e1 b b0 b1 b2) (fun j g hg => ?_) (fun x hx => ?_)
          · simp only [gU, n3, n4, false_and, true_and, if_false]
            by_cases hj : (j : Int) = q
            · rw [if_pos hj, if_pos hj, x1, x2, k2, k3]
              rw [List.getElem?_append_right (by omega), show j - don.length = 0 by omega] at hg
              cases hg
              exact ⟨rfl, rfl, k4.1, k4.2⟩
            · rw [if_neg hj, if_neg hj]
              rcases Nat.lt_or_ge j don.length with z | z
              · rw [List.getElem?_append_left z] at hg
                exact e2 j g hg
              · rw [List.getElem?_append_right z] at hg
                have := (List.getElem?_eq_some_iff.mp hg).1
                simp at this
                omega
          · simp only [gU, n3, n4, false_and, true_and, if_false]
            rw [if_neg (by omega), if_neg (by omega)]
            exact e3 x (by omega)
  refine g_iconst (q0 := 1) rfl dX10_removeFile_0 (k := ?_)
  refine g_istore_n (q0 := 2) (j := 2) (lv2 := [_, _, _, _]) rfl dX10_removeFile_1 (by decide) rfl rfl ?_
  refine g_iconst (q0 := 3) rfl dX10_removeFile_2 (k := ?_)
  refine g_istore_n (q0 := 4) (j := 3) (lv2 := [_, _, _, _]) rfl dX10_removeFile_3 (by decide) rfl rfl ?_
  exact lp fs [] 0 0 M hT rfl rfl (Int.le_refl 0) hOK rfl (fun b _ _ _ => rfl) (fun j f hf => by simp at hf) (fun x _ => ⟨rfl, rfl⟩)
theorem sp_X10_removeAt {sh : gS} {M : gM} {t w : Int} {n : Nat} {fs : List gF} (hOK : gOK sh M) (hT : tOk sh M t n fs) (hw : 0 ≤ w ∧ w < 1073741824) :
    gC (gr 1 23) yX10_removeAt cX10_removeAt 4 none [(4, t), (0, w)] sh M (gPm sh (fun r M1 => r = none ∧ tPost sh M t n (fs.filter (fun f => !pCov w f.1)) M1)) := by
  have hc := tOk_c hT
  obtain ⟨hsh, hn, hT, hl⟩ := hT
  obtain ⟨hs0, hs1, hs2, hlt⟩ := id hsh
  generalize hp : (fun f : gF => !pCov w f.1) = p
  refine gC_ofA (lv := [_, _, _, _]) (by decide +kernel) (Nat.le_of_ble_eq_true rfl) rfl (fun hMw hav => ?_)
  have lp : ∀ (suf don : List gF) (i q : Int) (M1 : gM), tSuf M t i suf → don ++ suf.filter p = fs.filter p → q = (don.length : Int) → q ≤ i → gOK sh M1 → M1 t = M t → (∀ b : Int, b ≠ t → b ≠ t + 1 → b ≠ t + 2 → M1 b = M b) →
      (∀ (j : Nat) (f : gF), don[j]? = some f → M1 (t + 1) (j : Int) = f.1 ∧ M1 (t + 2) (j : Int) = f.2 ∧ 0 ≤ f.1 ∧ f.1 < 1073741824) → (∀ x : Int, i ≤ x → M1 (t + 1) x = M (t + 1) x ∧ M1 (t + 2) x = M (t + 2) x) →
      gA (gr 1 23) yX10_removeAt cX10_removeAt 4 none (gPm sh (fun r M1 => r = none ∧ tPost sh M t n (fs.filter p) M1)) (0, 0) 4 [(4, t), (0, w), (0, q), (0, i)] [] sh M1 := by
    intro suf
    induction suf with
    | nil =>
      intro don i q M1 hS hd hq hqi hO e0 e1 e2 e3
      have h0 := tSuf_nil hS
      rw [← e0] at h0
      refine g_iload_n (q0 := 5) (j := 3) rfl dX10_removeAt_4 rfl ?_
      refine g_aload_n (q0 := 6) (j := 0) rfl dX10_removeAt_5 rfl ?_
      refine g_getf (q0 := 9) (t := 0) (fi := 2) rfl rfl ff_X10_23 dX10_removeAt_6 rfl (by assumption) ?_
      refine g_icmp_ge (q0 := 12) (tgt := 58) rfl dX10_removeAt_9 (by decide) (fun h9 => ?_) (fun h9 => ?_)
      · refine g_aload_n (q0 := 59) (j := 0) rfl dX10_removeAt_58 rfl ?_
        refine g_iload_n (q0 := 60) (j := 2) rfl dX10_removeAt_59 rfl ?_
        refine g_put (q0 := 63) (t := 0) (fi := 2) rfl rfl ff_X10_23 dX10_removeAt_60 rfl (by assumption) rfl (fun _ => ⟨rfl, rfl⟩) ?_
        refine g_return dX10_removeAt_63 rfl ⟨Nat.zero_le _, Nat.zero_le _⟩ ?_
        have hd2 : fs.filter p = don := by rw [← hd]; simp
        have hlen : don.length ≤ n := by rw [← hd2]; exact Nat.le_trans (List.length_filter_le _ _) hl
        refine ⟨rfl, rfl, ⟨hsh, hn, ?_, by rw [hd2]; exact hlen⟩, gOK_o (f := 2) hO hs0 rfl rfl, fun b b0 b1 b2 => by rw [gU_cell _ _ _ b0]; exact e1 b b0 b1 b2⟩
        rw [hd2]
        refine tSuf_0 (by rw [gU_same, hq]) (fun j f hf => ?_)
        rw [gU_cell _ _ _ (by omega), gU_cell _ _ _ (by omega)]
        exact e2 j f hf
      · omega
    | cons f r ih =>
      intro don i q M1 hS hd hq hqi hO e0 e1 e2 e3
      obtain ⟨k0, k1, k2, k3, k4, k5⟩ := tSuf_cons hS
      rw [← e0] at k1
      obtain ⟨x1, x2⟩ := e3 i (Int.le_refl i)
      rw [tFil_cons] at hd
      have hpf : p f = !pCov w f.1 := by rw [← hp]
      have hct : M1 t 2 = M t 2 := by rw [e0]
      refine g_iload_n (q0 := 5) (j := 3) rfl dX10_removeAt_4 rfl ?_
      refine g_aload_n (q0 := 6) (j := 0) rfl dX10_removeAt_5 rfl ?_
      refine g_getf (q0 := 9) (t := 0) (fi := 2) rfl rfl ff_X10_23 dX10_removeAt_6 rfl (by assumption) ?_
      refine g_icmp_ge (q0 := 12) (tgt := 58) rfl dX10_removeAt_9 (by decide) (fun h9 => ?_) (fun h9 => ?_)
      · omega
      · refine g_iload_n (q0 := 13) (j := 1) rfl dX10_removeAt_12 rfl ?_
        refine g_aload_n (q0 := 14) (j := 0) rfl dX10_removeAt_13 rfl ?_
        refine g_getp (q0 := 17) (b := t + 1) rfl ff_X10_9 dX10_removeAt_14 rfl hO (by omega) (by assumption) rfl rfl ?_
        refine g_iload_n (q0 := 18) (j := 3) rfl dX10_removeAt_17 rfl ?_
        refine g_iald (q0 := 19) rfl dX10_removeAt_18 (by assumption) (by omega) (by omega) ?_
        rw [x1, k2]
        refine g_callSp (as := [_, _]) (rest := []) mt_X10_covers ms_X10_covers ml_X10_42 dX10_removeAt_19 (q0 := 22) rfl rfl (sp_X10_covers hw k4) rfl ⟨by decide, by decide⟩ (Nat.le_of_ble_eq_true rfl) ⟨Nat.zero_le _, Nat.zero_le _⟩ (fun hwc => ?_)
        refine g_if_ne (q0 := 25) (tgt := 52) rfl dX10_removeAt_22 (by decide) (fun h22 => ?_) (fun h22 => ?_)
        · have hb := bI_t h22
          refine g_iinc (q0 := 55) (lv2 := [_, _, _, _]) rfl dX10_removeAt_52 rfl (by decide) rfl rfl (by omega) (by omega) ?_
          refine g_goto (tgt := 4) dX10_removeAt_55 (by decide) ?_
          rw [hpf] at hd
          rw [show (!pCov w f.1) = false from by simp [hb]] at hd
          rw [if_neg (by decide)] at hd
          exact ih don (i + 1) q M1 k5 hd hq (by omega) hO e0 e1 e2 (fun x hx => e3 x (by omega))
        · have hb := bI_f h22
          refine g_aload_n (q0 := 26) (j := 0) rfl dX10_removeAt_25 rfl ?_
          refine g_getp (q0 := 29) (b := t + 1) rfl ff_X10_9 dX10_removeAt_26 rfl hO (by omega) (by assumption) rfl rfl ?_
          refine g_iload_n (q0 := 30) (j := 2) rfl dX10_removeAt_29 rfl ?_
          refine g_aload_n (q0 := 31) (j := 0) rfl dX10_removeAt_30 rfl ?_
          refine g_getp (q0 := 34) (b := t + 1) rfl ff_X10_9 dX10_removeAt_31 rfl hO (by omega) (by assumption) rfl rfl ?_
          refine g_iload_n (q0 := 35) (j := 3) rfl dX10_removeAt_34 rfl ?_
          refine g_iald (q0 := 36) rfl dX10_removeAt_35 (by assumption) (by omega) (by omega) ?_
          refine g_iast (q0 := 37) rfl dX10_removeAt_36 (by assumption) (by omega) (by omega) ?_
          refine g_aload_n (q0 := 38) (j := 0) rfl dX10_removeAt_37 rfl ?_
          refine g_getp (q0 := 41) (b := t + 2) rfl ff_X10_15 dX10_removeAt_38 rfl (gOK_i hO (by assumption)) (by omega) (by assumption) rfl rfl ?_
          refine g_iload_n (q0 := 42) (j := 2) rfl dX10_removeAt_41 rfl ?_
          refine g_aload_n (q0 := 43) (j := 0) rfl dX10_removeAt_42 rfl ?_
          refine g_getp (q0 := 46) (b := t + 2) rfl ff_X10_15 dX10_removeAt_43 rfl (gOK_i hO (by assumption)) (by omega) (by assumption) rfl rfl ?_
          refine g_iload_n (q0 := 47) (j := 3) rfl dX10_removeAt_46 rfl ?_
          refine g_iald (q0 := 48) rfl dX10_removeAt_47 (by assumption) (by omega) (by omega) ?_
          refine g_iast (q0 := 49) rfl dX10_removeAt_48 (by assumption) (by omega) (by omega) ?_
          refine g_iinc (q0 := 52) (lv2 := [_, _, _, _]) rfl dX10_removeAt_49 rfl (by decide) rfl rfl (by omega) (by omega) ?_
          refine g_iinc (q0 := 55) (lv2 := [_, _, _, _]) rfl dX10_removeAt_52 rfl (by decide) rfl rfl (by omega) (by omega) ?_
          refine g_goto (tgt := 4) dX10_removeAt_55 (by decide) ?_
          rw [hpf] at hd
          rw [show (!pCov w f.1) = true from by simp [hb]] at hd
          rw [if_pos rfl] at hd
          have n1 : ¬ t = t + 1 := by omega
          have n2 : ¬ t = t + 2 := by omega
          have n3 : ¬ t + 1 = t + 2 := by omega
          have n4 : ¬ t + 2 = t + 1 := by omega
          refine ih (don ++ [f]) (i + 1) (q + 1) _ k5 (by rw [← hd]; simp) (by simp; omega) (by omega) (gOK_i (gOK_i hO hs1) hs2) (by rw [gU_cell _ _ _ (by omega), gU_cell _ _ _ (by omega)]; exact e0) (fun b b0 b1 b2 => by rw [gU_cell _ _ _ b2, gU_cell _ _ _ b1]; exact e1 b b0 b1 b2) (fun j g hg => ?_) (fun x hx => ?_)
          · simp only [gU, n3, n4, false_and, true_and, if_false]
            by_cases hj : (j : Int) = q
            · rw [if_pos hj, if_pos hj, x1, x2, k2, k3]
              rw [List.getElem?_append_right (by omega), show j - don.length = 0 by omega] at hg
              cases hg
              exact ⟨rfl, rfl, k4.1, k4.2⟩
            · rw [if_neg hj, if_neg hj]
              rcases Nat.lt_or_ge j don.length with z | z
              · rw [List.getElem?_append_left z] at hg
                exact e2 j g hg
              · rw [List.getElem?_append_right z] at hg
                have := (List.getElem?_eq_some_iff.mp hg).1
                simp at this
                omega
          · simp only [gU, n3, n4, false_and, true_and, if_false]
            rw [if_neg (by omega), if_neg (by omega)]
            exact e3 x (by omega)
  refine g_iconst (q0 := 1) rfl dX10_removeAt_0 (k := ?_)
  refine g_istore_n (q0 := 2) (j := 2) (lv2 := [_, _, _, _]) rfl dX10_removeAt_1 (by decide) rfl rfl ?_
  refine g_iconst (q0 := 3) rfl dX10_removeAt_2 (k := ?_)
  refine g_istore_n (q0 := 4) (j := 3) (lv2 := [_, _, _, _]) rfl dX10_removeAt_3 (by decide) rfl rfl ?_
  exact lp fs [] 0 0 M hT rfl rfl (Int.le_refl 0) hOK rfl (fun b _ _ _ => rfl) (fun j f hf => by simp at hf) (fun x _ => ⟨rfl, rfl⟩)
theorem sp_X10_copy {sh : gS} {M : gM} {t u : Int} {n m : Nat} {fs gs : List gF} (hOK : gOK sh M) (hT : tSh sh t n) (hn : n ≤ 32) (hU : tOk sh M u m gs) (hl : gs.length ≤ n) (htu : t ≠ u ∧ t ≠ u + 1 ∧ t ≠ u + 2 ∧ t + 1 ≠ u ∧ t + 2 ≠ u ∧ t + 1 ≠ u + 1 ∧ t + 1 ≠ u + 2 ∧ t + 2 ≠ u + 1 ∧ t + 2 ≠ u + 2) :
    gC (gr 1 68) yX10_copy cX10_copy 2 none [(4, t), (4, u)] sh M (gPm sh (fun r M1 => r = none ∧ tPost sh M t n gs M1)) := by
  have hc := tOk_c hU
  obtain ⟨⟨hu0, hu1, hu2, hult⟩, hm, hU, hul⟩ := hU
  obtain ⟨hs0, hs1, hs2, hlt⟩ := id hT
  refine gC_ofA (lv := [_, _]) (by decide +kernel) (Nat.le_of_ble_eq_true rfl) rfl (fun hMw hav => ?_)
  refine g_aload_n (q0 := 1) (j := 0) rfl dX10_copy_0 rfl ?_
  refine g_aload_n (q0 := 2) (j := 1) rfl dX10_copy_1 rfl ?_
  refine g_getf (q0 := 5) (t := 0) (fi := 2) rfl rfl ff_X10_23 dX10_copy_2 rfl (by assumption) ?_
  refine g_aload_n (q0 := 6) (j := 0) rfl dX10_copy_5 rfl ?_
  refine g_getp (q0 := 9) (b := t + 1) rfl ff_X10_9 dX10_copy_6 rfl hOK (by omega) (by assumption) rfl rfl ?_
  refine g_alen (q0 := 10) rfl dX10_copy_9 (by assumption) (by omega) ⟨_, rfl⟩ ?_
  refine g_mmin (q0 := 13) rfl ml_X10_27 ms_J9_min_7cf53 inic_Math mt_J9_min_7cf53.1 dX10_copy_10 (by decide) (Nat.le_of_ble_eq_true rfl) ⟨Nat.zero_le _, Nat.zero_le _⟩ ?_
  rw [if_neg (by omega)]
  refine g_put (q0 := 16) (t := 0) (fi := 2) rfl rfl ff_X10_23 dX10_copy_13 rfl (by assumption) rfl (fun _ => ⟨rfl, rfl⟩) ?_
  refine g_aload_n (q0 := 17) (j := 1) rfl dX10_copy_16 rfl ?_
  refine g_getp (q0 := 20) (b := u + 1) rfl ff_X10_9 dX10_copy_17 rfl (gOK_o hOK (by assumption) (f := 2) rfl rfl) (by omega) (by assumption) rfl rfl ?_
  refine g_iconst (q0 := 21) rfl dX10_copy_20 (k := ?_)
  refine g_aload_n (q0 := 22) (j := 0) rfl dX10_copy_21 rfl ?_
  refine g_getp (q0 := 25) (b := t + 1) rfl ff_X10_9 dX10_copy_22 rfl (gOK_o hOK (by assumption) (f := 2) rfl rfl) (by omega) (by assumption) rfl rfl ?_
  refine g_iconst (q0 := 26) rfl dX10_copy_25 (k := ?_)
  refine g_aload_n (q0 := 27) (j := 0) rfl dX10_copy_26 rfl ?_
  refine g_getf (q0 := 30) (t := 0) (fi := 2) rfl rfl ff_X10_23 dX10_copy_27 rfl (by assumption) ?_
  rw [gU_same]
  refine g_copy (q0 := 33) rfl (Or.inl rfl) ml_X10_33 nat_acopy sta_acopy inic_System dX10_copy_30 (by assumption) (by assumption) (by omega) (by omega) (by omega) (by omega) (by omega) (fun h => by cases h) (by decide) (Nat.le_of_ble_eq_true rfl) ?_
  refine g_aload_n (q0 := 34) (j := 1) rfl dX10_copy_33 rfl ?_
  refine g_getp (q0 := 37) (b := u + 2) rfl ff_X10_15 dX10_copy_34 rfl (gOK_cpy (gOK_o hOK (by assumption) (f := 2) rfl rfl) (by assumption) (Or.inl rfl)) (by omega) (by assumption) rfl rfl ?_
  refine g_iconst (q0 := 38) rfl dX10_copy_37 (k := ?_)
  refine g_aload_n (q0 := 39) (j := 0) rfl dX10_copy_38 rfl ?_
  refine g_getp (q0 := 42) (b := t + 2) rfl ff_X10_15 dX10_copy_39 rfl (gOK_cpy (gOK_o hOK (by assumption) (f := 2) rfl rfl) (by assumption) (Or.inl rfl)) (by omega) (by assumption) rfl rfl ?_
  refine g_iconst (q0 := 43) rfl dX10_copy_42 (k := ?_)
  refine g_aload_n (q0 := 44) (j := 0) rfl dX10_copy_43 rfl ?_
  refine g_getf (q0 := 47) (t := 0) (fi := 2) rfl rfl ff_X10_23 dX10_copy_44 rfl (by assumption) ?_
  rw [show gCpy (gU M t 2 (M u 2)) (u + 1) 0 (t + 1) 0 (M u 2) t 2 = M u 2 from by
    have n1 : ¬ t = t + 1 := by omega
    simp only [gCpy, n1, false_and, if_false, gU_same]]
  refine g_copy (q0 := 50) rfl (Or.inl rfl) ml_X10_33 nat_acopy sta_acopy inic_System dX10_copy_47 (by assumption) (by assumption) (by omega) (by omega) (by omega) (by omega) (by omega) (fun h => by cases h) (by decide) (Nat.le_of_ble_eq_true rfl) ?_
  refine g_return dX10_copy_50 rfl ⟨Nat.zero_le _, Nat.zero_le _⟩ ?_
  refine ⟨rfl, rfl, ⟨hT, hn, ?_, hl⟩, (gOK_cpy (gOK_cpy (gOK_o (f := 2) hOK hs0 rfl rfl) hs1 (Or.inl rfl)) hs2 (Or.inl rfl)), fun b b0 b1 b2 => ?_⟩
  · have n1 : ¬ t = t + 1 := by omega
    have n2 : ¬ t = t + 2 := by omega
    have n3 : ¬ t + 1 = t + 2 := by omega
    have n5 : ¬ u + 1 = t := by omega
    have n6 : ¬ u + 2 = t := by omega
    have n7 : ¬ u + 2 = t + 1 := by omega
    refine tSuf_0 ?_ (fun j f hf => ?_)
    · simp only [gCpy, n1, n2, false_and, if_false, gU_same]
      omega
    · have hj := (List.getElem?_eq_some_iff.mp hf).1
      have h9 := tSuf_e hU hf
      simp only [gCpy, n3, false_and, true_and, if_false]
      rw [if_pos (by omega), if_pos (by omega)]
      simp only [n7, false_and, if_false]
      rw [gU_cell _ _ _ n5, gU_cell _ _ _ n6]
      simp only [Int.zero_add, Int.sub_zero]
      exact h9
  · funext x
    simp only [gCpy, b1, b2, false_and, if_false]
    rw [gU_cell _ _ _ b0]
def tTakeAll : List gF → List gF → Bool × List gF
  | [], fs => (true, fs)
  | f :: r, fs => if tCont f.1 fs ≠ 0 ∧ tCont f.1 fs ≠ f.2 then (false, fs) else tTakeAll r (tPut f.1 f.2 fs)
theorem sp_X10_takeAll {sh : gS} {M : gM} {t u : Int} {n m : Nat} {fs gs : List gF} (hOK : gOK sh M) (hT : tOk sh M t n fs) (hU : tOk sh M u m gs) (hl : fs.length + gs.length ≤ n) (htu : t ≠ u ∧ t ≠ u + 1 ∧ t ≠ u + 2 ∧ t + 1 ≠ u ∧ t + 2 ≠ u ∧ t + 1 ≠ u + 1 ∧ t + 1 ≠ u + 2 ∧ t + 2 ≠ u + 1 ∧ t + 2 ≠ u + 2) :
    gC (gr 2 44) yX10_takeAll cX10_takeAll 4 (some (.boolean)) [(4, t), (4, u)] sh M (gPm sh (fun r M1 => r = some (0, bI (tTakeAll gs fs).1) ∧ tPost sh M t n (tTakeAll gs fs).2 M1)) := by
  have hcu := tOk_c hU
  have hsh := hT.1
  obtain ⟨⟨hu0, hu1, hu2, hult⟩, hm, hU, hul⟩ := hU
  obtain ⟨hs0, hs1, hs2, hlt⟩ := id hsh
  generalize hres : tTakeAll gs fs = res
  refine gC_ofA (lv := [_, _, _, _]) (by decide +kernel) (Nat.le_of_ble_eq_true rfl) rfl (fun hMw hav => ?_)
  have lp : ∀ (suf cur : List gF) (i : Int) (z : gV) (M1 : gM), tSuf M u i suf → tOk sh M1 t n cur → cur.length + suf.length ≤ n → gOK sh M1 → (∀ b : Int, b ≠ t → b ≠ t + 1 → b ≠ t + 2 → M1 b = M b) → gw z → tTakeAll suf cur = res →
      gA (gr 2 44) yX10_takeAll cX10_takeAll 4 (some (.boolean)) (gPm sh (fun r M1 => r = some (0, bI res.1) ∧ tPost sh M t n res.2 M1)) (0, 0) 2 [(4, t), (4, u), (0, i), z] [] sh M1 := by
    intro suf
    induction suf with
    | nil =>
      intro cur i z M1 hS hC hln hO e1 hz hv
      have h0 := tSuf_nil hS
      have ec : M1 u = M u := e1 u (by omega) (by omega) (by omega)
      rw [← ec] at h0
      refine g_iload_n (q0 := 3) (j := 2) rfl dX10_takeAll_2 rfl ?_
      refine g_aload_n (q0 := 4) (j := 1) rfl dX10_takeAll_3 rfl ?_
      refine g_getf (q0 := 7) (t := 0) (fi := 2) rfl rfl ff_X10_23 dX10_takeAll_4 rfl (by assumption) ?_
      refine g_icmp_ge (q0 := 10) (tgt := 59) rfl dX10_takeAll_7 (by decide) (fun h7 => ?_) (fun h7 => ?_)
      · refine g_iconst (q0 := 60) rfl dX10_takeAll_59 (k := ?_)
        refine g_zreturn dX10_takeAll_60 rfl (by first | rfl | exact gnz (by omega)) ⟨Nat.zero_le _, Nat.zero_le _⟩ ?_
        rw [← hv]
        exact ⟨rfl, rfl, hC, hO, e1⟩
      · omega
    | cons f r ih =>
      intro cur i z M1 hS hC hln hO e1 hz hv
      obtain ⟨k0, k1, k2, k3, k4, k5⟩ := tSuf_cons hS
      have ec : M1 u = M u := e1 u (by omega) (by omega) (by omega)
      have ep : M1 (u + 1) = M (u + 1) := e1 (u + 1) (by omega) (by omega) (by omega)
      have eq : M1 (u + 2) = M (u + 2) := e1 (u + 2) (by omega) (by omega) (by omega)
      have hcc : M1 u 2 = M u 2 := by rw [ec]
      rw [← ec] at k1
      rw [← ep] at k2
      rw [← eq] at k3
      rw [tTakeAll] at hv
      simp only [List.length_cons] at hln
      have hpl := tPut_len f.1 f.2 cur
      refine g_iload_n (q0 := 3) (j := 2) rfl dX10_takeAll_2 rfl ?_
      refine g_aload_n (q0 := 4) (j := 1) rfl dX10_takeAll_3 rfl ?_
      refine g_getf (q0 := 7) (t := 0) (fi := 2) rfl rfl ff_X10_23 dX10_takeAll_4 rfl (by assumption) ?_
      refine g_icmp_ge (q0 := 10) (tgt := 59) rfl dX10_takeAll_7 (by decide) (fun h7 => ?_) (fun h7 => ?_)
      · omega
      · refine g_aload_n (q0 := 11) (j := 0) rfl dX10_takeAll_10 rfl ?_
        refine g_aload_n (q0 := 12) (j := 1) rfl dX10_takeAll_11 rfl ?_
        refine g_getp (q0 := 15) (b := u + 1) rfl ff_X10_9 dX10_takeAll_12 rfl hO (by omega) (by assumption) rfl rfl ?_
        refine g_iload_n (q0 := 16) (j := 2) rfl dX10_takeAll_15 rfl ?_
        refine g_iald (q0 := 17) rfl dX10_takeAll_16 (by assumption) (by omega) (by omega) ?_
        rw [k2]
        refine g_callVp (as := [_]) (rest := []) mt_X10_contentAt mi_X10_contentAt se_X10_contentAt ml_X10_46 dX10_takeAll_17 (q0 := 20) rfl rfl (by assumption) rfl rfl (sp_X10_contentAt hO hC) rfl ⟨by decide, by decide⟩ (Nat.le_of_ble_eq_true rfl) ⟨Nat.zero_le _, Nat.zero_le _⟩ (fun hwc => ?_)
        refine g_istore_n (q0 := 21) (j := 3) (lv2 := [_, _, _, _]) rfl dX10_takeAll_20 (by decide) rfl rfl ?_
        refine g_iload_n (q0 := 22) (j := 3) rfl dX10_takeAll_21 rfl ?_
        refine g_if_eq (q0 := 25) (tgt := 37) rfl dX10_takeAll_22 (by decide) (fun h22 => ?_) (fun h22 => ?_)
        · rw [if_neg (fun q => q.1 h22)] at hv
          refine g_aload_n (q0 := 38) (j := 0) rfl dX10_takeAll_37 rfl ?_
          refine g_aload_n (q0 := 39) (j := 1) rfl dX10_takeAll_38 rfl ?_
          refine g_getp (q0 := 42) (b := u + 1) rfl ff_X10_9 dX10_takeAll_39 rfl hO (by omega) (by assumption) rfl rfl ?_
          refine g_iload_n (q0 := 43) (j := 2) rfl dX10_takeAll_42 rfl ?_
          refine g_iald (q0 := 44) rfl dX10_takeAll_43 (by assumption) (by omega) (by omega) ?_
          refine g_aload_n (q0 := 45) (j := 1) rfl dX10_takeAll_44 rfl ?_
          refine g_getp (q0 := 48) (b := u + 2) rfl ff_X10_15 dX10_takeAll_45 rfl hO (by omega) (by assumption) rfl rfl ?_
          refine g_iload_n (q0 := 49) (j := 2) rfl dX10_takeAll_48 rfl ?_
          refine g_iald (q0 := 50) rfl dX10_takeAll_49 (by assumption) (by omega) (by omega) ?_
          rw [k2, k3]
          refine g_callVm (as := [_, _]) (rest := []) mt_X10_put mi_X10_put se_X10_put ml_X10_49 dX10_takeAll_50 (q0 := 53) rfl rfl (by assumption) rfl rfl (sp_X10_put hO hC k4 (by omega)) rfl ⟨by decide, by decide⟩ (Nat.le_of_ble_eq_true rfl) ⟨Nat.zero_le _, Nat.zero_le _⟩ (fun r1 M1 hP1 hw1 hMw1 => ?_)
          obtain ⟨rfl, p1, p2, p3⟩ := hP1
          refine g_iinc (q0 := 56) (lv2 := [_, _, _, _]) rfl dX10_takeAll_53 rfl (by decide) rfl rfl (by omega) (by omega) ?_
          refine g_goto (tgt := 2) dX10_takeAll_56 (by decide) ?_
          exact ih _ (i + 1) _ _ k5 p1 (by omega) p2 (fun b b0 b1 b2 => by rw [p3 b b0 b1 b2]; exact e1 b b0 b1 b2) hwc hv
        · refine g_iload_n (q0 := 26) (j := 3) rfl dX10_takeAll_25 rfl ?_
          refine g_aload_n (q0 := 27) (j := 1) rfl dX10_takeAll_26 rfl ?_
          refine g_getp (q0 := 30) (b := u + 2) rfl ff_X10_15 dX10_takeAll_27 rfl hO (by omega) (by assumption) rfl rfl ?_
          refine g_iload_n (q0 := 31) (j := 2) rfl dX10_takeAll_30 rfl ?_
          refine g_iald (q0 := 32) rfl dX10_takeAll_31 (by assumption) (by omega) (by omega) ?_
          refine g_icmp_eq (q0 := 35) (tgt := 37) rfl dX10_takeAll_32 (by decide) (fun h32 => ?_) (fun h32 => ?_)
          · rw [k3] at h32
            rw [if_neg (fun q => q.2 h32)] at hv
            refine g_aload_n (q0 := 38) (j := 0) rfl dX10_takeAll_37 rfl ?_
            refine g_aload_n (q0 := 39) (j := 1) rfl dX10_takeAll_38 rfl ?_
            refine g_getp (q0 := 42) (b := u + 1) rfl ff_X10_9 dX10_takeAll_39 rfl hO (by omega) (by assumption) rfl rfl ?_
            refine g_iload_n (q0 := 43) (j := 2) rfl dX10_takeAll_42 rfl ?_
            refine g_iald (q0 := 44) rfl dX10_takeAll_43 (by assumption) (by omega) (by omega) ?_
            refine g_aload_n (q0 := 45) (j := 1) rfl dX10_takeAll_44 rfl ?_
            refine g_getp (q0 := 48) (b := u + 2) rfl ff_X10_15 dX10_takeAll_45 rfl hO (by omega) (by assumption) rfl rfl ?_
            refine g_iload_n (q0 := 49) (j := 2) rfl dX10_takeAll_48 rfl ?_
            refine g_iald (q0 := 50) rfl dX10_takeAll_49 (by assumption) (by omega) (by omega) ?_
            rw [k2, k3]
            refine g_callVm (as := [_, _]) (rest := []) mt_X10_put mi_X10_put se_X10_put ml_X10_49 dX10_takeAll_50 (q0 := 53) rfl rfl (by assumption) rfl rfl (sp_X10_put hO hC k4 (by omega)) rfl ⟨by decide, by decide⟩ (Nat.le_of_ble_eq_true rfl) ⟨Nat.zero_le _, Nat.zero_le _⟩ (fun r1 M1 hP1 hw1 hMw1 => ?_)
            obtain ⟨rfl, p1, p2, p3⟩ := hP1
            refine g_iinc (q0 := 56) (lv2 := [_, _, _, _]) rfl dX10_takeAll_53 rfl (by decide) rfl rfl (by omega) (by omega) ?_
            refine g_goto (tgt := 2) dX10_takeAll_56 (by decide) ?_
            exact ih _ (i + 1) _ _ k5 p1 (by omega) p2 (fun b b0 b1 b2 => by rw [p3 b b0 b1 b2]; exact e1 b b0 b1 b2) hwc hv
          · rw [k3] at h32
            rw [if_pos ⟨h22, h32⟩] at hv
            refine g_iconst (q0 := 36) rfl dX10_takeAll_35 (k := ?_)
            refine g_zreturn dX10_takeAll_36 rfl (by first | rfl | exact gnz (by omega)) ⟨Nat.zero_le _, Nat.zero_le _⟩ ?_
            rw [← hv]
            exact ⟨rfl, rfl, hC, hO, e1⟩
  refine g_iconst (q0 := 1) rfl dX10_takeAll_0 (k := ?_)
  refine g_istore_n (q0 := 2) (j := 2) (lv2 := [_, _, _, _]) rfl dX10_takeAll_1 (by decide) rfl rfl ?_
  exact lp gs fs 0 _ M hU hT hl hOK (fun b _ _ _ => rfl) trivial hres
