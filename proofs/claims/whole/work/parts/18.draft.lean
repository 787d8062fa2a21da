-- ==== a COMMIT in the making
theorem dX2_begin_0 : decode cX2_begin 0 = .ok (.aload_n 0, 1) := by decide +kernel
theorem dX2_begin_1 : decode cX2_begin 1 = .ok (.iconst 0, 1) := by decide +kernel
theorem dX2_begin_2 : decode cX2_begin 2 = .ok (.putfield 31, 3) := by decide +kernel
theorem dX2_begin_5 : decode cX2_begin 5 = .ok (.aload_n 0, 1) := by decide +kernel
theorem dX2_begin_6 : decode cX2_begin 6 = .ok (.getfield 20, 3) := by decide +kernel
theorem dX2_begin_9 : decode cX2_begin 9 = .ok (.iconst 0, 1) := by decide +kernel
theorem dX2_begin_10 : decode cX2_begin 10 = .ok (.putfield 35, 3) := by decide +kernel
theorem dX2_begin_13 : decode cX2_begin 13 = .ok (.aload_n 0, 1) := by decide +kernel
theorem dX2_begin_14 : decode cX2_begin 14 = .ok (.iconst 0, 1) := by decide +kernel
theorem dX2_begin_15 : decode cX2_begin 15 = .ok (.putfield 38, 3) := by decide +kernel
theorem dX2_begin_18 : decode cX2_begin 18 = .ok (.aload_n 0, 1) := by decide +kernel
theorem dX2_begin_19 : decode cX2_begin 19 = .ok (.iload_n 1, 1) := by decide +kernel
theorem dX2_begin_20 : decode cX2_begin 20 = .ok (.putfield 41, 3) := by decide +kernel
theorem dX2_begin_23 : decode cX2_begin 23 = .ok (.aload_n 0, 1) := by decide +kernel
theorem dX2_begin_24 : decode cX2_begin 24 = .ok (.iload_n 2, 1) := by decide +kernel
theorem dX2_begin_25 : decode cX2_begin 25 = .ok (.putfield 44, 3) := by decide +kernel
theorem dX2_begin_28 : decode cX2_begin 28 = .ok (.return_, 1) := by decide +kernel
theorem dX2_hasParent_0 : decode cX2_hasParent 0 = .ok (.iconst 0, 1) := by decide +kernel
theorem dX2_hasParent_1 : decode cX2_hasParent 1 = .ok (.istore_n 2, 1) := by decide +kernel
theorem dX2_hasParent_2 : decode cX2_hasParent 2 = .ok (.iload_n 2, 1) := by decide +kernel
theorem dX2_hasParent_3 : decode cX2_hasParent 3 = .ok (.aload_n 0, 1) := by decide +kernel
theorem dX2_hasParent_4 : decode cX2_hasParent 4 = .ok (.getfield 31, 3) := by decide +kernel
theorem dX2_hasParent_7 : decode cX2_hasParent 7 = .ok (.if_icmp .ge 21, 3) := by decide +kernel
theorem dX2_hasParent_10 : decode cX2_hasParent 10 = .ok (.aload_n 0, 1) := by decide +kernel
theorem dX2_hasParent_11 : decode cX2_hasParent 11 = .ok (.getfield 9, 3) := by decide +kernel
theorem dX2_hasParent_14 : decode cX2_hasParent 14 = .ok (.iload_n 2, 1) := by decide +kernel
theorem dX2_hasParent_15 : decode cX2_hasParent 15 = .ok (.iaload, 1) := by decide +kernel
theorem dX2_hasParent_16 : decode cX2_hasParent 16 = .ok (.iload_n 1, 1) := by decide +kernel
theorem dX2_hasParent_17 : decode cX2_hasParent 17 = .ok (.if_icmp .ne 5, 3) := by decide +kernel
theorem dX2_hasParent_20 : decode cX2_hasParent 20 = .ok (.iconst 1, 1) := by decide +kernel
theorem dX2_hasParent_21 : decode cX2_hasParent 21 = .ok (.ireturn, 1) := by decide +kernel
theorem dX2_hasParent_22 : decode cX2_hasParent 22 = .ok (.iinc 2 1, 3) := by decide +kernel
theorem dX2_hasParent_25 : decode cX2_hasParent 25 = .ok (.goto (-23), 3) := by decide +kernel
theorem dX2_hasParent_28 : decode cX2_hasParent 28 = .ok (.iconst 0, 1) := by decide +kernel
theorem dX2_hasParent_29 : decode cX2_hasParent 29 = .ok (.ireturn, 1) := by decide +kernel
theorem dX2_addParent_0 : decode cX2_addParent 0 = .ok (.aload_n 0, 1) := by decide +kernel
theorem dX2_addParent_1 : decode cX2_addParent 1 = .ok (.getfield 31, 3) := by decide +kernel
theorem dX2_addParent_4 : decode cX2_addParent 4 = .ok (.iconst 3, 1) := by decide +kernel
theorem dX2_addParent_5 : decode cX2_addParent 5 = .ok (.if_icmp .ge 23, 3) := by decide +kernel
theorem dX2_addParent_8 : decode cX2_addParent 8 = .ok (.aload_n 0, 1) := by decide +kernel
theorem dX2_addParent_9 : decode cX2_addParent 9 = .ok (.getfield 9, 3) := by decide +kernel
theorem dX2_addParent_12 : decode cX2_addParent 12 = .ok (.aload_n 0, 1) := by decide +kernel
theorem dX2_addParent_13 : decode cX2_addParent 13 = .ok (.getfield 31, 3) := by decide +kernel
theorem dX2_addParent_16 : decode cX2_addParent 16 = .ok (.iload_n 1, 1) := by decide +kernel
theorem dX2_addParent_17 : decode cX2_addParent 17 = .ok (.iastore, 1) := by decide +kernel
theorem dX2_addParent_18 : decode cX2_addParent 18 = .ok (.aload_n 0, 1) := by decide +kernel
theorem dX2_addParent_19 : decode cX2_addParent 19 = .ok (.dup, 1) := by decide +kernel
theorem dX2_addParent_20 : decode cX2_addParent 20 = .ok (.getfield 31, 3) := by decide +kernel
theorem dX2_addParent_23 : decode cX2_addParent 23 = .ok (.iconst 1, 1) := by decide +kernel
theorem dX2_addParent_24 : decode cX2_addParent 24 = .ok (.iadd, 1) := by decide +kernel
theorem dX2_addParent_25 : decode cX2_addParent 25 = .ok (.putfield 31, 3) := by decide +kernel
theorem dX2_addParent_28 : decode cX2_addParent 28 = .ok (.return_, 1) := by decide +kernel
theorem dX2_addToMessage_0 : decode cX2_addToMessage 0 = .ok (.aload_n 0, 1) := by decide +kernel
theorem dX2_addToMessage_1 : decode cX2_addToMessage 1 = .ok (.getfield 38, 3) := by decide +kernel
theorem dX2_addToMessage_4 : decode cX2_addToMessage 4 = .ok (.bipush 24, 2) := by decide +kernel
theorem dX2_addToMessage_6 : decode cX2_addToMessage 6 = .ok (.if_icmp .ge 24, 3) := by decide +kernel
theorem dX2_addToMessage_9 : decode cX2_addToMessage 9 = .ok (.aload_n 0, 1) := by decide +kernel
theorem dX2_addToMessage_10 : decode cX2_addToMessage 10 = .ok (.getfield 24, 3) := by decide +kernel
theorem dX2_addToMessage_13 : decode cX2_addToMessage 13 = .ok (.aload_n 0, 1) := by decide +kernel
theorem dX2_addToMessage_14 : decode cX2_addToMessage 14 = .ok (.getfield 38, 3) := by decide +kernel
theorem dX2_addToMessage_17 : decode cX2_addToMessage 17 = .ok (.iload_n 1, 1) := by decide +kernel
theorem dX2_addToMessage_18 : decode cX2_addToMessage 18 = .ok (.i2b, 1) := by decide +kernel
theorem dX2_addToMessage_19 : decode cX2_addToMessage 19 = .ok (.bastore, 1) := by decide +kernel
theorem dX2_addToMessage_20 : decode cX2_addToMessage 20 = .ok (.aload_n 0, 1) := by decide +kernel
theorem dX2_addToMessage_21 : decode cX2_addToMessage 21 = .ok (.dup, 1) := by decide +kernel
theorem dX2_addToMessage_22 : decode cX2_addToMessage 22 = .ok (.getfield 38, 3) := by decide +kernel
theorem dX2_addToMessage_25 : decode cX2_addToMessage 25 = .ok (.iconst 1, 1) := by decide +kernel
theorem dX2_addToMessage_26 : decode cX2_addToMessage 26 = .ok (.iadd, 1) := by decide +kernel
theorem dX2_addToMessage_27 : decode cX2_addToMessage 27 = .ok (.putfield 38, 3) := by decide +kernel
theorem dX2_addToMessage_30 : decode cX2_addToMessage 30 = .ok (.return_, 1) := by decide +kernel
theorem dX2_takeMessage_0 : decode cX2_takeMessage 0 = .ok (.aload_n 0, 1) := by decide +kernel
theorem dX2_takeMessage_1 : decode cX2_takeMessage 1 = .ok (.iconst 0, 1) := by decide +kernel
theorem dX2_takeMessage_2 : decode cX2_takeMessage 2 = .ok (.putfield 38, 3) := by decide +kernel
theorem dX2_takeMessage_5 : decode cX2_takeMessage 5 = .ok (.iconst 0, 1) := by decide +kernel
theorem dX2_takeMessage_6 : decode cX2_takeMessage 6 = .ok (.istore_n 3, 1) := by decide +kernel
theorem dX2_takeMessage_7 : decode cX2_takeMessage 7 = .ok (.iload_n 3, 1) := by decide +kernel
theorem dX2_takeMessage_8 : decode cX2_takeMessage 8 = .ok (.aload_n 1, 1) := by decide +kernel
theorem dX2_takeMessage_9 : decode cX2_takeMessage 9 = .ok (.getfield 47, 3) := by decide +kernel
theorem dX2_takeMessage_12 : decode cX2_takeMessage 12 = .ok (.iload_n 2, 1) := by decide +kernel
theorem dX2_takeMessage_13 : decode cX2_takeMessage 13 = .ok (.iaload, 1) := by decide +kernel
theorem dX2_takeMessage_14 : decode cX2_takeMessage 14 = .ok (.if_icmp .ge 19, 3) := by decide +kernel
theorem dX2_takeMessage_17 : decode cX2_takeMessage 17 = .ok (.aload_n 0, 1) := by decide +kernel
theorem dX2_takeMessage_18 : decode cX2_takeMessage 18 = .ok (.aload_n 1, 1) := by decide +kernel
theorem dX2_takeMessage_19 : decode cX2_takeMessage 19 = .ok (.iload_n 2, 1) := by decide +kernel
theorem dX2_takeMessage_20 : decode cX2_takeMessage 20 = .ok (.iload_n 3, 1) := by decide +kernel
theorem dX2_takeMessage_21 : decode cX2_takeMessage 21 = .ok (.invokevirtual 51, 3) := by decide +kernel
theorem dX2_takeMessage_24 : decode cX2_takeMessage 24 = .ok (.invokevirtual 55, 3) := by decide +kernel
theorem dX2_takeMessage_27 : decode cX2_takeMessage 27 = .ok (.iinc 3 1, 3) := by decide +kernel
theorem dX2_takeMessage_30 : decode cX2_takeMessage 30 = .ok (.goto (-23), 3) := by decide +kernel
theorem dX2_takeMessage_33 : decode cX2_takeMessage 33 = .ok (.return_, 1) := by decide +kernel
theorem dX2_putFile_0 : decode cX2_putFile 0 = .ok (.aload_n 0, 1) := by decide +kernel
theorem dX2_putFile_1 : decode cX2_putFile 1 = .ok (.getfield 20, 3) := by decide +kernel
theorem dX2_putFile_4 : decode cX2_putFile 4 = .ok (.iload_n 1, 1) := by decide +kernel
theorem dX2_putFile_5 : decode cX2_putFile 5 = .ok (.invokevirtual 145, 3) := by decide +kernel
theorem dX2_putFile_8 : decode cX2_putFile 8 = .ok (.ifCond .ne 14, 3) := by decide +kernel
theorem dX2_putFile_11 : decode cX2_putFile 11 = .ok (.aload_n 0, 1) := by decide +kernel
theorem dX2_putFile_12 : decode cX2_putFile 12 = .ok (.getfield 20, 3) := by decide +kernel
theorem dX2_putFile_15 : decode cX2_putFile 15 = .ok (.iload_n 1, 1) := by decide +kernel
theorem dX2_putFile_16 : decode cX2_putFile 16 = .ok (.invokevirtual 148, 3) := by decide +kernel
theorem dX2_putFile_19 : decode cX2_putFile 19 = .ok (.ifCond .eq 6, 3) := by decide +kernel
theorem dX2_putFile_22 : decode cX2_putFile 22 = .ok (.bipush 7, 2) := by decide +kernel
theorem dX2_putFile_24 : decode cX2_putFile 24 = .ok (.ireturn, 1) := by decide +kernel
theorem dX2_putFile_25 : decode cX2_putFile 25 = .ok (.aload_n 0, 1) := by decide +kernel
theorem dX2_putFile_26 : decode cX2_putFile 26 = .ok (.getfield 20, 3) := by decide +kernel
theorem dX2_putFile_29 : decode cX2_putFile 29 = .ok (.iload_n 1, 1) := by decide +kernel
theorem dX2_putFile_30 : decode cX2_putFile 30 = .ok (.invokevirtual 151, 3) := by decide +kernel
theorem dX2_putFile_33 : decode cX2_putFile 33 = .ok (.ifCond .ge 17, 3) := by decide +kernel
theorem dX2_putFile_36 : decode cX2_putFile 36 = .ok (.aload_n 0, 1) := by decide +kernel
theorem dX2_putFile_37 : decode cX2_putFile 37 = .ok (.getfield 20, 3) := by decide +kernel
theorem dX2_putFile_40 : decode cX2_putFile 40 = .ok (.getfield 35, 3) := by decide +kernel
theorem dX2_putFile_43 : decode cX2_putFile 43 = .ok (.bipush 16, 2) := by decide +kernel
theorem dX2_putFile_45 : decode cX2_putFile 45 = .ok (.if_icmp .lt 5, 3) := by decide +kernel
theorem dX2_putFile_48 : decode cX2_putFile 48 = .ok (.iconst 4, 1) := by decide +kernel
theorem dX2_putFile_49 : decode cX2_putFile 49 = .ok (.ireturn, 1) := by decide +kernel
theorem dX2_putFile_50 : decode cX2_putFile 50 = .ok (.aload_n 0, 1) := by decide +kernel
theorem dX2_putFile_51 : decode cX2_putFile 51 = .ok (.getfield 20, 3) := by decide +kernel
theorem dX2_putFile_54 : decode cX2_putFile 54 = .ok (.iload_n 1, 1) := by decide +kernel
theorem dX2_putFile_55 : decode cX2_putFile 55 = .ok (.iload_n 2, 1) := by decide +kernel
theorem dX2_putFile_56 : decode cX2_putFile 56 = .ok (.invokevirtual 154, 3) := by decide +kernel
theorem dX2_putFile_59 : decode cX2_putFile 59 = .ok (.iconst 0, 1) := by decide +kernel
theorem dX2_putFile_60 : decode cX2_putFile 60 = .ok (.ireturn, 1) := by decide +kernel
theorem dX2_fetch_0 : decode cX2_fetch 0 = .ok (.aload_n 1, 1) := by decide +kernel
theorem dX2_fetch_1 : decode cX2_fetch 1 = .ok (.iload_n 2, 1) := by decide +kernel
theorem dX2_fetch_2 : decode cX2_fetch 2 = .ok (.invokevirtual 136, 3) := by decide +kernel
theorem dX2_fetch_5 : decode cX2_fetch 5 = .ok (.istore_n 3, 1) := by decide +kernel
theorem dX2_fetch_6 : decode cX2_fetch 6 = .ok (.iload_n 3, 1) := by decide +kernel
theorem dX2_fetch_7 : decode cX2_fetch 7 = .ok (.ifCond .le 17, 3) := by decide +kernel
theorem dX2_fetch_10 : decode cX2_fetch 10 = .ok (.aload_n 0, 1) := by decide +kernel
theorem dX2_fetch_11 : decode cX2_fetch 11 = .ok (.getfield 20, 3) := by decide +kernel
theorem dX2_fetch_14 : decode cX2_fetch 14 = .ok (.iload_n 2, 1) := by decide +kernel
theorem dX2_fetch_15 : decode cX2_fetch 15 = .ok (.invokevirtual 148, 3) := by decide +kernel
theorem dX2_fetch_18 : decode cX2_fetch 18 = .ok (.ifCond .eq 6, 3) := by decide +kernel
theorem dX2_fetch_21 : decode cX2_fetch 21 = .ok (.bipush 7, 2) := by decide +kernel
theorem dX2_fetch_23 : decode cX2_fetch 23 = .ok (.ireturn, 1) := by decide +kernel
theorem dX2_fetch_24 : decode cX2_fetch 24 = .ok (.aload_n 0, 1) := by decide +kernel
theorem dX2_fetch_25 : decode cX2_fetch 25 = .ok (.getfield 20, 3) := by decide +kernel
theorem dX2_fetch_28 : decode cX2_fetch 28 = .ok (.getfield 35, 3) := by decide +kernel
theorem dX2_fetch_31 : decode cX2_fetch 31 = .ok (.aload_n 0, 1) := by decide +kernel
theorem dX2_fetch_32 : decode cX2_fetch 32 = .ok (.getfield 20, 3) := by decide +kernel
theorem dX2_fetch_35 : decode cX2_fetch 35 = .ok (.iload_n 2, 1) := by decide +kernel
theorem dX2_fetch_36 : decode cX2_fetch 36 = .ok (.invokevirtual 136, 3) := by decide +kernel
theorem dX2_fetch_39 : decode cX2_fetch 39 = .ok (.isub, 1) := by decide +kernel
theorem dX2_fetch_40 : decode cX2_fetch 40 = .ok (.iload_n 3, 1) := by decide +kernel
theorem dX2_fetch_41 : decode cX2_fetch 41 = .ok (.iadd, 1) := by decide +kernel
theorem dX2_fetch_42 : decode cX2_fetch 42 = .ok (.bipush 16, 2) := by decide +kernel
theorem dX2_fetch_44 : decode cX2_fetch 44 = .ok (.if_icmp .le 5, 3) := by decide +kernel
theorem dX2_fetch_47 : decode cX2_fetch 47 = .ok (.iconst 4, 1) := by decide +kernel
theorem dX2_fetch_48 : decode cX2_fetch 48 = .ok (.ireturn, 1) := by decide +kernel
theorem dX2_fetch_49 : decode cX2_fetch 49 = .ok (.aload_n 0, 1) := by decide +kernel
theorem dX2_fetch_50 : decode cX2_fetch 50 = .ok (.getfield 20, 3) := by decide +kernel
theorem dX2_fetch_53 : decode cX2_fetch 53 = .ok (.iload_n 2, 1) := by decide +kernel
theorem dX2_fetch_54 : decode cX2_fetch 54 = .ok (.invokevirtual 142, 3) := by decide +kernel
theorem dX2_fetch_57 : decode cX2_fetch 57 = .ok (.iconst 0, 1) := by decide +kernel
theorem dX2_fetch_58 : decode cX2_fetch 58 = .ok (.istore 4, 2) := by decide +kernel
theorem dX2_fetch_60 : decode cX2_fetch 60 = .ok (.iload 4, 2) := by decide +kernel
theorem dX2_fetch_62 : decode cX2_fetch 62 = .ok (.aload_n 1, 1) := by decide +kernel
theorem dX2_fetch_63 : decode cX2_fetch 63 = .ok (.getfield 35, 3) := by decide +kernel
theorem dX2_fetch_66 : decode cX2_fetch 66 = .ok (.if_icmp .ge 44, 3) := by decide +kernel
theorem dX2_fetch_69 : decode cX2_fetch 69 = .ok (.iload_n 2, 1) := by decide +kernel
theorem dX2_fetch_70 : decode cX2_fetch 70 = .ok (.aload_n 1, 1) := by decide +kernel
theorem dX2_fetch_71 : decode cX2_fetch 71 = .ok (.getfield 161, 3) := by decide +kernel
theorem dX2_fetch_74 : decode cX2_fetch 74 = .ok (.iload 4, 2) := by decide +kernel
theorem dX2_fetch_76 : decode cX2_fetch 76 = .ok (.iaload, 1) := by decide +kernel
theorem dX2_fetch_77 : decode cX2_fetch 77 = .ok (.invokestatic 157, 3) := by decide +kernel
theorem dX2_fetch_80 : decode cX2_fetch 80 = .ok (.ifCond .eq 24, 3) := by decide +kernel
theorem dX2_fetch_83 : decode cX2_fetch 83 = .ok (.aload_n 0, 1) := by decide +kernel
theorem dX2_fetch_84 : decode cX2_fetch 84 = .ok (.getfield 20, 3) := by decide +kernel
theorem dX2_fetch_87 : decode cX2_fetch 87 = .ok (.aload_n 1, 1) := by decide +kernel
theorem dX2_fetch_88 : decode cX2_fetch 88 = .ok (.getfield 161, 3) := by decide +kernel
theorem dX2_fetch_91 : decode cX2_fetch 91 = .ok (.iload 4, 2) := by decide +kernel
theorem dX2_fetch_93 : decode cX2_fetch 93 = .ok (.iaload, 1) := by decide +kernel
theorem dX2_fetch_94 : decode cX2_fetch 94 = .ok (.aload_n 1, 1) := by decide +kernel
theorem dX2_fetch_95 : decode cX2_fetch 95 = .ok (.getfield 167, 3) := by decide +kernel
theorem dX2_fetch_98 : decode cX2_fetch 98 = .ok (.iload 4, 2) := by decide +kernel
theorem dX2_fetch_100 : decode cX2_fetch 100 = .ok (.iaload, 1) := by decide +kernel
theorem dX2_fetch_101 : decode cX2_fetch 101 = .ok (.invokevirtual 154, 3) := by decide +kernel
theorem dX2_fetch_104 : decode cX2_fetch 104 = .ok (.iinc 4 1, 3) := by decide +kernel
theorem dX2_fetch_107 : decode cX2_fetch 107 = .ok (.goto (-47), 3) := by decide +kernel
theorem dX2_fetch_110 : decode cX2_fetch 110 = .ok (.iconst 0, 1) := by decide +kernel
theorem dX2_fetch_111 : decode cX2_fetch 111 = .ok (.ireturn, 1) := by decide +kernel
theorem dX2_moveAll_0 : decode cX2_moveAll 0 = .ok (.aload_n 0, 1) := by decide +kernel
theorem dX2_moveAll_1 : decode cX2_moveAll 1 = .ok (.getfield 20, 3) := by decide +kernel
theorem dX2_moveAll_4 : decode cX2_moveAll 4 = .ok (.iload_n 2, 1) := by decide +kernel
theorem dX2_moveAll_5 : decode cX2_moveAll 5 = .ok (.invokevirtual 136, 3) := by decide +kernel
theorem dX2_moveAll_8 : decode cX2_moveAll 8 = .ok (.ifCond .gt 22, 3) := by decide +kernel
theorem dX2_moveAll_11 : decode cX2_moveAll 11 = .ok (.iload_n 1, 1) := by decide +kernel
theorem dX2_moveAll_12 : decode cX2_moveAll 12 = .ok (.iload_n 2, 1) := by decide +kernel
theorem dX2_moveAll_13 : decode cX2_moveAll 13 = .ok (.invokestatic 157, 3) := by decide +kernel
theorem dX2_moveAll_16 : decode cX2_moveAll 16 = .ok (.ifCond .ne 14, 3) := by decide +kernel
theorem dX2_moveAll_19 : decode cX2_moveAll 19 = .ok (.aload_n 0, 1) := by decide +kernel
theorem dX2_moveAll_20 : decode cX2_moveAll 20 = .ok (.getfield 20, 3) := by decide +kernel
theorem dX2_moveAll_23 : decode cX2_moveAll 23 = .ok (.iload_n 2, 1) := by decide +kernel
theorem dX2_moveAll_24 : decode cX2_moveAll 24 = .ok (.invokevirtual 148, 3) := by decide +kernel
theorem dX2_moveAll_27 : decode cX2_moveAll 27 = .ok (.ifCond .eq 6, 3) := by decide +kernel
theorem dX2_moveAll_30 : decode cX2_moveAll 30 = .ok (.bipush 7, 2) := by decide +kernel
theorem dX2_moveAll_32 : decode cX2_moveAll 32 = .ok (.ireturn, 1) := by decide +kernel
theorem dX2_moveAll_33 : decode cX2_moveAll 33 = .ok (.iconst 0, 1) := by decide +kernel
theorem dX2_moveAll_34 : decode cX2_moveAll 34 = .ok (.istore_n 3, 1) := by decide +kernel
theorem dX2_moveAll_35 : decode cX2_moveAll 35 = .ok (.iload_n 3, 1) := by decide +kernel
theorem dX2_moveAll_36 : decode cX2_moveAll 36 = .ok (.aload_n 0, 1) := by decide +kernel
theorem dX2_moveAll_37 : decode cX2_moveAll 37 = .ok (.getfield 20, 3) := by decide +kernel
theorem dX2_moveAll_40 : decode cX2_moveAll 40 = .ok (.getfield 35, 3) := by decide +kernel
theorem dX2_moveAll_43 : decode cX2_moveAll 43 = .ok (.if_icmp .ge 44, 3) := by decide +kernel
theorem dX2_moveAll_46 : decode cX2_moveAll 46 = .ok (.iload_n 1, 1) := by decide +kernel
theorem dX2_moveAll_47 : decode cX2_moveAll 47 = .ok (.aload_n 0, 1) := by decide +kernel
theorem dX2_moveAll_48 : decode cX2_moveAll 48 = .ok (.getfield 20, 3) := by decide +kernel
theorem dX2_moveAll_51 : decode cX2_moveAll 51 = .ok (.getfield 161, 3) := by decide +kernel
theorem dX2_moveAll_54 : decode cX2_moveAll 54 = .ok (.iload_n 3, 1) := by decide +kernel
theorem dX2_moveAll_55 : decode cX2_moveAll 55 = .ok (.iaload, 1) := by decide +kernel
theorem dX2_moveAll_56 : decode cX2_moveAll 56 = .ok (.invokestatic 157, 3) := by decide +kernel
theorem dX2_moveAll_59 : decode cX2_moveAll 59 = .ok (.ifCond .eq 22, 3) := by decide +kernel
theorem dX2_moveAll_62 : decode cX2_moveAll 62 = .ok (.aload_n 0, 1) := by decide +kernel
theorem dX2_moveAll_63 : decode cX2_moveAll 63 = .ok (.getfield 20, 3) := by decide +kernel
theorem dX2_moveAll_66 : decode cX2_moveAll 66 = .ok (.getfield 161, 3) := by decide +kernel
theorem dX2_moveAll_69 : decode cX2_moveAll 69 = .ok (.iload_n 3, 1) := by decide +kernel
theorem dX2_moveAll_70 : decode cX2_moveAll 70 = .ok (.iaload, 1) := by decide +kernel
theorem dX2_moveAll_71 : decode cX2_moveAll 71 = .ok (.iload_n 1, 1) := by decide +kernel
theorem dX2_moveAll_72 : decode cX2_moveAll 72 = .ok (.iload_n 2, 1) := by decide +kernel
theorem dX2_moveAll_73 : decode cX2_moveAll 73 = .ok (.invokestatic 163, 3) := by decide +kernel
theorem dX2_moveAll_76 : decode cX2_moveAll 76 = .ok (.ifCond .ge 5, 3) := by decide +kernel
theorem dX2_moveAll_79 : decode cX2_moveAll 79 = .ok (.iconst 5, 1) := by decide +kernel
theorem dX2_moveAll_80 : decode cX2_moveAll 80 = .ok (.ireturn, 1) := by decide +kernel
theorem dX2_moveAll_81 : decode cX2_moveAll 81 = .ok (.iinc 3 1, 3) := by decide +kernel
theorem dX2_moveAll_84 : decode cX2_moveAll 84 = .ok (.goto (-49), 3) := by decide +kernel
theorem dX2_moveAll_87 : decode cX2_moveAll 87 = .ok (.aload_n 0, 1) := by decide +kernel
theorem dX2_moveAll_88 : decode cX2_moveAll 88 = .ok (.getfield 28, 3) := by decide +kernel
theorem dX2_moveAll_91 : decode cX2_moveAll 91 = .ok (.aload_n 0, 1) := by decide +kernel
theorem dX2_moveAll_92 : decode cX2_moveAll 92 = .ok (.getfield 20, 3) := by decide +kernel
theorem dX2_moveAll_95 : decode cX2_moveAll 95 = .ok (.invokevirtual 85, 3) := by decide +kernel
theorem dX2_moveAll_98 : decode cX2_moveAll 98 = .ok (.aload_n 0, 1) := by decide +kernel
theorem dX2_moveAll_99 : decode cX2_moveAll 99 = .ok (.getfield 20, 3) := by decide +kernel
theorem dX2_moveAll_102 : decode cX2_moveAll 102 = .ok (.iload_n 1, 1) := by decide +kernel
theorem dX2_moveAll_103 : decode cX2_moveAll 103 = .ok (.invokevirtual 142, 3) := by decide +kernel
theorem dX2_moveAll_106 : decode cX2_moveAll 106 = .ok (.iconst 0, 1) := by decide +kernel
theorem dX2_moveAll_107 : decode cX2_moveAll 107 = .ok (.istore_n 3, 1) := by decide +kernel
theorem dX2_moveAll_108 : decode cX2_moveAll 108 = .ok (.iload_n 3, 1) := by decide +kernel
theorem dX2_moveAll_109 : decode cX2_moveAll 109 = .ok (.aload_n 0, 1) := by decide +kernel
theorem dX2_moveAll_110 : decode cX2_moveAll 110 = .ok (.getfield 28, 3) := by decide +kernel
theorem dX2_moveAll_113 : decode cX2_moveAll 113 = .ok (.getfield 35, 3) := by decide +kernel
theorem dX2_moveAll_116 : decode cX2_moveAll 116 = .ok (.if_icmp .ge 55, 3) := by decide +kernel
theorem dX2_moveAll_119 : decode cX2_moveAll 119 = .ok (.iload_n 1, 1) := by decide +kernel
theorem dX2_moveAll_120 : decode cX2_moveAll 120 = .ok (.aload_n 0, 1) := by decide +kernel
theorem dX2_moveAll_121 : decode cX2_moveAll 121 = .ok (.getfield 28, 3) := by decide +kernel
theorem dX2_moveAll_124 : decode cX2_moveAll 124 = .ok (.getfield 161, 3) := by decide +kernel
theorem dX2_moveAll_127 : decode cX2_moveAll 127 = .ok (.iload_n 3, 1) := by decide +kernel
theorem dX2_moveAll_128 : decode cX2_moveAll 128 = .ok (.iaload, 1) := by decide +kernel
theorem dX2_moveAll_129 : decode cX2_moveAll 129 = .ok (.invokestatic 157, 3) := by decide +kernel
theorem dX2_moveAll_132 : decode cX2_moveAll 132 = .ok (.ifCond .eq 33, 3) := by decide +kernel
theorem dX2_moveAll_135 : decode cX2_moveAll 135 = .ok (.aload_n 0, 1) := by decide +kernel
theorem dX2_moveAll_136 : decode cX2_moveAll 136 = .ok (.getfield 20, 3) := by decide +kernel
theorem dX2_moveAll_139 : decode cX2_moveAll 139 = .ok (.aload_n 0, 1) := by decide +kernel
theorem dX2_moveAll_140 : decode cX2_moveAll 140 = .ok (.getfield 28, 3) := by decide +kernel
theorem dX2_moveAll_143 : decode cX2_moveAll 143 = .ok (.getfield 161, 3) := by decide +kernel
theorem dX2_moveAll_146 : decode cX2_moveAll 146 = .ok (.iload_n 3, 1) := by decide +kernel
theorem dX2_moveAll_147 : decode cX2_moveAll 147 = .ok (.iaload, 1) := by decide +kernel
theorem dX2_moveAll_148 : decode cX2_moveAll 148 = .ok (.iload_n 1, 1) := by decide +kernel
theorem dX2_moveAll_149 : decode cX2_moveAll 149 = .ok (.iload_n 2, 1) := by decide +kernel
theorem dX2_moveAll_150 : decode cX2_moveAll 150 = .ok (.invokestatic 163, 3) := by decide +kernel
theorem dX2_moveAll_153 : decode cX2_moveAll 153 = .ok (.aload_n 0, 1) := by decide +kernel
theorem dX2_moveAll_154 : decode cX2_moveAll 154 = .ok (.getfield 28, 3) := by decide +kernel
theorem dX2_moveAll_157 : decode cX2_moveAll 157 = .ok (.getfield 167, 3) := by decide +kernel
theorem dX2_moveAll_160 : decode cX2_moveAll 160 = .ok (.iload_n 3, 1) := by decide +kernel
theorem dX2_moveAll_161 : decode cX2_moveAll 161 = .ok (.iaload, 1) := by decide +kernel
theorem dX2_moveAll_162 : decode cX2_moveAll 162 = .ok (.invokevirtual 154, 3) := by decide +kernel
theorem dX2_moveAll_165 : decode cX2_moveAll 165 = .ok (.iinc 3 1, 3) := by decide +kernel
theorem dX2_moveAll_168 : decode cX2_moveAll 168 = .ok (.goto (-60), 3) := by decide +kernel
theorem dX2_moveAll_171 : decode cX2_moveAll 171 = .ok (.iconst 0, 1) := by decide +kernel
theorem dX2_moveAll_172 : decode cX2_moveAll 172 = .ok (.ireturn, 1) := by decide +kernel
def dPs (d : kC) (x : List Int) : kC := (x, d.2)
def dFs (d : kC) (x : List gF) : kC := (d.1, x, d.2.2)
def dMs (d : kC) (x : List Int) : kC := (d.1, d.2.1, x, d.2.2.2)
/-- only the draft at a is another one -/
def dPost (sh : gS) (M : gM) (a : Int) (d : kC) (M1 : gM) : Prop := dOk sh M1 a d ∧ gOK sh M1 ∧ ∀ b : Int, b < a ∨ a + 8 < b → M1 b = M b
theorem sp_X2_begin {sh : gS} {M : gM} {a w h : Int} (hOK : gOK sh M) (hD : dSh sh a) :
    gC (gr 0 0) yX2_begin cX2_begin 3 none [(4, a), (0, w), (0, h)] sh M (gPm sh (fun r M1 => r = none ∧ dPost sh M a ([], [], [], w, h) M1)) := by
  obtain ⟨s1, s2, s3, s4, s5, s6, s7⟩ := id hD
  obtain ⟨s8, s9, s10, s11⟩ := id s3
  refine gC_ofA (lv := [_, _, _]) (by decide +kernel) (Nat.le_of_ble_eq_true rfl) rfl (fun hMw hav => ?_)
  refine g_aload_n (q0 := 1) (j := 0) rfl dX2_begin_0 rfl ?_
  refine g_iconst (q0 := 2) rfl dX2_begin_1 (k := ?_)
  refine g_put (q0 := 5) (t := 0) (fi := 1) rfl rfl ff_X2_31 dX2_begin_2 rfl (by assumption) rfl (fun _ => ⟨rfl, rfl⟩) ?_
  refine g_aload_n (q0 := 6) (j := 0) rfl dX2_begin_5 rfl ?_
  refine g_getp (q0 := 9) (b := a + 2) rfl ff_X2_20 dX2_begin_6 rfl (gOK_o hOK (by assumption) (f := 1) rfl rfl) (by omega) (by assumption) rfl rfl ?_
  refine g_iconst (q0 := 10) rfl dX2_begin_9 (k := ?_)
  refine g_put (q0 := 13) (t := 0) (fi := 2) rfl rfl ff_X2_35 dX2_begin_10 rfl (by assumption) rfl (fun _ => ⟨rfl, rfl⟩) ?_
  refine g_aload_n (q0 := 14) (j := 0) rfl dX2_begin_13 rfl ?_
  refine g_iconst (q0 := 15) rfl dX2_begin_14 (k := ?_)
  refine g_put (q0 := 18) (t := 0) (fi := 4) rfl rfl ff_X2_38 dX2_begin_15 rfl (by assumption) rfl (fun _ => ⟨rfl, rfl⟩) ?_
  refine g_aload_n (q0 := 19) (j := 0) rfl dX2_begin_18 rfl ?_
  refine g_iload_n (q0 := 20) (j := 1) rfl dX2_begin_19 rfl ?_
  refine g_put (q0 := 23) (t := 0) (fi := 5) rfl rfl ff_X2_41 dX2_begin_20 rfl (by assumption) rfl (fun _ => ⟨rfl, rfl⟩) ?_
  refine g_aload_n (q0 := 24) (j := 0) rfl dX2_begin_23 rfl ?_
  refine g_iload_n (q0 := 25) (j := 2) rfl dX2_begin_24 rfl ?_
  refine g_put (q0 := 28) (t := 0) (fi := 6) rfl rfl ff_X2_44 dX2_begin_25 rfl (by assumption) rfl (fun _ => ⟨rfl, rfl⟩) ?_
  refine g_return dX2_begin_28 rfl ⟨Nat.zero_le _, Nat.zero_le _⟩ ?_
  refine ⟨rfl, rfl, ⟨hD, ?_, Nat.zero_le _, rw_nil, ⟨s3, by decide, ⟨Int.le_refl 0, ?_, fun j f hf => by have hf2 : ([] : List gF)[j]? = some f := hf; simp at hf2⟩, Nat.zero_le _⟩, ?_, Nat.zero_le _, rw_nil, ?_, ?_⟩, gOK_o (f := 6) (gOK_o (f := 5) (gOK_o (f := 4) (gOK_o (f := 2) (gOK_o (f := 1) hOK s1 rfl rfl) s8 rfl rfl) s1 rfl rfl) s1 rfl rfl) s1 rfl rfl, fun b hb => ?_⟩
  · simp (disch := omega) only [gU_cel, gU_idx, gU_same]; rfl
  · simp (disch := omega) only [gU_cel, gU_idx, gU_same]; rfl
  · simp (disch := omega) only [gU_cel, gU_idx, gU_same]; rfl
  · simp (disch := omega) only [gU_cel, gU_idx, gU_same]; rfl
  · simp (disch := omega) only [gU_cel, gU_idx, gU_same]; rfl
  · rw [gU_cell _ _ _ (by omega), gU_cell _ _ _ (by omega), gU_cell _ _ _ (by omega), gU_cell _ _ _ (by omega), gU_cell _ _ _ (by omega)]
theorem sp_X2_hasParent {sh : gS} {M : gM} {a k : Int} {d : kC} (hOK : gOK sh M) (hD : dOk sh M a d) :
    gC (gr 0 0) yX2_hasParent cX2_hasParent 3 (some (.boolean)) [(4, a), (0, k)] sh M (gPp sh M (0, bI (decide (k ∈ kPs d)))) := by
  obtain ⟨⟨s1, s2, s3, s4, s5, s6, s7⟩, d1, d2, d3, -⟩ := hD
  refine gC_ofA (lv := [_, _, _]) (by decide +kernel) (Nat.le_of_ble_eq_true rfl) rfl (fun hMw hav => ?_)
  have lp : ∀ (t2 t1 : List Int) (i : Int), kPs d = t1 ++ t2 → i = (t1.length : Int) → k ∉ t1 →
      gA (gr 0 0) yX2_hasParent cX2_hasParent 3 (some (.boolean)) (gPp sh M (0, bI (decide (k ∈ kPs d)))) (0, 0) 2 [(4, a), (0, k), (0, i)] [] sh M := by
    intro t2
    induction t2 with
    | nil =>
      intro t1 i e1 e2 e3
      have hl : (kPs d).length = t1.length := by rw [e1]; simp
      refine g_iload_n (q0 := 3) (j := 2) rfl dX2_hasParent_2 rfl ?_
      refine g_aload_n (q0 := 4) (j := 0) rfl dX2_hasParent_3 rfl ?_
      refine g_getf (q0 := 7) (t := 0) (fi := 1) rfl rfl ff_X2_31 dX2_hasParent_4 rfl (by assumption) ?_
      refine g_icmp_ge (q0 := 10) (tgt := 28) rfl dX2_hasParent_7 (by decide) (fun h7 => ?_) (fun h7 => ?_)
      · refine g_iconst (q0 := 29) rfl dX2_hasParent_28 (k := ?_)
        refine g_zreturn dX2_hasParent_29 rfl (by first | rfl | exact gnz (by omega)) ⟨Nat.zero_le _, Nat.zero_le _⟩ ?_
        exact ⟨by rw [decide_eq_false (by rw [e1, List.append_nil]; exact e3)]; rfl, rfl, rfl⟩
      · omega
    | cons p t2 ih =>
      intro t1 i e1 e2 e3
      have hl : (kPs d).length = t1.length + t2.length + 1 := by rw [e1]; simp; omega
      have q := d3
      rw [e1] at q
      have q2 := (rw_cons (rw_app q).2).1
      rw [Int.zero_add, ← e2] at q2
      refine g_iload_n (q0 := 3) (j := 2) rfl dX2_hasParent_2 rfl ?_
      refine g_aload_n (q0 := 4) (j := 0) rfl dX2_hasParent_3 rfl ?_
      refine g_getf (q0 := 7) (t := 0) (fi := 1) rfl rfl ff_X2_31 dX2_hasParent_4 rfl (by assumption) ?_
      refine g_icmp_ge (q0 := 10) (tgt := 28) rfl dX2_hasParent_7 (by decide) (fun h7 => ?_) (fun h7 => ?_)
      · omega
      · refine g_aload_n (q0 := 11) (j := 0) rfl dX2_hasParent_10 rfl ?_
        refine g_getp (q0 := 14) (b := a + 1) rfl ff_X2_9 dX2_hasParent_11 rfl hOK (by omega) (by assumption) rfl rfl ?_
        refine g_iload_n (q0 := 15) (j := 2) rfl dX2_hasParent_14 rfl ?_
        refine g_iald (q0 := 16) rfl dX2_hasParent_15 (by assumption) (by omega) (by omega) ?_
        refine g_iload_n (q0 := 17) (j := 1) rfl dX2_hasParent_16 rfl ?_
        refine g_icmp_ne (q0 := 20) (tgt := 22) rfl dX2_hasParent_17 (by decide) (fun h17 => ?_) (fun h17 => ?_)
        · rw [q2] at h17
          refine g_iinc (q0 := 25) (lv2 := [_, _, _]) rfl dX2_hasParent_22 rfl (by decide) rfl rfl (by omega) (by omega) ?_
          refine g_goto (tgt := 2) dX2_hasParent_25 (by decide) ?_
          refine ih (t1 ++ [p]) (i + 1) (by rw [e1]; simp) (by simp; omega) (fun h => ?_)
          rcases List.mem_append.mp h with z | z
          · exact e3 z
          · exact h17 (List.mem_singleton.mp z).symm
        · rw [q2] at h17
          refine g_iconst (q0 := 21) rfl dX2_hasParent_20 (k := ?_)
          refine g_zreturn dX2_hasParent_21 rfl (by first | rfl | exact gnz (by omega)) ⟨Nat.zero_le _, Nat.zero_le _⟩ ?_
          exact ⟨by rw [decide_eq_true (by rw [e1, ← h17]; simp)]; rfl, rfl, rfl⟩
  refine g_iconst (q0 := 1) rfl dX2_hasParent_0 (k := ?_)
  refine g_istore_n (q0 := 2) (j := 2) (lv2 := [_, _, _]) rfl dX2_hasParent_1 (by decide) rfl rfl ?_
  exact lp (kPs d) [] 0 rfl rfl (by simp)
def dAddP (d : kC) (k : Int) : kC := if (kPs d).length < 3 then dPs d (kPs d ++ [k]) else d
def dAddM (d : kC) (c : Int) : kC := if (kMs d).length < 24 then dMs d (kMs d ++ [c]) else d
theorem sp_X2_addParent {sh : gS} {M : gM} {a k : Int} {d : kC} (hOK : gOK sh M) (hD : dOk sh M a d) :
    gC (gr 0 0) yX2_addParent cX2_addParent 2 none [(4, a), (0, k)] sh M (gPm sh (fun r M1 => r = none ∧ dPost sh M a (dAddP d k) M1)) := by
  have hD0 := hD
  obtain ⟨s0, d1, d2, d3, d4, d5, d6, d7, d8, d9⟩ := hD
  obtain ⟨s1, s2, s3, s4, s5, s6, s7⟩ := id s0
  refine gC_ofA (lv := [_, _]) (by decide +kernel) (Nat.le_of_ble_eq_true rfl) rfl (fun hMw hav => ?_)
  refine g_aload_n (q0 := 1) (j := 0) rfl dX2_addParent_0 rfl ?_
  refine g_getf (q0 := 4) (t := 0) (fi := 1) rfl rfl ff_X2_31 dX2_addParent_1 rfl (by assumption) ?_
  refine g_iconst (q0 := 5) rfl dX2_addParent_4 (k := ?_)
  refine g_icmp_ge (q0 := 8) (tgt := 28) rfl dX2_addParent_5 (by decide) (fun h5 => ?_) (fun h5 => ?_)
  · refine g_return dX2_addParent_28 rfl ⟨Nat.zero_le _, Nat.zero_le _⟩ ?_
    have e : dAddP d k = d := by rw [dAddP, if_neg (by omega)]
    rw [e]
    exact ⟨rfl, rfl, hD0, hOK, fun _ _ => rfl⟩
  · refine g_aload_n (q0 := 9) (j := 0) rfl dX2_addParent_8 rfl ?_
    refine g_getp (q0 := 12) (b := a + 1) rfl ff_X2_9 dX2_addParent_9 rfl hOK (by omega) (by assumption) rfl rfl ?_
    refine g_aload_n (q0 := 13) (j := 0) rfl dX2_addParent_12 rfl ?_
    refine g_getf (q0 := 16) (t := 0) (fi := 1) rfl rfl ff_X2_31 dX2_addParent_13 rfl (by assumption) ?_
    refine g_iload_n (q0 := 17) (j := 1) rfl dX2_addParent_16 rfl ?_
    refine g_iast (q0 := 18) rfl dX2_addParent_17 (by assumption) (by omega) (by omega) ?_
    refine g_aload_n (q0 := 19) (j := 0) rfl dX2_addParent_18 rfl ?_
    refine g_dup (q0 := 20) rfl dX2_addParent_19 (k := ?_)
    refine g_getf (q0 := 23) (t := 0) (fi := 1) rfl rfl ff_X2_31 dX2_addParent_20 rfl (by assumption) ?_
    try simp (disch := omega) only [gU_same, gU_idx, gU_cel]
    refine g_iconst (q0 := 24) rfl dX2_addParent_23 (k := ?_)
    refine g_iadd (q0 := 25) rfl dX2_addParent_24 (by omega) (by omega) ?_
    refine g_put (q0 := 28) (t := 0) (fi := 1) rfl rfl ff_X2_31 dX2_addParent_25 rfl (by assumption) rfl (fun _ => ⟨rfl, rfl⟩) ?_
    refine g_return dX2_addParent_28 rfl ⟨Nat.zero_le _, Nat.zero_le _⟩ ?_
    have e : dAddP d k = dPs d (kPs d ++ [k]) := by rw [dAddP, if_pos (by omega)]
    rw [e]
    refine ⟨rfl, rfl, ⟨s0, ?_, ?_, ?_, ?_, ?_, d6, ?_, ?_, ?_⟩, gOK_o (f := 1) (gOK_i hOK s2) s1 rfl rfl, fun b hb => ?_⟩
    · simp (disch := omega) only [gU_cel, gU_idx, gU_same]
      rw [d1]; show _ = (((kPs d ++ [k]).length : Nat) : Int); simp
    · show (kPs d ++ [k]).length ≤ 3; simp; omega
    · show rw_ _ 0 (kPs d ++ [k])
      refine rw_snoc (rw_congr d3 (fun q q0 q1 => ?_)) ?_
      · simp (disch := omega) only [gU_cel, gU_idx]
      · rw [Int.zero_add, ← d1]
        simp (disch := omega) only [gU_cel, gU_same]
    · exact tOk_congr d4 (by rw [gU_cell _ _ _ (by omega), gU_cell _ _ _ (by omega)]) (by rw [gU_cell _ _ _ (by omega), gU_cell _ _ _ (by omega)]) (by rw [gU_cell _ _ _ (by omega), gU_cell _ _ _ (by omega)])
    · simp (disch := omega) only [gU_cel, gU_idx]; exact d5
    · refine rw_congr d7 (fun q q0 q1 => ?_)
      simp (disch := omega) only [gU_cel]
    · simp (disch := omega) only [gU_cel, gU_idx]; exact d8
    · simp (disch := omega) only [gU_cel, gU_idx]; exact d9
    · rw [gU_cell _ _ _ (by omega), gU_cell _ _ _ (by omega)]
theorem sp_X2_addToMessage {sh : gS} {M : gM} {a c : Int} {d : kC} (hOK : gOK sh M) (hD : dOk sh M a d) (hc : 0 ≤ c ∧ c < 128) :
    gC (gr 0 0) yX2_addToMessage cX2_addToMessage 2 none [(4, a), (0, c)] sh M (gPm sh (fun r M1 => r = none ∧ dPost sh M a (dAddM d c) M1)) := by
  have hD0 := hD
  obtain ⟨s0, d1, d2, d3, d4, d5, d6, d7, d8, d9⟩ := hD
  obtain ⟨s1, s2, s3, s4, s5, s6, s7⟩ := id s0
  have e2b := i2b_id (x := c) (by omega) (by omega)
  refine gC_ofA (lv := [_, _]) (by decide +kernel) (Nat.le_of_ble_eq_true rfl) rfl (fun hMw hav => ?_)
  refine g_aload_n (q0 := 1) (j := 0) rfl dX2_addToMessage_0 rfl ?_
  refine g_getf (q0 := 4) (t := 0) (fi := 4) rfl rfl ff_X2_38 dX2_addToMessage_1 rfl (by assumption) ?_
  refine g_bipush (q0 := 6) rfl dX2_addToMessage_4 (k := ?_)
  refine g_icmp_ge (q0 := 9) (tgt := 30) rfl dX2_addToMessage_6 (by decide) (fun h6 => ?_) (fun h6 => ?_)
  · refine g_return dX2_addToMessage_30 rfl ⟨Nat.zero_le _, Nat.zero_le _⟩ ?_
    have e : dAddM d c = d := by rw [dAddM, if_neg (by omega)]
    rw [e]
    exact ⟨rfl, rfl, hD0, hOK, fun _ _ => rfl⟩
  · refine g_aload_n (q0 := 10) (j := 0) rfl dX2_addToMessage_9 rfl ?_
    refine g_getp (q0 := 13) (b := a + 5) rfl ff_X2_24 dX2_addToMessage_10 rfl hOK (by omega) (by assumption) rfl rfl ?_
    refine g_aload_n (q0 := 14) (j := 0) rfl dX2_addToMessage_13 rfl ?_
    refine g_getf (q0 := 17) (t := 0) (fi := 4) rfl rfl ff_X2_38 dX2_addToMessage_14 rfl (by assumption) ?_
    refine g_iload_n (q0 := 18) (j := 1) rfl dX2_addToMessage_17 rfl ?_
    refine g_i2b (q0 := 19) rfl dX2_addToMessage_18 ?_
    refine g_bast (q0 := 20) rfl dX2_addToMessage_19 (by assumption) (by omega) (by omega) ?_
    refine g_aload_n (q0 := 21) (j := 0) rfl dX2_addToMessage_20 rfl ?_
    refine g_dup (q0 := 22) rfl dX2_addToMessage_21 (k := ?_)
    refine g_getf (q0 := 25) (t := 0) (fi := 4) rfl rfl ff_X2_38 dX2_addToMessage_22 rfl (by assumption) ?_
    try simp (disch := omega) only [gU_same, gU_idx, gU_cel]
    refine g_iconst (q0 := 26) rfl dX2_addToMessage_25 (k := ?_)
    refine g_iadd (q0 := 27) rfl dX2_addToMessage_26 (by omega) (by omega) ?_
    refine g_put (q0 := 30) (t := 0) (fi := 4) rfl rfl ff_X2_38 dX2_addToMessage_27 rfl (by assumption) rfl (fun _ => ⟨rfl, rfl⟩) ?_
    refine g_return dX2_addToMessage_30 rfl ⟨Nat.zero_le _, Nat.zero_le _⟩ ?_
    have e : dAddM d c = dMs d (kMs d ++ [c]) := by rw [dAddM, if_pos (by omega)]
    rw [e, e2b, e2b]
    refine ⟨rfl, rfl, ⟨s0, ?_, d2, ?_, ?_, ?_, ?_, ?_, ?_, ?_⟩, gOK_o (f := 4) (gOK_b hOK s4) s1 rfl rfl, fun b hb => ?_⟩
    · simp (disch := omega) only [gU_cel, gU_idx]; exact d1
    · refine rw_congr d3 (fun q q0 q1 => ?_)
      simp (disch := omega) only [gU_cel]
    · exact tOk_congr d4 (by rw [gU_cell _ _ _ (by omega), gU_cell _ _ _ (by omega)]) (by rw [gU_cell _ _ _ (by omega), gU_cell _ _ _ (by omega)]) (by rw [gU_cell _ _ _ (by omega), gU_cell _ _ _ (by omega)])
    · simp (disch := omega) only [gU_cel, gU_idx, gU_same]
      rw [d5]; show _ = (((kMs d ++ [c]).length : Nat) : Int); simp
    · show (kMs d ++ [c]).length ≤ 24; simp; omega
    · show rw_ _ 0 (kMs d ++ [c])
      refine rw_snoc (rw_congr d7 (fun q q0 q1 => ?_)) ?_
      · simp (disch := omega) only [gU_cel, gU_idx]
      · rw [Int.zero_add, ← d5]
        simp (disch := omega) only [gU_cel, gU_same]
    · simp (disch := omega) only [gU_cel, gU_idx]; exact d8
    · simp (disch := omega) only [gU_cel, gU_idx]; exact d9
    · rw [gU_cell _ _ _ (by omega), gU_cell _ _ _ (by omega)]
-- a tree of the draft is changed
theorem dOk_tree {sh : gS} {M M1 : gM} {a : Int} {d : kC} {fs : List gF} (hD : dOk sh M a d) (hT : tOk sh M1 (a + 2) 32 fs) (hf : ∀ b : Int, b ≠ a + 2 → b ≠ a + 2 + 1 → b ≠ a + 2 + 2 → b < a + 6 → M1 b = M b) : dOk sh M1 a (dFs d fs) := by
  obtain ⟨s0, d1, d2, d3, d4, d5, d6, d7, d8, d9⟩ := hD
  refine ⟨s0, ?_, d2, ?_, hT, ?_, d6, ?_, ?_, ?_⟩
  · rw [hf a (by omega) (by omega) (by omega) (by omega)]; exact d1
  · rw [hf (a + 1) (by omega) (by omega) (by omega) (by omega)]; exact d3
  · rw [hf a (by omega) (by omega) (by omega) (by omega)]; exact d5
  · rw [hf (a + 5) (by omega) (by omega) (by omega) (by omega)]; exact d7
  · rw [hf a (by omega) (by omega) (by omega) (by omega)]; exact d8
  · rw [hf a (by omega) (by omega) (by omega) (by omega)]; exact d9
theorem dFs_self (d : kC) : dFs d (kFs d) = d := rfl
def dPutF (w c : Int) (fs : List gF) : Int × List gF := if tFolder w fs = true ∨ tAhead w fs = true then (7, fs) else if tFind w fs 0 < 0 ∧ 16 ≤ fs.length then (4, fs) else (0, tPut w c fs)
theorem sp_X2_putFile {sh : gS} {M : gM} {a w c : Int} {d : kC} (hOK : gOK sh M) (hD : dOk sh M a d) (hw : 0 ≤ w ∧ w < 1073741824) (hl : (kFs d).length ≤ 31) :
    gC (gr 2 45) yX2_putFile cX2_putFile 3 (some (.int)) [(4, a), (0, w), (0, c)] sh M (gPm sh (fun r M1 => r = some (0, (dPutF w c (kFs d)).1) ∧ dPost sh M a (dFs d (dPutF w c (kFs d)).2) M1)) := by
  have hD0 := hD
  obtain ⟨s0, d1, d2, d3, d4, d5, d6, d7, d8, d9⟩ := hD
  obtain ⟨s1, s2, s3, s4, s5, s6, s7⟩ := id s0
  obtain ⟨s8, s9, s10, s11⟩ := id s3
  have hc := tOk_c d4
  generalize hQ : gPm sh (fun (r : Option gV) M1 => r = some (0, (dPutF w c (kFs d)).1) ∧ dPost sh M a (dFs d (dPutF w c (kFs d)).2) M1) = Q
  have h22 : (tFolder w (kFs d) = true ∨ tAhead w (kFs d) = true) → gA (gr 2 45) yX2_putFile cX2_putFile 3 (some (.int)) Q (0, 0) 22 [(4, a), (0, w), (0, c)] [] sh M := by
    intro h
    refine g_bipush (q0 := 24) rfl dX2_putFile_22 (k := ?_)
    refine g_ireturn dX2_putFile_24 rfl ⟨Nat.zero_le _, Nat.zero_le _⟩ ?_
    subst hQ
    rw [dPutF, if_pos h]
    exact ⟨rfl, rfl, hD0, hOK, fun _ _ => rfl⟩
  have h50 : ¬ (tFolder w (kFs d) = true ∨ tAhead w (kFs d) = true) → ¬ (tFind w (kFs d) 0 < 0 ∧ 16 ≤ (kFs d).length) → gA (gr 2 45) yX2_putFile cX2_putFile 3 (some (.int)) Q (0, 0) 50 [(4, a), (0, w), (0, c)] [] sh M := by
    intro h g
    refine g_aload_n (q0 := 51) (j := 0) rfl dX2_putFile_50 rfl ?_
    refine g_getp (q0 := 54) (b := a + 2) rfl ff_X2_20 dX2_putFile_51 rfl hOK (by omega) (by assumption) rfl rfl ?_
    refine g_iload_n (q0 := 55) (j := 1) rfl dX2_putFile_54 rfl ?_
    refine g_iload_n (q0 := 56) (j := 2) rfl dX2_putFile_55 rfl ?_
    have hpl := (tPut_len w c (kFs d)).1
    refine g_callVm (as := [_, _]) (rest := []) mt_X10_put mi_X10_put se_X10_put ml_X2_154 dX2_putFile_56 (q0 := 59) rfl rfl (by assumption) rfl rfl (sp_X10_put hOK d4 hw (by omega)) rfl ⟨by decide, by decide⟩ (Nat.le_of_ble_eq_true rfl) ⟨Nat.zero_le _, Nat.zero_le _⟩ (fun r1 M1 hP1 hw1 hMw1 => ?_)
    obtain ⟨rfl, t1, hO1, t2⟩ := hP1
    refine g_iconst (q0 := 60) rfl dX2_putFile_59 (k := ?_)
    refine g_ireturn dX2_putFile_60 rfl ⟨Nat.zero_le _, Nat.zero_le _⟩ ?_
    subst hQ
    rw [dPutF, if_neg h, if_neg g]
    exact ⟨rfl, rfl, dOk_tree hD0 t1 (fun b b0 b1 b2 _ => t2 b b0 b1 b2), hO1, fun b hb => t2 b (by omega) (by omega) (by omega)⟩
  refine gC_ofA (lv := [_, _, _]) (by decide +kernel) (Nat.le_of_ble_eq_true rfl) rfl (fun hMw hav => ?_)
  refine g_aload_n (q0 := 1) (j := 0) rfl dX2_putFile_0 rfl ?_
  refine g_getp (q0 := 4) (b := a + 2) rfl ff_X2_20 dX2_putFile_1 rfl hOK (by omega) (by assumption) rfl rfl ?_
  refine g_iload_n (q0 := 5) (j := 1) rfl dX2_putFile_4 rfl ?_
  refine g_callVp (as := [_]) (rest := []) mt_X10_hasFolder mi_X10_hasFolder se_X10_hasFolder ml_X2_145 dX2_putFile_5 (q0 := 8) rfl rfl (by assumption) rfl rfl (sp_X10_hasFolder hOK d4 hw) rfl ⟨by decide, by decide⟩ (Nat.le_of_ble_eq_true rfl) ⟨Nat.zero_le _, Nat.zero_le _⟩ (fun hwc => ?_)
  refine g_if_ne (q0 := 11) (tgt := 22) rfl dX2_putFile_8 (by decide) (fun h8 => ?_) (fun h8 => ?_)
  · exact h22 (Or.inl (bI_t h8))
  · have q1 := bI_f h8
    refine g_aload_n (q0 := 12) (j := 0) rfl dX2_putFile_11 rfl ?_
    refine g_getp (q0 := 15) (b := a + 2) rfl ff_X2_20 dX2_putFile_12 rfl hOK (by omega) (by assumption) rfl rfl ?_
    refine g_iload_n (q0 := 16) (j := 1) rfl dX2_putFile_15 rfl ?_
    refine g_callVp (as := [_]) (rest := []) mt_X10_hasFileAhead mi_X10_hasFileAhead se_X10_hasFileAhead ml_X2_148 dX2_putFile_16 (q0 := 19) rfl rfl (by assumption) rfl rfl (sp_X10_hasFileAhead hOK d4 hw) rfl ⟨by decide, by decide⟩ (Nat.le_of_ble_eq_true rfl) ⟨Nat.zero_le _, Nat.zero_le _⟩ (fun hwc => ?_)
    refine g_if_eq (q0 := 22) (tgt := 25) rfl dX2_putFile_19 (by decide) (fun h19 => ?_) (fun h19 => ?_)
    · have q2 := bI_f h19
      have hno : ¬ (tFolder w (kFs d) = true ∨ tAhead w (kFs d) = true) := by rw [q1, q2]; decide
      clear q1 q2
      refine g_aload_n (q0 := 26) (j := 0) rfl dX2_putFile_25 rfl ?_
      refine g_getp (q0 := 29) (b := a + 2) rfl ff_X2_20 dX2_putFile_26 rfl hOK (by omega) (by assumption) rfl rfl ?_
      refine g_iload_n (q0 := 30) (j := 1) rfl dX2_putFile_29 rfl ?_
      refine g_callVp (as := [_]) (rest := []) mt_X10_find mi_X10_find se_X10_find ml_X2_151 dX2_putFile_30 (q0 := 33) rfl rfl (by assumption) rfl rfl (sp_X10_find hOK d4) rfl ⟨by decide, by decide⟩ (Nat.le_of_ble_eq_true rfl) ⟨Nat.zero_le _, Nat.zero_le _⟩ (fun hwc => ?_)
      refine g_if_ge (q0 := 36) (tgt := 50) rfl dX2_putFile_33 (by decide) (fun h33 => ?_) (fun h33 => ?_)
      · exact h50 hno (by omega)
      · refine g_aload_n (q0 := 37) (j := 0) rfl dX2_putFile_36 rfl ?_
        refine g_getp (q0 := 40) (b := a + 2) rfl ff_X2_20 dX2_putFile_37 rfl hOK (by omega) (by assumption) rfl rfl ?_
        refine g_getf (q0 := 43) (t := 0) (fi := 2) rfl rfl ff_X2_35 dX2_putFile_40 rfl (by assumption) ?_
        refine g_bipush (q0 := 45) rfl dX2_putFile_43 (k := ?_)
        refine g_icmp_lt (q0 := 48) (tgt := 50) rfl dX2_putFile_45 (by decide) (fun h45 => ?_) (fun h45 => ?_)
        · exact h50 hno (by omega)
        · refine g_iconst (q0 := 49) rfl dX2_putFile_48 (k := ?_)
          refine g_ireturn dX2_putFile_49 rfl ⟨Nat.zero_le _, Nat.zero_le _⟩ ?_
          subst hQ
          rw [dPutF, if_neg hno, if_pos (by omega)]
          exact ⟨rfl, rfl, hD0, hOK, fun _ _ => rfl⟩
    · exact h22 (Or.inr (bI_t h19))
theorem sp_X2_takeMessage {sh : gS} {M : gM} {a : Int} {cs : List kC} {k : Nat} {c d : kC} (hOK : gOK sh M) (hC : cOk sh M cs) (hk : cs[k]? = some c) (hD : dOk sh M a d) :
    gC (gr 1 22) yX2_takeMessage cX2_takeMessage 4 none [(4, a), (4, 4), (0, (k : Int))] sh M (gPm sh (fun r M1 => r = none ∧ dPost sh M a (dMs d (kMs c)) M1)) := by
  have hl := cOk_len hC hk
  obtain ⟨⟨c1, c2, c3, c4, c5, c6⟩, ⟨w1, w2, w3, w4, -⟩, -⟩ := hC.2.2.2 k c hk
  have s0 := hD.1
  obtain ⟨s1, s2, s3, s4, s5, s6, s7⟩ := id s0
  refine gC_ofA (lv := [_, _, _, _]) (by decide +kernel) (Nat.le_of_ble_eq_true rfl) rfl (fun hMw hav => ?_)
  have lp : ∀ (t2 t1 : List Int) (i : Int) (M1 : gM), kMs c = t1 ++ t2 → i = (t1.length : Int) → dPost sh M a (dMs d t1) M1 →
      gA (gr 1 22) yX2_takeMessage cX2_takeMessage 4 none (gPm sh (fun r M1 => r = none ∧ dPost sh M a (dMs d (kMs c)) M1)) (0, 0) 7 [(4, a), (4, 4), (0, (k : Int)), (0, i)] [] sh M1 := by
    intro t2
    induction t2 with
    | nil =>
      intro t1 i M1 e1 e2 hP
      obtain ⟨hD1, hO1, hF⟩ := hP
      have hl2 : (kMs c).length = t1.length := by rw [e1]; simp
      have ec : M1 10 (k : Int) = ((kMs c).length : Int) := by rw [hF 10 (by omega)]; exact c3
      refine g_iload_n (q0 := 8) (j := 3) rfl dX2_takeMessage_7 rfl ?_
      refine g_aload_n (q0 := 9) (j := 1) rfl dX2_takeMessage_8 rfl ?_
      refine g_getp (q0 := 12) (b := 10) rfl ff_X2_47 dX2_takeMessage_9 rfl hO1 (by decide) (sh_4 hO1) rfl (by decide) ?_
      refine g_iload_n (q0 := 13) (j := 2) rfl dX2_takeMessage_12 rfl ?_
      refine g_iald (q0 := 14) rfl dX2_takeMessage_13 (sh_10 hO1) (by omega) (by omega) ?_
      refine g_icmp_ge (q0 := 17) (tgt := 33) rfl dX2_takeMessage_14 (by decide) (fun h14 => ?_) (fun h14 => ?_)
      · refine g_return dX2_takeMessage_33 rfl ⟨Nat.zero_le _, Nat.zero_le _⟩ ?_
        rw [e1, List.append_nil]
        exact ⟨rfl, rfl, hD1, hO1, hF⟩
      · omega
    | cons x t2 ih =>
      intro t1 i M1 e1 e2 hP
      obtain ⟨hD1, hO1, hF⟩ := hP
      have hl2 : (kMs c).length = t1.length + t2.length + 1 := by rw [e1]; simp; omega
      have ec : M1 10 (k : Int) = ((kMs c).length : Int) := by rw [hF 10 (by omega)]; exact c3
      have ex : M1 9 ((k : Int) * 24 + i) = x := by
        rw [hF 9 (by omega), e2]
        have q := c4
        rw [e1] at q
        exact (rw_cons (rw_app q).2).1
      have hx := w4 x (by rw [e1]; simp)
      refine g_iload_n (q0 := 8) (j := 3) rfl dX2_takeMessage_7 rfl ?_
      refine g_aload_n (q0 := 9) (j := 1) rfl dX2_takeMessage_8 rfl ?_
      refine g_getp (q0 := 12) (b := 10) rfl ff_X2_47 dX2_takeMessage_9 rfl hO1 (by decide) (sh_4 hO1) rfl (by decide) ?_
      refine g_iload_n (q0 := 13) (j := 2) rfl dX2_takeMessage_12 rfl ?_
      refine g_iald (q0 := 14) rfl dX2_takeMessage_13 (sh_10 hO1) (by omega) (by omega) ?_
      refine g_icmp_ge (q0 := 17) (tgt := 33) rfl dX2_takeMessage_14 (by decide) (fun h14 => ?_) (fun h14 => ?_)
      · omega
      · refine g_aload_n (q0 := 18) (j := 0) rfl dX2_takeMessage_17 rfl ?_
        refine g_aload_n (q0 := 19) (j := 1) rfl dX2_takeMessage_18 rfl ?_
        refine g_iload_n (q0 := 20) (j := 2) rfl dX2_takeMessage_19 rfl ?_
        refine g_iload_n (q0 := 21) (j := 3) rfl dX2_takeMessage_20 rfl ?_
        refine g_callVp (as := [_, _]) (rest := [_]) mt_X1_messageByte mi_X1_messageByte se_X1_messageByte ml_X2_51 dX2_takeMessage_21 (q0 := 24) rfl rfl (sh_4 hO1) rfl rfl (sp_X1_messageByte hO1 ⟨by omega, by omega⟩ ⟨by omega, by omega⟩) rfl ⟨by decide, by decide⟩ (Nat.le_of_ble_eq_true rfl) ⟨Nat.zero_le _, Nat.zero_le _⟩ (fun hwc => ?_)
        rw [ex]
        refine g_callVm (as := [_]) (rest := []) mt_X2_addToMessage mi_X2_addToMessage se_X2_addToMessage ml_X2_55 dX2_takeMessage_24 (q0 := 27) rfl rfl (by assumption) rfl rfl (sp_X2_addToMessage hO1 hD1 hx) rfl ⟨by decide, by decide⟩ (Nat.le_of_ble_eq_true rfl) ⟨Nat.zero_le _, Nat.zero_le _⟩ (fun r2 M2 hP2 hw2 hMw2 => ?_)
        obtain ⟨rfl, hD2, hO2, hF2⟩ := hP2
        have e5 : dAddM (dMs d t1) x = dMs d (t1 ++ [x]) := by
          have : (kMs (dMs d t1)).length < 24 := by show t1.length < 24; omega
          rw [dAddM, if_pos this]; rfl
        rw [e5] at hD2
        refine g_iinc (q0 := 30) (lv2 := [_, _, _, _]) rfl dX2_takeMessage_27 rfl (by decide) rfl rfl (by omega) (by omega) ?_
        refine g_goto (tgt := 7) dX2_takeMessage_30 (by decide) ?_
        exact ih (t1 ++ [x]) (i + 1) M2 (by rw [e1]; simp) (by simp; omega) ⟨hD2, hO2, fun b hb => by rw [hF2 b hb, hF b hb]⟩
  refine g_aload_n (q0 := 1) (j := 0) rfl dX2_takeMessage_0 rfl ?_
  refine g_iconst (q0 := 2) rfl dX2_takeMessage_1 (k := ?_)
  refine g_put (q0 := 5) (t := 0) (fi := 4) rfl rfl ff_X2_38 dX2_takeMessage_2 rfl (by assumption) rfl (fun _ => ⟨rfl, rfl⟩) ?_
  refine g_iconst (q0 := 6) rfl dX2_takeMessage_5 (k := ?_)
  refine g_istore_n (q0 := 7) (j := 3) (lv2 := [_, _, _, _]) rfl dX2_takeMessage_6 (by decide) rfl rfl ?_
  refine lp (kMs c) [] 0 _ rfl rfl ⟨?_, gOK_o (f := 4) hOK s1 rfl rfl, fun b hb => by rw [gU_cell _ _ _ (by omega)]⟩
  obtain ⟨-, d1, d2, d3, d4, d5, d6, d7, d8, d9⟩ := hD
  refine ⟨s0, ?_, d2, ?_, ?_, ?_, Nat.zero_le _, rw_nil, ?_, ?_⟩
  · simp (disch := omega) only [gU_cel, gU_idx]; exact d1
  · refine rw_congr d3 (fun q q0 q1 => ?_)
    simp (disch := omega) only [gU_cel]
  · exact tOk_congr d4 (by rw [gU_cell _ _ _ (by omega)]) (by rw [gU_cell _ _ _ (by omega)]) (by rw [gU_cell _ _ _ (by omega)])
  · rw [gU_same]; rfl
  · simp (disch := omega) only [gU_cel, gU_idx]; exact d8
  · simp (disch := omega) only [gU_cel, gU_idx]; exact d9
-- what comes of another tree
def tFet (w : Int) : List gF → List gF → List gF
  | [], fs => fs
  | f :: r, fs => tFet w r (if pCov w f.1 then tPut f.1 f.2 fs else fs)
def dFetch (w : Int) (os fs : List gF) : Int × List gF :=
  if 0 < tCnt w os ∧ tAhead w fs = true then (7, fs) else if 16 < (fs.length : Int) - tCnt w fs + tCnt w os then (4, fs) else (0, tFet w os (fs.filter (fun f => !pCov w f.1)))
theorem tCnt_fil (w : Int) : ∀ fs : List gF, ((fs.filter (fun f => !pCov w f.1)).length : Int) = (fs.length : Int) - tCnt w fs
  | [] => rfl
  | f :: r => by
    have ih := tCnt_fil w r
    rw [List.filter_cons, tCnt, List.length_cons]
    cases h : pCov w f.1
    · simp only [Bool.not_false, if_true, List.length_cons, bI]
      simp
      omega
    · simp only [Bool.not_true, bI]
      simp
      omega
theorem sp_X2_fetch {sh : gS} {M : gM} {a u w : Int} {m : Nat} {os : List gF} {d : kC} (hOK : gOK sh M) (hD : dOk sh M a d) (hU : tOk sh M u m os) (hw : 0 ≤ w ∧ w < 1073741824) (hu : u + 2 < a) :
    gC (gr 2 46) yX2_fetch cX2_fetch 5 (some (.int)) [(4, a), (4, u), (0, w)] sh M (gPm sh (fun r M1 => r = some (0, (dFetch w os (kFs d)).1) ∧ dPost sh M a (dFs d (dFetch w os (kFs d)).2) M1)) := by
  have hD0 := hD
  obtain ⟨s0, d1, d2, d3, d4, d5, d6, d7, d8, d9⟩ := hD
  obtain ⟨s1, s2, s3, s4, s5, s6, s7⟩ := id s0
  obtain ⟨s8, s9, s10, s11⟩ := id s3
  have hc := tOk_c d4
  have hcu := tOk_c hU
  obtain ⟨⟨hu0, hu1, hu2, hult⟩, hm, hUT, hul⟩ := id hU
  have r1 := tCnt_rng w os
  have r2 := tCnt_rng w (kFs d)
  have r3 := tCnt_fil w (kFs d)
  generalize hQ : gPm sh (fun (r : Option gV) M1 => r = some (0, (dFetch w os (kFs d)).1) ∧ dPost sh M a (dFs d (dFetch w os (kFs d)).2) M1) = Q
  have lp : ∀ (suf pre : List gF) (i : Int) (gs : List gF) (M1 : gM), ¬ (0 < tCnt w os ∧ tAhead w (kFs d) = true) → ¬ 16 < ((kFs d).length : Int) - tCnt w (kFs d) + tCnt w os → os = pre ++ suf → i = (pre.length : Int) → tSuf M u i suf → tFet w suf gs = tFet w os ((kFs d).filter (fun f => !pCov w f.1)) → (gs.length : Int) + tCnt w suf ≤ 16 → tOk sh M1 (a + 2) 32 gs → gOK sh M1 → (∀ b : Int, b ≠ a + 2 → b ≠ a + 2 + 1 → b ≠ a + 2 + 2 → M1 b = M b) →
      gA (gr 2 46) yX2_fetch cX2_fetch 5 (some (.int)) Q (0, 0) 60 [(4, a), (4, u), (0, w), (0, tCnt w os), (0, i)] [] sh M1 := by
    intro suf
    induction suf with
    | nil =>
      intro pre i gs M1 n1 n2 e1 e2 hS hv hlen hT hO hF
      have h0 := tSuf_nil hS
      have ec : M1 u 2 = M u 2 := by rw [hF u (by omega) (by omega) (by omega)]
      refine g_iload (q0 := 62) (j := 4) rfl dX2_fetch_60 rfl ?_
      refine g_aload_n (q0 := 63) (j := 1) rfl dX2_fetch_62 rfl ?_
      refine g_getf (q0 := 66) (t := 0) (fi := 2) rfl rfl ff_X2_35 dX2_fetch_63 rfl (by assumption) ?_
      refine g_icmp_ge (q0 := 69) (tgt := 110) rfl dX2_fetch_66 (by decide) (fun h66 => ?_) (fun h66 => ?_)
      · refine g_iconst (q0 := 111) rfl dX2_fetch_110 (k := ?_)
        refine g_ireturn dX2_fetch_111 rfl ⟨Nat.zero_le _, Nat.zero_le _⟩ ?_
        subst hQ
        rw [dFetch, if_neg n1, if_neg n2, ← hv]
        exact ⟨rfl, rfl, dOk_tree hD0 hT (fun b b0 b1 b2 _ => hF b b0 b1 b2), hO, fun b hb => hF b (by omega) (by omega) (by omega)⟩
      · omega
    | cons f r ih =>
      intro pre i gs M1 n1 n2 e1 e2 hS hv hlen hT hO hF
      obtain ⟨k0, k1, k2, k3, k4, k5⟩ := tSuf_cons hS
      have ec : M1 u 2 = M u 2 := by rw [hF u (by omega) (by omega) (by omega)]
      have ec1 : M1 (u + 1) i = f.1 := by rw [hF (u + 1) (by omega) (by omega) (by omega)]; exact k2
      have ec2 : M1 (u + 2) i = f.2 := by rw [hF (u + 2) (by omega) (by omega) (by omega)]; exact k3
      rw [tFet] at hv
      rw [tCnt] at hlen
      have rr := tCnt_rng w r
      refine g_iload (q0 := 62) (j := 4) rfl dX2_fetch_60 rfl ?_
      refine g_aload_n (q0 := 63) (j := 1) rfl dX2_fetch_62 rfl ?_
      refine g_getf (q0 := 66) (t := 0) (fi := 2) rfl rfl ff_X2_35 dX2_fetch_63 rfl (by assumption) ?_
      refine g_icmp_ge (q0 := 69) (tgt := 110) rfl dX2_fetch_66 (by decide) (fun h66 => ?_) (fun h66 => ?_)
      · omega
      · refine g_iload_n (q0 := 70) (j := 2) rfl dX2_fetch_69 rfl ?_
        refine g_aload_n (q0 := 71) (j := 1) rfl dX2_fetch_70 rfl ?_
        refine g_getp (q0 := 74) (b := u + 1) rfl ff_X2_161 dX2_fetch_71 rfl hO (by omega) (by assumption) rfl rfl ?_
        refine g_iload (q0 := 76) (j := 4) rfl dX2_fetch_74 rfl ?_
        refine g_iald (q0 := 77) rfl dX2_fetch_76 (by assumption) (by omega) (by omega) ?_
        rw [ec1]
        refine g_callSp (as := [_, _]) (rest := []) mt_X10_covers ms_X10_covers ml_X2_157 dX2_fetch_77 (q0 := 80) rfl rfl (sp_X10_covers hw k4) rfl ⟨by decide, by decide⟩ (Nat.le_of_ble_eq_true rfl) ⟨Nat.zero_le _, Nat.zero_le _⟩ (fun hwc => ?_)
        refine g_if_eq (q0 := 83) (tgt := 104) rfl dX2_fetch_80 (by decide) (fun h80 => ?_) (fun h80 => ?_)
        · have hb := bI_f h80
          rw [if_neg (by rw [hb]; decide)] at hv
          rw [hb] at hlen
          have hb0 : bI false = 0 := rfl
          rw [hb0] at hlen
          clear hb
          refine g_iinc (q0 := 107) (lv2 := [_, _, _, _, _]) rfl dX2_fetch_104 rfl (by decide) rfl rfl (by omega) (by omega) ?_
          refine g_goto (tgt := 60) dX2_fetch_107 (by decide) ?_
          exact ih (pre ++ [f]) (i + 1) gs M1 n1 n2 (by rw [e1]; simp) (by simp; omega) k5 hv (by omega) hT hO hF
        · have hb := bI_t h80
          rw [if_pos hb] at hv
          rw [hb] at hlen
          have hb0 : bI true = 1 := rfl
          rw [hb0] at hlen
          clear hb
          have hpl := (tPut_len f.1 f.2 gs).1
          refine g_aload_n (q0 := 84) (j := 0) rfl dX2_fetch_83 rfl ?_
          refine g_getp (q0 := 87) (b := a + 2) rfl ff_X2_20 dX2_fetch_84 rfl hO (by omega) (by assumption) rfl rfl ?_
          refine g_aload_n (q0 := 88) (j := 1) rfl dX2_fetch_87 rfl ?_
          refine g_getp (q0 := 91) (b := u + 1) rfl ff_X2_161 dX2_fetch_88 rfl hO (by omega) (by assumption) rfl rfl ?_
          refine g_iload (q0 := 93) (j := 4) rfl dX2_fetch_91 rfl ?_
          refine g_iald (q0 := 94) rfl dX2_fetch_93 (by assumption) (by omega) (by omega) ?_
          refine g_aload_n (q0 := 95) (j := 1) rfl dX2_fetch_94 rfl ?_
          refine g_getp (q0 := 98) (b := u + 2) rfl ff_X2_167 dX2_fetch_95 rfl hO (by omega) (by assumption) rfl rfl ?_
          refine g_iload (q0 := 100) (j := 4) rfl dX2_fetch_98 rfl ?_
          refine g_iald (q0 := 101) rfl dX2_fetch_100 (by assumption) (by omega) (by omega) ?_
          rw [ec1, ec2]
          refine g_callVm (as := [_, _]) (rest := []) mt_X10_put mi_X10_put se_X10_put ml_X2_154 dX2_fetch_101 (q0 := 104) rfl rfl (by assumption) rfl rfl (sp_X10_put hO hT k4 (by omega)) rfl ⟨by decide, by decide⟩ (Nat.le_of_ble_eq_true rfl) ⟨Nat.zero_le _, Nat.zero_le _⟩ (fun r2 M2 hP2 hw2 hMw2 => ?_)
          obtain ⟨rfl, t1, hO2, t2⟩ := hP2
          refine g_iinc (q0 := 107) (lv2 := [_, _, _, _, _]) rfl dX2_fetch_104 rfl (by decide) rfl rfl (by omega) (by omega) ?_
          refine g_goto (tgt := 60) dX2_fetch_107 (by decide) ?_
          exact ih (pre ++ [f]) (i + 1) _ M2 n1 n2 (by rw [e1]; simp) (by simp; omega) k5 hv (by omega) t1 hO2 (fun b b0 b1 b2 => by rw [t2 b b0 b1 b2, hF b b0 b1 b2])
  have h24 : ¬ (0 < tCnt w os ∧ tAhead w (kFs d) = true) → gA (gr 2 46) yX2_fetch cX2_fetch 5 (some (.int)) Q (0, 0) 24 [(4, a), (4, u), (0, w), (0, tCnt w os), (9, 0)] [] sh M := by
    intro n1
    refine g_aload_n (q0 := 25) (j := 0) rfl dX2_fetch_24 rfl ?_
    refine g_getp (q0 := 28) (b := a + 2) rfl ff_X2_20 dX2_fetch_25 rfl hOK (by omega) (by assumption) rfl rfl ?_
    refine g_getf (q0 := 31) (t := 0) (fi := 2) rfl rfl ff_X2_35 dX2_fetch_28 rfl (by assumption) ?_
    refine g_aload_n (q0 := 32) (j := 0) rfl dX2_fetch_31 rfl ?_
    refine g_getp (q0 := 35) (b := a + 2) rfl ff_X2_20 dX2_fetch_32 rfl hOK (by omega) (by assumption) rfl rfl ?_
    refine g_iload_n (q0 := 36) (j := 2) rfl dX2_fetch_35 rfl ?_
    refine g_callVp (as := [_]) (rest := [_]) mt_X10_filesAt mi_X10_filesAt se_X10_filesAt ml_X2_136 dX2_fetch_36 (q0 := 39) rfl rfl (by assumption) rfl rfl (sp_X10_filesAt hOK d4 hw) rfl ⟨by decide, by decide⟩ (Nat.le_of_ble_eq_true rfl) ⟨Nat.zero_le _, Nat.zero_le _⟩ (fun hwc => ?_)
    refine g_isub (q0 := 40) rfl dX2_fetch_39 (by omega) (by omega) ?_
    refine g_iload_n (q0 := 41) (j := 3) rfl dX2_fetch_40 rfl ?_
    refine g_iadd (q0 := 42) rfl dX2_fetch_41 (by omega) (by omega) ?_
    refine g_bipush (q0 := 44) rfl dX2_fetch_42 (k := ?_)
    refine g_icmp_le (q0 := 47) (tgt := 49) rfl dX2_fetch_44 (by decide) (fun h44 => ?_) (fun h44 => ?_)
    · refine g_aload_n (q0 := 50) (j := 0) rfl dX2_fetch_49 rfl ?_
      refine g_getp (q0 := 53) (b := a + 2) rfl ff_X2_20 dX2_fetch_50 rfl hOK (by omega) (by assumption) rfl rfl ?_
      refine g_iload_n (q0 := 54) (j := 2) rfl dX2_fetch_53 rfl ?_
      refine g_callVm (as := [_]) (rest := []) mt_X10_removeAt mi_X10_removeAt se_X10_removeAt ml_X2_142 dX2_fetch_54 (q0 := 57) rfl rfl (by assumption) rfl rfl (sp_X10_removeAt hOK d4 hw) rfl ⟨by decide, by decide⟩ (Nat.le_of_ble_eq_true rfl) ⟨Nat.zero_le _, Nat.zero_le _⟩ (fun r2 M2 hP2 hw2 hMw2 => ?_)
      obtain ⟨rfl, t1, hO2, t2⟩ := hP2
      refine g_iconst (q0 := 58) rfl dX2_fetch_57 (k := ?_)
      refine g_istore (q0 := 60) (j := 4) (lv2 := [_, _, _, _, _]) rfl dX2_fetch_58 (by decide) rfl rfl ?_
      exact lp os [] 0 _ M2 n1 (by omega) rfl rfl hUT rfl (by omega) t1 hO2 (fun b b0 b1 b2 => t2 b b0 b1 b2)
    · refine g_iconst (q0 := 48) rfl dX2_fetch_47 (k := ?_)
      refine g_ireturn dX2_fetch_48 rfl ⟨Nat.zero_le _, Nat.zero_le _⟩ ?_
      subst hQ
      rw [dFetch, if_neg n1, if_pos (by omega)]
      exact ⟨rfl, rfl, hD0, hOK, fun _ _ => rfl⟩
  refine gC_ofA (lv := [_, _, _, _, _]) (by decide +kernel) (Nat.le_of_ble_eq_true rfl) rfl (fun hMw hav => ?_)
  refine g_aload_n (q0 := 1) (j := 1) rfl dX2_fetch_0 rfl ?_
  refine g_iload_n (q0 := 2) (j := 2) rfl dX2_fetch_1 rfl ?_
  refine g_callVp (as := [_]) (rest := []) mt_X10_filesAt mi_X10_filesAt se_X10_filesAt ml_X2_136 dX2_fetch_2 (q0 := 5) rfl rfl (by assumption) rfl rfl (sp_X10_filesAt hOK hU hw) rfl ⟨by decide, by decide⟩ (Nat.le_of_ble_eq_true rfl) ⟨Nat.zero_le _, Nat.zero_le _⟩ (fun hwc => ?_)
  refine g_istore_n (q0 := 6) (j := 3) (lv2 := [_, _, _, _, _]) rfl dX2_fetch_5 (by decide) rfl rfl ?_
  refine g_iload_n (q0 := 7) (j := 3) rfl dX2_fetch_6 rfl ?_
  refine g_if_le (q0 := 10) (tgt := 24) rfl dX2_fetch_7 (by decide) (fun h7 => ?_) (fun h7 => ?_)
  · exact h24 (fun q => by omega)
  · refine g_aload_n (q0 := 11) (j := 0) rfl dX2_fetch_10 rfl ?_
    refine g_getp (q0 := 14) (b := a + 2) rfl ff_X2_20 dX2_fetch_11 rfl hOK (by omega) (by assumption) rfl rfl ?_
    refine g_iload_n (q0 := 15) (j := 2) rfl dX2_fetch_14 rfl ?_
    refine g_callVp (as := [_]) (rest := []) mt_X10_hasFileAhead mi_X10_hasFileAhead se_X10_hasFileAhead ml_X2_148 dX2_fetch_15 (q0 := 18) rfl rfl (by assumption) rfl rfl (sp_X10_hasFileAhead hOK d4 hw) rfl ⟨by decide, by decide⟩ (Nat.le_of_ble_eq_true rfl) ⟨Nat.zero_le _, Nat.zero_le _⟩ (fun hwc => ?_)
    refine g_if_eq (q0 := 21) (tgt := 24) rfl dX2_fetch_18 (by decide) (fun h18 => ?_) (fun h18 => ?_)
    · have q2 := bI_f h18
      exact h24 (fun q => by rw [q2] at q; exact absurd q.2 (by decide))
    · have q2 := bI_t h18
      refine g_bipush (q0 := 23) rfl dX2_fetch_21 (k := ?_)
      refine g_ireturn dX2_fetch_23 rfl ⟨Nat.zero_le _, Nat.zero_le _⟩ ?_
      subst hQ
      rw [dFetch, if_pos ⟨by omega, q2⟩]
      exact ⟨rfl, rfl, hD0, hOK, fun _ _ => rfl⟩
