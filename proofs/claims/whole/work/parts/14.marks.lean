-- ==== sets of COMMITS
theorem dX3_has_0 : decode cX3_has 0 = .ok (.iload_n 1, 1) := by decide +kernel
theorem dX3_has_1 : decode cX3_has 1 = .ok (.ifCond .lt 22, 3) := by decide +kernel
theorem dX3_has_4 : decode cX3_has 4 = .ok (.iload_n 1, 1) := by decide +kernel
theorem dX3_has_5 : decode cX3_has 5 = .ok (.aload_n 0, 1) := by decide +kernel
theorem dX3_has_6 : decode cX3_has 6 = .ok (.getfield 9, 3) := by decide +kernel
theorem dX3_has_9 : decode cX3_has 9 = .ok (.arraylength, 1) := by decide +kernel
theorem dX3_has_10 : decode cX3_has 10 = .ok (.if_icmp .ge 13, 3) := by decide +kernel
theorem dX3_has_13 : decode cX3_has 13 = .ok (.iload_n 2, 1) := by decide +kernel
theorem dX3_has_14 : decode cX3_has 14 = .ok (.ifCond .lt 9, 3) := by decide +kernel
theorem dX3_has_17 : decode cX3_has 17 = .ok (.iload_n 2, 1) := by decide +kernel
theorem dX3_has_18 : decode cX3_has 18 = .ok (.bipush 120, 2) := by decide +kernel
theorem dX3_has_20 : decode cX3_has 20 = .ok (.if_icmp .lt 5, 3) := by decide +kernel
theorem dX3_has_23 : decode cX3_has 23 = .ok (.iconst 0, 1) := by decide +kernel
theorem dX3_has_24 : decode cX3_has 24 = .ok (.ireturn, 1) := by decide +kernel
theorem dX3_has_25 : decode cX3_has 25 = .ok (.iload_n 2, 1) := by decide +kernel
theorem dX3_has_26 : decode cX3_has 26 = .ok (.bipush 64, 2) := by decide +kernel
theorem dX3_has_28 : decode cX3_has 28 = .ok (.if_icmp .ge 12, 3) := by decide +kernel
theorem dX3_has_31 : decode cX3_has 31 = .ok (.aload_n 0, 1) := by decide +kernel
theorem dX3_has_32 : decode cX3_has 32 = .ok (.getfield 9, 3) := by decide +kernel
theorem dX3_has_35 : decode cX3_has 35 = .ok (.iload_n 1, 1) := by decide +kernel
theorem dX3_has_36 : decode cX3_has 36 = .ok (.laload, 1) := by decide +kernel
theorem dX3_has_37 : decode cX3_has 37 = .ok (.goto 9, 3) := by decide +kernel
theorem dX3_has_40 : decode cX3_has 40 = .ok (.aload_n 0, 1) := by decide +kernel
theorem dX3_has_41 : decode cX3_has 41 = .ok (.getfield 15, 3) := by decide +kernel
theorem dX3_has_44 : decode cX3_has 44 = .ok (.iload_n 1, 1) := by decide +kernel
theorem dX3_has_45 : decode cX3_has 45 = .ok (.laload, 1) := by decide +kernel
theorem dX3_has_46 : decode cX3_has 46 = .ok (.iload_n 2, 1) := by decide +kernel
theorem dX3_has_47 : decode cX3_has 47 = .ok (.bipush 63, 2) := by decide +kernel
theorem dX3_has_49 : decode cX3_has 49 = .ok (.iand, 1) := by decide +kernel
theorem dX3_has_50 : decode cX3_has 50 = .ok (.lushr, 1) := by decide +kernel
theorem dX3_has_51 : decode cX3_has 51 = .ok (.lconst 1, 1) := by decide +kernel
theorem dX3_has_52 : decode cX3_has 52 = .ok (.land, 1) := by decide +kernel
theorem dX3_has_53 : decode cX3_has 53 = .ok (.lconst 0, 1) := by decide +kernel
theorem dX3_has_54 : decode cX3_has 54 = .ok (.lcmp, 1) := by decide +kernel
theorem dX3_has_55 : decode cX3_has 55 = .ok (.ifCond .eq 7, 3) := by decide +kernel
theorem dX3_has_58 : decode cX3_has 58 = .ok (.iconst 1, 1) := by decide +kernel
theorem dX3_has_59 : decode cX3_has 59 = .ok (.goto 4, 3) := by decide +kernel
theorem dX3_has_62 : decode cX3_has 62 = .ok (.iconst 0, 1) := by decide +kernel
theorem dX3_has_63 : decode cX3_has 63 = .ok (.ireturn, 1) := by decide +kernel
theorem dX3_put_0 : decode cX3_put 0 = .ok (.iload_n 2, 1) := by decide +kernel
theorem dX3_put_1 : decode cX3_put 1 = .ok (.bipush 64, 2) := by decide +kernel
theorem dX3_put_3 : decode cX3_put 3 = .ok (.if_icmp .ge 18, 3) := by decide +kernel
theorem dX3_put_6 : decode cX3_put 6 = .ok (.aload_n 0, 1) := by decide +kernel
theorem dX3_put_7 : decode cX3_put 7 = .ok (.getfield 9, 3) := by decide +kernel
theorem dX3_put_10 : decode cX3_put 10 = .ok (.iload_n 1, 1) := by decide +kernel
theorem dX3_put_11 : decode cX3_put 11 = .ok (.dup2, 1) := by decide +kernel
theorem dX3_put_12 : decode cX3_put 12 = .ok (.laload, 1) := by decide +kernel
theorem dX3_put_13 : decode cX3_put 13 = .ok (.lconst 1, 1) := by decide +kernel
theorem dX3_put_14 : decode cX3_put 14 = .ok (.iload_n 2, 1) := by decide +kernel
theorem dX3_put_15 : decode cX3_put 15 = .ok (.lshl, 1) := by decide +kernel
theorem dX3_put_16 : decode cX3_put 16 = .ok (.lor, 1) := by decide +kernel
theorem dX3_put_17 : decode cX3_put 17 = .ok (.lastore, 1) := by decide +kernel
theorem dX3_put_18 : decode cX3_put 18 = .ok (.goto 18, 3) := by decide +kernel
theorem dX3_put_21 : decode cX3_put 21 = .ok (.aload_n 0, 1) := by decide +kernel
theorem dX3_put_22 : decode cX3_put 22 = .ok (.getfield 15, 3) := by decide +kernel
theorem dX3_put_25 : decode cX3_put 25 = .ok (.iload_n 1, 1) := by decide +kernel
theorem dX3_put_26 : decode cX3_put 26 = .ok (.dup2, 1) := by decide +kernel
theorem dX3_put_27 : decode cX3_put 27 = .ok (.laload, 1) := by decide +kernel
theorem dX3_put_28 : decode cX3_put 28 = .ok (.lconst 1, 1) := by decide +kernel
theorem dX3_put_29 : decode cX3_put 29 = .ok (.iload_n 2, 1) := by decide +kernel
theorem dX3_put_30 : decode cX3_put 30 = .ok (.bipush 64, 2) := by decide +kernel
theorem dX3_put_32 : decode cX3_put 32 = .ok (.isub, 1) := by decide +kernel
theorem dX3_put_33 : decode cX3_put 33 = .ok (.lshl, 1) := by decide +kernel
theorem dX3_put_34 : decode cX3_put 34 = .ok (.lor, 1) := by decide +kernel
theorem dX3_put_35 : decode cX3_put 35 = .ok (.lastore, 1) := by decide +kernel
theorem dX3_put_36 : decode cX3_put 36 = .ok (.return_, 1) := by decide +kernel
theorem dX3_cut_0 : decode cX3_cut 0 = .ok (.iload_n 2, 1) := by decide +kernel
theorem dX3_cut_1 : decode cX3_cut 1 = .ok (.bipush 64, 2) := by decide +kernel
theorem dX3_cut_3 : decode cX3_cut 3 = .ok (.if_icmp .ge 22, 3) := by decide +kernel
theorem dX3_cut_6 : decode cX3_cut 6 = .ok (.aload_n 0, 1) := by decide +kernel
theorem dX3_cut_7 : decode cX3_cut 7 = .ok (.getfield 9, 3) := by decide +kernel
theorem dX3_cut_10 : decode cX3_cut 10 = .ok (.iload_n 1, 1) := by decide +kernel
theorem dX3_cut_11 : decode cX3_cut 11 = .ok (.dup2, 1) := by decide +kernel
theorem dX3_cut_12 : decode cX3_cut 12 = .ok (.laload, 1) := by decide +kernel
theorem dX3_cut_13 : decode cX3_cut 13 = .ok (.lconst 1, 1) := by decide +kernel
theorem dX3_cut_14 : decode cX3_cut 14 = .ok (.iload_n 2, 1) := by decide +kernel
theorem dX3_cut_15 : decode cX3_cut 15 = .ok (.lshl, 1) := by decide +kernel
theorem dX3_cut_16 : decode cX3_cut 16 = .ok (.ldc2_w 18, 3) := by decide +kernel
theorem dX3_cut_19 : decode cX3_cut 19 = .ok (.lxor, 1) := by decide +kernel
theorem dX3_cut_20 : decode cX3_cut 20 = .ok (.land, 1) := by decide +kernel
theorem dX3_cut_21 : decode cX3_cut 21 = .ok (.lastore, 1) := by decide +kernel
theorem dX3_cut_22 : decode cX3_cut 22 = .ok (.goto 22, 3) := by decide +kernel
theorem dX3_cut_25 : decode cX3_cut 25 = .ok (.aload_n 0, 1) := by decide +kernel
theorem dX3_cut_26 : decode cX3_cut 26 = .ok (.getfield 15, 3) := by decide +kernel
theorem dX3_cut_29 : decode cX3_cut 29 = .ok (.iload_n 1, 1) := by decide +kernel
theorem dX3_cut_30 : decode cX3_cut 30 = .ok (.dup2, 1) := by decide +kernel
theorem dX3_cut_31 : decode cX3_cut 31 = .ok (.laload, 1) := by decide +kernel
theorem dX3_cut_32 : decode cX3_cut 32 = .ok (.lconst 1, 1) := by decide +kernel
theorem dX3_cut_33 : decode cX3_cut 33 = .ok (.iload_n 2, 1) := by decide +kernel
theorem dX3_cut_34 : decode cX3_cut 34 = .ok (.bipush 64, 2) := by decide +kernel
theorem dX3_cut_36 : decode cX3_cut 36 = .ok (.isub, 1) := by decide +kernel
theorem dX3_cut_37 : decode cX3_cut 37 = .ok (.lshl, 1) := by decide +kernel
theorem dX3_cut_38 : decode cX3_cut 38 = .ok (.ldc2_w 18, 3) := by decide +kernel
theorem dX3_cut_41 : decode cX3_cut 41 = .ok (.lxor, 1) := by decide +kernel
theorem dX3_cut_42 : decode cX3_cut 42 = .ok (.land, 1) := by decide +kernel
theorem dX3_cut_43 : decode cX3_cut 43 = .ok (.lastore, 1) := by decide +kernel
theorem dX3_cut_44 : decode cX3_cut 44 = .ok (.return_, 1) := by decide +kernel
theorem dX3_clear_0 : decode cX3_clear 0 = .ok (.aload_n 0, 1) := by decide +kernel
theorem dX3_clear_1 : decode cX3_clear 1 = .ok (.getfield 9, 3) := by decide +kernel
theorem dX3_clear_4 : decode cX3_clear 4 = .ok (.iload_n 1, 1) := by decide +kernel
theorem dX3_clear_5 : decode cX3_clear 5 = .ok (.lconst 0, 1) := by decide +kernel
theorem dX3_clear_6 : decode cX3_clear 6 = .ok (.lastore, 1) := by decide +kernel
theorem dX3_clear_7 : decode cX3_clear 7 = .ok (.aload_n 0, 1) := by decide +kernel
theorem dX3_clear_8 : decode cX3_clear 8 = .ok (.getfield 15, 3) := by decide +kernel
theorem dX3_clear_11 : decode cX3_clear 11 = .ok (.iload_n 1, 1) := by decide +kernel
theorem dX3_clear_12 : decode cX3_clear 12 = .ok (.lconst 0, 1) := by decide +kernel
theorem dX3_clear_13 : decode cX3_clear 13 = .ok (.lastore, 1) := by decide +kernel
theorem dX3_clear_14 : decode cX3_clear 14 = .ok (.return_, 1) := by decide +kernel
theorem dX3_putAll_0 : decode cX3_putAll 0 = .ok (.aload_n 0, 1) := by decide +kernel
theorem dX3_putAll_1 : decode cX3_putAll 1 = .ok (.getfield 9, 3) := by decide +kernel
theorem dX3_putAll_4 : decode cX3_putAll 4 = .ok (.iload_n 1, 1) := by decide +kernel
theorem dX3_putAll_5 : decode cX3_putAll 5 = .ok (.dup2, 1) := by decide +kernel
theorem dX3_putAll_6 : decode cX3_putAll 6 = .ok (.laload, 1) := by decide +kernel
theorem dX3_putAll_7 : decode cX3_putAll 7 = .ok (.aload_n 2, 1) := by decide +kernel
theorem dX3_putAll_8 : decode cX3_putAll 8 = .ok (.getfield 9, 3) := by decide +kernel
theorem dX3_putAll_11 : decode cX3_putAll 11 = .ok (.iload_n 3, 1) := by decide +kernel
theorem dX3_putAll_12 : decode cX3_putAll 12 = .ok (.laload, 1) := by decide +kernel
theorem dX3_putAll_13 : decode cX3_putAll 13 = .ok (.lor, 1) := by decide +kernel
theorem dX3_putAll_14 : decode cX3_putAll 14 = .ok (.lastore, 1) := by decide +kernel
theorem dX3_putAll_15 : decode cX3_putAll 15 = .ok (.aload_n 0, 1) := by decide +kernel
theorem dX3_putAll_16 : decode cX3_putAll 16 = .ok (.getfield 15, 3) := by decide +kernel
theorem dX3_putAll_19 : decode cX3_putAll 19 = .ok (.iload_n 1, 1) := by decide +kernel
theorem dX3_putAll_20 : decode cX3_putAll 20 = .ok (.dup2, 1) := by decide +kernel
theorem dX3_putAll_21 : decode cX3_putAll 21 = .ok (.laload, 1) := by decide +kernel
theorem dX3_putAll_22 : decode cX3_putAll 22 = .ok (.aload_n 2, 1) := by decide +kernel
theorem dX3_putAll_23 : decode cX3_putAll 23 = .ok (.getfield 15, 3) := by decide +kernel
theorem dX3_putAll_26 : decode cX3_putAll 26 = .ok (.iload_n 3, 1) := by decide +kernel
theorem dX3_putAll_27 : decode cX3_putAll 27 = .ok (.laload, 1) := by decide +kernel
theorem dX3_putAll_28 : decode cX3_putAll 28 = .ok (.lor, 1) := by decide +kernel
theorem dX3_putAll_29 : decode cX3_putAll 29 = .ok (.lastore, 1) := by decide +kernel
theorem dX3_putAll_30 : decode cX3_putAll 30 = .ok (.return_, 1) := by decide +kernel
theorem dX3_cutAll_0 : decode cX3_cutAll 0 = .ok (.aload_n 0, 1) := by decide +kernel
theorem dX3_cutAll_1 : decode cX3_cutAll 1 = .ok (.getfield 9, 3) := by decide +kernel
theorem dX3_cutAll_4 : decode cX3_cutAll 4 = .ok (.iload_n 1, 1) := by decide +kernel
theorem dX3_cutAll_5 : decode cX3_cutAll 5 = .ok (.dup2, 1) := by decide +kernel
theorem dX3_cutAll_6 : decode cX3_cutAll 6 = .ok (.laload, 1) := by decide +kernel
theorem dX3_cutAll_7 : decode cX3_cutAll 7 = .ok (.aload_n 2, 1) := by decide +kernel
theorem dX3_cutAll_8 : decode cX3_cutAll 8 = .ok (.getfield 9, 3) := by decide +kernel
theorem dX3_cutAll_11 : decode cX3_cutAll 11 = .ok (.iload_n 3, 1) := by decide +kernel
theorem dX3_cutAll_12 : decode cX3_cutAll 12 = .ok (.laload, 1) := by decide +kernel
theorem dX3_cutAll_13 : decode cX3_cutAll 13 = .ok (.ldc2_w 18, 3) := by decide +kernel
theorem dX3_cutAll_16 : decode cX3_cutAll 16 = .ok (.lxor, 1) := by decide +kernel
theorem dX3_cutAll_17 : decode cX3_cutAll 17 = .ok (.land, 1) := by decide +kernel
theorem dX3_cutAll_18 : decode cX3_cutAll 18 = .ok (.lastore, 1) := by decide +kernel
theorem dX3_cutAll_19 : decode cX3_cutAll 19 = .ok (.aload_n 0, 1) := by decide +kernel
theorem dX3_cutAll_20 : decode cX3_cutAll 20 = .ok (.getfield 15, 3) := by decide +kernel
theorem dX3_cutAll_23 : decode cX3_cutAll 23 = .ok (.iload_n 1, 1) := by decide +kernel
theorem dX3_cutAll_24 : decode cX3_cutAll 24 = .ok (.dup2, 1) := by decide +kernel
theorem dX3_cutAll_25 : decode cX3_cutAll 25 = .ok (.laload, 1) := by decide +kernel
theorem dX3_cutAll_26 : decode cX3_cutAll 26 = .ok (.aload_n 2, 1) := by decide +kernel
theorem dX3_cutAll_27 : decode cX3_cutAll 27 = .ok (.getfield 15, 3) := by decide +kernel
theorem dX3_cutAll_30 : decode cX3_cutAll 30 = .ok (.iload_n 3, 1) := by decide +kernel
theorem dX3_cutAll_31 : decode cX3_cutAll 31 = .ok (.laload, 1) := by decide +kernel
theorem dX3_cutAll_32 : decode cX3_cutAll 32 = .ok (.ldc2_w 18, 3) := by decide +kernel
theorem dX3_cutAll_35 : decode cX3_cutAll 35 = .ok (.lxor, 1) := by decide +kernel
theorem dX3_cutAll_36 : decode cX3_cutAll 36 = .ok (.land, 1) := by decide +kernel
theorem dX3_cutAll_37 : decode cX3_cutAll 37 = .ok (.lastore, 1) := by decide +kernel
theorem dX3_cutAll_38 : decode cX3_cutAll 38 = .ok (.return_, 1) := by decide +kernel
theorem dX3_onlyIn_0 : decode cX3_onlyIn 0 = .ok (.aload_n 0, 1) := by decide +kernel
theorem dX3_onlyIn_1 : decode cX3_onlyIn 1 = .ok (.getfield 9, 3) := by decide +kernel
theorem dX3_onlyIn_4 : decode cX3_onlyIn 4 = .ok (.iload_n 1, 1) := by decide +kernel
theorem dX3_onlyIn_5 : decode cX3_onlyIn 5 = .ok (.dup2, 1) := by decide +kernel
theorem dX3_onlyIn_6 : decode cX3_onlyIn 6 = .ok (.laload, 1) := by decide +kernel
theorem dX3_onlyIn_7 : decode cX3_onlyIn 7 = .ok (.aload_n 2, 1) := by decide +kernel
theorem dX3_onlyIn_8 : decode cX3_onlyIn 8 = .ok (.getfield 9, 3) := by decide +kernel
theorem dX3_onlyIn_11 : decode cX3_onlyIn 11 = .ok (.iload_n 3, 1) := by decide +kernel
theorem dX3_onlyIn_12 : decode cX3_onlyIn 12 = .ok (.laload, 1) := by decide +kernel
theorem dX3_onlyIn_13 : decode cX3_onlyIn 13 = .ok (.land, 1) := by decide +kernel
theorem dX3_onlyIn_14 : decode cX3_onlyIn 14 = .ok (.lastore, 1) := by decide +kernel
theorem dX3_onlyIn_15 : decode cX3_onlyIn 15 = .ok (.aload_n 0, 1) := by decide +kernel
theorem dX3_onlyIn_16 : decode cX3_onlyIn 16 = .ok (.getfield 15, 3) := by decide +kernel
theorem dX3_onlyIn_19 : decode cX3_onlyIn 19 = .ok (.iload_n 1, 1) := by decide +kernel
theorem dX3_onlyIn_20 : decode cX3_onlyIn 20 = .ok (.dup2, 1) := by decide +kernel
theorem dX3_onlyIn_21 : decode cX3_onlyIn 21 = .ok (.laload, 1) := by decide +kernel
theorem dX3_onlyIn_22 : decode cX3_onlyIn 22 = .ok (.aload_n 2, 1) := by decide +kernel
theorem dX3_onlyIn_23 : decode cX3_onlyIn 23 = .ok (.getfield 15, 3) := by decide +kernel
theorem dX3_onlyIn_26 : decode cX3_onlyIn 26 = .ok (.iload_n 3, 1) := by decide +kernel
theorem dX3_onlyIn_27 : decode cX3_onlyIn 27 = .ok (.laload, 1) := by decide +kernel
theorem dX3_onlyIn_28 : decode cX3_onlyIn 28 = .ok (.land, 1) := by decide +kernel
theorem dX3_onlyIn_29 : decode cX3_onlyIn 29 = .ok (.lastore, 1) := by decide +kernel
theorem dX3_onlyIn_30 : decode cX3_onlyIn 30 = .ok (.return_, 1) := by decide +kernel
theorem dX3_size_0 : decode cX3_size 0 = .ok (.aload_n 0, 1) := by decide +kernel
theorem dX3_size_1 : decode cX3_size 1 = .ok (.getfield 9, 3) := by decide +kernel
theorem dX3_size_4 : decode cX3_size 4 = .ok (.iload_n 1, 1) := by decide +kernel
theorem dX3_size_5 : decode cX3_size 5 = .ok (.laload, 1) := by decide +kernel
theorem dX3_size_6 : decode cX3_size 6 = .ok (.invokestatic 20, 3) := by decide +kernel
theorem dX3_size_9 : decode cX3_size 9 = .ok (.aload_n 0, 1) := by decide +kernel
theorem dX3_size_10 : decode cX3_size 10 = .ok (.getfield 15, 3) := by decide +kernel
theorem dX3_size_13 : decode cX3_size 13 = .ok (.iload_n 1, 1) := by decide +kernel
theorem dX3_size_14 : decode cX3_size 14 = .ok (.laload, 1) := by decide +kernel
theorem dX3_size_15 : decode cX3_size 15 = .ok (.invokestatic 20, 3) := by decide +kernel
theorem dX3_size_18 : decode cX3_size 18 = .ok (.iadd, 1) := by decide +kernel
theorem dX3_size_19 : decode cX3_size 19 = .ok (.ireturn, 1) := by decide +kernel
theorem dX3_sizeInBoth_0 : decode cX3_sizeInBoth 0 = .ok (.aload_n 0, 1) := by decide +kernel
theorem dX3_sizeInBoth_1 : decode cX3_sizeInBoth 1 = .ok (.getfield 9, 3) := by decide +kernel
theorem dX3_sizeInBoth_4 : decode cX3_sizeInBoth 4 = .ok (.iload_n 1, 1) := by decide +kernel
theorem dX3_sizeInBoth_5 : decode cX3_sizeInBoth 5 = .ok (.laload, 1) := by decide +kernel
theorem dX3_sizeInBoth_6 : decode cX3_sizeInBoth 6 = .ok (.aload_n 2, 1) := by decide +kernel
theorem dX3_sizeInBoth_7 : decode cX3_sizeInBoth 7 = .ok (.getfield 9, 3) := by decide +kernel
theorem dX3_sizeInBoth_10 : decode cX3_sizeInBoth 10 = .ok (.iload_n 3, 1) := by decide +kernel
theorem dX3_sizeInBoth_11 : decode cX3_sizeInBoth 11 = .ok (.laload, 1) := by decide +kernel
theorem dX3_sizeInBoth_12 : decode cX3_sizeInBoth 12 = .ok (.land, 1) := by decide +kernel
theorem dX3_sizeInBoth_13 : decode cX3_sizeInBoth 13 = .ok (.invokestatic 20, 3) := by decide +kernel
theorem dX3_sizeInBoth_16 : decode cX3_sizeInBoth 16 = .ok (.aload_n 0, 1) := by decide +kernel
theorem dX3_sizeInBoth_17 : decode cX3_sizeInBoth 17 = .ok (.getfield 15, 3) := by decide +kernel
theorem dX3_sizeInBoth_20 : decode cX3_sizeInBoth 20 = .ok (.iload_n 1, 1) := by decide +kernel
theorem dX3_sizeInBoth_21 : decode cX3_sizeInBoth 21 = .ok (.laload, 1) := by decide +kernel
theorem dX3_sizeInBoth_22 : decode cX3_sizeInBoth 22 = .ok (.aload_n 2, 1) := by decide +kernel
theorem dX3_sizeInBoth_23 : decode cX3_sizeInBoth 23 = .ok (.getfield 15, 3) := by decide +kernel
theorem dX3_sizeInBoth_26 : decode cX3_sizeInBoth 26 = .ok (.iload_n 3, 1) := by decide +kernel
theorem dX3_sizeInBoth_27 : decode cX3_sizeInBoth 27 = .ok (.laload, 1) := by decide +kernel
theorem dX3_sizeInBoth_28 : decode cX3_sizeInBoth 28 = .ok (.land, 1) := by decide +kernel
theorem dX3_sizeInBoth_29 : decode cX3_sizeInBoth 29 = .ok (.invokestatic 20, 3) := by decide +kernel
theorem dX3_sizeInBoth_32 : decode cX3_sizeInBoth 32 = .ok (.iadd, 1) := by decide +kernel
theorem dX3_sizeInBoth_33 : decode cX3_sizeInBoth 33 = .ok (.ireturn, 1) := by decide +kernel
theorem dX3_nth_0 : decode cX3_nth 0 = .ok (.iload_n 2, 1) := by decide +kernel
theorem dX3_nth_1 : decode cX3_nth 1 = .ok (.istore_n 3, 1) := by decide +kernel
theorem dX3_nth_2 : decode cX3_nth 2 = .ok (.iconst 0, 1) := by decide +kernel
theorem dX3_nth_3 : decode cX3_nth 3 = .ok (.istore 4, 2) := by decide +kernel
theorem dX3_nth_5 : decode cX3_nth 5 = .ok (.iload 4, 2) := by decide +kernel
theorem dX3_nth_7 : decode cX3_nth 7 = .ok (.bipush 120, 2) := by decide +kernel
theorem dX3_nth_9 : decode cX3_nth 9 = .ok (.if_icmp .ge 29, 3) := by decide +kernel
theorem dX3_nth_12 : decode cX3_nth 12 = .ok (.aload_n 0, 1) := by decide +kernel
theorem dX3_nth_13 : decode cX3_nth 13 = .ok (.iload_n 1, 1) := by decide +kernel
theorem dX3_nth_14 : decode cX3_nth 14 = .ok (.iload 4, 2) := by decide +kernel
theorem dX3_nth_16 : decode cX3_nth 16 = .ok (.invokevirtual 26, 3) := by decide +kernel
theorem dX3_nth_19 : decode cX3_nth 19 = .ok (.ifCond .eq 13, 3) := by decide +kernel
theorem dX3_nth_22 : decode cX3_nth 22 = .ok (.iload_n 3, 1) := by decide +kernel
theorem dX3_nth_23 : decode cX3_nth 23 = .ok (.ifCond .ne 6, 3) := by decide +kernel
theorem dX3_nth_26 : decode cX3_nth 26 = .ok (.iload 4, 2) := by decide +kernel
theorem dX3_nth_28 : decode cX3_nth 28 = .ok (.ireturn, 1) := by decide +kernel
theorem dX3_nth_29 : decode cX3_nth 29 = .ok (.iinc 3 (-1), 3) := by decide +kernel
theorem dX3_nth_32 : decode cX3_nth 32 = .ok (.iinc 4 1, 3) := by decide +kernel
theorem dX3_nth_35 : decode cX3_nth 35 = .ok (.goto (-30), 3) := by decide +kernel
theorem dX3_nth_38 : decode cX3_nth 38 = .ok (.iconst (-1), 1) := by decide +kernel
theorem dX3_nth_39 : decode cX3_nth 39 = .ok (.ireturn, 1) := by decide +kernel
def mSh (sh : gS) (a : Int) (n : Nat) : Prop := gsh sh a = some (0, 4) ∧ gsh sh (a + 1) = some (4, n) ∧ gsh sh (a + 2) = some (4, n) ∧ a < 758 ∧ n ≤ 120
/-- the set in a row -/
def mB (M : gM) (a r : Int) (k : Nat) : Bool := if k < 64 then tb (M (a + 1) r) k else tb (M (a + 2) r) (k - 64)
def mHas (M : gM) (a r k : Int) : Bool := decide (0 ≤ k) && decide (k < 120) && mB M a r k.toNat
def mIs (M : gM) (a r : Int) (S : Nat → Bool) : Prop := ∀ k, k < 128 → mB M a r k = S k
/-- only one row of the set is another one -/
def mPost (sh : gS) (M : gM) (a r : Int) (S : Nat → Bool) (M1 : gM) : Prop :=
  mIs M1 a r S ∧ gOK sh M1 ∧ (∀ b : Int, b ≠ a + 1 → b ≠ a + 2 → M1 b = M b) ∧ ∀ q : Int, q ≠ r → M1 (a + 1) q = M (a + 1) q ∧ M1 (a + 2) q = M (a + 2) q
theorem mB_row {M M1 : gM} {a r : Int} (h : M1 (a + 1) r = M (a + 1) r ∧ M1 (a + 2) r = M (a + 2) r) : mB M1 a r = mB M a r := by
  funext k
  unfold mB
  rw [h.1, h.2]
theorem mHas_of {M : gM} {a r : Int} {S : Nat → Bool} (h : mIs M a r S) (k : Nat) (hk : k < 120) : mHas M a r (k : Int) = S k := by
  unfold mHas
  rw [Int.toNat_natCast, h k (by omega), decide_eq_true (by omega), decide_eq_true (by omega)]
  rfl
theorem tb_or (x y : Int) (k : Nat) : tb (glor x y) k = (tb x k || tb y k) := by
  unfold tb glor
  rw [Int64.ofInt_toInt, Int64.toBitVec_or, BitVec.getLsbD_or]
theorem tb_and (x y : Int) (k : Nat) : tb (gland x y) k = (tb x k && tb y k) := by
  unfold tb gland
  rw [Int64.ofInt_toInt, Int64.toBitVec_and, BitVec.getLsbD_and]
theorem tb_m1 : ∀ k : Nat, k < 64 → tb (-1) k = true := by decide +kernel
theorem tb_0 (k : Nat) : tb 0 k = false := by
  unfold tb
  rw [show (Int64.ofInt 0).toBitVec = 0#64 from rfl, BitVec.getLsbD_zero]
theorem tb_not (x : Int) {k : Nat} (hk : k < 64) : tb (glxor x (-1)) k = !tb x k := by
  have h := tb_m1 k hk
  unfold tb at h
  unfold tb glxor
  rw [Int64.ofInt_toInt, Int64.toBitVec_xor, BitVec.getLsbD_xor, h]
  simp
theorem tb_shl_all : ∀ n : Nat, n < 64 → ∀ k : Nat, k < 64 → tb (glshl 1 (n : Int)) k = decide (k = n) := by decide +kernel
theorem us64_all : ∀ n : Nat, n < 64 → (((Int32.ofInt (n : Int)).toInt64.toUInt64 &&& Int64.toUInt64 63).toBitVec % 64).toNat = n := by decide +kernel
theorem tb_has (x : Int) {n : Nat} (hn : n < 64) : gland (glushr x (n : Int)) 1 = bI (tb x n) := by
  have e : (Int64.ofInt (glushr x (n : Int)) &&& Int64.ofInt 1).toBitVec = if tb x n then 1#64 else 0#64 := by
    rw [Int64.toBitVec_and, glushr_bv x (n : Int) n (us64_all n hn)]
    apply BitVec.eq_of_getLsbD_eq
    intro i hi
    rw [BitVec.getLsbD_and, BitVec.getLsbD_ushiftRight]
    show (_ && (1#64).getLsbD i) = _
    rw [BitVec.getLsbD_one]
    by_cases h0 : i = 0
    · subst h0
      show (tb x (n + 0) && _) = _
      rw [Nat.add_zero]
      cases tb x n <;> simp
    · have : decide (i = 0) = false := by simp [h0]
      simp only [h0, decide_false, Bool.and_false]
      cases tb x n
      · simp
      · simp [BitVec.getLsbD_one, h0]
  unfold gland
  show (Int64.ofInt (glushr x (n : Int)) &&& Int64.ofInt 1).toBitVec.toInt = _
  rw [e]
  cases tb x n <;> rfl
theorem glcmp_b (b : Bool) : glcmp (bI b) 0 = bI b := by cases b <;> decide +kernel
theorem g63_all : ∀ n : Nat, n < 128 → gand (n : Int) 63 = ((n % 64 : Nat) : Int) := by decide +kernel
theorem sp_X3_has {sh : gS} {M : gM} {a r k : Int} {n : Nat} (hOK : gOK sh M) (hT : mSh sh a n) (hr : 0 ≤ r ∧ r < n) :
    gC (gr 0 0) yX3_has cX3_has 3 (some (.boolean)) [(4, a), (0, r), (0, k)] sh M (gPp sh M (0, bI (mHas M a r k))) := by
  obtain ⟨hs0, hs1, hs2, hlt, hn⟩ := hT
  refine gC_ofA (lv := [_, _, _]) (by decide +kernel) (Nat.le_of_ble_eq_true rfl) rfl (fun hMw hav => ?_)
  have h23 : (k < 0 ∨ 120 ≤ k) → gA (gr 0 0) yX3_has cX3_has 3 (some (.boolean)) (gPp sh M (0, bI (mHas M a r k))) (0, 0) 23 [(4, a), (0, r), (0, k)] [] sh M := by
    intro hk
    refine g_iconst (q0 := 24) rfl dX3_has_23 (k := ?_)
    refine g_zreturn dX3_has_24 rfl (by first | rfl | exact gnz (by omega)) ⟨Nat.zero_le _, Nat.zero_le _⟩ ?_
    refine ⟨?_, rfl, rfl⟩
    have : mHas M a r k = false := by
      unfold mHas
      rcases hk with h | h
      · rw [show decide (0 ≤ k) = false from by simp; omega]; rfl
      · rw [show decide (k < 120) = false from by simp; omega]; simp
    rw [this]; rfl
  refine g_iload_n (q0 := 1) (j := 1) rfl dX3_has_0 rfl ?_
  refine g_if_lt (q0 := 4) (tgt := 23) rfl dX3_has_1 (by decide) (fun h1 => ?_) (fun h1 => ?_)
  · omega
  · refine g_iload_n (q0 := 5) (j := 1) rfl dX3_has_4 rfl ?_
    refine g_aload_n (q0 := 6) (j := 0) rfl dX3_has_5 rfl ?_
    refine g_getp (q0 := 9) (b := a + 1) rfl ff_X3_9 dX3_has_6 rfl hOK (by omega) (by assumption) rfl rfl ?_
    refine g_alen (q0 := 10) rfl dX3_has_9 (by assumption) (by omega) ⟨_, rfl⟩ ?_
    refine g_icmp_ge (q0 := 13) (tgt := 23) rfl dX3_has_10 (by decide) (fun h10 => ?_) (fun h10 => ?_)
    · omega
    · refine g_iload_n (q0 := 14) (j := 2) rfl dX3_has_13 rfl ?_
      refine g_if_lt (q0 := 17) (tgt := 23) rfl dX3_has_14 (by decide) (fun h14 => ?_) (fun h14 => ?_)
      · exact h23 (Or.inl h14)
      · refine g_iload_n (q0 := 18) (j := 2) rfl dX3_has_17 rfl ?_
        refine g_bipush (q0 := 20) rfl dX3_has_18 (k := ?_)
        refine g_icmp_lt (q0 := 23) (tgt := 25) rfl dX3_has_20 (by decide) (fun h20 => ?_) (fun h20 => ?_)
        · obtain ⟨m, rfl⟩ : ∃ m : Nat, k = (m : Int) := ⟨k.toNat, by omega⟩
          have hmh : mHas M a r (m : Int) = mB M a r m := by
            exact mHas_of (fun _ _ => rfl) m (by omega)
          rw [hmh]
          clear hmh
          unfold mB
          refine g_iload_n (q0 := 26) (j := 2) rfl dX3_has_25 rfl ?_
          refine g_bipush (q0 := 28) rfl dX3_has_26 (k := ?_)
          refine g_icmp_ge (q0 := 31) (tgt := 40) rfl dX3_has_28 (by decide) (fun h28 => ?_) (fun h28 => ?_)
          · rw [if_neg (by omega)]
            refine g_aload_n (q0 := 41) (j := 0) rfl dX3_has_40 rfl ?_
            refine g_getp (q0 := 44) (b := a + 2) rfl ff_X3_15 dX3_has_41 rfl hOK (by omega) (by assumption) rfl rfl ?_
            refine g_iload_n (q0 := 45) (j := 1) rfl dX3_has_44 rfl ?_
            refine g_lald (q0 := 46) rfl dX3_has_45 (by assumption) (by omega) (by omega) ?_
            refine g_iload_n (q0 := 47) (j := 2) rfl dX3_has_46 rfl ?_
            refine g_bipush (q0 := 49) rfl dX3_has_47 (k := ?_)
            refine g_iand (q0 := 50) rfl dX3_has_49 ?_
            refine g_lushr (q0 := 51) rfl dX3_has_50 ?_
            refine g_lconst (q0 := 52) (z := 1) rfl dX3_has_51 (k := ?_)
            refine g_land (q0 := 53) rfl dX3_has_52 ?_
            refine g_lconst (q0 := 54) (z := 0) rfl dX3_has_53 (k := ?_)
            refine g_lcmp (q0 := 55) rfl dX3_has_54 ?_
            refine g_if_eq (q0 := 58) (tgt := 62) rfl dX3_has_55 (by decide) (fun h55 => ?_) (fun h55 => ?_)
            · rw [g63_all m (by omega), tb_has _ (by omega), glcmp_b, show m % 64 = m - 64 by omega] at h55
              refine g_iconst (q0 := 63) rfl dX3_has_62 (k := ?_)
              refine g_zreturn dX3_has_63 rfl (by first | rfl | exact gnz (by omega)) ⟨Nat.zero_le _, Nat.zero_le _⟩ ?_
              exact ⟨by rw [bI_f h55]; rfl, rfl, rfl⟩
            · rw [g63_all m (by omega), tb_has _ (by omega), glcmp_b, show m % 64 = m - 64 by omega] at h55
              refine g_iconst (q0 := 59) rfl dX3_has_58 (k := ?_)
              refine g_goto (tgt := 63) dX3_has_59 (by decide) ?_
              refine g_zreturn dX3_has_63 rfl (by first | rfl | exact gnz (by omega)) ⟨Nat.zero_le _, Nat.zero_le _⟩ ?_
              exact ⟨by rw [bI_t h55]; rfl, rfl, rfl⟩
          · rw [if_pos (by omega)]
            refine g_aload_n (q0 := 32) (j := 0) rfl dX3_has_31 rfl ?_
            refine g_getp (q0 := 35) (b := a + 1) rfl ff_X3_9 dX3_has_32 rfl hOK (by omega) (by assumption) rfl rfl ?_
            refine g_iload_n (q0 := 36) (j := 1) rfl dX3_has_35 rfl ?_
            refine g_lald (q0 := 37) rfl dX3_has_36 (by assumption) (by omega) (by omega) ?_
            refine g_goto (tgt := 46) dX3_has_37 (by decide) ?_
            refine g_iload_n (q0 := 47) (j := 2) rfl dX3_has_46 rfl ?_
            refine g_bipush (q0 := 49) rfl dX3_has_47 (k := ?_)
            refine g_iand (q0 := 50) rfl dX3_has_49 ?_
            refine g_lushr (q0 := 51) rfl dX3_has_50 ?_
            refine g_lconst (q0 := 52) (z := 1) rfl dX3_has_51 (k := ?_)
            refine g_land (q0 := 53) rfl dX3_has_52 ?_
            refine g_lconst (q0 := 54) (z := 0) rfl dX3_has_53 (k := ?_)
            refine g_lcmp (q0 := 55) rfl dX3_has_54 ?_
            refine g_if_eq (q0 := 58) (tgt := 62) rfl dX3_has_55 (by decide) (fun h55 => ?_) (fun h55 => ?_)
            · rw [g63_all m (by omega), tb_has _ (by omega), glcmp_b, show m % 64 = m by omega] at h55
              refine g_iconst (q0 := 63) rfl dX3_has_62 (k := ?_)
              refine g_zreturn dX3_has_63 rfl (by first | rfl | exact gnz (by omega)) ⟨Nat.zero_le _, Nat.zero_le _⟩ ?_
              exact ⟨by rw [bI_f h55]; rfl, rfl, rfl⟩
            · rw [g63_all m (by omega), tb_has _ (by omega), glcmp_b, show m % 64 = m by omega] at h55
              refine g_iconst (q0 := 59) rfl dX3_has_58 (k := ?_)
              refine g_goto (tgt := 63) dX3_has_59 (by decide) ?_
              refine g_zreturn dX3_has_63 rfl (by first | rfl | exact gnz (by omega)) ⟨Nat.zero_le _, Nat.zero_le _⟩ ?_
              exact ⟨by rw [bI_t h55]; rfl, rfl, rfl⟩
        · exact h23 (Or.inr (by omega))
theorem sp_X3_put {sh : gS} {M : gM} {a r : Int} {k n : Nat} (hOK : gOK sh M) (hT : mSh sh a n) (hr : 0 ≤ r ∧ r < n) (hk : k < 120) :
    gC (gr 0 0) yX3_put cX3_put 3 none [(4, a), (0, r), (0, (k : Int))] sh M (gPm sh (fun x M1 => x = none ∧ mPost sh M a r (fun j => mB M a r j || decide (j = k)) M1)) := by
  obtain ⟨hs0, hs1, hs2, hlt, hn⟩ := hT
  refine gC_ofA (lv := [_, _, _]) (by decide +kernel) (Nat.le_of_ble_eq_true rfl) rfl (fun hMw hav => ?_)
  refine g_iload_n (q0 := 1) (j := 2) rfl dX3_put_0 rfl ?_
  refine g_bipush (q0 := 3) rfl dX3_put_1 (k := ?_)
  refine g_icmp_ge (q0 := 6) (tgt := 21) rfl dX3_put_3 (by decide) (fun h3 => ?_) (fun h3 => ?_)
  · refine g_aload_n (q0 := 22) (j := 0) rfl dX3_put_21 rfl ?_
    refine g_getp (q0 := 25) (b := a + 2) rfl ff_X3_15 dX3_put_22 rfl hOK (by omega) (by assumption) rfl rfl ?_
    refine g_iload_n (q0 := 26) (j := 1) rfl dX3_put_25 rfl ?_
    refine g_dup2 (q0 := 27) rfl dX3_put_26 (k := ?_)
    refine g_lald (q0 := 28) rfl dX3_put_27 (by assumption) (by omega) (by omega) ?_
    refine g_lconst (q0 := 29) (z := 1) rfl dX3_put_28 (k := ?_)
    refine g_iload_n (q0 := 30) (j := 2) rfl dX3_put_29 rfl ?_
    refine g_bipush (q0 := 32) rfl dX3_put_30 (k := ?_)
    refine g_isub (q0 := 33) rfl dX3_put_32 (by omega) (by omega) ?_
    refine g_lshl (q0 := 34) rfl dX3_put_33 ?_
    refine g_lor (q0 := 35) rfl dX3_put_34 ?_
    refine g_last (q0 := 36) rfl dX3_put_35 (by assumption) (by omega) (by omega) ?_
    refine g_return dX3_put_36 rfl ⟨Nat.zero_le _, Nat.zero_le _⟩ ?_
    rw [show (k : Int) - 64 = ((k - 64 : Nat) : Int) by omega]
    refine ⟨rfl, rfl, fun j hj => ?_, gOK_l hOK hs2, fun b b1 b2 => by rw [gU_cell _ _ _ b2], fun q hq => ?_⟩
    · unfold mB
      simp (disch := omega) only [gU_cel, gU_same]
      by_cases h : j < 64
      · rw [if_pos h, if_pos h, decide_eq_false (p := j = k) (by omega)]; simp
      · rw [if_neg h, if_neg h, tb_or, tb_shl_all _ (by omega) _ (by omega)]
        congr 1
        exact decide_eq_decide.mpr (by omega)
    · simp (disch := omega) only [gU_cel, gU_idx]; exact ⟨trivial, trivial⟩
  · refine g_aload_n (q0 := 7) (j := 0) rfl dX3_put_6 rfl ?_
    refine g_getp (q0 := 10) (b := a + 1) rfl ff_X3_9 dX3_put_7 rfl hOK (by omega) (by assumption) rfl rfl ?_
    refine g_iload_n (q0 := 11) (j := 1) rfl dX3_put_10 rfl ?_
    refine g_dup2 (q0 := 12) rfl dX3_put_11 (k := ?_)
    refine g_lald (q0 := 13) rfl dX3_put_12 (by assumption) (by omega) (by omega) ?_
    refine g_lconst (q0 := 14) (z := 1) rfl dX3_put_13 (k := ?_)
    refine g_iload_n (q0 := 15) (j := 2) rfl dX3_put_14 rfl ?_
    refine g_lshl (q0 := 16) rfl dX3_put_15 ?_
    refine g_lor (q0 := 17) rfl dX3_put_16 ?_
    refine g_last (q0 := 18) rfl dX3_put_17 (by assumption) (by omega) (by omega) ?_
    refine g_goto (tgt := 36) dX3_put_18 (by decide) ?_
    refine g_return dX3_put_36 rfl ⟨Nat.zero_le _, Nat.zero_le _⟩ ?_
    refine ⟨rfl, rfl, fun j hj => ?_, gOK_l hOK hs1, fun b b1 b2 => by rw [gU_cell _ _ _ b1], fun q hq => ?_⟩
    · unfold mB
      simp (disch := omega) only [gU_cel, gU_same]
      by_cases h : j < 64
      · rw [if_pos h, if_pos h, tb_or, tb_shl_all _ (by omega) _ (by omega)]
      · rw [if_neg h, if_neg h, decide_eq_false (p := j = k) (by omega)]; simp
    · simp (disch := omega) only [gU_cel, gU_idx]; exact ⟨trivial, trivial⟩
theorem sp_X3_cut {sh : gS} {M : gM} {a r : Int} {k n : Nat} (hOK : gOK sh M) (hT : mSh sh a n) (hr : 0 ≤ r ∧ r < n) (hk : k < 120) :
    gC (gr 0 0) yX3_cut cX3_cut 3 none [(4, a), (0, r), (0, (k : Int))] sh M (gPm sh (fun x M1 => x = none ∧ mPost sh M a r (fun j => mB M a r j && !decide (j = k)) M1)) := by
  obtain ⟨hs0, hs1, hs2, hlt, hn⟩ := hT
  refine gC_ofA (lv := [_, _, _]) (by decide +kernel) (Nat.le_of_ble_eq_true rfl) rfl (fun hMw hav => ?_)
  refine g_iload_n (q0 := 1) (j := 2) rfl dX3_cut_0 rfl ?_
  refine g_bipush (q0 := 3) rfl dX3_cut_1 (k := ?_)
  refine g_icmp_ge (q0 := 6) (tgt := 25) rfl dX3_cut_3 (by decide) (fun h3 => ?_) (fun h3 => ?_)
  · refine g_aload_n (q0 := 26) (j := 0) rfl dX3_cut_25 rfl ?_
    refine g_getp (q0 := 29) (b := a + 2) rfl ff_X3_15 dX3_cut_26 rfl hOK (by omega) (by assumption) rfl rfl ?_
    refine g_iload_n (q0 := 30) (j := 1) rfl dX3_cut_29 rfl ?_
    refine g_dup2 (q0 := 31) rfl dX3_cut_30 (k := ?_)
    refine g_lald (q0 := 32) rfl dX3_cut_31 (by assumption) (by omega) (by omega) ?_
    refine g_lconst (q0 := 33) (z := 1) rfl dX3_cut_32 (k := ?_)
    refine g_iload_n (q0 := 34) (j := 2) rfl dX3_cut_33 rfl ?_
    refine g_bipush (q0 := 36) rfl dX3_cut_34 (k := ?_)
    refine g_isub (q0 := 37) rfl dX3_cut_36 (by omega) (by omega) ?_
    refine g_lshl (q0 := 38) rfl dX3_cut_37 ?_
    refine g_ldc2 (q0 := 41) (n := -1) rfl co_X3_18 dX3_cut_38 (k := ?_)
    refine g_lxor (q0 := 42) rfl dX3_cut_41 ?_
    refine g_land (q0 := 43) rfl dX3_cut_42 ?_
    refine g_last (q0 := 44) rfl dX3_cut_43 (by assumption) (by omega) (by omega) ?_
    refine g_return dX3_cut_44 rfl ⟨Nat.zero_le _, Nat.zero_le _⟩ ?_
    rw [show (k : Int) - 64 = ((k - 64 : Nat) : Int) by omega]
    refine ⟨rfl, rfl, fun j hj => ?_, gOK_l hOK hs2, fun b b1 b2 => by rw [gU_cell _ _ _ b2], fun q hq => ?_⟩
    · unfold mB
      simp (disch := omega) only [gU_cel, gU_same]
      by_cases h : j < 64
      · rw [if_pos h, if_pos h, decide_eq_false (p := j = k) (by omega)]; simp
      · rw [if_neg h, if_neg h, tb_and, tb_not _ (by omega), tb_shl_all _ (by omega) _ (by omega)]
        congr 2
        exact decide_eq_decide.mpr (by omega)
    · simp (disch := omega) only [gU_cel, gU_idx]; exact ⟨trivial, trivial⟩
  · refine g_aload_n (q0 := 7) (j := 0) rfl dX3_cut_6 rfl ?_
    refine g_getp (q0 := 10) (b := a + 1) rfl ff_X3_9 dX3_cut_7 rfl hOK (by omega) (by assumption) rfl rfl ?_
    refine g_iload_n (q0 := 11) (j := 1) rfl dX3_cut_10 rfl ?_
    refine g_dup2 (q0 := 12) rfl dX3_cut_11 (k := ?_)
    refine g_lald (q0 := 13) rfl dX3_cut_12 (by assumption) (by omega) (by omega) ?_
    refine g_lconst (q0 := 14) (z := 1) rfl dX3_cut_13 (k := ?_)
    refine g_iload_n (q0 := 15) (j := 2) rfl dX3_cut_14 rfl ?_
    refine g_lshl (q0 := 16) rfl dX3_cut_15 ?_
    refine g_ldc2 (q0 := 19) (n := -1) rfl co_X3_18 dX3_cut_16 (k := ?_)
    refine g_lxor (q0 := 20) rfl dX3_cut_19 ?_
    refine g_land (q0 := 21) rfl dX3_cut_20 ?_
    refine g_last (q0 := 22) rfl dX3_cut_21 (by assumption) (by omega) (by omega) ?_
    refine g_goto (tgt := 44) dX3_cut_22 (by decide) ?_
    refine g_return dX3_cut_44 rfl ⟨Nat.zero_le _, Nat.zero_le _⟩ ?_
    refine ⟨rfl, rfl, fun j hj => ?_, gOK_l hOK hs1, fun b b1 b2 => by rw [gU_cell _ _ _ b1], fun q hq => ?_⟩
    · unfold mB
      simp (disch := omega) only [gU_cel, gU_same]
      by_cases h : j < 64
      · rw [if_pos h, if_pos h, tb_and, tb_not _ (by omega), tb_shl_all _ (by omega) _ (by omega)]
      · rw [if_neg h, if_neg h, decide_eq_false (p := j = k) (by omega)]; simp
    · simp (disch := omega) only [gU_cel, gU_idx]; exact ⟨trivial, trivial⟩
theorem sp_X3_clear {sh : gS} {M : gM} {a r : Int} {n : Nat} (hOK : gOK sh M) (hT : mSh sh a n) (hr : 0 ≤ r ∧ r < n) :
    gC (gr 0 0) yX3_clear cX3_clear 2 none [(4, a), (0, r)] sh M (gPm sh (fun x M1 => x = none ∧ mPost sh M a r (fun _ => false) M1)) := by
  obtain ⟨hs0, hs1, hs2, hlt, hn⟩ := hT
  refine gC_ofA (lv := [_, _]) (by decide +kernel) (Nat.le_of_ble_eq_true rfl) rfl (fun hMw hav => ?_)
  refine g_aload_n (q0 := 1) (j := 0) rfl dX3_clear_0 rfl ?_
  refine g_getp (q0 := 4) (b := a + 1) rfl ff_X3_9 dX3_clear_1 rfl hOK (by omega) (by assumption) rfl rfl ?_
  refine g_iload_n (q0 := 5) (j := 1) rfl dX3_clear_4 rfl ?_
  refine g_lconst (q0 := 6) (z := 0) rfl dX3_clear_5 (k := ?_)
  refine g_last (q0 := 7) rfl dX3_clear_6 (by assumption) (by omega) (by omega) ?_
  refine g_aload_n (q0 := 8) (j := 0) rfl dX3_clear_7 rfl ?_
  refine g_getp (q0 := 11) (b := a + 2) rfl ff_X3_15 dX3_clear_8 rfl (gOK_l hOK (by assumption)) (by omega) (by assumption) rfl rfl ?_
  refine g_iload_n (q0 := 12) (j := 1) rfl dX3_clear_11 rfl ?_
  refine g_lconst (q0 := 13) (z := 0) rfl dX3_clear_12 (k := ?_)
  refine g_last (q0 := 14) rfl dX3_clear_13 (by assumption) (by omega) (by omega) ?_
  refine g_return dX3_clear_14 rfl ⟨Nat.zero_le _, Nat.zero_le _⟩ ?_
  refine ⟨rfl, rfl, fun j hj => ?_, gOK_l (gOK_l hOK hs1) hs2, fun b b1 b2 => by rw [gU_cell _ _ _ b2, gU_cell _ _ _ b1], fun q hq => ?_⟩
  · unfold mB
    simp (disch := omega) only [gU_cel, gU_same, tb_0]
    split <;> rfl
  · simp (disch := omega) only [gU_cel, gU_idx]; exact ⟨trivial, trivial⟩
theorem sp_X3_putAll {sh : gS} {M : gM} {a r b q : Int} {n m : Nat} (hOK : gOK sh M) (hT : mSh sh a n) (hr : 0 ≤ r ∧ r < n) (hU : mSh sh b m) (hq : 0 ≤ q ∧ q < m) (hd : a = b ∨ a + 2 < b ∨ b + 2 < a) :
    gC (gr 0 0) yX3_putAll cX3_putAll 4 none [(4, a), (0, r), (4, b), (0, q)] sh M (gPm sh (fun x M1 => x = none ∧ mPost sh M a r (fun j => mB M a r j || mB M b q j) M1)) := by
  obtain ⟨hs0, hs1, hs2, hlt, hn⟩ := hT
  obtain ⟨hu0, hu1, hu2, hlu, hm⟩ := hU
  refine gC_ofA (lv := [_, _, _, _]) (by decide +kernel) (Nat.le_of_ble_eq_true rfl) rfl (fun hMw hav => ?_)
  refine g_aload_n (q0 := 1) (j := 0) rfl dX3_putAll_0 rfl ?_
  refine g_getp (q0 := 4) (b := a + 1) rfl ff_X3_9 dX3_putAll_1 rfl hOK (by omega) (by assumption) rfl rfl ?_
  refine g_iload_n (q0 := 5) (j := 1) rfl dX3_putAll_4 rfl ?_
  refine g_dup2 (q0 := 6) rfl dX3_putAll_5 (k := ?_)
  refine g_lald (q0 := 7) rfl dX3_putAll_6 (by assumption) (by omega) (by omega) ?_
  refine g_aload_n (q0 := 8) (j := 2) rfl dX3_putAll_7 rfl ?_
  refine g_getp (q0 := 11) (b := b + 1) rfl ff_X3_9 dX3_putAll_8 rfl hOK (by omega) (by assumption) rfl rfl ?_
  refine g_iload_n (q0 := 12) (j := 3) rfl dX3_putAll_11 rfl ?_
  refine g_lald (q0 := 13) rfl dX3_putAll_12 (by assumption) (by omega) (by omega) ?_
  refine g_lor (q0 := 14) rfl dX3_putAll_13 ?_
  refine g_last (q0 := 15) rfl dX3_putAll_14 (by assumption) (by omega) (by omega) ?_
  refine g_aload_n (q0 := 16) (j := 0) rfl dX3_putAll_15 rfl ?_
  refine g_getp (q0 := 19) (b := a + 2) rfl ff_X3_15 dX3_putAll_16 rfl (gOK_l hOK (by assumption)) (by omega) (by assumption) rfl rfl ?_
  refine g_iload_n (q0 := 20) (j := 1) rfl dX3_putAll_19 rfl ?_
  refine g_dup2 (q0 := 21) rfl dX3_putAll_20 (k := ?_)
  refine g_lald (q0 := 22) rfl dX3_putAll_21 (by assumption) (by omega) (by omega) ?_
  try simp (disch := omega) only [gU_same, gU_idx, gU_cel]
  refine g_aload_n (q0 := 23) (j := 2) rfl dX3_putAll_22 rfl ?_
  refine g_getp (q0 := 26) (b := b + 2) rfl ff_X3_15 dX3_putAll_23 rfl (gOK_l hOK (by assumption)) (by omega) (by assumption) rfl rfl ?_
  refine g_iload_n (q0 := 27) (j := 3) rfl dX3_putAll_26 rfl ?_
  refine g_lald (q0 := 28) rfl dX3_putAll_27 (by assumption) (by omega) (by omega) ?_
  try simp (disch := omega) only [gU_same, gU_idx, gU_cel]
  refine g_lor (q0 := 29) rfl dX3_putAll_28 ?_
  refine g_last (q0 := 30) rfl dX3_putAll_29 (by assumption) (by omega) (by omega) ?_
  refine g_return dX3_putAll_30 rfl ⟨Nat.zero_le _, Nat.zero_le _⟩ ?_
  refine ⟨rfl, rfl, fun j hj => ?_, gOK_l (gOK_l hOK hs1) hs2, fun b b1 b2 => by rw [gU_cell _ _ _ b2, gU_cell _ _ _ b1], fun q hq => ?_⟩
  · unfold mB
    simp (disch := omega) only [gU_cel, gU_same]
    by_cases h : j < 64
    · simp only [if_pos h, tb_or]
    · simp only [if_neg h, tb_or]
  · simp (disch := omega) only [gU_cel, gU_idx]; exact ⟨trivial, trivial⟩
theorem sp_X3_cutAll {sh : gS} {M : gM} {a r b q : Int} {n m : Nat} (hOK : gOK sh M) (hT : mSh sh a n) (hr : 0 ≤ r ∧ r < n) (hU : mSh sh b m) (hq : 0 ≤ q ∧ q < m) (hd : a = b ∨ a + 2 < b ∨ b + 2 < a) :
    gC (gr 0 0) yX3_cutAll cX3_cutAll 4 none [(4, a), (0, r), (4, b), (0, q)] sh M (gPm sh (fun x M1 => x = none ∧ mPost sh M a r (fun j => mB M a r j && !mB M b q j) M1)) := by
  obtain ⟨hs0, hs1, hs2, hlt, hn⟩ := hT
  obtain ⟨hu0, hu1, hu2, hlu, hm⟩ := hU
  refine gC_ofA (lv := [_, _, _, _]) (by decide +kernel) (Nat.le_of_ble_eq_true rfl) rfl (fun hMw hav => ?_)
  refine g_aload_n (q0 := 1) (j := 0) rfl dX3_cutAll_0 rfl ?_
  refine g_getp (q0 := 4) (b := a + 1) rfl ff_X3_9 dX3_cutAll_1 rfl hOK (by omega) (by assumption) rfl rfl ?_
  refine g_iload_n (q0 := 5) (j := 1) rfl dX3_cutAll_4 rfl ?_
  refine g_dup2 (q0 := 6) rfl dX3_cutAll_5 (k := ?_)
  refine g_lald (q0 := 7) rfl dX3_cutAll_6 (by assumption) (by omega) (by omega) ?_
  refine g_aload_n (q0 := 8) (j := 2) rfl dX3_cutAll_7 rfl ?_
  refine g_getp (q0 := 11) (b := b + 1) rfl ff_X3_9 dX3_cutAll_8 rfl hOK (by omega) (by assumption) rfl rfl ?_
  refine g_iload_n (q0 := 12) (j := 3) rfl dX3_cutAll_11 rfl ?_
  refine g_lald (q0 := 13) rfl dX3_cutAll_12 (by assumption) (by omega) (by omega) ?_
  refine g_ldc2 (q0 := 16) (n := -1) rfl co_X3_18 dX3_cutAll_13 (k := ?_)
  refine g_lxor (q0 := 17) rfl dX3_cutAll_16 ?_
  refine g_land (q0 := 18) rfl dX3_cutAll_17 ?_
  refine g_last (q0 := 19) rfl dX3_cutAll_18 (by assumption) (by omega) (by omega) ?_
  refine g_aload_n (q0 := 20) (j := 0) rfl dX3_cutAll_19 rfl ?_
  refine g_getp (q0 := 23) (b := a + 2) rfl ff_X3_15 dX3_cutAll_20 rfl (gOK_l hOK (by assumption)) (by omega) (by assumption) rfl rfl ?_
  refine g_iload_n (q0 := 24) (j := 1) rfl dX3_cutAll_23 rfl ?_
  refine g_dup2 (q0 := 25) rfl dX3_cutAll_24 (k := ?_)
  refine g_lald (q0 := 26) rfl dX3_cutAll_25 (by assumption) (by omega) (by omega) ?_
  try simp (disch := omega) only [gU_same, gU_idx, gU_cel]
  refine g_aload_n (q0 := 27) (j := 2) rfl dX3_cutAll_26 rfl ?_
  refine g_getp (q0 := 30) (b := b + 2) rfl ff_X3_15 dX3_cutAll_27 rfl (gOK_l hOK (by assumption)) (by omega) (by assumption) rfl rfl ?_
  refine g_iload_n (q0 := 31) (j := 3) rfl dX3_cutAll_30 rfl ?_
  refine g_lald (q0 := 32) rfl dX3_cutAll_31 (by assumption) (by omega) (by omega) ?_
  try simp (disch := omega) only [gU_same, gU_idx, gU_cel]
  refine g_ldc2 (q0 := 35) (n := -1) rfl co_X3_18 dX3_cutAll_32 (k := ?_)
  refine g_lxor (q0 := 36) rfl dX3_cutAll_35 ?_
  refine g_land (q0 := 37) rfl dX3_cutAll_36 ?_
  refine g_last (q0 := 38) rfl dX3_cutAll_37 (by assumption) (by omega) (by omega) ?_
  refine g_return dX3_cutAll_38 rfl ⟨Nat.zero_le _, Nat.zero_le _⟩ ?_
  refine ⟨rfl, rfl, fun j hj => ?_, gOK_l (gOK_l hOK hs1) hs2, fun b b1 b2 => by rw [gU_cell _ _ _ b2, gU_cell _ _ _ b1], fun q hq => ?_⟩
  · unfold mB
    simp (disch := omega) only [gU_cel, gU_same]
    by_cases h : j < 64
    · simp only [if_pos h, tb_and]
      rw [tb_not _ h]
    · simp only [if_neg h, tb_and]
      rw [tb_not _ (by omega)]
  · simp (disch := omega) only [gU_cel, gU_idx]; exact ⟨trivial, trivial⟩
theorem sp_X3_onlyIn {sh : gS} {M : gM} {a r b q : Int} {n m : Nat} (hOK : gOK sh M) (hT : mSh sh a n) (hr : 0 ≤ r ∧ r < n) (hU : mSh sh b m) (hq : 0 ≤ q ∧ q < m) (hd : a = b ∨ a + 2 < b ∨ b + 2 < a) :
    gC (gr 0 0) yX3_onlyIn cX3_onlyIn 4 none [(4, a), (0, r), (4, b), (0, q)] sh M (gPm sh (fun x M1 => x = none ∧ mPost sh M a r (fun j => mB M a r j && mB M b q j) M1)) := by
  obtain ⟨hs0, hs1, hs2, hlt, hn⟩ := hT
  obtain ⟨hu0, hu1, hu2, hlu, hm⟩ := hU
  refine gC_ofA (lv := [_, _, _, _]) (by decide +kernel) (Nat.le_of_ble_eq_true rfl) rfl (fun hMw hav => ?_)
  refine g_aload_n (q0 := 1) (j := 0) rfl dX3_onlyIn_0 rfl ?_
  refine g_getp (q0 := 4) (b := a + 1) rfl ff_X3_9 dX3_onlyIn_1 rfl hOK (by omega) (by assumption) rfl rfl ?_
  refine g_iload_n (q0 := 5) (j := 1) rfl dX3_onlyIn_4 rfl ?_
  refine g_dup2 (q0 := 6) rfl dX3_onlyIn_5 (k := ?_)
  refine g_lald (q0 := 7) rfl dX3_onlyIn_6 (by assumption) (by omega) (by omega) ?_
  refine g_aload_n (q0 := 8) (j := 2) rfl dX3_onlyIn_7 rfl ?_
  refine g_getp (q0 := 11) (b := b + 1) rfl ff_X3_9 dX3_onlyIn_8 rfl hOK (by omega) (by assumption) rfl rfl ?_
  refine g_iload_n (q0 := 12) (j := 3) rfl dX3_onlyIn_11 rfl ?_
  refine g_lald (q0 := 13) rfl dX3_onlyIn_12 (by assumption) (by omega) (by omega) ?_
  refine g_land (q0 := 14) rfl dX3_onlyIn_13 ?_
  refine g_last (q0 := 15) rfl dX3_onlyIn_14 (by assumption) (by omega) (by omega) ?_
  refine g_aload_n (q0 := 16) (j := 0) rfl dX3_onlyIn_15 rfl ?_
  refine g_getp (q0 := 19) (b := a + 2) rfl ff_X3_15 dX3_onlyIn_16 rfl (gOK_l hOK (by assumption)) (by omega) (by assumption) rfl rfl ?_
  refine g_iload_n (q0 := 20) (j := 1) rfl dX3_onlyIn_19 rfl ?_
  refine g_dup2 (q0 := 21) rfl dX3_onlyIn_20 (k := ?_)
  refine g_lald (q0 := 22) rfl dX3_onlyIn_21 (by assumption) (by omega) (by omega) ?_
  try simp (disch := omega) only [gU_same, gU_idx, gU_cel]
  refine g_aload_n (q0 := 23) (j := 2) rfl dX3_onlyIn_22 rfl ?_
  refine g_getp (q0 := 26) (b := b + 2) rfl ff_X3_15 dX3_onlyIn_23 rfl (gOK_l hOK (by assumption)) (by omega) (by assumption) rfl rfl ?_
  refine g_iload_n (q0 := 27) (j := 3) rfl dX3_onlyIn_26 rfl ?_
  refine g_lald (q0 := 28) rfl dX3_onlyIn_27 (by assumption) (by omega) (by omega) ?_
  try simp (disch := omega) only [gU_same, gU_idx, gU_cel]
  refine g_land (q0 := 29) rfl dX3_onlyIn_28 ?_
  refine g_last (q0 := 30) rfl dX3_onlyIn_29 (by assumption) (by omega) (by omega) ?_
  refine g_return dX3_onlyIn_30 rfl ⟨Nat.zero_le _, Nat.zero_le _⟩ ?_
  refine ⟨rfl, rfl, fun j hj => ?_, gOK_l (gOK_l hOK hs1) hs2, fun b b1 b2 => by rw [gU_cell _ _ _ b2, gU_cell _ _ _ b1], fun q hq => ?_⟩
  · unfold mB
    simp (disch := omega) only [gU_cel, gU_same]
    by_cases h : j < 64
    · simp only [if_pos h, tb_and]
    · simp only [if_neg h, tb_and]
  · simp (disch := omega) only [gU_cel, gU_idx]; exact ⟨trivial, trivial⟩
theorem cnt_mB (M : gM) (a r : Int) : cnt (mB M a r) 128 = gbc (M (a + 1) r) + gbc (M (a + 2) r) := by
  rw [show 128 = 64 + 64 from rfl, cnt_add]
  unfold gbc
  congr 1
theorem cnt_mBB (M : gM) (a r b q : Int) : cnt (fun j => mB M a r j && mB M b q j) 128 = gbc (gland (M (a + 1) r) (M (b + 1) q)) + gbc (gland (M (a + 2) r) (M (b + 2) q)) := by
  rw [show 128 = 64 + 64 from rfl, cnt_add]
  unfold gbc
  congr 1
  · refine cnt_congr 64 (fun k hk => ?_)
    unfold mB
    rw [if_pos hk, if_pos hk, tb_and]
  · refine cnt_congr 64 (fun k hk => ?_)
    unfold mB
    rw [if_neg (by omega), if_neg (by omega), show 64 + k - 64 = k by omega, tb_and]
theorem gbc_rng (x : Int) : 0 ≤ gbc x ∧ gbc x ≤ 64 := cnt_rng _ 64
theorem sp_X3_size {sh : gS} {M : gM} {a r : Int} {n : Nat} (hOK : gOK sh M) (hT : mSh sh a n) (hr : 0 ≤ r ∧ r < n) :
    gC (gr 1 21) yX3_size cX3_size 2 (some (.int)) [(4, a), (0, r)] sh M (gPp sh M (0, cnt (mB M a r) 128)) := by
  obtain ⟨hs0, hs1, hs2, hlt, hn⟩ := hT
  have q1 := gbc_rng (M (a + 1) r)
  have q2 := gbc_rng (M (a + 2) r)
  refine gC_ofA (lv := [_, _]) (by decide +kernel) (Nat.le_of_ble_eq_true rfl) rfl (fun hMw hav => ?_)
  refine g_aload_n (q0 := 1) (j := 0) rfl dX3_size_0 rfl ?_
  refine g_getp (q0 := 4) (b := a + 1) rfl ff_X3_9 dX3_size_1 rfl hOK (by omega) (by assumption) rfl rfl ?_
  refine g_iload_n (q0 := 5) (j := 1) rfl dX3_size_4 rfl ?_
  refine g_lald (q0 := 6) rfl dX3_size_5 (by assumption) (by omega) (by omega) ?_
  refine g_callSp (as := [_]) (rest := []) mt_J13_bitCount_95d88 ms_J13_bitCount_95d88 ml_X3_20 dX3_size_6 (q0 := 9) rfl rfl sp_J13_bitCount rfl ⟨by decide, by decide⟩ (Nat.le_of_ble_eq_true rfl) ⟨Nat.zero_le _, Nat.zero_le _⟩ (fun hwc => ?_)
  refine g_aload_n (q0 := 10) (j := 0) rfl dX3_size_9 rfl ?_
  refine g_getp (q0 := 13) (b := a + 2) rfl ff_X3_15 dX3_size_10 rfl hOK (by omega) (by assumption) rfl rfl ?_
  refine g_iload_n (q0 := 14) (j := 1) rfl dX3_size_13 rfl ?_
  refine g_lald (q0 := 15) rfl dX3_size_14 (by assumption) (by omega) (by omega) ?_
  refine g_callSp (as := [_]) (rest := [_]) mt_J13_bitCount_95d88 ms_J13_bitCount_95d88 ml_X3_20 dX3_size_15 (q0 := 18) rfl rfl sp_J13_bitCount rfl ⟨by decide, by decide⟩ (Nat.le_of_ble_eq_true rfl) ⟨Nat.zero_le _, Nat.zero_le _⟩ (fun hwc => ?_)
  refine g_iadd (q0 := 19) rfl dX3_size_18 (by omega) (by omega) ?_
  refine g_ireturn dX3_size_19 rfl ⟨Nat.zero_le _, Nat.zero_le _⟩ ?_
  exact ⟨by rw [cnt_mB], rfl, rfl⟩
theorem sp_X3_sizeInBoth {sh : gS} {M : gM} {a r b q : Int} {n m : Nat} (hOK : gOK sh M) (hT : mSh sh a n) (hr : 0 ≤ r ∧ r < n) (hU : mSh sh b m) (hq : 0 ≤ q ∧ q < m) :
    gC (gr 1 21) yX3_sizeInBoth cX3_sizeInBoth 4 (some (.int)) [(4, a), (0, r), (4, b), (0, q)] sh M (gPp sh M (0, cnt (fun j => mB M a r j && mB M b q j) 128)) := by
  obtain ⟨hs0, hs1, hs2, hlt, hn⟩ := hT
  obtain ⟨hu0, hu1, hu2, hlu, hm⟩ := hU
  have q1 := gbc_rng (gland (M (a + 1) r) (M (b + 1) q))
  have q2 := gbc_rng (gland (M (a + 2) r) (M (b + 2) q))
  refine gC_ofA (lv := [_, _, _, _]) (by decide +kernel) (Nat.le_of_ble_eq_true rfl) rfl (fun hMw hav => ?_)
  refine g_aload_n (q0 := 1) (j := 0) rfl dX3_sizeInBoth_0 rfl ?_
  refine g_getp (q0 := 4) (b := a + 1) rfl ff_X3_9 dX3_sizeInBoth_1 rfl hOK (by omega) (by assumption) rfl rfl ?_
  refine g_iload_n (q0 := 5) (j := 1) rfl dX3_sizeInBoth_4 rfl ?_
  refine g_lald (q0 := 6) rfl dX3_sizeInBoth_5 (by assumption) (by omega) (by omega) ?_
  refine g_aload_n (q0 := 7) (j := 2) rfl dX3_sizeInBoth_6 rfl ?_
  refine g_getp (q0 := 10) (b := b + 1) rfl ff_X3_9 dX3_sizeInBoth_7 rfl hOK (by omega) (by assumption) rfl rfl ?_
  refine g_iload_n (q0 := 11) (j := 3) rfl dX3_sizeInBoth_10 rfl ?_
  refine g_lald (q0 := 12) rfl dX3_sizeInBoth_11 (by assumption) (by omega) (by omega) ?_
  refine g_land (q0 := 13) rfl dX3_sizeInBoth_12 ?_
  refine g_callSp (as := [_]) (rest := []) mt_J13_bitCount_95d88 ms_J13_bitCount_95d88 ml_X3_20 dX3_sizeInBoth_13 (q0 := 16) rfl rfl sp_J13_bitCount rfl ⟨by decide, by decide⟩ (Nat.le_of_ble_eq_true rfl) ⟨Nat.zero_le _, Nat.zero_le _⟩ (fun hwc => ?_)
  refine g_aload_n (q0 := 17) (j := 0) rfl dX3_sizeInBoth_16 rfl ?_
  refine g_getp (q0 := 20) (b := a + 2) rfl ff_X3_15 dX3_sizeInBoth_17 rfl hOK (by omega) (by assumption) rfl rfl ?_
  refine g_iload_n (q0 := 21) (j := 1) rfl dX3_sizeInBoth_20 rfl ?_
  refine g_lald (q0 := 22) rfl dX3_sizeInBoth_21 (by assumption) (by omega) (by omega) ?_
  refine g_aload_n (q0 := 23) (j := 2) rfl dX3_sizeInBoth_22 rfl ?_
  refine g_getp (q0 := 26) (b := b + 2) rfl ff_X3_15 dX3_sizeInBoth_23 rfl hOK (by omega) (by assumption) rfl rfl ?_
  refine g_iload_n (q0 := 27) (j := 3) rfl dX3_sizeInBoth_26 rfl ?_
  refine g_lald (q0 := 28) rfl dX3_sizeInBoth_27 (by assumption) (by omega) (by omega) ?_
  refine g_land (q0 := 29) rfl dX3_sizeInBoth_28 ?_
  refine g_callSp (as := [_]) (rest := [_]) mt_J13_bitCount_95d88 ms_J13_bitCount_95d88 ml_X3_20 dX3_sizeInBoth_29 (q0 := 32) rfl rfl sp_J13_bitCount rfl ⟨by decide, by decide⟩ (Nat.le_of_ble_eq_true rfl) ⟨Nat.zero_le _, Nat.zero_le _⟩ (fun hwc => ?_)
  refine g_iadd (q0 := 33) rfl dX3_sizeInBoth_32 (by omega) (by omega) ?_
  refine g_ireturn dX3_sizeInBoth_33 rfl ⟨Nat.zero_le _, Nat.zero_le _⟩ ?_
  exact ⟨by rw [cnt_mBB], rfl, rfl⟩
/-- the n-th of a set, from k on to 120 -/
def mNth (f : Nat → Bool) : Nat → Nat → Int → Int
  | 0, _, _ => -1
  | m + 1, k, n => if f k then if n = 0 then (k : Int) else mNth f m (k + 1) (n - 1) else mNth f m (k + 1) n
theorem sp_X3_nth {sh : gS} {M : gM} {a r n : Int} {w : Nat} (hOK : gOK sh M) (hT : mSh sh a w) (hr : 0 ≤ r ∧ r < w) (hn : 0 ≤ n ∧ n < 120) :
    gC (gr 1 22) yX3_nth cX3_nth 5 (some (.int)) [(4, a), (0, r), (0, n)] sh M (gPp sh M (0, mNth (mB M a r) 120 0 n)) := by
  have hT0 := hT
  obtain ⟨hs0, hs1, hs2, hlt, hn9⟩ := hT
  refine gC_ofA (lv := [_, _, _, _, _]) (by decide +kernel) (Nat.le_of_ble_eq_true rfl) rfl (fun hMw hav => ?_)
  have lp : ∀ (m k : Nat) (l : Int), k + m = 120 → 0 ≤ l ∧ l < 120 → mNth (mB M a r) m k l = mNth (mB M a r) 120 0 n →
      gA (gr 1 22) yX3_nth cX3_nth 5 (some (.int)) (gPp sh M (0, mNth (mB M a r) 120 0 n)) (0, 0) 5 [(4, a), (0, r), (0, n), (0, l), (0, (k : Int))] [] sh M := by
    intro m
    induction m with
    | zero =>
      intro k l hk hl hv
      refine g_iload (q0 := 7) (j := 4) rfl dX3_nth_5 rfl ?_
      refine g_bipush (q0 := 9) rfl dX3_nth_7 (k := ?_)
      refine g_icmp_ge (q0 := 12) (tgt := 38) rfl dX3_nth_9 (by decide) (fun h9 => ?_) (fun h9 => ?_)
      · refine g_iconst (q0 := 39) rfl dX3_nth_38 (k := ?_)
        refine g_ireturn dX3_nth_39 rfl ⟨Nat.zero_le _, Nat.zero_le _⟩ ?_
        exact ⟨by rw [← hv]; rfl, rfl, rfl⟩
      · omega
    | succ m ih =>
      intro k l hk hl hv
      rw [mNth] at hv
      refine g_iload (q0 := 7) (j := 4) rfl dX3_nth_5 rfl ?_
      refine g_bipush (q0 := 9) rfl dX3_nth_7 (k := ?_)
      refine g_icmp_ge (q0 := 12) (tgt := 38) rfl dX3_nth_9 (by decide) (fun h9 => ?_) (fun h9 => ?_)
      · omega
      · refine g_aload_n (q0 := 13) (j := 0) rfl dX3_nth_12 rfl ?_
        refine g_iload_n (q0 := 14) (j := 1) rfl dX3_nth_13 rfl ?_
        refine g_iload (q0 := 16) (j := 4) rfl dX3_nth_14 rfl ?_
        refine g_callVp (as := [_, _]) (rest := []) mt_X3_has mi_X3_has se_X3_has ml_X3_26 dX3_nth_16 (q0 := 19) rfl rfl (by assumption) rfl rfl (sp_X3_has hOK hT0 hr) rfl ⟨by decide, by decide⟩ (Nat.le_of_ble_eq_true rfl) ⟨Nat.zero_le _, Nat.zero_le _⟩ (fun hwc => ?_)
        rw [mHas_of (S := mB M a r) (fun _ _ => rfl) k (by omega)]
        refine g_if_eq (q0 := 22) (tgt := 32) rfl dX3_nth_19 (by decide) (fun h19 => ?_) (fun h19 => ?_)
        · rw [bI_f h19, if_neg (by decide)] at hv
          refine g_iinc (q0 := 35) (lv2 := [_, _, _, _, _]) rfl dX3_nth_32 rfl (by decide) rfl rfl (by omega) (by omega) ?_
          refine g_goto (tgt := 5) dX3_nth_35 (by decide) ?_
          exact ih (k + 1) l (by omega) hl hv
        · rw [bI_t h19, if_pos rfl] at hv
          refine g_iload_n (q0 := 23) (j := 3) rfl dX3_nth_22 rfl ?_
          refine g_if_ne (q0 := 26) (tgt := 29) rfl dX3_nth_23 (by decide) (fun h23 => ?_) (fun h23 => ?_)
          · rw [if_neg h23] at hv
            refine g_iinc (q0 := 32) (lv2 := [_, _, _, _, _]) rfl dX3_nth_29 rfl (by decide) rfl rfl (by omega) (by omega) ?_
            refine g_iinc (q0 := 35) (lv2 := [_, _, _, _, _]) rfl dX3_nth_32 rfl (by decide) rfl rfl (by omega) (by omega) ?_
            refine g_goto (tgt := 5) dX3_nth_35 (by decide) ?_
            exact ih (k + 1) (l - 1) (by omega) (by omega) hv
          · rw [if_pos h23] at hv
            refine g_iload (q0 := 28) (j := 4) rfl dX3_nth_26 rfl ?_
            refine g_ireturn dX3_nth_28 rfl ⟨Nat.zero_le _, Nat.zero_le _⟩ ?_
            exact ⟨by rw [← hv], rfl, rfl⟩
  refine g_iload_n (q0 := 1) (j := 2) rfl dX3_nth_0 rfl ?_
  refine g_istore_n (q0 := 2) (j := 3) (lv2 := [_, _, _, _, _]) rfl dX3_nth_1 (by decide) rfl rfl ?_
  refine g_iconst (q0 := 3) rfl dX3_nth_2 (k := ?_)
  refine g_istore (q0 := 5) (j := 4) (lv2 := [_, _, _, _, _]) rfl dX3_nth_3 (by decide) rfl rfl ?_
  exact lp 120 0 n rfl hn rfl
