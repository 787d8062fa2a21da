-- ==== the tape of the class: the reader
theorem dX9_at_0 : decode cX9_at 0 = .ok (.iload_n 1, 1) := by decide +kernel
theorem dX9_at_1 : decode cX9_at 1 = .ok (.ifCond .lt 23, 3) := by decide +kernel
theorem dX9_at_4 : decode cX9_at 4 = .ok (.iload_n 1, 1) := by decide +kernel
theorem dX9_at_5 : decode cX9_at 5 = .ok (.sipush 260, 3) := by decide +kernel
theorem dX9_at_8 : decode cX9_at 8 = .ok (.if_icmp .ge 16, 3) := by decide +kernel
theorem dX9_at_11 : decode cX9_at 11 = .ok (.aload_n 0, 1) := by decide +kernel
theorem dX9_at_12 : decode cX9_at 12 = .ok (.getfield 9, 3) := by decide +kernel
theorem dX9_at_15 : decode cX9_at 15 = .ok (.iload_n 1, 1) := by decide +kernel
theorem dX9_at_16 : decode cX9_at 16 = .ok (.baload, 1) := by decide +kernel
theorem dX9_at_17 : decode cX9_at 17 = .ok (.sipush 255, 3) := by decide +kernel
theorem dX9_at_20 : decode cX9_at 20 = .ok (.iand, 1) := by decide +kernel
theorem dX9_at_21 : decode cX9_at 21 = .ok (.goto 4, 3) := by decide +kernel
theorem dX9_at_24 : decode cX9_at 24 = .ok (.iconst (-1), 1) := by decide +kernel
theorem dX9_at_25 : decode cX9_at 25 = .ok (.ireturn, 1) := by decide +kernel
theorem dX9_begin_0 : decode cX9_begin 0 = .ok (.aload_n 0, 1) := by decide +kernel
theorem dX9_begin_1 : decode cX9_begin 1 = .ok (.iconst 0, 1) := by decide +kernel
theorem dX9_begin_2 : decode cX9_begin 2 = .ok (.putfield 19, 3) := by decide +kernel
theorem dX9_begin_5 : decode cX9_begin 5 = .ok (.aload_n 0, 1) := by decide +kernel
theorem dX9_begin_6 : decode cX9_begin 6 = .ok (.iload_n 1, 1) := by decide +kernel
theorem dX9_begin_7 : decode cX9_begin 7 = .ok (.aload_n 0, 1) := by decide +kernel
theorem dX9_begin_8 : decode cX9_begin 8 = .ok (.getfield 15, 3) := by decide +kernel
theorem dX9_begin_11 : decode cX9_begin 11 = .ok (.invokestatic 22, 3) := by decide +kernel
theorem dX9_begin_14 : decode cX9_begin 14 = .ok (.putfield 28, 3) := by decide +kernel
theorem dX9_begin_17 : decode cX9_begin 17 = .ok (.aload_n 0, 1) := by decide +kernel
theorem dX9_begin_18 : decode cX9_begin 18 = .ok (.iconst 0, 1) := by decide +kernel
theorem dX9_begin_19 : decode cX9_begin 19 = .ok (.putfield 31, 3) := by decide +kernel
theorem dX9_begin_22 : decode cX9_begin 22 = .ok (.return_, 1) := by decide +kernel
theorem dX9_isAtEnd_0 : decode cX9_isAtEnd 0 = .ok (.aload_n 0, 1) := by decide +kernel
theorem dX9_isAtEnd_1 : decode cX9_isAtEnd 1 = .ok (.getfield 19, 3) := by decide +kernel
theorem dX9_isAtEnd_4 : decode cX9_isAtEnd 4 = .ok (.aload_n 0, 1) := by decide +kernel
theorem dX9_isAtEnd_5 : decode cX9_isAtEnd 5 = .ok (.getfield 28, 3) := by decide +kernel
theorem dX9_isAtEnd_8 : decode cX9_isAtEnd 8 = .ok (.if_icmp .lt 7, 3) := by decide +kernel
theorem dX9_isAtEnd_11 : decode cX9_isAtEnd 11 = .ok (.iconst 1, 1) := by decide +kernel
theorem dX9_isAtEnd_12 : decode cX9_isAtEnd 12 = .ok (.goto 4, 3) := by decide +kernel
theorem dX9_isAtEnd_15 : decode cX9_isAtEnd 15 = .ok (.iconst 0, 1) := by decide +kernel
theorem dX9_isAtEnd_16 : decode cX9_isAtEnd 16 = .ok (.ireturn, 1) := by decide +kernel
theorem dX9_next_0 : decode cX9_next 0 = .ok (.aload_n 0, 1) := by decide +kernel
theorem dX9_next_1 : decode cX9_next 1 = .ok (.getfield 19, 3) := by decide +kernel
theorem dX9_next_4 : decode cX9_next 4 = .ok (.aload_n 0, 1) := by decide +kernel
theorem dX9_next_5 : decode cX9_next 5 = .ok (.getfield 28, 3) := by decide +kernel
theorem dX9_next_8 : decode cX9_next 8 = .ok (.if_icmp .ge 19, 3) := by decide +kernel
theorem dX9_next_11 : decode cX9_next 11 = .ok (.aload_n 0, 1) := by decide +kernel
theorem dX9_next_12 : decode cX9_next 12 = .ok (.getfield 9, 3) := by decide +kernel
theorem dX9_next_15 : decode cX9_next 15 = .ok (.aload_n 0, 1) := by decide +kernel
theorem dX9_next_16 : decode cX9_next 16 = .ok (.getfield 19, 3) := by decide +kernel
theorem dX9_next_19 : decode cX9_next 19 = .ok (.baload, 1) := by decide +kernel
theorem dX9_next_20 : decode cX9_next 20 = .ok (.sipush 255, 3) := by decide +kernel
theorem dX9_next_23 : decode cX9_next 23 = .ok (.iand, 1) := by decide +kernel
theorem dX9_next_24 : decode cX9_next 24 = .ok (.goto 4, 3) := by decide +kernel
theorem dX9_next_27 : decode cX9_next 27 = .ok (.iconst (-1), 1) := by decide +kernel
theorem dX9_next_28 : decode cX9_next 28 = .ok (.ireturn, 1) := by decide +kernel
theorem dX9_isDigit_0 : decode cX9_isDigit 0 = .ok (.aload_n 0, 1) := by decide +kernel
theorem dX9_isDigit_1 : decode cX9_isDigit 1 = .ok (.getfield 19, 3) := by decide +kernel
theorem dX9_isDigit_4 : decode cX9_isDigit 4 = .ok (.aload_n 0, 1) := by decide +kernel
theorem dX9_isDigit_5 : decode cX9_isDigit 5 = .ok (.getfield 28, 3) := by decide +kernel
theorem dX9_isDigit_8 : decode cX9_isDigit 8 = .ok (.if_icmp .ge 35, 3) := by decide +kernel
theorem dX9_isDigit_11 : decode cX9_isDigit 11 = .ok (.aload_n 0, 1) := by decide +kernel
theorem dX9_isDigit_12 : decode cX9_isDigit 12 = .ok (.getfield 9, 3) := by decide +kernel
theorem dX9_isDigit_15 : decode cX9_isDigit 15 = .ok (.aload_n 0, 1) := by decide +kernel
theorem dX9_isDigit_16 : decode cX9_isDigit 16 = .ok (.getfield 19, 3) := by decide +kernel
theorem dX9_isDigit_19 : decode cX9_isDigit 19 = .ok (.baload, 1) := by decide +kernel
theorem dX9_isDigit_20 : decode cX9_isDigit 20 = .ok (.bipush 48, 2) := by decide +kernel
theorem dX9_isDigit_22 : decode cX9_isDigit 22 = .ok (.if_icmp .lt 21, 3) := by decide +kernel
theorem dX9_isDigit_25 : decode cX9_isDigit 25 = .ok (.aload_n 0, 1) := by decide +kernel
theorem dX9_isDigit_26 : decode cX9_isDigit 26 = .ok (.getfield 9, 3) := by decide +kernel
theorem dX9_isDigit_29 : decode cX9_isDigit 29 = .ok (.aload_n 0, 1) := by decide +kernel
theorem dX9_isDigit_30 : decode cX9_isDigit 30 = .ok (.getfield 19, 3) := by decide +kernel
theorem dX9_isDigit_33 : decode cX9_isDigit 33 = .ok (.baload, 1) := by decide +kernel
theorem dX9_isDigit_34 : decode cX9_isDigit 34 = .ok (.bipush 57, 2) := by decide +kernel
theorem dX9_isDigit_36 : decode cX9_isDigit 36 = .ok (.if_icmp .gt 7, 3) := by decide +kernel
theorem dX9_isDigit_39 : decode cX9_isDigit 39 = .ok (.iconst 1, 1) := by decide +kernel
theorem dX9_isDigit_40 : decode cX9_isDigit 40 = .ok (.goto 4, 3) := by decide +kernel
theorem dX9_isDigit_43 : decode cX9_isDigit 43 = .ok (.iconst 0, 1) := by decide +kernel
theorem dX9_isDigit_44 : decode cX9_isDigit 44 = .ok (.ireturn, 1) := by decide +kernel
theorem dX9_isLetter_0 : decode cX9_isLetter 0 = .ok (.aload_n 0, 1) := by decide +kernel
theorem dX9_isLetter_1 : decode cX9_isLetter 1 = .ok (.getfield 19, 3) := by decide +kernel
theorem dX9_isLetter_4 : decode cX9_isLetter 4 = .ok (.aload_n 0, 1) := by decide +kernel
theorem dX9_isLetter_5 : decode cX9_isLetter 5 = .ok (.getfield 28, 3) := by decide +kernel
theorem dX9_isLetter_8 : decode cX9_isLetter 8 = .ok (.if_icmp .ge 35, 3) := by decide +kernel
theorem dX9_isLetter_11 : decode cX9_isLetter 11 = .ok (.aload_n 0, 1) := by decide +kernel
theorem dX9_isLetter_12 : decode cX9_isLetter 12 = .ok (.getfield 9, 3) := by decide +kernel
theorem dX9_isLetter_15 : decode cX9_isLetter 15 = .ok (.aload_n 0, 1) := by decide +kernel
theorem dX9_isLetter_16 : decode cX9_isLetter 16 = .ok (.getfield 19, 3) := by decide +kernel
theorem dX9_isLetter_19 : decode cX9_isLetter 19 = .ok (.baload, 1) := by decide +kernel
theorem dX9_isLetter_20 : decode cX9_isLetter 20 = .ok (.bipush 97, 2) := by decide +kernel
theorem dX9_isLetter_22 : decode cX9_isLetter 22 = .ok (.if_icmp .lt 21, 3) := by decide +kernel
theorem dX9_isLetter_25 : decode cX9_isLetter 25 = .ok (.aload_n 0, 1) := by decide +kernel
theorem dX9_isLetter_26 : decode cX9_isLetter 26 = .ok (.getfield 9, 3) := by decide +kernel
theorem dX9_isLetter_29 : decode cX9_isLetter 29 = .ok (.aload_n 0, 1) := by decide +kernel
theorem dX9_isLetter_30 : decode cX9_isLetter 30 = .ok (.getfield 19, 3) := by decide +kernel
theorem dX9_isLetter_33 : decode cX9_isLetter 33 = .ok (.baload, 1) := by decide +kernel
theorem dX9_isLetter_34 : decode cX9_isLetter 34 = .ok (.bipush 122, 2) := by decide +kernel
theorem dX9_isLetter_36 : decode cX9_isLetter 36 = .ok (.if_icmp .gt 7, 3) := by decide +kernel
theorem dX9_isLetter_39 : decode cX9_isLetter 39 = .ok (.iconst 1, 1) := by decide +kernel
theorem dX9_isLetter_40 : decode cX9_isLetter 40 = .ok (.goto 4, 3) := by decide +kernel
theorem dX9_isLetter_43 : decode cX9_isLetter 43 = .ok (.iconst 0, 1) := by decide +kernel
theorem dX9_isLetter_44 : decode cX9_isLetter 44 = .ok (.ireturn, 1) := by decide +kernel
theorem dX9_fail_0 : decode cX9_fail 0 = .ok (.aload_n 0, 1) := by decide +kernel
theorem dX9_fail_1 : decode cX9_fail 1 = .ok (.getfield 31, 3) := by decide +kernel
theorem dX9_fail_4 : decode cX9_fail 4 = .ok (.ifCond .ne 14, 3) := by decide +kernel
theorem dX9_fail_7 : decode cX9_fail 7 = .ok (.aload_n 0, 1) := by decide +kernel
theorem dX9_fail_8 : decode cX9_fail 8 = .ok (.sipush (-1000), 3) := by decide +kernel
theorem dX9_fail_11 : decode cX9_fail 11 = .ok (.iload_n 1, 1) := by decide +kernel
theorem dX9_fail_12 : decode cX9_fail 12 = .ok (.imul, 1) := by decide +kernel
theorem dX9_fail_13 : decode cX9_fail 13 = .ok (.iload_n 2, 1) := by decide +kernel
theorem dX9_fail_14 : decode cX9_fail 14 = .ok (.isub, 1) := by decide +kernel
theorem dX9_fail_15 : decode cX9_fail 15 = .ok (.putfield 31, 3) := by decide +kernel
theorem dX9_fail_18 : decode cX9_fail 18 = .ok (.return_, 1) := by decide +kernel
theorem dX9_expect_0 : decode cX9_expect 0 = .ok (.aload_n 0, 1) := by decide +kernel
theorem dX9_expect_1 : decode cX9_expect 1 = .ok (.invokevirtual 34, 3) := by decide +kernel
theorem dX9_expect_4 : decode cX9_expect 4 = .ok (.iload_n 1, 1) := by decide +kernel
theorem dX9_expect_5 : decode cX9_expect 5 = .ok (.if_icmp .eq 14, 3) := by decide +kernel
theorem dX9_expect_8 : decode cX9_expect 8 = .ok (.aload_n 0, 1) := by decide +kernel
theorem dX9_expect_9 : decode cX9_expect 9 = .ok (.iconst 1, 1) := by decide +kernel
theorem dX9_expect_10 : decode cX9_expect 10 = .ok (.aload_n 0, 1) := by decide +kernel
theorem dX9_expect_11 : decode cX9_expect 11 = .ok (.getfield 19, 3) := by decide +kernel
theorem dX9_expect_14 : decode cX9_expect 14 = .ok (.invokevirtual 38, 3) := by decide +kernel
theorem dX9_expect_17 : decode cX9_expect 17 = .ok (.iconst 0, 1) := by decide +kernel
theorem dX9_expect_18 : decode cX9_expect 18 = .ok (.ireturn, 1) := by decide +kernel
theorem dX9_expect_19 : decode cX9_expect 19 = .ok (.aload_n 0, 1) := by decide +kernel
theorem dX9_expect_20 : decode cX9_expect 20 = .ok (.dup, 1) := by decide +kernel
theorem dX9_expect_21 : decode cX9_expect 21 = .ok (.getfield 19, 3) := by decide +kernel
theorem dX9_expect_24 : decode cX9_expect 24 = .ok (.iconst 1, 1) := by decide +kernel
theorem dX9_expect_25 : decode cX9_expect 25 = .ok (.iadd, 1) := by decide +kernel
theorem dX9_expect_26 : decode cX9_expect 26 = .ok (.putfield 19, 3) := by decide +kernel
theorem dX9_expect_29 : decode cX9_expect 29 = .ok (.iconst 1, 1) := by decide +kernel
theorem dX9_expect_30 : decode cX9_expect 30 = .ok (.ireturn, 1) := by decide +kernel
theorem dX9_digit_0 : decode cX9_digit 0 = .ok (.aload_n 0, 1) := by decide +kernel
theorem dX9_digit_1 : decode cX9_digit 1 = .ok (.invokevirtual 42, 3) := by decide +kernel
theorem dX9_digit_4 : decode cX9_digit 4 = .ok (.ifCond .ne 14, 3) := by decide +kernel
theorem dX9_digit_7 : decode cX9_digit 7 = .ok (.aload_n 0, 1) := by decide +kernel
theorem dX9_digit_8 : decode cX9_digit 8 = .ok (.iconst 1, 1) := by decide +kernel
theorem dX9_digit_9 : decode cX9_digit 9 = .ok (.aload_n 0, 1) := by decide +kernel
theorem dX9_digit_10 : decode cX9_digit 10 = .ok (.getfield 19, 3) := by decide +kernel
theorem dX9_digit_13 : decode cX9_digit 13 = .ok (.invokevirtual 38, 3) := by decide +kernel
theorem dX9_digit_16 : decode cX9_digit 16 = .ok (.iconst (-1), 1) := by decide +kernel
theorem dX9_digit_17 : decode cX9_digit 17 = .ok (.ireturn, 1) := by decide +kernel
theorem dX9_digit_18 : decode cX9_digit 18 = .ok (.aload_n 0, 1) := by decide +kernel
theorem dX9_digit_19 : decode cX9_digit 19 = .ok (.invokevirtual 34, 3) := by decide +kernel
theorem dX9_digit_22 : decode cX9_digit 22 = .ok (.bipush 48, 2) := by decide +kernel
theorem dX9_digit_24 : decode cX9_digit 24 = .ok (.isub, 1) := by decide +kernel
theorem dX9_digit_25 : decode cX9_digit 25 = .ok (.istore_n 3, 1) := by decide +kernel
theorem dX9_digit_26 : decode cX9_digit 26 = .ok (.iload_n 3, 1) := by decide +kernel
theorem dX9_digit_27 : decode cX9_digit 27 = .ok (.iload_n 1, 1) := by decide +kernel
theorem dX9_digit_28 : decode cX9_digit 28 = .ok (.if_icmp .lt 8, 3) := by decide +kernel
theorem dX9_digit_31 : decode cX9_digit 31 = .ok (.iload_n 3, 1) := by decide +kernel
theorem dX9_digit_32 : decode cX9_digit 32 = .ok (.iload_n 2, 1) := by decide +kernel
theorem dX9_digit_33 : decode cX9_digit 33 = .ok (.if_icmp .le 14, 3) := by decide +kernel
theorem dX9_digit_36 : decode cX9_digit 36 = .ok (.aload_n 0, 1) := by decide +kernel
theorem dX9_digit_37 : decode cX9_digit 37 = .ok (.iconst 3, 1) := by decide +kernel
theorem dX9_digit_38 : decode cX9_digit 38 = .ok (.aload_n 0, 1) := by decide +kernel
theorem dX9_digit_39 : decode cX9_digit 39 = .ok (.getfield 19, 3) := by decide +kernel
theorem dX9_digit_42 : decode cX9_digit 42 = .ok (.invokevirtual 38, 3) := by decide +kernel
theorem dX9_digit_45 : decode cX9_digit 45 = .ok (.iconst (-1), 1) := by decide +kernel
theorem dX9_digit_46 : decode cX9_digit 46 = .ok (.ireturn, 1) := by decide +kernel
theorem dX9_digit_47 : decode cX9_digit 47 = .ok (.aload_n 0, 1) := by decide +kernel
theorem dX9_digit_48 : decode cX9_digit 48 = .ok (.dup, 1) := by decide +kernel
theorem dX9_digit_49 : decode cX9_digit 49 = .ok (.getfield 19, 3) := by decide +kernel
theorem dX9_digit_52 : decode cX9_digit 52 = .ok (.iconst 1, 1) := by decide +kernel
theorem dX9_digit_53 : decode cX9_digit 53 = .ok (.iadd, 1) := by decide +kernel
theorem dX9_digit_54 : decode cX9_digit 54 = .ok (.putfield 19, 3) := by decide +kernel
theorem dX9_digit_57 : decode cX9_digit 57 = .ok (.iload_n 3, 1) := by decide +kernel
theorem dX9_digit_58 : decode cX9_digit 58 = .ok (.ireturn, 1) := by decide +kernel
theorem dX9_digits_0 : decode cX9_digits 0 = .ok (.aload_n 0, 1) := by decide +kernel
theorem dX9_digits_1 : decode cX9_digits 1 = .ok (.invokevirtual 42, 3) := by decide +kernel
theorem dX9_digits_4 : decode cX9_digits 4 = .ok (.ifCond .ne 14, 3) := by decide +kernel
theorem dX9_digits_7 : decode cX9_digits 7 = .ok (.aload_n 0, 1) := by decide +kernel
theorem dX9_digits_8 : decode cX9_digits 8 = .ok (.iconst 1, 1) := by decide +kernel
theorem dX9_digits_9 : decode cX9_digits 9 = .ok (.aload_n 0, 1) := by decide +kernel
theorem dX9_digits_10 : decode cX9_digits 10 = .ok (.getfield 19, 3) := by decide +kernel
theorem dX9_digits_13 : decode cX9_digits 13 = .ok (.invokevirtual 38, 3) := by decide +kernel
theorem dX9_digits_16 : decode cX9_digits 16 = .ok (.iconst (-1), 1) := by decide +kernel
theorem dX9_digits_17 : decode cX9_digits 17 = .ok (.ireturn, 1) := by decide +kernel
theorem dX9_digits_18 : decode cX9_digits 18 = .ok (.iload_n 2, 1) := by decide +kernel
theorem dX9_digits_19 : decode cX9_digits 19 = .ok (.istore_n 3, 1) := by decide +kernel
theorem dX9_digits_20 : decode cX9_digits 20 = .ok (.iconst 0, 1) := by decide +kernel
theorem dX9_digits_21 : decode cX9_digits 21 = .ok (.istore 4, 2) := by decide +kernel
theorem dX9_digits_23 : decode cX9_digits 23 = .ok (.iload 4, 2) := by decide +kernel
theorem dX9_digits_25 : decode cX9_digits 25 = .ok (.iload_n 1, 1) := by decide +kernel
theorem dX9_digits_26 : decode cX9_digits 26 = .ok (.if_icmp .gt 56, 3) := by decide +kernel
theorem dX9_digits_29 : decode cX9_digits 29 = .ok (.aload_n 0, 1) := by decide +kernel
theorem dX9_digits_30 : decode cX9_digits 30 = .ok (.invokevirtual 42, 3) := by decide +kernel
theorem dX9_digits_33 : decode cX9_digits 33 = .ok (.ifCond .eq 49, 3) := by decide +kernel
theorem dX9_digits_36 : decode cX9_digits 36 = .ok (.iload 4, 2) := by decide +kernel
theorem dX9_digits_38 : decode cX9_digits 38 = .ok (.iload_n 1, 1) := by decide +kernel
theorem dX9_digits_39 : decode cX9_digits 39 = .ok (.if_icmp .ne 14, 3) := by decide +kernel
theorem dX9_digits_42 : decode cX9_digits 42 = .ok (.aload_n 0, 1) := by decide +kernel
theorem dX9_digits_43 : decode cX9_digits 43 = .ok (.iconst 2, 1) := by decide +kernel
theorem dX9_digits_44 : decode cX9_digits 44 = .ok (.aload_n 0, 1) := by decide +kernel
theorem dX9_digits_45 : decode cX9_digits 45 = .ok (.getfield 19, 3) := by decide +kernel
theorem dX9_digits_48 : decode cX9_digits 48 = .ok (.invokevirtual 38, 3) := by decide +kernel
theorem dX9_digits_51 : decode cX9_digits 51 = .ok (.iconst (-1), 1) := by decide +kernel
theorem dX9_digits_52 : decode cX9_digits 52 = .ok (.ireturn, 1) := by decide +kernel
theorem dX9_digits_53 : decode cX9_digits 53 = .ok (.iload_n 3, 1) := by decide +kernel
theorem dX9_digits_54 : decode cX9_digits 54 = .ok (.bipush 10, 2) := by decide +kernel
theorem dX9_digits_56 : decode cX9_digits 56 = .ok (.imul, 1) := by decide +kernel
theorem dX9_digits_57 : decode cX9_digits 57 = .ok (.aload_n 0, 1) := by decide +kernel
theorem dX9_digits_58 : decode cX9_digits 58 = .ok (.invokevirtual 34, 3) := by decide +kernel
theorem dX9_digits_61 : decode cX9_digits 61 = .ok (.iadd, 1) := by decide +kernel
theorem dX9_digits_62 : decode cX9_digits 62 = .ok (.bipush 48, 2) := by decide +kernel
theorem dX9_digits_64 : decode cX9_digits 64 = .ok (.isub, 1) := by decide +kernel
theorem dX9_digits_65 : decode cX9_digits 65 = .ok (.istore_n 3, 1) := by decide +kernel
theorem dX9_digits_66 : decode cX9_digits 66 = .ok (.aload_n 0, 1) := by decide +kernel
theorem dX9_digits_67 : decode cX9_digits 67 = .ok (.dup, 1) := by decide +kernel
theorem dX9_digits_68 : decode cX9_digits 68 = .ok (.getfield 19, 3) := by decide +kernel
theorem dX9_digits_71 : decode cX9_digits 71 = .ok (.iconst 1, 1) := by decide +kernel
theorem dX9_digits_72 : decode cX9_digits 72 = .ok (.iadd, 1) := by decide +kernel
theorem dX9_digits_73 : decode cX9_digits 73 = .ok (.putfield 19, 3) := by decide +kernel
theorem dX9_digits_76 : decode cX9_digits 76 = .ok (.iinc 4 1, 3) := by decide +kernel
theorem dX9_digits_79 : decode cX9_digits 79 = .ok (.goto (-56), 3) := by decide +kernel
theorem dX9_digits_82 : decode cX9_digits 82 = .ok (.iload_n 3, 1) := by decide +kernel
theorem dX9_digits_83 : decode cX9_digits 83 = .ok (.ireturn, 1) := by decide +kernel
theorem dX9_word_0 : decode cX9_word 0 = .ok (.aload_n 0, 1) := by decide +kernel
theorem dX9_word_1 : decode cX9_word 1 = .ok (.invokevirtual 46, 3) := by decide +kernel
theorem dX9_word_4 : decode cX9_word 4 = .ok (.ifCond .ne 14, 3) := by decide +kernel
theorem dX9_word_7 : decode cX9_word 7 = .ok (.aload_n 0, 1) := by decide +kernel
theorem dX9_word_8 : decode cX9_word 8 = .ok (.iconst 1, 1) := by decide +kernel
theorem dX9_word_9 : decode cX9_word 9 = .ok (.aload_n 0, 1) := by decide +kernel
theorem dX9_word_10 : decode cX9_word 10 = .ok (.getfield 19, 3) := by decide +kernel
theorem dX9_word_13 : decode cX9_word 13 = .ok (.invokevirtual 38, 3) := by decide +kernel
theorem dX9_word_16 : decode cX9_word 16 = .ok (.iconst (-1), 1) := by decide +kernel
theorem dX9_word_17 : decode cX9_word 17 = .ok (.ireturn, 1) := by decide +kernel
theorem dX9_word_18 : decode cX9_word 18 = .ok (.iconst 0, 1) := by decide +kernel
theorem dX9_word_19 : decode cX9_word 19 = .ok (.istore_n 1, 1) := by decide +kernel
theorem dX9_word_20 : decode cX9_word 20 = .ok (.iconst 0, 1) := by decide +kernel
theorem dX9_word_21 : decode cX9_word 21 = .ok (.istore_n 2, 1) := by decide +kernel
theorem dX9_word_22 : decode cX9_word 22 = .ok (.iload_n 2, 1) := by decide +kernel
theorem dX9_word_23 : decode cX9_word 23 = .ok (.iconst 4, 1) := by decide +kernel
theorem dX9_word_24 : decode cX9_word 24 = .ok (.if_icmp .gt 56, 3) := by decide +kernel
theorem dX9_word_27 : decode cX9_word 27 = .ok (.aload_n 0, 1) := by decide +kernel
theorem dX9_word_28 : decode cX9_word 28 = .ok (.invokevirtual 46, 3) := by decide +kernel
theorem dX9_word_31 : decode cX9_word 31 = .ok (.ifCond .eq 49, 3) := by decide +kernel
theorem dX9_word_34 : decode cX9_word 34 = .ok (.iload_n 2, 1) := by decide +kernel
theorem dX9_word_35 : decode cX9_word 35 = .ok (.iconst 4, 1) := by decide +kernel
theorem dX9_word_36 : decode cX9_word 36 = .ok (.if_icmp .ne 14, 3) := by decide +kernel
theorem dX9_word_39 : decode cX9_word 39 = .ok (.aload_n 0, 1) := by decide +kernel
theorem dX9_word_40 : decode cX9_word 40 = .ok (.iconst 2, 1) := by decide +kernel
theorem dX9_word_41 : decode cX9_word 41 = .ok (.aload_n 0, 1) := by decide +kernel
theorem dX9_word_42 : decode cX9_word 42 = .ok (.getfield 19, 3) := by decide +kernel
theorem dX9_word_45 : decode cX9_word 45 = .ok (.invokevirtual 38, 3) := by decide +kernel
theorem dX9_word_48 : decode cX9_word 48 = .ok (.iconst (-1), 1) := by decide +kernel
theorem dX9_word_49 : decode cX9_word 49 = .ok (.ireturn, 1) := by decide +kernel
theorem dX9_word_50 : decode cX9_word 50 = .ok (.iload_n 1, 1) := by decide +kernel
theorem dX9_word_51 : decode cX9_word 51 = .ok (.iconst 5, 1) := by decide +kernel
theorem dX9_word_52 : decode cX9_word 52 = .ok (.ishl, 1) := by decide +kernel
theorem dX9_word_53 : decode cX9_word 53 = .ok (.aload_n 0, 1) := by decide +kernel
theorem dX9_word_54 : decode cX9_word 54 = .ok (.invokevirtual 34, 3) := by decide +kernel
theorem dX9_word_57 : decode cX9_word 57 = .ok (.bipush 97, 2) := by decide +kernel
theorem dX9_word_59 : decode cX9_word 59 = .ok (.isub, 1) := by decide +kernel
theorem dX9_word_60 : decode cX9_word 60 = .ok (.iconst 1, 1) := by decide +kernel
theorem dX9_word_61 : decode cX9_word 61 = .ok (.iadd, 1) := by decide +kernel
theorem dX9_word_62 : decode cX9_word 62 = .ok (.ior, 1) := by decide +kernel
theorem dX9_word_63 : decode cX9_word 63 = .ok (.istore_n 1, 1) := by decide +kernel
theorem dX9_word_64 : decode cX9_word 64 = .ok (.aload_n 0, 1) := by decide +kernel
theorem dX9_word_65 : decode cX9_word 65 = .ok (.dup, 1) := by decide +kernel
theorem dX9_word_66 : decode cX9_word 66 = .ok (.getfield 19, 3) := by decide +kernel
theorem dX9_word_69 : decode cX9_word 69 = .ok (.iconst 1, 1) := by decide +kernel
theorem dX9_word_70 : decode cX9_word 70 = .ok (.iadd, 1) := by decide +kernel
theorem dX9_word_71 : decode cX9_word 71 = .ok (.putfield 19, 3) := by decide +kernel
theorem dX9_word_74 : decode cX9_word 74 = .ok (.iinc 2 1, 3) := by decide +kernel
theorem dX9_word_77 : decode cX9_word 77 = .ok (.goto (-55), 3) := by decide +kernel
theorem dX9_word_80 : decode cX9_word 80 = .ok (.iload_n 1, 1) := by decide +kernel
theorem dX9_word_81 : decode cX9_word 81 = .ok (.ireturn, 1) := by decide +kernel
theorem dX9_path_0 : decode cX9_path 0 = .ok (.iconst 0, 1) := by decide +kernel
theorem dX9_path_1 : decode cX9_path 1 = .ok (.istore_n 2, 1) := by decide +kernel
theorem dX9_path_2 : decode cX9_path 2 = .ok (.iconst 0, 1) := by decide +kernel
theorem dX9_path_3 : decode cX9_path 3 = .ok (.istore_n 3, 1) := by decide +kernel
theorem dX9_path_4 : decode cX9_path 4 = .ok (.iload_n 3, 1) := by decide +kernel
theorem dX9_path_5 : decode cX9_path 5 = .ok (.iload_n 1, 1) := by decide +kernel
theorem dX9_path_6 : decode cX9_path 6 = .ok (.if_icmp .gt 89, 3) := by decide +kernel
theorem dX9_path_9 : decode cX9_path 9 = .ok (.aload_n 0, 1) := by decide +kernel
theorem dX9_path_10 : decode cX9_path 10 = .ok (.invokevirtual 46, 3) := by decide +kernel
theorem dX9_path_13 : decode cX9_path 13 = .ok (.ifCond .ne 14, 3) := by decide +kernel
theorem dX9_path_16 : decode cX9_path 16 = .ok (.aload_n 0, 1) := by decide +kernel
theorem dX9_path_17 : decode cX9_path 17 = .ok (.iconst 1, 1) := by decide +kernel
theorem dX9_path_18 : decode cX9_path 18 = .ok (.aload_n 0, 1) := by decide +kernel
theorem dX9_path_19 : decode cX9_path 19 = .ok (.getfield 19, 3) := by decide +kernel
theorem dX9_path_22 : decode cX9_path 22 = .ok (.invokevirtual 38, 3) := by decide +kernel
theorem dX9_path_25 : decode cX9_path 25 = .ok (.iconst (-1), 1) := by decide +kernel
theorem dX9_path_26 : decode cX9_path 26 = .ok (.ireturn, 1) := by decide +kernel
theorem dX9_path_27 : decode cX9_path 27 = .ok (.iload_n 3, 1) := by decide +kernel
theorem dX9_path_28 : decode cX9_path 28 = .ok (.iload_n 1, 1) := by decide +kernel
theorem dX9_path_29 : decode cX9_path 29 = .ok (.if_icmp .ne 14, 3) := by decide +kernel
theorem dX9_path_32 : decode cX9_path 32 = .ok (.aload_n 0, 1) := by decide +kernel
theorem dX9_path_33 : decode cX9_path 33 = .ok (.iconst 5, 1) := by decide +kernel
theorem dX9_path_34 : decode cX9_path 34 = .ok (.aload_n 0, 1) := by decide +kernel
theorem dX9_path_35 : decode cX9_path 35 = .ok (.getfield 19, 3) := by decide +kernel
theorem dX9_path_38 : decode cX9_path 38 = .ok (.invokevirtual 38, 3) := by decide +kernel
theorem dX9_path_41 : decode cX9_path 41 = .ok (.iconst (-1), 1) := by decide +kernel
theorem dX9_path_42 : decode cX9_path 42 = .ok (.ireturn, 1) := by decide +kernel
theorem dX9_path_43 : decode cX9_path 43 = .ok (.iload_n 2, 1) := by decide +kernel
theorem dX9_path_44 : decode cX9_path 44 = .ok (.iload_n 3, 1) := by decide +kernel
theorem dX9_path_45 : decode cX9_path 45 = .ok (.aload_n 0, 1) := by decide +kernel
theorem dX9_path_46 : decode cX9_path 46 = .ok (.invokevirtual 34, 3) := by decide +kernel
theorem dX9_path_49 : decode cX9_path 49 = .ok (.bipush 97, 2) := by decide +kernel
theorem dX9_path_51 : decode cX9_path 51 = .ok (.isub, 1) := by decide +kernel
theorem dX9_path_52 : decode cX9_path 52 = .ok (.iconst 1, 1) := by decide +kernel
theorem dX9_path_53 : decode cX9_path 53 = .ok (.iadd, 1) := by decide +kernel
theorem dX9_path_54 : decode cX9_path 54 = .ok (.invokestatic 49, 3) := by decide +kernel
theorem dX9_path_57 : decode cX9_path 57 = .ok (.istore_n 2, 1) := by decide +kernel
theorem dX9_path_58 : decode cX9_path 58 = .ok (.aload_n 0, 1) := by decide +kernel
theorem dX9_path_59 : decode cX9_path 59 = .ok (.dup, 1) := by decide +kernel
theorem dX9_path_60 : decode cX9_path 60 = .ok (.getfield 19, 3) := by decide +kernel
theorem dX9_path_63 : decode cX9_path 63 = .ok (.iconst 1, 1) := by decide +kernel
theorem dX9_path_64 : decode cX9_path 64 = .ok (.iadd, 1) := by decide +kernel
theorem dX9_path_65 : decode cX9_path 65 = .ok (.putfield 19, 3) := by decide +kernel
theorem dX9_path_68 : decode cX9_path 68 = .ok (.aload_n 0, 1) := by decide +kernel
theorem dX9_path_69 : decode cX9_path 69 = .ok (.invokevirtual 34, 3) := by decide +kernel
theorem dX9_path_72 : decode cX9_path 72 = .ok (.bipush 47, 2) := by decide +kernel
theorem dX9_path_74 : decode cX9_path 74 = .ok (.if_icmp .eq 5, 3) := by decide +kernel
theorem dX9_path_77 : decode cX9_path 77 = .ok (.iload_n 2, 1) := by decide +kernel
theorem dX9_path_78 : decode cX9_path 78 = .ok (.ireturn, 1) := by decide +kernel
theorem dX9_path_79 : decode cX9_path 79 = .ok (.aload_n 0, 1) := by decide +kernel
theorem dX9_path_80 : decode cX9_path 80 = .ok (.dup, 1) := by decide +kernel
theorem dX9_path_81 : decode cX9_path 81 = .ok (.getfield 19, 3) := by decide +kernel
theorem dX9_path_84 : decode cX9_path 84 = .ok (.iconst 1, 1) := by decide +kernel
theorem dX9_path_85 : decode cX9_path 85 = .ok (.iadd, 1) := by decide +kernel
theorem dX9_path_86 : decode cX9_path 86 = .ok (.putfield 19, 3) := by decide +kernel
theorem dX9_path_89 : decode cX9_path 89 = .ok (.iinc 3 1, 3) := by decide +kernel
theorem dX9_path_92 : decode cX9_path 92 = .ok (.goto (-88), 3) := by decide +kernel
theorem dX9_path_95 : decode cX9_path 95 = .ok (.iload_n 2, 1) := by decide +kernel
theorem dX9_path_96 : decode cX9_path 96 = .ok (.ireturn, 1) := by decide +kernel
theorem dX10_withName_0 : decode cX10_withName 0 = .ok (.iload_n 0, 1) := by decide +kernel
theorem dX10_withName_1 : decode cX10_withName 1 = .ok (.iload_n 2, 1) := by decide +kernel
theorem dX10_withName_2 : decode cX10_withName 2 = .ok (.bipush 25, 2) := by decide +kernel
theorem dX10_withName_4 : decode cX10_withName 4 = .ok (.iconst 5, 1) := by decide +kernel
theorem dX10_withName_5 : decode cX10_withName 5 = .ok (.iload_n 1, 1) := by decide +kernel
theorem dX10_withName_6 : decode cX10_withName 6 = .ok (.imul, 1) := by decide +kernel
theorem dX10_withName_7 : decode cX10_withName 7 = .ok (.isub, 1) := by decide +kernel
theorem dX10_withName_8 : decode cX10_withName 8 = .ok (.ishl, 1) := by decide +kernel
theorem dX10_withName_9 : decode cX10_withName 9 = .ok (.ior, 1) := by decide +kernel
theorem dX10_withName_10 : decode cX10_withName 10 = .ok (.ireturn, 1) := by decide +kernel
def sb (c : Int) : Int := if c < 128 then c else c - 256
theorem sb_and_all : ∀ n : Nat, n < 256 → gand (sb (n : Int)) 255 = (n : Int) := by decide +kernel
theorem sb_and {c : Int} (h0 : 0 ≤ c) (h1 : c < 256) : gand (sb c) 255 = c := by
  have := sb_and_all c.toNat (by omega)
  rwa [Int.toNat_of_nonneg h0] at this
def hd (s : List Int) : Int := match s with
  | [] => -1
  | c :: _ => c
/-- what is left of the text, from the place on -/
def tpIn (M : gM) (p : Int) (s : List Int) : Prop := M 1 2 = p ∧ 0 ≤ p ∧ M 1 3 = p + (s.length : Int) ∧ p + (s.length : Int) ≤ 260 ∧ ∀ (j : Nat) (c : Int), s[j]? = some c → 0 ≤ c ∧ c < 256 ∧ M 2 (p + (j : Int)) = sb c
def tM (M : gM) (p f : Int) : gM := gU (gU M 1 2 p) 1 4 f
def ff (f0 f : Int) : Int := if f0 = 0 then f else f0
theorem gOK_tp {sh : gS} {M : gM} {p : Int} (h : gOK sh M) : gOK sh (gU M 1 2 p) := gOK_U h (sh_1 h) (gFree_obj (f := 2) rfl)
theorem gOK_tf {sh : gS} {M : gM} {p : Int} (h : gOK sh M) : gOK sh (gU M 1 4 p) := gOK_U h (sh_1 h) (gFree_obj (f := 4) rfl)
theorem gOK_tM {sh : gS} {M : gM} {p f : Int} (h : gOK sh M) : gOK sh (tM M p f) := gOK_tf (gOK_tp h)
theorem tM_tM (M : gM) (p f q g : Int) : tM (tM M p f) q g = tM M q g := by
  funext b j
  simp only [tM, gU]
  by_cases h1 : b = 1 ∧ j = 4
  · simp [h1]
  · by_cases h2 : b = 1 ∧ j = 2
    · simp [h2]
    · simp [h1, h2]
theorem tM_f (M : gM) (p f : Int) : tM M p f 1 4 = f := by simp [tM, gU]
theorem tM_p (M : gM) (p f : Int) : tM M p f 1 2 = p := by simp [tM, gU]
theorem tM_cell (M : gM) (p f : Int) {b : Int} (h : b ≠ 1) : tM M p f b = M b := by funext j; simp [tM, gU, h]
theorem tM_oth (M : gM) (p f : Int) {j : Int} (h2 : j ≠ 2) (h4 : j ≠ 4) : tM M p f 1 j = M 1 j := by simp [tM, gU, h2, h4]
theorem tM_id (M : gM) : tM M (M 1 2) (M 1 4) = M := by
  funext b j
  simp only [tM, gU]
  by_cases h1 : b = 1 ∧ j = 4
  · obtain ⟨rfl, rfl⟩ := h1; simp
  · by_cases h2 : b = 1 ∧ j = 2
    · obtain ⟨rfl, rfl⟩ := h2; simp
    · simp [h1, h2]
theorem tpIn_tM {M : gM} {p p2 f : Int} {s : List Int} (h : tpIn M p s) (s2 : List Int) (k : Nat) (hs : s.drop k = s2) (hk : k ≤ s.length) (hp : p2 = p + (k : Int)) : tpIn (tM M p2 f) p2 s2 := by
  obtain ⟨h1, h2, h3, h4, h5⟩ := h
  have hlen : s2.length = s.length - k := by rw [← hs, List.length_drop]
  refine ⟨tM_p M p2 f, by omega, ?_, by omega, fun j c hj => ?_⟩
  · rw [tM_oth M p2 f (by decide) (by decide), h3]; omega
  · rw [← hs, List.getElem?_drop] at hj
    obtain ⟨q1, q2, q3⟩ := h5 _ _ hj
    refine ⟨q1, q2, ?_⟩
    rw [tM_cell M p2 f (by decide), ← q3]
    congr 1
    omega
theorem gU_p (M : gM) (p : Int) : gU M 1 2 p = tM M p (M 1 4) := by
  funext b j
  simp only [tM, gU]
  by_cases h1 : b = 1 ∧ j = 4
  · obtain ⟨rfl, rfl⟩ := h1; simp
  · simp [h1]
def dig (c : Int) : Prop := 48 ≤ c ∧ c ≤ 57
def let_ (c : Int) : Prop := 97 ≤ c ∧ c ≤ 122
theorem sp_X9_next {sh : gS} {M : gM} {p : Int} {s : List Int} (hOK : gOK sh M) (hT : tpIn M p s) :
    gC (gr 0 0) yX9_next cX9_next 1 (some (.int)) [(4, 1)] sh M (gPp sh M (0, hd s)) := by
  obtain ⟨h1, h2, h3, h4, h5⟩ := hT
  refine gC_ofA (lv := [_]) (by decide +kernel) (Nat.le_of_ble_eq_true rfl) rfl (fun hMw hav => ?_)
  refine g_aload_n (q0 := 1) (j := 0) rfl dX9_next_0 rfl ?_
  refine g_getf (q0 := 4) (t := 0) (fi := 2) rfl rfl ff_X9_19 dX9_next_1 rfl (sh_1 hOK) ?_
  refine g_aload_n (q0 := 5) (j := 0) rfl dX9_next_4 rfl ?_
  refine g_getf (q0 := 8) (t := 0) (fi := 3) rfl rfl ff_X9_28 dX9_next_5 rfl (sh_1 hOK) ?_
  refine g_icmp_ge (q0 := 11) (tgt := 27) rfl dX9_next_8 (by decide) (fun h8 => ?_) (fun h8 => ?_)
  · refine g_iconst (q0 := 28) rfl dX9_next_27 (k := ?_)
    refine g_ireturn dX9_next_28 rfl ⟨Nat.zero_le _, Nat.zero_le _⟩ ?_
    rw [h1, h3] at h8
    have e : s = [] := List.length_eq_zero_iff.mp (by omega)
    exact ⟨by rw [e]; rfl, rfl, rfl⟩
  · rw [h1, h3] at h8
    cases s with
    | nil => simp at h8
    | cons c s2 =>
      obtain ⟨q1, q2, q3⟩ := h5 0 c rfl
      simp only [Int.natCast_zero, Int.add_zero] at q3
      simp only [List.length_cons] at h4 h3
      refine g_aload_n (q0 := 12) (j := 0) rfl dX9_next_11 rfl ?_
      refine g_getp (q0 := 15) (b := 2) rfl ff_X9_9 dX9_next_12 rfl hOK (by decide) (sh_1 hOK) rfl (by decide) ?_
      refine g_aload_n (q0 := 16) (j := 0) rfl dX9_next_15 rfl ?_
      refine g_getf (q0 := 19) (t := 0) (fi := 2) rfl rfl ff_X9_19 dX9_next_16 rfl (sh_1 hOK) ?_
      refine g_bald (q0 := 20) rfl dX9_next_19 (sh_2 hOK) (by omega) (by omega) ?_
      refine g_sipush (q0 := 23) rfl dX9_next_20 (k := ?_)
      refine g_iand (q0 := 24) rfl dX9_next_23 ?_
      refine g_goto (tgt := 28) dX9_next_24 (by decide) ?_
      refine g_ireturn dX9_next_28 rfl ⟨Nat.zero_le _, Nat.zero_le _⟩ ?_
      exact ⟨by rw [h1, q3, sb_and q1 q2]; rfl, rfl, rfl⟩
theorem sb_lo {c k : Int} (h0 : 0 ≤ c) (h1 : c < 256) (hk : 0 < k) (hk2 : k < 128) : k ≤ sb c ↔ k ≤ c ∧ c < 128 := by
  unfold sb
  split <;> omega
theorem sp_X9_isDigit {sh : gS} {M : gM} {p : Int} {s : List Int} (hOK : gOK sh M) (hT : tpIn M p s) :
    gC (gr 0 0) yX9_isDigit cX9_isDigit 1 (some (.boolean)) [(4, 1)] sh M (gPp sh M (0, if 48 ≤ hd s ∧ hd s ≤ 57 then 1 else 0)) := by
  obtain ⟨h1, h2, h3, h4, h5⟩ := hT
  refine gC_ofA (lv := [_]) (by decide +kernel) (Nat.le_of_ble_eq_true rfl) rfl (fun hMw hav => ?_)
  refine g_aload_n (q0 := 1) (j := 0) rfl dX9_isDigit_0 rfl ?_
  refine g_getf (q0 := 4) (t := 0) (fi := 2) rfl rfl ff_X9_19 dX9_isDigit_1 rfl (sh_1 hOK) ?_
  refine g_aload_n (q0 := 5) (j := 0) rfl dX9_isDigit_4 rfl ?_
  refine g_getf (q0 := 8) (t := 0) (fi := 3) rfl rfl ff_X9_28 dX9_isDigit_5 rfl (sh_1 hOK) ?_
  refine g_icmp_ge (q0 := 11) (tgt := 43) rfl dX9_isDigit_8 (by decide) (fun h8 => ?_) (fun h8 => ?_)
  · refine g_iconst (q0 := 44) rfl dX9_isDigit_43 (k := ?_)
    refine g_zreturn dX9_isDigit_44 rfl (by first | rfl | exact gnz (by omega)) ⟨Nat.zero_le _, Nat.zero_le _⟩ ?_
    rw [h1, h3] at h8
    have e : s = [] := List.length_eq_zero_iff.mp (by omega)
    exact ⟨by rw [e]; rfl, rfl, rfl⟩
  · rw [h1, h3] at h8
    cases s with
    | nil => simp at h8
    | cons c s2 =>
      obtain ⟨q1, q2, q3⟩ := h5 0 c rfl
      simp only [Int.natCast_zero, Int.add_zero] at q3
      simp only [List.length_cons] at h4 h3
      have hsb : sb c = c ∨ (sb c = c - 256 ∧ 128 ≤ c) := by unfold sb; split <;> omega
      have hhd : hd (c :: s2) = c := rfl
      rw [hhd]
      refine g_aload_n (q0 := 12) (j := 0) rfl dX9_isDigit_11 rfl ?_
      refine g_getp (q0 := 15) (b := 2) rfl ff_X9_9 dX9_isDigit_12 rfl hOK (by decide) (sh_1 hOK) rfl (by decide) ?_
      refine g_aload_n (q0 := 16) (j := 0) rfl dX9_isDigit_15 rfl ?_
      refine g_getf (q0 := 19) (t := 0) (fi := 2) rfl rfl ff_X9_19 dX9_isDigit_16 rfl (sh_1 hOK) ?_
      refine g_bald (q0 := 20) rfl dX9_isDigit_19 (sh_2 hOK) (by omega) (by omega) ?_
      refine g_bipush (q0 := 22) rfl dX9_isDigit_20 (k := ?_)
      refine g_icmp_lt (q0 := 25) (tgt := 43) rfl dX9_isDigit_22 (by decide) (fun h22 => ?_) (fun h22 => ?_)
      · rw [h1, q3] at h22
        refine g_iconst (q0 := 44) rfl dX9_isDigit_43 (k := ?_)
        refine g_zreturn dX9_isDigit_44 rfl (by first | rfl | exact gnz (by omega)) ⟨Nat.zero_le _, Nat.zero_le _⟩ ?_
        exact ⟨by rw [if_neg (by omega)], rfl, rfl⟩
      · rw [h1, q3] at h22
        refine g_aload_n (q0 := 26) (j := 0) rfl dX9_isDigit_25 rfl ?_
        refine g_getp (q0 := 29) (b := 2) rfl ff_X9_9 dX9_isDigit_26 rfl hOK (by decide) (sh_1 hOK) rfl (by decide) ?_
        refine g_aload_n (q0 := 30) (j := 0) rfl dX9_isDigit_29 rfl ?_
        refine g_getf (q0 := 33) (t := 0) (fi := 2) rfl rfl ff_X9_19 dX9_isDigit_30 rfl (sh_1 hOK) ?_
        refine g_bald (q0 := 34) rfl dX9_isDigit_33 (sh_2 hOK) (by omega) (by omega) ?_
        refine g_bipush (q0 := 36) rfl dX9_isDigit_34 (k := ?_)
        refine g_icmp_gt (q0 := 39) (tgt := 43) rfl dX9_isDigit_36 (by decide) (fun h36 => ?_) (fun h36 => ?_)
        · rw [h1, q3] at h36
          refine g_iconst (q0 := 44) rfl dX9_isDigit_43 (k := ?_)
          refine g_zreturn dX9_isDigit_44 rfl (by first | rfl | exact gnz (by omega)) ⟨Nat.zero_le _, Nat.zero_le _⟩ ?_
          exact ⟨by rw [if_neg (by omega)], rfl, rfl⟩
        · rw [h1, q3] at h36
          refine g_iconst (q0 := 40) rfl dX9_isDigit_39 (k := ?_)
          refine g_goto (tgt := 44) dX9_isDigit_40 (by decide) ?_
          refine g_zreturn dX9_isDigit_44 rfl (by first | rfl | exact gnz (by omega)) ⟨Nat.zero_le _, Nat.zero_le _⟩ ?_
          exact ⟨by rw [if_pos (by omega)], rfl, rfl⟩
theorem sp_X9_isLetter {sh : gS} {M : gM} {p : Int} {s : List Int} (hOK : gOK sh M) (hT : tpIn M p s) :
    gC (gr 0 0) yX9_isLetter cX9_isLetter 1 (some (.boolean)) [(4, 1)] sh M (gPp sh M (0, if 97 ≤ hd s ∧ hd s ≤ 122 then 1 else 0)) := by
  obtain ⟨h1, h2, h3, h4, h5⟩ := hT
  refine gC_ofA (lv := [_]) (by decide +kernel) (Nat.le_of_ble_eq_true rfl) rfl (fun hMw hav => ?_)
  refine g_aload_n (q0 := 1) (j := 0) rfl dX9_isLetter_0 rfl ?_
  refine g_getf (q0 := 4) (t := 0) (fi := 2) rfl rfl ff_X9_19 dX9_isLetter_1 rfl (sh_1 hOK) ?_
  refine g_aload_n (q0 := 5) (j := 0) rfl dX9_isLetter_4 rfl ?_
  refine g_getf (q0 := 8) (t := 0) (fi := 3) rfl rfl ff_X9_28 dX9_isLetter_5 rfl (sh_1 hOK) ?_
  refine g_icmp_ge (q0 := 11) (tgt := 43) rfl dX9_isLetter_8 (by decide) (fun h8 => ?_) (fun h8 => ?_)
  · refine g_iconst (q0 := 44) rfl dX9_isLetter_43 (k := ?_)
    refine g_zreturn dX9_isLetter_44 rfl (by first | rfl | exact gnz (by omega)) ⟨Nat.zero_le _, Nat.zero_le _⟩ ?_
    rw [h1, h3] at h8
    have e : s = [] := List.length_eq_zero_iff.mp (by omega)
    exact ⟨by rw [e]; rfl, rfl, rfl⟩
  · rw [h1, h3] at h8
    cases s with
    | nil => simp at h8
    | cons c s2 =>
      obtain ⟨q1, q2, q3⟩ := h5 0 c rfl
      simp only [Int.natCast_zero, Int.add_zero] at q3
      simp only [List.length_cons] at h4 h3
      have hsb : sb c = c ∨ (sb c = c - 256 ∧ 128 ≤ c) := by unfold sb; split <;> omega
      have hhd : hd (c :: s2) = c := rfl
      rw [hhd]
      refine g_aload_n (q0 := 12) (j := 0) rfl dX9_isLetter_11 rfl ?_
      refine g_getp (q0 := 15) (b := 2) rfl ff_X9_9 dX9_isLetter_12 rfl hOK (by decide) (sh_1 hOK) rfl (by decide) ?_
      refine g_aload_n (q0 := 16) (j := 0) rfl dX9_isLetter_15 rfl ?_
      refine g_getf (q0 := 19) (t := 0) (fi := 2) rfl rfl ff_X9_19 dX9_isLetter_16 rfl (sh_1 hOK) ?_
      refine g_bald (q0 := 20) rfl dX9_isLetter_19 (sh_2 hOK) (by omega) (by omega) ?_
      refine g_bipush (q0 := 22) rfl dX9_isLetter_20 (k := ?_)
      refine g_icmp_lt (q0 := 25) (tgt := 43) rfl dX9_isLetter_22 (by decide) (fun h22 => ?_) (fun h22 => ?_)
      · rw [h1, q3] at h22
        refine g_iconst (q0 := 44) rfl dX9_isLetter_43 (k := ?_)
        refine g_zreturn dX9_isLetter_44 rfl (by first | rfl | exact gnz (by omega)) ⟨Nat.zero_le _, Nat.zero_le _⟩ ?_
        exact ⟨by rw [if_neg (by omega)], rfl, rfl⟩
      · rw [h1, q3] at h22
        refine g_aload_n (q0 := 26) (j := 0) rfl dX9_isLetter_25 rfl ?_
        refine g_getp (q0 := 29) (b := 2) rfl ff_X9_9 dX9_isLetter_26 rfl hOK (by decide) (sh_1 hOK) rfl (by decide) ?_
        refine g_aload_n (q0 := 30) (j := 0) rfl dX9_isLetter_29 rfl ?_
        refine g_getf (q0 := 33) (t := 0) (fi := 2) rfl rfl ff_X9_19 dX9_isLetter_30 rfl (sh_1 hOK) ?_
        refine g_bald (q0 := 34) rfl dX9_isLetter_33 (sh_2 hOK) (by omega) (by omega) ?_
        refine g_bipush (q0 := 36) rfl dX9_isLetter_34 (k := ?_)
        refine g_icmp_gt (q0 := 39) (tgt := 43) rfl dX9_isLetter_36 (by decide) (fun h36 => ?_) (fun h36 => ?_)
        · rw [h1, q3] at h36
          refine g_iconst (q0 := 44) rfl dX9_isLetter_43 (k := ?_)
          refine g_zreturn dX9_isLetter_44 rfl (by first | rfl | exact gnz (by omega)) ⟨Nat.zero_le _, Nat.zero_le _⟩ ?_
          exact ⟨by rw [if_neg (by omega)], rfl, rfl⟩
        · rw [h1, q3] at h36
          refine g_iconst (q0 := 40) rfl dX9_isLetter_39 (k := ?_)
          refine g_goto (tgt := 44) dX9_isLetter_40 (by decide) ?_
          refine g_zreturn dX9_isLetter_44 rfl (by first | rfl | exact gnz (by omega)) ⟨Nat.zero_le _, Nat.zero_le _⟩ ?_
          exact ⟨by rw [if_pos (by omega)], rfl, rfl⟩

theorem sp_X9_isAtEnd {sh : gS} {M : gM} {p : Int} {s : List Int} (hOK : gOK sh M) (hT : tpIn M p s) :
    gC (gr 0 0) yX9_isAtEnd cX9_isAtEnd 1 (some (.boolean)) [(4, 1)] sh M (gPp sh M (0, if s = [] then 1 else 0)) := by
  obtain ⟨h1, h2, h3, h4, h5⟩ := hT
  refine gC_ofA (lv := [_]) (by decide +kernel) (Nat.le_of_ble_eq_true rfl) rfl (fun hMw hav => ?_)
  refine g_aload_n (q0 := 1) (j := 0) rfl dX9_isAtEnd_0 rfl ?_
  refine g_getf (q0 := 4) (t := 0) (fi := 2) rfl rfl ff_X9_19 dX9_isAtEnd_1 rfl (sh_1 hOK) ?_
  refine g_aload_n (q0 := 5) (j := 0) rfl dX9_isAtEnd_4 rfl ?_
  refine g_getf (q0 := 8) (t := 0) (fi := 3) rfl rfl ff_X9_28 dX9_isAtEnd_5 rfl (sh_1 hOK) ?_
  refine g_icmp_lt (q0 := 11) (tgt := 15) rfl dX9_isAtEnd_8 (by decide) (fun h8 => ?_) (fun h8 => ?_)
  · rw [h1, h3] at h8
    refine g_iconst (q0 := 16) rfl dX9_isAtEnd_15 (k := ?_)
    refine g_zreturn dX9_isAtEnd_16 rfl (by first | rfl | exact gnz (by omega)) ⟨Nat.zero_le _, Nat.zero_le _⟩ ?_
    exact ⟨by rw [if_neg (fun e => by rw [e] at h8; simp at h8)], rfl, rfl⟩
  · rw [h1, h3] at h8
    refine g_iconst (q0 := 12) rfl dX9_isAtEnd_11 (k := ?_)
    refine g_goto (tgt := 16) dX9_isAtEnd_12 (by decide) ?_
    refine g_zreturn dX9_isAtEnd_16 rfl (by first | rfl | exact gnz (by omega)) ⟨Nat.zero_le _, Nat.zero_le _⟩ ?_
    exact ⟨by rw [if_pos (List.length_eq_zero_iff.mp (by omega))], rfl, rfl⟩
theorem sp_X9_fail {sh : gS} {M : gM} {n w : Int} (hOK : gOK sh M) (hn : 0 ≤ n ∧ n ≤ 9) (hw : 0 ≤ w ∧ w ≤ 300) :
    gC (gr 0 0) yX9_fail cX9_fail 3 none [(4, 1), (0, n), (0, w)] sh M (gPm sh (fun r M1 => r = none ∧ M1 = tM M (M 1 2) (ff (M 1 4) (-1000 * n - w)))) := by
  refine gC_ofA (lv := [_, _, _]) (by decide +kernel) (Nat.le_of_ble_eq_true rfl) rfl (fun hMw hav => ?_)
  refine g_aload_n (q0 := 1) (j := 0) rfl dX9_fail_0 rfl ?_
  refine g_getf (q0 := 4) (t := 0) (fi := 4) rfl rfl ff_X9_31 dX9_fail_1 rfl (sh_1 hOK) ?_
  refine g_if_ne (q0 := 7) (tgt := 18) rfl dX9_fail_4 (by decide) (fun h4 => ?_) (fun h4 => ?_)
  · refine g_return dX9_fail_18 rfl ⟨Nat.zero_le _, Nat.zero_le _⟩ ?_
    exact ⟨rfl, rfl, by rw [ff, if_neg h4, tM_id]⟩
  · refine g_aload_n (q0 := 8) (j := 0) rfl dX9_fail_7 rfl ?_
    refine g_sipush (q0 := 11) rfl dX9_fail_8 (k := ?_)
    refine g_iload_n (q0 := 12) (j := 1) rfl dX9_fail_11 rfl ?_
    refine g_imul (q0 := 13) rfl dX9_fail_12 (by omega) (by omega) ?_
    refine g_iload_n (q0 := 14) (j := 2) rfl dX9_fail_13 rfl ?_
    refine g_isub (q0 := 15) rfl dX9_fail_14 (by omega) (by omega) ?_
    refine g_put (q0 := 18) (t := 0) (fi := 4) rfl rfl ff_X9_31 dX9_fail_15 rfl (sh_1 hOK) rfl (fun _ => ⟨rfl, rfl⟩) ?_
    refine g_return dX9_fail_18 rfl ⟨Nat.zero_le _, Nat.zero_le _⟩ ?_
    refine ⟨rfl, rfl, ?_⟩
    rw [ff, if_pos h4]
    funext b j
    simp only [tM, gU]
    by_cases h1 : b = 1 ∧ j = 4
    · simp [h1]
    · by_cases h2 : b = 1 ∧ j = 2
      · obtain ⟨rfl, rfl⟩ := h2; simp
      · simp [h1, h2]
-- what the reader's works answer: fault, word, place, rest
abbrev pR : Type := Int × Int × Int × List Int
def pDigGo : Nat → Int → List Int → Int → pR
  | _, v, [], p => (0, v, p, [])
  | 0, v, c :: s, p => if 48 ≤ c ∧ c ≤ 57 then (-2000 - p, -1, p, c :: s) else (0, v, p, c :: s)
  | k + 1, v, c :: s, p => if 48 ≤ c ∧ c ≤ 57 then pDigGo k (v * 10 + c - 48) s (p + 1) else (0, v, p, c :: s)
def pDigits (most : Nat) (ahead : Int) (s : List Int) (p : Int) : pR := if 48 ≤ hd s ∧ hd s ≤ 57 then pDigGo most ahead s p else (-1000 - p, -1, p, s)
def pDigit (lo hi : Int) (s : List Int) (p : Int) : pR := match s with
  | [] => (-1000 - p, -1, p, [])
  | c :: r => if 48 ≤ c ∧ c ≤ 57 then if lo ≤ c - 48 ∧ c - 48 ≤ hi then (0, c - 48, p + 1, r) else (-3000 - p, -1, p, c :: r) else (-1000 - p, -1, p, c :: r)
def pWordGo : Nat → Int → List Int → Int → pR
  | _, v, [], p => (0, v, p, [])
  | 0, v, c :: s, p => if 97 ≤ c ∧ c ≤ 122 then (-2000 - p, -1, p, c :: s) else (0, v, p, c :: s)
  | k + 1, v, c :: s, p => if 97 ≤ c ∧ c ≤ 122 then pWordGo k (32 * v + c - 96) s (p + 1) else (0, v, p, c :: s)
def pWord (s : List Int) (p : Int) : pR := if 97 ≤ hd s ∧ hd s ≤ 122 then pWordGo 4 0 s p else (-1000 - p, -1, p, s)
/-- k NAMES may follow; w is what the next one counts -/
def pPathGo : Nat → Int → Int → List Int → Int → pR
  | _, _, _, [], p => (-1000 - p, -1, p, [])
  | 0, _, _, c :: r, p => if 97 ≤ c ∧ c ≤ 122 then (-5000 - p, -1, p, c :: r) else (-1000 - p, -1, p, c :: r)
  | k + 1, w, v, c :: r, p => if 97 ≤ c ∧ c ≤ 122 then
      if hd r = 47 then pPathGo k (w / 32) (v + (c - 96) * w) r.tail (p + 2) else (0, v + (c - 96) * w, p + 1, r)
    else (-1000 - p, -1, p, c :: r)
def pPath (most : Nat) (s : List Int) (p : Int) : pR := pPathGo most 33554432 0 s p
def tP (M : gM) (x : pR) : Option gV → gM → Prop := fun r M1 => r = some (0, x.2.1) ∧ M1 = tM M x.2.2.1 (ff (M 1 4) x.1) ∧ tpIn M1 x.2.2.1 x.2.2.2
theorem tpIn_self {M : gM} {p f : Int} {s : List Int} (h : tpIn M p s) : tpIn (tM M p f) p s := tpIn_tM h s 0 rfl (Nat.zero_le _) (by omega)
theorem tpIn_len {M : gM} {p : Int} {s : List Int} (h : tpIn M p s) : 0 ≤ p ∧ p + (s.length : Int) ≤ 260 := ⟨h.2.1, h.2.2.2.1⟩
theorem tpIn_hd {M : gM} {p c : Int} {s : List Int} (h : tpIn M p (c :: s)) : 0 ≤ c ∧ c < 256 := ⟨(h.2.2.2.2 0 c rfl).1, (h.2.2.2.2 0 c rfl).2.1⟩
theorem hd_rng {M : gM} {p : Int} {s : List Int} (h : tpIn M p s) : -1 ≤ hd s ∧ hd s < 256 := by
  cases s with
  | nil => exact ⟨by decide, by decide⟩
  | cons c s => have := tpIn_hd h; exact ⟨by show -1 ≤ c; omega, this.2⟩
theorem ff0 (f : Int) : ff f 0 = f := by unfold ff; split <;> omega
theorem ff_z {f : Int} (g : Int) (h : f = 0) : ff f g = g := by rw [ff, if_pos h]
theorem tadv {M : gM} {p c : Int} {r : List Int} (hT : tpIn M p (c :: r)) : gU M 1 2 (M 1 2 + 1) = tM M (p + 1) (ff (M 1 4) 0) ∧ tpIn (gU M 1 2 (M 1 2 + 1)) (p + 1) r := by
  rw [gU_p, hT.1, ff0]
  exact ⟨rfl, tpIn_tM hT r 1 rfl (by simp) (by omega)⟩
theorem sp_X9_expect {sh : gS} {M : gM} {p c : Int} {s : List Int} (hOK : gOK sh M) (hT : tpIn M p s) (hc : 0 ≤ c) :
    gC (gr 1 22) yX9_expect cX9_expect 2 (some (.boolean)) [(4, 1), (0, c)] sh M (gPm sh (tP M (if hd s = c then (0, 1, p + 1, s.tail) else (-1000 - p, 0, p, s)))) := by
  have hl := tpIn_len hT
  have hM2 := hT.1
  refine gC_ofA (lv := [_, _]) (by decide +kernel) (Nat.le_of_ble_eq_true rfl) rfl (fun hMw hav => ?_)
  refine g_aload_n (q0 := 1) (j := 0) rfl dX9_expect_0 rfl ?_
  refine g_callVp (as := []) (rest := []) mt_X9_next mi_X9_next se_X9_next ml_X9_34 dX9_expect_1 (q0 := 4) rfl rfl (sh_1 hOK) rfl rfl (sp_X9_next hOK hT) rfl ⟨by decide, by decide⟩ (Nat.le_of_ble_eq_true rfl) ⟨Nat.zero_le _, Nat.zero_le _⟩ (fun hwc => ?_)
  refine g_iload_n (q0 := 5) (j := 1) rfl dX9_expect_4 rfl ?_
  refine g_icmp_eq (q0 := 8) (tgt := 19) rfl dX9_expect_5 (by decide) (fun h5 => ?_) (fun h5 => ?_)
  · cases s with
    | nil => exact absurd h5 (by show ¬ (-1 = c); omega)
    | cons d r =>
      simp only [List.length_cons] at hl
      rw [if_pos h5]
      refine g_aload_n (q0 := 20) (j := 0) rfl dX9_expect_19 rfl ?_
      refine g_dup (q0 := 21) rfl dX9_expect_20 (k := ?_)
      refine g_getf (q0 := 24) (t := 0) (fi := 2) rfl rfl ff_X9_19 dX9_expect_21 rfl (sh_1 hOK) ?_
      refine g_iconst (q0 := 25) rfl dX9_expect_24 (k := ?_)
      refine g_iadd (q0 := 26) rfl dX9_expect_25 (by omega) (by omega) ?_
      refine g_put (q0 := 29) (t := 0) (fi := 2) rfl rfl ff_X9_19 dX9_expect_26 rfl (sh_1 hOK) rfl (fun _ => ⟨rfl, rfl⟩) ?_
      refine g_iconst (q0 := 30) rfl dX9_expect_29 (k := ?_)
      refine g_zreturn dX9_expect_30 rfl (by first | rfl | exact gnz (by omega)) ⟨Nat.zero_le _, Nat.zero_le _⟩ ?_
      exact ⟨rfl, rfl, (tadv hT).1, (tadv hT).2⟩
  · rw [if_neg h5]
    refine g_aload_n (q0 := 9) (j := 0) rfl dX9_expect_8 rfl ?_
    refine g_iconst (q0 := 10) rfl dX9_expect_9 (k := ?_)
    refine g_aload_n (q0 := 11) (j := 0) rfl dX9_expect_10 rfl ?_
    refine g_getf (q0 := 14) (t := 0) (fi := 2) rfl rfl ff_X9_19 dX9_expect_11 rfl (sh_1 hOK) ?_
    rw [hT.1]
    refine g_callVm (as := [_, _]) (rest := []) mt_X9_fail mi_X9_fail se_X9_fail ml_X9_38 dX9_expect_14 (q0 := 17) rfl rfl (sh_1 hOK) rfl rfl (sp_X9_fail hOK ⟨by omega, by omega⟩ ⟨by omega, by omega⟩) rfl ⟨by decide, by decide⟩ (Nat.le_of_ble_eq_true rfl) ⟨Nat.zero_le _, Nat.zero_le _⟩ (fun r1 M1 hP1 hw1 hMw1 => ?_)
    obtain ⟨rfl, rfl⟩ := hP1
    refine g_iconst (q0 := 18) rfl dX9_expect_17 (k := ?_)
    refine g_zreturn dX9_expect_18 rfl (by first | rfl | exact gnz (by omega)) ⟨Nat.zero_le _, Nat.zero_le _⟩ ?_
    exact ⟨rfl, rfl, by rw [hT.1]; rfl, by rw [hT.1]; exact tpIn_self hT⟩
theorem sp_X9_digit {sh : gS} {M : gM} {p lo hi : Int} {s : List Int} (hOK : gOK sh M) (hT : tpIn M p s) :
    gC (gr 1 22) yX9_digit cX9_digit 4 (some (.int)) [(4, 1), (0, lo), (0, hi)] sh M (gPm sh (tP M (pDigit lo hi s p))) := by
  have hl := tpIn_len hT
  have hM2 := hT.1
  refine gC_ofA (lv := [_, _, _, _]) (by decide +kernel) (Nat.le_of_ble_eq_true rfl) rfl (fun hMw hav => ?_)
  refine g_aload_n (q0 := 1) (j := 0) rfl dX9_digit_0 rfl ?_
  refine g_callVp (as := []) (rest := []) mt_X9_isDigit mi_X9_isDigit se_X9_isDigit ml_X9_42 dX9_digit_1 (q0 := 4) rfl rfl (sh_1 hOK) rfl rfl (sp_X9_isDigit hOK hT) rfl ⟨by decide, by decide⟩ (Nat.le_of_ble_eq_true rfl) ⟨Nat.zero_le _, Nat.zero_le _⟩ (fun hwc => ?_)
  refine g_if_ne (q0 := 7) (tgt := 18) rfl dX9_digit_4 (by decide) (fun h4 => ?_) (fun h4 => ?_)
  · have hd4 : 48 ≤ hd s ∧ hd s ≤ 57 := by
      by_cases q : 48 ≤ hd s ∧ hd s ≤ 57
      · exact q
      · rw [if_neg q] at h4; exact absurd rfl h4
    cases s with
    | nil => exact absurd hd4.1 (by decide)
    | cons c r =>
      simp only [List.length_cons] at hl
      have e0 : hd (c :: r) = c := rfl
      rw [e0] at hd4
      refine g_aload_n (q0 := 19) (j := 0) rfl dX9_digit_18 rfl ?_
      refine g_callVp (as := []) (rest := []) mt_X9_next mi_X9_next se_X9_next ml_X9_34 dX9_digit_19 (q0 := 22) rfl rfl (sh_1 hOK) rfl rfl (sp_X9_next hOK hT) rfl ⟨by decide, by decide⟩ (Nat.le_of_ble_eq_true rfl) ⟨Nat.zero_le _, Nat.zero_le _⟩ (fun hwc => ?_)
      rw [e0]
      refine g_bipush (q0 := 24) rfl dX9_digit_22 (k := ?_)
      refine g_isub (q0 := 25) rfl dX9_digit_24 (by omega) (by omega) ?_
      refine g_istore_n (q0 := 26) (j := 3) (lv2 := [_, _, _, _]) rfl dX9_digit_25 (by decide) rfl rfl ?_
      refine g_iload_n (q0 := 27) (j := 3) rfl dX9_digit_26 rfl ?_
      refine g_iload_n (q0 := 28) (j := 1) rfl dX9_digit_27 rfl ?_
      refine g_icmp_lt (q0 := 31) (tgt := 36) rfl dX9_digit_28 (by decide) (fun h28 => ?_) (fun h28 => ?_)
      · refine g_aload_n (q0 := 37) (j := 0) rfl dX9_digit_36 rfl ?_
        refine g_iconst (q0 := 38) rfl dX9_digit_37 (k := ?_)
        refine g_aload_n (q0 := 39) (j := 0) rfl dX9_digit_38 rfl ?_
        refine g_getf (q0 := 42) (t := 0) (fi := 2) rfl rfl ff_X9_19 dX9_digit_39 rfl (sh_1 hOK) ?_
        rw [hT.1]
        refine g_callVm (as := [_, _]) (rest := []) mt_X9_fail mi_X9_fail se_X9_fail ml_X9_38 dX9_digit_42 (q0 := 45) rfl rfl (sh_1 hOK) rfl rfl (sp_X9_fail hOK ⟨by omega, by omega⟩ ⟨by omega, by omega⟩) rfl ⟨by decide, by decide⟩ (Nat.le_of_ble_eq_true rfl) ⟨Nat.zero_le _, Nat.zero_le _⟩ (fun r1 M1 hP1 hw1 hMw1 => ?_)
        obtain ⟨rfl, rfl⟩ := hP1
        refine g_iconst (q0 := 46) rfl dX9_digit_45 (k := ?_)
        refine g_ireturn dX9_digit_46 rfl ⟨Nat.zero_le _, Nat.zero_le _⟩ ?_
        rw [pDigit, if_pos hd4, if_neg (by omega)]
        exact ⟨rfl, rfl, by rw [hT.1]; rfl, by rw [hT.1]; exact tpIn_self hT⟩
      · refine g_iload_n (q0 := 32) (j := 3) rfl dX9_digit_31 rfl ?_
        refine g_iload_n (q0 := 33) (j := 2) rfl dX9_digit_32 rfl ?_
        refine g_icmp_le (q0 := 36) (tgt := 47) rfl dX9_digit_33 (by decide) (fun h33 => ?_) (fun h33 => ?_)
        · refine g_aload_n (q0 := 48) (j := 0) rfl dX9_digit_47 rfl ?_
          refine g_dup (q0 := 49) rfl dX9_digit_48 (k := ?_)
          refine g_getf (q0 := 52) (t := 0) (fi := 2) rfl rfl ff_X9_19 dX9_digit_49 rfl (sh_1 hOK) ?_
          refine g_iconst (q0 := 53) rfl dX9_digit_52 (k := ?_)
          refine g_iadd (q0 := 54) rfl dX9_digit_53 (by omega) (by omega) ?_
          refine g_put (q0 := 57) (t := 0) (fi := 2) rfl rfl ff_X9_19 dX9_digit_54 rfl (sh_1 hOK) rfl (fun _ => ⟨rfl, rfl⟩) ?_
          refine g_iload_n (q0 := 58) (j := 3) rfl dX9_digit_57 rfl ?_
          refine g_ireturn dX9_digit_58 rfl ⟨Nat.zero_le _, Nat.zero_le _⟩ ?_
          rw [pDigit, if_pos hd4, if_pos (by omega)]
          exact ⟨rfl, rfl, (tadv hT).1, (tadv hT).2⟩
        · refine g_aload_n (q0 := 37) (j := 0) rfl dX9_digit_36 rfl ?_
          refine g_iconst (q0 := 38) rfl dX9_digit_37 (k := ?_)
          refine g_aload_n (q0 := 39) (j := 0) rfl dX9_digit_38 rfl ?_
          refine g_getf (q0 := 42) (t := 0) (fi := 2) rfl rfl ff_X9_19 dX9_digit_39 rfl (sh_1 hOK) ?_
          rw [hT.1]
          refine g_callVm (as := [_, _]) (rest := []) mt_X9_fail mi_X9_fail se_X9_fail ml_X9_38 dX9_digit_42 (q0 := 45) rfl rfl (sh_1 hOK) rfl rfl (sp_X9_fail hOK ⟨by omega, by omega⟩ ⟨by omega, by omega⟩) rfl ⟨by decide, by decide⟩ (Nat.le_of_ble_eq_true rfl) ⟨Nat.zero_le _, Nat.zero_le _⟩ (fun r1 M1 hP1 hw1 hMw1 => ?_)
          obtain ⟨rfl, rfl⟩ := hP1
          refine g_iconst (q0 := 46) rfl dX9_digit_45 (k := ?_)
          refine g_ireturn dX9_digit_46 rfl ⟨Nat.zero_le _, Nat.zero_le _⟩ ?_
          rw [pDigit, if_pos hd4, if_neg (by omega)]
          exact ⟨rfl, rfl, by rw [hT.1]; rfl, by rw [hT.1]; exact tpIn_self hT⟩
  · have hd4 : ¬ (48 ≤ hd s ∧ hd s ≤ 57) := by
      intro q
      rw [if_pos q] at h4; exact absurd h4 (by decide)
    refine g_aload_n (q0 := 8) (j := 0) rfl dX9_digit_7 rfl ?_
    refine g_iconst (q0 := 9) rfl dX9_digit_8 (k := ?_)
    refine g_aload_n (q0 := 10) (j := 0) rfl dX9_digit_9 rfl ?_
    refine g_getf (q0 := 13) (t := 0) (fi := 2) rfl rfl ff_X9_19 dX9_digit_10 rfl (sh_1 hOK) ?_
    rw [hT.1]
    refine g_callVm (as := [_, _]) (rest := []) mt_X9_fail mi_X9_fail se_X9_fail ml_X9_38 dX9_digit_13 (q0 := 16) rfl rfl (sh_1 hOK) rfl rfl (sp_X9_fail hOK ⟨by omega, by omega⟩ ⟨by omega, by omega⟩) rfl ⟨by decide, by decide⟩ (Nat.le_of_ble_eq_true rfl) ⟨Nat.zero_le _, Nat.zero_le _⟩ (fun r1 M1 hP1 hw1 hMw1 => ?_)
    obtain ⟨rfl, rfl⟩ := hP1
    refine g_iconst (q0 := 17) rfl dX9_digit_16 (k := ?_)
    refine g_ireturn dX9_digit_17 rfl ⟨Nat.zero_le _, Nat.zero_le _⟩ ?_
    have e : pDigit lo hi s p = (-1000 - p, -1, p, s) := by
      cases s with
      | nil => rfl
      | cons c r => rw [pDigit]; exact if_neg hd4
    rw [e]
    exact ⟨rfl, rfl, by rw [hT.1]; rfl, by rw [hT.1]; exact tpIn_self hT⟩
theorem p10 : ∀ i : Nat, i ≤ 7 → (10 : Int) ^ i ≤ 10000000 := by decide
theorem sp_X9_digits {sh : gS} {M : gM} {p a : Int} {most : Nat} {s : List Int} (hOK : gOK sh M) (hT : tpIn M p s) (hm : most ≤ 6) (ha : 0 ≤ a ∧ a ≤ 1) :
    gC (gr 1 22) yX9_digits cX9_digits 5 (some (.int)) [(4, 1), (0, (most : Int)), (0, a)] sh M (gPm sh (tP M (pDigits most a s p))) := by
  have hl := tpIn_len hT
  have hM2 := hT.1
  refine gC_ofA (lv := [_, _, _, _, _]) (by decide +kernel) (Nat.le_of_ble_eq_true rfl) rfl (fun hMw hav => ?_)
  have lp : ∀ (k : Nat) (v q i : Int) (n : Nat) (s1 : List Int) (M1 : gM), i = (n : Int) → n + k = most → 0 ≤ v → v < 2 * (10 : Int) ^ n → M1 = tM M q (M 1 4) → tpIn M1 q s1 → pDigGo k v s1 q = pDigits most a s p →
      gA (gr 1 22) yX9_digits cX9_digits 5 (some (.int)) (gPm sh (tP M (pDigits most a s p))) (0, 0) 23 [(4, 1), (0, (most : Int)), (0, a), (0, v), (0, i)] [] sh M1 := by
    intro k
    induction k with
    | zero =>
      intro v q i n s1 M1 hi hn h0 h1 hM hT1 hv
      have hO1 : gOK sh M1 := by rw [hM]; exact gOK_tM hOK
      have hl1 := tpIn_len hT1
      refine g_iload (q0 := 25) (j := 4) rfl dX9_digits_23 rfl ?_
      refine g_iload_n (q0 := 26) (j := 1) rfl dX9_digits_25 rfl ?_
      refine g_icmp_gt (q0 := 29) (tgt := 82) rfl dX9_digits_26 (by decide) (fun h26 => ?_) (fun h26 => ?_)
      · omega
      · refine g_aload_n (q0 := 30) (j := 0) rfl dX9_digits_29 rfl ?_
        refine g_callVp (as := []) (rest := []) mt_X9_isDigit mi_X9_isDigit se_X9_isDigit ml_X9_42 dX9_digits_30 (q0 := 33) rfl rfl (sh_1 hO1) rfl rfl (sp_X9_isDigit hO1 hT1) rfl ⟨by decide, by decide⟩ (Nat.le_of_ble_eq_true rfl) ⟨Nat.zero_le _, Nat.zero_le _⟩ (fun hwc => ?_)
        refine g_if_eq (q0 := 36) (tgt := 82) rfl dX9_digits_33 (by decide) (fun h33 => ?_) (fun h33 => ?_)
        · have hnd : ¬ (48 ≤ hd s1 ∧ hd s1 ≤ 57) := by
            intro q9; rw [if_pos q9] at h33; exact absurd h33 (by decide)
          refine g_iload_n (q0 := 83) (j := 3) rfl dX9_digits_82 rfl ?_
          refine g_ireturn dX9_digits_83 rfl ⟨Nat.zero_le _, Nat.zero_le _⟩ ?_
          have e : pDigits most a s p = (0, v, q, s1) := by
            rw [← hv]
            cases s1 with
            | nil => rfl
            | cons c r => rw [pDigGo]; exact if_neg hnd
          rw [e]
          exact ⟨rfl, rfl, by rw [hM, ff0], hT1⟩
        · have hd4 : 48 ≤ hd s1 ∧ hd s1 ≤ 57 := by
            by_cases q9 : 48 ≤ hd s1 ∧ hd s1 ≤ 57
            · exact q9
            · rw [if_neg q9] at h33; exact absurd rfl h33
          refine g_iload (q0 := 38) (j := 4) rfl dX9_digits_36 rfl ?_
          refine g_iload_n (q0 := 39) (j := 1) rfl dX9_digits_38 rfl ?_
          refine g_icmp_ne (q0 := 42) (tgt := 53) rfl dX9_digits_39 (by decide) (fun h39 => ?_) (fun h39 => ?_)
          · omega
          · refine g_aload_n (q0 := 43) (j := 0) rfl dX9_digits_42 rfl ?_
            refine g_iconst (q0 := 44) rfl dX9_digits_43 (k := ?_)
            refine g_aload_n (q0 := 45) (j := 0) rfl dX9_digits_44 rfl ?_
            refine g_getf (q0 := 48) (t := 0) (fi := 2) rfl rfl ff_X9_19 dX9_digits_45 rfl (sh_1 hO1) ?_
            rw [hT1.1]
            refine g_callVm (as := [_, _]) (rest := []) mt_X9_fail mi_X9_fail se_X9_fail ml_X9_38 dX9_digits_48 (q0 := 51) rfl rfl (sh_1 hO1) rfl rfl (sp_X9_fail hO1 ⟨by omega, by omega⟩ ⟨by omega, by omega⟩) rfl ⟨by decide, by decide⟩ (Nat.le_of_ble_eq_true rfl) ⟨Nat.zero_le _, Nat.zero_le _⟩ (fun r1 M1 hP1 hw1 hMw1 => ?_)
            obtain ⟨rfl, rfl⟩ := hP1
            refine g_iconst (q0 := 52) rfl dX9_digits_51 (k := ?_)
            refine g_ireturn dX9_digits_52 rfl ⟨Nat.zero_le _, Nat.zero_le _⟩ ?_
            have e : pDigits most a s p = (-2000 - q, -1, q, s1) := by
              rw [← hv]
              cases s1 with
              | nil => exact absurd hd4.1 (by decide)
              | cons c r => rw [pDigGo]; exact if_pos hd4
            rw [e]
            refine ⟨rfl, rfl, ?_, ?_⟩
            · rw [hM, tM_tM, tM_p, tM_f]; rfl
            · rw [hT1.1]; exact tpIn_self hT1
    | succ k ih =>
      intro v q i n s1 M1 hi hn h0 h1 hM hT1 hv
      have hO1 : gOK sh M1 := by rw [hM]; exact gOK_tM hOK
      have hl1 := tpIn_len hT1
      have hq := hT1.1
      have h10 := p10 n (by omega)
      refine g_iload (q0 := 25) (j := 4) rfl dX9_digits_23 rfl ?_
      refine g_iload_n (q0 := 26) (j := 1) rfl dX9_digits_25 rfl ?_
      refine g_icmp_gt (q0 := 29) (tgt := 82) rfl dX9_digits_26 (by decide) (fun h26 => ?_) (fun h26 => ?_)
      · omega
      · refine g_aload_n (q0 := 30) (j := 0) rfl dX9_digits_29 rfl ?_
        refine g_callVp (as := []) (rest := []) mt_X9_isDigit mi_X9_isDigit se_X9_isDigit ml_X9_42 dX9_digits_30 (q0 := 33) rfl rfl (sh_1 hO1) rfl rfl (sp_X9_isDigit hO1 hT1) rfl ⟨by decide, by decide⟩ (Nat.le_of_ble_eq_true rfl) ⟨Nat.zero_le _, Nat.zero_le _⟩ (fun hwc => ?_)
        refine g_if_eq (q0 := 36) (tgt := 82) rfl dX9_digits_33 (by decide) (fun h33 => ?_) (fun h33 => ?_)
        · have hnd : ¬ (48 ≤ hd s1 ∧ hd s1 ≤ 57) := by
            intro q9; rw [if_pos q9] at h33; exact absurd h33 (by decide)
          refine g_iload_n (q0 := 83) (j := 3) rfl dX9_digits_82 rfl ?_
          refine g_ireturn dX9_digits_83 rfl ⟨Nat.zero_le _, Nat.zero_le _⟩ ?_
          have e : pDigits most a s p = (0, v, q, s1) := by
            rw [← hv]
            cases s1 with
            | nil => rfl
            | cons c r => rw [pDigGo]; exact if_neg hnd
          rw [e]
          exact ⟨rfl, rfl, by rw [hM, ff0], hT1⟩
        · have hd4 : 48 ≤ hd s1 ∧ hd s1 ≤ 57 := by
            by_cases q9 : 48 ≤ hd s1 ∧ hd s1 ≤ 57
            · exact q9
            · rw [if_neg q9] at h33; exact absurd rfl h33
          cases s1 with
          | nil => exact absurd hd4.1 (by decide)
          | cons c r =>
            have e0 : hd (c :: r) = c := rfl
            rw [e0] at hd4
            simp only [List.length_cons] at hl1
            refine g_iload (q0 := 38) (j := 4) rfl dX9_digits_36 rfl ?_
            refine g_iload_n (q0 := 39) (j := 1) rfl dX9_digits_38 rfl ?_
            refine g_icmp_ne (q0 := 42) (tgt := 53) rfl dX9_digits_39 (by decide) (fun h39 => ?_) (fun h39 => ?_)
            · refine g_iload_n (q0 := 54) (j := 3) rfl dX9_digits_53 rfl ?_
              refine g_bipush (q0 := 56) rfl dX9_digits_54 (k := ?_)
              refine g_imul (q0 := 57) rfl dX9_digits_56 (by omega) (by omega) ?_
              refine g_aload_n (q0 := 58) (j := 0) rfl dX9_digits_57 rfl ?_
              refine g_callVp (as := []) (rest := [_]) mt_X9_next mi_X9_next se_X9_next ml_X9_34 dX9_digits_58 (q0 := 61) rfl rfl (sh_1 hO1) rfl rfl (sp_X9_next hO1 hT1) rfl ⟨by decide, by decide⟩ (Nat.le_of_ble_eq_true rfl) ⟨Nat.zero_le _, Nat.zero_le _⟩ (fun hwc => ?_)
              rw [e0]
              refine g_iadd (q0 := 62) rfl dX9_digits_61 (by omega) (by omega) ?_
              refine g_bipush (q0 := 64) rfl dX9_digits_62 (k := ?_)
              refine g_isub (q0 := 65) rfl dX9_digits_64 (by omega) (by omega) ?_
              refine g_istore_n (q0 := 66) (j := 3) (lv2 := [_, _, _, _, _]) rfl dX9_digits_65 (by decide) rfl rfl ?_
              refine g_aload_n (q0 := 67) (j := 0) rfl dX9_digits_66 rfl ?_
              refine g_dup (q0 := 68) rfl dX9_digits_67 (k := ?_)
              refine g_getf (q0 := 71) (t := 0) (fi := 2) rfl rfl ff_X9_19 dX9_digits_68 rfl (sh_1 hO1) ?_
              refine g_iconst (q0 := 72) rfl dX9_digits_71 (k := ?_)
              refine g_iadd (q0 := 73) rfl dX9_digits_72 (by omega) (by omega) ?_
              refine g_put (q0 := 76) (t := 0) (fi := 2) rfl rfl ff_X9_19 dX9_digits_73 rfl (sh_1 hO1) rfl (fun _ => ⟨rfl, rfl⟩) ?_
              refine g_iinc (q0 := 79) (lv2 := [_, _, _, _, _]) rfl dX9_digits_76 rfl (by decide) rfl rfl (by omega) (by omega) ?_
              refine g_goto (tgt := 23) dX9_digits_79 (by decide) ?_
              refine ih (v * 10 + c - 48) (q + 1) (i + 1) (n + 1) r _ (by omega) (by omega) (by omega) (by rw [Int.pow_succ]; omega) ?_ (tadv hT1).2 (by rw [← hv, pDigGo, if_pos hd4])
              rw [(tadv hT1).1, hM, tM_tM, tM_f, ff0]
            · omega
  refine g_aload_n (q0 := 1) (j := 0) rfl dX9_digits_0 rfl ?_
  refine g_callVp (as := []) (rest := []) mt_X9_isDigit mi_X9_isDigit se_X9_isDigit ml_X9_42 dX9_digits_1 (q0 := 4) rfl rfl (sh_1 hOK) rfl rfl (sp_X9_isDigit hOK hT) rfl ⟨by decide, by decide⟩ (Nat.le_of_ble_eq_true rfl) ⟨Nat.zero_le _, Nat.zero_le _⟩ (fun hwc => ?_)
  refine g_if_ne (q0 := 7) (tgt := 18) rfl dX9_digits_4 (by decide) (fun h4 => ?_) (fun h4 => ?_)
  · have hd4 : 48 ≤ hd s ∧ hd s ≤ 57 := by
      by_cases q : 48 ≤ hd s ∧ hd s ≤ 57
      · exact q
      · rw [if_neg q] at h4; exact absurd rfl h4
    refine g_iload_n (q0 := 19) (j := 2) rfl dX9_digits_18 rfl ?_
    refine g_istore_n (q0 := 20) (j := 3) (lv2 := [_, _, _, _, _]) rfl dX9_digits_19 (by decide) rfl rfl ?_
    refine g_iconst (q0 := 21) rfl dX9_digits_20 (k := ?_)
    refine g_istore (q0 := 23) (j := 4) (lv2 := [_, _, _, _, _]) rfl dX9_digits_21 (by decide) rfl rfl ?_
    exact lp most a p 0 0 s M (by omega) (by omega) ha.1 (by simp; omega) (by rw [← hT.1, tM_id]) hT (by rw [pDigits, if_pos hd4])
  · have hd4 : ¬ (48 ≤ hd s ∧ hd s ≤ 57) := by
      intro q
      rw [if_pos q] at h4; exact absurd h4 (by decide)
    refine g_aload_n (q0 := 8) (j := 0) rfl dX9_digits_7 rfl ?_
    refine g_iconst (q0 := 9) rfl dX9_digits_8 (k := ?_)
    refine g_aload_n (q0 := 10) (j := 0) rfl dX9_digits_9 rfl ?_
    refine g_getf (q0 := 13) (t := 0) (fi := 2) rfl rfl ff_X9_19 dX9_digits_10 rfl (sh_1 hOK) ?_
    rw [hT.1]
    refine g_callVm (as := [_, _]) (rest := []) mt_X9_fail mi_X9_fail se_X9_fail ml_X9_38 dX9_digits_13 (q0 := 16) rfl rfl (sh_1 hOK) rfl rfl (sp_X9_fail hOK ⟨by omega, by omega⟩ ⟨by omega, by omega⟩) rfl ⟨by decide, by decide⟩ (Nat.le_of_ble_eq_true rfl) ⟨Nat.zero_le _, Nat.zero_le _⟩ (fun r1 M1 hP1 hw1 hMw1 => ?_)
    obtain ⟨rfl, rfl⟩ := hP1
    refine g_iconst (q0 := 17) rfl dX9_digits_16 (k := ?_)
    refine g_ireturn dX9_digits_17 rfl ⟨Nat.zero_le _, Nat.zero_le _⟩ ?_
    rw [pDigits, if_neg hd4]
    exact ⟨rfl, rfl, by rw [hT.1]; rfl, by rw [hT.1]; exact tpIn_self hT⟩
theorem wn_all : ∀ i : Nat, i < 6 → ((Int32.ofInt (25 - 5 * (i : Int)) &&& 31).toBitVec.smod 32).toNat = 25 - 5 * i := by decide +kernel
theorem sp_X10_withName {sh : gS} {M : gM} {v c w : Int} {i : Nat} (hi : i < 6) (hw : w = (2 ^ (25 - 5 * i) : Nat)) (hv : 0 ≤ v ∧ v < 1073741824) (hm : v % (32 * w) = 0) (hc : 0 ≤ c ∧ c < 32) :
    gC (gr 0 0) yX10_withName cX10_withName 3 (some (.int)) [(0, v), (0, (i : Int)), (0, c)] sh M (gPp sh M (0, v + c * w)) := by
  refine gC_ofA (lv := [_, _, _]) (by decide +kernel) (Nat.le_of_ble_eq_true rfl) rfl (fun hMw hav => ?_)
  refine g_iload_n (q0 := 1) (j := 0) rfl dX10_withName_0 rfl ?_
  refine g_iload_n (q0 := 2) (j := 2) rfl dX10_withName_1 rfl ?_
  refine g_bipush (q0 := 4) rfl dX10_withName_2 (k := ?_)
  refine g_iconst (q0 := 5) rfl dX10_withName_4 (k := ?_)
  refine g_iload_n (q0 := 6) (j := 1) rfl dX10_withName_5 rfl ?_
  refine g_imul (q0 := 7) rfl dX10_withName_6 (by omega) (by omega) ?_
  refine g_isub (q0 := 8) rfl dX10_withName_7 (by omega) (by omega) ?_
  refine g_ishl (q0 := 9) rfl dX10_withName_8 ?_
  refine g_ior (q0 := 10) rfl dX10_withName_9 ?_
  refine g_ireturn dX10_withName_10 rfl ⟨Nat.zero_le _, Nat.zero_le _⟩ ?_
  have hpos : (0 : Int) < w := by rw [hw]; exact_mod_cast Nat.two_pow_pos _
  have hle : w ≤ 33554432 := by
    rw [hw]
    have : (2 ^ (25 - 5 * i) : Nat) ≤ 2 ^ 25 := Nat.pow_le_pow_right (by decide) (by omega)
    omega
  have h1 : gshl c (25 - 5 * (i : Int)) = c * w := by
    rw [gshl_mul hc.1 _ (25 - 5 * i) (wn_all i hi), hw]
    rw [← hw]
    have : c * w ≤ 31 * w := Int.mul_le_mul_of_nonneg_right (by omega) (by omega)
    omega
  have h2 : 0 ≤ c * w := Int.mul_nonneg hc.1 (by omega)
  have h3 : c * w ≤ 31 * w := Int.mul_le_mul_of_nonneg_right (by omega) (by omega)
  have h4 : (32 * w : Int) = (2 ^ (30 - 5 * i) : Nat) := by
    rw [hw, show 30 - 5 * i = (25 - 5 * i) + 5 by omega, Nat.pow_add]
    simp
    omega
  refine ⟨?_, rfl, rfl⟩
  rw [h1, gor_add (30 - 5 * i) hv.1 h2 (by omega) (by rw [← h4]; omega) (by omega) (by rw [← h4]; exact hm)]
