theorem dX2_init_0 : decode cX2_init 0 = .ok (.aload_n 0, 1) := by decide +kernel
theorem dX2_init_1 : decode cX2_init 1 = .ok (.invokespecial 1, 3) := by decide +kernel
theorem dX2_init_4 : decode cX2_init 4 = .ok (.aload_n 0, 1) := by decide +kernel
theorem dX2_init_5 : decode cX2_init 5 = .ok (.bipush 12, 2) := by decide +kernel
theorem dX2_init_7 : decode cX2_init 7 = .ok (.newarray .boolean, 2) := by decide +kernel
theorem dX2_init_9 : decode cX2_init 9 = .ok (.putfield 7, 3) := by decide +kernel
theorem dX2_init_12 : decode cX2_init 12 = .ok (.aload_n 0, 1) := by decide +kernel
theorem dX2_init_13 : decode cX2_init 13 = .ok (.bipush 12, 2) := by decide +kernel
theorem dX2_init_15 : decode cX2_init 15 = .ok (.newarray .int, 2) := by decide +kernel
theorem dX2_init_17 : decode cX2_init 17 = .ok (.putfield 13, 3) := by decide +kernel
theorem dX2_init_20 : decode cX2_init 20 = .ok (.aload_n 0, 1) := by decide +kernel
theorem dX2_init_21 : decode cX2_init 21 = .ok (.bipush 12, 2) := by decide +kernel
theorem dX2_init_23 : decode cX2_init 23 = .ok (.newarray .long, 2) := by decide +kernel
theorem dX2_init_25 : decode cX2_init 25 = .ok (.putfield 17, 3) := by decide +kernel
theorem dX2_init_28 : decode cX2_init 28 = .ok (.aload_n 0, 1) := by decide +kernel
theorem dX2_init_29 : decode cX2_init 29 = .ok (.bipush 12, 2) := by decide +kernel
theorem dX2_init_31 : decode cX2_init 31 = .ok (.newarray .int, 2) := by decide +kernel
theorem dX2_init_33 : decode cX2_init 33 = .ok (.putfield 21, 3) := by decide +kernel
theorem dX2_init_36 : decode cX2_init 36 = .ok (.aload_n 0, 1) := by decide +kernel
theorem dX2_init_37 : decode cX2_init 37 = .ok (.bipush 12, 2) := by decide +kernel
theorem dX2_init_39 : decode cX2_init 39 = .ok (.newarray .int, 2) := by decide +kernel
theorem dX2_init_41 : decode cX2_init 41 = .ok (.putfield 24, 3) := by decide +kernel
theorem dX2_init_44 : decode cX2_init 44 = .ok (.aload_n 0, 1) := by decide +kernel
theorem dX2_init_45 : decode cX2_init 45 = .ok (.bipush 12, 2) := by decide +kernel
theorem dX2_init_47 : decode cX2_init 47 = .ok (.newarray .int, 2) := by decide +kernel
theorem dX2_init_49 : decode cX2_init 49 = .ok (.putfield 27, 3) := by decide +kernel
theorem dX2_init_52 : decode cX2_init 52 = .ok (.aload_n 0, 1) := by decide +kernel
theorem dX2_init_53 : decode cX2_init 53 = .ok (.bipush 12, 2) := by decide +kernel
theorem dX2_init_55 : decode cX2_init 55 = .ok (.newarray .boolean, 2) := by decide +kernel
theorem dX2_init_57 : decode cX2_init 57 = .ok (.putfield 30, 3) := by decide +kernel
theorem dX2_init_60 : decode cX2_init 60 = .ok (.aload_n 0, 1) := by decide +kernel
theorem dX2_init_61 : decode cX2_init 61 = .ok (.bipush 12, 2) := by decide +kernel
theorem dX2_init_63 : decode cX2_init 63 = .ok (.newarray .long, 2) := by decide +kernel
theorem dX2_init_65 : decode cX2_init 65 = .ok (.putfield 33, 3) := by decide +kernel
theorem dX2_init_68 : decode cX2_init 68 = .ok (.aload_n 0, 1) := by decide +kernel
theorem dX2_init_69 : decode cX2_init 69 = .ok (.bipush 12, 2) := by decide +kernel
theorem dX2_init_71 : decode cX2_init 71 = .ok (.newarray .long, 2) := by decide +kernel
theorem dX2_init_73 : decode cX2_init 73 = .ok (.putfield 36, 3) := by decide +kernel
theorem dX2_init_76 : decode cX2_init 76 = .ok (.aload_n 0, 1) := by decide +kernel
theorem dX2_init_77 : decode cX2_init 77 = .ok (.bipush 96, 2) := by decide +kernel
theorem dX2_init_79 : decode cX2_init 79 = .ok (.newarray .int, 2) := by decide +kernel
theorem dX2_init_81 : decode cX2_init 81 = .ok (.putfield 39, 3) := by decide +kernel
theorem dX2_init_84 : decode cX2_init 84 = .ok (.aload_n 0, 1) := by decide +kernel
theorem dX2_init_85 : decode cX2_init 85 = .ok (.bipush 96, 2) := by decide +kernel
theorem dX2_init_87 : decode cX2_init 87 = .ok (.newarray .int, 2) := by decide +kernel
theorem dX2_init_89 : decode cX2_init 89 = .ok (.putfield 42, 3) := by decide +kernel
theorem dX2_init_92 : decode cX2_init 92 = .ok (.aload_n 0, 1) := by decide +kernel
theorem dX2_init_93 : decode cX2_init 93 = .ok (.bipush 96, 2) := by decide +kernel
theorem dX2_init_95 : decode cX2_init 95 = .ok (.newarray .long, 2) := by decide +kernel
theorem dX2_init_97 : decode cX2_init 97 = .ok (.putfield 45, 3) := by decide +kernel
theorem dX2_init_100 : decode cX2_init 100 = .ok (.aload_n 0, 1) := by decide +kernel
theorem dX2_init_101 : decode cX2_init 101 = .ok (.bipush 96, 2) := by decide +kernel
theorem dX2_init_103 : decode cX2_init 103 = .ok (.newarray .int, 2) := by decide +kernel
theorem dX2_init_105 : decode cX2_init 105 = .ok (.putfield 48, 3) := by decide +kernel
theorem dX2_init_108 : decode cX2_init 108 = .ok (.return_, 1) := by decide +kernel
theorem dX2_thrown_0 : decode cX2_thrown 0 = .ok (.aload_n 0, 1) := by decide +kernel
theorem dX2_thrown_1 : decode cX2_thrown 1 = .ok (.getfield 51, 3) := by decide +kernel
theorem dX2_thrown_4 : decode cX2_thrown 4 = .ok (.ireturn, 1) := by decide +kernel
theorem dX2_isThere_0 : decode cX2_isThere 0 = .ok (.iload_n 1, 1) := by decide +kernel
theorem dX2_isThere_1 : decode cX2_isThere 1 = .ok (.ifCond .lt 22, 3) := by decide +kernel
theorem dX2_isThere_4 : decode cX2_isThere 4 = .ok (.iload_n 1, 1) := by decide +kernel
theorem dX2_isThere_5 : decode cX2_isThere 5 = .ok (.bipush 12, 2) := by decide +kernel
theorem dX2_isThere_7 : decode cX2_isThere 7 = .ok (.if_icmp .ge 16, 3) := by decide +kernel
theorem dX2_isThere_10 : decode cX2_isThere 10 = .ok (.aload_n 0, 1) := by decide +kernel
theorem dX2_isThere_11 : decode cX2_isThere 11 = .ok (.getfield 7, 3) := by decide +kernel
theorem dX2_isThere_14 : decode cX2_isThere 14 = .ok (.iload_n 1, 1) := by decide +kernel
theorem dX2_isThere_15 : decode cX2_isThere 15 = .ok (.baload, 1) := by decide +kernel
theorem dX2_isThere_16 : decode cX2_isThere 16 = .ok (.ifCond .eq 7, 3) := by decide +kernel
theorem dX2_isThere_19 : decode cX2_isThere 19 = .ok (.iconst 1, 1) := by decide +kernel
theorem dX2_isThere_20 : decode cX2_isThere 20 = .ok (.goto 4, 3) := by decide +kernel
theorem dX2_isThere_23 : decode cX2_isThere 23 = .ok (.iconst 0, 1) := by decide +kernel
theorem dX2_isThere_24 : decode cX2_isThere 24 = .ok (.ireturn, 1) := by decide +kernel
theorem dX2_isNone_0 : decode cX2_isNone 0 = .ok (.iload_n 2, 1) := by decide +kernel
theorem dX2_isNone_1 : decode cX2_isNone 1 = .ok (.iconst 2, 1) := by decide +kernel
theorem dX2_isNone_2 : decode cX2_isNone 2 = .ok (.if_icmp .ne 21, 3) := by decide +kernel
theorem dX2_isNone_5 : decode cX2_isNone 5 = .ok (.lload_n 0, 1) := by decide +kernel
theorem dX2_isNone_6 : decode cX2_isNone 6 = .ok (.ldc2_w 55, 3) := by decide +kernel
theorem dX2_isNone_9 : decode cX2_isNone 9 = .ok (.land, 1) := by decide +kernel
theorem dX2_isNone_10 : decode cX2_isNone 10 = .ok (.ldc2_w 57, 3) := by decide +kernel
theorem dX2_isNone_13 : decode cX2_isNone 13 = .ok (.lcmp, 1) := by decide +kernel
theorem dX2_isNone_14 : decode cX2_isNone 14 = .ok (.ifCond .le 7, 3) := by decide +kernel
theorem dX2_isNone_17 : decode cX2_isNone 17 = .ok (.iconst 1, 1) := by decide +kernel
theorem dX2_isNone_18 : decode cX2_isNone 18 = .ok (.goto 4, 3) := by decide +kernel
theorem dX2_isNone_21 : decode cX2_isNone 21 = .ok (.iconst 0, 1) := by decide +kernel
theorem dX2_isNone_22 : decode cX2_isNone 22 = .ok (.ireturn, 1) := by decide +kernel
theorem dX2_isNone_23 : decode cX2_isNone 23 = .ok (.iload_n 2, 1) := by decide +kernel
theorem dX2_isNone_24 : decode cX2_isNone 24 = .ok (.iconst 3, 1) := by decide +kernel
theorem dX2_isNone_25 : decode cX2_isNone 25 = .ok (.if_icmp .ne 19, 3) := by decide +kernel
theorem dX2_isNone_28 : decode cX2_isNone 28 = .ok (.lload_n 0, 1) := by decide +kernel
theorem dX2_isNone_29 : decode cX2_isNone 29 = .ok (.ldc2_w 59, 3) := by decide +kernel
theorem dX2_isNone_32 : decode cX2_isNone 32 = .ok (.land, 1) := by decide +kernel
theorem dX2_isNone_33 : decode cX2_isNone 33 = .ok (.ldc2_w 61, 3) := by decide +kernel
theorem dX2_isNone_36 : decode cX2_isNone 36 = .ok (.lcmp, 1) := by decide +kernel
theorem dX2_isNone_37 : decode cX2_isNone 37 = .ok (.ifCond .le 7, 3) := by decide +kernel
theorem dX2_isNone_40 : decode cX2_isNone 40 = .ok (.iconst 1, 1) := by decide +kernel
theorem dX2_isNone_41 : decode cX2_isNone 41 = .ok (.goto 4, 3) := by decide +kernel
theorem dX2_isNone_44 : decode cX2_isNone 44 = .ok (.iconst 0, 1) := by decide +kernel
theorem dX2_isNone_45 : decode cX2_isNone 45 = .ok (.ireturn, 1) := by decide +kernel
set_option maxRecDepth 20000 in
theorem ggX2_isGood_X2_isNone : GoodIn wsX2_isGood wsX2_isNone := goodIn_r _ [6, 2, 7, 8, 9] (by decide +kernel) (by decide +kernel)
set_option maxRecDepth 20000 in
theorem gX2_isGood_X2_isNone : GoodIn wsX2_isGood (va_wsS RX2 65 yX2_isNone wsX2_isNone) := goodIn_app (goodIn_of _ (by decide +kernel)) ggX2_isGood_X2_isNone
theorem dX2_isGood_0 : decode cX2_isGood 0 = .ok (.iload_n 2, 1) := by decide +kernel
theorem dX2_isGood_1 : decode cX2_isGood 1 = .ok (.ifCond .eq 8, 3) := by decide +kernel
theorem dX2_isGood_4 : decode cX2_isGood 4 = .ok (.iload_n 2, 1) := by decide +kernel
theorem dX2_isGood_5 : decode cX2_isGood 5 = .ok (.iconst 2, 1) := by decide +kernel
theorem dX2_isGood_6 : decode cX2_isGood 6 = .ok (.if_icmp .ne 21, 3) := by decide +kernel
theorem dX2_isGood_9 : decode cX2_isGood 9 = .ok (.lload_n 0, 1) := by decide +kernel
theorem dX2_isGood_10 : decode cX2_isGood 10 = .ok (.ldc2_w 63, 3) := by decide +kernel
theorem dX2_isGood_13 : decode cX2_isGood 13 = .ok (.lcmp, 1) := by decide +kernel
theorem dX2_isGood_14 : decode cX2_isGood 14 = .ok (.ifCond .lt 11, 3) := by decide +kernel
theorem dX2_isGood_17 : decode cX2_isGood 17 = .ok (.lload_n 0, 1) := by decide +kernel
theorem dX2_isGood_18 : decode cX2_isGood 18 = .ok (.ldc2_w 55, 3) := by decide +kernel
theorem dX2_isGood_21 : decode cX2_isGood 21 = .ok (.lcmp, 1) := by decide +kernel
theorem dX2_isGood_22 : decode cX2_isGood 22 = .ok (.ifCond .le 5, 3) := by decide +kernel
theorem dX2_isGood_25 : decode cX2_isGood 25 = .ok (.iconst 0, 1) := by decide +kernel
theorem dX2_isGood_26 : decode cX2_isGood 26 = .ok (.ireturn, 1) := by decide +kernel
theorem dX2_isGood_27 : decode cX2_isGood 27 = .ok (.lload_n 0, 1) := by decide +kernel
theorem dX2_isGood_28 : decode cX2_isGood 28 = .ok (.iload_n 2, 1) := by decide +kernel
theorem dX2_isGood_29 : decode cX2_isGood 29 = .ok (.invokestatic 65, 3) := by decide +kernel
theorem dX2_isGood_32 : decode cX2_isGood 32 = .ok (.ifCond .ne 7, 3) := by decide +kernel
theorem dX2_isGood_35 : decode cX2_isGood 35 = .ok (.iconst 1, 1) := by decide +kernel
theorem dX2_isGood_36 : decode cX2_isGood 36 = .ok (.goto 4, 3) := by decide +kernel
theorem dX2_isGood_39 : decode cX2_isGood 39 = .ok (.iconst 0, 1) := by decide +kernel
theorem dX2_isGood_40 : decode cX2_isGood 40 = .ok (.ireturn, 1) := by decide +kernel
theorem dX2_keyOf_0 : decode cX2_keyOf 0 = .ok (.iload_n 2, 1) := by decide +kernel
theorem dX2_keyOf_1 : decode cX2_keyOf 1 = .ok (.iconst 2, 1) := by decide +kernel
theorem dX2_keyOf_2 : decode cX2_keyOf 2 = .ok (.if_icmp .lt 9, 3) := by decide +kernel
theorem dX2_keyOf_5 : decode cX2_keyOf 5 = .ok (.lload_n 0, 1) := by decide +kernel
theorem dX2_keyOf_6 : decode cX2_keyOf 6 = .ok (.lconst 0, 1) := by decide +kernel
theorem dX2_keyOf_7 : decode cX2_keyOf 7 = .ok (.lcmp, 1) := by decide +kernel
theorem dX2_keyOf_8 : decode cX2_keyOf 8 = .ok (.ifCond .lt 5, 3) := by decide +kernel
theorem dX2_keyOf_11 : decode cX2_keyOf 11 = .ok (.lload_n 0, 1) := by decide +kernel
theorem dX2_keyOf_12 : decode cX2_keyOf 12 = .ok (.lreturn, 1) := by decide +kernel
theorem dX2_keyOf_13 : decode cX2_keyOf 13 = .ok (.iload_n 2, 1) := by decide +kernel
theorem dX2_keyOf_14 : decode cX2_keyOf 14 = .ok (.iconst 2, 1) := by decide +kernel
theorem dX2_keyOf_15 : decode cX2_keyOf 15 = .ok (.if_icmp .ne 11, 3) := by decide +kernel
theorem dX2_keyOf_18 : decode cX2_keyOf 18 = .ok (.lload_n 0, 1) := by decide +kernel
theorem dX2_keyOf_19 : decode cX2_keyOf 19 = .ok (.ldc2_w 55, 3) := by decide +kernel
theorem dX2_keyOf_22 : decode cX2_keyOf 22 = .ok (.lxor, 1) := by decide +kernel
theorem dX2_keyOf_23 : decode cX2_keyOf 23 = .ok (.goto 8, 3) := by decide +kernel
theorem dX2_keyOf_26 : decode cX2_keyOf 26 = .ok (.lload_n 0, 1) := by decide +kernel
theorem dX2_keyOf_27 : decode cX2_keyOf 27 = .ok (.ldc2_w 59, 3) := by decide +kernel
theorem dX2_keyOf_30 : decode cX2_keyOf 30 = .ok (.lxor, 1) := by decide +kernel
theorem dX2_keyOf_31 : decode cX2_keyOf 31 = .ok (.lreturn, 1) := by decide +kernel
set_option maxRecDepth 20000 in
theorem ggX2_isAbove_X2_keyOf : GoodIn wsX2_isAbove wsX2_keyOf := goodIn_r _ [4, 5, 6] (by decide +kernel) (by decide +kernel)
set_option maxRecDepth 20000 in
theorem gX2_isAbove_X2_keyOf : GoodIn wsX2_isAbove (va_wsS RX2 69 yX2_keyOf wsX2_keyOf) := goodIn_app (goodIn_of _ (by decide +kernel)) ggX2_isAbove_X2_keyOf
theorem dX2_isAbove_0 : decode cX2_isAbove 0 = .ok (.lload_n 0, 1) := by decide +kernel
theorem dX2_isAbove_1 : decode cX2_isAbove 1 = .ok (.iload 4, 2) := by decide +kernel
theorem dX2_isAbove_3 : decode cX2_isAbove 3 = .ok (.invokestatic 69, 3) := by decide +kernel
theorem dX2_isAbove_6 : decode cX2_isAbove 6 = .ok (.lload_n 2, 1) := by decide +kernel
theorem dX2_isAbove_7 : decode cX2_isAbove 7 = .ok (.iload 4, 2) := by decide +kernel
theorem dX2_isAbove_9 : decode cX2_isAbove 9 = .ok (.invokestatic 69, 3) := by decide +kernel
theorem dX2_isAbove_12 : decode cX2_isAbove 12 = .ok (.lcmp, 1) := by decide +kernel
theorem dX2_isAbove_13 : decode cX2_isAbove 13 = .ok (.ifCond .le 7, 3) := by decide +kernel
theorem dX2_isAbove_16 : decode cX2_isAbove 16 = .ok (.iconst 1, 1) := by decide +kernel
theorem dX2_isAbove_17 : decode cX2_isAbove 17 = .ok (.goto 4, 3) := by decide +kernel
theorem dX2_isAbove_20 : decode cX2_isAbove 20 = .ok (.iconst 0, 1) := by decide +kernel
theorem dX2_isAbove_21 : decode cX2_isAbove 21 = .ok (.ireturn, 1) := by decide +kernel
theorem dX2_isZero_0 : decode cX2_isZero 0 = .ok (.lload_n 0, 1) := by decide +kernel
theorem dX2_isZero_1 : decode cX2_isZero 1 = .ok (.iload_n 2, 1) := by decide +kernel
theorem dX2_isZero_2 : decode cX2_isZero 2 = .ok (.iconst 2, 1) := by decide +kernel
theorem dX2_isZero_3 : decode cX2_isZero 3 = .ok (.if_icmp .ne 9, 3) := by decide +kernel
theorem dX2_isZero_6 : decode cX2_isZero 6 = .ok (.ldc2_w 55, 3) := by decide +kernel
theorem dX2_isZero_9 : decode cX2_isZero 9 = .ok (.goto 6, 3) := by decide +kernel
theorem dX2_isZero_12 : decode cX2_isZero 12 = .ok (.ldc2_w 59, 3) := by decide +kernel
theorem dX2_isZero_15 : decode cX2_isZero 15 = .ok (.land, 1) := by decide +kernel
theorem dX2_isZero_16 : decode cX2_isZero 16 = .ok (.lconst 0, 1) := by decide +kernel
theorem dX2_isZero_17 : decode cX2_isZero 17 = .ok (.lcmp, 1) := by decide +kernel
theorem dX2_isZero_18 : decode cX2_isZero 18 = .ok (.ifCond .ne 7, 3) := by decide +kernel
theorem dX2_isZero_21 : decode cX2_isZero 21 = .ok (.iconst 1, 1) := by decide +kernel
theorem dX2_isZero_22 : decode cX2_isZero 22 = .ok (.goto 4, 3) := by decide +kernel
theorem dX2_isZero_25 : decode cX2_isZero 25 = .ok (.iconst 0, 1) := by decide +kernel
theorem dX2_isZero_26 : decode cX2_isZero 26 = .ok (.ireturn, 1) := by decide +kernel
theorem dX2_has_0 : decode cX2_has 0 = .ok (.iload_n 1, 1) := by decide +kernel
theorem dX2_has_1 : decode cX2_has 1 = .ok (.ifCond .lt 31, 3) := by decide +kernel
theorem dX2_has_4 : decode cX2_has 4 = .ok (.iload_n 1, 1) := by decide +kernel
theorem dX2_has_5 : decode cX2_has 5 = .ok (.iload_n 0, 1) := by decide +kernel
theorem dX2_has_6 : decode cX2_has 6 = .ok (.iconst 2, 1) := by decide +kernel
theorem dX2_has_7 : decode cX2_has 7 = .ok (.if_icmp .ge 7, 3) := by decide +kernel
theorem dX2_has_10 : decode cX2_has 10 = .ok (.iconst 2, 1) := by decide +kernel
theorem dX2_has_11 : decode cX2_has 11 = .ok (.goto 14, 3) := by decide +kernel
theorem dX2_has_14 : decode cX2_has 14 = .ok (.iload_n 0, 1) := by decide +kernel
theorem dX2_has_15 : decode cX2_has 15 = .ok (.iconst 2, 1) := by decide +kernel
theorem dX2_has_16 : decode cX2_has 16 = .ok (.if_icmp .ne 7, 3) := by decide +kernel
theorem dX2_has_19 : decode cX2_has 19 = .ok (.iconst 4, 1) := by decide +kernel
theorem dX2_has_20 : decode cX2_has 20 = .ok (.goto 5, 3) := by decide +kernel
theorem dX2_has_23 : decode cX2_has 23 = .ok (.bipush 7, 2) := by decide +kernel
theorem dX2_has_25 : decode cX2_has 25 = .ok (.if_icmp .gt 7, 3) := by decide +kernel
theorem dX2_has_28 : decode cX2_has 28 = .ok (.iconst 1, 1) := by decide +kernel
theorem dX2_has_29 : decode cX2_has 29 = .ok (.goto 4, 3) := by decide +kernel
theorem dX2_has_32 : decode cX2_has 32 = .ok (.iconst 0, 1) := by decide +kernel
theorem dX2_has_33 : decode cX2_has 33 = .ok (.ireturn, 1) := by decide +kernel
theorem dX2_wants_0 : decode cX2_wants 0 = .ok (.iload_n 0, 1) := by decide +kernel
theorem dX2_wants_1 : decode cX2_wants 1 = .ok (.iconst 1, 1) := by decide +kernel
theorem dX2_wants_2 : decode cX2_wants 2 = .ok (.if_icmp .eq 13, 3) := by decide +kernel
theorem dX2_wants_5 : decode cX2_wants 5 = .ok (.iload_n 0, 1) := by decide +kernel
theorem dX2_wants_6 : decode cX2_wants 6 = .ok (.iconst 2, 1) := by decide +kernel
theorem dX2_wants_7 : decode cX2_wants 7 = .ok (.if_icmp .eq 8, 3) := by decide +kernel
theorem dX2_wants_10 : decode cX2_wants 10 = .ok (.iload_n 0, 1) := by decide +kernel
theorem dX2_wants_11 : decode cX2_wants 11 = .ok (.iconst 4, 1) := by decide +kernel
theorem dX2_wants_12 : decode cX2_wants 12 = .ok (.if_icmp .ne 7, 3) := by decide +kernel
theorem dX2_wants_15 : decode cX2_wants 15 = .ok (.iconst 1, 1) := by decide +kernel
theorem dX2_wants_16 : decode cX2_wants 16 = .ok (.goto 4, 3) := by decide +kernel
theorem dX2_wants_19 : decode cX2_wants 19 = .ok (.iconst 0, 1) := by decide +kernel
theorem dX2_wants_20 : decode cX2_wants 20 = .ok (.ireturn, 1) := by decide +kernel
theorem dX2_sizeOf_0 : decode cX2_sizeOf 0 = .ok (.iload_n 2, 1) := by decide +kernel
theorem dX2_sizeOf_1 : decode cX2_sizeOf 1 = .ok (.tableswitch 67 0 2 #[27, 48, 61], 27) := by decide +kernel
theorem dX2_sizeOf_28 : decode cX2_sizeOf 28 = .ok (.lload_n 0, 1) := by decide +kernel
theorem dX2_sizeOf_29 : decode cX2_sizeOf 29 = .ok (.lconst 0, 1) := by decide +kernel
theorem dX2_sizeOf_30 : decode cX2_sizeOf 30 = .ok (.lcmp, 1) := by decide +kernel
theorem dX2_sizeOf_31 : decode cX2_sizeOf 31 = .ok (.ifCond .ge 16, 3) := by decide +kernel
theorem dX2_sizeOf_34 : decode cX2_sizeOf 34 = .ok (.lload_n 0, 1) := by decide +kernel
theorem dX2_sizeOf_35 : decode cX2_sizeOf 35 = .ok (.ldc2_w 63, 3) := by decide +kernel
theorem dX2_sizeOf_38 : decode cX2_sizeOf 38 = .ok (.lcmp, 1) := by decide +kernel
theorem dX2_sizeOf_39 : decode cX2_sizeOf 39 = .ok (.ifCond .eq 8, 3) := by decide +kernel
theorem dX2_sizeOf_42 : decode cX2_sizeOf 42 = .ok (.lload_n 0, 1) := by decide +kernel
theorem dX2_sizeOf_43 : decode cX2_sizeOf 43 = .ok (.lneg, 1) := by decide +kernel
theorem dX2_sizeOf_44 : decode cX2_sizeOf 44 = .ok (.goto 4, 3) := by decide +kernel
theorem dX2_sizeOf_47 : decode cX2_sizeOf 47 = .ok (.lload_n 0, 1) := by decide +kernel
theorem dX2_sizeOf_48 : decode cX2_sizeOf 48 = .ok (.lreturn, 1) := by decide +kernel
theorem dX2_sizeOf_49 : decode cX2_sizeOf 49 = .ok (.lload_n 0, 1) := by decide +kernel
theorem dX2_sizeOf_50 : decode cX2_sizeOf 50 = .ok (.lconst 0, 1) := by decide +kernel
theorem dX2_sizeOf_51 : decode cX2_sizeOf 51 = .ok (.lcmp, 1) := by decide +kernel
theorem dX2_sizeOf_52 : decode cX2_sizeOf 52 = .ok (.ifCond .ge 8, 3) := by decide +kernel
theorem dX2_sizeOf_55 : decode cX2_sizeOf 55 = .ok (.lload_n 0, 1) := by decide +kernel
theorem dX2_sizeOf_56 : decode cX2_sizeOf 56 = .ok (.lneg, 1) := by decide +kernel
theorem dX2_sizeOf_57 : decode cX2_sizeOf 57 = .ok (.goto 4, 3) := by decide +kernel
theorem dX2_sizeOf_60 : decode cX2_sizeOf 60 = .ok (.lload_n 0, 1) := by decide +kernel
theorem dX2_sizeOf_61 : decode cX2_sizeOf 61 = .ok (.lreturn, 1) := by decide +kernel
theorem dX2_sizeOf_62 : decode cX2_sizeOf 62 = .ok (.lload_n 0, 1) := by decide +kernel
theorem dX2_sizeOf_63 : decode cX2_sizeOf 63 = .ok (.ldc2_w 55, 3) := by decide +kernel
theorem dX2_sizeOf_66 : decode cX2_sizeOf 66 = .ok (.land, 1) := by decide +kernel
theorem dX2_sizeOf_67 : decode cX2_sizeOf 67 = .ok (.lreturn, 1) := by decide +kernel
theorem dX2_sizeOf_68 : decode cX2_sizeOf 68 = .ok (.lload_n 0, 1) := by decide +kernel
theorem dX2_sizeOf_69 : decode cX2_sizeOf 69 = .ok (.ldc2_w 59, 3) := by decide +kernel
theorem dX2_sizeOf_72 : decode cX2_sizeOf 72 = .ok (.land, 1) := by decide +kernel
theorem dX2_sizeOf_73 : decode cX2_sizeOf 73 = .ok (.lreturn, 1) := by decide +kernel
set_option maxRecDepth 20000 in
theorem ggX2_shown_X2_isZero : GoodIn wsX2_shown wsX2_isZero := goodIn_r _ [8, 9, 10] (by decide +kernel) (by decide +kernel)
set_option maxRecDepth 20000 in
theorem gX2_shown_X2_isZero : GoodIn wsX2_shown (va_wsS RX2 73 yX2_isZero wsX2_isZero) := goodIn_app (goodIn_of _ (by decide +kernel)) ggX2_shown_X2_isZero
theorem dX2_shown_0 : decode cX2_shown 0 = .ok (.lload_n 0, 1) := by decide +kernel
theorem dX2_shown_1 : decode cX2_shown 1 = .ok (.iload_n 2, 1) := by decide +kernel
theorem dX2_shown_2 : decode cX2_shown 2 = .ok (.invokestatic 73, 3) := by decide +kernel
theorem dX2_shown_5 : decode cX2_shown 5 = .ok (.ifCond .eq 5, 3) := by decide +kernel
theorem dX2_shown_8 : decode cX2_shown 8 = .ok (.lload_n 0, 1) := by decide +kernel
theorem dX2_shown_9 : decode cX2_shown 9 = .ok (.lreturn, 1) := by decide +kernel
theorem dX2_shown_10 : decode cX2_shown 10 = .ok (.iload_n 2, 1) := by decide +kernel
theorem dX2_shown_11 : decode cX2_shown 11 = .ok (.iconst 2, 1) := by decide +kernel
theorem dX2_shown_12 : decode cX2_shown 12 = .ok (.if_icmp .ne 19, 3) := by decide +kernel
theorem dX2_shown_15 : decode cX2_shown 15 = .ok (.lload_n 0, 1) := by decide +kernel
theorem dX2_shown_16 : decode cX2_shown 16 = .ok (.lconst 0, 1) := by decide +kernel
theorem dX2_shown_17 : decode cX2_shown 17 = .ok (.lcmp, 1) := by decide +kernel
theorem dX2_shown_18 : decode cX2_shown 18 = .ok (.ifCond .ge 9, 3) := by decide +kernel
theorem dX2_shown_21 : decode cX2_shown 21 = .ok (.ldc2_w 76, 3) := by decide +kernel
theorem dX2_shown_24 : decode cX2_shown 24 = .ok (.goto 6, 3) := by decide +kernel
theorem dX2_shown_27 : decode cX2_shown 27 = .ok (.ldc2_w 78, 3) := by decide +kernel
theorem dX2_shown_30 : decode cX2_shown 30 = .ok (.lreturn, 1) := by decide +kernel
theorem dX2_shown_31 : decode cX2_shown 31 = .ok (.lload_n 0, 1) := by decide +kernel
theorem dX2_shown_32 : decode cX2_shown 32 = .ok (.lconst 0, 1) := by decide +kernel
theorem dX2_shown_33 : decode cX2_shown 33 = .ok (.lcmp, 1) := by decide +kernel
theorem dX2_shown_34 : decode cX2_shown 34 = .ok (.ifCond .ge 9, 3) := by decide +kernel
theorem dX2_shown_37 : decode cX2_shown 37 = .ok (.ldc2_w 80, 3) := by decide +kernel
theorem dX2_shown_40 : decode cX2_shown 40 = .ok (.goto 6, 3) := by decide +kernel
theorem dX2_shown_43 : decode cX2_shown 43 = .ok (.ldc2_w 82, 3) := by decide +kernel
theorem dX2_shown_46 : decode cX2_shown 46 = .ok (.lreturn, 1) := by decide +kernel
set_option maxRecDepth 20000 in
theorem ggX2_like_X2_sizeOf : GoodIn wsX2_like wsX2_sizeOf := goodIn_r _ [6, 7, 8, 9] (by decide +kernel) (by decide +kernel)
set_option maxRecDepth 20000 in
theorem gX2_like_X2_sizeOf : GoodIn wsX2_like (va_wsS RX2 84 yX2_sizeOf wsX2_sizeOf) := goodIn_app (goodIn_of _ (by decide +kernel)) ggX2_like_X2_sizeOf
theorem dX2_like_0 : decode cX2_like 0 = .ok (.lload_n 0, 1) := by decide +kernel
theorem dX2_like_1 : decode cX2_like 1 = .ok (.iload 4, 2) := by decide +kernel
theorem dX2_like_3 : decode cX2_like 3 = .ok (.invokestatic 84, 3) := by decide +kernel
theorem dX2_like_6 : decode cX2_like 6 = .ok (.lstore 5, 2) := by decide +kernel
theorem dX2_like_8 : decode cX2_like 8 = .ok (.lload_n 2, 1) := by decide +kernel
theorem dX2_like_9 : decode cX2_like 9 = .ok (.lconst 0, 1) := by decide +kernel
theorem dX2_like_10 : decode cX2_like 10 = .ok (.lcmp, 1) := by decide +kernel
theorem dX2_like_11 : decode cX2_like 11 = .ok (.ifCond .lt 6, 3) := by decide +kernel
theorem dX2_like_14 : decode cX2_like 14 = .ok (.lload 5, 2) := by decide +kernel
theorem dX2_like_16 : decode cX2_like 16 = .ok (.lreturn, 1) := by decide +kernel
theorem dX2_like_17 : decode cX2_like 17 = .ok (.iload 4, 2) := by decide +kernel
theorem dX2_like_19 : decode cX2_like 19 = .ok (.iconst 2, 1) := by decide +kernel
theorem dX2_like_20 : decode cX2_like 20 = .ok (.if_icmp .ne 12, 3) := by decide +kernel
theorem dX2_like_23 : decode cX2_like 23 = .ok (.lload 5, 2) := by decide +kernel
theorem dX2_like_25 : decode cX2_like 25 = .ok (.ldc2_w 87, 3) := by decide +kernel
theorem dX2_like_28 : decode cX2_like 28 = .ok (.lsub, 1) := by decide +kernel
theorem dX2_like_29 : decode cX2_like 29 = .ok (.goto 9, 3) := by decide +kernel
theorem dX2_like_32 : decode cX2_like 32 = .ok (.lload 5, 2) := by decide +kernel
theorem dX2_like_34 : decode cX2_like 34 = .ok (.ldc2_w 89, 3) := by decide +kernel
theorem dX2_like_37 : decode cX2_like 37 = .ok (.lor, 1) := by decide +kernel
theorem dX2_like_38 : decode cX2_like 38 = .ok (.lreturn, 1) := by decide +kernel
theorem dX2_wholeOf_0 : decode cX2_wholeOf 0 = .ok (.lload_n 0, 1) := by decide +kernel
theorem dX2_wholeOf_1 : decode cX2_wholeOf 1 = .ok (.lconst 0, 1) := by decide +kernel
theorem dX2_wholeOf_2 : decode cX2_wholeOf 2 = .ok (.lcmp, 1) := by decide +kernel
theorem dX2_wholeOf_3 : decode cX2_wholeOf 3 = .ok (.ifCond .ge 7, 3) := by decide +kernel
theorem dX2_wholeOf_6 : decode cX2_wholeOf 6 = .ok (.iconst 1, 1) := by decide +kernel
theorem dX2_wholeOf_7 : decode cX2_wholeOf 7 = .ok (.goto 4, 3) := by decide +kernel
theorem dX2_wholeOf_10 : decode cX2_wholeOf 10 = .ok (.iconst 0, 1) := by decide +kernel
theorem dX2_wholeOf_11 : decode cX2_wholeOf 11 = .ok (.istore_n 3, 1) := by decide +kernel
theorem dX2_wholeOf_12 : decode cX2_wholeOf 12 = .ok (.lload_n 0, 1) := by decide +kernel
theorem dX2_wholeOf_13 : decode cX2_wholeOf 13 = .ok (.ldc2_w 59, 3) := by decide +kernel
theorem dX2_wholeOf_16 : decode cX2_wholeOf 16 = .ok (.land, 1) := by decide +kernel
theorem dX2_wholeOf_17 : decode cX2_wholeOf 17 = .ok (.lstore 4, 2) := by decide +kernel
theorem dX2_wholeOf_19 : decode cX2_wholeOf 19 = .ok (.lload 4, 2) := by decide +kernel
theorem dX2_wholeOf_21 : decode cX2_wholeOf 21 = .ok (.bipush 52, 2) := by decide +kernel
theorem dX2_wholeOf_23 : decode cX2_wholeOf 23 = .ok (.lshr, 1) := by decide +kernel
theorem dX2_wholeOf_24 : decode cX2_wholeOf 24 = .ok (.l2i, 1) := by decide +kernel
theorem dX2_wholeOf_25 : decode cX2_wholeOf 25 = .ok (.sipush 1023, 3) := by decide +kernel
theorem dX2_wholeOf_28 : decode cX2_wholeOf 28 = .ok (.isub, 1) := by decide +kernel
theorem dX2_wholeOf_29 : decode cX2_wholeOf 29 = .ok (.istore 6, 2) := by decide +kernel
theorem dX2_wholeOf_31 : decode cX2_wholeOf 31 = .ok (.lload 4, 2) := by decide +kernel
theorem dX2_wholeOf_33 : decode cX2_wholeOf 33 = .ok (.lconst 0, 1) := by decide +kernel
theorem dX2_wholeOf_34 : decode cX2_wholeOf 34 = .ok (.lcmp, 1) := by decide +kernel
theorem dX2_wholeOf_35 : decode cX2_wholeOf 35 = .ok (.ifCond .eq 10, 3) := by decide +kernel
theorem dX2_wholeOf_38 : decode cX2_wholeOf 38 = .ok (.iload 6, 2) := by decide +kernel
theorem dX2_wholeOf_40 : decode cX2_wholeOf 40 = .ok (.bipush 52, 2) := by decide +kernel
theorem dX2_wholeOf_42 : decode cX2_wholeOf 42 = .ok (.if_icmp .lt 5, 3) := by decide +kernel
theorem dX2_wholeOf_45 : decode cX2_wholeOf 45 = .ok (.lload_n 0, 1) := by decide +kernel
theorem dX2_wholeOf_46 : decode cX2_wholeOf 46 = .ok (.lreturn, 1) := by decide +kernel
theorem dX2_wholeOf_47 : decode cX2_wholeOf 47 = .ok (.iload_n 3, 1) := by decide +kernel
theorem dX2_wholeOf_48 : decode cX2_wholeOf 48 = .ok (.ifCond .eq 9, 3) := by decide +kernel
theorem dX2_wholeOf_51 : decode cX2_wholeOf 51 = .ok (.ldc2_w 89, 3) := by decide +kernel
theorem dX2_wholeOf_54 : decode cX2_wholeOf 54 = .ok (.goto 4, 3) := by decide +kernel
theorem dX2_wholeOf_57 : decode cX2_wholeOf 57 = .ok (.lconst 0, 1) := by decide +kernel
theorem dX2_wholeOf_58 : decode cX2_wholeOf 58 = .ok (.lstore 7, 2) := by decide +kernel
theorem dX2_wholeOf_60 : decode cX2_wholeOf 60 = .ok (.iload 6, 2) := by decide +kernel
theorem dX2_wholeOf_62 : decode cX2_wholeOf 62 = .ok (.ifCond .ge 63, 3) := by decide +kernel
theorem dX2_wholeOf_65 : decode cX2_wholeOf 65 = .ok (.iload_n 2, 1) := by decide +kernel
theorem dX2_wholeOf_66 : decode cX2_wholeOf 66 = .ok (.iconst 5, 1) := by decide +kernel
theorem dX2_wholeOf_67 : decode cX2_wholeOf 67 = .ok (.if_icmp .ne 7, 3) := by decide +kernel
theorem dX2_wholeOf_70 : decode cX2_wholeOf 70 = .ok (.iload_n 3, 1) := by decide +kernel
theorem dX2_wholeOf_71 : decode cX2_wholeOf 71 = .ok (.goto 35, 3) := by decide +kernel
theorem dX2_wholeOf_74 : decode cX2_wholeOf 74 = .ok (.iload_n 2, 1) := by decide +kernel
theorem dX2_wholeOf_75 : decode cX2_wholeOf 75 = .ok (.bipush 6, 2) := by decide +kernel
theorem dX2_wholeOf_77 : decode cX2_wholeOf 77 = .ok (.if_icmp .ne 15, 3) := by decide +kernel
theorem dX2_wholeOf_80 : decode cX2_wholeOf 80 = .ok (.iload_n 3, 1) := by decide +kernel
theorem dX2_wholeOf_81 : decode cX2_wholeOf 81 = .ok (.ifCond .ne 7, 3) := by decide +kernel
theorem dX2_wholeOf_84 : decode cX2_wholeOf 84 = .ok (.iconst 1, 1) := by decide +kernel
theorem dX2_wholeOf_85 : decode cX2_wholeOf 85 = .ok (.goto 21, 3) := by decide +kernel
theorem dX2_wholeOf_88 : decode cX2_wholeOf 88 = .ok (.iconst 0, 1) := by decide +kernel
theorem dX2_wholeOf_89 : decode cX2_wholeOf 89 = .ok (.goto 17, 3) := by decide +kernel
theorem dX2_wholeOf_92 : decode cX2_wholeOf 92 = .ok (.lload 4, 2) := by decide +kernel
theorem dX2_wholeOf_94 : decode cX2_wholeOf 94 = .ok (.ldc2_w 91, 3) := by decide +kernel
theorem dX2_wholeOf_97 : decode cX2_wholeOf 97 = .ok (.lcmp, 1) := by decide +kernel
theorem dX2_wholeOf_98 : decode cX2_wholeOf 98 = .ok (.ifCond .le 7, 3) := by decide +kernel
theorem dX2_wholeOf_101 : decode cX2_wholeOf 101 = .ok (.iconst 1, 1) := by decide +kernel
theorem dX2_wholeOf_102 : decode cX2_wholeOf 102 = .ok (.goto 4, 3) := by decide +kernel
theorem dX2_wholeOf_105 : decode cX2_wholeOf 105 = .ok (.iconst 0, 1) := by decide +kernel
theorem dX2_wholeOf_106 : decode cX2_wholeOf 106 = .ok (.istore 9, 2) := by decide +kernel
theorem dX2_wholeOf_108 : decode cX2_wholeOf 108 = .ok (.iload 9, 2) := by decide +kernel
theorem dX2_wholeOf_110 : decode cX2_wholeOf 110 = .ok (.ifCond .eq 12, 3) := by decide +kernel
theorem dX2_wholeOf_113 : decode cX2_wholeOf 113 = .ok (.lload 7, 2) := by decide +kernel
theorem dX2_wholeOf_115 : decode cX2_wholeOf 115 = .ok (.ldc2_w 82, 3) := by decide +kernel
theorem dX2_wholeOf_118 : decode cX2_wholeOf 118 = .ok (.lor, 1) := by decide +kernel
theorem dX2_wholeOf_119 : decode cX2_wholeOf 119 = .ok (.goto 5, 3) := by decide +kernel
theorem dX2_wholeOf_122 : decode cX2_wholeOf 122 = .ok (.lload 7, 2) := by decide +kernel
theorem dX2_wholeOf_124 : decode cX2_wholeOf 124 = .ok (.lreturn, 1) := by decide +kernel
theorem dX2_wholeOf_125 : decode cX2_wholeOf 125 = .ok (.lconst 1, 1) := by decide +kernel
theorem dX2_wholeOf_126 : decode cX2_wholeOf 126 = .ok (.bipush 52, 2) := by decide +kernel
theorem dX2_wholeOf_128 : decode cX2_wholeOf 128 = .ok (.iload 6, 2) := by decide +kernel
theorem dX2_wholeOf_130 : decode cX2_wholeOf 130 = .ok (.isub, 1) := by decide +kernel
theorem dX2_wholeOf_131 : decode cX2_wholeOf 131 = .ok (.lshl, 1) := by decide +kernel
theorem dX2_wholeOf_132 : decode cX2_wholeOf 132 = .ok (.lstore 9, 2) := by decide +kernel
theorem dX2_wholeOf_134 : decode cX2_wholeOf 134 = .ok (.lload 4, 2) := by decide +kernel
theorem dX2_wholeOf_136 : decode cX2_wholeOf 136 = .ok (.lload 9, 2) := by decide +kernel
theorem dX2_wholeOf_138 : decode cX2_wholeOf 138 = .ok (.lconst 1, 1) := by decide +kernel
theorem dX2_wholeOf_139 : decode cX2_wholeOf 139 = .ok (.lsub, 1) := by decide +kernel
theorem dX2_wholeOf_140 : decode cX2_wholeOf 140 = .ok (.land, 1) := by decide +kernel
theorem dX2_wholeOf_141 : decode cX2_wholeOf 141 = .ok (.lstore 11, 2) := by decide +kernel
theorem dX2_wholeOf_143 : decode cX2_wholeOf 143 = .ok (.lload 11, 2) := by decide +kernel
theorem dX2_wholeOf_145 : decode cX2_wholeOf 145 = .ok (.lconst 0, 1) := by decide +kernel
theorem dX2_wholeOf_146 : decode cX2_wholeOf 146 = .ok (.lcmp, 1) := by decide +kernel
theorem dX2_wholeOf_147 : decode cX2_wholeOf 147 = .ok (.ifCond .ne 5, 3) := by decide +kernel
theorem dX2_wholeOf_150 : decode cX2_wholeOf 150 = .ok (.lload_n 0, 1) := by decide +kernel
theorem dX2_wholeOf_151 : decode cX2_wholeOf 151 = .ok (.lreturn, 1) := by decide +kernel
theorem dX2_wholeOf_152 : decode cX2_wholeOf 152 = .ok (.lload 4, 2) := by decide +kernel
theorem dX2_wholeOf_154 : decode cX2_wholeOf 154 = .ok (.lload 11, 2) := by decide +kernel
theorem dX2_wholeOf_156 : decode cX2_wholeOf 156 = .ok (.lsub, 1) := by decide +kernel
theorem dX2_wholeOf_157 : decode cX2_wholeOf 157 = .ok (.lstore 13, 2) := by decide +kernel
theorem dX2_wholeOf_159 : decode cX2_wholeOf 159 = .ok (.lload 13, 2) := by decide +kernel
theorem dX2_wholeOf_161 : decode cX2_wholeOf 161 = .ok (.lload 9, 2) := by decide +kernel
theorem dX2_wholeOf_163 : decode cX2_wholeOf 163 = .ok (.land, 1) := by decide +kernel
theorem dX2_wholeOf_164 : decode cX2_wholeOf 164 = .ok (.lconst 0, 1) := by decide +kernel
theorem dX2_wholeOf_165 : decode cX2_wholeOf 165 = .ok (.lcmp, 1) := by decide +kernel
theorem dX2_wholeOf_166 : decode cX2_wholeOf 166 = .ok (.ifCond .eq 7, 3) := by decide +kernel
theorem dX2_wholeOf_169 : decode cX2_wholeOf 169 = .ok (.iconst 1, 1) := by decide +kernel
theorem dX2_wholeOf_170 : decode cX2_wholeOf 170 = .ok (.goto 4, 3) := by decide +kernel
theorem dX2_wholeOf_173 : decode cX2_wholeOf 173 = .ok (.iconst 0, 1) := by decide +kernel
theorem dX2_wholeOf_174 : decode cX2_wholeOf 174 = .ok (.istore 15, 2) := by decide +kernel
theorem dX2_wholeOf_176 : decode cX2_wholeOf 176 = .ok (.iload_n 2, 1) := by decide +kernel
theorem dX2_wholeOf_177 : decode cX2_wholeOf 177 = .ok (.iconst 5, 1) := by decide +kernel
theorem dX2_wholeOf_178 : decode cX2_wholeOf 178 = .ok (.if_icmp .ne 7, 3) := by decide +kernel
theorem dX2_wholeOf_181 : decode cX2_wholeOf 181 = .ok (.iload_n 3, 1) := by decide +kernel
theorem dX2_wholeOf_182 : decode cX2_wholeOf 182 = .ok (.goto 55, 3) := by decide +kernel
theorem dX2_wholeOf_185 : decode cX2_wholeOf 185 = .ok (.iload_n 2, 1) := by decide +kernel
theorem dX2_wholeOf_186 : decode cX2_wholeOf 186 = .ok (.bipush 6, 2) := by decide +kernel
theorem dX2_wholeOf_188 : decode cX2_wholeOf 188 = .ok (.if_icmp .ne 15, 3) := by decide +kernel
theorem dX2_wholeOf_191 : decode cX2_wholeOf 191 = .ok (.iload_n 3, 1) := by decide +kernel
theorem dX2_wholeOf_192 : decode cX2_wholeOf 192 = .ok (.ifCond .ne 7, 3) := by decide +kernel
theorem dX2_wholeOf_195 : decode cX2_wholeOf 195 = .ok (.iconst 1, 1) := by decide +kernel
theorem dX2_wholeOf_196 : decode cX2_wholeOf 196 = .ok (.goto 41, 3) := by decide +kernel
theorem dX2_wholeOf_199 : decode cX2_wholeOf 199 = .ok (.iconst 0, 1) := by decide +kernel
theorem dX2_wholeOf_200 : decode cX2_wholeOf 200 = .ok (.goto 37, 3) := by decide +kernel
theorem dX2_wholeOf_203 : decode cX2_wholeOf 203 = .ok (.lload 11, 2) := by decide +kernel
theorem dX2_wholeOf_205 : decode cX2_wholeOf 205 = .ok (.lload 9, 2) := by decide +kernel
theorem dX2_wholeOf_207 : decode cX2_wholeOf 207 = .ok (.ldc2_w 93, 3) := by decide +kernel
theorem dX2_wholeOf_210 : decode cX2_wholeOf 210 = .ok (.ldiv, 1) := by decide +kernel
theorem dX2_wholeOf_211 : decode cX2_wholeOf 211 = .ok (.lcmp, 1) := by decide +kernel
theorem dX2_wholeOf_212 : decode cX2_wholeOf 212 = .ok (.ifCond .gt 20, 3) := by decide +kernel
theorem dX2_wholeOf_215 : decode cX2_wholeOf 215 = .ok (.lload 11, 2) := by decide +kernel
theorem dX2_wholeOf_217 : decode cX2_wholeOf 217 = .ok (.lload 9, 2) := by decide +kernel
theorem dX2_wholeOf_219 : decode cX2_wholeOf 219 = .ok (.ldc2_w 93, 3) := by decide +kernel
theorem dX2_wholeOf_222 : decode cX2_wholeOf 222 = .ok (.ldiv, 1) := by decide +kernel
theorem dX2_wholeOf_223 : decode cX2_wholeOf 223 = .ok (.lcmp, 1) := by decide +kernel
theorem dX2_wholeOf_224 : decode cX2_wholeOf 224 = .ok (.ifCond .ne 12, 3) := by decide +kernel
theorem dX2_wholeOf_227 : decode cX2_wholeOf 227 = .ok (.iload 15, 2) := by decide +kernel
theorem dX2_wholeOf_229 : decode cX2_wholeOf 229 = .ok (.ifCond .eq 7, 3) := by decide +kernel
theorem dX2_wholeOf_232 : decode cX2_wholeOf 232 = .ok (.iconst 1, 1) := by decide +kernel
theorem dX2_wholeOf_233 : decode cX2_wholeOf 233 = .ok (.goto 4, 3) := by decide +kernel
theorem dX2_wholeOf_236 : decode cX2_wholeOf 236 = .ok (.iconst 0, 1) := by decide +kernel
theorem dX2_wholeOf_237 : decode cX2_wholeOf 237 = .ok (.istore 16, 2) := by decide +kernel
theorem dX2_wholeOf_239 : decode cX2_wholeOf 239 = .ok (.lload 7, 2) := by decide +kernel
theorem dX2_wholeOf_241 : decode cX2_wholeOf 241 = .ok (.iload 16, 2) := by decide +kernel
theorem dX2_wholeOf_243 : decode cX2_wholeOf 243 = .ok (.ifCond .eq 11, 3) := by decide +kernel
theorem dX2_wholeOf_246 : decode cX2_wholeOf 246 = .ok (.lload 13, 2) := by decide +kernel
theorem dX2_wholeOf_248 : decode cX2_wholeOf 248 = .ok (.lload 9, 2) := by decide +kernel
theorem dX2_wholeOf_250 : decode cX2_wholeOf 250 = .ok (.ladd, 1) := by decide +kernel
theorem dX2_wholeOf_251 : decode cX2_wholeOf 251 = .ok (.goto 5, 3) := by decide +kernel
theorem dX2_wholeOf_254 : decode cX2_wholeOf 254 = .ok (.lload 13, 2) := by decide +kernel
theorem dX2_wholeOf_256 : decode cX2_wholeOf 256 = .ok (.lor, 1) := by decide +kernel
theorem dX2_wholeOf_257 : decode cX2_wholeOf 257 = .ok (.lreturn, 1) := by decide +kernel
set_option maxRecDepth 20000 in
theorem ggX2_done_X2_sizeOf : GoodIn wsX2_done wsX2_sizeOf := goodIn_r _ [10, 11, 12, 13] (by decide +kernel) (by decide +kernel)
set_option maxRecDepth 20000 in
theorem gX2_done_X2_sizeOf : GoodIn wsX2_done (va_wsS RX2 84 yX2_sizeOf wsX2_sizeOf) := goodIn_app (goodIn_of _ (by decide +kernel)) ggX2_done_X2_sizeOf
set_option maxRecDepth 20000 in
theorem ggX2_done_X2_isAbove : GoodIn wsX2_done wsX2_isAbove := goodIn_r _ [16, 17, 18, 9, 19, 12, 13] (by decide +kernel) (by decide +kernel)
set_option maxRecDepth 20000 in
theorem gX2_done_X2_isAbove : GoodIn wsX2_done (va_wsS RX2 95 yX2_isAbove wsX2_isAbove) := goodIn_app (goodIn_of _ (by decide +kernel)) ggX2_done_X2_isAbove
set_option maxRecDepth 20000 in
theorem ggX2_done_X2_shown : GoodIn wsX2_done wsX2_shown := goodIn_r _ [22, 23, 24, 25, 26, 27, 28, 9, 29, 12, 13] (by decide +kernel) (by decide +kernel)
set_option maxRecDepth 20000 in
theorem gX2_done_X2_shown : GoodIn wsX2_done (va_wsS RX2 99 yX2_shown wsX2_shown) := goodIn_app (goodIn_of _ (by decide +kernel)) ggX2_done_X2_shown
set_option maxRecDepth 20000 in
theorem ggX2_done_X2_like : GoodIn wsX2_done wsX2_like := goodIn_r _ [32, 33, 34, 7, 8, 9, 10, 11, 12, 13] (by decide +kernel) (by decide +kernel)
set_option maxRecDepth 20000 in
theorem gX2_done_X2_like : GoodIn wsX2_done (va_wsS RX2 102 yX2_like wsX2_like) := goodIn_app (goodIn_of _ (by decide +kernel)) ggX2_done_X2_like
set_option maxRecDepth 20000 in
theorem ggX2_done_X2_wholeOf : GoodIn wsX2_done wsX2_wholeOf := goodIn_r _ [37, 13, 34, 38, 26, 39] (by decide +kernel) (by decide +kernel)
set_option maxRecDepth 20000 in
theorem gX2_done_X2_wholeOf : GoodIn wsX2_done (va_wsS RX2 106 yX2_wholeOf wsX2_wholeOf) := goodIn_app (goodIn_of _ (by decide +kernel)) ggX2_done_X2_wholeOf
theorem dX2_done_0 : decode cX2_done 0 = .ok (.bipush 8, 2) := by decide +kernel
theorem dX2_done_2 : decode cX2_done 2 = .ok (.iload_n 1, 1) := by decide +kernel
theorem dX2_done_3 : decode cX2_done 3 = .ok (.imul, 1) := by decide +kernel
theorem dX2_done_4 : decode cX2_done 4 = .ok (.iload_n 2, 1) := by decide +kernel
theorem dX2_done_5 : decode cX2_done 5 = .ok (.iadd, 1) := by decide +kernel
theorem dX2_done_6 : decode cX2_done 6 = .ok (.istore 5, 2) := by decide +kernel
theorem dX2_done_8 : decode cX2_done 8 = .ok (.aload_n 0, 1) := by decide +kernel
theorem dX2_done_9 : decode cX2_done 9 = .ok (.getfield 42, 3) := by decide +kernel
theorem dX2_done_12 : decode cX2_done 12 = .ok (.iload 5, 2) := by decide +kernel
theorem dX2_done_14 : decode cX2_done 14 = .ok (.iaload, 1) := by decide +kernel
theorem dX2_done_15 : decode cX2_done 15 = .ok (.iconst 1, 1) := by decide +kernel
theorem dX2_done_16 : decode cX2_done 16 = .ok (.if_icmp .ne 13, 3) := by decide +kernel
theorem dX2_done_19 : decode cX2_done 19 = .ok (.aload_n 0, 1) := by decide +kernel
theorem dX2_done_20 : decode cX2_done 20 = .ok (.getfield 45, 3) := by decide +kernel
theorem dX2_done_23 : decode cX2_done 23 = .ok (.iload 5, 2) := by decide +kernel
theorem dX2_done_25 : decode cX2_done 25 = .ok (.laload, 1) := by decide +kernel
theorem dX2_done_26 : decode cX2_done 26 = .ok (.goto 30, 3) := by decide +kernel
theorem dX2_done_29 : decode cX2_done 29 = .ok (.aload_n 0, 1) := by decide +kernel
theorem dX2_done_30 : decode cX2_done 30 = .ok (.getfield 42, 3) := by decide +kernel
theorem dX2_done_33 : decode cX2_done 33 = .ok (.iload 5, 2) := by decide +kernel
theorem dX2_done_35 : decode cX2_done 35 = .ok (.iaload, 1) := by decide +kernel
theorem dX2_done_36 : decode cX2_done 36 = .ok (.iconst 2, 1) := by decide +kernel
theorem dX2_done_37 : decode cX2_done 37 = .ok (.if_icmp .ne 18, 3) := by decide +kernel
theorem dX2_done_40 : decode cX2_done 40 = .ok (.aload_n 0, 1) := by decide +kernel
theorem dX2_done_41 : decode cX2_done 41 = .ok (.getfield 17, 3) := by decide +kernel
theorem dX2_done_44 : decode cX2_done 44 = .ok (.aload_n 0, 1) := by decide +kernel
theorem dX2_done_45 : decode cX2_done 45 = .ok (.getfield 48, 3) := by decide +kernel
theorem dX2_done_48 : decode cX2_done 48 = .ok (.iload 5, 2) := by decide +kernel
theorem dX2_done_50 : decode cX2_done 50 = .ok (.iaload, 1) := by decide +kernel
theorem dX2_done_51 : decode cX2_done 51 = .ok (.laload, 1) := by decide +kernel
theorem dX2_done_52 : decode cX2_done 52 = .ok (.goto 4, 3) := by decide +kernel
theorem dX2_done_55 : decode cX2_done 55 = .ok (.lconst 0, 1) := by decide +kernel
theorem dX2_done_56 : decode cX2_done 56 = .ok (.lstore 6, 2) := by decide +kernel
theorem dX2_done_58 : decode cX2_done 58 = .ok (.aload_n 0, 1) := by decide +kernel
theorem dX2_done_59 : decode cX2_done 59 = .ok (.getfield 39, 3) := by decide +kernel
theorem dX2_done_62 : decode cX2_done 62 = .ok (.iload 5, 2) := by decide +kernel
theorem dX2_done_64 : decode cX2_done 64 = .ok (.iaload, 1) := by decide +kernel
theorem dX2_done_65 : decode cX2_done 65 = .ok (.tableswitch 114 0 4 #[35, 46, 68, 90, 101], 35) := by decide +kernel
theorem dX2_done_100 : decode cX2_done 100 = .ok (.lload_n 3, 1) := by decide +kernel
theorem dX2_done_101 : decode cX2_done 101 = .ok (.aload_n 0, 1) := by decide +kernel
theorem dX2_done_102 : decode cX2_done 102 = .ok (.getfield 13, 3) := by decide +kernel
theorem dX2_done_105 : decode cX2_done 105 = .ok (.iload_n 1, 1) := by decide +kernel
theorem dX2_done_106 : decode cX2_done 106 = .ok (.iaload, 1) := by decide +kernel
theorem dX2_done_107 : decode cX2_done 107 = .ok (.invokestatic 84, 3) := by decide +kernel
theorem dX2_done_110 : decode cX2_done 110 = .ok (.lreturn, 1) := by decide +kernel
theorem dX2_done_111 : decode cX2_done 111 = .ok (.lload 6, 2) := by decide +kernel
theorem dX2_done_113 : decode cX2_done 113 = .ok (.lload_n 3, 1) := by decide +kernel
theorem dX2_done_114 : decode cX2_done 114 = .ok (.aload_n 0, 1) := by decide +kernel
theorem dX2_done_115 : decode cX2_done 115 = .ok (.getfield 13, 3) := by decide +kernel
theorem dX2_done_118 : decode cX2_done 118 = .ok (.iload_n 1, 1) := by decide +kernel
theorem dX2_done_119 : decode cX2_done 119 = .ok (.iaload, 1) := by decide +kernel
theorem dX2_done_120 : decode cX2_done 120 = .ok (.invokestatic 95, 3) := by decide +kernel
theorem dX2_done_123 : decode cX2_done 123 = .ok (.ifCond .eq 8, 3) := by decide +kernel
theorem dX2_done_126 : decode cX2_done 126 = .ok (.lload 6, 2) := by decide +kernel
theorem dX2_done_128 : decode cX2_done 128 = .ok (.goto 4, 3) := by decide +kernel
theorem dX2_done_131 : decode cX2_done 131 = .ok (.lload_n 3, 1) := by decide +kernel
theorem dX2_done_132 : decode cX2_done 132 = .ok (.lreturn, 1) := by decide +kernel
theorem dX2_done_133 : decode cX2_done 133 = .ok (.lload_n 3, 1) := by decide +kernel
theorem dX2_done_134 : decode cX2_done 134 = .ok (.lload 6, 2) := by decide +kernel
theorem dX2_done_136 : decode cX2_done 136 = .ok (.aload_n 0, 1) := by decide +kernel
theorem dX2_done_137 : decode cX2_done 137 = .ok (.getfield 13, 3) := by decide +kernel
theorem dX2_done_140 : decode cX2_done 140 = .ok (.iload_n 1, 1) := by decide +kernel
theorem dX2_done_141 : decode cX2_done 141 = .ok (.iaload, 1) := by decide +kernel
theorem dX2_done_142 : decode cX2_done 142 = .ok (.invokestatic 95, 3) := by decide +kernel
theorem dX2_done_145 : decode cX2_done 145 = .ok (.ifCond .eq 8, 3) := by decide +kernel
theorem dX2_done_148 : decode cX2_done 148 = .ok (.lload 6, 2) := by decide +kernel
theorem dX2_done_150 : decode cX2_done 150 = .ok (.goto 4, 3) := by decide +kernel
theorem dX2_done_153 : decode cX2_done 153 = .ok (.lload_n 3, 1) := by decide +kernel
theorem dX2_done_154 : decode cX2_done 154 = .ok (.lreturn, 1) := by decide +kernel
theorem dX2_done_155 : decode cX2_done 155 = .ok (.lload_n 3, 1) := by decide +kernel
theorem dX2_done_156 : decode cX2_done 156 = .ok (.aload_n 0, 1) := by decide +kernel
theorem dX2_done_157 : decode cX2_done 157 = .ok (.getfield 13, 3) := by decide +kernel
theorem dX2_done_160 : decode cX2_done 160 = .ok (.iload_n 1, 1) := by decide +kernel
theorem dX2_done_161 : decode cX2_done 161 = .ok (.iaload, 1) := by decide +kernel
theorem dX2_done_162 : decode cX2_done 162 = .ok (.invokestatic 99, 3) := by decide +kernel
theorem dX2_done_165 : decode cX2_done 165 = .ok (.lreturn, 1) := by decide +kernel
theorem dX2_done_166 : decode cX2_done 166 = .ok (.lload_n 3, 1) := by decide +kernel
theorem dX2_done_167 : decode cX2_done 167 = .ok (.lload 6, 2) := by decide +kernel
theorem dX2_done_169 : decode cX2_done 169 = .ok (.aload_n 0, 1) := by decide +kernel
theorem dX2_done_170 : decode cX2_done 170 = .ok (.getfield 13, 3) := by decide +kernel
theorem dX2_done_173 : decode cX2_done 173 = .ok (.iload_n 1, 1) := by decide +kernel
theorem dX2_done_174 : decode cX2_done 174 = .ok (.iaload, 1) := by decide +kernel
theorem dX2_done_175 : decode cX2_done 175 = .ok (.invokestatic 102, 3) := by decide +kernel
theorem dX2_done_178 : decode cX2_done 178 = .ok (.lreturn, 1) := by decide +kernel
theorem dX2_done_179 : decode cX2_done 179 = .ok (.lload_n 3, 1) := by decide +kernel
theorem dX2_done_180 : decode cX2_done 180 = .ok (.aload_n 0, 1) := by decide +kernel
theorem dX2_done_181 : decode cX2_done 181 = .ok (.getfield 39, 3) := by decide +kernel
theorem dX2_done_184 : decode cX2_done 184 = .ok (.iload 5, 2) := by decide +kernel
theorem dX2_done_186 : decode cX2_done 186 = .ok (.iaload, 1) := by decide +kernel
theorem dX2_done_187 : decode cX2_done 187 = .ok (.invokestatic 106, 3) := by decide +kernel
theorem dX2_done_190 : decode cX2_done 190 = .ok (.lreturn, 1) := by decide +kernel
set_option maxRecDepth 20000 in
theorem ggX2_comes_X2_done : GoodIn wsX2_comes wsX2_done := goodIn_r _ [13, 14, 15, 3, 16, 17, 7, 18, 19, 12, 20, 21, 22, 23, 24, 25, 26, 27, 28, 29, 30, 31, 32, 33, 34, 35, 36, 37, 38, 39, 40, 41, 42, 43, 44, 45, 46, 47, 48, 49, 50, 51, 52, 53, 54, 55, 56, 57, 58, 59, 60, 61, 62, 63] (by decide +kernel) (by decide +kernel)
set_option maxRecDepth 20000 in
theorem gX2_comes_X2_done : GoodIn wsX2_comes (wsV RX2 109 RX2 yX2_done wsX2_done) := goodIn_app (goodIn_of _ (by decide +kernel)) ggX2_comes_X2_done
set_option maxRecDepth 20000 in
theorem ggX2_comes_X2_isAbove : GoodIn wsX2_comes wsX2_isAbove := goodIn_r _ [26, 27, 28, 12, 29, 22, 23] (by decide +kernel) (by decide +kernel)
set_option maxRecDepth 20000 in
theorem gX2_comes_X2_isAbove : GoodIn wsX2_comes (va_wsS RX2 95 yX2_isAbove wsX2_isAbove) := goodIn_app (goodIn_of _ (by decide +kernel)) ggX2_comes_X2_isAbove
theorem dX2_comes_0 : decode cX2_comes 0 = .ok (.lload_n 2, 1) := by decide +kernel
theorem dX2_comes_1 : decode cX2_comes 1 = .ok (.lstore 4, 2) := by decide +kernel
theorem dX2_comes_3 : decode cX2_comes 3 = .ok (.iconst 0, 1) := by decide +kernel
theorem dX2_comes_4 : decode cX2_comes 4 = .ok (.istore 6, 2) := by decide +kernel
theorem dX2_comes_6 : decode cX2_comes 6 = .ok (.iload 6, 2) := by decide +kernel
theorem dX2_comes_8 : decode cX2_comes 8 = .ok (.aload_n 0, 1) := by decide +kernel
theorem dX2_comes_9 : decode cX2_comes 9 = .ok (.getfield 21, 3) := by decide +kernel
theorem dX2_comes_12 : decode cX2_comes 12 = .ok (.iload_n 1, 1) := by decide +kernel
theorem dX2_comes_13 : decode cX2_comes 13 = .ok (.iaload, 1) := by decide +kernel
theorem dX2_comes_14 : decode cX2_comes 14 = .ok (.if_icmp .ge 20, 3) := by decide +kernel
theorem dX2_comes_17 : decode cX2_comes 17 = .ok (.aload_n 0, 1) := by decide +kernel
theorem dX2_comes_18 : decode cX2_comes 18 = .ok (.iload_n 1, 1) := by decide +kernel
theorem dX2_comes_19 : decode cX2_comes 19 = .ok (.iload 6, 2) := by decide +kernel
theorem dX2_comes_21 : decode cX2_comes 21 = .ok (.lload 4, 2) := by decide +kernel
theorem dX2_comes_23 : decode cX2_comes 23 = .ok (.invokevirtual 109, 3) := by decide +kernel
theorem dX2_comes_26 : decode cX2_comes 26 = .ok (.lstore 4, 2) := by decide +kernel
theorem dX2_comes_28 : decode cX2_comes 28 = .ok (.iinc 6 1, 3) := by decide +kernel
theorem dX2_comes_31 : decode cX2_comes 31 = .ok (.goto (-25), 3) := by decide +kernel
theorem dX2_comes_34 : decode cX2_comes 34 = .ok (.aload_n 0, 1) := by decide +kernel
theorem dX2_comes_35 : decode cX2_comes 35 = .ok (.getfield 24, 3) := by decide +kernel
theorem dX2_comes_38 : decode cX2_comes 38 = .ok (.iload_n 1, 1) := by decide +kernel
theorem dX2_comes_39 : decode cX2_comes 39 = .ok (.dup2, 1) := by decide +kernel
theorem dX2_comes_40 : decode cX2_comes 40 = .ok (.iaload, 1) := by decide +kernel
theorem dX2_comes_41 : decode cX2_comes 41 = .ok (.iconst 1, 1) := by decide +kernel
theorem dX2_comes_42 : decode cX2_comes 42 = .ok (.iadd, 1) := by decide +kernel
theorem dX2_comes_43 : decode cX2_comes 43 = .ok (.iastore, 1) := by decide +kernel
theorem dX2_comes_44 : decode cX2_comes 44 = .ok (.lload 4, 2) := by decide +kernel
theorem dX2_comes_46 : decode cX2_comes 46 = .ok (.lconst 0, 1) := by decide +kernel
theorem dX2_comes_47 : decode cX2_comes 47 = .ok (.lcmp, 1) := by decide +kernel
theorem dX2_comes_48 : decode cX2_comes 48 = .ok (.ifCond .ge 7, 3) := by decide +kernel
theorem dX2_comes_51 : decode cX2_comes 51 = .ok (.iconst 1, 1) := by decide +kernel
theorem dX2_comes_52 : decode cX2_comes 52 = .ok (.goto 4, 3) := by decide +kernel
theorem dX2_comes_55 : decode cX2_comes 55 = .ok (.iconst 0, 1) := by decide +kernel
theorem dX2_comes_56 : decode cX2_comes 56 = .ok (.aload_n 0, 1) := by decide +kernel
theorem dX2_comes_57 : decode cX2_comes 57 = .ok (.getfield 17, 3) := by decide +kernel
theorem dX2_comes_60 : decode cX2_comes 60 = .ok (.iload_n 1, 1) := by decide +kernel
theorem dX2_comes_61 : decode cX2_comes 61 = .ok (.laload, 1) := by decide +kernel
theorem dX2_comes_62 : decode cX2_comes 62 = .ok (.lconst 0, 1) := by decide +kernel
theorem dX2_comes_63 : decode cX2_comes 63 = .ok (.lcmp, 1) := by decide +kernel
theorem dX2_comes_64 : decode cX2_comes 64 = .ok (.ifCond .ge 7, 3) := by decide +kernel
theorem dX2_comes_67 : decode cX2_comes 67 = .ok (.iconst 1, 1) := by decide +kernel
theorem dX2_comes_68 : decode cX2_comes 68 = .ok (.goto 4, 3) := by decide +kernel
theorem dX2_comes_71 : decode cX2_comes 71 = .ok (.iconst 0, 1) := by decide +kernel
theorem dX2_comes_72 : decode cX2_comes 72 = .ok (.if_icmp .eq 13, 3) := by decide +kernel
theorem dX2_comes_75 : decode cX2_comes 75 = .ok (.aload_n 0, 1) := by decide +kernel
theorem dX2_comes_76 : decode cX2_comes 76 = .ok (.getfield 27, 3) := by decide +kernel
theorem dX2_comes_79 : decode cX2_comes 79 = .ok (.iload_n 1, 1) := by decide +kernel
theorem dX2_comes_80 : decode cX2_comes 80 = .ok (.dup2, 1) := by decide +kernel
theorem dX2_comes_81 : decode cX2_comes 81 = .ok (.iaload, 1) := by decide +kernel
theorem dX2_comes_82 : decode cX2_comes 82 = .ok (.iconst 1, 1) := by decide +kernel
theorem dX2_comes_83 : decode cX2_comes 83 = .ok (.iadd, 1) := by decide +kernel
theorem dX2_comes_84 : decode cX2_comes 84 = .ok (.iastore, 1) := by decide +kernel
theorem dX2_comes_85 : decode cX2_comes 85 = .ok (.aload_n 0, 1) := by decide +kernel
theorem dX2_comes_86 : decode cX2_comes 86 = .ok (.getfield 17, 3) := by decide +kernel
theorem dX2_comes_89 : decode cX2_comes 89 = .ok (.iload_n 1, 1) := by decide +kernel
theorem dX2_comes_90 : decode cX2_comes 90 = .ok (.lload 4, 2) := by decide +kernel
theorem dX2_comes_92 : decode cX2_comes 92 = .ok (.lastore, 1) := by decide +kernel
theorem dX2_comes_93 : decode cX2_comes 93 = .ok (.aload_n 0, 1) := by decide +kernel
theorem dX2_comes_94 : decode cX2_comes 94 = .ok (.getfield 30, 3) := by decide +kernel
theorem dX2_comes_97 : decode cX2_comes 97 = .ok (.iload_n 1, 1) := by decide +kernel
theorem dX2_comes_98 : decode cX2_comes 98 = .ok (.baload, 1) := by decide +kernel
theorem dX2_comes_99 : decode cX2_comes 99 = .ok (.ifCond .eq 23, 3) := by decide +kernel
theorem dX2_comes_102 : decode cX2_comes 102 = .ok (.lload 4, 2) := by decide +kernel
theorem dX2_comes_104 : decode cX2_comes 104 = .ok (.aload_n 0, 1) := by decide +kernel
theorem dX2_comes_105 : decode cX2_comes 105 = .ok (.getfield 33, 3) := by decide +kernel
theorem dX2_comes_108 : decode cX2_comes 108 = .ok (.iload_n 1, 1) := by decide +kernel
theorem dX2_comes_109 : decode cX2_comes 109 = .ok (.laload, 1) := by decide +kernel
theorem dX2_comes_110 : decode cX2_comes 110 = .ok (.aload_n 0, 1) := by decide +kernel
theorem dX2_comes_111 : decode cX2_comes 111 = .ok (.getfield 13, 3) := by decide +kernel
theorem dX2_comes_114 : decode cX2_comes 114 = .ok (.iload_n 1, 1) := by decide +kernel
theorem dX2_comes_115 : decode cX2_comes 115 = .ok (.iaload, 1) := by decide +kernel
theorem dX2_comes_116 : decode cX2_comes 116 = .ok (.invokestatic 95, 3) := by decide +kernel
theorem dX2_comes_119 : decode cX2_comes 119 = .ok (.ifCond .eq 11, 3) := by decide +kernel
theorem dX2_comes_122 : decode cX2_comes 122 = .ok (.aload_n 0, 1) := by decide +kernel
theorem dX2_comes_123 : decode cX2_comes 123 = .ok (.getfield 33, 3) := by decide +kernel
theorem dX2_comes_126 : decode cX2_comes 126 = .ok (.iload_n 1, 1) := by decide +kernel
theorem dX2_comes_127 : decode cX2_comes 127 = .ok (.lload 4, 2) := by decide +kernel
theorem dX2_comes_129 : decode cX2_comes 129 = .ok (.lastore, 1) := by decide +kernel
theorem dX2_comes_130 : decode cX2_comes 130 = .ok (.aload_n 0, 1) := by decide +kernel
theorem dX2_comes_131 : decode cX2_comes 131 = .ok (.getfield 30, 3) := by decide +kernel
theorem dX2_comes_134 : decode cX2_comes 134 = .ok (.iload_n 1, 1) := by decide +kernel
theorem dX2_comes_135 : decode cX2_comes 135 = .ok (.baload, 1) := by decide +kernel
theorem dX2_comes_136 : decode cX2_comes 136 = .ok (.ifCond .eq 23, 3) := by decide +kernel
theorem dX2_comes_139 : decode cX2_comes 139 = .ok (.aload_n 0, 1) := by decide +kernel
theorem dX2_comes_140 : decode cX2_comes 140 = .ok (.getfield 36, 3) := by decide +kernel
theorem dX2_comes_143 : decode cX2_comes 143 = .ok (.iload_n 1, 1) := by decide +kernel
theorem dX2_comes_144 : decode cX2_comes 144 = .ok (.laload, 1) := by decide +kernel
theorem dX2_comes_145 : decode cX2_comes 145 = .ok (.lload 4, 2) := by decide +kernel
theorem dX2_comes_147 : decode cX2_comes 147 = .ok (.aload_n 0, 1) := by decide +kernel
theorem dX2_comes_148 : decode cX2_comes 148 = .ok (.getfield 13, 3) := by decide +kernel
theorem dX2_comes_151 : decode cX2_comes 151 = .ok (.iload_n 1, 1) := by decide +kernel
theorem dX2_comes_152 : decode cX2_comes 152 = .ok (.iaload, 1) := by decide +kernel
theorem dX2_comes_153 : decode cX2_comes 153 = .ok (.invokestatic 95, 3) := by decide +kernel
theorem dX2_comes_156 : decode cX2_comes 156 = .ok (.ifCond .eq 11, 3) := by decide +kernel
theorem dX2_comes_159 : decode cX2_comes 159 = .ok (.aload_n 0, 1) := by decide +kernel
theorem dX2_comes_160 : decode cX2_comes 160 = .ok (.getfield 36, 3) := by decide +kernel
theorem dX2_comes_163 : decode cX2_comes 163 = .ok (.iload_n 1, 1) := by decide +kernel
theorem dX2_comes_164 : decode cX2_comes 164 = .ok (.lload 4, 2) := by decide +kernel
theorem dX2_comes_166 : decode cX2_comes 166 = .ok (.lastore, 1) := by decide +kernel
theorem dX2_comes_167 : decode cX2_comes 167 = .ok (.aload_n 0, 1) := by decide +kernel
theorem dX2_comes_168 : decode cX2_comes 168 = .ok (.getfield 30, 3) := by decide +kernel
theorem dX2_comes_171 : decode cX2_comes 171 = .ok (.iload_n 1, 1) := by decide +kernel
theorem dX2_comes_172 : decode cX2_comes 172 = .ok (.iconst 1, 1) := by decide +kernel
theorem dX2_comes_173 : decode cX2_comes 173 = .ok (.bastore, 1) := by decide +kernel
theorem dX2_comes_174 : decode cX2_comes 174 = .ok (.lload 4, 2) := by decide +kernel
theorem dX2_comes_176 : decode cX2_comes 176 = .ok (.lreturn, 1) := by decide +kernel
theorem dX2_top_0 : decode cX2_top 0 = .ok (.bipush 63, 2) := by decide +kernel
theorem dX2_top_2 : decode cX2_top 2 = .ok (.istore_n 2, 1) := by decide +kernel
theorem dX2_top_3 : decode cX2_top 3 = .ok (.iload_n 2, 1) := by decide +kernel
theorem dX2_top_4 : decode cX2_top 4 = .ok (.ifCond .le 19, 3) := by decide +kernel
theorem dX2_top_7 : decode cX2_top 7 = .ok (.lload_n 0, 1) := by decide +kernel
theorem dX2_top_8 : decode cX2_top 8 = .ok (.iload_n 2, 1) := by decide +kernel
theorem dX2_top_9 : decode cX2_top 9 = .ok (.lushr, 1) := by decide +kernel
theorem dX2_top_10 : decode cX2_top 10 = .ok (.lconst 1, 1) := by decide +kernel
theorem dX2_top_11 : decode cX2_top 11 = .ok (.land, 1) := by decide +kernel
theorem dX2_top_12 : decode cX2_top 12 = .ok (.lconst 0, 1) := by decide +kernel
theorem dX2_top_13 : decode cX2_top 13 = .ok (.lcmp, 1) := by decide +kernel
theorem dX2_top_14 : decode cX2_top 14 = .ok (.ifCond .ne 9, 3) := by decide +kernel
theorem dX2_top_17 : decode cX2_top 17 = .ok (.iinc 2 (-1), 3) := by decide +kernel
theorem dX2_top_20 : decode cX2_top 20 = .ok (.goto (-17), 3) := by decide +kernel
theorem dX2_top_23 : decode cX2_top 23 = .ok (.iload_n 2, 1) := by decide +kernel
theorem dX2_top_24 : decode cX2_top 24 = .ok (.ireturn, 1) := by decide +kernel
set_option maxRecDepth 20000 in
theorem ggX2_nearest_X2_top : GoodIn wsX2_nearest wsX2_top := goodIn_r _ [4] (by decide +kernel) (by decide +kernel)
set_option maxRecDepth 20000 in
theorem gX2_nearest_X2_top : GoodIn wsX2_nearest (va_wsS RX2 113 yX2_top wsX2_top) := goodIn_app (goodIn_of _ (by decide +kernel)) ggX2_nearest_X2_top
theorem dX2_nearest_0 : decode cX2_nearest 0 = .ok (.lload_n 0, 1) := by decide +kernel
theorem dX2_nearest_1 : decode cX2_nearest 1 = .ok (.lconst 0, 1) := by decide +kernel
theorem dX2_nearest_2 : decode cX2_nearest 2 = .ok (.lcmp, 1) := by decide +kernel
theorem dX2_nearest_3 : decode cX2_nearest 3 = .ok (.ifCond .ne 5, 3) := by decide +kernel
theorem dX2_nearest_6 : decode cX2_nearest 6 = .ok (.lconst 0, 1) := by decide +kernel
theorem dX2_nearest_7 : decode cX2_nearest 7 = .ok (.lreturn, 1) := by decide +kernel
theorem dX2_nearest_8 : decode cX2_nearest 8 = .ok (.lload_n 0, 1) := by decide +kernel
theorem dX2_nearest_9 : decode cX2_nearest 9 = .ok (.invokestatic 113, 3) := by decide +kernel
theorem dX2_nearest_12 : decode cX2_nearest 12 = .ok (.istore 4, 2) := by decide +kernel
theorem dX2_nearest_14 : decode cX2_nearest 14 = .ok (.iload 4, 2) := by decide +kernel
theorem dX2_nearest_16 : decode cX2_nearest 16 = .ok (.iload_n 2, 1) := by decide +kernel
theorem dX2_nearest_17 : decode cX2_nearest 17 = .ok (.if_icmp .gt 22, 3) := by decide +kernel
theorem dX2_nearest_20 : decode cX2_nearest 20 = .ok (.iload 4, 2) := by decide +kernel
theorem dX2_nearest_22 : decode cX2_nearest 22 = .ok (.iload_n 3, 1) := by decide +kernel
theorem dX2_nearest_23 : decode cX2_nearest 23 = .ok (.iadd, 1) := by decide +kernel
theorem dX2_nearest_24 : decode cX2_nearest 24 = .ok (.i2l, 1) := by decide +kernel
theorem dX2_nearest_25 : decode cX2_nearest 25 = .ok (.iload_n 2, 1) := by decide +kernel
theorem dX2_nearest_26 : decode cX2_nearest 26 = .ok (.lshl, 1) := by decide +kernel
theorem dX2_nearest_27 : decode cX2_nearest 27 = .ok (.lload_n 0, 1) := by decide +kernel
theorem dX2_nearest_28 : decode cX2_nearest 28 = .ok (.iload_n 2, 1) := by decide +kernel
theorem dX2_nearest_29 : decode cX2_nearest 29 = .ok (.iload 4, 2) := by decide +kernel
theorem dX2_nearest_31 : decode cX2_nearest 31 = .ok (.isub, 1) := by decide +kernel
theorem dX2_nearest_32 : decode cX2_nearest 32 = .ok (.lshl, 1) := by decide +kernel
theorem dX2_nearest_33 : decode cX2_nearest 33 = .ok (.ladd, 1) := by decide +kernel
theorem dX2_nearest_34 : decode cX2_nearest 34 = .ok (.lconst 1, 1) := by decide +kernel
theorem dX2_nearest_35 : decode cX2_nearest 35 = .ok (.iload_n 2, 1) := by decide +kernel
theorem dX2_nearest_36 : decode cX2_nearest 36 = .ok (.lshl, 1) := by decide +kernel
theorem dX2_nearest_37 : decode cX2_nearest 37 = .ok (.lsub, 1) := by decide +kernel
theorem dX2_nearest_38 : decode cX2_nearest 38 = .ok (.lreturn, 1) := by decide +kernel
theorem dX2_nearest_39 : decode cX2_nearest 39 = .ok (.iload 4, 2) := by decide +kernel
theorem dX2_nearest_41 : decode cX2_nearest 41 = .ok (.iload_n 2, 1) := by decide +kernel
theorem dX2_nearest_42 : decode cX2_nearest 42 = .ok (.isub, 1) := by decide +kernel
theorem dX2_nearest_43 : decode cX2_nearest 43 = .ok (.istore 5, 2) := by decide +kernel
theorem dX2_nearest_45 : decode cX2_nearest 45 = .ok (.lload_n 0, 1) := by decide +kernel
theorem dX2_nearest_46 : decode cX2_nearest 46 = .ok (.iload 5, 2) := by decide +kernel
theorem dX2_nearest_48 : decode cX2_nearest 48 = .ok (.lushr, 1) := by decide +kernel
theorem dX2_nearest_49 : decode cX2_nearest 49 = .ok (.lstore 6, 2) := by decide +kernel
theorem dX2_nearest_51 : decode cX2_nearest 51 = .ok (.lload_n 0, 1) := by decide +kernel
theorem dX2_nearest_52 : decode cX2_nearest 52 = .ok (.lload 6, 2) := by decide +kernel
theorem dX2_nearest_54 : decode cX2_nearest 54 = .ok (.iload 5, 2) := by decide +kernel
theorem dX2_nearest_56 : decode cX2_nearest 56 = .ok (.lshl, 1) := by decide +kernel
theorem dX2_nearest_57 : decode cX2_nearest 57 = .ok (.lsub, 1) := by decide +kernel
theorem dX2_nearest_58 : decode cX2_nearest 58 = .ok (.lstore 8, 2) := by decide +kernel
theorem dX2_nearest_60 : decode cX2_nearest 60 = .ok (.lconst 1, 1) := by decide +kernel
theorem dX2_nearest_61 : decode cX2_nearest 61 = .ok (.iload 5, 2) := by decide +kernel
theorem dX2_nearest_63 : decode cX2_nearest 63 = .ok (.iconst 1, 1) := by decide +kernel
theorem dX2_nearest_64 : decode cX2_nearest 64 = .ok (.isub, 1) := by decide +kernel
theorem dX2_nearest_65 : decode cX2_nearest 65 = .ok (.lshl, 1) := by decide +kernel
theorem dX2_nearest_66 : decode cX2_nearest 66 = .ok (.lstore 10, 2) := by decide +kernel
theorem dX2_nearest_68 : decode cX2_nearest 68 = .ok (.lload 8, 2) := by decide +kernel
theorem dX2_nearest_70 : decode cX2_nearest 70 = .ok (.lload 10, 2) := by decide +kernel
theorem dX2_nearest_72 : decode cX2_nearest 72 = .ok (.lcmp, 1) := by decide +kernel
theorem dX2_nearest_73 : decode cX2_nearest 73 = .ok (.ifCond .gt 20, 3) := by decide +kernel
theorem dX2_nearest_76 : decode cX2_nearest 76 = .ok (.lload 8, 2) := by decide +kernel
theorem dX2_nearest_78 : decode cX2_nearest 78 = .ok (.lload 10, 2) := by decide +kernel
theorem dX2_nearest_80 : decode cX2_nearest 80 = .ok (.lcmp, 1) := by decide +kernel
theorem dX2_nearest_81 : decode cX2_nearest 81 = .ok (.ifCond .ne 18, 3) := by decide +kernel
theorem dX2_nearest_84 : decode cX2_nearest 84 = .ok (.lload 6, 2) := by decide +kernel
theorem dX2_nearest_86 : decode cX2_nearest 86 = .ok (.lconst 1, 1) := by decide +kernel
theorem dX2_nearest_87 : decode cX2_nearest 87 = .ok (.land, 1) := by decide +kernel
theorem dX2_nearest_88 : decode cX2_nearest 88 = .ok (.lconst 1, 1) := by decide +kernel
theorem dX2_nearest_89 : decode cX2_nearest 89 = .ok (.lcmp, 1) := by decide +kernel
theorem dX2_nearest_90 : decode cX2_nearest 90 = .ok (.ifCond .ne 9, 3) := by decide +kernel
theorem dX2_nearest_93 : decode cX2_nearest 93 = .ok (.lload 6, 2) := by decide +kernel
theorem dX2_nearest_95 : decode cX2_nearest 95 = .ok (.lconst 1, 1) := by decide +kernel
theorem dX2_nearest_96 : decode cX2_nearest 96 = .ok (.ladd, 1) := by decide +kernel
theorem dX2_nearest_97 : decode cX2_nearest 97 = .ok (.lstore 6, 2) := by decide +kernel
theorem dX2_nearest_99 : decode cX2_nearest 99 = .ok (.iload 4, 2) := by decide +kernel
theorem dX2_nearest_101 : decode cX2_nearest 101 = .ok (.iload_n 3, 1) := by decide +kernel
theorem dX2_nearest_102 : decode cX2_nearest 102 = .ok (.iadd, 1) := by decide +kernel
theorem dX2_nearest_103 : decode cX2_nearest 103 = .ok (.i2l, 1) := by decide +kernel
theorem dX2_nearest_104 : decode cX2_nearest 104 = .ok (.iload_n 2, 1) := by decide +kernel
theorem dX2_nearest_105 : decode cX2_nearest 105 = .ok (.lshl, 1) := by decide +kernel
theorem dX2_nearest_106 : decode cX2_nearest 106 = .ok (.lload 6, 2) := by decide +kernel
theorem dX2_nearest_108 : decode cX2_nearest 108 = .ok (.ladd, 1) := by decide +kernel
theorem dX2_nearest_109 : decode cX2_nearest 109 = .ok (.lconst 1, 1) := by decide +kernel
theorem dX2_nearest_110 : decode cX2_nearest 110 = .ok (.iload_n 2, 1) := by decide +kernel
theorem dX2_nearest_111 : decode cX2_nearest 111 = .ok (.lshl, 1) := by decide +kernel
theorem dX2_nearest_112 : decode cX2_nearest 112 = .ok (.lsub, 1) := by decide +kernel
theorem dX2_nearest_113 : decode cX2_nearest 113 = .ok (.lreturn, 1) := by decide +kernel
set_option maxRecDepth 20000 in
theorem ggX2_asSingle_X2_nearest : GoodIn wsX2_asSingle wsX2_nearest := goodIn_r _ [5, 6, 7, 4, 8] (by decide +kernel) (by decide +kernel)
set_option maxRecDepth 20000 in
theorem gX2_asSingle_X2_nearest : GoodIn wsX2_asSingle (va_wsS RX2 117 yX2_nearest wsX2_nearest) := goodIn_app (goodIn_of _ (by decide +kernel)) ggX2_asSingle_X2_nearest
theorem dX2_asSingle_0 : decode cX2_asSingle 0 = .ok (.lload_n 0, 1) := by decide +kernel
theorem dX2_asSingle_1 : decode cX2_asSingle 1 = .ok (.lconst 0, 1) := by decide +kernel
theorem dX2_asSingle_2 : decode cX2_asSingle 2 = .ok (.lcmp, 1) := by decide +kernel
theorem dX2_asSingle_3 : decode cX2_asSingle 3 = .ok (.ifCond .ge 8, 3) := by decide +kernel
theorem dX2_asSingle_6 : decode cX2_asSingle 6 = .ok (.lload_n 0, 1) := by decide +kernel
theorem dX2_asSingle_7 : decode cX2_asSingle 7 = .ok (.lneg, 1) := by decide +kernel
theorem dX2_asSingle_8 : decode cX2_asSingle 8 = .ok (.goto 4, 3) := by decide +kernel
theorem dX2_asSingle_11 : decode cX2_asSingle 11 = .ok (.lload_n 0, 1) := by decide +kernel
theorem dX2_asSingle_12 : decode cX2_asSingle 12 = .ok (.bipush 23, 2) := by decide +kernel
theorem dX2_asSingle_14 : decode cX2_asSingle 14 = .ok (.bipush 127, 2) := by decide +kernel
theorem dX2_asSingle_16 : decode cX2_asSingle 16 = .ok (.invokestatic 117, 3) := by decide +kernel
theorem dX2_asSingle_19 : decode cX2_asSingle 19 = .ok (.lstore_n 2, 1) := by decide +kernel
theorem dX2_asSingle_20 : decode cX2_asSingle 20 = .ok (.lload_n 0, 1) := by decide +kernel
theorem dX2_asSingle_21 : decode cX2_asSingle 21 = .ok (.lconst 0, 1) := by decide +kernel
theorem dX2_asSingle_22 : decode cX2_asSingle 22 = .ok (.lcmp, 1) := by decide +kernel
theorem dX2_asSingle_23 : decode cX2_asSingle 23 = .ok (.ifCond .ge 11, 3) := by decide +kernel
theorem dX2_asSingle_26 : decode cX2_asSingle 26 = .ok (.lload_n 2, 1) := by decide +kernel
theorem dX2_asSingle_27 : decode cX2_asSingle 27 = .ok (.ldc2_w 87, 3) := by decide +kernel
theorem dX2_asSingle_30 : decode cX2_asSingle 30 = .ok (.lsub, 1) := by decide +kernel
theorem dX2_asSingle_31 : decode cX2_asSingle 31 = .ok (.goto 4, 3) := by decide +kernel
theorem dX2_asSingle_34 : decode cX2_asSingle 34 = .ok (.lload_n 2, 1) := by decide +kernel
theorem dX2_asSingle_35 : decode cX2_asSingle 35 = .ok (.lreturn, 1) := by decide +kernel
set_option maxRecDepth 20000 in
theorem ggX2_asDouble_X2_nearest : GoodIn wsX2_asDouble wsX2_nearest := goodIn_r _ [5, 6, 7, 4, 8] (by decide +kernel) (by decide +kernel)
set_option maxRecDepth 20000 in
theorem gX2_asDouble_X2_nearest : GoodIn wsX2_asDouble (va_wsS RX2 117 yX2_nearest wsX2_nearest) := goodIn_app (goodIn_of _ (by decide +kernel)) ggX2_asDouble_X2_nearest
theorem dX2_asDouble_0 : decode cX2_asDouble 0 = .ok (.lload_n 0, 1) := by decide +kernel
theorem dX2_asDouble_1 : decode cX2_asDouble 1 = .ok (.lconst 0, 1) := by decide +kernel
theorem dX2_asDouble_2 : decode cX2_asDouble 2 = .ok (.lcmp, 1) := by decide +kernel
theorem dX2_asDouble_3 : decode cX2_asDouble 3 = .ok (.ifCond .ge 8, 3) := by decide +kernel
theorem dX2_asDouble_6 : decode cX2_asDouble 6 = .ok (.lload_n 0, 1) := by decide +kernel
theorem dX2_asDouble_7 : decode cX2_asDouble 7 = .ok (.lneg, 1) := by decide +kernel
theorem dX2_asDouble_8 : decode cX2_asDouble 8 = .ok (.goto 4, 3) := by decide +kernel
theorem dX2_asDouble_11 : decode cX2_asDouble 11 = .ok (.lload_n 0, 1) := by decide +kernel
theorem dX2_asDouble_12 : decode cX2_asDouble 12 = .ok (.bipush 52, 2) := by decide +kernel
theorem dX2_asDouble_14 : decode cX2_asDouble 14 = .ok (.sipush 1023, 3) := by decide +kernel
theorem dX2_asDouble_17 : decode cX2_asDouble 17 = .ok (.invokestatic 117, 3) := by decide +kernel
theorem dX2_asDouble_20 : decode cX2_asDouble 20 = .ok (.lstore_n 2, 1) := by decide +kernel
theorem dX2_asDouble_21 : decode cX2_asDouble 21 = .ok (.lload_n 0, 1) := by decide +kernel
theorem dX2_asDouble_22 : decode cX2_asDouble 22 = .ok (.lconst 0, 1) := by decide +kernel
theorem dX2_asDouble_23 : decode cX2_asDouble 23 = .ok (.lcmp, 1) := by decide +kernel
theorem dX2_asDouble_24 : decode cX2_asDouble 24 = .ok (.ifCond .ge 11, 3) := by decide +kernel
theorem dX2_asDouble_27 : decode cX2_asDouble 27 = .ok (.lload_n 2, 1) := by decide +kernel
theorem dX2_asDouble_28 : decode cX2_asDouble 28 = .ok (.ldc2_w 89, 3) := by decide +kernel
theorem dX2_asDouble_31 : decode cX2_asDouble 31 = .ok (.lor, 1) := by decide +kernel
theorem dX2_asDouble_32 : decode cX2_asDouble 32 = .ok (.goto 4, 3) := by decide +kernel
theorem dX2_asDouble_35 : decode cX2_asDouble 35 = .ok (.lload_n 2, 1) := by decide +kernel
theorem dX2_asDouble_36 : decode cX2_asDouble 36 = .ok (.lreturn, 1) := by decide +kernel
set_option maxRecDepth 20000 in
theorem ggX2_widened_X2_top : GoodIn wsX2_widened wsX2_top := goodIn_r _ [11] (by decide +kernel) (by decide +kernel)
set_option maxRecDepth 20000 in
theorem gX2_widened_X2_top : GoodIn wsX2_widened (va_wsS RX2 113 yX2_top wsX2_top) := goodIn_app (goodIn_of _ (by decide +kernel)) ggX2_widened_X2_top
theorem dX2_widened_0 : decode cX2_widened 0 = .ok (.lload_n 0, 1) := by decide +kernel
theorem dX2_widened_1 : decode cX2_widened 1 = .ok (.ldc2_w 55, 3) := by decide +kernel
theorem dX2_widened_4 : decode cX2_widened 4 = .ok (.land, 1) := by decide +kernel
theorem dX2_widened_5 : decode cX2_widened 5 = .ok (.lstore_n 2, 1) := by decide +kernel
theorem dX2_widened_6 : decode cX2_widened 6 = .ok (.lload_n 0, 1) := by decide +kernel
theorem dX2_widened_7 : decode cX2_widened 7 = .ok (.lconst 0, 1) := by decide +kernel
theorem dX2_widened_8 : decode cX2_widened 8 = .ok (.lcmp, 1) := by decide +kernel
theorem dX2_widened_9 : decode cX2_widened 9 = .ok (.ifCond .ge 9, 3) := by decide +kernel
theorem dX2_widened_12 : decode cX2_widened 12 = .ok (.ldc2_w 89, 3) := by decide +kernel
theorem dX2_widened_15 : decode cX2_widened 15 = .ok (.goto 4, 3) := by decide +kernel
theorem dX2_widened_18 : decode cX2_widened 18 = .ok (.lconst 0, 1) := by decide +kernel
theorem dX2_widened_19 : decode cX2_widened 19 = .ok (.lstore 4, 2) := by decide +kernel
theorem dX2_widened_21 : decode cX2_widened 21 = .ok (.lload_n 2, 1) := by decide +kernel
theorem dX2_widened_22 : decode cX2_widened 22 = .ok (.bipush 23, 2) := by decide +kernel
theorem dX2_widened_24 : decode cX2_widened 24 = .ok (.lshr, 1) := by decide +kernel
theorem dX2_widened_25 : decode cX2_widened 25 = .ok (.lstore 6, 2) := by decide +kernel
theorem dX2_widened_27 : decode cX2_widened 27 = .ok (.lload_n 2, 1) := by decide +kernel
theorem dX2_widened_28 : decode cX2_widened 28 = .ok (.ldc2_w 121, 3) := by decide +kernel
theorem dX2_widened_31 : decode cX2_widened 31 = .ok (.land, 1) := by decide +kernel
theorem dX2_widened_32 : decode cX2_widened 32 = .ok (.lstore 8, 2) := by decide +kernel
theorem dX2_widened_34 : decode cX2_widened 34 = .ok (.lload 6, 2) := by decide +kernel
theorem dX2_widened_36 : decode cX2_widened 36 = .ok (.ldc2_w 123, 3) := by decide +kernel
theorem dX2_widened_39 : decode cX2_widened 39 = .ok (.lcmp, 1) := by decide +kernel
theorem dX2_widened_40 : decode cX2_widened 40 = .ok (.ifCond .ne 10, 3) := by decide +kernel
theorem dX2_widened_43 : decode cX2_widened 43 = .ok (.lload 4, 2) := by decide +kernel
theorem dX2_widened_45 : decode cX2_widened 45 = .ok (.ldc2_w 61, 3) := by decide +kernel
theorem dX2_widened_48 : decode cX2_widened 48 = .ok (.lor, 1) := by decide +kernel
theorem dX2_widened_49 : decode cX2_widened 49 = .ok (.lreturn, 1) := by decide +kernel
theorem dX2_widened_50 : decode cX2_widened 50 = .ok (.lload_n 2, 1) := by decide +kernel
theorem dX2_widened_51 : decode cX2_widened 51 = .ok (.lconst 0, 1) := by decide +kernel
theorem dX2_widened_52 : decode cX2_widened 52 = .ok (.lcmp, 1) := by decide +kernel
theorem dX2_widened_53 : decode cX2_widened 53 = .ok (.ifCond .ne 6, 3) := by decide +kernel
theorem dX2_widened_56 : decode cX2_widened 56 = .ok (.lload 4, 2) := by decide +kernel
theorem dX2_widened_58 : decode cX2_widened 58 = .ok (.lreturn, 1) := by decide +kernel
theorem dX2_widened_59 : decode cX2_widened 59 = .ok (.lload 6, 2) := by decide +kernel
theorem dX2_widened_61 : decode cX2_widened 61 = .ok (.lconst 0, 1) := by decide +kernel
theorem dX2_widened_62 : decode cX2_widened 62 = .ok (.lcmp, 1) := by decide +kernel
theorem dX2_widened_63 : decode cX2_widened 63 = .ok (.ifCond .le 22, 3) := by decide +kernel
theorem dX2_widened_66 : decode cX2_widened 66 = .ok (.lload 4, 2) := by decide +kernel
theorem dX2_widened_68 : decode cX2_widened 68 = .ok (.lload 6, 2) := by decide +kernel
theorem dX2_widened_70 : decode cX2_widened 70 = .ok (.ldc2_w 125, 3) := by decide +kernel
theorem dX2_widened_73 : decode cX2_widened 73 = .ok (.ladd, 1) := by decide +kernel
theorem dX2_widened_74 : decode cX2_widened 74 = .ok (.bipush 52, 2) := by decide +kernel
theorem dX2_widened_76 : decode cX2_widened 76 = .ok (.lshl, 1) := by decide +kernel
theorem dX2_widened_77 : decode cX2_widened 77 = .ok (.lload 8, 2) := by decide +kernel
theorem dX2_widened_79 : decode cX2_widened 79 = .ok (.bipush 29, 2) := by decide +kernel
theorem dX2_widened_81 : decode cX2_widened 81 = .ok (.lshl, 1) := by decide +kernel
theorem dX2_widened_82 : decode cX2_widened 82 = .ok (.ladd, 1) := by decide +kernel
theorem dX2_widened_83 : decode cX2_widened 83 = .ok (.lor, 1) := by decide +kernel
theorem dX2_widened_84 : decode cX2_widened 84 = .ok (.lreturn, 1) := by decide +kernel
theorem dX2_widened_85 : decode cX2_widened 85 = .ok (.lload 8, 2) := by decide +kernel
theorem dX2_widened_87 : decode cX2_widened 87 = .ok (.invokestatic 113, 3) := by decide +kernel
theorem dX2_widened_90 : decode cX2_widened 90 = .ok (.istore 10, 2) := by decide +kernel
theorem dX2_widened_92 : decode cX2_widened 92 = .ok (.lload 4, 2) := by decide +kernel
theorem dX2_widened_94 : decode cX2_widened 94 = .ok (.iload 10, 2) := by decide +kernel
theorem dX2_widened_96 : decode cX2_widened 96 = .ok (.sipush 874, 3) := by decide +kernel
theorem dX2_widened_99 : decode cX2_widened 99 = .ok (.iadd, 1) := by decide +kernel
theorem dX2_widened_100 : decode cX2_widened 100 = .ok (.i2l, 1) := by decide +kernel
theorem dX2_widened_101 : decode cX2_widened 101 = .ok (.bipush 52, 2) := by decide +kernel
theorem dX2_widened_103 : decode cX2_widened 103 = .ok (.lshl, 1) := by decide +kernel
theorem dX2_widened_104 : decode cX2_widened 104 = .ok (.lload 8, 2) := by decide +kernel
theorem dX2_widened_106 : decode cX2_widened 106 = .ok (.bipush 52, 2) := by decide +kernel
theorem dX2_widened_108 : decode cX2_widened 108 = .ok (.iload 10, 2) := by decide +kernel
theorem dX2_widened_110 : decode cX2_widened 110 = .ok (.isub, 1) := by decide +kernel
theorem dX2_widened_111 : decode cX2_widened 111 = .ok (.lshl, 1) := by decide +kernel
theorem dX2_widened_112 : decode cX2_widened 112 = .ok (.ladd, 1) := by decide +kernel
theorem dX2_widened_113 : decode cX2_widened 113 = .ok (.ldc2_w 127, 3) := by decide +kernel
theorem dX2_widened_116 : decode cX2_widened 116 = .ok (.lsub, 1) := by decide +kernel
theorem dX2_widened_117 : decode cX2_widened 117 = .ok (.lor, 1) := by decide +kernel
theorem dX2_widened_118 : decode cX2_widened 118 = .ok (.lreturn, 1) := by decide +kernel
set_option maxRecDepth 20000 in
theorem ggX2_handed_X2_widened : GoodIn wsX2_handed wsX2_widened := goodIn_r _ [4, 5, 6, 7, 8, 9, 10, 11, 12, 13, 3, 14] (by decide +kernel) (by decide +kernel)
set_option maxRecDepth 20000 in
theorem gX2_handed_X2_widened : GoodIn wsX2_handed (va_wsS RX2 129 yX2_widened wsX2_widened) := goodIn_app (goodIn_of _ (by decide +kernel)) ggX2_handed_X2_widened
set_option maxRecDepth 20000 in
theorem ggX2_handed_X2_asSingle : GoodIn wsX2_handed wsX2_asSingle := goodIn_r _ [17, 18, 19, 20, 3, 21, 12, 13, 14] (by decide +kernel) (by decide +kernel)
set_option maxRecDepth 20000 in
theorem gX2_handed_X2_asSingle : GoodIn wsX2_handed (va_wsS RX2 133 yX2_asSingle wsX2_asSingle) := goodIn_app (goodIn_of _ (by decide +kernel)) ggX2_handed_X2_asSingle
set_option maxRecDepth 20000 in
theorem ggX2_handed_X2_asDouble : GoodIn wsX2_handed wsX2_asDouble := goodIn_r _ [24, 6, 19, 20, 3, 21, 12, 13, 14] (by decide +kernel) (by decide +kernel)
set_option maxRecDepth 20000 in
theorem gX2_handed_X2_asDouble : GoodIn wsX2_handed (va_wsS RX2 136 yX2_asDouble wsX2_asDouble) := goodIn_app (goodIn_of _ (by decide +kernel)) ggX2_handed_X2_asDouble
theorem dX2_handed_0 : decode cX2_handed 0 = .ok (.iload_n 2, 1) := by decide +kernel
theorem dX2_handed_1 : decode cX2_handed 1 = .ok (.iload_n 3, 1) := by decide +kernel
theorem dX2_handed_2 : decode cX2_handed 2 = .ok (.if_icmp .eq 8, 3) := by decide +kernel
theorem dX2_handed_5 : decode cX2_handed 5 = .ok (.iload_n 3, 1) := by decide +kernel
theorem dX2_handed_6 : decode cX2_handed 6 = .ok (.iconst 1, 1) := by decide +kernel
theorem dX2_handed_7 : decode cX2_handed 7 = .ok (.if_icmp .ne 5, 3) := by decide +kernel
theorem dX2_handed_10 : decode cX2_handed 10 = .ok (.lload_n 0, 1) := by decide +kernel
theorem dX2_handed_11 : decode cX2_handed 11 = .ok (.lreturn, 1) := by decide +kernel
theorem dX2_handed_12 : decode cX2_handed 12 = .ok (.iload_n 2, 1) := by decide +kernel
theorem dX2_handed_13 : decode cX2_handed 13 = .ok (.iconst 2, 1) := by decide +kernel
theorem dX2_handed_14 : decode cX2_handed 14 = .ok (.if_icmp .ne 8, 3) := by decide +kernel
theorem dX2_handed_17 : decode cX2_handed 17 = .ok (.lload_n 0, 1) := by decide +kernel
theorem dX2_handed_18 : decode cX2_handed 18 = .ok (.invokestatic 129, 3) := by decide +kernel
theorem dX2_handed_21 : decode cX2_handed 21 = .ok (.lreturn, 1) := by decide +kernel
theorem dX2_handed_22 : decode cX2_handed 22 = .ok (.iload_n 3, 1) := by decide +kernel
theorem dX2_handed_23 : decode cX2_handed 23 = .ok (.iconst 2, 1) := by decide +kernel
theorem dX2_handed_24 : decode cX2_handed 24 = .ok (.if_icmp .ne 10, 3) := by decide +kernel
theorem dX2_handed_27 : decode cX2_handed 27 = .ok (.lload_n 0, 1) := by decide +kernel
theorem dX2_handed_28 : decode cX2_handed 28 = .ok (.invokestatic 133, 3) := by decide +kernel
theorem dX2_handed_31 : decode cX2_handed 31 = .ok (.goto 7, 3) := by decide +kernel
theorem dX2_handed_34 : decode cX2_handed 34 = .ok (.lload_n 0, 1) := by decide +kernel
theorem dX2_handed_35 : decode cX2_handed 35 = .ok (.invokestatic 136, 3) := by decide +kernel
theorem dX2_handed_38 : decode cX2_handed 38 = .ok (.lreturn, 1) := by decide +kernel
set_option maxRecDepth 20000 in
theorem ggX2_fit_X2_takers : GoodIn wsX2_fit wsX2_takers := goodIn_r _ [13, 2, 14, 15, 16, 12, 17, 5, 18, 19, 24, 25, 26, 27, 28, 29, 30, 31, 32, 33, 34, 35, 36, 37] (by decide +kernel) (by decide +kernel)
set_option maxRecDepth 20000 in
theorem gX2_fit_X2_takers : GoodIn wsX2_fit (wsV RX2 139 RX2 yX2_takers wsX2_takers) := goodIn_app (goodIn_of _ (by decide +kernel)) ggX2_fit_X2_takers
set_option maxRecDepth 20000 in
theorem ggX2_fit_X2_ownTakers : GoodIn wsX2_fit wsX2_ownTakers := goodIn_r _ [23, 14, 15, 16, 12, 17, 5, 18, 19, 24, 25, 26, 27, 28, 29, 30, 31, 32, 33, 34, 35, 36, 37] (by decide +kernel) (by decide +kernel)
set_option maxRecDepth 20000 in
theorem gX2_fit_X2_ownTakers : GoodIn wsX2_fit (wsV RX2 143 RX2 yX2_ownTakers wsX2_ownTakers) := goodIn_app (goodIn_of _ (by decide +kernel)) ggX2_fit_X2_ownTakers
theorem dX2_fit_0 : decode cX2_fit 0 = .ok (.aload_n 0, 1) := by decide +kernel
theorem dX2_fit_1 : decode cX2_fit 1 = .ok (.iconst 0, 1) := by decide +kernel
theorem dX2_fit_2 : decode cX2_fit 2 = .ok (.putfield 51, 3) := by decide +kernel
theorem dX2_fit_5 : decode cX2_fit 5 = .ok (.iload_n 1, 1) := by decide +kernel
theorem dX2_fit_6 : decode cX2_fit 6 = .ok (.ifCond .lt 9, 3) := by decide +kernel
theorem dX2_fit_9 : decode cX2_fit 9 = .ok (.iload_n 1, 1) := by decide +kernel
theorem dX2_fit_10 : decode cX2_fit 10 = .ok (.bipush 11, 2) := by decide +kernel
theorem dX2_fit_12 : decode cX2_fit 12 = .ok (.if_icmp .le 10, 3) := by decide +kernel
theorem dX2_fit_15 : decode cX2_fit 15 = .ok (.aload_n 0, 1) := by decide +kernel
theorem dX2_fit_16 : decode cX2_fit 16 = .ok (.iconst 1, 1) := by decide +kernel
theorem dX2_fit_17 : decode cX2_fit 17 = .ok (.putfield 51, 3) := by decide +kernel
theorem dX2_fit_20 : decode cX2_fit 20 = .ok (.iconst 0, 1) := by decide +kernel
theorem dX2_fit_21 : decode cX2_fit 21 = .ok (.ireturn, 1) := by decide +kernel
theorem dX2_fit_22 : decode cX2_fit 22 = .ok (.iload_n 2, 1) := by decide +kernel
theorem dX2_fit_23 : decode cX2_fit 23 = .ok (.ifCond .lt 8, 3) := by decide +kernel
theorem dX2_fit_26 : decode cX2_fit 26 = .ok (.iload_n 2, 1) := by decide +kernel
theorem dX2_fit_27 : decode cX2_fit 27 = .ok (.iconst 3, 1) := by decide +kernel
theorem dX2_fit_28 : decode cX2_fit 28 = .ok (.if_icmp .le 10, 3) := by decide +kernel
theorem dX2_fit_31 : decode cX2_fit 31 = .ok (.aload_n 0, 1) := by decide +kernel
theorem dX2_fit_32 : decode cX2_fit 32 = .ok (.iconst 2, 1) := by decide +kernel
theorem dX2_fit_33 : decode cX2_fit 33 = .ok (.putfield 51, 3) := by decide +kernel
theorem dX2_fit_36 : decode cX2_fit 36 = .ok (.iconst 0, 1) := by decide +kernel
theorem dX2_fit_37 : decode cX2_fit 37 = .ok (.ireturn, 1) := by decide +kernel
theorem dX2_fit_38 : decode cX2_fit 38 = .ok (.aload_n 0, 1) := by decide +kernel
theorem dX2_fit_39 : decode cX2_fit 39 = .ok (.getfield 7, 3) := by decide +kernel
theorem dX2_fit_42 : decode cX2_fit 42 = .ok (.iload_n 1, 1) := by decide +kernel
theorem dX2_fit_43 : decode cX2_fit 43 = .ok (.baload, 1) := by decide +kernel
theorem dX2_fit_44 : decode cX2_fit 44 = .ok (.ifCond .eq 33, 3) := by decide +kernel
theorem dX2_fit_47 : decode cX2_fit 47 = .ok (.aload_n 0, 1) := by decide +kernel
theorem dX2_fit_48 : decode cX2_fit 48 = .ok (.getfield 13, 3) := by decide +kernel
theorem dX2_fit_51 : decode cX2_fit 51 = .ok (.iload_n 1, 1) := by decide +kernel
theorem dX2_fit_52 : decode cX2_fit 52 = .ok (.iaload, 1) := by decide +kernel
theorem dX2_fit_53 : decode cX2_fit 53 = .ok (.iload_n 2, 1) := by decide +kernel
theorem dX2_fit_54 : decode cX2_fit 54 = .ok (.if_icmp .eq 23, 3) := by decide +kernel
theorem dX2_fit_57 : decode cX2_fit 57 = .ok (.aload_n 0, 1) := by decide +kernel
theorem dX2_fit_58 : decode cX2_fit 58 = .ok (.iload_n 1, 1) := by decide +kernel
theorem dX2_fit_59 : decode cX2_fit 59 = .ok (.invokevirtual 139, 3) := by decide +kernel
theorem dX2_fit_62 : decode cX2_fit 62 = .ok (.aload_n 0, 1) := by decide +kernel
theorem dX2_fit_63 : decode cX2_fit 63 = .ok (.iload_n 1, 1) := by decide +kernel
theorem dX2_fit_64 : decode cX2_fit 64 = .ok (.invokevirtual 143, 3) := by decide +kernel
theorem dX2_fit_67 : decode cX2_fit 67 = .ok (.if_icmp .le 10, 3) := by decide +kernel
theorem dX2_fit_70 : decode cX2_fit 70 = .ok (.aload_n 0, 1) := by decide +kernel
theorem dX2_fit_71 : decode cX2_fit 71 = .ok (.iconst 3, 1) := by decide +kernel
theorem dX2_fit_72 : decode cX2_fit 72 = .ok (.putfield 51, 3) := by decide +kernel
theorem dX2_fit_75 : decode cX2_fit 75 = .ok (.iconst 0, 1) := by decide +kernel
theorem dX2_fit_76 : decode cX2_fit 76 = .ok (.ireturn, 1) := by decide +kernel
theorem dX2_fit_77 : decode cX2_fit 77 = .ok (.aload_n 0, 1) := by decide +kernel
theorem dX2_fit_78 : decode cX2_fit 78 = .ok (.getfield 7, 3) := by decide +kernel
theorem dX2_fit_81 : decode cX2_fit 81 = .ok (.iload_n 1, 1) := by decide +kernel
theorem dX2_fit_82 : decode cX2_fit 82 = .ok (.baload, 1) := by decide +kernel
theorem dX2_fit_83 : decode cX2_fit 83 = .ok (.istore_n 3, 1) := by decide +kernel
theorem dX2_fit_84 : decode cX2_fit 84 = .ok (.aload_n 0, 1) := by decide +kernel
theorem dX2_fit_85 : decode cX2_fit 85 = .ok (.getfield 7, 3) := by decide +kernel
theorem dX2_fit_88 : decode cX2_fit 88 = .ok (.iload_n 1, 1) := by decide +kernel
theorem dX2_fit_89 : decode cX2_fit 89 = .ok (.iconst 1, 1) := by decide +kernel
theorem dX2_fit_90 : decode cX2_fit 90 = .ok (.bastore, 1) := by decide +kernel
theorem dX2_fit_91 : decode cX2_fit 91 = .ok (.aload_n 0, 1) := by decide +kernel
theorem dX2_fit_92 : decode cX2_fit 92 = .ok (.getfield 13, 3) := by decide +kernel
theorem dX2_fit_95 : decode cX2_fit 95 = .ok (.iload_n 1, 1) := by decide +kernel
theorem dX2_fit_96 : decode cX2_fit 96 = .ok (.iload_n 2, 1) := by decide +kernel
theorem dX2_fit_97 : decode cX2_fit 97 = .ok (.iastore, 1) := by decide +kernel
theorem dX2_fit_98 : decode cX2_fit 98 = .ok (.aload_n 0, 1) := by decide +kernel
theorem dX2_fit_99 : decode cX2_fit 99 = .ok (.getfield 17, 3) := by decide +kernel
theorem dX2_fit_102 : decode cX2_fit 102 = .ok (.iload_n 1, 1) := by decide +kernel
theorem dX2_fit_103 : decode cX2_fit 103 = .ok (.lconst 0, 1) := by decide +kernel
theorem dX2_fit_104 : decode cX2_fit 104 = .ok (.lastore, 1) := by decide +kernel
theorem dX2_fit_105 : decode cX2_fit 105 = .ok (.aload_n 0, 1) := by decide +kernel
theorem dX2_fit_106 : decode cX2_fit 106 = .ok (.getfield 21, 3) := by decide +kernel
theorem dX2_fit_109 : decode cX2_fit 109 = .ok (.iload_n 1, 1) := by decide +kernel
theorem dX2_fit_110 : decode cX2_fit 110 = .ok (.iconst 0, 1) := by decide +kernel
theorem dX2_fit_111 : decode cX2_fit 111 = .ok (.iastore, 1) := by decide +kernel
theorem dX2_fit_112 : decode cX2_fit 112 = .ok (.aload_n 0, 1) := by decide +kernel
theorem dX2_fit_113 : decode cX2_fit 113 = .ok (.getfield 24, 3) := by decide +kernel
theorem dX2_fit_116 : decode cX2_fit 116 = .ok (.iload_n 1, 1) := by decide +kernel
theorem dX2_fit_117 : decode cX2_fit 117 = .ok (.iconst 0, 1) := by decide +kernel
theorem dX2_fit_118 : decode cX2_fit 118 = .ok (.iastore, 1) := by decide +kernel
theorem dX2_fit_119 : decode cX2_fit 119 = .ok (.aload_n 0, 1) := by decide +kernel
theorem dX2_fit_120 : decode cX2_fit 120 = .ok (.getfield 27, 3) := by decide +kernel
theorem dX2_fit_123 : decode cX2_fit 123 = .ok (.iload_n 1, 1) := by decide +kernel
theorem dX2_fit_124 : decode cX2_fit 124 = .ok (.iconst 0, 1) := by decide +kernel
theorem dX2_fit_125 : decode cX2_fit 125 = .ok (.iastore, 1) := by decide +kernel
theorem dX2_fit_126 : decode cX2_fit 126 = .ok (.aload_n 0, 1) := by decide +kernel
theorem dX2_fit_127 : decode cX2_fit 127 = .ok (.getfield 30, 3) := by decide +kernel
theorem dX2_fit_130 : decode cX2_fit 130 = .ok (.iload_n 1, 1) := by decide +kernel
theorem dX2_fit_131 : decode cX2_fit 131 = .ok (.iconst 0, 1) := by decide +kernel
theorem dX2_fit_132 : decode cX2_fit 132 = .ok (.bastore, 1) := by decide +kernel
theorem dX2_fit_133 : decode cX2_fit 133 = .ok (.iload_n 3, 1) := by decide +kernel
theorem dX2_fit_134 : decode cX2_fit 134 = .ok (.ireturn, 1) := by decide +kernel
theorem dX2_takersIn_0 : decode cX2_takersIn 0 = .ok (.iconst 0, 1) := by decide +kernel
theorem dX2_takersIn_1 : decode cX2_takersIn 1 = .ok (.istore_n 3, 1) := by decide +kernel
theorem dX2_takersIn_2 : decode cX2_takersIn 2 = .ok (.iconst 0, 1) := by decide +kernel
theorem dX2_takersIn_3 : decode cX2_takersIn 3 = .ok (.istore 4, 2) := by decide +kernel
theorem dX2_takersIn_5 : decode cX2_takersIn 5 = .ok (.iload 4, 2) := by decide +kernel
theorem dX2_takersIn_7 : decode cX2_takersIn 7 = .ok (.aload_n 0, 1) := by decide +kernel
theorem dX2_takersIn_8 : decode cX2_takersIn 8 = .ok (.getfield 21, 3) := by decide +kernel
theorem dX2_takersIn_11 : decode cX2_takersIn 11 = .ok (.iload_n 1, 1) := by decide +kernel
theorem dX2_takersIn_12 : decode cX2_takersIn 12 = .ok (.iaload, 1) := by decide +kernel
theorem dX2_takersIn_13 : decode cX2_takersIn 13 = .ok (.if_icmp .ge 44, 3) := by decide +kernel
theorem dX2_takersIn_16 : decode cX2_takersIn 16 = .ok (.aload_n 0, 1) := by decide +kernel
theorem dX2_takersIn_17 : decode cX2_takersIn 17 = .ok (.getfield 42, 3) := by decide +kernel
theorem dX2_takersIn_20 : decode cX2_takersIn 20 = .ok (.bipush 8, 2) := by decide +kernel
theorem dX2_takersIn_22 : decode cX2_takersIn 22 = .ok (.iload_n 1, 1) := by decide +kernel
theorem dX2_takersIn_23 : decode cX2_takersIn 23 = .ok (.imul, 1) := by decide +kernel
theorem dX2_takersIn_24 : decode cX2_takersIn 24 = .ok (.iload 4, 2) := by decide +kernel
theorem dX2_takersIn_26 : decode cX2_takersIn 26 = .ok (.iadd, 1) := by decide +kernel
theorem dX2_takersIn_27 : decode cX2_takersIn 27 = .ok (.iaload, 1) := by decide +kernel
theorem dX2_takersIn_28 : decode cX2_takersIn 28 = .ok (.iconst 2, 1) := by decide +kernel
theorem dX2_takersIn_29 : decode cX2_takersIn 29 = .ok (.if_icmp .ne 22, 3) := by decide +kernel
theorem dX2_takersIn_32 : decode cX2_takersIn 32 = .ok (.aload_n 0, 1) := by decide +kernel
theorem dX2_takersIn_33 : decode cX2_takersIn 33 = .ok (.getfield 48, 3) := by decide +kernel
theorem dX2_takersIn_36 : decode cX2_takersIn 36 = .ok (.bipush 8, 2) := by decide +kernel
theorem dX2_takersIn_38 : decode cX2_takersIn 38 = .ok (.iload_n 1, 1) := by decide +kernel
theorem dX2_takersIn_39 : decode cX2_takersIn 39 = .ok (.imul, 1) := by decide +kernel
theorem dX2_takersIn_40 : decode cX2_takersIn 40 = .ok (.iload 4, 2) := by decide +kernel
theorem dX2_takersIn_42 : decode cX2_takersIn 42 = .ok (.iadd, 1) := by decide +kernel
theorem dX2_takersIn_43 : decode cX2_takersIn 43 = .ok (.iaload, 1) := by decide +kernel
theorem dX2_takersIn_44 : decode cX2_takersIn 44 = .ok (.iload_n 2, 1) := by decide +kernel
theorem dX2_takersIn_45 : decode cX2_takersIn 45 = .ok (.if_icmp .ne 6, 3) := by decide +kernel
theorem dX2_takersIn_48 : decode cX2_takersIn 48 = .ok (.iinc 3 1, 3) := by decide +kernel
theorem dX2_takersIn_51 : decode cX2_takersIn 51 = .ok (.iinc 4 1, 3) := by decide +kernel
theorem dX2_takersIn_54 : decode cX2_takersIn 54 = .ok (.goto (-49), 3) := by decide +kernel
theorem dX2_takersIn_57 : decode cX2_takersIn 57 = .ok (.iload_n 3, 1) := by decide +kernel
theorem dX2_takersIn_58 : decode cX2_takersIn 58 = .ok (.ireturn, 1) := by decide +kernel
set_option maxRecDepth 20000 in
theorem ggX2_takers_X2_takersIn : GoodIn wsX2_takers wsX2_takersIn := goodIn_r _ [6, 7, 8, 9, 10, 11, 12, 13, 14, 15, 16, 17, 18, 19, 20, 21, 22, 23] (by decide +kernel) (by decide +kernel)
set_option maxRecDepth 20000 in
theorem gX2_takers_X2_takersIn : GoodIn wsX2_takers (wsV RX2 146 RX2 yX2_takersIn wsX2_takersIn) := goodIn_app (goodIn_of _ (by decide +kernel)) ggX2_takers_X2_takersIn
theorem dX2_takers_0 : decode cX2_takers 0 = .ok (.iconst 0, 1) := by decide +kernel
theorem dX2_takers_1 : decode cX2_takers 1 = .ok (.istore_n 2, 1) := by decide +kernel
theorem dX2_takers_2 : decode cX2_takers 2 = .ok (.iconst 0, 1) := by decide +kernel
theorem dX2_takers_3 : decode cX2_takers 3 = .ok (.istore_n 3, 1) := by decide +kernel
theorem dX2_takers_4 : decode cX2_takers 4 = .ok (.iload_n 3, 1) := by decide +kernel
theorem dX2_takers_5 : decode cX2_takers 5 = .ok (.bipush 12, 2) := by decide +kernel
theorem dX2_takers_7 : decode cX2_takers 7 = .ok (.if_icmp .ge 27, 3) := by decide +kernel
theorem dX2_takers_10 : decode cX2_takers 10 = .ok (.aload_n 0, 1) := by decide +kernel
theorem dX2_takers_11 : decode cX2_takers 11 = .ok (.getfield 7, 3) := by decide +kernel
theorem dX2_takers_14 : decode cX2_takers 14 = .ok (.iload_n 3, 1) := by decide +kernel
theorem dX2_takers_15 : decode cX2_takers 15 = .ok (.baload, 1) := by decide +kernel
theorem dX2_takers_16 : decode cX2_takers 16 = .ok (.ifCond .eq 12, 3) := by decide +kernel
theorem dX2_takers_19 : decode cX2_takers 19 = .ok (.iload_n 2, 1) := by decide +kernel
theorem dX2_takers_20 : decode cX2_takers 20 = .ok (.aload_n 0, 1) := by decide +kernel
theorem dX2_takers_21 : decode cX2_takers 21 = .ok (.iload_n 3, 1) := by decide +kernel
theorem dX2_takers_22 : decode cX2_takers 22 = .ok (.iload_n 1, 1) := by decide +kernel
theorem dX2_takers_23 : decode cX2_takers 23 = .ok (.invokevirtual 146, 3) := by decide +kernel
theorem dX2_takers_26 : decode cX2_takers 26 = .ok (.iadd, 1) := by decide +kernel
theorem dX2_takers_27 : decode cX2_takers 27 = .ok (.istore_n 2, 1) := by decide +kernel
theorem dX2_takers_28 : decode cX2_takers 28 = .ok (.iinc 3 1, 3) := by decide +kernel
theorem dX2_takers_31 : decode cX2_takers 31 = .ok (.goto (-27), 3) := by decide +kernel
theorem dX2_takers_34 : decode cX2_takers 34 = .ok (.iload_n 2, 1) := by decide +kernel
theorem dX2_takers_35 : decode cX2_takers 35 = .ok (.ireturn, 1) := by decide +kernel
set_option maxRecDepth 20000 in
theorem ggX2_ownTakers_X2_takersIn : GoodIn wsX2_ownTakers wsX2_takersIn := goodIn_r _ [5, 6, 7, 8, 9, 10, 11, 12, 13, 14, 15, 16, 17, 18, 19, 20, 21, 22] (by decide +kernel) (by decide +kernel)
set_option maxRecDepth 20000 in
theorem gX2_ownTakers_X2_takersIn : GoodIn wsX2_ownTakers (wsV RX2 146 RX2 yX2_takersIn wsX2_takersIn) := goodIn_app (goodIn_of _ (by decide +kernel)) ggX2_ownTakers_X2_takersIn
theorem dX2_ownTakers_0 : decode cX2_ownTakers 0 = .ok (.aload_n 0, 1) := by decide +kernel
theorem dX2_ownTakers_1 : decode cX2_ownTakers 1 = .ok (.iload_n 1, 1) := by decide +kernel
theorem dX2_ownTakers_2 : decode cX2_ownTakers 2 = .ok (.iload_n 1, 1) := by decide +kernel
theorem dX2_ownTakers_3 : decode cX2_ownTakers 3 = .ok (.invokevirtual 146, 3) := by decide +kernel
theorem dX2_ownTakers_6 : decode cX2_ownTakers 6 = .ok (.ireturn, 1) := by decide +kernel
theorem dX2_adds_0 : decode cX2_adds 0 = .ok (.aload_n 0, 1) := by decide +kernel
theorem dX2_adds_1 : decode cX2_adds 1 = .ok (.getfield 21, 3) := by decide +kernel
theorem dX2_adds_4 : decode cX2_adds 4 = .ok (.iload_n 1, 1) := by decide +kernel
theorem dX2_adds_5 : decode cX2_adds 5 = .ok (.iaload, 1) := by decide +kernel
theorem dX2_adds_6 : decode cX2_adds 6 = .ok (.bipush 8, 2) := by decide +kernel
theorem dX2_adds_8 : decode cX2_adds 8 = .ok (.if_icmp .ne 10, 3) := by decide +kernel
theorem dX2_adds_11 : decode cX2_adds 11 = .ok (.aload_n 0, 1) := by decide +kernel
theorem dX2_adds_12 : decode cX2_adds 12 = .ok (.iconst 3, 1) := by decide +kernel
theorem dX2_adds_13 : decode cX2_adds 13 = .ok (.putfield 51, 3) := by decide +kernel
theorem dX2_adds_16 : decode cX2_adds 16 = .ok (.iconst 0, 1) := by decide +kernel
theorem dX2_adds_17 : decode cX2_adds 17 = .ok (.ireturn, 1) := by decide +kernel
theorem dX2_adds_18 : decode cX2_adds 18 = .ok (.bipush 8, 2) := by decide +kernel
theorem dX2_adds_20 : decode cX2_adds 20 = .ok (.iload_n 1, 1) := by decide +kernel
theorem dX2_adds_21 : decode cX2_adds 21 = .ok (.imul, 1) := by decide +kernel
theorem dX2_adds_22 : decode cX2_adds 22 = .ok (.aload_n 0, 1) := by decide +kernel
theorem dX2_adds_23 : decode cX2_adds 23 = .ok (.getfield 21, 3) := by decide +kernel
theorem dX2_adds_26 : decode cX2_adds 26 = .ok (.iload_n 1, 1) := by decide +kernel
theorem dX2_adds_27 : decode cX2_adds 27 = .ok (.iaload, 1) := by decide +kernel
theorem dX2_adds_28 : decode cX2_adds 28 = .ok (.iadd, 1) := by decide +kernel
theorem dX2_adds_29 : decode cX2_adds 29 = .ok (.istore 7, 2) := by decide +kernel
theorem dX2_adds_31 : decode cX2_adds 31 = .ok (.aload_n 0, 1) := by decide +kernel
theorem dX2_adds_32 : decode cX2_adds 32 = .ok (.getfield 39, 3) := by decide +kernel
theorem dX2_adds_35 : decode cX2_adds 35 = .ok (.iload 7, 2) := by decide +kernel
theorem dX2_adds_37 : decode cX2_adds 37 = .ok (.iload_n 2, 1) := by decide +kernel
theorem dX2_adds_38 : decode cX2_adds 38 = .ok (.iastore, 1) := by decide +kernel
theorem dX2_adds_39 : decode cX2_adds 39 = .ok (.aload_n 0, 1) := by decide +kernel
theorem dX2_adds_40 : decode cX2_adds 40 = .ok (.getfield 42, 3) := by decide +kernel
theorem dX2_adds_43 : decode cX2_adds 43 = .ok (.iload 7, 2) := by decide +kernel
theorem dX2_adds_45 : decode cX2_adds 45 = .ok (.iload_n 3, 1) := by decide +kernel
theorem dX2_adds_46 : decode cX2_adds 46 = .ok (.iastore, 1) := by decide +kernel
theorem dX2_adds_47 : decode cX2_adds 47 = .ok (.aload_n 0, 1) := by decide +kernel
theorem dX2_adds_48 : decode cX2_adds 48 = .ok (.getfield 45, 3) := by decide +kernel
theorem dX2_adds_51 : decode cX2_adds 51 = .ok (.iload 7, 2) := by decide +kernel
theorem dX2_adds_53 : decode cX2_adds 53 = .ok (.lload 4, 2) := by decide +kernel
theorem dX2_adds_55 : decode cX2_adds 55 = .ok (.lastore, 1) := by decide +kernel
theorem dX2_adds_56 : decode cX2_adds 56 = .ok (.aload_n 0, 1) := by decide +kernel
theorem dX2_adds_57 : decode cX2_adds 57 = .ok (.getfield 48, 3) := by decide +kernel
theorem dX2_adds_60 : decode cX2_adds 60 = .ok (.iload 7, 2) := by decide +kernel
theorem dX2_adds_62 : decode cX2_adds 62 = .ok (.iload 6, 2) := by decide +kernel
theorem dX2_adds_64 : decode cX2_adds 64 = .ok (.iastore, 1) := by decide +kernel
theorem dX2_adds_65 : decode cX2_adds 65 = .ok (.aload_n 0, 1) := by decide +kernel
theorem dX2_adds_66 : decode cX2_adds 66 = .ok (.getfield 21, 3) := by decide +kernel
theorem dX2_adds_69 : decode cX2_adds 69 = .ok (.iload_n 1, 1) := by decide +kernel
theorem dX2_adds_70 : decode cX2_adds 70 = .ok (.dup2, 1) := by decide +kernel
theorem dX2_adds_71 : decode cX2_adds 71 = .ok (.iaload, 1) := by decide +kernel
theorem dX2_adds_72 : decode cX2_adds 72 = .ok (.iconst 1, 1) := by decide +kernel
theorem dX2_adds_73 : decode cX2_adds 73 = .ok (.iadd, 1) := by decide +kernel
theorem dX2_adds_74 : decode cX2_adds 74 = .ok (.iastore, 1) := by decide +kernel
theorem dX2_adds_75 : decode cX2_adds 75 = .ok (.aload_n 0, 1) := by decide +kernel
theorem dX2_adds_76 : decode cX2_adds 76 = .ok (.getfield 21, 3) := by decide +kernel
theorem dX2_adds_79 : decode cX2_adds 79 = .ok (.iload_n 1, 1) := by decide +kernel
theorem dX2_adds_80 : decode cX2_adds 80 = .ok (.iaload, 1) := by decide +kernel
theorem dX2_adds_81 : decode cX2_adds 81 = .ok (.ireturn, 1) := by decide +kernel
set_option maxRecDepth 20000 in
theorem ggX2_step_X2_isThere : GoodIn wsX2_step wsX2_isThere := goodIn_r _ [7, 8, 24, 25, 26, 27, 28, 29, 30, 31, 32, 33, 34, 35, 36, 37] (by decide +kernel) (by decide +kernel)
set_option maxRecDepth 20000 in
theorem gX2_step_X2_isThere : GoodIn wsX2_step (wsV RX2 150 RX2 yX2_isThere wsX2_isThere) := goodIn_app (goodIn_of _ (by decide +kernel)) ggX2_step_X2_isThere
set_option maxRecDepth 20000 in
theorem ggX2_step_X2_has : GoodIn wsX2_step wsX2_has := goodIn_r _ [11] (by decide +kernel) (by decide +kernel)
set_option maxRecDepth 20000 in
theorem gX2_step_X2_has : GoodIn wsX2_step (va_wsS RX2 154 yX2_has wsX2_has) := goodIn_app (goodIn_of _ (by decide +kernel)) ggX2_step_X2_has
set_option maxRecDepth 20000 in
theorem ggX2_step_X2_wants : GoodIn wsX2_step wsX2_wants := goodIn_r _ [14] (by decide +kernel) (by decide +kernel)
set_option maxRecDepth 20000 in
theorem gX2_step_X2_wants : GoodIn wsX2_step (va_wsS RX2 158 yX2_wants wsX2_wants) := goodIn_app (goodIn_of _ (by decide +kernel)) ggX2_step_X2_wants
set_option maxRecDepth 20000 in
theorem ggX2_step_X2_adds : GoodIn wsX2_step wsX2_adds := goodIn_r _ [18, 19, 2, 20, 21, 22, 23, 24, 25, 26, 27, 28, 29, 30, 31, 32, 33, 34, 35, 36, 37] (by decide +kernel) (by decide +kernel)
set_option maxRecDepth 20000 in
theorem gX2_step_X2_adds : GoodIn wsX2_step (wsV RX2 161 RX2 yX2_adds wsX2_adds) := goodIn_app (goodIn_of _ (by decide +kernel)) ggX2_step_X2_adds
theorem dX2_step_0 : decode cX2_step 0 = .ok (.aload_n 0, 1) := by decide +kernel
theorem dX2_step_1 : decode cX2_step 1 = .ok (.aload_n 0, 1) := by decide +kernel
theorem dX2_step_2 : decode cX2_step 2 = .ok (.iload_n 1, 1) := by decide +kernel
theorem dX2_step_3 : decode cX2_step 3 = .ok (.invokevirtual 150, 3) := by decide +kernel
theorem dX2_step_6 : decode cX2_step 6 = .ok (.ifCond .ne 7, 3) := by decide +kernel
theorem dX2_step_9 : decode cX2_step 9 = .ok (.iconst 1, 1) := by decide +kernel
theorem dX2_step_10 : decode cX2_step 10 = .ok (.goto 28, 3) := by decide +kernel
theorem dX2_step_13 : decode cX2_step 13 = .ok (.aload_n 0, 1) := by decide +kernel
theorem dX2_step_14 : decode cX2_step 14 = .ok (.getfield 13, 3) := by decide +kernel
theorem dX2_step_17 : decode cX2_step 17 = .ok (.iload_n 1, 1) := by decide +kernel
theorem dX2_step_18 : decode cX2_step 18 = .ok (.iaload, 1) := by decide +kernel
theorem dX2_step_19 : decode cX2_step 19 = .ok (.iload_n 2, 1) := by decide +kernel
theorem dX2_step_20 : decode cX2_step 20 = .ok (.invokestatic 154, 3) := by decide +kernel
theorem dX2_step_23 : decode cX2_step 23 = .ok (.ifCond .eq 10, 3) := by decide +kernel
theorem dX2_step_26 : decode cX2_step 26 = .ok (.iload_n 2, 1) := by decide +kernel
theorem dX2_step_27 : decode cX2_step 27 = .ok (.invokestatic 158, 3) := by decide +kernel
theorem dX2_step_30 : decode cX2_step 30 = .ok (.ifCond .eq 7, 3) := by decide +kernel
theorem dX2_step_33 : decode cX2_step 33 = .ok (.iconst 2, 1) := by decide +kernel
theorem dX2_step_34 : decode cX2_step 34 = .ok (.goto 4, 3) := by decide +kernel
theorem dX2_step_37 : decode cX2_step 37 = .ok (.iconst 0, 1) := by decide +kernel
theorem dX2_step_38 : decode cX2_step 38 = .ok (.putfield 51, 3) := by decide +kernel
theorem dX2_step_41 : decode cX2_step 41 = .ok (.aload_n 0, 1) := by decide +kernel
theorem dX2_step_42 : decode cX2_step 42 = .ok (.getfield 51, 3) := by decide +kernel
theorem dX2_step_45 : decode cX2_step 45 = .ok (.ifCond .le 7, 3) := by decide +kernel
theorem dX2_step_48 : decode cX2_step 48 = .ok (.iconst 0, 1) := by decide +kernel
theorem dX2_step_49 : decode cX2_step 49 = .ok (.goto 12, 3) := by decide +kernel
theorem dX2_step_52 : decode cX2_step 52 = .ok (.aload_n 0, 1) := by decide +kernel
theorem dX2_step_53 : decode cX2_step 53 = .ok (.iload_n 1, 1) := by decide +kernel
theorem dX2_step_54 : decode cX2_step 54 = .ok (.iload_n 2, 1) := by decide +kernel
theorem dX2_step_55 : decode cX2_step 55 = .ok (.iconst 0, 1) := by decide +kernel
theorem dX2_step_56 : decode cX2_step 56 = .ok (.lconst 0, 1) := by decide +kernel
theorem dX2_step_57 : decode cX2_step 57 = .ok (.iconst (-1), 1) := by decide +kernel
theorem dX2_step_58 : decode cX2_step 58 = .ok (.invokevirtual 161, 3) := by decide +kernel
theorem dX2_step_61 : decode cX2_step 61 = .ok (.ireturn, 1) := by decide +kernel
set_option maxRecDepth 20000 in
theorem ggX2_stepBy_X2_isThere : GoodIn wsX2_stepBy wsX2_isThere := goodIn_r _ [7, 8, 35, 36, 37, 38, 39, 40, 41, 42, 43, 44, 45, 46, 47, 48] (by decide +kernel) (by decide +kernel)
set_option maxRecDepth 20000 in
theorem gX2_stepBy_X2_isThere : GoodIn wsX2_stepBy (wsV RX2 150 RX2 yX2_isThere wsX2_isThere) := goodIn_app (goodIn_of _ (by decide +kernel)) ggX2_stepBy_X2_isThere
set_option maxRecDepth 20000 in
theorem ggX2_stepBy_X2_has : GoodIn wsX2_stepBy wsX2_has := goodIn_r _ [11] (by decide +kernel) (by decide +kernel)
set_option maxRecDepth 20000 in
theorem gX2_stepBy_X2_has : GoodIn wsX2_stepBy (va_wsS RX2 154 yX2_has wsX2_has) := goodIn_app (goodIn_of _ (by decide +kernel)) ggX2_stepBy_X2_has
set_option maxRecDepth 20000 in
theorem ggX2_stepBy_X2_wants : GoodIn wsX2_stepBy wsX2_wants := goodIn_r _ [14] (by decide +kernel) (by decide +kernel)
set_option maxRecDepth 20000 in
theorem gX2_stepBy_X2_wants : GoodIn wsX2_stepBy (va_wsS RX2 158 yX2_wants wsX2_wants) := goodIn_app (goodIn_of _ (by decide +kernel)) ggX2_stepBy_X2_wants
set_option maxRecDepth 20000 in
theorem ggX2_stepBy_X2_isGood : GoodIn wsX2_stepBy wsX2_isGood := goodIn_r _ [17, 18, 19, 20, 21, 6, 22, 23, 24, 25] (by decide +kernel) (by decide +kernel)
set_option maxRecDepth 20000 in
theorem gX2_stepBy_X2_isGood : GoodIn wsX2_stepBy (va_wsS RX2 165 yX2_isGood wsX2_isGood) := goodIn_app (goodIn_of _ (by decide +kernel)) ggX2_stepBy_X2_isGood
set_option maxRecDepth 20000 in
theorem ggX2_stepBy_X2_adds : GoodIn wsX2_stepBy wsX2_adds := goodIn_r _ [29, 30, 2, 31, 32, 33, 34, 35, 36, 37, 38, 39, 40, 41, 42, 43, 44, 45, 46, 47, 48] (by decide +kernel) (by decide +kernel)
set_option maxRecDepth 20000 in
theorem gX2_stepBy_X2_adds : GoodIn wsX2_stepBy (wsV RX2 161 RX2 yX2_adds wsX2_adds) := goodIn_app (goodIn_of _ (by decide +kernel)) ggX2_stepBy_X2_adds
theorem dX2_stepBy_0 : decode cX2_stepBy 0 = .ok (.aload_n 0, 1) := by decide +kernel
theorem dX2_stepBy_1 : decode cX2_stepBy 1 = .ok (.aload_n 0, 1) := by decide +kernel
theorem dX2_stepBy_2 : decode cX2_stepBy 2 = .ok (.iload_n 1, 1) := by decide +kernel
theorem dX2_stepBy_3 : decode cX2_stepBy 3 = .ok (.invokevirtual 150, 3) := by decide +kernel
theorem dX2_stepBy_6 : decode cX2_stepBy 6 = .ok (.ifCond .ne 7, 3) := by decide +kernel
theorem dX2_stepBy_9 : decode cX2_stepBy 9 = .ok (.iconst 1, 1) := by decide +kernel
theorem dX2_stepBy_10 : decode cX2_stepBy 10 = .ok (.goto 41, 3) := by decide +kernel
theorem dX2_stepBy_13 : decode cX2_stepBy 13 = .ok (.aload_n 0, 1) := by decide +kernel
theorem dX2_stepBy_14 : decode cX2_stepBy 14 = .ok (.getfield 13, 3) := by decide +kernel
theorem dX2_stepBy_17 : decode cX2_stepBy 17 = .ok (.iload_n 1, 1) := by decide +kernel
theorem dX2_stepBy_18 : decode cX2_stepBy 18 = .ok (.iaload, 1) := by decide +kernel
theorem dX2_stepBy_19 : decode cX2_stepBy 19 = .ok (.iload_n 2, 1) := by decide +kernel
theorem dX2_stepBy_20 : decode cX2_stepBy 20 = .ok (.invokestatic 154, 3) := by decide +kernel
theorem dX2_stepBy_23 : decode cX2_stepBy 23 = .ok (.ifCond .eq 23, 3) := by decide +kernel
theorem dX2_stepBy_26 : decode cX2_stepBy 26 = .ok (.iload_n 2, 1) := by decide +kernel
theorem dX2_stepBy_27 : decode cX2_stepBy 27 = .ok (.invokestatic 158, 3) := by decide +kernel
theorem dX2_stepBy_30 : decode cX2_stepBy 30 = .ok (.ifCond .eq 16, 3) := by decide +kernel
theorem dX2_stepBy_33 : decode cX2_stepBy 33 = .ok (.lload_n 3, 1) := by decide +kernel
theorem dX2_stepBy_34 : decode cX2_stepBy 34 = .ok (.aload_n 0, 1) := by decide +kernel
theorem dX2_stepBy_35 : decode cX2_stepBy 35 = .ok (.getfield 13, 3) := by decide +kernel
theorem dX2_stepBy_38 : decode cX2_stepBy 38 = .ok (.iload_n 1, 1) := by decide +kernel
theorem dX2_stepBy_39 : decode cX2_stepBy 39 = .ok (.iaload, 1) := by decide +kernel
theorem dX2_stepBy_40 : decode cX2_stepBy 40 = .ok (.invokestatic 165, 3) := by decide +kernel
theorem dX2_stepBy_43 : decode cX2_stepBy 43 = .ok (.ifCond .ne 7, 3) := by decide +kernel
theorem dX2_stepBy_46 : decode cX2_stepBy 46 = .ok (.iconst 2, 1) := by decide +kernel
theorem dX2_stepBy_47 : decode cX2_stepBy 47 = .ok (.goto 4, 3) := by decide +kernel
theorem dX2_stepBy_50 : decode cX2_stepBy 50 = .ok (.iconst 0, 1) := by decide +kernel
theorem dX2_stepBy_51 : decode cX2_stepBy 51 = .ok (.putfield 51, 3) := by decide +kernel
theorem dX2_stepBy_54 : decode cX2_stepBy 54 = .ok (.aload_n 0, 1) := by decide +kernel
theorem dX2_stepBy_55 : decode cX2_stepBy 55 = .ok (.getfield 51, 3) := by decide +kernel
theorem dX2_stepBy_58 : decode cX2_stepBy 58 = .ok (.ifCond .le 7, 3) := by decide +kernel
theorem dX2_stepBy_61 : decode cX2_stepBy 61 = .ok (.iconst 0, 1) := by decide +kernel
theorem dX2_stepBy_62 : decode cX2_stepBy 62 = .ok (.goto 12, 3) := by decide +kernel
theorem dX2_stepBy_65 : decode cX2_stepBy 65 = .ok (.aload_n 0, 1) := by decide +kernel
theorem dX2_stepBy_66 : decode cX2_stepBy 66 = .ok (.iload_n 1, 1) := by decide +kernel
theorem dX2_stepBy_67 : decode cX2_stepBy 67 = .ok (.iload_n 2, 1) := by decide +kernel
theorem dX2_stepBy_68 : decode cX2_stepBy 68 = .ok (.iconst 1, 1) := by decide +kernel
theorem dX2_stepBy_69 : decode cX2_stepBy 69 = .ok (.lload_n 3, 1) := by decide +kernel
theorem dX2_stepBy_70 : decode cX2_stepBy 70 = .ok (.iconst (-1), 1) := by decide +kernel
theorem dX2_stepBy_71 : decode cX2_stepBy 71 = .ok (.invokevirtual 161, 3) := by decide +kernel
theorem dX2_stepBy_74 : decode cX2_stepBy 74 = .ok (.ireturn, 1) := by decide +kernel
set_option maxRecDepth 20000 in
theorem ggX2_stepOf_X2_isThere : GoodIn wsX2_stepOf wsX2_isThere := goodIn_r _ [7, 8, 24, 25, 26, 27, 28, 29, 30, 31, 32, 33, 34, 35, 36, 37] (by decide +kernel) (by decide +kernel)
set_option maxRecDepth 20000 in
theorem gX2_stepOf_X2_isThere : GoodIn wsX2_stepOf (wsV RX2 150 RX2 yX2_isThere wsX2_isThere) := goodIn_app (goodIn_of _ (by decide +kernel)) ggX2_stepOf_X2_isThere
set_option maxRecDepth 20000 in
theorem ggX2_stepOf_X2_has : GoodIn wsX2_stepOf wsX2_has := goodIn_r _ [11] (by decide +kernel) (by decide +kernel)
set_option maxRecDepth 20000 in
theorem gX2_stepOf_X2_has : GoodIn wsX2_stepOf (va_wsS RX2 154 yX2_has wsX2_has) := goodIn_app (goodIn_of _ (by decide +kernel)) ggX2_stepOf_X2_has
set_option maxRecDepth 20000 in
theorem ggX2_stepOf_X2_wants : GoodIn wsX2_stepOf wsX2_wants := goodIn_r _ [14] (by decide +kernel) (by decide +kernel)
set_option maxRecDepth 20000 in
theorem gX2_stepOf_X2_wants : GoodIn wsX2_stepOf (va_wsS RX2 158 yX2_wants wsX2_wants) := goodIn_app (goodIn_of _ (by decide +kernel)) ggX2_stepOf_X2_wants
set_option maxRecDepth 20000 in
theorem ggX2_stepOf_X2_adds : GoodIn wsX2_stepOf wsX2_adds := goodIn_r _ [18, 19, 2, 20, 21, 22, 23, 24, 25, 26, 27, 28, 29, 30, 31, 32, 33, 34, 35, 36, 37] (by decide +kernel) (by decide +kernel)
set_option maxRecDepth 20000 in
theorem gX2_stepOf_X2_adds : GoodIn wsX2_stepOf (wsV RX2 161 RX2 yX2_adds wsX2_adds) := goodIn_app (goodIn_of _ (by decide +kernel)) ggX2_stepOf_X2_adds
theorem dX2_stepOf_0 : decode cX2_stepOf 0 = .ok (.aload_n 0, 1) := by decide +kernel
theorem dX2_stepOf_1 : decode cX2_stepOf 1 = .ok (.aload_n 0, 1) := by decide +kernel
theorem dX2_stepOf_2 : decode cX2_stepOf 2 = .ok (.iload_n 1, 1) := by decide +kernel
theorem dX2_stepOf_3 : decode cX2_stepOf 3 = .ok (.invokevirtual 150, 3) := by decide +kernel
theorem dX2_stepOf_6 : decode cX2_stepOf 6 = .ok (.ifCond .eq 11, 3) := by decide +kernel
theorem dX2_stepOf_9 : decode cX2_stepOf 9 = .ok (.aload_n 0, 1) := by decide +kernel
theorem dX2_stepOf_10 : decode cX2_stepOf 10 = .ok (.iload_n 3, 1) := by decide +kernel
theorem dX2_stepOf_11 : decode cX2_stepOf 11 = .ok (.invokevirtual 150, 3) := by decide +kernel
theorem dX2_stepOf_14 : decode cX2_stepOf 14 = .ok (.ifCond .ne 7, 3) := by decide +kernel
theorem dX2_stepOf_17 : decode cX2_stepOf 17 = .ok (.iconst 1, 1) := by decide +kernel
theorem dX2_stepOf_18 : decode cX2_stepOf 18 = .ok (.goto 43, 3) := by decide +kernel
theorem dX2_stepOf_21 : decode cX2_stepOf 21 = .ok (.aload_n 0, 1) := by decide +kernel
theorem dX2_stepOf_22 : decode cX2_stepOf 22 = .ok (.getfield 13, 3) := by decide +kernel
theorem dX2_stepOf_25 : decode cX2_stepOf 25 = .ok (.iload_n 1, 1) := by decide +kernel
theorem dX2_stepOf_26 : decode cX2_stepOf 26 = .ok (.iaload, 1) := by decide +kernel
theorem dX2_stepOf_27 : decode cX2_stepOf 27 = .ok (.iload_n 2, 1) := by decide +kernel
theorem dX2_stepOf_28 : decode cX2_stepOf 28 = .ok (.invokestatic 154, 3) := by decide +kernel
theorem dX2_stepOf_31 : decode cX2_stepOf 31 = .ok (.ifCond .eq 25, 3) := by decide +kernel
theorem dX2_stepOf_34 : decode cX2_stepOf 34 = .ok (.iload_n 2, 1) := by decide +kernel
theorem dX2_stepOf_35 : decode cX2_stepOf 35 = .ok (.invokestatic 158, 3) := by decide +kernel
theorem dX2_stepOf_38 : decode cX2_stepOf 38 = .ok (.ifCond .eq 18, 3) := by decide +kernel
theorem dX2_stepOf_41 : decode cX2_stepOf 41 = .ok (.aload_n 0, 1) := by decide +kernel
theorem dX2_stepOf_42 : decode cX2_stepOf 42 = .ok (.getfield 13, 3) := by decide +kernel
theorem dX2_stepOf_45 : decode cX2_stepOf 45 = .ok (.iload_n 3, 1) := by decide +kernel
theorem dX2_stepOf_46 : decode cX2_stepOf 46 = .ok (.iaload, 1) := by decide +kernel
theorem dX2_stepOf_47 : decode cX2_stepOf 47 = .ok (.aload_n 0, 1) := by decide +kernel
theorem dX2_stepOf_48 : decode cX2_stepOf 48 = .ok (.getfield 13, 3) := by decide +kernel
theorem dX2_stepOf_51 : decode cX2_stepOf 51 = .ok (.iload_n 1, 1) := by decide +kernel
theorem dX2_stepOf_52 : decode cX2_stepOf 52 = .ok (.iaload, 1) := by decide +kernel
theorem dX2_stepOf_53 : decode cX2_stepOf 53 = .ok (.if_icmp .eq 7, 3) := by decide +kernel
theorem dX2_stepOf_56 : decode cX2_stepOf 56 = .ok (.iconst 2, 1) := by decide +kernel
theorem dX2_stepOf_57 : decode cX2_stepOf 57 = .ok (.goto 4, 3) := by decide +kernel
theorem dX2_stepOf_60 : decode cX2_stepOf 60 = .ok (.iconst 0, 1) := by decide +kernel
theorem dX2_stepOf_61 : decode cX2_stepOf 61 = .ok (.putfield 51, 3) := by decide +kernel
theorem dX2_stepOf_64 : decode cX2_stepOf 64 = .ok (.aload_n 0, 1) := by decide +kernel
theorem dX2_stepOf_65 : decode cX2_stepOf 65 = .ok (.getfield 51, 3) := by decide +kernel
theorem dX2_stepOf_68 : decode cX2_stepOf 68 = .ok (.ifCond .le 7, 3) := by decide +kernel
theorem dX2_stepOf_71 : decode cX2_stepOf 71 = .ok (.iconst 0, 1) := by decide +kernel
theorem dX2_stepOf_72 : decode cX2_stepOf 72 = .ok (.goto 12, 3) := by decide +kernel
theorem dX2_stepOf_75 : decode cX2_stepOf 75 = .ok (.aload_n 0, 1) := by decide +kernel
theorem dX2_stepOf_76 : decode cX2_stepOf 76 = .ok (.iload_n 1, 1) := by decide +kernel
theorem dX2_stepOf_77 : decode cX2_stepOf 77 = .ok (.iload_n 2, 1) := by decide +kernel
theorem dX2_stepOf_78 : decode cX2_stepOf 78 = .ok (.iconst 2, 1) := by decide +kernel
theorem dX2_stepOf_79 : decode cX2_stepOf 79 = .ok (.lconst 0, 1) := by decide +kernel
theorem dX2_stepOf_80 : decode cX2_stepOf 80 = .ok (.iload_n 3, 1) := by decide +kernel
theorem dX2_stepOf_81 : decode cX2_stepOf 81 = .ok (.invokevirtual 161, 3) := by decide +kernel
theorem dX2_stepOf_84 : decode cX2_stepOf 84 = .ok (.ireturn, 1) := by decide +kernel
set_option maxRecDepth 20000 in
theorem ggX2_bare_X2_isThere : GoodIn wsX2_bare wsX2_isThere := goodIn_r _ [7, 8, 9, 10, 11, 12, 13, 14, 15, 16, 17, 18, 19, 20, 21, 22] (by decide +kernel) (by decide +kernel)
set_option maxRecDepth 20000 in
theorem gX2_bare_X2_isThere : GoodIn wsX2_bare (wsV RX2 150 RX2 yX2_isThere wsX2_isThere) := goodIn_app (goodIn_of _ (by decide +kernel)) ggX2_bare_X2_isThere
theorem dX2_bare_0 : decode cX2_bare 0 = .ok (.aload_n 0, 1) := by decide +kernel
theorem dX2_bare_1 : decode cX2_bare 1 = .ok (.aload_n 0, 1) := by decide +kernel
theorem dX2_bare_2 : decode cX2_bare 2 = .ok (.iload_n 1, 1) := by decide +kernel
theorem dX2_bare_3 : decode cX2_bare 3 = .ok (.invokevirtual 150, 3) := by decide +kernel
theorem dX2_bare_6 : decode cX2_bare 6 = .ok (.ifCond .eq 7, 3) := by decide +kernel
theorem dX2_bare_9 : decode cX2_bare 9 = .ok (.iconst 0, 1) := by decide +kernel
theorem dX2_bare_10 : decode cX2_bare 10 = .ok (.goto 4, 3) := by decide +kernel
theorem dX2_bare_13 : decode cX2_bare 13 = .ok (.iconst 1, 1) := by decide +kernel
theorem dX2_bare_14 : decode cX2_bare 14 = .ok (.putfield 51, 3) := by decide +kernel
theorem dX2_bare_17 : decode cX2_bare 17 = .ok (.aload_n 0, 1) := by decide +kernel
theorem dX2_bare_18 : decode cX2_bare 18 = .ok (.getfield 51, 3) := by decide +kernel
theorem dX2_bare_21 : decode cX2_bare 21 = .ok (.ifCond .le 5, 3) := by decide +kernel
theorem dX2_bare_24 : decode cX2_bare 24 = .ok (.iconst 0, 1) := by decide +kernel
theorem dX2_bare_25 : decode cX2_bare 25 = .ok (.ireturn, 1) := by decide +kernel
theorem dX2_bare_26 : decode cX2_bare 26 = .ok (.aload_n 0, 1) := by decide +kernel
theorem dX2_bare_27 : decode cX2_bare 27 = .ok (.getfield 21, 3) := by decide +kernel
theorem dX2_bare_30 : decode cX2_bare 30 = .ok (.iload_n 1, 1) := by decide +kernel
theorem dX2_bare_31 : decode cX2_bare 31 = .ok (.iaload, 1) := by decide +kernel
theorem dX2_bare_32 : decode cX2_bare 32 = .ok (.istore_n 2, 1) := by decide +kernel
theorem dX2_bare_33 : decode cX2_bare 33 = .ok (.aload_n 0, 1) := by decide +kernel
theorem dX2_bare_34 : decode cX2_bare 34 = .ok (.getfield 21, 3) := by decide +kernel
theorem dX2_bare_37 : decode cX2_bare 37 = .ok (.iload_n 1, 1) := by decide +kernel
theorem dX2_bare_38 : decode cX2_bare 38 = .ok (.iconst 0, 1) := by decide +kernel
theorem dX2_bare_39 : decode cX2_bare 39 = .ok (.iastore, 1) := by decide +kernel
theorem dX2_bare_40 : decode cX2_bare 40 = .ok (.iload_n 2, 1) := by decide +kernel
theorem dX2_bare_41 : decode cX2_bare 41 = .ok (.ireturn, 1) := by decide +kernel
set_option maxRecDepth 20000 in
theorem ggX2_read_X2_isThere : GoodIn wsX2_read wsX2_isThere := goodIn_r _ [7, 8, 68, 69, 70, 71, 72, 73, 74, 75, 76, 77, 78, 79, 80, 81] (by decide +kernel) (by decide +kernel)
set_option maxRecDepth 20000 in
theorem gX2_read_X2_isThere : GoodIn wsX2_read (wsV RX2 150 RX2 yX2_isThere wsX2_isThere) := goodIn_app (goodIn_of _ (by decide +kernel)) ggX2_read_X2_isThere
set_option maxRecDepth 20000 in
theorem ggX2_read_X2_isGood : GoodIn wsX2_read wsX2_isGood := goodIn_r _ [11, 12, 13, 14, 15, 6, 16, 17, 18, 19] (by decide +kernel) (by decide +kernel)
set_option maxRecDepth 20000 in
theorem gX2_read_X2_isGood : GoodIn wsX2_read (va_wsS RX2 165 yX2_isGood wsX2_isGood) := goodIn_app (goodIn_of _ (by decide +kernel)) ggX2_read_X2_isGood
set_option maxRecDepth 20000 in
theorem ggX2_read_X2_comes : GoodIn wsX2_read wsX2_comes := goodIn_r _ [23, 24, 25, 26, 27, 28, 29, 1, 30, 31, 32, 33, 6, 34, 35, 36, 37, 38, 39, 40, 41, 12, 13, 18, 42, 43, 44, 45, 46, 47, 48, 49, 50, 51, 52, 53, 54, 55, 56, 57, 58, 59, 60, 61, 62, 63, 64, 65, 66, 67, 68, 69, 70, 71, 72, 73, 74, 75, 76, 77, 78, 79, 80, 81] (by decide +kernel) (by decide +kernel)
set_option maxRecDepth 20000 in
theorem gX2_read_X2_comes : GoodIn wsX2_read (wsV RX2 168 RX2 yX2_comes wsX2_comes) := goodIn_app (goodIn_of _ (by decide +kernel)) ggX2_read_X2_comes
theorem dX2_read_0 : decode cX2_read 0 = .ok (.aload_n 0, 1) := by decide +kernel
theorem dX2_read_1 : decode cX2_read 1 = .ok (.aload_n 0, 1) := by decide +kernel
theorem dX2_read_2 : decode cX2_read 2 = .ok (.iload_n 1, 1) := by decide +kernel
theorem dX2_read_3 : decode cX2_read 3 = .ok (.invokevirtual 150, 3) := by decide +kernel
theorem dX2_read_6 : decode cX2_read 6 = .ok (.ifCond .ne 7, 3) := by decide +kernel
theorem dX2_read_9 : decode cX2_read 9 = .ok (.iconst 1, 1) := by decide +kernel
theorem dX2_read_10 : decode cX2_read 10 = .ok (.goto 21, 3) := by decide +kernel
theorem dX2_read_13 : decode cX2_read 13 = .ok (.lload_n 2, 1) := by decide +kernel
theorem dX2_read_14 : decode cX2_read 14 = .ok (.aload_n 0, 1) := by decide +kernel
theorem dX2_read_15 : decode cX2_read 15 = .ok (.getfield 13, 3) := by decide +kernel
theorem dX2_read_18 : decode cX2_read 18 = .ok (.iload_n 1, 1) := by decide +kernel
theorem dX2_read_19 : decode cX2_read 19 = .ok (.iaload, 1) := by decide +kernel
theorem dX2_read_20 : decode cX2_read 20 = .ok (.invokestatic 165, 3) := by decide +kernel
theorem dX2_read_23 : decode cX2_read 23 = .ok (.ifCond .ne 7, 3) := by decide +kernel
theorem dX2_read_26 : decode cX2_read 26 = .ok (.iconst 2, 1) := by decide +kernel
theorem dX2_read_27 : decode cX2_read 27 = .ok (.goto 4, 3) := by decide +kernel
theorem dX2_read_30 : decode cX2_read 30 = .ok (.iconst 0, 1) := by decide +kernel
theorem dX2_read_31 : decode cX2_read 31 = .ok (.putfield 51, 3) := by decide +kernel
theorem dX2_read_34 : decode cX2_read 34 = .ok (.aload_n 0, 1) := by decide +kernel
theorem dX2_read_35 : decode cX2_read 35 = .ok (.getfield 51, 3) := by decide +kernel
theorem dX2_read_38 : decode cX2_read 38 = .ok (.ifCond .le 7, 3) := by decide +kernel
theorem dX2_read_41 : decode cX2_read 41 = .ok (.lconst 0, 1) := by decide +kernel
theorem dX2_read_42 : decode cX2_read 42 = .ok (.goto 9, 3) := by decide +kernel
theorem dX2_read_45 : decode cX2_read 45 = .ok (.aload_n 0, 1) := by decide +kernel
theorem dX2_read_46 : decode cX2_read 46 = .ok (.iload_n 1, 1) := by decide +kernel
theorem dX2_read_47 : decode cX2_read 47 = .ok (.lload_n 2, 1) := by decide +kernel
theorem dX2_read_48 : decode cX2_read 48 = .ok (.invokevirtual 168, 3) := by decide +kernel
theorem dX2_read_51 : decode cX2_read 51 = .ok (.lreturn, 1) := by decide +kernel
set_option maxRecDepth 20000 in
theorem ggX2_hand_X2_isThere : GoodIn wsX2_hand wsX2_isThere := goodIn_r _ [8, 9, 83, 84, 85, 86, 87, 88, 89, 90, 91, 92, 93, 94, 95, 96] (by decide +kernel) (by decide +kernel)
set_option maxRecDepth 20000 in
theorem gX2_hand_X2_isThere : GoodIn wsX2_hand (wsV RX2 150 RX2 yX2_isThere wsX2_isThere) := goodIn_app (goodIn_of _ (by decide +kernel)) ggX2_hand_X2_isThere
set_option maxRecDepth 20000 in
theorem ggX2_hand_X2_handed : GoodIn wsX2_hand wsX2_handed := goodIn_r _ [12, 13, 14, 7, 15, 16, 17, 18, 19, 20, 21, 22, 23, 24, 25, 26, 27, 28, 29, 30, 31, 32, 33, 34, 35] (by decide +kernel) (by decide +kernel)
set_option maxRecDepth 20000 in
theorem gX2_hand_X2_handed : GoodIn wsX2_hand (va_wsS RX2 172 yX2_handed wsX2_handed) := goodIn_app (goodIn_of _ (by decide +kernel)) ggX2_hand_X2_handed
set_option maxRecDepth 20000 in
theorem ggX2_hand_X2_comes : GoodIn wsX2_hand wsX2_comes := goodIn_r _ [39, 40, 41, 3, 42, 43, 44, 2, 45, 46, 47, 48, 7, 49, 50, 51, 52, 53, 54, 55, 56, 57, 16, 58, 59, 60, 61, 62, 63, 64, 65, 66, 67, 68, 69, 70, 71, 72, 73, 74, 75, 76, 77, 29, 17, 78, 79, 80, 81, 82, 83, 84, 85, 86, 87, 88, 89, 90, 91, 92, 93, 94, 95, 96] (by decide +kernel) (by decide +kernel)
set_option maxRecDepth 20000 in
theorem gX2_hand_X2_comes : GoodIn wsX2_hand (wsV RX2 168 RX2 yX2_comes wsX2_comes) := goodIn_app (goodIn_of _ (by decide +kernel)) ggX2_hand_X2_comes
theorem dX2_hand_0 : decode cX2_hand 0 = .ok (.aload_n 0, 1) := by decide +kernel
theorem dX2_hand_1 : decode cX2_hand 1 = .ok (.aload_n 0, 1) := by decide +kernel
theorem dX2_hand_2 : decode cX2_hand 2 = .ok (.iload_n 1, 1) := by decide +kernel
theorem dX2_hand_3 : decode cX2_hand 3 = .ok (.invokevirtual 150, 3) := by decide +kernel
theorem dX2_hand_6 : decode cX2_hand 6 = .ok (.ifCond .eq 11, 3) := by decide +kernel
theorem dX2_hand_9 : decode cX2_hand 9 = .ok (.aload_n 0, 1) := by decide +kernel
theorem dX2_hand_10 : decode cX2_hand 10 = .ok (.iload_n 2, 1) := by decide +kernel
theorem dX2_hand_11 : decode cX2_hand 11 = .ok (.invokevirtual 150, 3) := by decide +kernel
theorem dX2_hand_14 : decode cX2_hand 14 = .ok (.ifCond .ne 7, 3) := by decide +kernel
theorem dX2_hand_17 : decode cX2_hand 17 = .ok (.iconst 1, 1) := by decide +kernel
theorem dX2_hand_18 : decode cX2_hand 18 = .ok (.goto 4, 3) := by decide +kernel
theorem dX2_hand_21 : decode cX2_hand 21 = .ok (.iconst 0, 1) := by decide +kernel
theorem dX2_hand_22 : decode cX2_hand 22 = .ok (.putfield 51, 3) := by decide +kernel
theorem dX2_hand_25 : decode cX2_hand 25 = .ok (.aload_n 0, 1) := by decide +kernel
theorem dX2_hand_26 : decode cX2_hand 26 = .ok (.getfield 51, 3) := by decide +kernel
theorem dX2_hand_29 : decode cX2_hand 29 = .ok (.ifCond .le 5, 3) := by decide +kernel
theorem dX2_hand_32 : decode cX2_hand 32 = .ok (.lconst 0, 1) := by decide +kernel
theorem dX2_hand_33 : decode cX2_hand 33 = .ok (.lreturn, 1) := by decide +kernel
theorem dX2_hand_34 : decode cX2_hand 34 = .ok (.iload_n 1, 1) := by decide +kernel
theorem dX2_hand_35 : decode cX2_hand 35 = .ok (.iload_n 2, 1) := by decide +kernel
theorem dX2_hand_36 : decode cX2_hand 36 = .ok (.if_icmp .eq 18, 3) := by decide +kernel
theorem dX2_hand_39 : decode cX2_hand 39 = .ok (.aload_n 0, 1) := by decide +kernel
theorem dX2_hand_40 : decode cX2_hand 40 = .ok (.getfield 13, 3) := by decide +kernel
theorem dX2_hand_43 : decode cX2_hand 43 = .ok (.iload_n 1, 1) := by decide +kernel
theorem dX2_hand_44 : decode cX2_hand 44 = .ok (.iaload, 1) := by decide +kernel
theorem dX2_hand_45 : decode cX2_hand 45 = .ok (.aload_n 0, 1) := by decide +kernel
theorem dX2_hand_46 : decode cX2_hand 46 = .ok (.getfield 13, 3) := by decide +kernel
theorem dX2_hand_49 : decode cX2_hand 49 = .ok (.iload_n 2, 1) := by decide +kernel
theorem dX2_hand_50 : decode cX2_hand 50 = .ok (.iaload, 1) := by decide +kernel
theorem dX2_hand_51 : decode cX2_hand 51 = .ok (.if_icmp .le 10, 3) := by decide +kernel
theorem dX2_hand_54 : decode cX2_hand 54 = .ok (.aload_n 0, 1) := by decide +kernel
theorem dX2_hand_55 : decode cX2_hand 55 = .ok (.iconst 2, 1) := by decide +kernel
theorem dX2_hand_56 : decode cX2_hand 56 = .ok (.putfield 51, 3) := by decide +kernel
theorem dX2_hand_59 : decode cX2_hand 59 = .ok (.lconst 0, 1) := by decide +kernel
theorem dX2_hand_60 : decode cX2_hand 60 = .ok (.lreturn, 1) := by decide +kernel
theorem dX2_hand_61 : decode cX2_hand 61 = .ok (.aload_n 0, 1) := by decide +kernel
theorem dX2_hand_62 : decode cX2_hand 62 = .ok (.iload_n 2, 1) := by decide +kernel
theorem dX2_hand_63 : decode cX2_hand 63 = .ok (.aload_n 0, 1) := by decide +kernel
theorem dX2_hand_64 : decode cX2_hand 64 = .ok (.getfield 17, 3) := by decide +kernel
theorem dX2_hand_67 : decode cX2_hand 67 = .ok (.iload_n 1, 1) := by decide +kernel
theorem dX2_hand_68 : decode cX2_hand 68 = .ok (.laload, 1) := by decide +kernel
theorem dX2_hand_69 : decode cX2_hand 69 = .ok (.aload_n 0, 1) := by decide +kernel
theorem dX2_hand_70 : decode cX2_hand 70 = .ok (.getfield 13, 3) := by decide +kernel
theorem dX2_hand_73 : decode cX2_hand 73 = .ok (.iload_n 1, 1) := by decide +kernel
theorem dX2_hand_74 : decode cX2_hand 74 = .ok (.iaload, 1) := by decide +kernel
theorem dX2_hand_75 : decode cX2_hand 75 = .ok (.aload_n 0, 1) := by decide +kernel
theorem dX2_hand_76 : decode cX2_hand 76 = .ok (.getfield 13, 3) := by decide +kernel
theorem dX2_hand_79 : decode cX2_hand 79 = .ok (.iload_n 2, 1) := by decide +kernel
theorem dX2_hand_80 : decode cX2_hand 80 = .ok (.iaload, 1) := by decide +kernel
theorem dX2_hand_81 : decode cX2_hand 81 = .ok (.invokestatic 172, 3) := by decide +kernel
theorem dX2_hand_84 : decode cX2_hand 84 = .ok (.invokevirtual 168, 3) := by decide +kernel
theorem dX2_hand_87 : decode cX2_hand 87 = .ok (.lreturn, 1) := by decide +kernel
set_option maxRecDepth 20000 in
theorem ggX2_clear_X2_isThere : GoodIn wsX2_clear wsX2_isThere := goodIn_r _ [7, 8, 9, 10, 11, 12, 13, 14, 15, 16, 17, 18, 19, 20, 21, 22] (by decide +kernel) (by decide +kernel)
set_option maxRecDepth 20000 in
theorem gX2_clear_X2_isThere : GoodIn wsX2_clear (wsV RX2 150 RX2 yX2_isThere wsX2_isThere) := goodIn_app (goodIn_of _ (by decide +kernel)) ggX2_clear_X2_isThere
theorem dX2_clear_0 : decode cX2_clear 0 = .ok (.aload_n 0, 1) := by decide +kernel
theorem dX2_clear_1 : decode cX2_clear 1 = .ok (.aload_n 0, 1) := by decide +kernel
theorem dX2_clear_2 : decode cX2_clear 2 = .ok (.iload_n 1, 1) := by decide +kernel
theorem dX2_clear_3 : decode cX2_clear 3 = .ok (.invokevirtual 150, 3) := by decide +kernel
theorem dX2_clear_6 : decode cX2_clear 6 = .ok (.ifCond .eq 7, 3) := by decide +kernel
theorem dX2_clear_9 : decode cX2_clear 9 = .ok (.iconst 0, 1) := by decide +kernel
theorem dX2_clear_10 : decode cX2_clear 10 = .ok (.goto 4, 3) := by decide +kernel
theorem dX2_clear_13 : decode cX2_clear 13 = .ok (.iconst 1, 1) := by decide +kernel
theorem dX2_clear_14 : decode cX2_clear 14 = .ok (.putfield 51, 3) := by decide +kernel
theorem dX2_clear_17 : decode cX2_clear 17 = .ok (.aload_n 0, 1) := by decide +kernel
theorem dX2_clear_18 : decode cX2_clear 18 = .ok (.getfield 51, 3) := by decide +kernel
theorem dX2_clear_21 : decode cX2_clear 21 = .ok (.ifCond .le 5, 3) := by decide +kernel
theorem dX2_clear_24 : decode cX2_clear 24 = .ok (.iconst 0, 1) := by decide +kernel
theorem dX2_clear_25 : decode cX2_clear 25 = .ok (.ireturn, 1) := by decide +kernel
theorem dX2_clear_26 : decode cX2_clear 26 = .ok (.aload_n 0, 1) := by decide +kernel
theorem dX2_clear_27 : decode cX2_clear 27 = .ok (.getfield 30, 3) := by decide +kernel
theorem dX2_clear_30 : decode cX2_clear 30 = .ok (.iload_n 1, 1) := by decide +kernel
theorem dX2_clear_31 : decode cX2_clear 31 = .ok (.baload, 1) := by decide +kernel
theorem dX2_clear_32 : decode cX2_clear 32 = .ok (.istore_n 2, 1) := by decide +kernel
theorem dX2_clear_33 : decode cX2_clear 33 = .ok (.aload_n 0, 1) := by decide +kernel
theorem dX2_clear_34 : decode cX2_clear 34 = .ok (.getfield 30, 3) := by decide +kernel
theorem dX2_clear_37 : decode cX2_clear 37 = .ok (.iload_n 1, 1) := by decide +kernel
theorem dX2_clear_38 : decode cX2_clear 38 = .ok (.iconst 0, 1) := by decide +kernel
theorem dX2_clear_39 : decode cX2_clear 39 = .ok (.bastore, 1) := by decide +kernel
theorem dX2_clear_40 : decode cX2_clear 40 = .ok (.iload_n 2, 1) := by decide +kernel
theorem dX2_clear_41 : decode cX2_clear 41 = .ok (.ireturn, 1) := by decide +kernel
set_option maxRecDepth 20000 in
theorem ggX2_value_X2_isThere : GoodIn wsX2_value wsX2_isThere := goodIn_r _ [7, 8, 9, 10, 11, 12, 13, 14, 15, 16, 17, 18, 19, 20, 21, 22] (by decide +kernel) (by decide +kernel)
set_option maxRecDepth 20000 in
theorem gX2_value_X2_isThere : GoodIn wsX2_value (wsV RX2 150 RX2 yX2_isThere wsX2_isThere) := goodIn_app (goodIn_of _ (by decide +kernel)) ggX2_value_X2_isThere
theorem dX2_value_0 : decode cX2_value 0 = .ok (.aload_n 0, 1) := by decide +kernel
theorem dX2_value_1 : decode cX2_value 1 = .ok (.aload_n 0, 1) := by decide +kernel
theorem dX2_value_2 : decode cX2_value 2 = .ok (.iload_n 1, 1) := by decide +kernel
theorem dX2_value_3 : decode cX2_value 3 = .ok (.invokevirtual 150, 3) := by decide +kernel
theorem dX2_value_6 : decode cX2_value 6 = .ok (.ifCond .eq 7, 3) := by decide +kernel
theorem dX2_value_9 : decode cX2_value 9 = .ok (.iconst 0, 1) := by decide +kernel
theorem dX2_value_10 : decode cX2_value 10 = .ok (.goto 4, 3) := by decide +kernel
theorem dX2_value_13 : decode cX2_value 13 = .ok (.iconst 1, 1) := by decide +kernel
theorem dX2_value_14 : decode cX2_value 14 = .ok (.putfield 51, 3) := by decide +kernel
theorem dX2_value_17 : decode cX2_value 17 = .ok (.aload_n 0, 1) := by decide +kernel
theorem dX2_value_18 : decode cX2_value 18 = .ok (.getfield 51, 3) := by decide +kernel
theorem dX2_value_21 : decode cX2_value 21 = .ok (.ifCond .le 7, 3) := by decide +kernel
theorem dX2_value_24 : decode cX2_value 24 = .ok (.lconst 0, 1) := by decide +kernel
theorem dX2_value_25 : decode cX2_value 25 = .ok (.goto 9, 3) := by decide +kernel
theorem dX2_value_28 : decode cX2_value 28 = .ok (.aload_n 0, 1) := by decide +kernel
theorem dX2_value_29 : decode cX2_value 29 = .ok (.getfield 17, 3) := by decide +kernel
theorem dX2_value_32 : decode cX2_value 32 = .ok (.iload_n 1, 1) := by decide +kernel
theorem dX2_value_33 : decode cX2_value 33 = .ok (.laload, 1) := by decide +kernel
theorem dX2_value_34 : decode cX2_value 34 = .ok (.lreturn, 1) := by decide +kernel
set_option maxRecDepth 20000 in
theorem ggX2_mark_X2_isThere : GoodIn wsX2_mark wsX2_isThere := goodIn_r _ [9, 10, 11, 12, 13, 14, 15, 16, 17, 18, 19, 20, 21, 22, 23, 24] (by decide +kernel) (by decide +kernel)
set_option maxRecDepth 20000 in
theorem gX2_mark_X2_isThere : GoodIn wsX2_mark (wsV RX2 150 RX2 yX2_isThere wsX2_isThere) := goodIn_app (goodIn_of _ (by decide +kernel)) ggX2_mark_X2_isThere
theorem dX2_mark_0 : decode cX2_mark 0 = .ok (.aload_n 0, 1) := by decide +kernel
theorem dX2_mark_1 : decode cX2_mark 1 = .ok (.aload_n 0, 1) := by decide +kernel
theorem dX2_mark_2 : decode cX2_mark 2 = .ok (.iload_n 1, 1) := by decide +kernel
theorem dX2_mark_3 : decode cX2_mark 3 = .ok (.invokevirtual 150, 3) := by decide +kernel
theorem dX2_mark_6 : decode cX2_mark 6 = .ok (.ifCond .ne 7, 3) := by decide +kernel
theorem dX2_mark_9 : decode cX2_mark 9 = .ok (.iconst 1, 1) := by decide +kernel
theorem dX2_mark_10 : decode cX2_mark 10 = .ok (.goto 17, 3) := by decide +kernel
theorem dX2_mark_13 : decode cX2_mark 13 = .ok (.aload_n 0, 1) := by decide +kernel
theorem dX2_mark_14 : decode cX2_mark 14 = .ok (.getfield 30, 3) := by decide +kernel
theorem dX2_mark_17 : decode cX2_mark 17 = .ok (.iload_n 1, 1) := by decide +kernel
theorem dX2_mark_18 : decode cX2_mark 18 = .ok (.baload, 1) := by decide +kernel
theorem dX2_mark_19 : decode cX2_mark 19 = .ok (.ifCond .ne 7, 3) := by decide +kernel
theorem dX2_mark_22 : decode cX2_mark 22 = .ok (.iconst 2, 1) := by decide +kernel
theorem dX2_mark_23 : decode cX2_mark 23 = .ok (.goto 4, 3) := by decide +kernel
theorem dX2_mark_26 : decode cX2_mark 26 = .ok (.iconst 0, 1) := by decide +kernel
theorem dX2_mark_27 : decode cX2_mark 27 = .ok (.putfield 51, 3) := by decide +kernel
theorem dX2_mark_30 : decode cX2_mark 30 = .ok (.aload_n 0, 1) := by decide +kernel
theorem dX2_mark_31 : decode cX2_mark 31 = .ok (.getfield 51, 3) := by decide +kernel
theorem dX2_mark_34 : decode cX2_mark 34 = .ok (.ifCond .le 7, 3) := by decide +kernel
theorem dX2_mark_37 : decode cX2_mark 37 = .ok (.lconst 0, 1) := by decide +kernel
theorem dX2_mark_38 : decode cX2_mark 38 = .ok (.goto 22, 3) := by decide +kernel
theorem dX2_mark_41 : decode cX2_mark 41 = .ok (.iload_n 2, 1) := by decide +kernel
theorem dX2_mark_42 : decode cX2_mark 42 = .ok (.ifCond .eq 12, 3) := by decide +kernel
theorem dX2_mark_45 : decode cX2_mark 45 = .ok (.aload_n 0, 1) := by decide +kernel
theorem dX2_mark_46 : decode cX2_mark 46 = .ok (.getfield 33, 3) := by decide +kernel
theorem dX2_mark_49 : decode cX2_mark 49 = .ok (.iload_n 1, 1) := by decide +kernel
theorem dX2_mark_50 : decode cX2_mark 50 = .ok (.laload, 1) := by decide +kernel
theorem dX2_mark_51 : decode cX2_mark 51 = .ok (.goto 9, 3) := by decide +kernel
theorem dX2_mark_54 : decode cX2_mark 54 = .ok (.aload_n 0, 1) := by decide +kernel
theorem dX2_mark_55 : decode cX2_mark 55 = .ok (.getfield 36, 3) := by decide +kernel
theorem dX2_mark_58 : decode cX2_mark 58 = .ok (.iload_n 1, 1) := by decide +kernel
theorem dX2_mark_59 : decode cX2_mark 59 = .ok (.laload, 1) := by decide +kernel
theorem dX2_mark_60 : decode cX2_mark 60 = .ok (.lreturn, 1) := by decide +kernel
set_option maxRecDepth 20000 in
theorem ggX2_about_X2_isThere : GoodIn wsX2_about wsX2_isThere := goodIn_r _ [11, 12, 23, 24, 25, 26, 27, 28, 29, 30, 31, 32, 33, 34, 35, 36] (by decide +kernel) (by decide +kernel)
set_option maxRecDepth 20000 in
theorem gX2_about_X2_isThere : GoodIn wsX2_about (wsV RX2 150 RX2 yX2_isThere wsX2_isThere) := goodIn_app (goodIn_of _ (by decide +kernel)) ggX2_about_X2_isThere
set_option maxRecDepth 20000 in
theorem ggX2_about_X2_takers : GoodIn wsX2_about wsX2_takers := goodIn_r _ [16, 12, 17, 18, 19, 10, 20, 3, 21, 22, 23, 24, 25, 26, 27, 28, 29, 30, 31, 32, 33, 34, 35, 36] (by decide +kernel) (by decide +kernel)
set_option maxRecDepth 20000 in
theorem gX2_about_X2_takers : GoodIn wsX2_about (wsV RX2 139 RX2 yX2_takers wsX2_takers) := goodIn_app (goodIn_of _ (by decide +kernel)) ggX2_about_X2_takers
theorem dX2_about_0 : decode cX2_about 0 = .ok (.aload_n 0, 1) := by decide +kernel
theorem dX2_about_1 : decode cX2_about 1 = .ok (.aload_n 0, 1) := by decide +kernel
theorem dX2_about_2 : decode cX2_about 2 = .ok (.iload_n 1, 1) := by decide +kernel
theorem dX2_about_3 : decode cX2_about 3 = .ok (.invokevirtual 150, 3) := by decide +kernel
theorem dX2_about_6 : decode cX2_about 6 = .ok (.ifCond .ne 7, 3) := by decide +kernel
theorem dX2_about_9 : decode cX2_about 9 = .ok (.iconst 1, 1) := by decide +kernel
theorem dX2_about_10 : decode cX2_about 10 = .ok (.goto 17, 3) := by decide +kernel
theorem dX2_about_13 : decode cX2_about 13 = .ok (.iload_n 2, 1) := by decide +kernel
theorem dX2_about_14 : decode cX2_about 14 = .ok (.ifCond .lt 8, 3) := by decide +kernel
theorem dX2_about_17 : decode cX2_about 17 = .ok (.iload_n 2, 1) := by decide +kernel
theorem dX2_about_18 : decode cX2_about 18 = .ok (.iconst 5, 1) := by decide +kernel
theorem dX2_about_19 : decode cX2_about 19 = .ok (.if_icmp .le 7, 3) := by decide +kernel
theorem dX2_about_22 : decode cX2_about 22 = .ok (.iconst 2, 1) := by decide +kernel
theorem dX2_about_23 : decode cX2_about 23 = .ok (.goto 4, 3) := by decide +kernel
theorem dX2_about_26 : decode cX2_about 26 = .ok (.iconst 0, 1) := by decide +kernel
theorem dX2_about_27 : decode cX2_about 27 = .ok (.putfield 51, 3) := by decide +kernel
theorem dX2_about_30 : decode cX2_about 30 = .ok (.aload_n 0, 1) := by decide +kernel
theorem dX2_about_31 : decode cX2_about 31 = .ok (.getfield 51, 3) := by decide +kernel
theorem dX2_about_34 : decode cX2_about 34 = .ok (.ifCond .le 5, 3) := by decide +kernel
theorem dX2_about_37 : decode cX2_about 37 = .ok (.iconst 0, 1) := by decide +kernel
theorem dX2_about_38 : decode cX2_about 38 = .ok (.ireturn, 1) := by decide +kernel
theorem dX2_about_39 : decode cX2_about 39 = .ok (.iload_n 2, 1) := by decide +kernel
theorem dX2_about_40 : decode cX2_about 40 = .ok (.tableswitch 81 0 4 #[36, 43, 50, 57, 64], 36) := by decide +kernel
theorem dX2_about_76 : decode cX2_about 76 = .ok (.aload_n 0, 1) := by decide +kernel
theorem dX2_about_77 : decode cX2_about 77 = .ok (.getfield 13, 3) := by decide +kernel
theorem dX2_about_80 : decode cX2_about 80 = .ok (.iload_n 1, 1) := by decide +kernel
theorem dX2_about_81 : decode cX2_about 81 = .ok (.iaload, 1) := by decide +kernel
theorem dX2_about_82 : decode cX2_about 82 = .ok (.ireturn, 1) := by decide +kernel
theorem dX2_about_83 : decode cX2_about 83 = .ok (.aload_n 0, 1) := by decide +kernel
theorem dX2_about_84 : decode cX2_about 84 = .ok (.getfield 21, 3) := by decide +kernel
theorem dX2_about_87 : decode cX2_about 87 = .ok (.iload_n 1, 1) := by decide +kernel
theorem dX2_about_88 : decode cX2_about 88 = .ok (.iaload, 1) := by decide +kernel
theorem dX2_about_89 : decode cX2_about 89 = .ok (.ireturn, 1) := by decide +kernel
theorem dX2_about_90 : decode cX2_about 90 = .ok (.aload_n 0, 1) := by decide +kernel
theorem dX2_about_91 : decode cX2_about 91 = .ok (.getfield 24, 3) := by decide +kernel
theorem dX2_about_94 : decode cX2_about 94 = .ok (.iload_n 1, 1) := by decide +kernel
theorem dX2_about_95 : decode cX2_about 95 = .ok (.iaload, 1) := by decide +kernel
theorem dX2_about_96 : decode cX2_about 96 = .ok (.ireturn, 1) := by decide +kernel
theorem dX2_about_97 : decode cX2_about 97 = .ok (.aload_n 0, 1) := by decide +kernel
theorem dX2_about_98 : decode cX2_about 98 = .ok (.getfield 27, 3) := by decide +kernel
theorem dX2_about_101 : decode cX2_about 101 = .ok (.iload_n 1, 1) := by decide +kernel
theorem dX2_about_102 : decode cX2_about 102 = .ok (.iaload, 1) := by decide +kernel
theorem dX2_about_103 : decode cX2_about 103 = .ok (.ireturn, 1) := by decide +kernel
theorem dX2_about_104 : decode cX2_about 104 = .ok (.aload_n 0, 1) := by decide +kernel
theorem dX2_about_105 : decode cX2_about 105 = .ok (.getfield 17, 3) := by decide +kernel
theorem dX2_about_108 : decode cX2_about 108 = .ok (.iload_n 1, 1) := by decide +kernel
theorem dX2_about_109 : decode cX2_about 109 = .ok (.laload, 1) := by decide +kernel
theorem dX2_about_110 : decode cX2_about 110 = .ok (.lconst 0, 1) := by decide +kernel
theorem dX2_about_111 : decode cX2_about 111 = .ok (.lcmp, 1) := by decide +kernel
theorem dX2_about_112 : decode cX2_about 112 = .ok (.ifCond .ge 7, 3) := by decide +kernel
theorem dX2_about_115 : decode cX2_about 115 = .ok (.iconst 1, 1) := by decide +kernel
theorem dX2_about_116 : decode cX2_about 116 = .ok (.goto 4, 3) := by decide +kernel
theorem dX2_about_119 : decode cX2_about 119 = .ok (.iconst 0, 1) := by decide +kernel
theorem dX2_about_120 : decode cX2_about 120 = .ok (.ireturn, 1) := by decide +kernel
theorem dX2_about_121 : decode cX2_about 121 = .ok (.aload_n 0, 1) := by decide +kernel
theorem dX2_about_122 : decode cX2_about 122 = .ok (.iload_n 1, 1) := by decide +kernel
theorem dX2_about_123 : decode cX2_about 123 = .ok (.invokevirtual 139, 3) := by decide +kernel
theorem dX2_about_126 : decode cX2_about 126 = .ok (.ireturn, 1) := by decide +kernel
set_option maxRecDepth 20000 in
theorem ggX2_stepAt_X2_isThere : GoodIn wsX2_stepAt wsX2_isThere := goodIn_r _ [10, 11, 12, 13, 14, 15, 16, 17, 18, 19, 20, 21, 22, 23, 24, 25] (by decide +kernel) (by decide +kernel)
set_option maxRecDepth 20000 in
theorem gX2_stepAt_X2_isThere : GoodIn wsX2_stepAt (wsV RX2 150 RX2 yX2_isThere wsX2_isThere) := goodIn_app (goodIn_of _ (by decide +kernel)) ggX2_stepAt_X2_isThere
theorem dX2_stepAt_0 : decode cX2_stepAt 0 = .ok (.aload_n 0, 1) := by decide +kernel
theorem dX2_stepAt_1 : decode cX2_stepAt 1 = .ok (.aload_n 0, 1) := by decide +kernel
theorem dX2_stepAt_2 : decode cX2_stepAt 2 = .ok (.iload_n 1, 1) := by decide +kernel
theorem dX2_stepAt_3 : decode cX2_stepAt 3 = .ok (.invokevirtual 150, 3) := by decide +kernel
theorem dX2_stepAt_6 : decode cX2_stepAt 6 = .ok (.ifCond .eq 17, 3) := by decide +kernel
theorem dX2_stepAt_9 : decode cX2_stepAt 9 = .ok (.iload_n 2, 1) := by decide +kernel
theorem dX2_stepAt_10 : decode cX2_stepAt 10 = .ok (.ifCond .lt 13, 3) := by decide +kernel
theorem dX2_stepAt_13 : decode cX2_stepAt 13 = .ok (.iload_n 2, 1) := by decide +kernel
theorem dX2_stepAt_14 : decode cX2_stepAt 14 = .ok (.aload_n 0, 1) := by decide +kernel
theorem dX2_stepAt_15 : decode cX2_stepAt 15 = .ok (.getfield 21, 3) := by decide +kernel
theorem dX2_stepAt_18 : decode cX2_stepAt 18 = .ok (.iload_n 1, 1) := by decide +kernel
theorem dX2_stepAt_19 : decode cX2_stepAt 19 = .ok (.iaload, 1) := by decide +kernel
theorem dX2_stepAt_20 : decode cX2_stepAt 20 = .ok (.if_icmp .lt 7, 3) := by decide +kernel
theorem dX2_stepAt_23 : decode cX2_stepAt 23 = .ok (.iconst 1, 1) := by decide +kernel
theorem dX2_stepAt_24 : decode cX2_stepAt 24 = .ok (.goto 17, 3) := by decide +kernel
theorem dX2_stepAt_27 : decode cX2_stepAt 27 = .ok (.iload_n 3, 1) := by decide +kernel
theorem dX2_stepAt_28 : decode cX2_stepAt 28 = .ok (.ifCond .lt 8, 3) := by decide +kernel
theorem dX2_stepAt_31 : decode cX2_stepAt 31 = .ok (.iload_n 3, 1) := by decide +kernel
theorem dX2_stepAt_32 : decode cX2_stepAt 32 = .ok (.iconst 2, 1) := by decide +kernel
theorem dX2_stepAt_33 : decode cX2_stepAt 33 = .ok (.if_icmp .le 7, 3) := by decide +kernel
theorem dX2_stepAt_36 : decode cX2_stepAt 36 = .ok (.iconst 2, 1) := by decide +kernel
theorem dX2_stepAt_37 : decode cX2_stepAt 37 = .ok (.goto 4, 3) := by decide +kernel
theorem dX2_stepAt_40 : decode cX2_stepAt 40 = .ok (.iconst 0, 1) := by decide +kernel
theorem dX2_stepAt_41 : decode cX2_stepAt 41 = .ok (.putfield 51, 3) := by decide +kernel
theorem dX2_stepAt_44 : decode cX2_stepAt 44 = .ok (.aload_n 0, 1) := by decide +kernel
theorem dX2_stepAt_45 : decode cX2_stepAt 45 = .ok (.getfield 51, 3) := by decide +kernel
theorem dX2_stepAt_48 : decode cX2_stepAt 48 = .ok (.ifCond .le 5, 3) := by decide +kernel
theorem dX2_stepAt_51 : decode cX2_stepAt 51 = .ok (.iconst 0, 1) := by decide +kernel
theorem dX2_stepAt_52 : decode cX2_stepAt 52 = .ok (.ireturn, 1) := by decide +kernel
theorem dX2_stepAt_53 : decode cX2_stepAt 53 = .ok (.bipush 8, 2) := by decide +kernel
theorem dX2_stepAt_55 : decode cX2_stepAt 55 = .ok (.iload_n 1, 1) := by decide +kernel
theorem dX2_stepAt_56 : decode cX2_stepAt 56 = .ok (.imul, 1) := by decide +kernel
theorem dX2_stepAt_57 : decode cX2_stepAt 57 = .ok (.iload_n 2, 1) := by decide +kernel
theorem dX2_stepAt_58 : decode cX2_stepAt 58 = .ok (.iadd, 1) := by decide +kernel
theorem dX2_stepAt_59 : decode cX2_stepAt 59 = .ok (.istore 4, 2) := by decide +kernel
theorem dX2_stepAt_61 : decode cX2_stepAt 61 = .ok (.iload_n 3, 1) := by decide +kernel
theorem dX2_stepAt_62 : decode cX2_stepAt 62 = .ok (.ifCond .ne 13, 3) := by decide +kernel
theorem dX2_stepAt_65 : decode cX2_stepAt 65 = .ok (.aload_n 0, 1) := by decide +kernel
theorem dX2_stepAt_66 : decode cX2_stepAt 66 = .ok (.getfield 39, 3) := by decide +kernel
theorem dX2_stepAt_69 : decode cX2_stepAt 69 = .ok (.iload 4, 2) := by decide +kernel
theorem dX2_stepAt_71 : decode cX2_stepAt 71 = .ok (.iaload, 1) := by decide +kernel
theorem dX2_stepAt_72 : decode cX2_stepAt 72 = .ok (.goto 25, 3) := by decide +kernel
theorem dX2_stepAt_75 : decode cX2_stepAt 75 = .ok (.iload_n 3, 1) := by decide +kernel
theorem dX2_stepAt_76 : decode cX2_stepAt 76 = .ok (.iconst 1, 1) := by decide +kernel
theorem dX2_stepAt_77 : decode cX2_stepAt 77 = .ok (.if_icmp .ne 13, 3) := by decide +kernel
theorem dX2_stepAt_80 : decode cX2_stepAt 80 = .ok (.aload_n 0, 1) := by decide +kernel
theorem dX2_stepAt_81 : decode cX2_stepAt 81 = .ok (.getfield 42, 3) := by decide +kernel
theorem dX2_stepAt_84 : decode cX2_stepAt 84 = .ok (.iload 4, 2) := by decide +kernel
theorem dX2_stepAt_86 : decode cX2_stepAt 86 = .ok (.iaload, 1) := by decide +kernel
theorem dX2_stepAt_87 : decode cX2_stepAt 87 = .ok (.goto 10, 3) := by decide +kernel
theorem dX2_stepAt_90 : decode cX2_stepAt 90 = .ok (.aload_n 0, 1) := by decide +kernel
theorem dX2_stepAt_91 : decode cX2_stepAt 91 = .ok (.getfield 48, 3) := by decide +kernel
theorem dX2_stepAt_94 : decode cX2_stepAt 94 = .ok (.iload 4, 2) := by decide +kernel
theorem dX2_stepAt_96 : decode cX2_stepAt 96 = .ok (.iaload, 1) := by decide +kernel
theorem dX2_stepAt_97 : decode cX2_stepAt 97 = .ok (.ireturn, 1) := by decide +kernel
set_option maxRecDepth 20000 in
theorem ggX2_rank_X2_isThere : GoodIn wsX2_rank wsX2_isThere := goodIn_r _ [9, 2, 18, 19, 20, 21, 22, 23, 24, 25, 26, 27, 28, 29, 30, 31] (by decide +kernel) (by decide +kernel)
set_option maxRecDepth 20000 in
theorem gX2_rank_X2_isThere : GoodIn wsX2_rank (wsV RX2 150 RX2 yX2_isThere wsX2_isThere) := goodIn_app (goodIn_of _ (by decide +kernel)) ggX2_rank_X2_isThere
set_option maxRecDepth 20000 in
theorem ggX2_rank_X2_isAbove : GoodIn wsX2_rank wsX2_isAbove := goodIn_r _ [12, 13, 14, 8, 15, 16, 17] (by decide +kernel) (by decide +kernel)
set_option maxRecDepth 20000 in
theorem gX2_rank_X2_isAbove : GoodIn wsX2_rank (va_wsS RX2 95 yX2_isAbove wsX2_isAbove) := goodIn_app (goodIn_of _ (by decide +kernel)) ggX2_rank_X2_isAbove
theorem dX2_rank_0 : decode cX2_rank 0 = .ok (.aload_n 0, 1) := by decide +kernel
theorem dX2_rank_1 : decode cX2_rank 1 = .ok (.aload_n 0, 1) := by decide +kernel
theorem dX2_rank_2 : decode cX2_rank 2 = .ok (.iload_n 1, 1) := by decide +kernel
theorem dX2_rank_3 : decode cX2_rank 3 = .ok (.invokevirtual 150, 3) := by decide +kernel
theorem dX2_rank_6 : decode cX2_rank 6 = .ok (.ifCond .eq 7, 3) := by decide +kernel
theorem dX2_rank_9 : decode cX2_rank 9 = .ok (.iconst 0, 1) := by decide +kernel
theorem dX2_rank_10 : decode cX2_rank 10 = .ok (.goto 4, 3) := by decide +kernel
theorem dX2_rank_13 : decode cX2_rank 13 = .ok (.iconst 1, 1) := by decide +kernel
theorem dX2_rank_14 : decode cX2_rank 14 = .ok (.putfield 51, 3) := by decide +kernel
theorem dX2_rank_17 : decode cX2_rank 17 = .ok (.aload_n 0, 1) := by decide +kernel
theorem dX2_rank_18 : decode cX2_rank 18 = .ok (.getfield 51, 3) := by decide +kernel
theorem dX2_rank_21 : decode cX2_rank 21 = .ok (.ifCond .le 5, 3) := by decide +kernel
theorem dX2_rank_24 : decode cX2_rank 24 = .ok (.iconst 0, 1) := by decide +kernel
theorem dX2_rank_25 : decode cX2_rank 25 = .ok (.ireturn, 1) := by decide +kernel
theorem dX2_rank_26 : decode cX2_rank 26 = .ok (.iconst 0, 1) := by decide +kernel
theorem dX2_rank_27 : decode cX2_rank 27 = .ok (.istore_n 2, 1) := by decide +kernel
theorem dX2_rank_28 : decode cX2_rank 28 = .ok (.iconst 0, 1) := by decide +kernel
theorem dX2_rank_29 : decode cX2_rank 29 = .ok (.istore_n 3, 1) := by decide +kernel
theorem dX2_rank_30 : decode cX2_rank 30 = .ok (.iload_n 3, 1) := by decide +kernel
theorem dX2_rank_31 : decode cX2_rank 31 = .ok (.bipush 12, 2) := by decide +kernel
theorem dX2_rank_33 : decode cX2_rank 33 = .ok (.if_icmp .ge 60, 3) := by decide +kernel
theorem dX2_rank_36 : decode cX2_rank 36 = .ok (.aload_n 0, 1) := by decide +kernel
theorem dX2_rank_37 : decode cX2_rank 37 = .ok (.getfield 7, 3) := by decide +kernel
theorem dX2_rank_40 : decode cX2_rank 40 = .ok (.iload_n 3, 1) := by decide +kernel
theorem dX2_rank_41 : decode cX2_rank 41 = .ok (.baload, 1) := by decide +kernel
theorem dX2_rank_42 : decode cX2_rank 42 = .ok (.ifCond .eq 45, 3) := by decide +kernel
theorem dX2_rank_45 : decode cX2_rank 45 = .ok (.aload_n 0, 1) := by decide +kernel
theorem dX2_rank_46 : decode cX2_rank 46 = .ok (.getfield 13, 3) := by decide +kernel
theorem dX2_rank_49 : decode cX2_rank 49 = .ok (.iload_n 3, 1) := by decide +kernel
theorem dX2_rank_50 : decode cX2_rank 50 = .ok (.iaload, 1) := by decide +kernel
theorem dX2_rank_51 : decode cX2_rank 51 = .ok (.aload_n 0, 1) := by decide +kernel
theorem dX2_rank_52 : decode cX2_rank 52 = .ok (.getfield 13, 3) := by decide +kernel
theorem dX2_rank_55 : decode cX2_rank 55 = .ok (.iload_n 1, 1) := by decide +kernel
theorem dX2_rank_56 : decode cX2_rank 56 = .ok (.iaload, 1) := by decide +kernel
theorem dX2_rank_57 : decode cX2_rank 57 = .ok (.if_icmp .ne 30, 3) := by decide +kernel
theorem dX2_rank_60 : decode cX2_rank 60 = .ok (.aload_n 0, 1) := by decide +kernel
theorem dX2_rank_61 : decode cX2_rank 61 = .ok (.getfield 17, 3) := by decide +kernel
theorem dX2_rank_64 : decode cX2_rank 64 = .ok (.iload_n 3, 1) := by decide +kernel
theorem dX2_rank_65 : decode cX2_rank 65 = .ok (.laload, 1) := by decide +kernel
theorem dX2_rank_66 : decode cX2_rank 66 = .ok (.aload_n 0, 1) := by decide +kernel
theorem dX2_rank_67 : decode cX2_rank 67 = .ok (.getfield 17, 3) := by decide +kernel
theorem dX2_rank_70 : decode cX2_rank 70 = .ok (.iload_n 1, 1) := by decide +kernel
theorem dX2_rank_71 : decode cX2_rank 71 = .ok (.laload, 1) := by decide +kernel
theorem dX2_rank_72 : decode cX2_rank 72 = .ok (.aload_n 0, 1) := by decide +kernel
theorem dX2_rank_73 : decode cX2_rank 73 = .ok (.getfield 13, 3) := by decide +kernel
theorem dX2_rank_76 : decode cX2_rank 76 = .ok (.iload_n 1, 1) := by decide +kernel
theorem dX2_rank_77 : decode cX2_rank 77 = .ok (.iaload, 1) := by decide +kernel
theorem dX2_rank_78 : decode cX2_rank 78 = .ok (.invokestatic 95, 3) := by decide +kernel
theorem dX2_rank_81 : decode cX2_rank 81 = .ok (.ifCond .ne 6, 3) := by decide +kernel
theorem dX2_rank_84 : decode cX2_rank 84 = .ok (.iinc 2 1, 3) := by decide +kernel
theorem dX2_rank_87 : decode cX2_rank 87 = .ok (.iinc 3 1, 3) := by decide +kernel
theorem dX2_rank_90 : decode cX2_rank 90 = .ok (.goto (-60), 3) := by decide +kernel
theorem dX2_rank_93 : decode cX2_rank 93 = .ok (.iload_n 2, 1) := by decide +kernel
theorem dX2_rank_94 : decode cX2_rank 94 = .ok (.ireturn, 1) := by decide +kernel
set_option maxRecDepth 20000 in
theorem ggX2_most_X2_isAbove : GoodIn wsX2_most wsX2_isAbove := goodIn_r _ [8, 9, 10, 7, 11, 12, 13] (by decide +kernel) (by decide +kernel)
set_option maxRecDepth 20000 in
theorem gX2_most_X2_isAbove : GoodIn wsX2_most (va_wsS RX2 95 yX2_isAbove wsX2_isAbove) := goodIn_app (goodIn_of _ (by decide +kernel)) ggX2_most_X2_isAbove
theorem dX2_most_0 : decode cX2_most 0 = .ok (.aload_n 0, 1) := by decide +kernel
theorem dX2_most_1 : decode cX2_most 1 = .ok (.iload_n 1, 1) := by decide +kernel
theorem dX2_most_2 : decode cX2_most 2 = .ok (.ifCond .lt 8, 3) := by decide +kernel
theorem dX2_most_5 : decode cX2_most 5 = .ok (.iload_n 1, 1) := by decide +kernel
theorem dX2_most_6 : decode cX2_most 6 = .ok (.iconst 3, 1) := by decide +kernel
theorem dX2_most_7 : decode cX2_most 7 = .ok (.if_icmp .le 7, 3) := by decide +kernel
theorem dX2_most_10 : decode cX2_most 10 = .ok (.iconst 1, 1) := by decide +kernel
theorem dX2_most_11 : decode cX2_most 11 = .ok (.goto 4, 3) := by decide +kernel
theorem dX2_most_14 : decode cX2_most 14 = .ok (.iconst 0, 1) := by decide +kernel
theorem dX2_most_15 : decode cX2_most 15 = .ok (.putfield 51, 3) := by decide +kernel
theorem dX2_most_18 : decode cX2_most 18 = .ok (.aload_n 0, 1) := by decide +kernel
theorem dX2_most_19 : decode cX2_most 19 = .ok (.getfield 51, 3) := by decide +kernel
theorem dX2_most_22 : decode cX2_most 22 = .ok (.ifCond .le 5, 3) := by decide +kernel
theorem dX2_most_25 : decode cX2_most 25 = .ok (.lconst 0, 1) := by decide +kernel
theorem dX2_most_26 : decode cX2_most 26 = .ok (.lreturn, 1) := by decide +kernel
theorem dX2_most_27 : decode cX2_most 27 = .ok (.iconst (-1), 1) := by decide +kernel
theorem dX2_most_28 : decode cX2_most 28 = .ok (.istore_n 3, 1) := by decide +kernel
theorem dX2_most_29 : decode cX2_most 29 = .ok (.iconst 0, 1) := by decide +kernel
theorem dX2_most_30 : decode cX2_most 30 = .ok (.istore 4, 2) := by decide +kernel
theorem dX2_most_32 : decode cX2_most 32 = .ok (.iload 4, 2) := by decide +kernel
theorem dX2_most_34 : decode cX2_most 34 = .ok (.bipush 12, 2) := by decide +kernel
theorem dX2_most_36 : decode cX2_most 36 = .ok (.if_icmp .ge 103, 3) := by decide +kernel
theorem dX2_most_39 : decode cX2_most 39 = .ok (.aload_n 0, 1) := by decide +kernel
theorem dX2_most_40 : decode cX2_most 40 = .ok (.getfield 7, 3) := by decide +kernel
theorem dX2_most_43 : decode cX2_most 43 = .ok (.iload 4, 2) := by decide +kernel
theorem dX2_most_45 : decode cX2_most 45 = .ok (.baload, 1) := by decide +kernel
theorem dX2_most_46 : decode cX2_most 46 = .ok (.ifCond .eq 87, 3) := by decide +kernel
theorem dX2_most_49 : decode cX2_most 49 = .ok (.aload_n 0, 1) := by decide +kernel
theorem dX2_most_50 : decode cX2_most 50 = .ok (.getfield 13, 3) := by decide +kernel
theorem dX2_most_53 : decode cX2_most 53 = .ok (.iload 4, 2) := by decide +kernel
theorem dX2_most_55 : decode cX2_most 55 = .ok (.iaload, 1) := by decide +kernel
theorem dX2_most_56 : decode cX2_most 56 = .ok (.iload_n 1, 1) := by decide +kernel
theorem dX2_most_57 : decode cX2_most 57 = .ok (.if_icmp .eq 6, 3) := by decide +kernel
theorem dX2_most_60 : decode cX2_most 60 = .ok (.goto 73, 3) := by decide +kernel
theorem dX2_most_63 : decode cX2_most 63 = .ok (.iload_n 3, 1) := by decide +kernel
theorem dX2_most_64 : decode cX2_most 64 = .ok (.ifCond .lt 50, 3) := by decide +kernel
theorem dX2_most_67 : decode cX2_most 67 = .ok (.iload_n 2, 1) := by decide +kernel
theorem dX2_most_68 : decode cX2_most 68 = .ok (.ifCond .eq 26, 3) := by decide +kernel
theorem dX2_most_71 : decode cX2_most 71 = .ok (.aload_n 0, 1) := by decide +kernel
theorem dX2_most_72 : decode cX2_most 72 = .ok (.getfield 17, 3) := by decide +kernel
theorem dX2_most_75 : decode cX2_most 75 = .ok (.iload 4, 2) := by decide +kernel
theorem dX2_most_77 : decode cX2_most 77 = .ok (.laload, 1) := by decide +kernel
theorem dX2_most_78 : decode cX2_most 78 = .ok (.aload_n 0, 1) := by decide +kernel
theorem dX2_most_79 : decode cX2_most 79 = .ok (.getfield 17, 3) := by decide +kernel
theorem dX2_most_82 : decode cX2_most 82 = .ok (.iload_n 3, 1) := by decide +kernel
theorem dX2_most_83 : decode cX2_most 83 = .ok (.laload, 1) := by decide +kernel
theorem dX2_most_84 : decode cX2_most 84 = .ok (.iload_n 1, 1) := by decide +kernel
theorem dX2_most_85 : decode cX2_most 85 = .ok (.invokestatic 95, 3) := by decide +kernel
theorem dX2_most_88 : decode cX2_most 88 = .ok (.ifCond .eq 30, 3) := by decide +kernel
theorem dX2_most_91 : decode cX2_most 91 = .ok (.goto 23, 3) := by decide +kernel
theorem dX2_most_94 : decode cX2_most 94 = .ok (.aload_n 0, 1) := by decide +kernel
theorem dX2_most_95 : decode cX2_most 95 = .ok (.getfield 17, 3) := by decide +kernel
theorem dX2_most_98 : decode cX2_most 98 = .ok (.iload_n 3, 1) := by decide +kernel
theorem dX2_most_99 : decode cX2_most 99 = .ok (.laload, 1) := by decide +kernel
theorem dX2_most_100 : decode cX2_most 100 = .ok (.aload_n 0, 1) := by decide +kernel
theorem dX2_most_101 : decode cX2_most 101 = .ok (.getfield 17, 3) := by decide +kernel
theorem dX2_most_104 : decode cX2_most 104 = .ok (.iload 4, 2) := by decide +kernel
theorem dX2_most_106 : decode cX2_most 106 = .ok (.laload, 1) := by decide +kernel
theorem dX2_most_107 : decode cX2_most 107 = .ok (.iload_n 1, 1) := by decide +kernel
theorem dX2_most_108 : decode cX2_most 108 = .ok (.invokestatic 95, 3) := by decide +kernel
theorem dX2_most_111 : decode cX2_most 111 = .ok (.ifCond .eq 7, 3) := by decide +kernel
theorem dX2_most_114 : decode cX2_most 114 = .ok (.iconst 1, 1) := by decide +kernel
theorem dX2_most_115 : decode cX2_most 115 = .ok (.goto 4, 3) := by decide +kernel
theorem dX2_most_118 : decode cX2_most 118 = .ok (.iconst 0, 1) := by decide +kernel
theorem dX2_most_119 : decode cX2_most 119 = .ok (.istore 5, 2) := by decide +kernel
theorem dX2_most_121 : decode cX2_most 121 = .ok (.iload 5, 2) := by decide +kernel
theorem dX2_most_123 : decode cX2_most 123 = .ok (.ifCond .eq 8, 3) := by decide +kernel
theorem dX2_most_126 : decode cX2_most 126 = .ok (.iload 4, 2) := by decide +kernel
theorem dX2_most_128 : decode cX2_most 128 = .ok (.goto 4, 3) := by decide +kernel
theorem dX2_most_131 : decode cX2_most 131 = .ok (.iload_n 3, 1) := by decide +kernel
theorem dX2_most_132 : decode cX2_most 132 = .ok (.istore_n 3, 1) := by decide +kernel
theorem dX2_most_133 : decode cX2_most 133 = .ok (.iinc 4 1, 3) := by decide +kernel
theorem dX2_most_136 : decode cX2_most 136 = .ok (.goto (-104), 3) := by decide +kernel
theorem dX2_most_139 : decode cX2_most 139 = .ok (.aload_n 0, 1) := by decide +kernel
theorem dX2_most_140 : decode cX2_most 140 = .ok (.iload_n 3, 1) := by decide +kernel
theorem dX2_most_141 : decode cX2_most 141 = .ok (.ifCond .ge 7, 3) := by decide +kernel
theorem dX2_most_144 : decode cX2_most 144 = .ok (.iconst 2, 1) := by decide +kernel
theorem dX2_most_145 : decode cX2_most 145 = .ok (.goto 4, 3) := by decide +kernel
theorem dX2_most_148 : decode cX2_most 148 = .ok (.iconst 0, 1) := by decide +kernel
theorem dX2_most_149 : decode cX2_most 149 = .ok (.putfield 51, 3) := by decide +kernel
theorem dX2_most_152 : decode cX2_most 152 = .ok (.iload_n 3, 1) := by decide +kernel
theorem dX2_most_153 : decode cX2_most 153 = .ok (.ifCond .ge 7, 3) := by decide +kernel
theorem dX2_most_156 : decode cX2_most 156 = .ok (.lconst 0, 1) := by decide +kernel
theorem dX2_most_157 : decode cX2_most 157 = .ok (.goto 9, 3) := by decide +kernel
theorem dX2_most_160 : decode cX2_most 160 = .ok (.aload_n 0, 1) := by decide +kernel
theorem dX2_most_161 : decode cX2_most 161 = .ok (.getfield 17, 3) := by decide +kernel
theorem dX2_most_164 : decode cX2_most 164 = .ok (.iload_n 3, 1) := by decide +kernel
theorem dX2_most_165 : decode cX2_most 165 = .ok (.laload, 1) := by decide +kernel
theorem dX2_most_166 : decode cX2_most 166 = .ok (.lreturn, 1) := by decide +kernel
theorem dX2_gauges_0 : decode cX2_gauges 0 = .ok (.aload_n 0, 1) := by decide +kernel
theorem dX2_gauges_1 : decode cX2_gauges 1 = .ok (.iconst 0, 1) := by decide +kernel
theorem dX2_gauges_2 : decode cX2_gauges 2 = .ok (.putfield 51, 3) := by decide +kernel
theorem dX2_gauges_5 : decode cX2_gauges 5 = .ok (.iconst 0, 1) := by decide +kernel
theorem dX2_gauges_6 : decode cX2_gauges 6 = .ok (.istore_n 1, 1) := by decide +kernel
theorem dX2_gauges_7 : decode cX2_gauges 7 = .ok (.iconst 0, 1) := by decide +kernel
theorem dX2_gauges_8 : decode cX2_gauges 8 = .ok (.istore_n 2, 1) := by decide +kernel
theorem dX2_gauges_9 : decode cX2_gauges 9 = .ok (.iload_n 2, 1) := by decide +kernel
theorem dX2_gauges_10 : decode cX2_gauges 10 = .ok (.bipush 12, 2) := by decide +kernel
theorem dX2_gauges_12 : decode cX2_gauges 12 = .ok (.if_icmp .ge 21, 3) := by decide +kernel
theorem dX2_gauges_15 : decode cX2_gauges 15 = .ok (.aload_n 0, 1) := by decide +kernel
theorem dX2_gauges_16 : decode cX2_gauges 16 = .ok (.getfield 7, 3) := by decide +kernel
theorem dX2_gauges_19 : decode cX2_gauges 19 = .ok (.iload_n 2, 1) := by decide +kernel
theorem dX2_gauges_20 : decode cX2_gauges 20 = .ok (.baload, 1) := by decide +kernel
theorem dX2_gauges_21 : decode cX2_gauges 21 = .ok (.ifCond .eq 6, 3) := by decide +kernel
theorem dX2_gauges_24 : decode cX2_gauges 24 = .ok (.iinc 1 1, 3) := by decide +kernel
theorem dX2_gauges_27 : decode cX2_gauges 27 = .ok (.iinc 2 1, 3) := by decide +kernel
theorem dX2_gauges_30 : decode cX2_gauges 30 = .ok (.goto (-21), 3) := by decide +kernel
theorem dX2_gauges_33 : decode cX2_gauges 33 = .ok (.iload_n 1, 1) := by decide +kernel
theorem dX2_gauges_34 : decode cX2_gauges 34 = .ok (.ireturn, 1) := by decide +kernel
set_option maxRecDepth 20000 in
theorem ggL_fit_X1_fit : GoodIn wsL_fit wsX1_fit := goodIn_ca (goodIn_ca (goodIn_ca (goodIn_r _ [8, 9, 10, 11, 12, 13, 14, 15, 16, 17, 18, 7, 19, 20, 21, 22, 23, 24, 25, 26, 27, 28, 29, 30, 31, 32, 33, 34, 35, 36, 37, 38, 39, 40, 41, 42, 43, 44, 45, 46, 47, 48, 49, 50, 51, 52, 53, 54, 55, 56, 57, 58, 59, 60, 61, 62, 63, 64, 65, 66] (by decide +kernel) (by decide +kernel)) (goodIn_sub (fun _ h => List.mem_cons_of_mem _ (List.mem_append_left _ (List.mem_append_left _ (List.mem_append_right _ h)))) (by decide +kernel))) (goodIn_sub (fun _ h => List.mem_cons_of_mem _ (List.mem_append_left _ (List.mem_append_right _ h))) (by decide +kernel))) (goodIn_sub (fun _ h => List.mem_cons_of_mem _ (List.mem_append_right _ h)) (by decide +kernel))
set_option maxRecDepth 20000 in
theorem gL_fit_X1_fit : GoodIn wsL_fit (wsV RL 7 RX1 yX1_fit wsX1_fit) := goodIn_app (goodIn_of _ (by decide +kernel)) ggL_fit_X1_fit
