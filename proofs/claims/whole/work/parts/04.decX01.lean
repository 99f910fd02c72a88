theorem dX0_init_0 : decode cX0_init 0 = .ok (.aload_n 0, 1) := by decide +kernel
theorem dX0_init_1 : decode cX0_init 1 = .ok (.invokespecial 3, 3) := by decide +kernel
theorem dX0_init_4 : decode cX0_init 4 = .ok (.aload_n 0, 1) := by decide +kernel
theorem dX0_init_5 : decode cX0_init 5 = .ok (.bipush 8, 2) := by decide +kernel
theorem dX0_init_7 : decode cX0_init 7 = .ok (.newarray .int, 2) := by decide +kernel
theorem dX0_init_9 : decode cX0_init 9 = .ok (.putfield 9, 3) := by decide +kernel
theorem dX0_init_12 : decode cX0_init 12 = .ok (.aload_n 0, 1) := by decide +kernel
theorem dX0_init_13 : decode cX0_init 13 = .ok (.bipush 8, 2) := by decide +kernel
theorem dX0_init_15 : decode cX0_init 15 = .ok (.newarray .int, 2) := by decide +kernel
theorem dX0_init_17 : decode cX0_init 17 = .ok (.putfield 15, 3) := by decide +kernel
theorem dX0_init_20 : decode cX0_init 20 = .ok (.aload_n 0, 1) := by decide +kernel
theorem dX0_init_21 : decode cX0_init 21 = .ok (.bipush 8, 2) := by decide +kernel
theorem dX0_init_23 : decode cX0_init 23 = .ok (.newarray .long, 2) := by decide +kernel
theorem dX0_init_25 : decode cX0_init 25 = .ok (.putfield 18, 3) := by decide +kernel
theorem dX0_init_28 : decode cX0_init 28 = .ok (.aload_n 0, 1) := by decide +kernel
theorem dX0_init_29 : decode cX0_init 29 = .ok (.iload_n 1, 1) := by decide +kernel
theorem dX0_init_30 : decode cX0_init 30 = .ok (.putfield 22, 3) := by decide +kernel
theorem dX0_init_33 : decode cX0_init 33 = .ok (.return_, 1) := by decide +kernel
theorem dX0_startAs_0 : decode cX0_startAs 0 = .ok (.aload_n 0, 1) := by decide +kernel
theorem dX0_startAs_1 : decode cX0_startAs 1 = .ok (.iload_n 1, 1) := by decide +kernel
theorem dX0_startAs_2 : decode cX0_startAs 2 = .ok (.putfield 22, 3) := by decide +kernel
theorem dX0_startAs_5 : decode cX0_startAs 5 = .ok (.aload_n 0, 1) := by decide +kernel
theorem dX0_startAs_6 : decode cX0_startAs 6 = .ok (.iconst 0, 1) := by decide +kernel
theorem dX0_startAs_7 : decode cX0_startAs 7 = .ok (.putfield 26, 3) := by decide +kernel
theorem dX0_startAs_10 : decode cX0_startAs 10 = .ok (.aload_n 0, 1) := by decide +kernel
theorem dX0_startAs_11 : decode cX0_startAs 11 = .ok (.lconst 0, 1) := by decide +kernel
theorem dX0_startAs_12 : decode cX0_startAs 12 = .ok (.putfield 29, 3) := by decide +kernel
theorem dX0_startAs_15 : decode cX0_startAs 15 = .ok (.aload_n 0, 1) := by decide +kernel
theorem dX0_startAs_16 : decode cX0_startAs 16 = .ok (.iconst 0, 1) := by decide +kernel
theorem dX0_startAs_17 : decode cX0_startAs 17 = .ok (.putfield 33, 3) := by decide +kernel
theorem dX0_startAs_20 : decode cX0_startAs 20 = .ok (.aload_n 0, 1) := by decide +kernel
theorem dX0_startAs_21 : decode cX0_startAs 21 = .ok (.iconst 0, 1) := by decide +kernel
theorem dX0_startAs_22 : decode cX0_startAs 22 = .ok (.putfield 37, 3) := by decide +kernel
theorem dX0_startAs_25 : decode cX0_startAs 25 = .ok (.aload_n 0, 1) := by decide +kernel
theorem dX0_startAs_26 : decode cX0_startAs 26 = .ok (.iconst 0, 1) := by decide +kernel
theorem dX0_startAs_27 : decode cX0_startAs 27 = .ok (.putfield 40, 3) := by decide +kernel
theorem dX0_startAs_30 : decode cX0_startAs 30 = .ok (.return_, 1) := by decide +kernel
theorem dX0_addStep_0 : decode cX0_addStep 0 = .ok (.aload_n 0, 1) := by decide +kernel
theorem dX0_addStep_1 : decode cX0_addStep 1 = .ok (.getfield 26, 3) := by decide +kernel
theorem dX0_addStep_4 : decode cX0_addStep 4 = .ok (.bipush 8, 2) := by decide +kernel
theorem dX0_addStep_6 : decode cX0_addStep 6 = .ok (.if_icmp .lt 13, 3) := by decide +kernel
theorem dX0_addStep_9 : decode cX0_addStep 9 = .ok (.new 43, 3) := by decide +kernel
theorem dX0_addStep_12 : decode cX0_addStep 12 = .ok (.dup, 1) := by decide +kernel
theorem dX0_addStep_13 : decode cX0_addStep 13 = .ok (.ldc 45, 2) := by decide +kernel
theorem dX0_addStep_15 : decode cX0_addStep 15 = .ok (.invokespecial 47, 3) := by decide +kernel
theorem dX0_addStep_18 : decode cX0_addStep 18 = .ok (.athrow, 1) := by decide +kernel
theorem dX0_addStep_19 : decode cX0_addStep 19 = .ok (.aload_n 0, 1) := by decide +kernel
theorem dX0_addStep_20 : decode cX0_addStep 20 = .ok (.getfield 9, 3) := by decide +kernel
theorem dX0_addStep_23 : decode cX0_addStep 23 = .ok (.aload_n 0, 1) := by decide +kernel
theorem dX0_addStep_24 : decode cX0_addStep 24 = .ok (.getfield 26, 3) := by decide +kernel
theorem dX0_addStep_27 : decode cX0_addStep 27 = .ok (.iload_n 1, 1) := by decide +kernel
theorem dX0_addStep_28 : decode cX0_addStep 28 = .ok (.iastore, 1) := by decide +kernel
theorem dX0_addStep_29 : decode cX0_addStep 29 = .ok (.aload_n 0, 1) := by decide +kernel
theorem dX0_addStep_30 : decode cX0_addStep 30 = .ok (.getfield 15, 3) := by decide +kernel
theorem dX0_addStep_33 : decode cX0_addStep 33 = .ok (.aload_n 0, 1) := by decide +kernel
theorem dX0_addStep_34 : decode cX0_addStep 34 = .ok (.getfield 26, 3) := by decide +kernel
theorem dX0_addStep_37 : decode cX0_addStep 37 = .ok (.iload_n 2, 1) := by decide +kernel
theorem dX0_addStep_38 : decode cX0_addStep 38 = .ok (.iastore, 1) := by decide +kernel
theorem dX0_addStep_39 : decode cX0_addStep 39 = .ok (.aload_n 0, 1) := by decide +kernel
theorem dX0_addStep_40 : decode cX0_addStep 40 = .ok (.getfield 18, 3) := by decide +kernel
theorem dX0_addStep_43 : decode cX0_addStep 43 = .ok (.aload_n 0, 1) := by decide +kernel
theorem dX0_addStep_44 : decode cX0_addStep 44 = .ok (.getfield 26, 3) := by decide +kernel
theorem dX0_addStep_47 : decode cX0_addStep 47 = .ok (.lload_n 3, 1) := by decide +kernel
theorem dX0_addStep_48 : decode cX0_addStep 48 = .ok (.lastore, 1) := by decide +kernel
theorem dX0_addStep_49 : decode cX0_addStep 49 = .ok (.aload_n 0, 1) := by decide +kernel
theorem dX0_addStep_50 : decode cX0_addStep 50 = .ok (.dup, 1) := by decide +kernel
theorem dX0_addStep_51 : decode cX0_addStep 51 = .ok (.getfield 26, 3) := by decide +kernel
theorem dX0_addStep_54 : decode cX0_addStep 54 = .ok (.iconst 1, 1) := by decide +kernel
theorem dX0_addStep_55 : decode cX0_addStep 55 = .ok (.iadd, 1) := by decide +kernel
theorem dX0_addStep_56 : decode cX0_addStep 56 = .ok (.putfield 26, 3) := by decide +kernel
theorem dX0_addStep_59 : decode cX0_addStep 59 = .ok (.aload_n 0, 1) := by decide +kernel
theorem dX0_addStep_60 : decode cX0_addStep 60 = .ok (.getfield 26, 3) := by decide +kernel
theorem dX0_addStep_63 : decode cX0_addStep 63 = .ok (.ireturn, 1) := by decide +kernel
theorem dX0_ownStepsTaking_0 : decode cX0_ownStepsTaking 0 = .ok (.iconst 0, 1) := by decide +kernel
theorem dX0_ownStepsTaking_1 : decode cX0_ownStepsTaking 1 = .ok (.istore_n 2, 1) := by decide +kernel
theorem dX0_ownStepsTaking_2 : decode cX0_ownStepsTaking 2 = .ok (.iconst 0, 1) := by decide +kernel
theorem dX0_ownStepsTaking_3 : decode cX0_ownStepsTaking 3 = .ok (.istore_n 3, 1) := by decide +kernel
theorem dX0_ownStepsTaking_4 : decode cX0_ownStepsTaking 4 = .ok (.iload_n 3, 1) := by decide +kernel
theorem dX0_ownStepsTaking_5 : decode cX0_ownStepsTaking 5 = .ok (.aload_n 0, 1) := by decide +kernel
theorem dX0_ownStepsTaking_6 : decode cX0_ownStepsTaking 6 = .ok (.getfield 26, 3) := by decide +kernel
theorem dX0_ownStepsTaking_9 : decode cX0_ownStepsTaking 9 = .ok (.if_icmp .ge 22, 3) := by decide +kernel
theorem dX0_ownStepsTaking_12 : decode cX0_ownStepsTaking 12 = .ok (.aload_n 0, 1) := by decide +kernel
theorem dX0_ownStepsTaking_13 : decode cX0_ownStepsTaking 13 = .ok (.getfield 15, 3) := by decide +kernel
theorem dX0_ownStepsTaking_16 : decode cX0_ownStepsTaking 16 = .ok (.iload_n 3, 1) := by decide +kernel
theorem dX0_ownStepsTaking_17 : decode cX0_ownStepsTaking 17 = .ok (.iaload, 1) := by decide +kernel
theorem dX0_ownStepsTaking_18 : decode cX0_ownStepsTaking 18 = .ok (.iload_n 1, 1) := by decide +kernel
theorem dX0_ownStepsTaking_19 : decode cX0_ownStepsTaking 19 = .ok (.if_icmp .ne 6, 3) := by decide +kernel
theorem dX0_ownStepsTaking_22 : decode cX0_ownStepsTaking 22 = .ok (.iinc 2 1, 3) := by decide +kernel
theorem dX0_ownStepsTaking_25 : decode cX0_ownStepsTaking 25 = .ok (.iinc 3 1, 3) := by decide +kernel
theorem dX0_ownStepsTaking_28 : decode cX0_ownStepsTaking 28 = .ok (.goto (-24), 3) := by decide +kernel
theorem dX0_ownStepsTaking_31 : decode cX0_ownStepsTaking 31 = .ok (.iload_n 2, 1) := by decide +kernel
theorem dX0_ownStepsTaking_32 : decode cX0_ownStepsTaking 32 = .ok (.ireturn, 1) := by decide +kernel
set_option maxRecDepth 20000 in
theorem ggX0_takeValue_X1_signOf : GoodIn wsX0_takeValue wsX1_signOf := goodIn_r _ [10] (by decide +kernel) (by decide +kernel)
set_option maxRecDepth 20000 in
theorem gX0_takeValue_X1_signOf_n50 : GoodIn wsX0_takeValue (wsX1_signOf) := ggX0_takeValue_X1_signOf
set_option maxRecDepth 20000 in
theorem ggX0_takeValue_X1_higher : GoodIn wsX0_takeValue wsX1_higher := goodIn_r _ [12, 13, 14, 9, 15, 16, 17, 18, 19, 20, 21, 22] (by decide +kernel) (by decide +kernel)
set_option maxRecDepth 20000 in
theorem gX0_takeValue_X1_higher_n57 : GoodIn wsX0_takeValue (wsX1_higher) := ggX0_takeValue_X1_higher
set_option maxRecDepth 20000 in
theorem ggX0_takeValue_X1_lower : GoodIn wsX0_takeValue wsX1_lower := goodIn_r _ [24, 13, 14, 9, 15, 16, 17, 18, 19, 20, 21, 22] (by decide +kernel) (by decide +kernel)
set_option maxRecDepth 20000 in
theorem gX0_takeValue_X1_lower_n64 : GoodIn wsX0_takeValue (wsX1_lower) := ggX0_takeValue_X1_lower
theorem dX0_takeValue_0 : decode cX0_takeValue 0 = .ok (.aload_n 0, 1) := by decide +kernel
theorem dX0_takeValue_1 : decode cX0_takeValue 1 = .ok (.dup, 1) := by decide +kernel
theorem dX0_takeValue_2 : decode cX0_takeValue 2 = .ok (.getfield 37, 3) := by decide +kernel
theorem dX0_takeValue_5 : decode cX0_takeValue 5 = .ok (.iconst 1, 1) := by decide +kernel
theorem dX0_takeValue_6 : decode cX0_takeValue 6 = .ok (.iadd, 1) := by decide +kernel
theorem dX0_takeValue_7 : decode cX0_takeValue 7 = .ok (.putfield 37, 3) := by decide +kernel
theorem dX0_takeValue_10 : decode cX0_takeValue 10 = .ok (.lload_n 1, 1) := by decide +kernel
theorem dX0_takeValue_11 : decode cX0_takeValue 11 = .ok (.invokestatic 50, 3) := by decide +kernel
theorem dX0_takeValue_14 : decode cX0_takeValue 14 = .ok (.aload_n 0, 1) := by decide +kernel
theorem dX0_takeValue_15 : decode cX0_takeValue 15 = .ok (.getfield 29, 3) := by decide +kernel
theorem dX0_takeValue_18 : decode cX0_takeValue 18 = .ok (.invokestatic 50, 3) := by decide +kernel
theorem dX0_takeValue_21 : decode cX0_takeValue 21 = .ok (.if_icmp .eq 13, 3) := by decide +kernel
theorem dX0_takeValue_24 : decode cX0_takeValue 24 = .ok (.aload_n 0, 1) := by decide +kernel
theorem dX0_takeValue_25 : decode cX0_takeValue 25 = .ok (.dup, 1) := by decide +kernel
theorem dX0_takeValue_26 : decode cX0_takeValue 26 = .ok (.getfield 40, 3) := by decide +kernel
theorem dX0_takeValue_29 : decode cX0_takeValue 29 = .ok (.iconst 1, 1) := by decide +kernel
theorem dX0_takeValue_30 : decode cX0_takeValue 30 = .ok (.iadd, 1) := by decide +kernel
theorem dX0_takeValue_31 : decode cX0_takeValue 31 = .ok (.putfield 40, 3) := by decide +kernel
theorem dX0_takeValue_34 : decode cX0_takeValue 34 = .ok (.aload_n 0, 1) := by decide +kernel
theorem dX0_takeValue_35 : decode cX0_takeValue 35 = .ok (.aload_n 0, 1) := by decide +kernel
theorem dX0_takeValue_36 : decode cX0_takeValue 36 = .ok (.getfield 33, 3) := by decide +kernel
theorem dX0_takeValue_39 : decode cX0_takeValue 39 = .ok (.ifCond .eq 18, 3) := by decide +kernel
theorem dX0_takeValue_42 : decode cX0_takeValue 42 = .ok (.aload_n 0, 1) := by decide +kernel
theorem dX0_takeValue_43 : decode cX0_takeValue 43 = .ok (.getfield 54, 3) := by decide +kernel
theorem dX0_takeValue_46 : decode cX0_takeValue 46 = .ok (.lload_n 1, 1) := by decide +kernel
theorem dX0_takeValue_47 : decode cX0_takeValue 47 = .ok (.aload_n 0, 1) := by decide +kernel
theorem dX0_takeValue_48 : decode cX0_takeValue 48 = .ok (.getfield 22, 3) := by decide +kernel
theorem dX0_takeValue_51 : decode cX0_takeValue 51 = .ok (.invokestatic 57, 3) := by decide +kernel
theorem dX0_takeValue_54 : decode cX0_takeValue 54 = .ok (.goto 4, 3) := by decide +kernel
theorem dX0_takeValue_57 : decode cX0_takeValue 57 = .ok (.lload_n 1, 1) := by decide +kernel
theorem dX0_takeValue_58 : decode cX0_takeValue 58 = .ok (.putfield 54, 3) := by decide +kernel
theorem dX0_takeValue_61 : decode cX0_takeValue 61 = .ok (.aload_n 0, 1) := by decide +kernel
theorem dX0_takeValue_62 : decode cX0_takeValue 62 = .ok (.aload_n 0, 1) := by decide +kernel
theorem dX0_takeValue_63 : decode cX0_takeValue 63 = .ok (.getfield 33, 3) := by decide +kernel
theorem dX0_takeValue_66 : decode cX0_takeValue 66 = .ok (.ifCond .eq 18, 3) := by decide +kernel
theorem dX0_takeValue_69 : decode cX0_takeValue 69 = .ok (.aload_n 0, 1) := by decide +kernel
theorem dX0_takeValue_70 : decode cX0_takeValue 70 = .ok (.getfield 61, 3) := by decide +kernel
theorem dX0_takeValue_73 : decode cX0_takeValue 73 = .ok (.lload_n 1, 1) := by decide +kernel
theorem dX0_takeValue_74 : decode cX0_takeValue 74 = .ok (.aload_n 0, 1) := by decide +kernel
theorem dX0_takeValue_75 : decode cX0_takeValue 75 = .ok (.getfield 22, 3) := by decide +kernel
theorem dX0_takeValue_78 : decode cX0_takeValue 78 = .ok (.invokestatic 64, 3) := by decide +kernel
theorem dX0_takeValue_81 : decode cX0_takeValue 81 = .ok (.goto 4, 3) := by decide +kernel
theorem dX0_takeValue_84 : decode cX0_takeValue 84 = .ok (.lload_n 1, 1) := by decide +kernel
theorem dX0_takeValue_85 : decode cX0_takeValue 85 = .ok (.putfield 61, 3) := by decide +kernel
theorem dX0_takeValue_88 : decode cX0_takeValue 88 = .ok (.aload_n 0, 1) := by decide +kernel
theorem dX0_takeValue_89 : decode cX0_takeValue 89 = .ok (.iconst 1, 1) := by decide +kernel
theorem dX0_takeValue_90 : decode cX0_takeValue 90 = .ok (.putfield 33, 3) := by decide +kernel
theorem dX0_takeValue_93 : decode cX0_takeValue 93 = .ok (.aload_n 0, 1) := by decide +kernel
theorem dX0_takeValue_94 : decode cX0_takeValue 94 = .ok (.lload_n 1, 1) := by decide +kernel
theorem dX0_takeValue_95 : decode cX0_takeValue 95 = .ok (.putfield 29, 3) := by decide +kernel
theorem dX0_takeValue_98 : decode cX0_takeValue 98 = .ok (.return_, 1) := by decide +kernel
theorem dX1_init_0 : decode cX1_init 0 = .ok (.aload_n 0, 1) := by decide +kernel
theorem dX1_init_1 : decode cX1_init 1 = .ok (.invokespecial 3, 3) := by decide +kernel
theorem dX1_init_4 : decode cX1_init 4 = .ok (.aload_n 0, 1) := by decide +kernel
theorem dX1_init_5 : decode cX1_init 5 = .ok (.bipush 12, 2) := by decide +kernel
theorem dX1_init_7 : decode cX1_init 7 = .ok (.anewarray 9, 3) := by decide +kernel
theorem dX1_init_10 : decode cX1_init 10 = .ok (.putfield 11, 3) := by decide +kernel
theorem dX1_init_13 : decode cX1_init 13 = .ok (.return_, 1) := by decide +kernel
set_option maxRecDepth 20000 in
theorem ggX1_fit_X1_isPlace : GoodIn wsX1_fit wsX1_isPlace := goodIn_r _ [12] (by decide +kernel) (by decide +kernel)
set_option maxRecDepth 20000 in
theorem gX1_fit_X1_isPlace : GoodIn wsX1_fit (va_wsS RX1 15 yX1_isPlace wsX1_isPlace) := goodIn_app (goodIn_of _ (by decide +kernel)) ggX1_fit_X1_isPlace
set_option maxRecDepth 20000 in
theorem ggX1_fit_X1_needKind : GoodIn wsX1_fit wsX1_needKind := goodIn_ca (goodIn_r _ [15, 16, 17] (by decide +kernel) (by decide +kernel)) (goodIn_sub (fun _ h => List.mem_cons_of_mem _ (List.mem_append_right _ h)) (by decide +kernel))
set_option maxRecDepth 20000 in
theorem gX1_fit_X1_needKind : GoodIn wsX1_fit (va_wsS RX1 26 yX1_needKind wsX1_needKind) := goodIn_app (goodIn_of _ (by decide +kernel)) ggX1_fit_X1_needKind
set_option maxRecDepth 20000 in
theorem ggX1_fit_X1_gaugeAt : GoodIn wsX1_fit wsX1_gaugeAt := goodIn_r _ [21, 5, 9, 10, 11, 12, 48] (by decide +kernel) (by decide +kernel)
set_option maxRecDepth 20000 in
theorem gX1_fit_X1_gaugeAt : GoodIn wsX1_fit (wsV RX1 30 RX1 yX1_gaugeAt wsX1_gaugeAt) := goodIn_app (goodIn_of _ (by decide +kernel)) ggX1_fit_X1_gaugeAt
set_option maxRecDepth 20000 in
theorem ggX1_fit_X0_init : GoodIn wsX1_fit wsX0_init := goodIn_r _ [23, 24, 25, 26, 27, 28, 29, 30, 31, 32, 49, 50, 51, 52, 53, 54, 55, 56, 57, 58, 59] (by decide +kernel) (by decide +kernel)
set_option maxRecDepth 20000 in
theorem gX1_fit_X0_init_n34 : GoodIn wsX1_fit (wsX0_init) := ggX1_fit_X0_init
set_option maxRecDepth 20000 in
theorem ggX1_fit_X1_stepsTaking : GoodIn wsX1_fit wsX1_stepsTaking := goodIn_r _ [36, 5, 37, 8, 38, 39, 40, 29, 48, 49, 50, 51, 52, 53, 54, 55, 56, 57, 58, 59] (by decide +kernel) (by decide +kernel)
set_option maxRecDepth 20000 in
theorem gX1_fit_X1_stepsTaking : GoodIn wsX1_fit (wsV RX1 40 RX1 yX1_stepsTaking wsX1_stepsTaking) := goodIn_app (goodIn_of _ (by decide +kernel)) ggX1_fit_X1_stepsTaking
set_option maxRecDepth 20000 in
theorem ggX1_fit_X0_ownStepsTaking : GoodIn wsX1_fit wsX0_ownStepsTaking := goodIn_r _ [39, 40, 29, 49, 50, 51, 52, 53, 54, 55, 56, 57, 58, 59] (by decide +kernel) (by decide +kernel)
set_option maxRecDepth 20000 in
theorem gX1_fit_X0_ownStepsTaking_n44 : GoodIn wsX1_fit (wsX0_ownStepsTaking) := ggX1_fit_X0_ownStepsTaking
set_option maxRecDepth 20000 in
theorem ggX1_fit_X0_startAs : GoodIn wsX1_fit wsX0_startAs := goodIn_r _ [43, 32, 40, 44, 45, 46, 47, 49, 50, 51, 52, 53, 54, 55, 56, 57, 58, 59] (by decide +kernel) (by decide +kernel)
set_option maxRecDepth 20000 in
theorem gX1_fit_X0_startAs_n52 : GoodIn wsX1_fit (wsX0_startAs) := ggX1_fit_X0_startAs
theorem dX1_fit_0 : decode cX1_fit 0 = .ok (.iload_n 1, 1) := by decide +kernel
theorem dX1_fit_1 : decode cX1_fit 1 = .ok (.invokestatic 15, 3) := by decide +kernel
theorem dX1_fit_4 : decode cX1_fit 4 = .ok (.ifCond .ne 13, 3) := by decide +kernel
theorem dX1_fit_7 : decode cX1_fit 7 = .ok (.new 19, 3) := by decide +kernel
theorem dX1_fit_10 : decode cX1_fit 10 = .ok (.dup, 1) := by decide +kernel
theorem dX1_fit_11 : decode cX1_fit 11 = .ok (.ldc 21, 2) := by decide +kernel
theorem dX1_fit_13 : decode cX1_fit 13 = .ok (.invokespecial 23, 3) := by decide +kernel
theorem dX1_fit_16 : decode cX1_fit 16 = .ok (.athrow, 1) := by decide +kernel
theorem dX1_fit_17 : decode cX1_fit 17 = .ok (.iload_n 2, 1) := by decide +kernel
theorem dX1_fit_18 : decode cX1_fit 18 = .ok (.invokestatic 26, 3) := by decide +kernel
theorem dX1_fit_21 : decode cX1_fit 21 = .ok (.aload_n 0, 1) := by decide +kernel
theorem dX1_fit_22 : decode cX1_fit 22 = .ok (.iload_n 1, 1) := by decide +kernel
theorem dX1_fit_23 : decode cX1_fit 23 = .ok (.invokevirtual 30, 3) := by decide +kernel
theorem dX1_fit_26 : decode cX1_fit 26 = .ok (.astore_n 3, 1) := by decide +kernel
theorem dX1_fit_27 : decode cX1_fit 27 = .ok (.aload_n 3, 1) := by decide +kernel
theorem dX1_fit_28 : decode cX1_fit 28 = .ok (.ifnonnull 19, 3) := by decide +kernel
theorem dX1_fit_31 : decode cX1_fit 31 = .ok (.aload_n 0, 1) := by decide +kernel
theorem dX1_fit_32 : decode cX1_fit 32 = .ok (.getfield 11, 3) := by decide +kernel
theorem dX1_fit_35 : decode cX1_fit 35 = .ok (.iload_n 1, 1) := by decide +kernel
theorem dX1_fit_36 : decode cX1_fit 36 = .ok (.new 9, 3) := by decide +kernel
theorem dX1_fit_39 : decode cX1_fit 39 = .ok (.dup, 1) := by decide +kernel
theorem dX1_fit_40 : decode cX1_fit 40 = .ok (.iload_n 2, 1) := by decide +kernel
theorem dX1_fit_41 : decode cX1_fit 41 = .ok (.invokespecial 34, 3) := by decide +kernel
theorem dX1_fit_44 : decode cX1_fit 44 = .ok (.aastore, 1) := by decide +kernel
theorem dX1_fit_45 : decode cX1_fit 45 = .ok (.iconst 0, 1) := by decide +kernel
theorem dX1_fit_46 : decode cX1_fit 46 = .ok (.ireturn, 1) := by decide +kernel
theorem dX1_fit_47 : decode cX1_fit 47 = .ok (.aload_n 3, 1) := by decide +kernel
theorem dX1_fit_48 : decode cX1_fit 48 = .ok (.getfield 36, 3) := by decide +kernel
theorem dX1_fit_51 : decode cX1_fit 51 = .ok (.iload_n 2, 1) := by decide +kernel
theorem dX1_fit_52 : decode cX1_fit 52 = .ok (.if_icmp .eq 26, 3) := by decide +kernel
theorem dX1_fit_55 : decode cX1_fit 55 = .ok (.aload_n 0, 1) := by decide +kernel
theorem dX1_fit_56 : decode cX1_fit 56 = .ok (.iload_n 1, 1) := by decide +kernel
theorem dX1_fit_57 : decode cX1_fit 57 = .ok (.invokevirtual 40, 3) := by decide +kernel
theorem dX1_fit_60 : decode cX1_fit 60 = .ok (.aload_n 3, 1) := by decide +kernel
theorem dX1_fit_61 : decode cX1_fit 61 = .ok (.iload_n 1, 1) := by decide +kernel
theorem dX1_fit_62 : decode cX1_fit 62 = .ok (.invokevirtual 44, 3) := by decide +kernel
theorem dX1_fit_65 : decode cX1_fit 65 = .ok (.if_icmp .le 13, 3) := by decide +kernel
theorem dX1_fit_68 : decode cX1_fit 68 = .ok (.new 47, 3) := by decide +kernel
theorem dX1_fit_71 : decode cX1_fit 71 = .ok (.dup, 1) := by decide +kernel
theorem dX1_fit_72 : decode cX1_fit 72 = .ok (.ldc 49, 2) := by decide +kernel
theorem dX1_fit_74 : decode cX1_fit 74 = .ok (.invokespecial 51, 3) := by decide +kernel
theorem dX1_fit_77 : decode cX1_fit 77 = .ok (.athrow, 1) := by decide +kernel
theorem dX1_fit_78 : decode cX1_fit 78 = .ok (.aload_n 3, 1) := by decide +kernel
theorem dX1_fit_79 : decode cX1_fit 79 = .ok (.iload_n 2, 1) := by decide +kernel
theorem dX1_fit_80 : decode cX1_fit 80 = .ok (.invokevirtual 52, 3) := by decide +kernel
theorem dX1_fit_83 : decode cX1_fit 83 = .ok (.iconst 1, 1) := by decide +kernel
theorem dX1_fit_84 : decode cX1_fit 84 = .ok (.ireturn, 1) := by decide +kernel
set_option maxRecDepth 20000 in
theorem ggX1_step_X1_needGauge : GoodIn wsX1_step wsX1_needGauge := goodIn_ca (goodIn_r _ [5, 6, 7, 8, 9, 10, 4, 11, 12, 13, 14, 15, 48] (by decide +kernel) (by decide +kernel)) (goodIn_sub (fun _ h => List.mem_cons_of_mem _ (List.mem_append_left _ (List.mem_append_left _ (List.mem_append_right _ h)))) (by decide +kernel))
set_option maxRecDepth 20000 in
theorem gX1_step_X1_needGauge : GoodIn wsX1_step (wsV RX1 55 RX1 yX1_needGauge wsX1_needGauge) := goodIn_app (goodIn_of _ (by decide +kernel)) ggX1_step_X1_needGauge
set_option maxRecDepth 20000 in
theorem ggX1_step_X1_needSort : GoodIn wsX1_step wsX1_needSort := goodIn_ca (goodIn_r _ [18, 19, 20, 21, 22, 4, 23, 24, 25, 26] (by decide +kernel) (by decide +kernel)) (goodIn_sub (fun _ h => List.mem_cons_of_mem _ (List.mem_append_left _ (List.mem_append_right _ h))) (by decide +kernel))
set_option maxRecDepth 20000 in
theorem gX1_step_X1_needSort : GoodIn wsX1_step (va_wsS RX1 58 yX1_needSort wsX1_needSort) := goodIn_app (goodIn_of _ (by decide +kernel)) ggX1_step_X1_needSort
set_option maxRecDepth 20000 in
theorem ggX1_step_X0_addStep : GoodIn wsX1_step wsX0_addStep := goodIn_ca (goodIn_r _ [30, 31, 32, 33, 34, 35, 36, 37, 38, 39, 40, 41, 42, 43, 44, 45, 46, 47] (by decide +kernel) (by decide +kernel)) (goodIn_sub (fun _ h => List.mem_cons_of_mem _ (List.mem_append_right _ h)) (by decide +kernel))
set_option maxRecDepth 20000 in
theorem gX1_step_X0_addStep_n62 : GoodIn wsX1_step (wsX0_addStep) := ggX1_step_X0_addStep
theorem dX1_step_0 : decode cX1_step 0 = .ok (.aload_n 0, 1) := by decide +kernel
theorem dX1_step_1 : decode cX1_step 1 = .ok (.iload_n 1, 1) := by decide +kernel
theorem dX1_step_2 : decode cX1_step 2 = .ok (.invokevirtual 55, 3) := by decide +kernel
theorem dX1_step_5 : decode cX1_step 5 = .ok (.astore_n 3, 1) := by decide +kernel
theorem dX1_step_6 : decode cX1_step 6 = .ok (.aload_n 3, 1) := by decide +kernel
theorem dX1_step_7 : decode cX1_step 7 = .ok (.getfield 36, 3) := by decide +kernel
theorem dX1_step_10 : decode cX1_step 10 = .ok (.iload_n 2, 1) := by decide +kernel
theorem dX1_step_11 : decode cX1_step 11 = .ok (.iconst 0, 1) := by decide +kernel
theorem dX1_step_12 : decode cX1_step 12 = .ok (.invokestatic 58, 3) := by decide +kernel
theorem dX1_step_15 : decode cX1_step 15 = .ok (.aload_n 3, 1) := by decide +kernel
theorem dX1_step_16 : decode cX1_step 16 = .ok (.iload_n 2, 1) := by decide +kernel
theorem dX1_step_17 : decode cX1_step 17 = .ok (.iconst (-1), 1) := by decide +kernel
theorem dX1_step_18 : decode cX1_step 18 = .ok (.lconst 0, 1) := by decide +kernel
theorem dX1_step_19 : decode cX1_step 19 = .ok (.invokevirtual 62, 3) := by decide +kernel
theorem dX1_step_22 : decode cX1_step 22 = .ok (.ireturn, 1) := by decide +kernel
set_option maxRecDepth 20000 in
theorem ggX1_stepBy_X1_needGauge : GoodIn wsX1_stepBy wsX1_needGauge := goodIn_ca (goodIn_r _ [5, 6, 7, 8, 9, 10, 4, 11, 12, 13, 14, 15, 59] (by decide +kernel) (by decide +kernel)) (goodIn_sub (fun _ h => List.mem_cons_of_mem _ (List.mem_append_left _ (List.mem_append_left _ (List.mem_append_right _ h)))) (by decide +kernel))
set_option maxRecDepth 20000 in
theorem gX1_stepBy_X1_needGauge : GoodIn wsX1_stepBy (wsV RX1 55 RX1 yX1_needGauge wsX1_needGauge) := goodIn_app (goodIn_of _ (by decide +kernel)) ggX1_stepBy_X1_needGauge
set_option maxRecDepth 20000 in
theorem ggX1_stepBy_X1_needSort : GoodIn wsX1_stepBy wsX1_needSort := goodIn_ca (goodIn_r _ [18, 19, 20, 21, 22, 4, 23, 24, 25, 26] (by decide +kernel) (by decide +kernel)) (goodIn_sub (fun _ h => List.mem_cons_of_mem _ (List.mem_append_left _ (List.mem_append_right _ h))) (by decide +kernel))
set_option maxRecDepth 20000 in
theorem gX1_stepBy_X1_needSort : GoodIn wsX1_stepBy (va_wsS RX1 58 yX1_needSort wsX1_needSort) := goodIn_app (goodIn_of _ (by decide +kernel)) ggX1_stepBy_X1_needSort
set_option maxRecDepth 20000 in
theorem ggX1_stepBy_X1_needGood : GoodIn wsX1_stepBy wsX1_needGood := goodIn_ca (goodIn_r _ [29, 19, 20, 30, 31, 4, 32, 33, 34, 35, 36, 37] (by decide +kernel) (by decide +kernel)) (goodIn_sub (fun _ h => List.mem_cons_of_mem _ (List.mem_append_left _ (List.mem_append_right _ h))) (by decide +kernel))
set_option maxRecDepth 20000 in
theorem gX1_stepBy_X1_needGood : GoodIn wsX1_stepBy (va_wsS RX1 66 yX1_needGood wsX1_needGood) := goodIn_app (goodIn_of _ (by decide +kernel)) ggX1_stepBy_X1_needGood
set_option maxRecDepth 20000 in
theorem ggX1_stepBy_X0_addStep : GoodIn wsX1_stepBy wsX0_addStep := goodIn_ca (goodIn_r _ [41, 42, 43, 44, 45, 46, 47, 48, 49, 50, 51, 52, 53, 54, 55, 56, 57, 58] (by decide +kernel) (by decide +kernel)) (goodIn_sub (fun _ h => List.mem_cons_of_mem _ (List.mem_append_right _ h)) (by decide +kernel))
set_option maxRecDepth 20000 in
theorem gX1_stepBy_X0_addStep_n62 : GoodIn wsX1_stepBy (wsX0_addStep) := ggX1_stepBy_X0_addStep
theorem dX1_stepBy_0 : decode cX1_stepBy 0 = .ok (.aload_n 0, 1) := by decide +kernel
theorem dX1_stepBy_1 : decode cX1_stepBy 1 = .ok (.iload_n 1, 1) := by decide +kernel
theorem dX1_stepBy_2 : decode cX1_stepBy 2 = .ok (.invokevirtual 55, 3) := by decide +kernel
theorem dX1_stepBy_5 : decode cX1_stepBy 5 = .ok (.astore 5, 2) := by decide +kernel
theorem dX1_stepBy_7 : decode cX1_stepBy 7 = .ok (.aload 5, 2) := by decide +kernel
theorem dX1_stepBy_9 : decode cX1_stepBy 9 = .ok (.getfield 36, 3) := by decide +kernel
theorem dX1_stepBy_12 : decode cX1_stepBy 12 = .ok (.iload_n 2, 1) := by decide +kernel
theorem dX1_stepBy_13 : decode cX1_stepBy 13 = .ok (.iconst 1, 1) := by decide +kernel
theorem dX1_stepBy_14 : decode cX1_stepBy 14 = .ok (.invokestatic 58, 3) := by decide +kernel
theorem dX1_stepBy_17 : decode cX1_stepBy 17 = .ok (.aload 5, 2) := by decide +kernel
theorem dX1_stepBy_19 : decode cX1_stepBy 19 = .ok (.getfield 36, 3) := by decide +kernel
theorem dX1_stepBy_22 : decode cX1_stepBy 22 = .ok (.lload_n 3, 1) := by decide +kernel
theorem dX1_stepBy_23 : decode cX1_stepBy 23 = .ok (.invokestatic 66, 3) := by decide +kernel
theorem dX1_stepBy_26 : decode cX1_stepBy 26 = .ok (.aload 5, 2) := by decide +kernel
theorem dX1_stepBy_28 : decode cX1_stepBy 28 = .ok (.iload_n 2, 1) := by decide +kernel
theorem dX1_stepBy_29 : decode cX1_stepBy 29 = .ok (.iconst (-1), 1) := by decide +kernel
theorem dX1_stepBy_30 : decode cX1_stepBy 30 = .ok (.lload_n 3, 1) := by decide +kernel
theorem dX1_stepBy_31 : decode cX1_stepBy 31 = .ok (.invokevirtual 62, 3) := by decide +kernel
theorem dX1_stepBy_34 : decode cX1_stepBy 34 = .ok (.ireturn, 1) := by decide +kernel
set_option maxRecDepth 20000 in
theorem ggX1_stepOf_X1_needGauge : GoodIn wsX1_stepOf wsX1_needGauge := goodIn_ca (goodIn_r _ [7, 8, 9, 10, 11, 12, 6, 13, 14, 15, 16, 17, 48] (by decide +kernel) (by decide +kernel)) (goodIn_sub (fun _ h => List.mem_cons_of_mem _ (List.mem_append_left _ (List.mem_append_right _ h))) (by decide +kernel))
set_option maxRecDepth 20000 in
theorem gX1_stepOf_X1_needGauge : GoodIn wsX1_stepOf (wsV RX1 55 RX1 yX1_needGauge wsX1_needGauge) := goodIn_app (goodIn_of _ (by decide +kernel)) ggX1_stepOf_X1_needGauge
set_option maxRecDepth 20000 in
theorem ggX1_stepOf_X1_needSort : GoodIn wsX1_stepOf wsX1_needSort := goodIn_ca (goodIn_r _ [20, 1, 2, 21, 22, 6, 23, 24, 25, 26] (by decide +kernel) (by decide +kernel)) (goodIn_sub (fun _ h => List.mem_cons_of_mem _ (List.mem_append_left _ (List.mem_append_left _ (List.mem_append_right _ h)))) (by decide +kernel))
set_option maxRecDepth 20000 in
theorem gX1_stepOf_X1_needSort : GoodIn wsX1_stepOf (va_wsS RX1 58 yX1_needSort wsX1_needSort) := goodIn_app (goodIn_of _ (by decide +kernel)) ggX1_stepOf_X1_needSort
set_option maxRecDepth 20000 in
theorem ggX1_stepOf_X0_addStep : GoodIn wsX1_stepOf wsX0_addStep := goodIn_ca (goodIn_r _ [30, 31, 32, 33, 34, 35, 36, 37, 38, 39, 40, 41, 42, 43, 44, 45, 46, 47] (by decide +kernel) (by decide +kernel)) (goodIn_sub (fun _ h => List.mem_cons_of_mem _ (List.mem_append_right _ h)) (by decide +kernel))
set_option maxRecDepth 20000 in
theorem gX1_stepOf_X0_addStep_n62 : GoodIn wsX1_stepOf (wsX0_addStep) := ggX1_stepOf_X0_addStep
theorem dX1_stepOf_0 : decode cX1_stepOf 0 = .ok (.aload_n 0, 1) := by decide +kernel
theorem dX1_stepOf_1 : decode cX1_stepOf 1 = .ok (.iload_n 1, 1) := by decide +kernel
theorem dX1_stepOf_2 : decode cX1_stepOf 2 = .ok (.invokevirtual 55, 3) := by decide +kernel
theorem dX1_stepOf_5 : decode cX1_stepOf 5 = .ok (.astore 4, 2) := by decide +kernel
theorem dX1_stepOf_7 : decode cX1_stepOf 7 = .ok (.aload_n 0, 1) := by decide +kernel
theorem dX1_stepOf_8 : decode cX1_stepOf 8 = .ok (.iload_n 3, 1) := by decide +kernel
theorem dX1_stepOf_9 : decode cX1_stepOf 9 = .ok (.invokevirtual 55, 3) := by decide +kernel
theorem dX1_stepOf_12 : decode cX1_stepOf 12 = .ok (.astore 5, 2) := by decide +kernel
theorem dX1_stepOf_14 : decode cX1_stepOf 14 = .ok (.aload 4, 2) := by decide +kernel
theorem dX1_stepOf_16 : decode cX1_stepOf 16 = .ok (.getfield 36, 3) := by decide +kernel
theorem dX1_stepOf_19 : decode cX1_stepOf 19 = .ok (.iload_n 2, 1) := by decide +kernel
theorem dX1_stepOf_20 : decode cX1_stepOf 20 = .ok (.iconst 1, 1) := by decide +kernel
theorem dX1_stepOf_21 : decode cX1_stepOf 21 = .ok (.invokestatic 58, 3) := by decide +kernel
theorem dX1_stepOf_24 : decode cX1_stepOf 24 = .ok (.aload 5, 2) := by decide +kernel
theorem dX1_stepOf_26 : decode cX1_stepOf 26 = .ok (.getfield 36, 3) := by decide +kernel
theorem dX1_stepOf_29 : decode cX1_stepOf 29 = .ok (.aload 4, 2) := by decide +kernel
theorem dX1_stepOf_31 : decode cX1_stepOf 31 = .ok (.getfield 36, 3) := by decide +kernel
theorem dX1_stepOf_34 : decode cX1_stepOf 34 = .ok (.if_icmp .eq 13, 3) := by decide +kernel
theorem dX1_stepOf_37 : decode cX1_stepOf 37 = .ok (.new 70, 3) := by decide +kernel
theorem dX1_stepOf_40 : decode cX1_stepOf 40 = .ok (.dup, 1) := by decide +kernel
theorem dX1_stepOf_41 : decode cX1_stepOf 41 = .ok (.ldc 72, 2) := by decide +kernel
theorem dX1_stepOf_43 : decode cX1_stepOf 43 = .ok (.invokespecial 74, 3) := by decide +kernel
theorem dX1_stepOf_46 : decode cX1_stepOf 46 = .ok (.athrow, 1) := by decide +kernel
theorem dX1_stepOf_47 : decode cX1_stepOf 47 = .ok (.aload 4, 2) := by decide +kernel
theorem dX1_stepOf_49 : decode cX1_stepOf 49 = .ok (.iload_n 2, 1) := by decide +kernel
theorem dX1_stepOf_50 : decode cX1_stepOf 50 = .ok (.iload_n 3, 1) := by decide +kernel
theorem dX1_stepOf_51 : decode cX1_stepOf 51 = .ok (.lconst 0, 1) := by decide +kernel
theorem dX1_stepOf_52 : decode cX1_stepOf 52 = .ok (.invokevirtual 62, 3) := by decide +kernel
theorem dX1_stepOf_55 : decode cX1_stepOf 55 = .ok (.ireturn, 1) := by decide +kernel
set_option maxRecDepth 20000 in
theorem ggX1_bare_X1_needGauge : GoodIn wsX1_bare wsX1_needGauge := goodIn_ca (goodIn_r _ [5, 6, 7, 8, 9, 10, 4, 11, 12, 13, 14, 15, 27] (by decide +kernel) (by decide +kernel)) (goodIn_sub (fun _ h => List.mem_cons_of_mem _ (List.mem_append_right _ h)) (by decide +kernel))
set_option maxRecDepth 20000 in
theorem gX1_bare_X1_needGauge : GoodIn wsX1_bare (wsV RX1 55 RX1 yX1_needGauge wsX1_needGauge) := goodIn_app (goodIn_of _ (by decide +kernel)) ggX1_bare_X1_needGauge
theorem dX1_bare_0 : decode cX1_bare 0 = .ok (.aload_n 0, 1) := by decide +kernel
theorem dX1_bare_1 : decode cX1_bare 1 = .ok (.iload_n 1, 1) := by decide +kernel
theorem dX1_bare_2 : decode cX1_bare 2 = .ok (.invokevirtual 55, 3) := by decide +kernel
theorem dX1_bare_5 : decode cX1_bare 5 = .ok (.astore_n 2, 1) := by decide +kernel
theorem dX1_bare_6 : decode cX1_bare 6 = .ok (.aload_n 2, 1) := by decide +kernel
theorem dX1_bare_7 : decode cX1_bare 7 = .ok (.getfield 75, 3) := by decide +kernel
theorem dX1_bare_10 : decode cX1_bare 10 = .ok (.istore_n 3, 1) := by decide +kernel
theorem dX1_bare_11 : decode cX1_bare 11 = .ok (.aload_n 2, 1) := by decide +kernel
theorem dX1_bare_12 : decode cX1_bare 12 = .ok (.iconst 0, 1) := by decide +kernel
theorem dX1_bare_13 : decode cX1_bare 13 = .ok (.putfield 75, 3) := by decide +kernel
theorem dX1_bare_16 : decode cX1_bare 16 = .ok (.iload_n 3, 1) := by decide +kernel
theorem dX1_bare_17 : decode cX1_bare 17 = .ok (.ireturn, 1) := by decide +kernel
set_option maxRecDepth 20000 in
theorem ggX1_read_X1_needGauge : GoodIn wsX1_read wsX1_needGauge := goodIn_ca (goodIn_r _ [5, 6, 7, 8, 9, 10, 4, 11, 12, 13, 14, 15, 118] (by decide +kernel) (by decide +kernel)) (goodIn_sub (fun _ h => List.mem_cons_of_mem _ (List.mem_append_left _ (List.mem_append_right _ h))) (by decide +kernel))
set_option maxRecDepth 20000 in
theorem gX1_read_X1_needGauge : GoodIn wsX1_read (wsV RX1 55 RX1 yX1_needGauge wsX1_needGauge) := goodIn_app (goodIn_of _ (by decide +kernel)) ggX1_read_X1_needGauge
set_option maxRecDepth 20000 in
theorem ggX1_read_X1_needGood : GoodIn wsX1_read wsX1_needGood := goodIn_ca (goodIn_r _ [18, 19, 20, 21, 22, 4, 23, 24, 25, 26, 27, 28] (by decide +kernel) (by decide +kernel)) (goodIn_sub (fun _ h => List.mem_cons_of_mem _ (List.mem_append_right _ h)) (by decide +kernel))
set_option maxRecDepth 20000 in
theorem gX1_read_X1_needGood : GoodIn wsX1_read (va_wsS RX1 66 yX1_needGood wsX1_needGood) := goodIn_app (goodIn_of _ (by decide +kernel)) ggX1_read_X1_needGood
set_option maxRecDepth 20000 in
theorem ggX1_read_X1_takeReading : GoodIn wsX1_read wsX1_takeReading := goodIn_r _ [32, 33, 34, 35, 4, 36, 8, 9, 10, 11, 12, 13, 14, 15, 37, 38, 39, 40, 41, 42, 43, 26, 44, 45, 46, 47, 48, 49, 50, 51, 52, 53, 54, 55, 56, 57, 58, 59, 24, 60, 61, 62, 63, 64, 65, 66, 67, 68, 69, 70, 71, 72, 73, 74, 75, 76, 77, 78, 79, 80, 81, 82, 83, 84, 85, 86, 87, 88, 89, 90, 91, 92, 93, 94, 95, 96, 97, 98, 99, 100, 101, 102, 103, 104, 105, 106, 107, 108, 109, 110, 111, 112, 113, 114, 115, 116, 117, 118] (by decide +kernel) (by decide +kernel)
set_option maxRecDepth 20000 in
theorem gX1_read_X1_takeReading : GoodIn wsX1_read (wsV RX1 78 RX1 yX1_takeReading wsX1_takeReading) := goodIn_app (goodIn_of _ (by decide +kernel)) ggX1_read_X1_takeReading
theorem dX1_read_0 : decode cX1_read 0 = .ok (.aload_n 0, 1) := by decide +kernel
theorem dX1_read_1 : decode cX1_read 1 = .ok (.iload_n 1, 1) := by decide +kernel
theorem dX1_read_2 : decode cX1_read 2 = .ok (.invokevirtual 55, 3) := by decide +kernel
theorem dX1_read_5 : decode cX1_read 5 = .ok (.astore 4, 2) := by decide +kernel
theorem dX1_read_7 : decode cX1_read 7 = .ok (.aload 4, 2) := by decide +kernel
theorem dX1_read_9 : decode cX1_read 9 = .ok (.getfield 36, 3) := by decide +kernel
theorem dX1_read_12 : decode cX1_read 12 = .ok (.lload_n 2, 1) := by decide +kernel
theorem dX1_read_13 : decode cX1_read 13 = .ok (.invokestatic 66, 3) := by decide +kernel
theorem dX1_read_16 : decode cX1_read 16 = .ok (.aload_n 0, 1) := by decide +kernel
theorem dX1_read_17 : decode cX1_read 17 = .ok (.aload 4, 2) := by decide +kernel
theorem dX1_read_19 : decode cX1_read 19 = .ok (.lload_n 2, 1) := by decide +kernel
theorem dX1_read_20 : decode cX1_read 20 = .ok (.invokevirtual 78, 3) := by decide +kernel
theorem dX1_read_23 : decode cX1_read 23 = .ok (.lreturn, 1) := by decide +kernel
set_option maxRecDepth 20000 in
theorem ggX1_hand_X1_needGauge : GoodIn wsX1_hand wsX1_needGauge := goodIn_ca (goodIn_r _ [7, 8, 9, 10, 11, 12, 6, 13, 14, 15, 16, 17, 135] (by decide +kernel) (by decide +kernel)) (goodIn_sub (fun _ h => List.mem_cons_of_mem _ (List.mem_append_right _ h)) (by decide +kernel))
set_option maxRecDepth 20000 in
theorem gX1_hand_X1_needGauge : GoodIn wsX1_hand (wsV RX1 55 RX1 yX1_needGauge wsX1_needGauge) := goodIn_app (goodIn_of _ (by decide +kernel)) ggX1_hand_X1_needGauge
set_option maxRecDepth 20000 in
theorem ggX1_hand_X1_canHandOn : GoodIn wsX1_hand wsX1_canHandOn := goodIn_r _ [20] (by decide +kernel) (by decide +kernel)
set_option maxRecDepth 20000 in
theorem gX1_hand_X1_canHandOn : GoodIn wsX1_hand (va_wsS RX1 84 yX1_canHandOn wsX1_canHandOn) := goodIn_app (goodIn_of _ (by decide +kernel)) ggX1_hand_X1_canHandOn
set_option maxRecDepth 20000 in
theorem ggX1_hand_X1_handedOn : GoodIn wsX1_hand wsX1_handedOn := goodIn_r _ [23, 24, 25, 6, 26, 27, 28, 29, 30, 31, 32, 33, 34, 35, 36, 37, 38, 39, 40, 41, 42, 43, 44, 45, 46, 47, 48, 49, 50, 51, 52, 53, 54] (by decide +kernel) (by decide +kernel)
set_option maxRecDepth 20000 in
theorem gX1_hand_X1_handedOn : GoodIn wsX1_hand (va_wsS RX1 94 yX1_handedOn wsX1_handedOn) := goodIn_app (goodIn_of _ (by decide +kernel)) ggX1_hand_X1_handedOn
set_option maxRecDepth 20000 in
theorem ggX1_hand_X1_takeReading : GoodIn wsX1_hand wsX1_takeReading := goodIn_r _ [58, 59, 60, 61, 6, 62, 10, 11, 12, 13, 14, 15, 16, 17, 63, 64, 65, 66, 67, 68, 69, 53, 54, 70, 71, 72, 50, 51, 52, 73, 74, 75, 76, 77, 78, 79, 80, 81, 82, 83, 84, 85, 86, 87, 88, 89, 90, 47, 48, 49, 91, 92, 93, 94, 95, 96, 97, 98, 99, 100, 101, 102, 103, 104, 105, 106, 107, 108, 109, 110, 44, 45, 46, 111, 112, 113, 114, 115, 116, 117, 118, 119, 120, 121, 122, 123, 124, 125, 126, 127, 128, 129, 130, 131, 132, 133, 134, 135] (by decide +kernel) (by decide +kernel)
set_option maxRecDepth 20000 in
theorem gX1_hand_X1_takeReading : GoodIn wsX1_hand (wsV RX1 78 RX1 yX1_takeReading wsX1_takeReading) := goodIn_app (goodIn_of _ (by decide +kernel)) ggX1_hand_X1_takeReading
theorem dX1_hand_0 : decode cX1_hand 0 = .ok (.aload_n 0, 1) := by decide +kernel
theorem dX1_hand_1 : decode cX1_hand 1 = .ok (.iload_n 1, 1) := by decide +kernel
theorem dX1_hand_2 : decode cX1_hand 2 = .ok (.invokevirtual 55, 3) := by decide +kernel
theorem dX1_hand_5 : decode cX1_hand 5 = .ok (.astore_n 3, 1) := by decide +kernel
theorem dX1_hand_6 : decode cX1_hand 6 = .ok (.aload_n 0, 1) := by decide +kernel
theorem dX1_hand_7 : decode cX1_hand 7 = .ok (.iload_n 2, 1) := by decide +kernel
theorem dX1_hand_8 : decode cX1_hand 8 = .ok (.invokevirtual 55, 3) := by decide +kernel
theorem dX1_hand_11 : decode cX1_hand 11 = .ok (.astore 4, 2) := by decide +kernel
theorem dX1_hand_13 : decode cX1_hand 13 = .ok (.iload_n 1, 1) := by decide +kernel
theorem dX1_hand_14 : decode cX1_hand 14 = .ok (.iload_n 2, 1) := by decide +kernel
theorem dX1_hand_15 : decode cX1_hand 15 = .ok (.if_icmp .ne 13, 3) := by decide +kernel
theorem dX1_hand_18 : decode cX1_hand 18 = .ok (.new 70, 3) := by decide +kernel
theorem dX1_hand_21 : decode cX1_hand 21 = .ok (.dup, 1) := by decide +kernel
theorem dX1_hand_22 : decode cX1_hand 22 = .ok (.ldc 82, 2) := by decide +kernel
theorem dX1_hand_24 : decode cX1_hand 24 = .ok (.invokespecial 74, 3) := by decide +kernel
theorem dX1_hand_27 : decode cX1_hand 27 = .ok (.athrow, 1) := by decide +kernel
theorem dX1_hand_28 : decode cX1_hand 28 = .ok (.aload_n 3, 1) := by decide +kernel
theorem dX1_hand_29 : decode cX1_hand 29 = .ok (.getfield 36, 3) := by decide +kernel
theorem dX1_hand_32 : decode cX1_hand 32 = .ok (.aload 4, 2) := by decide +kernel
theorem dX1_hand_34 : decode cX1_hand 34 = .ok (.getfield 36, 3) := by decide +kernel
theorem dX1_hand_37 : decode cX1_hand 37 = .ok (.invokestatic 84, 3) := by decide +kernel
theorem dX1_hand_40 : decode cX1_hand 40 = .ok (.ifCond .ne 13, 3) := by decide +kernel
theorem dX1_hand_43 : decode cX1_hand 43 = .ok (.new 70, 3) := by decide +kernel
theorem dX1_hand_46 : decode cX1_hand 46 = .ok (.dup, 1) := by decide +kernel
theorem dX1_hand_47 : decode cX1_hand 47 = .ok (.ldc 88, 2) := by decide +kernel
theorem dX1_hand_49 : decode cX1_hand 49 = .ok (.invokespecial 74, 3) := by decide +kernel
theorem dX1_hand_52 : decode cX1_hand 52 = .ok (.athrow, 1) := by decide +kernel
theorem dX1_hand_53 : decode cX1_hand 53 = .ok (.aload_n 0, 1) := by decide +kernel
theorem dX1_hand_54 : decode cX1_hand 54 = .ok (.aload 4, 2) := by decide +kernel
theorem dX1_hand_56 : decode cX1_hand 56 = .ok (.aload_n 3, 1) := by decide +kernel
theorem dX1_hand_57 : decode cX1_hand 57 = .ok (.getfield 90, 3) := by decide +kernel
theorem dX1_hand_60 : decode cX1_hand 60 = .ok (.aload_n 3, 1) := by decide +kernel
theorem dX1_hand_61 : decode cX1_hand 61 = .ok (.getfield 36, 3) := by decide +kernel
theorem dX1_hand_64 : decode cX1_hand 64 = .ok (.aload 4, 2) := by decide +kernel
theorem dX1_hand_66 : decode cX1_hand 66 = .ok (.getfield 36, 3) := by decide +kernel
theorem dX1_hand_69 : decode cX1_hand 69 = .ok (.invokestatic 94, 3) := by decide +kernel
theorem dX1_hand_72 : decode cX1_hand 72 = .ok (.invokevirtual 78, 3) := by decide +kernel
theorem dX1_hand_75 : decode cX1_hand 75 = .ok (.lreturn, 1) := by decide +kernel
set_option maxRecDepth 20000 in
theorem ggX1_clear_X1_needGauge : GoodIn wsX1_clear wsX1_needGauge := goodIn_ca (goodIn_r _ [5, 6, 7, 8, 9, 10, 4, 11, 12, 13, 14, 15, 27] (by decide +kernel) (by decide +kernel)) (goodIn_sub (fun _ h => List.mem_cons_of_mem _ (List.mem_append_right _ h)) (by decide +kernel))
set_option maxRecDepth 20000 in
theorem gX1_clear_X1_needGauge : GoodIn wsX1_clear (wsV RX1 55 RX1 yX1_needGauge wsX1_needGauge) := goodIn_app (goodIn_of _ (by decide +kernel)) ggX1_clear_X1_needGauge
theorem dX1_clear_0 : decode cX1_clear 0 = .ok (.aload_n 0, 1) := by decide +kernel
theorem dX1_clear_1 : decode cX1_clear 1 = .ok (.iload_n 1, 1) := by decide +kernel
theorem dX1_clear_2 : decode cX1_clear 2 = .ok (.invokevirtual 55, 3) := by decide +kernel
theorem dX1_clear_5 : decode cX1_clear 5 = .ok (.astore_n 2, 1) := by decide +kernel
theorem dX1_clear_6 : decode cX1_clear 6 = .ok (.aload_n 2, 1) := by decide +kernel
theorem dX1_clear_7 : decode cX1_clear 7 = .ok (.getfield 98, 3) := by decide +kernel
theorem dX1_clear_10 : decode cX1_clear 10 = .ok (.istore_n 3, 1) := by decide +kernel
theorem dX1_clear_11 : decode cX1_clear 11 = .ok (.aload_n 2, 1) := by decide +kernel
theorem dX1_clear_12 : decode cX1_clear 12 = .ok (.iconst 0, 1) := by decide +kernel
theorem dX1_clear_13 : decode cX1_clear 13 = .ok (.putfield 98, 3) := by decide +kernel
theorem dX1_clear_16 : decode cX1_clear 16 = .ok (.iload_n 3, 1) := by decide +kernel
theorem dX1_clear_17 : decode cX1_clear 17 = .ok (.ireturn, 1) := by decide +kernel
set_option maxRecDepth 20000 in
theorem ggX1_value_X1_needGauge : GoodIn wsX1_value wsX1_needGauge := goodIn_ca (goodIn_r _ [5, 6, 7, 8, 9, 10, 4, 11, 12, 13, 14, 15, 27] (by decide +kernel) (by decide +kernel)) (goodIn_sub (fun _ h => List.mem_cons_of_mem _ (List.mem_append_right _ h)) (by decide +kernel))
set_option maxRecDepth 20000 in
theorem gX1_value_X1_needGauge : GoodIn wsX1_value (wsV RX1 55 RX1 yX1_needGauge wsX1_needGauge) := goodIn_app (goodIn_of _ (by decide +kernel)) ggX1_value_X1_needGauge
theorem dX1_value_0 : decode cX1_value 0 = .ok (.aload_n 0, 1) := by decide +kernel
theorem dX1_value_1 : decode cX1_value 1 = .ok (.iload_n 1, 1) := by decide +kernel
theorem dX1_value_2 : decode cX1_value 2 = .ok (.invokevirtual 55, 3) := by decide +kernel
theorem dX1_value_5 : decode cX1_value 5 = .ok (.getfield 90, 3) := by decide +kernel
theorem dX1_value_8 : decode cX1_value 8 = .ok (.lreturn, 1) := by decide +kernel
set_option maxRecDepth 20000 in
theorem ggX1_mark_X1_needGauge : GoodIn wsX1_mark wsX1_needGauge := goodIn_ca (goodIn_r _ [7, 8, 9, 10, 11, 12, 6, 13, 14, 15, 16, 17, 29] (by decide +kernel) (by decide +kernel)) (goodIn_sub (fun _ h => List.mem_cons_of_mem _ (List.mem_append_right _ h)) (by decide +kernel))
set_option maxRecDepth 20000 in
theorem gX1_mark_X1_needGauge : GoodIn wsX1_mark (wsV RX1 55 RX1 yX1_needGauge wsX1_needGauge) := goodIn_app (goodIn_of _ (by decide +kernel)) ggX1_mark_X1_needGauge
theorem dX1_mark_0 : decode cX1_mark 0 = .ok (.aload_n 0, 1) := by decide +kernel
theorem dX1_mark_1 : decode cX1_mark 1 = .ok (.iload_n 1, 1) := by decide +kernel
theorem dX1_mark_2 : decode cX1_mark 2 = .ok (.invokevirtual 55, 3) := by decide +kernel
theorem dX1_mark_5 : decode cX1_mark 5 = .ok (.astore_n 3, 1) := by decide +kernel
theorem dX1_mark_6 : decode cX1_mark 6 = .ok (.aload_n 3, 1) := by decide +kernel
theorem dX1_mark_7 : decode cX1_mark 7 = .ok (.getfield 98, 3) := by decide +kernel
theorem dX1_mark_10 : decode cX1_mark 10 = .ok (.ifCond .ne 13, 3) := by decide +kernel
theorem dX1_mark_13 : decode cX1_mark 13 = .ok (.new 47, 3) := by decide +kernel
theorem dX1_mark_16 : decode cX1_mark 16 = .ok (.dup, 1) := by decide +kernel
theorem dX1_mark_17 : decode cX1_mark 17 = .ok (.ldc 102, 2) := by decide +kernel
theorem dX1_mark_19 : decode cX1_mark 19 = .ok (.invokespecial 51, 3) := by decide +kernel
theorem dX1_mark_22 : decode cX1_mark 22 = .ok (.athrow, 1) := by decide +kernel
theorem dX1_mark_23 : decode cX1_mark 23 = .ok (.iload_n 2, 1) := by decide +kernel
theorem dX1_mark_24 : decode cX1_mark 24 = .ok (.ifCond .eq 10, 3) := by decide +kernel
theorem dX1_mark_27 : decode cX1_mark 27 = .ok (.aload_n 3, 1) := by decide +kernel
theorem dX1_mark_28 : decode cX1_mark 28 = .ok (.getfield 104, 3) := by decide +kernel
theorem dX1_mark_31 : decode cX1_mark 31 = .ok (.goto 7, 3) := by decide +kernel
theorem dX1_mark_34 : decode cX1_mark 34 = .ok (.aload_n 3, 1) := by decide +kernel
theorem dX1_mark_35 : decode cX1_mark 35 = .ok (.getfield 107, 3) := by decide +kernel
theorem dX1_mark_38 : decode cX1_mark 38 = .ok (.lreturn, 1) := by decide +kernel
set_option maxRecDepth 20000 in
theorem ggX1_about_X1_needGauge : GoodIn wsX1_about wsX1_needGauge := goodIn_ca (goodIn_r _ [7, 8, 9, 10, 11, 12, 6, 13, 14, 15, 16, 17, 42] (by decide +kernel) (by decide +kernel)) (goodIn_sub (fun _ h => List.mem_cons_of_mem _ (List.mem_append_right _ h)) (by decide +kernel))
set_option maxRecDepth 20000 in
theorem gX1_about_X1_needGauge : GoodIn wsX1_about (wsV RX1 55 RX1 yX1_needGauge wsX1_needGauge) := goodIn_app (goodIn_of _ (by decide +kernel)) ggX1_about_X1_needGauge
set_option maxRecDepth 20000 in
theorem ggX1_about_X1_signOf : GoodIn wsX1_about wsX1_signOf := goodIn_r _ [20] (by decide +kernel) (by decide +kernel)
set_option maxRecDepth 20000 in
theorem gX1_about_X1_signOf : GoodIn wsX1_about (va_wsS RX1 116 yX1_signOf wsX1_signOf) := goodIn_app (goodIn_of _ (by decide +kernel)) ggX1_about_X1_signOf
set_option maxRecDepth 20000 in
theorem ggX1_about_X1_stepsTaking : GoodIn wsX1_about wsX1_stepsTaking := goodIn_r _ [24, 14, 25, 26, 27, 28, 29, 30, 42, 31, 32, 33, 34, 35, 36, 37, 38, 39, 40, 41] (by decide +kernel) (by decide +kernel)
set_option maxRecDepth 20000 in
theorem gX1_about_X1_stepsTaking : GoodIn wsX1_about (wsV RX1 40 RX1 yX1_stepsTaking wsX1_stepsTaking) := goodIn_app (goodIn_of _ (by decide +kernel)) ggX1_about_X1_stepsTaking
theorem dX1_about_0 : decode cX1_about 0 = .ok (.aload_n 0, 1) := by decide +kernel
theorem dX1_about_1 : decode cX1_about 1 = .ok (.iload_n 1, 1) := by decide +kernel
theorem dX1_about_2 : decode cX1_about 2 = .ok (.invokevirtual 55, 3) := by decide +kernel
theorem dX1_about_5 : decode cX1_about 5 = .ok (.astore_n 3, 1) := by decide +kernel
theorem dX1_about_6 : decode cX1_about 6 = .ok (.iload_n 2, 1) := by decide +kernel
theorem dX1_about_7 : decode cX1_about 7 = .ok (.tableswitch 71 0 5 #[37, 42, 47, 52, 57, 65], 37) := by decide +kernel
theorem dX1_about_44 : decode cX1_about 44 = .ok (.aload_n 3, 1) := by decide +kernel
theorem dX1_about_45 : decode cX1_about 45 = .ok (.getfield 36, 3) := by decide +kernel
theorem dX1_about_48 : decode cX1_about 48 = .ok (.ireturn, 1) := by decide +kernel
theorem dX1_about_49 : decode cX1_about 49 = .ok (.aload_n 3, 1) := by decide +kernel
theorem dX1_about_50 : decode cX1_about 50 = .ok (.getfield 75, 3) := by decide +kernel
theorem dX1_about_53 : decode cX1_about 53 = .ok (.ireturn, 1) := by decide +kernel
theorem dX1_about_54 : decode cX1_about 54 = .ok (.aload_n 3, 1) := by decide +kernel
theorem dX1_about_55 : decode cX1_about 55 = .ok (.getfield 110, 3) := by decide +kernel
theorem dX1_about_58 : decode cX1_about 58 = .ok (.ireturn, 1) := by decide +kernel
theorem dX1_about_59 : decode cX1_about 59 = .ok (.aload_n 3, 1) := by decide +kernel
theorem dX1_about_60 : decode cX1_about 60 = .ok (.getfield 113, 3) := by decide +kernel
theorem dX1_about_63 : decode cX1_about 63 = .ok (.ireturn, 1) := by decide +kernel
theorem dX1_about_64 : decode cX1_about 64 = .ok (.aload_n 3, 1) := by decide +kernel
theorem dX1_about_65 : decode cX1_about 65 = .ok (.getfield 90, 3) := by decide +kernel
theorem dX1_about_68 : decode cX1_about 68 = .ok (.invokestatic 116, 3) := by decide +kernel
theorem dX1_about_71 : decode cX1_about 71 = .ok (.ireturn, 1) := by decide +kernel
theorem dX1_about_72 : decode cX1_about 72 = .ok (.aload_n 0, 1) := by decide +kernel
theorem dX1_about_73 : decode cX1_about 73 = .ok (.iload_n 1, 1) := by decide +kernel
theorem dX1_about_74 : decode cX1_about 74 = .ok (.invokevirtual 40, 3) := by decide +kernel
theorem dX1_about_77 : decode cX1_about 77 = .ok (.ireturn, 1) := by decide +kernel
theorem dX1_about_78 : decode cX1_about 78 = .ok (.new 70, 3) := by decide +kernel
theorem dX1_about_81 : decode cX1_about 81 = .ok (.dup, 1) := by decide +kernel
theorem dX1_about_82 : decode cX1_about 82 = .ok (.ldc 120, 2) := by decide +kernel
theorem dX1_about_84 : decode cX1_about 84 = .ok (.invokespecial 74, 3) := by decide +kernel
theorem dX1_about_87 : decode cX1_about 87 = .ok (.athrow, 1) := by decide +kernel
set_option maxRecDepth 20000 in
theorem ggX1_stepAt_X1_needGauge : GoodIn wsX1_stepAt wsX1_needGauge := goodIn_ca (goodIn_r _ [9, 1, 2, 10, 11, 12, 8, 13, 14, 15, 16, 17, 35] (by decide +kernel) (by decide +kernel)) (goodIn_sub (fun _ h => List.mem_cons_of_mem _ (List.mem_append_left _ (List.mem_append_right _ h))) (by decide +kernel))
set_option maxRecDepth 20000 in
theorem gX1_stepAt_X1_needGauge : GoodIn wsX1_stepAt (wsV RX1 55 RX1 yX1_needGauge wsX1_needGauge) := goodIn_app (goodIn_of _ (by decide +kernel)) ggX1_stepAt_X1_needGauge
set_option maxRecDepth 20000 in
theorem ggX1_stepAt_X1_operandForm : GoodIn wsX1_stepAt wsX1_operandForm := goodIn_r _ [20, 21, 22, 8, 23] (by decide +kernel) (by decide +kernel)
set_option maxRecDepth 20000 in
theorem gX1_stepAt_X1_operandForm : GoodIn wsX1_stepAt (va_wsS RX1 131 yX1_operandForm wsX1_operandForm) := goodIn_app (goodIn_of _ (by decide +kernel)) ggX1_stepAt_X1_operandForm
theorem dX1_stepAt_0 : decode cX1_stepAt 0 = .ok (.aload_n 0, 1) := by decide +kernel
theorem dX1_stepAt_1 : decode cX1_stepAt 1 = .ok (.iload_n 1, 1) := by decide +kernel
theorem dX1_stepAt_2 : decode cX1_stepAt 2 = .ok (.invokevirtual 55, 3) := by decide +kernel
theorem dX1_stepAt_5 : decode cX1_stepAt 5 = .ok (.astore 4, 2) := by decide +kernel
theorem dX1_stepAt_7 : decode cX1_stepAt 7 = .ok (.iload_n 2, 1) := by decide +kernel
theorem dX1_stepAt_8 : decode cX1_stepAt 8 = .ok (.ifCond .lt 12, 3) := by decide +kernel
theorem dX1_stepAt_11 : decode cX1_stepAt 11 = .ok (.iload_n 2, 1) := by decide +kernel
theorem dX1_stepAt_12 : decode cX1_stepAt 12 = .ok (.aload 4, 2) := by decide +kernel
theorem dX1_stepAt_14 : decode cX1_stepAt 14 = .ok (.getfield 75, 3) := by decide +kernel
theorem dX1_stepAt_17 : decode cX1_stepAt 17 = .ok (.if_icmp .lt 13, 3) := by decide +kernel
theorem dX1_stepAt_20 : decode cX1_stepAt 20 = .ok (.new 19, 3) := by decide +kernel
theorem dX1_stepAt_23 : decode cX1_stepAt 23 = .ok (.dup, 1) := by decide +kernel
theorem dX1_stepAt_24 : decode cX1_stepAt 24 = .ok (.ldc 122, 2) := by decide +kernel
theorem dX1_stepAt_26 : decode cX1_stepAt 26 = .ok (.invokespecial 23, 3) := by decide +kernel
theorem dX1_stepAt_29 : decode cX1_stepAt 29 = .ok (.athrow, 1) := by decide +kernel
theorem dX1_stepAt_30 : decode cX1_stepAt 30 = .ok (.iload_n 3, 1) := by decide +kernel
theorem dX1_stepAt_31 : decode cX1_stepAt 31 = .ok (.tableswitch 59 0 2 #[25, 33, 51], 25) := by decide +kernel
theorem dX1_stepAt_56 : decode cX1_stepAt 56 = .ok (.aload 4, 2) := by decide +kernel
theorem dX1_stepAt_58 : decode cX1_stepAt 58 = .ok (.getfield 124, 3) := by decide +kernel
theorem dX1_stepAt_61 : decode cX1_stepAt 61 = .ok (.iload_n 2, 1) := by decide +kernel
theorem dX1_stepAt_62 : decode cX1_stepAt 62 = .ok (.iaload, 1) := by decide +kernel
theorem dX1_stepAt_63 : decode cX1_stepAt 63 = .ok (.ireturn, 1) := by decide +kernel
theorem dX1_stepAt_64 : decode cX1_stepAt 64 = .ok (.aload 4, 2) := by decide +kernel
theorem dX1_stepAt_66 : decode cX1_stepAt 66 = .ok (.getfield 124, 3) := by decide +kernel
theorem dX1_stepAt_69 : decode cX1_stepAt 69 = .ok (.iload_n 2, 1) := by decide +kernel
theorem dX1_stepAt_70 : decode cX1_stepAt 70 = .ok (.iaload, 1) := by decide +kernel
theorem dX1_stepAt_71 : decode cX1_stepAt 71 = .ok (.aload 4, 2) := by decide +kernel
theorem dX1_stepAt_73 : decode cX1_stepAt 73 = .ok (.getfield 128, 3) := by decide +kernel
theorem dX1_stepAt_76 : decode cX1_stepAt 76 = .ok (.iload_n 2, 1) := by decide +kernel
theorem dX1_stepAt_77 : decode cX1_stepAt 77 = .ok (.iaload, 1) := by decide +kernel
theorem dX1_stepAt_78 : decode cX1_stepAt 78 = .ok (.invokestatic 131, 3) := by decide +kernel
theorem dX1_stepAt_81 : decode cX1_stepAt 81 = .ok (.ireturn, 1) := by decide +kernel
theorem dX1_stepAt_82 : decode cX1_stepAt 82 = .ok (.aload 4, 2) := by decide +kernel
theorem dX1_stepAt_84 : decode cX1_stepAt 84 = .ok (.getfield 128, 3) := by decide +kernel
theorem dX1_stepAt_87 : decode cX1_stepAt 87 = .ok (.iload_n 2, 1) := by decide +kernel
theorem dX1_stepAt_88 : decode cX1_stepAt 88 = .ok (.iaload, 1) := by decide +kernel
theorem dX1_stepAt_89 : decode cX1_stepAt 89 = .ok (.ireturn, 1) := by decide +kernel
theorem dX1_stepAt_90 : decode cX1_stepAt 90 = .ok (.new 70, 3) := by decide +kernel
theorem dX1_stepAt_93 : decode cX1_stepAt 93 = .ok (.dup, 1) := by decide +kernel
theorem dX1_stepAt_94 : decode cX1_stepAt 94 = .ok (.ldc 135, 2) := by decide +kernel
theorem dX1_stepAt_96 : decode cX1_stepAt 96 = .ok (.invokespecial 74, 3) := by decide +kernel
theorem dX1_stepAt_99 : decode cX1_stepAt 99 = .ok (.athrow, 1) := by decide +kernel
set_option maxRecDepth 20000 in
theorem ggX1_rank_X1_needGauge : GoodIn wsX1_rank wsX1_needGauge := goodIn_ca (goodIn_r _ [6, 7, 8, 9, 10, 11, 5, 12, 1, 13, 14, 15, 26] (by decide +kernel) (by decide +kernel)) (goodIn_sub (fun _ h => List.mem_cons_of_mem _ (List.mem_append_right _ h)) (by decide +kernel))
set_option maxRecDepth 20000 in
theorem gX1_rank_X1_needGauge : GoodIn wsX1_rank (wsV RX1 55 RX1 yX1_needGauge wsX1_needGauge) := goodIn_app (goodIn_of _ (by decide +kernel)) ggX1_rank_X1_needGauge
set_option maxRecDepth 20000 in
theorem ggX1_rank_X1_isAbove : GoodIn wsX1_rank wsX1_isAbove := goodIn_r _ [18, 19, 20, 5, 21, 22, 23, 24, 25] (by decide +kernel) (by decide +kernel)
set_option maxRecDepth 20000 in
theorem gX1_rank_X1_isAbove : GoodIn wsX1_rank (va_wsS RX1 137 yX1_isAbove wsX1_isAbove) := goodIn_app (goodIn_of _ (by decide +kernel)) ggX1_rank_X1_isAbove
theorem dX1_rank_0 : decode cX1_rank 0 = .ok (.aload_n 0, 1) := by decide +kernel
theorem dX1_rank_1 : decode cX1_rank 1 = .ok (.iload_n 1, 1) := by decide +kernel
theorem dX1_rank_2 : decode cX1_rank 2 = .ok (.invokevirtual 55, 3) := by decide +kernel
theorem dX1_rank_5 : decode cX1_rank 5 = .ok (.astore_n 2, 1) := by decide +kernel
theorem dX1_rank_6 : decode cX1_rank 6 = .ok (.iconst 0, 1) := by decide +kernel
theorem dX1_rank_7 : decode cX1_rank 7 = .ok (.istore_n 3, 1) := by decide +kernel
theorem dX1_rank_8 : decode cX1_rank 8 = .ok (.iconst 0, 1) := by decide +kernel
theorem dX1_rank_9 : decode cX1_rank 9 = .ok (.istore 4, 2) := by decide +kernel
theorem dX1_rank_11 : decode cX1_rank 11 = .ok (.iload 4, 2) := by decide +kernel
theorem dX1_rank_13 : decode cX1_rank 13 = .ok (.bipush 12, 2) := by decide +kernel
theorem dX1_rank_15 : decode cX1_rank 15 = .ok (.if_icmp .ge 57, 3) := by decide +kernel
theorem dX1_rank_18 : decode cX1_rank 18 = .ok (.aload_n 0, 1) := by decide +kernel
theorem dX1_rank_19 : decode cX1_rank 19 = .ok (.getfield 11, 3) := by decide +kernel
theorem dX1_rank_22 : decode cX1_rank 22 = .ok (.iload 4, 2) := by decide +kernel
theorem dX1_rank_24 : decode cX1_rank 24 = .ok (.aaload, 1) := by decide +kernel
theorem dX1_rank_25 : decode cX1_rank 25 = .ok (.astore 5, 2) := by decide +kernel
theorem dX1_rank_27 : decode cX1_rank 27 = .ok (.aload 5, 2) := by decide +kernel
theorem dX1_rank_29 : decode cX1_rank 29 = .ok (.ifnull 37, 3) := by decide +kernel
theorem dX1_rank_32 : decode cX1_rank 32 = .ok (.aload 5, 2) := by decide +kernel
theorem dX1_rank_34 : decode cX1_rank 34 = .ok (.getfield 36, 3) := by decide +kernel
theorem dX1_rank_37 : decode cX1_rank 37 = .ok (.aload_n 2, 1) := by decide +kernel
theorem dX1_rank_38 : decode cX1_rank 38 = .ok (.getfield 36, 3) := by decide +kernel
theorem dX1_rank_41 : decode cX1_rank 41 = .ok (.if_icmp .ne 25, 3) := by decide +kernel
theorem dX1_rank_44 : decode cX1_rank 44 = .ok (.aload 5, 2) := by decide +kernel
theorem dX1_rank_46 : decode cX1_rank 46 = .ok (.getfield 90, 3) := by decide +kernel
theorem dX1_rank_49 : decode cX1_rank 49 = .ok (.aload_n 2, 1) := by decide +kernel
theorem dX1_rank_50 : decode cX1_rank 50 = .ok (.getfield 90, 3) := by decide +kernel
theorem dX1_rank_53 : decode cX1_rank 53 = .ok (.aload_n 2, 1) := by decide +kernel
theorem dX1_rank_54 : decode cX1_rank 54 = .ok (.getfield 36, 3) := by decide +kernel
theorem dX1_rank_57 : decode cX1_rank 57 = .ok (.invokestatic 137, 3) := by decide +kernel
theorem dX1_rank_60 : decode cX1_rank 60 = .ok (.ifCond .ne 6, 3) := by decide +kernel
theorem dX1_rank_63 : decode cX1_rank 63 = .ok (.iinc 3 1, 3) := by decide +kernel
theorem dX1_rank_66 : decode cX1_rank 66 = .ok (.iinc 4 1, 3) := by decide +kernel
theorem dX1_rank_69 : decode cX1_rank 69 = .ok (.goto (-58), 3) := by decide +kernel
theorem dX1_rank_72 : decode cX1_rank 72 = .ok (.iload_n 3, 1) := by decide +kernel
theorem dX1_rank_73 : decode cX1_rank 73 = .ok (.ireturn, 1) := by decide +kernel
set_option maxRecDepth 20000 in
theorem ggX1_most_X1_needKind : GoodIn wsX1_most wsX1_needKind := goodIn_ca (goodIn_r _ [7, 8, 9] (by decide +kernel) (by decide +kernel)) (goodIn_sub (fun _ h => List.mem_cons_of_mem _ (List.mem_append_right _ h)) (by decide +kernel))
set_option maxRecDepth 20000 in
theorem gX1_most_X1_needKind : GoodIn wsX1_most (va_wsS RX1 26 yX1_needKind wsX1_needKind) := goodIn_app (goodIn_of _ (by decide +kernel)) ggX1_most_X1_needKind
set_option maxRecDepth 20000 in
theorem ggX1_most_X1_further : GoodIn wsX1_most wsX1_further := goodIn_r _ [12, 13, 14, 6, 15, 16, 17, 18, 19, 20, 21, 22, 24, 25, 26, 27, 28, 29, 30, 31, 32, 33, 34] (by decide +kernel) (by decide +kernel)
set_option maxRecDepth 20000 in
theorem gX1_most_X1_further : GoodIn wsX1_most (va_wsS RX1 141 yX1_further wsX1_further) := goodIn_app (goodIn_of _ (by decide +kernel)) ggX1_most_X1_further
theorem dX1_most_0 : decode cX1_most 0 = .ok (.iload_n 1, 1) := by decide +kernel
theorem dX1_most_1 : decode cX1_most 1 = .ok (.invokestatic 26, 3) := by decide +kernel
theorem dX1_most_4 : decode cX1_most 4 = .ok (.aconst_null, 1) := by decide +kernel
theorem dX1_most_5 : decode cX1_most 5 = .ok (.astore_n 3, 1) := by decide +kernel
theorem dX1_most_6 : decode cX1_most 6 = .ok (.iconst 0, 1) := by decide +kernel
theorem dX1_most_7 : decode cX1_most 7 = .ok (.istore 4, 2) := by decide +kernel
theorem dX1_most_9 : decode cX1_most 9 = .ok (.iload 4, 2) := by decide +kernel
theorem dX1_most_11 : decode cX1_most 11 = .ok (.bipush 12, 2) := by decide +kernel
theorem dX1_most_13 : decode cX1_most 13 = .ok (.if_icmp .ge 49, 3) := by decide +kernel
theorem dX1_most_16 : decode cX1_most 16 = .ok (.aload_n 0, 1) := by decide +kernel
theorem dX1_most_17 : decode cX1_most 17 = .ok (.getfield 11, 3) := by decide +kernel
theorem dX1_most_20 : decode cX1_most 20 = .ok (.iload 4, 2) := by decide +kernel
theorem dX1_most_22 : decode cX1_most 22 = .ok (.aaload, 1) := by decide +kernel
theorem dX1_most_23 : decode cX1_most 23 = .ok (.astore 5, 2) := by decide +kernel
theorem dX1_most_25 : decode cX1_most 25 = .ok (.aload 5, 2) := by decide +kernel
theorem dX1_most_27 : decode cX1_most 27 = .ok (.ifnull 29, 3) := by decide +kernel
theorem dX1_most_30 : decode cX1_most 30 = .ok (.aload 5, 2) := by decide +kernel
theorem dX1_most_32 : decode cX1_most 32 = .ok (.getfield 36, 3) := by decide +kernel
theorem dX1_most_35 : decode cX1_most 35 = .ok (.iload_n 1, 1) := by decide +kernel
theorem dX1_most_36 : decode cX1_most 36 = .ok (.if_icmp .ne 20, 3) := by decide +kernel
theorem dX1_most_39 : decode cX1_most 39 = .ok (.aload_n 3, 1) := by decide +kernel
theorem dX1_most_40 : decode cX1_most 40 = .ok (.ifnonnull 8, 3) := by decide +kernel
theorem dX1_most_43 : decode cX1_most 43 = .ok (.aload 5, 2) := by decide +kernel
theorem dX1_most_45 : decode cX1_most 45 = .ok (.goto 10, 3) := by decide +kernel
theorem dX1_most_48 : decode cX1_most 48 = .ok (.aload_n 3, 1) := by decide +kernel
theorem dX1_most_49 : decode cX1_most 49 = .ok (.aload 5, 2) := by decide +kernel
theorem dX1_most_51 : decode cX1_most 51 = .ok (.iload_n 2, 1) := by decide +kernel
theorem dX1_most_52 : decode cX1_most 52 = .ok (.invokestatic 141, 3) := by decide +kernel
theorem dX1_most_55 : decode cX1_most 55 = .ok (.astore_n 3, 1) := by decide +kernel
theorem dX1_most_56 : decode cX1_most 56 = .ok (.iinc 4 1, 3) := by decide +kernel
theorem dX1_most_59 : decode cX1_most 59 = .ok (.goto (-50), 3) := by decide +kernel
theorem dX1_most_62 : decode cX1_most 62 = .ok (.aload_n 3, 1) := by decide +kernel
theorem dX1_most_63 : decode cX1_most 63 = .ok (.ifnonnull 13, 3) := by decide +kernel
theorem dX1_most_66 : decode cX1_most 66 = .ok (.new 47, 3) := by decide +kernel
theorem dX1_most_69 : decode cX1_most 69 = .ok (.dup, 1) := by decide +kernel
theorem dX1_most_70 : decode cX1_most 70 = .ok (.ldc 145, 2) := by decide +kernel
theorem dX1_most_72 : decode cX1_most 72 = .ok (.invokespecial 51, 3) := by decide +kernel
theorem dX1_most_75 : decode cX1_most 75 = .ok (.athrow, 1) := by decide +kernel
theorem dX1_most_76 : decode cX1_most 76 = .ok (.aload_n 3, 1) := by decide +kernel
theorem dX1_most_77 : decode cX1_most 77 = .ok (.getfield 90, 3) := by decide +kernel
theorem dX1_most_80 : decode cX1_most 80 = .ok (.lreturn, 1) := by decide +kernel
theorem dX1_gauges_0 : decode cX1_gauges 0 = .ok (.iconst 0, 1) := by decide +kernel
theorem dX1_gauges_1 : decode cX1_gauges 1 = .ok (.istore_n 1, 1) := by decide +kernel
theorem dX1_gauges_2 : decode cX1_gauges 2 = .ok (.iconst 0, 1) := by decide +kernel
theorem dX1_gauges_3 : decode cX1_gauges 3 = .ok (.istore_n 2, 1) := by decide +kernel
theorem dX1_gauges_4 : decode cX1_gauges 4 = .ok (.iload_n 2, 1) := by decide +kernel
theorem dX1_gauges_5 : decode cX1_gauges 5 = .ok (.bipush 12, 2) := by decide +kernel
theorem dX1_gauges_7 : decode cX1_gauges 7 = .ok (.if_icmp .ge 21, 3) := by decide +kernel
theorem dX1_gauges_10 : decode cX1_gauges 10 = .ok (.aload_n 0, 1) := by decide +kernel
theorem dX1_gauges_11 : decode cX1_gauges 11 = .ok (.getfield 11, 3) := by decide +kernel
theorem dX1_gauges_14 : decode cX1_gauges 14 = .ok (.iload_n 2, 1) := by decide +kernel
theorem dX1_gauges_15 : decode cX1_gauges 15 = .ok (.aaload, 1) := by decide +kernel
theorem dX1_gauges_16 : decode cX1_gauges 16 = .ok (.ifnull 6, 3) := by decide +kernel
theorem dX1_gauges_19 : decode cX1_gauges 19 = .ok (.iinc 1 1, 3) := by decide +kernel
theorem dX1_gauges_22 : decode cX1_gauges 22 = .ok (.iinc 2 1, 3) := by decide +kernel
theorem dX1_gauges_25 : decode cX1_gauges 25 = .ok (.goto (-21), 3) := by decide +kernel
theorem dX1_gauges_28 : decode cX1_gauges 28 = .ok (.iload_n 1, 1) := by decide +kernel
theorem dX1_gauges_29 : decode cX1_gauges 29 = .ok (.ireturn, 1) := by decide +kernel
theorem dX1_isPlace_0 : decode cX1_isPlace 0 = .ok (.iload_n 0, 1) := by decide +kernel
theorem dX1_isPlace_1 : decode cX1_isPlace 1 = .ok (.ifCond .lt 13, 3) := by decide +kernel
theorem dX1_isPlace_4 : decode cX1_isPlace 4 = .ok (.iload_n 0, 1) := by decide +kernel
theorem dX1_isPlace_5 : decode cX1_isPlace 5 = .ok (.bipush 12, 2) := by decide +kernel
theorem dX1_isPlace_7 : decode cX1_isPlace 7 = .ok (.if_icmp .ge 7, 3) := by decide +kernel
theorem dX1_isPlace_10 : decode cX1_isPlace 10 = .ok (.iconst 1, 1) := by decide +kernel
theorem dX1_isPlace_11 : decode cX1_isPlace 11 = .ok (.goto 4, 3) := by decide +kernel
theorem dX1_isPlace_14 : decode cX1_isPlace 14 = .ok (.iconst 0, 1) := by decide +kernel
theorem dX1_isPlace_15 : decode cX1_isPlace 15 = .ok (.ireturn, 1) := by decide +kernel
set_option maxRecDepth 20000 in
theorem ggX1_gaugeAt_X1_isPlace : GoodIn wsX1_gaugeAt wsX1_isPlace := goodIn_r _ [5] (by decide +kernel) (by decide +kernel)
set_option maxRecDepth 20000 in
theorem gX1_gaugeAt_X1_isPlace : GoodIn wsX1_gaugeAt (va_wsS RX1 15 yX1_isPlace wsX1_isPlace) := goodIn_app (goodIn_of _ (by decide +kernel)) ggX1_gaugeAt_X1_isPlace
theorem dX1_gaugeAt_0 : decode cX1_gaugeAt 0 = .ok (.iload_n 1, 1) := by decide +kernel
theorem dX1_gaugeAt_1 : decode cX1_gaugeAt 1 = .ok (.invokestatic 15, 3) := by decide +kernel
theorem dX1_gaugeAt_4 : decode cX1_gaugeAt 4 = .ok (.ifCond .eq 12, 3) := by decide +kernel
theorem dX1_gaugeAt_7 : decode cX1_gaugeAt 7 = .ok (.aload_n 0, 1) := by decide +kernel
theorem dX1_gaugeAt_8 : decode cX1_gaugeAt 8 = .ok (.getfield 11, 3) := by decide +kernel
theorem dX1_gaugeAt_11 : decode cX1_gaugeAt 11 = .ok (.iload_n 1, 1) := by decide +kernel
theorem dX1_gaugeAt_12 : decode cX1_gaugeAt 12 = .ok (.aaload, 1) := by decide +kernel
theorem dX1_gaugeAt_13 : decode cX1_gaugeAt 13 = .ok (.goto 4, 3) := by decide +kernel
theorem dX1_gaugeAt_16 : decode cX1_gaugeAt 16 = .ok (.aconst_null, 1) := by decide +kernel
theorem dX1_gaugeAt_17 : decode cX1_gaugeAt 17 = .ok (.areturn, 1) := by decide +kernel
set_option maxRecDepth 20000 in
theorem ggX1_needGauge_X1_gaugeAt : GoodIn wsX1_needGauge wsX1_gaugeAt := goodIn_r _ [7, 8, 9, 10, 6, 11, 12] (by decide +kernel) (by decide +kernel)
set_option maxRecDepth 20000 in
theorem gX1_needGauge_X1_gaugeAt : GoodIn wsX1_needGauge (wsV RX1 30 RX1 yX1_gaugeAt wsX1_gaugeAt) := goodIn_app (goodIn_of _ (by decide +kernel)) ggX1_needGauge_X1_gaugeAt
theorem dX1_needGauge_0 : decode cX1_needGauge 0 = .ok (.aload_n 0, 1) := by decide +kernel
theorem dX1_needGauge_1 : decode cX1_needGauge 1 = .ok (.iload_n 1, 1) := by decide +kernel
theorem dX1_needGauge_2 : decode cX1_needGauge 2 = .ok (.invokevirtual 30, 3) := by decide +kernel
theorem dX1_needGauge_5 : decode cX1_needGauge 5 = .ok (.astore_n 2, 1) := by decide +kernel
theorem dX1_needGauge_6 : decode cX1_needGauge 6 = .ok (.aload_n 2, 1) := by decide +kernel
theorem dX1_needGauge_7 : decode cX1_needGauge 7 = .ok (.ifnonnull 13, 3) := by decide +kernel
theorem dX1_needGauge_10 : decode cX1_needGauge 10 = .ok (.new 19, 3) := by decide +kernel
theorem dX1_needGauge_13 : decode cX1_needGauge 13 = .ok (.dup, 1) := by decide +kernel
theorem dX1_needGauge_14 : decode cX1_needGauge 14 = .ok (.ldc 147, 2) := by decide +kernel
theorem dX1_needGauge_16 : decode cX1_needGauge 16 = .ok (.invokespecial 23, 3) := by decide +kernel
theorem dX1_needGauge_19 : decode cX1_needGauge 19 = .ok (.athrow, 1) := by decide +kernel
theorem dX1_needGauge_20 : decode cX1_needGauge 20 = .ok (.aload_n 2, 1) := by decide +kernel
theorem dX1_needGauge_21 : decode cX1_needGauge 21 = .ok (.areturn, 1) := by decide +kernel
theorem dX1_needKind_0 : decode cX1_needKind 0 = .ok (.iload_n 0, 1) := by decide +kernel
theorem dX1_needKind_1 : decode cX1_needKind 1 = .ok (.ifCond .lt 8, 3) := by decide +kernel
theorem dX1_needKind_4 : decode cX1_needKind 4 = .ok (.iload_n 0, 1) := by decide +kernel
theorem dX1_needKind_5 : decode cX1_needKind 5 = .ok (.iconst 3, 1) := by decide +kernel
theorem dX1_needKind_6 : decode cX1_needKind 6 = .ok (.if_icmp .le 13, 3) := by decide +kernel
theorem dX1_needKind_9 : decode cX1_needKind 9 = .ok (.new 70, 3) := by decide +kernel
theorem dX1_needKind_12 : decode cX1_needKind 12 = .ok (.dup, 1) := by decide +kernel
theorem dX1_needKind_13 : decode cX1_needKind 13 = .ok (.ldc 149, 2) := by decide +kernel
theorem dX1_needKind_15 : decode cX1_needKind 15 = .ok (.invokespecial 74, 3) := by decide +kernel
theorem dX1_needKind_18 : decode cX1_needKind 18 = .ok (.athrow, 1) := by decide +kernel
theorem dX1_needKind_19 : decode cX1_needKind 19 = .ok (.return_, 1) := by decide +kernel
set_option maxRecDepth 20000 in
theorem ggX1_needSort_X1_lastSort : GoodIn wsX1_needSort wsX1_lastSort := goodIn_r _ [6] (by decide +kernel) (by decide +kernel)
set_option maxRecDepth 20000 in
theorem gX1_needSort_X1_lastSort : GoodIn wsX1_needSort (va_wsS RX1 151 yX1_lastSort wsX1_lastSort) := goodIn_app (goodIn_of _ (by decide +kernel)) ggX1_needSort_X1_lastSort
set_option maxRecDepth 20000 in
theorem ggX1_needSort_X1_wantsOperand : GoodIn wsX1_needSort wsX1_wantsOperand := goodIn_r _ [9] (by decide +kernel) (by decide +kernel)
set_option maxRecDepth 20000 in
theorem gX1_needSort_X1_wantsOperand : GoodIn wsX1_needSort (va_wsS RX1 156 yX1_wantsOperand wsX1_wantsOperand) := goodIn_app (goodIn_of _ (by decide +kernel)) ggX1_needSort_X1_wantsOperand
theorem dX1_needSort_0 : decode cX1_needSort 0 = .ok (.iload_n 1, 1) := by decide +kernel
theorem dX1_needSort_1 : decode cX1_needSort 1 = .ok (.ifCond .lt 11, 3) := by decide +kernel
theorem dX1_needSort_4 : decode cX1_needSort 4 = .ok (.iload_n 1, 1) := by decide +kernel
theorem dX1_needSort_5 : decode cX1_needSort 5 = .ok (.iload_n 0, 1) := by decide +kernel
theorem dX1_needSort_6 : decode cX1_needSort 6 = .ok (.invokestatic 151, 3) := by decide +kernel
theorem dX1_needSort_9 : decode cX1_needSort 9 = .ok (.if_icmp .le 13, 3) := by decide +kernel
theorem dX1_needSort_12 : decode cX1_needSort 12 = .ok (.new 70, 3) := by decide +kernel
theorem dX1_needSort_15 : decode cX1_needSort 15 = .ok (.dup, 1) := by decide +kernel
theorem dX1_needSort_16 : decode cX1_needSort 16 = .ok (.ldc 154, 2) := by decide +kernel
theorem dX1_needSort_18 : decode cX1_needSort 18 = .ok (.invokespecial 74, 3) := by decide +kernel
theorem dX1_needSort_21 : decode cX1_needSort 21 = .ok (.athrow, 1) := by decide +kernel
theorem dX1_needSort_22 : decode cX1_needSort 22 = .ok (.iload_n 1, 1) := by decide +kernel
theorem dX1_needSort_23 : decode cX1_needSort 23 = .ok (.invokestatic 156, 3) := by decide +kernel
theorem dX1_needSort_26 : decode cX1_needSort 26 = .ok (.iload_n 2, 1) := by decide +kernel
theorem dX1_needSort_27 : decode cX1_needSort 27 = .ok (.if_icmp .eq 13, 3) := by decide +kernel
theorem dX1_needSort_30 : decode cX1_needSort 30 = .ok (.new 70, 3) := by decide +kernel
theorem dX1_needSort_33 : decode cX1_needSort 33 = .ok (.dup, 1) := by decide +kernel
theorem dX1_needSort_34 : decode cX1_needSort 34 = .ok (.ldc 159, 2) := by decide +kernel
theorem dX1_needSort_36 : decode cX1_needSort 36 = .ok (.invokespecial 74, 3) := by decide +kernel
theorem dX1_needSort_39 : decode cX1_needSort 39 = .ok (.athrow, 1) := by decide +kernel
theorem dX1_needSort_40 : decode cX1_needSort 40 = .ok (.return_, 1) := by decide +kernel
set_option maxRecDepth 20000 in
theorem ggX1_needGood_X1_isGood : GoodIn wsX1_needGood wsX1_isGood := goodIn_r _ [6, 7, 8, 9, 10, 11] (by decide +kernel) (by decide +kernel)
set_option maxRecDepth 20000 in
theorem gX1_needGood_X1_isGood : GoodIn wsX1_needGood (va_wsS RX1 161 yX1_isGood wsX1_isGood) := goodIn_app (goodIn_of _ (by decide +kernel)) ggX1_needGood_X1_isGood
theorem dX1_needGood_0 : decode cX1_needGood 0 = .ok (.iload_n 0, 1) := by decide +kernel
theorem dX1_needGood_1 : decode cX1_needGood 1 = .ok (.lload_n 1, 1) := by decide +kernel
theorem dX1_needGood_2 : decode cX1_needGood 2 = .ok (.invokestatic 161, 3) := by decide +kernel
theorem dX1_needGood_5 : decode cX1_needGood 5 = .ok (.ifCond .ne 13, 3) := by decide +kernel
theorem dX1_needGood_8 : decode cX1_needGood 8 = .ok (.new 70, 3) := by decide +kernel
theorem dX1_needGood_11 : decode cX1_needGood 11 = .ok (.dup, 1) := by decide +kernel
theorem dX1_needGood_12 : decode cX1_needGood 12 = .ok (.ldc 165, 2) := by decide +kernel
theorem dX1_needGood_14 : decode cX1_needGood 14 = .ok (.invokespecial 74, 3) := by decide +kernel
theorem dX1_needGood_17 : decode cX1_needGood 17 = .ok (.athrow, 1) := by decide +kernel
theorem dX1_needGood_18 : decode cX1_needGood 18 = .ok (.return_, 1) := by decide +kernel
theorem dX1_lastSort_0 : decode cX1_lastSort 0 = .ok (.iload_n 0, 1) := by decide +kernel
theorem dX1_lastSort_1 : decode cX1_lastSort 1 = .ok (.iconst 3, 1) := by decide +kernel
theorem dX1_lastSort_2 : decode cX1_lastSort 2 = .ok (.if_icmp .ne 6, 3) := by decide +kernel
theorem dX1_lastSort_5 : decode cX1_lastSort 5 = .ok (.bipush 7, 2) := by decide +kernel
theorem dX1_lastSort_7 : decode cX1_lastSort 7 = .ok (.ireturn, 1) := by decide +kernel
theorem dX1_lastSort_8 : decode cX1_lastSort 8 = .ok (.iload_n 0, 1) := by decide +kernel
theorem dX1_lastSort_9 : decode cX1_lastSort 9 = .ok (.iconst 2, 1) := by decide +kernel
theorem dX1_lastSort_10 : decode cX1_lastSort 10 = .ok (.if_icmp .ne 7, 3) := by decide +kernel
theorem dX1_lastSort_13 : decode cX1_lastSort 13 = .ok (.iconst 4, 1) := by decide +kernel
theorem dX1_lastSort_14 : decode cX1_lastSort 14 = .ok (.goto 4, 3) := by decide +kernel
theorem dX1_lastSort_17 : decode cX1_lastSort 17 = .ok (.iconst 2, 1) := by decide +kernel
theorem dX1_lastSort_18 : decode cX1_lastSort 18 = .ok (.ireturn, 1) := by decide +kernel
theorem dX1_wantsOperand_0 : decode cX1_wantsOperand 0 = .ok (.iload_n 0, 1) := by decide +kernel
theorem dX1_wantsOperand_1 : decode cX1_wantsOperand 1 = .ok (.iconst 1, 1) := by decide +kernel
theorem dX1_wantsOperand_2 : decode cX1_wantsOperand 2 = .ok (.if_icmp .eq 13, 3) := by decide +kernel
theorem dX1_wantsOperand_5 : decode cX1_wantsOperand 5 = .ok (.iload_n 0, 1) := by decide +kernel
theorem dX1_wantsOperand_6 : decode cX1_wantsOperand 6 = .ok (.iconst 2, 1) := by decide +kernel
theorem dX1_wantsOperand_7 : decode cX1_wantsOperand 7 = .ok (.if_icmp .eq 8, 3) := by decide +kernel
theorem dX1_wantsOperand_10 : decode cX1_wantsOperand 10 = .ok (.iload_n 0, 1) := by decide +kernel
theorem dX1_wantsOperand_11 : decode cX1_wantsOperand 11 = .ok (.iconst 4, 1) := by decide +kernel
theorem dX1_wantsOperand_12 : decode cX1_wantsOperand 12 = .ok (.if_icmp .ne 7, 3) := by decide +kernel
theorem dX1_wantsOperand_15 : decode cX1_wantsOperand 15 = .ok (.iconst 1, 1) := by decide +kernel
theorem dX1_wantsOperand_16 : decode cX1_wantsOperand 16 = .ok (.goto 4, 3) := by decide +kernel
theorem dX1_wantsOperand_19 : decode cX1_wantsOperand 19 = .ok (.iconst 0, 1) := by decide +kernel
theorem dX1_wantsOperand_20 : decode cX1_wantsOperand 20 = .ok (.ireturn, 1) := by decide +kernel
set_option maxRecDepth 20000 in
theorem ggX1_operandForm_X1_wantsOperand : GoodIn wsX1_operandForm wsX1_wantsOperand := goodIn_r _ [4] (by decide +kernel) (by decide +kernel)
set_option maxRecDepth 20000 in
theorem gX1_operandForm_X1_wantsOperand : GoodIn wsX1_operandForm (va_wsS RX1 156 yX1_wantsOperand wsX1_wantsOperand) := goodIn_app (goodIn_of _ (by decide +kernel)) ggX1_operandForm_X1_wantsOperand
theorem dX1_operandForm_0 : decode cX1_operandForm 0 = .ok (.iload_n 0, 1) := by decide +kernel
theorem dX1_operandForm_1 : decode cX1_operandForm 1 = .ok (.invokestatic 156, 3) := by decide +kernel
theorem dX1_operandForm_4 : decode cX1_operandForm 4 = .ok (.ifCond .ne 5, 3) := by decide +kernel
theorem dX1_operandForm_7 : decode cX1_operandForm 7 = .ok (.iconst 0, 1) := by decide +kernel
theorem dX1_operandForm_8 : decode cX1_operandForm 8 = .ok (.ireturn, 1) := by decide +kernel
theorem dX1_operandForm_9 : decode cX1_operandForm 9 = .ok (.iload_n 1, 1) := by decide +kernel
theorem dX1_operandForm_10 : decode cX1_operandForm 10 = .ok (.iconst (-1), 1) := by decide +kernel
theorem dX1_operandForm_11 : decode cX1_operandForm 11 = .ok (.if_icmp .ne 7, 3) := by decide +kernel
theorem dX1_operandForm_14 : decode cX1_operandForm 14 = .ok (.iconst 1, 1) := by decide +kernel
theorem dX1_operandForm_15 : decode cX1_operandForm 15 = .ok (.goto 4, 3) := by decide +kernel
theorem dX1_operandForm_18 : decode cX1_operandForm 18 = .ok (.iconst 2, 1) := by decide +kernel
theorem dX1_operandForm_19 : decode cX1_operandForm 19 = .ok (.ireturn, 1) := by decide +kernel
theorem dX1_isGood_0 : decode cX1_isGood 0 = .ok (.iload_n 0, 1) := by decide +kernel
theorem dX1_isGood_1 : decode cX1_isGood 1 = .ok (.iconst 1, 1) := by decide +kernel
theorem dX1_isGood_2 : decode cX1_isGood 2 = .ok (.if_icmp .ne 5, 3) := by decide +kernel
theorem dX1_isGood_5 : decode cX1_isGood 5 = .ok (.iconst 1, 1) := by decide +kernel
theorem dX1_isGood_6 : decode cX1_isGood 6 = .ok (.ireturn, 1) := by decide +kernel
theorem dX1_isGood_7 : decode cX1_isGood 7 = .ok (.iload_n 0, 1) := by decide +kernel
theorem dX1_isGood_8 : decode cX1_isGood 8 = .ok (.iconst 3, 1) := by decide +kernel
theorem dX1_isGood_9 : decode cX1_isGood 9 = .ok (.if_icmp .ne 21, 3) := by decide +kernel
theorem dX1_isGood_12 : decode cX1_isGood 12 = .ok (.lload_n 1, 1) := by decide +kernel
theorem dX1_isGood_13 : decode cX1_isGood 13 = .ok (.ldc2_w 167, 3) := by decide +kernel
theorem dX1_isGood_16 : decode cX1_isGood 16 = .ok (.land, 1) := by decide +kernel
theorem dX1_isGood_17 : decode cX1_isGood 17 = .ok (.ldc2_w 169, 3) := by decide +kernel
theorem dX1_isGood_20 : decode cX1_isGood 20 = .ok (.lcmp, 1) := by decide +kernel
theorem dX1_isGood_21 : decode cX1_isGood 21 = .ok (.ifCond .gt 7, 3) := by decide +kernel
theorem dX1_isGood_24 : decode cX1_isGood 24 = .ok (.iconst 1, 1) := by decide +kernel
theorem dX1_isGood_25 : decode cX1_isGood 25 = .ok (.goto 4, 3) := by decide +kernel
theorem dX1_isGood_28 : decode cX1_isGood 28 = .ok (.iconst 0, 1) := by decide +kernel
theorem dX1_isGood_29 : decode cX1_isGood 29 = .ok (.ireturn, 1) := by decide +kernel
theorem dX1_isGood_30 : decode cX1_isGood 30 = .ok (.lload_n 1, 1) := by decide +kernel
theorem dX1_isGood_31 : decode cX1_isGood 31 = .ok (.ldc2_w 171, 3) := by decide +kernel
theorem dX1_isGood_34 : decode cX1_isGood 34 = .ok (.lcmp, 1) := by decide +kernel
theorem dX1_isGood_35 : decode cX1_isGood 35 = .ok (.ifCond .lt 11, 3) := by decide +kernel
theorem dX1_isGood_38 : decode cX1_isGood 38 = .ok (.lload_n 1, 1) := by decide +kernel
theorem dX1_isGood_39 : decode cX1_isGood 39 = .ok (.ldc2_w 173, 3) := by decide +kernel
theorem dX1_isGood_42 : decode cX1_isGood 42 = .ok (.lcmp, 1) := by decide +kernel
theorem dX1_isGood_43 : decode cX1_isGood 43 = .ok (.ifCond .le 5, 3) := by decide +kernel
theorem dX1_isGood_46 : decode cX1_isGood 46 = .ok (.iconst 0, 1) := by decide +kernel
theorem dX1_isGood_47 : decode cX1_isGood 47 = .ok (.ireturn, 1) := by decide +kernel
theorem dX1_isGood_48 : decode cX1_isGood 48 = .ok (.iload_n 0, 1) := by decide +kernel
theorem dX1_isGood_49 : decode cX1_isGood 49 = .ok (.ifCond .eq 15, 3) := by decide +kernel
theorem dX1_isGood_52 : decode cX1_isGood 52 = .ok (.lload_n 1, 1) := by decide +kernel
theorem dX1_isGood_53 : decode cX1_isGood 53 = .ok (.ldc2_w 173, 3) := by decide +kernel
theorem dX1_isGood_56 : decode cX1_isGood 56 = .ok (.land, 1) := by decide +kernel
theorem dX1_isGood_57 : decode cX1_isGood 57 = .ok (.ldc2_w 175, 3) := by decide +kernel
theorem dX1_isGood_60 : decode cX1_isGood 60 = .ok (.lcmp, 1) := by decide +kernel
theorem dX1_isGood_61 : decode cX1_isGood 61 = .ok (.ifCond .gt 7, 3) := by decide +kernel
theorem dX1_isGood_64 : decode cX1_isGood 64 = .ok (.iconst 1, 1) := by decide +kernel
theorem dX1_isGood_65 : decode cX1_isGood 65 = .ok (.goto 4, 3) := by decide +kernel
theorem dX1_isGood_68 : decode cX1_isGood 68 = .ok (.iconst 0, 1) := by decide +kernel
theorem dX1_isGood_69 : decode cX1_isGood 69 = .ok (.ireturn, 1) := by decide +kernel
theorem dX1_isReal_0 : decode cX1_isReal 0 = .ok (.iload_n 0, 1) := by decide +kernel
theorem dX1_isReal_1 : decode cX1_isReal 1 = .ok (.iconst 2, 1) := by decide +kernel
theorem dX1_isReal_2 : decode cX1_isReal 2 = .ok (.if_icmp .eq 8, 3) := by decide +kernel
theorem dX1_isReal_5 : decode cX1_isReal 5 = .ok (.iload_n 0, 1) := by decide +kernel
theorem dX1_isReal_6 : decode cX1_isReal 6 = .ok (.iconst 3, 1) := by decide +kernel
theorem dX1_isReal_7 : decode cX1_isReal 7 = .ok (.if_icmp .ne 7, 3) := by decide +kernel
theorem dX1_isReal_10 : decode cX1_isReal 10 = .ok (.iconst 1, 1) := by decide +kernel
theorem dX1_isReal_11 : decode cX1_isReal 11 = .ok (.goto 4, 3) := by decide +kernel
theorem dX1_isReal_14 : decode cX1_isReal 14 = .ok (.iconst 0, 1) := by decide +kernel
theorem dX1_isReal_15 : decode cX1_isReal 15 = .ok (.ireturn, 1) := by decide +kernel
theorem dX1_signOf_0 : decode cX1_signOf 0 = .ok (.lload_n 0, 1) := by decide +kernel
theorem dX1_signOf_1 : decode cX1_signOf 1 = .ok (.lconst 0, 1) := by decide +kernel
theorem dX1_signOf_2 : decode cX1_signOf 2 = .ok (.lcmp, 1) := by decide +kernel
theorem dX1_signOf_3 : decode cX1_signOf 3 = .ok (.ifCond .ge 7, 3) := by decide +kernel
theorem dX1_signOf_6 : decode cX1_signOf 6 = .ok (.iconst 1, 1) := by decide +kernel
theorem dX1_signOf_7 : decode cX1_signOf 7 = .ok (.goto 4, 3) := by decide +kernel
theorem dX1_signOf_10 : decode cX1_signOf 10 = .ok (.iconst 0, 1) := by decide +kernel
theorem dX1_signOf_11 : decode cX1_signOf 11 = .ok (.ireturn, 1) := by decide +kernel
set_option maxRecDepth 20000 in
theorem ggX1_orderKey_X1_isReal : GoodIn wsX1_orderKey wsX1_isReal := goodIn_r _ [5] (by decide +kernel) (by decide +kernel)
set_option maxRecDepth 20000 in
theorem gX1_orderKey_X1_isReal : GoodIn wsX1_orderKey (va_wsS RX1 177 yX1_isReal wsX1_isReal) := goodIn_app (goodIn_of _ (by decide +kernel)) ggX1_orderKey_X1_isReal
theorem dX1_orderKey_0 : decode cX1_orderKey 0 = .ok (.iload_n 2, 1) := by decide +kernel
theorem dX1_orderKey_1 : decode cX1_orderKey 1 = .ok (.invokestatic 177, 3) := by decide +kernel
theorem dX1_orderKey_4 : decode cX1_orderKey 4 = .ok (.ifCond .eq 17, 3) := by decide +kernel
theorem dX1_orderKey_7 : decode cX1_orderKey 7 = .ok (.lload_n 0, 1) := by decide +kernel
theorem dX1_orderKey_8 : decode cX1_orderKey 8 = .ok (.lconst 0, 1) := by decide +kernel
theorem dX1_orderKey_9 : decode cX1_orderKey 9 = .ok (.lcmp, 1) := by decide +kernel
theorem dX1_orderKey_10 : decode cX1_orderKey 10 = .ok (.ifCond .ge 11, 3) := by decide +kernel
theorem dX1_orderKey_13 : decode cX1_orderKey 13 = .ok (.lload_n 0, 1) := by decide +kernel
theorem dX1_orderKey_14 : decode cX1_orderKey 14 = .ok (.ldc2_w 167, 3) := by decide +kernel
theorem dX1_orderKey_17 : decode cX1_orderKey 17 = .ok (.lxor, 1) := by decide +kernel
theorem dX1_orderKey_18 : decode cX1_orderKey 18 = .ok (.goto 4, 3) := by decide +kernel
theorem dX1_orderKey_21 : decode cX1_orderKey 21 = .ok (.lload_n 0, 1) := by decide +kernel
theorem dX1_orderKey_22 : decode cX1_orderKey 22 = .ok (.lreturn, 1) := by decide +kernel
set_option maxRecDepth 20000 in
theorem ggX1_isAbove_X1_orderKey : GoodIn wsX1_isAbove wsX1_orderKey := goodIn_r _ [4, 5, 6, 7, 3, 8] (by decide +kernel) (by decide +kernel)
set_option maxRecDepth 20000 in
theorem gX1_isAbove_X1_orderKey : GoodIn wsX1_isAbove (va_wsS RX1 180 yX1_orderKey wsX1_orderKey) := goodIn_app (goodIn_of _ (by decide +kernel)) ggX1_isAbove_X1_orderKey
theorem dX1_isAbove_0 : decode cX1_isAbove 0 = .ok (.lload_n 0, 1) := by decide +kernel
theorem dX1_isAbove_1 : decode cX1_isAbove 1 = .ok (.iload 4, 2) := by decide +kernel
theorem dX1_isAbove_3 : decode cX1_isAbove 3 = .ok (.invokestatic 180, 3) := by decide +kernel
theorem dX1_isAbove_6 : decode cX1_isAbove 6 = .ok (.lload_n 2, 1) := by decide +kernel
theorem dX1_isAbove_7 : decode cX1_isAbove 7 = .ok (.iload 4, 2) := by decide +kernel
theorem dX1_isAbove_9 : decode cX1_isAbove 9 = .ok (.invokestatic 180, 3) := by decide +kernel
theorem dX1_isAbove_12 : decode cX1_isAbove 12 = .ok (.lcmp, 1) := by decide +kernel
theorem dX1_isAbove_13 : decode cX1_isAbove 13 = .ok (.ifCond .le 7, 3) := by decide +kernel
theorem dX1_isAbove_16 : decode cX1_isAbove 16 = .ok (.iconst 1, 1) := by decide +kernel
theorem dX1_isAbove_17 : decode cX1_isAbove 17 = .ok (.goto 4, 3) := by decide +kernel
theorem dX1_isAbove_20 : decode cX1_isAbove 20 = .ok (.iconst 0, 1) := by decide +kernel
theorem dX1_isAbove_21 : decode cX1_isAbove 21 = .ok (.ireturn, 1) := by decide +kernel
set_option maxRecDepth 20000 in
theorem ggX1_higher_X1_isAbove : GoodIn wsX1_higher wsX1_isAbove := goodIn_r _ [4, 5, 6, 3, 7, 8, 9, 10, 11] (by decide +kernel) (by decide +kernel)
set_option maxRecDepth 20000 in
theorem gX1_higher_X1_isAbove : GoodIn wsX1_higher (va_wsS RX1 137 yX1_isAbove wsX1_isAbove) := goodIn_app (goodIn_of _ (by decide +kernel)) ggX1_higher_X1_isAbove
theorem dX1_higher_0 : decode cX1_higher 0 = .ok (.lload_n 0, 1) := by decide +kernel
theorem dX1_higher_1 : decode cX1_higher 1 = .ok (.lload_n 2, 1) := by decide +kernel
theorem dX1_higher_2 : decode cX1_higher 2 = .ok (.iload 4, 2) := by decide +kernel
theorem dX1_higher_4 : decode cX1_higher 4 = .ok (.invokestatic 137, 3) := by decide +kernel
theorem dX1_higher_7 : decode cX1_higher 7 = .ok (.ifCond .eq 7, 3) := by decide +kernel
theorem dX1_higher_10 : decode cX1_higher 10 = .ok (.lload_n 0, 1) := by decide +kernel
theorem dX1_higher_11 : decode cX1_higher 11 = .ok (.goto 4, 3) := by decide +kernel
theorem dX1_higher_14 : decode cX1_higher 14 = .ok (.lload_n 2, 1) := by decide +kernel
theorem dX1_higher_15 : decode cX1_higher 15 = .ok (.lreturn, 1) := by decide +kernel
set_option maxRecDepth 20000 in
theorem ggX1_lower_X1_isAbove : GoodIn wsX1_lower wsX1_isAbove := goodIn_r _ [4, 5, 6, 3, 7, 8, 9, 10, 11] (by decide +kernel) (by decide +kernel)
set_option maxRecDepth 20000 in
theorem gX1_lower_X1_isAbove : GoodIn wsX1_lower (va_wsS RX1 137 yX1_isAbove wsX1_isAbove) := goodIn_app (goodIn_of _ (by decide +kernel)) ggX1_lower_X1_isAbove
theorem dX1_lower_0 : decode cX1_lower 0 = .ok (.lload_n 0, 1) := by decide +kernel
theorem dX1_lower_1 : decode cX1_lower 1 = .ok (.lload_n 2, 1) := by decide +kernel
theorem dX1_lower_2 : decode cX1_lower 2 = .ok (.iload 4, 2) := by decide +kernel
theorem dX1_lower_4 : decode cX1_lower 4 = .ok (.invokestatic 137, 3) := by decide +kernel
theorem dX1_lower_7 : decode cX1_lower 7 = .ok (.ifCond .eq 7, 3) := by decide +kernel
theorem dX1_lower_10 : decode cX1_lower 10 = .ok (.lload_n 2, 1) := by decide +kernel
theorem dX1_lower_11 : decode cX1_lower 11 = .ok (.goto 4, 3) := by decide +kernel
theorem dX1_lower_14 : decode cX1_lower 14 = .ok (.lload_n 0, 1) := by decide +kernel
theorem dX1_lower_15 : decode cX1_lower 15 = .ok (.lreturn, 1) := by decide +kernel
set_option maxRecDepth 20000 in
theorem ggX1_further_X1_isAbove : GoodIn wsX1_further wsX1_isAbove := goodIn_r _ [4, 5, 6, 3, 7, 8, 9, 10, 11] (by decide +kernel) (by decide +kernel)
set_option maxRecDepth 20000 in
theorem gX1_further_X1_isAbove : GoodIn wsX1_further (va_wsS RX1 137 yX1_isAbove wsX1_isAbove) := goodIn_app (goodIn_of _ (by decide +kernel)) ggX1_further_X1_isAbove
theorem dX1_further_0 : decode cX1_further 0 = .ok (.aload_n 1, 1) := by decide +kernel
theorem dX1_further_1 : decode cX1_further 1 = .ok (.getfield 90, 3) := by decide +kernel
theorem dX1_further_4 : decode cX1_further 4 = .ok (.aload_n 0, 1) := by decide +kernel
theorem dX1_further_5 : decode cX1_further 5 = .ok (.getfield 90, 3) := by decide +kernel
theorem dX1_further_8 : decode cX1_further 8 = .ok (.aload_n 0, 1) := by decide +kernel
theorem dX1_further_9 : decode cX1_further 9 = .ok (.getfield 36, 3) := by decide +kernel
theorem dX1_further_12 : decode cX1_further 12 = .ok (.invokestatic 137, 3) := by decide +kernel
theorem dX1_further_15 : decode cX1_further 15 = .ok (.iload_n 2, 1) := by decide +kernel
theorem dX1_further_16 : decode cX1_further 16 = .ok (.if_icmp .ne 7, 3) := by decide +kernel
theorem dX1_further_19 : decode cX1_further 19 = .ok (.aload_n 1, 1) := by decide +kernel
theorem dX1_further_20 : decode cX1_further 20 = .ok (.goto 4, 3) := by decide +kernel
theorem dX1_further_23 : decode cX1_further 23 = .ok (.aload_n 0, 1) := by decide +kernel
theorem dX1_further_24 : decode cX1_further 24 = .ok (.areturn, 1) := by decide +kernel
set_option maxRecDepth 20000 in
theorem ggX1_stepsTaking_X0_ownStepsTaking : GoodIn wsX1_stepsTaking wsX0_ownStepsTaking := goodIn_r _ [5, 6, 7, 9, 10, 11, 12, 13, 14, 15, 16, 17, 18, 19] (by decide +kernel) (by decide +kernel)
set_option maxRecDepth 20000 in
theorem gX1_stepsTaking_X0_ownStepsTaking_n44 : GoodIn wsX1_stepsTaking (wsX0_ownStepsTaking) := ggX1_stepsTaking_X0_ownStepsTaking
theorem dX1_stepsTaking_0 : decode cX1_stepsTaking 0 = .ok (.iconst 0, 1) := by decide +kernel
theorem dX1_stepsTaking_1 : decode cX1_stepsTaking 1 = .ok (.istore_n 2, 1) := by decide +kernel
theorem dX1_stepsTaking_2 : decode cX1_stepsTaking 2 = .ok (.iconst 0, 1) := by decide +kernel
theorem dX1_stepsTaking_3 : decode cX1_stepsTaking 3 = .ok (.istore_n 3, 1) := by decide +kernel
theorem dX1_stepsTaking_4 : decode cX1_stepsTaking 4 = .ok (.iload_n 3, 1) := by decide +kernel
theorem dX1_stepsTaking_5 : decode cX1_stepsTaking 5 = .ok (.bipush 12, 2) := by decide +kernel
theorem dX1_stepsTaking_7 : decode cX1_stepsTaking 7 = .ok (.if_icmp .ge 31, 3) := by decide +kernel
theorem dX1_stepsTaking_10 : decode cX1_stepsTaking 10 = .ok (.aload_n 0, 1) := by decide +kernel
theorem dX1_stepsTaking_11 : decode cX1_stepsTaking 11 = .ok (.getfield 11, 3) := by decide +kernel
theorem dX1_stepsTaking_14 : decode cX1_stepsTaking 14 = .ok (.iload_n 3, 1) := by decide +kernel
theorem dX1_stepsTaking_15 : decode cX1_stepsTaking 15 = .ok (.aaload, 1) := by decide +kernel
theorem dX1_stepsTaking_16 : decode cX1_stepsTaking 16 = .ok (.astore 4, 2) := by decide +kernel
theorem dX1_stepsTaking_18 : decode cX1_stepsTaking 18 = .ok (.aload 4, 2) := by decide +kernel
theorem dX1_stepsTaking_20 : decode cX1_stepsTaking 20 = .ok (.ifnull 12, 3) := by decide +kernel
theorem dX1_stepsTaking_23 : decode cX1_stepsTaking 23 = .ok (.iload_n 2, 1) := by decide +kernel
theorem dX1_stepsTaking_24 : decode cX1_stepsTaking 24 = .ok (.aload 4, 2) := by decide +kernel
theorem dX1_stepsTaking_26 : decode cX1_stepsTaking 26 = .ok (.iload_n 1, 1) := by decide +kernel
theorem dX1_stepsTaking_27 : decode cX1_stepsTaking 27 = .ok (.invokevirtual 44, 3) := by decide +kernel
theorem dX1_stepsTaking_30 : decode cX1_stepsTaking 30 = .ok (.iadd, 1) := by decide +kernel
theorem dX1_stepsTaking_31 : decode cX1_stepsTaking 31 = .ok (.istore_n 2, 1) := by decide +kernel
theorem dX1_stepsTaking_32 : decode cX1_stepsTaking 32 = .ok (.iinc 3 1, 3) := by decide +kernel
theorem dX1_stepsTaking_35 : decode cX1_stepsTaking 35 = .ok (.goto (-31), 3) := by decide +kernel
theorem dX1_stepsTaking_38 : decode cX1_stepsTaking 38 = .ok (.iload_n 2, 1) := by decide +kernel
theorem dX1_stepsTaking_39 : decode cX1_stepsTaking 39 = .ok (.ireturn, 1) := by decide +kernel
set_option maxRecDepth 20000 in
theorem ggX1_takeReading_X1_operandOf : GoodIn wsX1_takeReading wsX1_operandOf := goodIn_r _ [5, 6, 7, 8, 4, 9, 10, 11, 12, 13, 86, 87, 88, 89, 90, 91, 92, 93, 94, 95, 96, 97] (by decide +kernel) (by decide +kernel)
set_option maxRecDepth 20000 in
theorem gX1_takeReading_X1_operandOf : GoodIn wsX1_takeReading (wsV RX1 184 RX1 yX1_operandOf wsX1_operandOf) := goodIn_app (goodIn_of _ (by decide +kernel)) ggX1_takeReading_X1_operandOf
set_option maxRecDepth 20000 in
theorem ggX1_takeReading_X1_afterStep : GoodIn wsX1_takeReading wsX1_afterStep := goodIn_r _ [16, 17, 18, 4, 19, 20, 21, 22, 23, 24, 25, 26, 27, 28, 29, 30, 31, 32, 33, 34, 35, 36, 37, 38, 39, 40, 41, 42, 43, 44, 45, 46, 47, 48, 49, 50, 51, 52, 53, 54, 55, 56, 57, 58, 59, 60, 61, 62, 63, 64, 65, 66, 67, 68, 69, 70, 71, 72] (by decide +kernel) (by decide +kernel)
set_option maxRecDepth 20000 in
theorem gX1_takeReading_X1_afterStep : GoodIn wsX1_takeReading (va_wsS RX1 188 yX1_afterStep wsX1_afterStep) := goodIn_app (goodIn_of _ (by decide +kernel)) ggX1_takeReading_X1_afterStep
set_option maxRecDepth 20000 in
theorem ggX1_takeReading_X0_takeValue : GoodIn wsX1_takeReading wsX0_takeValue := goodIn_r _ [76, 77, 78, 79, 80, 81, 82, 83, 84, 4, 85, 30, 31, 32, 33, 34, 35, 36, 37, 38, 23, 24, 25, 40, 41, 86, 87, 88, 89, 90, 91, 92, 93, 94, 95, 96] (by decide +kernel) (by decide +kernel)
set_option maxRecDepth 20000 in
theorem gX1_takeReading_X0_takeValue_n192 : GoodIn wsX1_takeReading (wsX0_takeValue) := ggX1_takeReading_X0_takeValue
theorem dX1_takeReading_0 : decode cX1_takeReading 0 = .ok (.lload_n 2, 1) := by decide +kernel
theorem dX1_takeReading_1 : decode cX1_takeReading 1 = .ok (.lstore 4, 2) := by decide +kernel
theorem dX1_takeReading_3 : decode cX1_takeReading 3 = .ok (.iconst 0, 1) := by decide +kernel
theorem dX1_takeReading_4 : decode cX1_takeReading 4 = .ok (.istore 6, 2) := by decide +kernel
theorem dX1_takeReading_6 : decode cX1_takeReading 6 = .ok (.iload 6, 2) := by decide +kernel
theorem dX1_takeReading_8 : decode cX1_takeReading 8 = .ok (.aload_n 1, 1) := by decide +kernel
theorem dX1_takeReading_9 : decode cX1_takeReading 9 = .ok (.getfield 75, 3) := by decide +kernel
theorem dX1_takeReading_12 : decode cX1_takeReading 12 = .ok (.if_icmp .ge 34, 3) := by decide +kernel
theorem dX1_takeReading_15 : decode cX1_takeReading 15 = .ok (.aload_n 1, 1) := by decide +kernel
theorem dX1_takeReading_16 : decode cX1_takeReading 16 = .ok (.getfield 124, 3) := by decide +kernel
theorem dX1_takeReading_19 : decode cX1_takeReading 19 = .ok (.iload 6, 2) := by decide +kernel
theorem dX1_takeReading_21 : decode cX1_takeReading 21 = .ok (.iaload, 1) := by decide +kernel
theorem dX1_takeReading_22 : decode cX1_takeReading 22 = .ok (.lload 4, 2) := by decide +kernel
theorem dX1_takeReading_24 : decode cX1_takeReading 24 = .ok (.aload_n 0, 1) := by decide +kernel
theorem dX1_takeReading_25 : decode cX1_takeReading 25 = .ok (.aload_n 1, 1) := by decide +kernel
theorem dX1_takeReading_26 : decode cX1_takeReading 26 = .ok (.iload 6, 2) := by decide +kernel
theorem dX1_takeReading_28 : decode cX1_takeReading 28 = .ok (.invokevirtual 184, 3) := by decide +kernel
theorem dX1_takeReading_31 : decode cX1_takeReading 31 = .ok (.aload_n 1, 1) := by decide +kernel
theorem dX1_takeReading_32 : decode cX1_takeReading 32 = .ok (.getfield 36, 3) := by decide +kernel
theorem dX1_takeReading_35 : decode cX1_takeReading 35 = .ok (.invokestatic 188, 3) := by decide +kernel
theorem dX1_takeReading_38 : decode cX1_takeReading 38 = .ok (.lstore 4, 2) := by decide +kernel
theorem dX1_takeReading_40 : decode cX1_takeReading 40 = .ok (.iinc 6 1, 3) := by decide +kernel
theorem dX1_takeReading_43 : decode cX1_takeReading 43 = .ok (.goto (-37), 3) := by decide +kernel
theorem dX1_takeReading_46 : decode cX1_takeReading 46 = .ok (.aload_n 1, 1) := by decide +kernel
theorem dX1_takeReading_47 : decode cX1_takeReading 47 = .ok (.lload 4, 2) := by decide +kernel
theorem dX1_takeReading_49 : decode cX1_takeReading 49 = .ok (.invokevirtual 192, 3) := by decide +kernel
theorem dX1_takeReading_52 : decode cX1_takeReading 52 = .ok (.lload 4, 2) := by decide +kernel
theorem dX1_takeReading_54 : decode cX1_takeReading 54 = .ok (.lreturn, 1) := by decide +kernel
set_option maxRecDepth 20000 in
theorem ggX1_operandOf_X1_gaugeAt : GoodIn wsX1_operandOf wsX1_gaugeAt := goodIn_r _ [5, 6, 7, 8, 4, 9, 21] (by decide +kernel) (by decide +kernel)
set_option maxRecDepth 20000 in
theorem gX1_operandOf_X1_gaugeAt : GoodIn wsX1_operandOf (wsV RX1 30 RX1 yX1_gaugeAt wsX1_gaugeAt) := goodIn_app (goodIn_of _ (by decide +kernel)) ggX1_operandOf_X1_gaugeAt
theorem dX1_operandOf_0 : decode cX1_operandOf 0 = .ok (.aload_n 0, 1) := by decide +kernel
theorem dX1_operandOf_1 : decode cX1_operandOf 1 = .ok (.aload_n 1, 1) := by decide +kernel
theorem dX1_operandOf_2 : decode cX1_operandOf 2 = .ok (.getfield 128, 3) := by decide +kernel
theorem dX1_operandOf_5 : decode cX1_operandOf 5 = .ok (.iload_n 2, 1) := by decide +kernel
theorem dX1_operandOf_6 : decode cX1_operandOf 6 = .ok (.iaload, 1) := by decide +kernel
theorem dX1_operandOf_7 : decode cX1_operandOf 7 = .ok (.invokevirtual 30, 3) := by decide +kernel
theorem dX1_operandOf_10 : decode cX1_operandOf 10 = .ok (.astore_n 3, 1) := by decide +kernel
theorem dX1_operandOf_11 : decode cX1_operandOf 11 = .ok (.aload_n 3, 1) := by decide +kernel
theorem dX1_operandOf_12 : decode cX1_operandOf 12 = .ok (.ifnonnull 12, 3) := by decide +kernel
theorem dX1_operandOf_15 : decode cX1_operandOf 15 = .ok (.aload_n 1, 1) := by decide +kernel
theorem dX1_operandOf_16 : decode cX1_operandOf 16 = .ok (.getfield 196, 3) := by decide +kernel
theorem dX1_operandOf_19 : decode cX1_operandOf 19 = .ok (.iload_n 2, 1) := by decide +kernel
theorem dX1_operandOf_20 : decode cX1_operandOf 20 = .ok (.laload, 1) := by decide +kernel
theorem dX1_operandOf_21 : decode cX1_operandOf 21 = .ok (.goto 7, 3) := by decide +kernel
theorem dX1_operandOf_24 : decode cX1_operandOf 24 = .ok (.aload_n 3, 1) := by decide +kernel
theorem dX1_operandOf_25 : decode cX1_operandOf 25 = .ok (.getfield 90, 3) := by decide +kernel
theorem dX1_operandOf_28 : decode cX1_operandOf 28 = .ok (.lreturn, 1) := by decide +kernel
set_option maxRecDepth 20000 in
theorem ggX1_afterStep_X1_sizeOf : GoodIn wsX1_afterStep wsX1_sizeOf := goodIn_r _ [4, 5, 6, 7, 8, 9, 3, 10, 11, 12, 13] (by decide +kernel) (by decide +kernel)
set_option maxRecDepth 20000 in
theorem gX1_afterStep_X1_sizeOf : GoodIn wsX1_afterStep (va_wsS RX1 200 yX1_sizeOf wsX1_sizeOf) := goodIn_app (goodIn_of _ (by decide +kernel)) ggX1_afterStep_X1_sizeOf
set_option maxRecDepth 20000 in
theorem ggX1_afterStep_X1_higher : GoodIn wsX1_afterStep wsX1_higher := goodIn_r _ [16, 17, 18, 3, 19, 20, 21, 22, 23, 8, 9, 10] (by decide +kernel) (by decide +kernel)
set_option maxRecDepth 20000 in
theorem gX1_afterStep_X1_higher : GoodIn wsX1_afterStep (va_wsS RX1 203 yX1_higher wsX1_higher) := goodIn_app (goodIn_of _ (by decide +kernel)) ggX1_afterStep_X1_higher
set_option maxRecDepth 20000 in
theorem ggX1_afterStep_X1_lower : GoodIn wsX1_afterStep wsX1_lower := goodIn_r _ [26, 17, 18, 3, 19, 20, 21, 22, 23, 8, 9, 10] (by decide +kernel) (by decide +kernel)
set_option maxRecDepth 20000 in
theorem gX1_afterStep_X1_lower : GoodIn wsX1_afterStep (va_wsS RX1 207 yX1_lower wsX1_lower) := goodIn_app (goodIn_of _ (by decide +kernel)) ggX1_afterStep_X1_lower
set_option maxRecDepth 20000 in
theorem ggX1_afterStep_X1_shown : GoodIn wsX1_afterStep wsX1_shown := goodIn_r _ [29, 30, 31, 1, 2, 3, 4, 5, 6, 7, 8, 9, 10, 11, 12, 13, 32, 33, 34] (by decide +kernel) (by decide +kernel)
set_option maxRecDepth 20000 in
theorem gX1_afterStep_X1_shown : GoodIn wsX1_afterStep (va_wsS RX1 210 yX1_shown wsX1_shown) := goodIn_app (goodIn_of _ (by decide +kernel)) ggX1_afterStep_X1_shown
set_option maxRecDepth 20000 in
theorem ggX1_afterStep_X1_withSign : GoodIn wsX1_afterStep wsX1_withSign := goodIn_r _ [34, 11, 12, 3, 13, 6, 7] (by decide +kernel) (by decide +kernel)
set_option maxRecDepth 20000 in
theorem gX1_afterStep_X1_withSign : GoodIn wsX1_afterStep (va_wsS RX1 213 yX1_withSign wsX1_withSign) := goodIn_app (goodIn_of _ (by decide +kernel)) ggX1_afterStep_X1_withSign
set_option maxRecDepth 20000 in
theorem ggX1_afterStep_X1_wholeAway : GoodIn wsX1_afterStep wsX1_wholeAway := goodIn_r _ [37, 7, 31, 38, 39, 3, 40, 23, 41, 42, 43, 44, 45, 46, 47, 48, 49, 5] (by decide +kernel) (by decide +kernel)
set_option maxRecDepth 20000 in
theorem gX1_afterStep_X1_wholeAway : GoodIn wsX1_afterStep (va_wsS RX1 217 yX1_wholeAway wsX1_wholeAway) := goodIn_app (goodIn_of _ (by decide +kernel)) ggX1_afterStep_X1_wholeAway
set_option maxRecDepth 20000 in
theorem ggX1_afterStep_X1_wholeToward : GoodIn wsX1_afterStep wsX1_wholeToward := goodIn_r _ [49, 7, 5, 41, 42, 3, 43, 23, 31, 44, 45, 46] (by decide +kernel) (by decide +kernel)
set_option maxRecDepth 20000 in
theorem gX1_afterStep_X1_wholeToward : GoodIn wsX1_afterStep (va_wsS RX1 221 yX1_wholeToward wsX1_wholeToward) := goodIn_app (goodIn_of _ (by decide +kernel)) ggX1_afterStep_X1_wholeToward
set_option maxRecDepth 20000 in
theorem ggX1_afterStep_X1_wholeNearest : GoodIn wsX1_afterStep wsX1_wholeNearest := goodIn_r _ [52, 23, 53, 54, 41, 42, 3, 43, 31, 35, 36, 37, 7, 38, 39, 40, 44, 45, 46, 47, 48, 49, 5, 55, 56, 57] (by decide +kernel) (by decide +kernel)
set_option maxRecDepth 20000 in
theorem gX1_afterStep_X1_wholeNearest : GoodIn wsX1_afterStep (va_wsS RX1 224 yX1_wholeNearest wsX1_wholeNearest) := goodIn_app (goodIn_of _ (by decide +kernel)) ggX1_afterStep_X1_wholeNearest
theorem dX1_afterStep_0 : decode cX1_afterStep 0 = .ok (.iload_n 0, 1) := by decide +kernel
theorem dX1_afterStep_1 : decode cX1_afterStep 1 = .ok (.tableswitch 141 0 7 #[47, 54, 62, 70, 77, 100, 118, 136], 47) := by decide +kernel
theorem dX1_afterStep_48 : decode cX1_afterStep 48 = .ok (.lload_n 1, 1) := by decide +kernel
theorem dX1_afterStep_49 : decode cX1_afterStep 49 = .ok (.iload 5, 2) := by decide +kernel
theorem dX1_afterStep_51 : decode cX1_afterStep 51 = .ok (.invokestatic 200, 3) := by decide +kernel
theorem dX1_afterStep_54 : decode cX1_afterStep 54 = .ok (.lreturn, 1) := by decide +kernel
theorem dX1_afterStep_55 : decode cX1_afterStep 55 = .ok (.lload_n 1, 1) := by decide +kernel
theorem dX1_afterStep_56 : decode cX1_afterStep 56 = .ok (.lload_n 3, 1) := by decide +kernel
theorem dX1_afterStep_57 : decode cX1_afterStep 57 = .ok (.iload 5, 2) := by decide +kernel
theorem dX1_afterStep_59 : decode cX1_afterStep 59 = .ok (.invokestatic 203, 3) := by decide +kernel
theorem dX1_afterStep_62 : decode cX1_afterStep 62 = .ok (.lreturn, 1) := by decide +kernel
theorem dX1_afterStep_63 : decode cX1_afterStep 63 = .ok (.lload_n 1, 1) := by decide +kernel
theorem dX1_afterStep_64 : decode cX1_afterStep 64 = .ok (.lload_n 3, 1) := by decide +kernel
theorem dX1_afterStep_65 : decode cX1_afterStep 65 = .ok (.iload 5, 2) := by decide +kernel
theorem dX1_afterStep_67 : decode cX1_afterStep 67 = .ok (.invokestatic 207, 3) := by decide +kernel
theorem dX1_afterStep_70 : decode cX1_afterStep 70 = .ok (.lreturn, 1) := by decide +kernel
theorem dX1_afterStep_71 : decode cX1_afterStep 71 = .ok (.lload_n 1, 1) := by decide +kernel
theorem dX1_afterStep_72 : decode cX1_afterStep 72 = .ok (.iload 5, 2) := by decide +kernel
theorem dX1_afterStep_74 : decode cX1_afterStep 74 = .ok (.invokestatic 210, 3) := by decide +kernel
theorem dX1_afterStep_77 : decode cX1_afterStep 77 = .ok (.lreturn, 1) := by decide +kernel
theorem dX1_afterStep_78 : decode cX1_afterStep 78 = .ok (.lload_n 1, 1) := by decide +kernel
theorem dX1_afterStep_79 : decode cX1_afterStep 79 = .ok (.iload 5, 2) := by decide +kernel
theorem dX1_afterStep_81 : decode cX1_afterStep 81 = .ok (.invokestatic 200, 3) := by decide +kernel
theorem dX1_afterStep_84 : decode cX1_afterStep 84 = .ok (.lload_n 3, 1) := by decide +kernel
theorem dX1_afterStep_85 : decode cX1_afterStep 85 = .ok (.lconst 0, 1) := by decide +kernel
theorem dX1_afterStep_86 : decode cX1_afterStep 86 = .ok (.lcmp, 1) := by decide +kernel
theorem dX1_afterStep_87 : decode cX1_afterStep 87 = .ok (.ifCond .ge 7, 3) := by decide +kernel
theorem dX1_afterStep_90 : decode cX1_afterStep 90 = .ok (.iconst 1, 1) := by decide +kernel
theorem dX1_afterStep_91 : decode cX1_afterStep 91 = .ok (.goto 4, 3) := by decide +kernel
theorem dX1_afterStep_94 : decode cX1_afterStep 94 = .ok (.iconst 0, 1) := by decide +kernel
theorem dX1_afterStep_95 : decode cX1_afterStep 95 = .ok (.iload 5, 2) := by decide +kernel
theorem dX1_afterStep_97 : decode cX1_afterStep 97 = .ok (.invokestatic 213, 3) := by decide +kernel
theorem dX1_afterStep_100 : decode cX1_afterStep 100 = .ok (.lreturn, 1) := by decide +kernel
theorem dX1_afterStep_101 : decode cX1_afterStep 101 = .ok (.lload_n 1, 1) := by decide +kernel
theorem dX1_afterStep_102 : decode cX1_afterStep 102 = .ok (.lconst 0, 1) := by decide +kernel
theorem dX1_afterStep_103 : decode cX1_afterStep 103 = .ok (.lcmp, 1) := by decide +kernel
theorem dX1_afterStep_104 : decode cX1_afterStep 104 = .ok (.ifCond .ge 10, 3) := by decide +kernel
theorem dX1_afterStep_107 : decode cX1_afterStep 107 = .ok (.lload_n 1, 1) := by decide +kernel
theorem dX1_afterStep_108 : decode cX1_afterStep 108 = .ok (.invokestatic 217, 3) := by decide +kernel
theorem dX1_afterStep_111 : decode cX1_afterStep 111 = .ok (.goto 7, 3) := by decide +kernel
theorem dX1_afterStep_114 : decode cX1_afterStep 114 = .ok (.lload_n 1, 1) := by decide +kernel
theorem dX1_afterStep_115 : decode cX1_afterStep 115 = .ok (.invokestatic 221, 3) := by decide +kernel
theorem dX1_afterStep_118 : decode cX1_afterStep 118 = .ok (.lreturn, 1) := by decide +kernel
theorem dX1_afterStep_119 : decode cX1_afterStep 119 = .ok (.lload_n 1, 1) := by decide +kernel
theorem dX1_afterStep_120 : decode cX1_afterStep 120 = .ok (.lconst 0, 1) := by decide +kernel
theorem dX1_afterStep_121 : decode cX1_afterStep 121 = .ok (.lcmp, 1) := by decide +kernel
theorem dX1_afterStep_122 : decode cX1_afterStep 122 = .ok (.ifCond .ge 10, 3) := by decide +kernel
theorem dX1_afterStep_125 : decode cX1_afterStep 125 = .ok (.lload_n 1, 1) := by decide +kernel
theorem dX1_afterStep_126 : decode cX1_afterStep 126 = .ok (.invokestatic 221, 3) := by decide +kernel
theorem dX1_afterStep_129 : decode cX1_afterStep 129 = .ok (.goto 7, 3) := by decide +kernel
theorem dX1_afterStep_132 : decode cX1_afterStep 132 = .ok (.lload_n 1, 1) := by decide +kernel
theorem dX1_afterStep_133 : decode cX1_afterStep 133 = .ok (.invokestatic 217, 3) := by decide +kernel
theorem dX1_afterStep_136 : decode cX1_afterStep 136 = .ok (.lreturn, 1) := by decide +kernel
theorem dX1_afterStep_137 : decode cX1_afterStep 137 = .ok (.lload_n 1, 1) := by decide +kernel
theorem dX1_afterStep_138 : decode cX1_afterStep 138 = .ok (.invokestatic 224, 3) := by decide +kernel
theorem dX1_afterStep_141 : decode cX1_afterStep 141 = .ok (.lreturn, 1) := by decide +kernel
theorem dX1_afterStep_142 : decode cX1_afterStep 142 = .ok (.lload_n 1, 1) := by decide +kernel
theorem dX1_afterStep_143 : decode cX1_afterStep 143 = .ok (.lreturn, 1) := by decide +kernel
theorem dX1_signBits_0 : decode cX1_signBits 0 = .ok (.iload_n 0, 1) := by decide +kernel
theorem dX1_signBits_1 : decode cX1_signBits 1 = .ok (.iconst 2, 1) := by decide +kernel
theorem dX1_signBits_2 : decode cX1_signBits 2 = .ok (.if_icmp .ne 9, 3) := by decide +kernel
theorem dX1_signBits_5 : decode cX1_signBits 5 = .ok (.ldc2_w 171, 3) := by decide +kernel
theorem dX1_signBits_8 : decode cX1_signBits 8 = .ok (.goto 6, 3) := by decide +kernel
theorem dX1_signBits_11 : decode cX1_signBits 11 = .ok (.ldc2_w 227, 3) := by decide +kernel
theorem dX1_signBits_14 : decode cX1_signBits 14 = .ok (.lreturn, 1) := by decide +kernel
set_option maxRecDepth 20000 in
theorem ggX1_withSign_X1_signBits : GoodIn wsX1_withSign wsX1_signBits := goodIn_r _ [4, 5, 6] (by decide +kernel) (by decide +kernel)
set_option maxRecDepth 20000 in
theorem gX1_withSign_X1_signBits : GoodIn wsX1_withSign (va_wsS RX1 229 yX1_signBits wsX1_signBits) := goodIn_app (goodIn_of _ (by decide +kernel)) ggX1_withSign_X1_signBits
theorem dX1_withSign_0 : decode cX1_withSign 0 = .ok (.iload_n 2, 1) := by decide +kernel
theorem dX1_withSign_1 : decode cX1_withSign 1 = .ok (.ifCond .eq 12, 3) := by decide +kernel
theorem dX1_withSign_4 : decode cX1_withSign 4 = .ok (.lload_n 0, 1) := by decide +kernel
theorem dX1_withSign_5 : decode cX1_withSign 5 = .ok (.iload_n 3, 1) := by decide +kernel
theorem dX1_withSign_6 : decode cX1_withSign 6 = .ok (.invokestatic 229, 3) := by decide +kernel
theorem dX1_withSign_9 : decode cX1_withSign 9 = .ok (.lor, 1) := by decide +kernel
theorem dX1_withSign_10 : decode cX1_withSign 10 = .ok (.goto 4, 3) := by decide +kernel
theorem dX1_withSign_13 : decode cX1_withSign 13 = .ok (.lload_n 0, 1) := by decide +kernel
theorem dX1_withSign_14 : decode cX1_withSign 14 = .ok (.lreturn, 1) := by decide +kernel
set_option maxRecDepth 20000 in
theorem ggX1_sizeOf_X1_isReal : GoodIn wsX1_sizeOf wsX1_isReal := goodIn_r _ [7] (by decide +kernel) (by decide +kernel)
set_option maxRecDepth 20000 in
theorem gX1_sizeOf_X1_isReal : GoodIn wsX1_sizeOf (va_wsS RX1 177 yX1_isReal wsX1_isReal) := goodIn_app (goodIn_of _ (by decide +kernel)) ggX1_sizeOf_X1_isReal
set_option maxRecDepth 20000 in
theorem ggX1_sizeOf_X1_signBits : GoodIn wsX1_sizeOf wsX1_signBits := goodIn_r _ [10, 2, 3] (by decide +kernel) (by decide +kernel)
set_option maxRecDepth 20000 in
theorem gX1_sizeOf_X1_signBits : GoodIn wsX1_sizeOf (va_wsS RX1 229 yX1_signBits wsX1_signBits) := goodIn_app (goodIn_of _ (by decide +kernel)) ggX1_sizeOf_X1_signBits
theorem dX1_sizeOf_0 : decode cX1_sizeOf 0 = .ok (.iload_n 2, 1) := by decide +kernel
theorem dX1_sizeOf_1 : decode cX1_sizeOf 1 = .ok (.invokestatic 177, 3) := by decide +kernel
theorem dX1_sizeOf_4 : decode cX1_sizeOf 4 = .ok (.ifCond .eq 14, 3) := by decide +kernel
theorem dX1_sizeOf_7 : decode cX1_sizeOf 7 = .ok (.lload_n 0, 1) := by decide +kernel
theorem dX1_sizeOf_8 : decode cX1_sizeOf 8 = .ok (.iload_n 2, 1) := by decide +kernel
theorem dX1_sizeOf_9 : decode cX1_sizeOf 9 = .ok (.invokestatic 229, 3) := by decide +kernel
theorem dX1_sizeOf_12 : decode cX1_sizeOf 12 = .ok (.ldc2_w 233, 3) := by decide +kernel
theorem dX1_sizeOf_15 : decode cX1_sizeOf 15 = .ok (.lxor, 1) := by decide +kernel
theorem dX1_sizeOf_16 : decode cX1_sizeOf 16 = .ok (.land, 1) := by decide +kernel
theorem dX1_sizeOf_17 : decode cX1_sizeOf 17 = .ok (.lreturn, 1) := by decide +kernel
theorem dX1_sizeOf_18 : decode cX1_sizeOf 18 = .ok (.iload_n 2, 1) := by decide +kernel
theorem dX1_sizeOf_19 : decode cX1_sizeOf 19 = .ok (.ifCond .ne 9, 3) := by decide +kernel
theorem dX1_sizeOf_22 : decode cX1_sizeOf 22 = .ok (.ldc2_w 171, 3) := by decide +kernel
theorem dX1_sizeOf_25 : decode cX1_sizeOf 25 = .ok (.goto 6, 3) := by decide +kernel
theorem dX1_sizeOf_28 : decode cX1_sizeOf 28 = .ok (.ldc2_w 227, 3) := by decide +kernel
theorem dX1_sizeOf_31 : decode cX1_sizeOf 31 = .ok (.lstore_n 3, 1) := by decide +kernel
theorem dX1_sizeOf_32 : decode cX1_sizeOf 32 = .ok (.lload_n 0, 1) := by decide +kernel
theorem dX1_sizeOf_33 : decode cX1_sizeOf 33 = .ok (.lconst 0, 1) := by decide +kernel
theorem dX1_sizeOf_34 : decode cX1_sizeOf 34 = .ok (.lcmp, 1) := by decide +kernel
theorem dX1_sizeOf_35 : decode cX1_sizeOf 35 = .ok (.ifCond .ge 9, 3) := by decide +kernel
theorem dX1_sizeOf_38 : decode cX1_sizeOf 38 = .ok (.lload_n 0, 1) := by decide +kernel
theorem dX1_sizeOf_39 : decode cX1_sizeOf 39 = .ok (.lload_n 3, 1) := by decide +kernel
theorem dX1_sizeOf_40 : decode cX1_sizeOf 40 = .ok (.lcmp, 1) := by decide +kernel
theorem dX1_sizeOf_41 : decode cX1_sizeOf 41 = .ok (.ifCond .ne 7, 3) := by decide +kernel
theorem dX1_sizeOf_44 : decode cX1_sizeOf 44 = .ok (.lload_n 0, 1) := by decide +kernel
theorem dX1_sizeOf_45 : decode cX1_sizeOf 45 = .ok (.goto 5, 3) := by decide +kernel
theorem dX1_sizeOf_48 : decode cX1_sizeOf 48 = .ok (.lload_n 0, 1) := by decide +kernel
theorem dX1_sizeOf_49 : decode cX1_sizeOf 49 = .ok (.lneg, 1) := by decide +kernel
theorem dX1_sizeOf_50 : decode cX1_sizeOf 50 = .ok (.lreturn, 1) := by decide +kernel
set_option maxRecDepth 20000 in
theorem ggX1_shown_X1_sizeOf : GoodIn wsX1_shown wsX1_sizeOf := goodIn_r _ [6, 7, 8, 9, 10, 11, 5, 12, 13, 14, 15] (by decide +kernel) (by decide +kernel)
set_option maxRecDepth 20000 in
theorem gX1_shown_X1_sizeOf : GoodIn wsX1_shown (va_wsS RX1 200 yX1_sizeOf wsX1_sizeOf) := goodIn_app (goodIn_of _ (by decide +kernel)) ggX1_shown_X1_sizeOf
set_option maxRecDepth 20000 in
theorem ggX1_shown_X1_withSign : GoodIn wsX1_shown wsX1_withSign := goodIn_r _ [18, 13, 14, 5, 15, 8, 9] (by decide +kernel) (by decide +kernel)
set_option maxRecDepth 20000 in
theorem gX1_shown_X1_withSign : GoodIn wsX1_shown (va_wsS RX1 213 yX1_withSign wsX1_withSign) := goodIn_app (goodIn_of _ (by decide +kernel)) ggX1_shown_X1_withSign
theorem dX1_shown_0 : decode cX1_shown 0 = .ok (.lload_n 0, 1) := by decide +kernel
theorem dX1_shown_1 : decode cX1_shown 1 = .ok (.iload_n 2, 1) := by decide +kernel
theorem dX1_shown_2 : decode cX1_shown 2 = .ok (.invokestatic 200, 3) := by decide +kernel
theorem dX1_shown_5 : decode cX1_shown 5 = .ok (.lconst 0, 1) := by decide +kernel
theorem dX1_shown_6 : decode cX1_shown 6 = .ok (.lcmp, 1) := by decide +kernel
theorem dX1_shown_7 : decode cX1_shown 7 = .ok (.ifCond .ne 5, 3) := by decide +kernel
theorem dX1_shown_10 : decode cX1_shown 10 = .ok (.lload_n 0, 1) := by decide +kernel
theorem dX1_shown_11 : decode cX1_shown 11 = .ok (.lreturn, 1) := by decide +kernel
theorem dX1_shown_12 : decode cX1_shown 12 = .ok (.iload_n 2, 1) := by decide +kernel
theorem dX1_shown_13 : decode cX1_shown 13 = .ok (.iconst 2, 1) := by decide +kernel
theorem dX1_shown_14 : decode cX1_shown 14 = .ok (.if_icmp .ne 9, 3) := by decide +kernel
theorem dX1_shown_17 : decode cX1_shown 17 = .ok (.ldc2_w 235, 3) := by decide +kernel
theorem dX1_shown_20 : decode cX1_shown 20 = .ok (.goto 6, 3) := by decide +kernel
theorem dX1_shown_23 : decode cX1_shown 23 = .ok (.ldc2_w 237, 3) := by decide +kernel
theorem dX1_shown_26 : decode cX1_shown 26 = .ok (.lload_n 0, 1) := by decide +kernel
theorem dX1_shown_27 : decode cX1_shown 27 = .ok (.lconst 0, 1) := by decide +kernel
theorem dX1_shown_28 : decode cX1_shown 28 = .ok (.lcmp, 1) := by decide +kernel
theorem dX1_shown_29 : decode cX1_shown 29 = .ok (.ifCond .ge 7, 3) := by decide +kernel
theorem dX1_shown_32 : decode cX1_shown 32 = .ok (.iconst 1, 1) := by decide +kernel
theorem dX1_shown_33 : decode cX1_shown 33 = .ok (.goto 4, 3) := by decide +kernel
theorem dX1_shown_36 : decode cX1_shown 36 = .ok (.iconst 0, 1) := by decide +kernel
theorem dX1_shown_37 : decode cX1_shown 37 = .ok (.iload_n 2, 1) := by decide +kernel
theorem dX1_shown_38 : decode cX1_shown 38 = .ok (.invokestatic 213, 3) := by decide +kernel
theorem dX1_shown_41 : decode cX1_shown 41 = .ok (.lreturn, 1) := by decide +kernel
theorem dX1_partMask_0 : decode cX1_partMask 0 = .ok (.lload_n 0, 1) := by decide +kernel
theorem dX1_partMask_1 : decode cX1_partMask 1 = .ok (.ldc2_w 167, 3) := by decide +kernel
theorem dX1_partMask_4 : decode cX1_partMask 4 = .ok (.land, 1) := by decide +kernel
theorem dX1_partMask_5 : decode cX1_partMask 5 = .ok (.bipush 52, 2) := by decide +kernel
theorem dX1_partMask_7 : decode cX1_partMask 7 = .ok (.lushr, 1) := by decide +kernel
theorem dX1_partMask_8 : decode cX1_partMask 8 = .ok (.l2i, 1) := by decide +kernel
theorem dX1_partMask_9 : decode cX1_partMask 9 = .ok (.sipush 1023, 3) := by decide +kernel
theorem dX1_partMask_12 : decode cX1_partMask 12 = .ok (.isub, 1) := by decide +kernel
theorem dX1_partMask_13 : decode cX1_partMask 13 = .ok (.istore_n 2, 1) := by decide +kernel
theorem dX1_partMask_14 : decode cX1_partMask 14 = .ok (.iload_n 2, 1) := by decide +kernel
theorem dX1_partMask_15 : decode cX1_partMask 15 = .ok (.bipush 52, 2) := by decide +kernel
theorem dX1_partMask_17 : decode cX1_partMask 17 = .ok (.if_icmp .lt 7, 3) := by decide +kernel
theorem dX1_partMask_20 : decode cX1_partMask 20 = .ok (.lconst 0, 1) := by decide +kernel
theorem dX1_partMask_21 : decode cX1_partMask 21 = .ok (.goto 11, 3) := by decide +kernel
theorem dX1_partMask_24 : decode cX1_partMask 24 = .ok (.lconst 1, 1) := by decide +kernel
theorem dX1_partMask_25 : decode cX1_partMask 25 = .ok (.bipush 52, 2) := by decide +kernel
theorem dX1_partMask_27 : decode cX1_partMask 27 = .ok (.iload_n 2, 1) := by decide +kernel
theorem dX1_partMask_28 : decode cX1_partMask 28 = .ok (.isub, 1) := by decide +kernel
theorem dX1_partMask_29 : decode cX1_partMask 29 = .ok (.lshl, 1) := by decide +kernel
theorem dX1_partMask_30 : decode cX1_partMask 30 = .ok (.lconst 1, 1) := by decide +kernel
theorem dX1_partMask_31 : decode cX1_partMask 31 = .ok (.lsub, 1) := by decide +kernel
theorem dX1_partMask_32 : decode cX1_partMask 32 = .ok (.lreturn, 1) := by decide +kernel
theorem dX1_isBelowOne_0 : decode cX1_isBelowOne 0 = .ok (.lload_n 0, 1) := by decide +kernel
theorem dX1_isBelowOne_1 : decode cX1_isBelowOne 1 = .ok (.ldc2_w 167, 3) := by decide +kernel
theorem dX1_isBelowOne_4 : decode cX1_isBelowOne 4 = .ok (.land, 1) := by decide +kernel
theorem dX1_isBelowOne_5 : decode cX1_isBelowOne 5 = .ok (.ldc2_w 237, 3) := by decide +kernel
theorem dX1_isBelowOne_8 : decode cX1_isBelowOne 8 = .ok (.lcmp, 1) := by decide +kernel
theorem dX1_isBelowOne_9 : decode cX1_isBelowOne 9 = .ok (.ifCond .ge 7, 3) := by decide +kernel
theorem dX1_isBelowOne_12 : decode cX1_isBelowOne 12 = .ok (.iconst 1, 1) := by decide +kernel
theorem dX1_isBelowOne_13 : decode cX1_isBelowOne 13 = .ok (.goto 4, 3) := by decide +kernel
theorem dX1_isBelowOne_16 : decode cX1_isBelowOne 16 = .ok (.iconst 0, 1) := by decide +kernel
theorem dX1_isBelowOne_17 : decode cX1_isBelowOne 17 = .ok (.ireturn, 1) := by decide +kernel
set_option maxRecDepth 20000 in
theorem ggX1_isWhole_X1_isBelowOne : GoodIn wsX1_isWhole wsX1_isBelowOne := goodIn_r _ [5, 1, 6] (by decide +kernel) (by decide +kernel)
set_option maxRecDepth 20000 in
theorem gX1_isWhole_X1_isBelowOne : GoodIn wsX1_isWhole (va_wsS RX1 239 yX1_isBelowOne wsX1_isBelowOne) := goodIn_app (goodIn_of _ (by decide +kernel)) ggX1_isWhole_X1_isBelowOne
set_option maxRecDepth 20000 in
theorem ggX1_isWhole_X1_partMask : GoodIn wsX1_isWhole wsX1_partMask := goodIn_r _ [9, 1] (by decide +kernel) (by decide +kernel)
set_option maxRecDepth 20000 in
theorem gX1_isWhole_X1_partMask : GoodIn wsX1_isWhole (va_wsS RX1 243 yX1_partMask wsX1_partMask) := goodIn_app (goodIn_of _ (by decide +kernel)) ggX1_isWhole_X1_partMask
theorem dX1_isWhole_0 : decode cX1_isWhole 0 = .ok (.lload_n 0, 1) := by decide +kernel
theorem dX1_isWhole_1 : decode cX1_isWhole 1 = .ok (.invokestatic 239, 3) := by decide +kernel
theorem dX1_isWhole_4 : decode cX1_isWhole 4 = .ok (.ifCond .eq 19, 3) := by decide +kernel
theorem dX1_isWhole_7 : decode cX1_isWhole 7 = .ok (.lload_n 0, 1) := by decide +kernel
theorem dX1_isWhole_8 : decode cX1_isWhole 8 = .ok (.ldc2_w 167, 3) := by decide +kernel
theorem dX1_isWhole_11 : decode cX1_isWhole 11 = .ok (.land, 1) := by decide +kernel
theorem dX1_isWhole_12 : decode cX1_isWhole 12 = .ok (.lconst 0, 1) := by decide +kernel
theorem dX1_isWhole_13 : decode cX1_isWhole 13 = .ok (.lcmp, 1) := by decide +kernel
theorem dX1_isWhole_14 : decode cX1_isWhole 14 = .ok (.ifCond .ne 7, 3) := by decide +kernel
theorem dX1_isWhole_17 : decode cX1_isWhole 17 = .ok (.iconst 1, 1) := by decide +kernel
theorem dX1_isWhole_18 : decode cX1_isWhole 18 = .ok (.goto 4, 3) := by decide +kernel
theorem dX1_isWhole_21 : decode cX1_isWhole 21 = .ok (.iconst 0, 1) := by decide +kernel
theorem dX1_isWhole_22 : decode cX1_isWhole 22 = .ok (.ireturn, 1) := by decide +kernel
theorem dX1_isWhole_23 : decode cX1_isWhole 23 = .ok (.lload_n 0, 1) := by decide +kernel
theorem dX1_isWhole_24 : decode cX1_isWhole 24 = .ok (.lload_n 0, 1) := by decide +kernel
theorem dX1_isWhole_25 : decode cX1_isWhole 25 = .ok (.invokestatic 243, 3) := by decide +kernel
theorem dX1_isWhole_28 : decode cX1_isWhole 28 = .ok (.land, 1) := by decide +kernel
theorem dX1_isWhole_29 : decode cX1_isWhole 29 = .ok (.lconst 0, 1) := by decide +kernel
theorem dX1_isWhole_30 : decode cX1_isWhole 30 = .ok (.lcmp, 1) := by decide +kernel
theorem dX1_isWhole_31 : decode cX1_isWhole 31 = .ok (.ifCond .ne 7, 3) := by decide +kernel
theorem dX1_isWhole_34 : decode cX1_isWhole 34 = .ok (.iconst 1, 1) := by decide +kernel
theorem dX1_isWhole_35 : decode cX1_isWhole 35 = .ok (.goto 4, 3) := by decide +kernel
theorem dX1_isWhole_38 : decode cX1_isWhole 38 = .ok (.iconst 0, 1) := by decide +kernel
theorem dX1_isWhole_39 : decode cX1_isWhole 39 = .ok (.ireturn, 1) := by decide +kernel
set_option maxRecDepth 20000 in
theorem ggX1_wholeToward_X1_isBelowOne : GoodIn wsX1_wholeToward wsX1_isBelowOne := goodIn_r _ [6, 7, 8] (by decide +kernel) (by decide +kernel)
set_option maxRecDepth 20000 in
theorem gX1_wholeToward_X1_isBelowOne : GoodIn wsX1_wholeToward (va_wsS RX1 239 yX1_isBelowOne wsX1_isBelowOne) := goodIn_app (goodIn_of _ (by decide +kernel)) ggX1_wholeToward_X1_isBelowOne
set_option maxRecDepth 20000 in
theorem ggX1_wholeToward_X1_partMask : GoodIn wsX1_wholeToward wsX1_partMask := goodIn_r _ [11, 7] (by decide +kernel) (by decide +kernel)
set_option maxRecDepth 20000 in
theorem gX1_wholeToward_X1_partMask : GoodIn wsX1_wholeToward (va_wsS RX1 243 yX1_partMask wsX1_partMask) := goodIn_app (goodIn_of _ (by decide +kernel)) ggX1_wholeToward_X1_partMask
theorem dX1_wholeToward_0 : decode cX1_wholeToward 0 = .ok (.lload_n 0, 1) := by decide +kernel
theorem dX1_wholeToward_1 : decode cX1_wholeToward 1 = .ok (.invokestatic 239, 3) := by decide +kernel
theorem dX1_wholeToward_4 : decode cX1_wholeToward 4 = .ok (.ifCond .eq 9, 3) := by decide +kernel
theorem dX1_wholeToward_7 : decode cX1_wholeToward 7 = .ok (.lload_n 0, 1) := by decide +kernel
theorem dX1_wholeToward_8 : decode cX1_wholeToward 8 = .ok (.ldc2_w 227, 3) := by decide +kernel
theorem dX1_wholeToward_11 : decode cX1_wholeToward 11 = .ok (.land, 1) := by decide +kernel
theorem dX1_wholeToward_12 : decode cX1_wholeToward 12 = .ok (.lreturn, 1) := by decide +kernel
theorem dX1_wholeToward_13 : decode cX1_wholeToward 13 = .ok (.lload_n 0, 1) := by decide +kernel
theorem dX1_wholeToward_14 : decode cX1_wholeToward 14 = .ok (.lload_n 0, 1) := by decide +kernel
theorem dX1_wholeToward_15 : decode cX1_wholeToward 15 = .ok (.invokestatic 243, 3) := by decide +kernel
theorem dX1_wholeToward_18 : decode cX1_wholeToward 18 = .ok (.ldc2_w 233, 3) := by decide +kernel
theorem dX1_wholeToward_21 : decode cX1_wholeToward 21 = .ok (.lxor, 1) := by decide +kernel
theorem dX1_wholeToward_22 : decode cX1_wholeToward 22 = .ok (.land, 1) := by decide +kernel
theorem dX1_wholeToward_23 : decode cX1_wholeToward 23 = .ok (.lreturn, 1) := by decide +kernel
set_option maxRecDepth 20000 in
theorem ggX1_wholeAway_X1_isWhole : GoodIn wsX1_wholeAway wsX1_isWhole := goodIn_r _ [6, 7, 8, 9, 5, 10, 2, 11, 12, 13] (by decide +kernel) (by decide +kernel)
set_option maxRecDepth 20000 in
theorem gX1_wholeAway_X1_isWhole : GoodIn wsX1_wholeAway (va_wsS RX1 246 yX1_isWhole wsX1_isWhole) := goodIn_app (goodIn_of _ (by decide +kernel)) ggX1_wholeAway_X1_isWhole
set_option maxRecDepth 20000 in
theorem ggX1_wholeAway_X1_isBelowOne : GoodIn wsX1_wholeAway wsX1_isBelowOne := goodIn_r _ [10, 7, 2] (by decide +kernel) (by decide +kernel)
set_option maxRecDepth 20000 in
theorem gX1_wholeAway_X1_isBelowOne : GoodIn wsX1_wholeAway (va_wsS RX1 239 yX1_isBelowOne wsX1_isBelowOne) := goodIn_app (goodIn_of _ (by decide +kernel)) ggX1_wholeAway_X1_isBelowOne
set_option maxRecDepth 20000 in
theorem ggX1_wholeAway_X1_wholeToward : GoodIn wsX1_wholeAway wsX1_wholeToward := goodIn_r _ [16, 1, 17, 8, 9, 5, 10, 7, 2, 11, 12, 13] (by decide +kernel) (by decide +kernel)
set_option maxRecDepth 20000 in
theorem gX1_wholeAway_X1_wholeToward : GoodIn wsX1_wholeAway (va_wsS RX1 221 yX1_wholeToward wsX1_wholeToward) := goodIn_app (goodIn_of _ (by decide +kernel)) ggX1_wholeAway_X1_wholeToward
set_option maxRecDepth 20000 in
theorem ggX1_wholeAway_X1_partMask : GoodIn wsX1_wholeAway wsX1_partMask := goodIn_r _ [13, 7] (by decide +kernel) (by decide +kernel)
set_option maxRecDepth 20000 in
theorem gX1_wholeAway_X1_partMask : GoodIn wsX1_wholeAway (va_wsS RX1 243 yX1_partMask wsX1_partMask) := goodIn_app (goodIn_of _ (by decide +kernel)) ggX1_wholeAway_X1_partMask
theorem dX1_wholeAway_0 : decode cX1_wholeAway 0 = .ok (.lload_n 0, 1) := by decide +kernel
theorem dX1_wholeAway_1 : decode cX1_wholeAway 1 = .ok (.invokestatic 246, 3) := by decide +kernel
theorem dX1_wholeAway_4 : decode cX1_wholeAway 4 = .ok (.ifCond .eq 5, 3) := by decide +kernel
theorem dX1_wholeAway_7 : decode cX1_wholeAway 7 = .ok (.lload_n 0, 1) := by decide +kernel
theorem dX1_wholeAway_8 : decode cX1_wholeAway 8 = .ok (.lreturn, 1) := by decide +kernel
theorem dX1_wholeAway_9 : decode cX1_wholeAway 9 = .ok (.lload_n 0, 1) := by decide +kernel
theorem dX1_wholeAway_10 : decode cX1_wholeAway 10 = .ok (.invokestatic 239, 3) := by decide +kernel
theorem dX1_wholeAway_13 : decode cX1_wholeAway 13 = .ok (.ifCond .eq 13, 3) := by decide +kernel
theorem dX1_wholeAway_16 : decode cX1_wholeAway 16 = .ok (.lload_n 0, 1) := by decide +kernel
theorem dX1_wholeAway_17 : decode cX1_wholeAway 17 = .ok (.ldc2_w 227, 3) := by decide +kernel
theorem dX1_wholeAway_20 : decode cX1_wholeAway 20 = .ok (.land, 1) := by decide +kernel
theorem dX1_wholeAway_21 : decode cX1_wholeAway 21 = .ok (.ldc2_w 237, 3) := by decide +kernel
theorem dX1_wholeAway_24 : decode cX1_wholeAway 24 = .ok (.lor, 1) := by decide +kernel
theorem dX1_wholeAway_25 : decode cX1_wholeAway 25 = .ok (.lreturn, 1) := by decide +kernel
theorem dX1_wholeAway_26 : decode cX1_wholeAway 26 = .ok (.lload_n 0, 1) := by decide +kernel
theorem dX1_wholeAway_27 : decode cX1_wholeAway 27 = .ok (.invokestatic 221, 3) := by decide +kernel
theorem dX1_wholeAway_30 : decode cX1_wholeAway 30 = .ok (.lload_n 0, 1) := by decide +kernel
theorem dX1_wholeAway_31 : decode cX1_wholeAway 31 = .ok (.invokestatic 243, 3) := by decide +kernel
theorem dX1_wholeAway_34 : decode cX1_wholeAway 34 = .ok (.ladd, 1) := by decide +kernel
theorem dX1_wholeAway_35 : decode cX1_wholeAway 35 = .ok (.lconst 1, 1) := by decide +kernel
theorem dX1_wholeAway_36 : decode cX1_wholeAway 36 = .ok (.ladd, 1) := by decide +kernel
theorem dX1_wholeAway_37 : decode cX1_wholeAway 37 = .ok (.lreturn, 1) := by decide +kernel
set_option maxRecDepth 20000 in
theorem ggX1_wholeNearest_X1_isBelowOne : GoodIn wsX1_wholeNearest wsX1_isBelowOne := goodIn_r _ [7, 1, 8] (by decide +kernel) (by decide +kernel)
set_option maxRecDepth 20000 in
theorem gX1_wholeNearest_X1_isBelowOne : GoodIn wsX1_wholeNearest (va_wsS RX1 239 yX1_isBelowOne wsX1_isBelowOne) := goodIn_app (goodIn_of _ (by decide +kernel)) ggX1_wholeNearest_X1_isBelowOne
set_option maxRecDepth 20000 in
theorem ggX1_wholeNearest_X1_wholeAway : GoodIn wsX1_wholeNearest wsX1_wholeAway := goodIn_r _ [11, 12, 8, 13, 14, 6, 15, 1, 4, 5, 7, 16, 17, 18, 19, 20, 21, 22] (by decide +kernel) (by decide +kernel)
set_option maxRecDepth 20000 in
theorem gX1_wholeNearest_X1_wholeAway : GoodIn wsX1_wholeNearest (va_wsS RX1 217 yX1_wholeAway wsX1_wholeAway) := goodIn_app (goodIn_of _ (by decide +kernel)) ggX1_wholeNearest_X1_wholeAway
set_option maxRecDepth 20000 in
theorem ggX1_wholeNearest_X1_wholeToward : GoodIn wsX1_wholeNearest wsX1_wholeToward := goodIn_r _ [21, 12, 22, 4, 5, 6, 7, 1, 8, 16, 17, 18] (by decide +kernel) (by decide +kernel)
set_option maxRecDepth 20000 in
theorem gX1_wholeNearest_X1_wholeToward : GoodIn wsX1_wholeNearest (va_wsS RX1 221 yX1_wholeToward wsX1_wholeToward) := goodIn_app (goodIn_of _ (by decide +kernel)) ggX1_wholeNearest_X1_wholeToward
set_option maxRecDepth 20000 in
theorem ggX1_wholeNearest_X1_partMask : GoodIn wsX1_wholeNearest wsX1_partMask := goodIn_r _ [18, 1] (by decide +kernel) (by decide +kernel)
set_option maxRecDepth 20000 in
theorem gX1_wholeNearest_X1_partMask : GoodIn wsX1_wholeNearest (va_wsS RX1 243 yX1_partMask wsX1_partMask) := goodIn_app (goodIn_of _ (by decide +kernel)) ggX1_wholeNearest_X1_partMask
set_option maxRecDepth 20000 in
theorem ggX1_wholeNearest_X1_roundsAway : GoodIn wsX1_wholeNearest wsX1_roundsAway := goodIn_r _ [25] (by decide +kernel) (by decide +kernel)
set_option maxRecDepth 20000 in
theorem gX1_wholeNearest_X1_roundsAway : GoodIn wsX1_wholeNearest (va_wsS RX1 253 yX1_roundsAway wsX1_roundsAway) := goodIn_app (goodIn_of _ (by decide +kernel)) ggX1_wholeNearest_X1_roundsAway
theorem dX1_wholeNearest_0 : decode cX1_wholeNearest 0 = .ok (.lload_n 0, 1) := by decide +kernel
theorem dX1_wholeNearest_1 : decode cX1_wholeNearest 1 = .ok (.invokestatic 239, 3) := by decide +kernel
theorem dX1_wholeNearest_4 : decode cX1_wholeNearest 4 = .ok (.ifCond .eq 27, 3) := by decide +kernel
theorem dX1_wholeNearest_7 : decode cX1_wholeNearest 7 = .ok (.lload_n 0, 1) := by decide +kernel
theorem dX1_wholeNearest_8 : decode cX1_wholeNearest 8 = .ok (.ldc2_w 167, 3) := by decide +kernel
theorem dX1_wholeNearest_11 : decode cX1_wholeNearest 11 = .ok (.land, 1) := by decide +kernel
theorem dX1_wholeNearest_12 : decode cX1_wholeNearest 12 = .ok (.ldc2_w 249, 3) := by decide +kernel
theorem dX1_wholeNearest_15 : decode cX1_wholeNearest 15 = .ok (.lcmp, 1) := by decide +kernel
theorem dX1_wholeNearest_16 : decode cX1_wholeNearest 16 = .ok (.ifCond .le 10, 3) := by decide +kernel
theorem dX1_wholeNearest_19 : decode cX1_wholeNearest 19 = .ok (.lload_n 0, 1) := by decide +kernel
theorem dX1_wholeNearest_20 : decode cX1_wholeNearest 20 = .ok (.invokestatic 217, 3) := by decide +kernel
theorem dX1_wholeNearest_23 : decode cX1_wholeNearest 23 = .ok (.goto 7, 3) := by decide +kernel
theorem dX1_wholeNearest_26 : decode cX1_wholeNearest 26 = .ok (.lload_n 0, 1) := by decide +kernel
theorem dX1_wholeNearest_27 : decode cX1_wholeNearest 27 = .ok (.invokestatic 221, 3) := by decide +kernel
theorem dX1_wholeNearest_30 : decode cX1_wholeNearest 30 = .ok (.lreturn, 1) := by decide +kernel
theorem dX1_wholeNearest_31 : decode cX1_wholeNearest 31 = .ok (.ldc2_w 251, 3) := by decide +kernel
theorem dX1_wholeNearest_34 : decode cX1_wholeNearest 34 = .ok (.lstore_n 2, 1) := by decide +kernel
theorem dX1_wholeNearest_35 : decode cX1_wholeNearest 35 = .ok (.lload_n 0, 1) := by decide +kernel
theorem dX1_wholeNearest_36 : decode cX1_wholeNearest 36 = .ok (.lload_n 2, 1) := by decide +kernel
theorem dX1_wholeNearest_37 : decode cX1_wholeNearest 37 = .ok (.lconst 1, 1) := by decide +kernel
theorem dX1_wholeNearest_38 : decode cX1_wholeNearest 38 = .ok (.lsub, 1) := by decide +kernel
theorem dX1_wholeNearest_39 : decode cX1_wholeNearest 39 = .ok (.land, 1) := by decide +kernel
theorem dX1_wholeNearest_40 : decode cX1_wholeNearest 40 = .ok (.lload_n 2, 1) := by decide +kernel
theorem dX1_wholeNearest_41 : decode cX1_wholeNearest 41 = .ok (.lor, 1) := by decide +kernel
theorem dX1_wholeNearest_42 : decode cX1_wholeNearest 42 = .ok (.lstore 4, 2) := by decide +kernel
theorem dX1_wholeNearest_44 : decode cX1_wholeNearest 44 = .ok (.lload 4, 2) := by decide +kernel
theorem dX1_wholeNearest_46 : decode cX1_wholeNearest 46 = .ok (.lload_n 0, 1) := by decide +kernel
theorem dX1_wholeNearest_47 : decode cX1_wholeNearest 47 = .ok (.invokestatic 243, 3) := by decide +kernel
theorem dX1_wholeNearest_50 : decode cX1_wholeNearest 50 = .ok (.invokestatic 253, 3) := by decide +kernel
theorem dX1_wholeNearest_53 : decode cX1_wholeNearest 53 = .ok (.ifCond .eq 10, 3) := by decide +kernel
theorem dX1_wholeNearest_56 : decode cX1_wholeNearest 56 = .ok (.lload_n 0, 1) := by decide +kernel
theorem dX1_wholeNearest_57 : decode cX1_wholeNearest 57 = .ok (.invokestatic 217, 3) := by decide +kernel
theorem dX1_wholeNearest_60 : decode cX1_wholeNearest 60 = .ok (.goto 7, 3) := by decide +kernel
theorem dX1_wholeNearest_63 : decode cX1_wholeNearest 63 = .ok (.lload_n 0, 1) := by decide +kernel
theorem dX1_wholeNearest_64 : decode cX1_wholeNearest 64 = .ok (.invokestatic 221, 3) := by decide +kernel
theorem dX1_wholeNearest_67 : decode cX1_wholeNearest 67 = .ok (.lreturn, 1) := by decide +kernel
theorem dX1_roundsAway_0 : decode cX1_roundsAway 0 = .ok (.lload_n 0, 1) := by decide +kernel
theorem dX1_roundsAway_1 : decode cX1_roundsAway 1 = .ok (.lload_n 2, 1) := by decide +kernel
theorem dX1_roundsAway_2 : decode cX1_roundsAway 2 = .ok (.land, 1) := by decide +kernel
theorem dX1_roundsAway_3 : decode cX1_roundsAway 3 = .ok (.lstore 4, 2) := by decide +kernel
theorem dX1_roundsAway_5 : decode cX1_roundsAway 5 = .ok (.lload_n 2, 1) := by decide +kernel
theorem dX1_roundsAway_6 : decode cX1_roundsAway 6 = .ok (.iconst 1, 1) := by decide +kernel
theorem dX1_roundsAway_7 : decode cX1_roundsAway 7 = .ok (.lushr, 1) := by decide +kernel
theorem dX1_roundsAway_8 : decode cX1_roundsAway 8 = .ok (.lconst 1, 1) := by decide +kernel
theorem dX1_roundsAway_9 : decode cX1_roundsAway 9 = .ok (.ladd, 1) := by decide +kernel
theorem dX1_roundsAway_10 : decode cX1_roundsAway 10 = .ok (.lstore 6, 2) := by decide +kernel
theorem dX1_roundsAway_12 : decode cX1_roundsAway 12 = .ok (.lload_n 0, 1) := by decide +kernel
theorem dX1_roundsAway_13 : decode cX1_roundsAway 13 = .ok (.lload_n 2, 1) := by decide +kernel
theorem dX1_roundsAway_14 : decode cX1_roundsAway 14 = .ok (.lconst 1, 1) := by decide +kernel
theorem dX1_roundsAway_15 : decode cX1_roundsAway 15 = .ok (.ladd, 1) := by decide +kernel
theorem dX1_roundsAway_16 : decode cX1_roundsAway 16 = .ok (.land, 1) := by decide +kernel
theorem dX1_roundsAway_17 : decode cX1_roundsAway 17 = .ok (.lconst 0, 1) := by decide +kernel
theorem dX1_roundsAway_18 : decode cX1_roundsAway 18 = .ok (.lcmp, 1) := by decide +kernel
theorem dX1_roundsAway_19 : decode cX1_roundsAway 19 = .ok (.ifCond .eq 7, 3) := by decide +kernel
theorem dX1_roundsAway_22 : decode cX1_roundsAway 22 = .ok (.iconst 1, 1) := by decide +kernel
theorem dX1_roundsAway_23 : decode cX1_roundsAway 23 = .ok (.goto 4, 3) := by decide +kernel
theorem dX1_roundsAway_26 : decode cX1_roundsAway 26 = .ok (.iconst 0, 1) := by decide +kernel
theorem dX1_roundsAway_27 : decode cX1_roundsAway 27 = .ok (.istore 8, 2) := by decide +kernel
theorem dX1_roundsAway_29 : decode cX1_roundsAway 29 = .ok (.lload 4, 2) := by decide +kernel
theorem dX1_roundsAway_31 : decode cX1_roundsAway 31 = .ok (.lload 6, 2) := by decide +kernel
theorem dX1_roundsAway_33 : decode cX1_roundsAway 33 = .ok (.lcmp, 1) := by decide +kernel
theorem dX1_roundsAway_34 : decode cX1_roundsAway 34 = .ok (.ifCond .gt 16, 3) := by decide +kernel
theorem dX1_roundsAway_37 : decode cX1_roundsAway 37 = .ok (.lload 4, 2) := by decide +kernel
theorem dX1_roundsAway_39 : decode cX1_roundsAway 39 = .ok (.lload 6, 2) := by decide +kernel
theorem dX1_roundsAway_41 : decode cX1_roundsAway 41 = .ok (.lcmp, 1) := by decide +kernel
theorem dX1_roundsAway_42 : decode cX1_roundsAway 42 = .ok (.ifCond .ne 12, 3) := by decide +kernel
theorem dX1_roundsAway_45 : decode cX1_roundsAway 45 = .ok (.iload 8, 2) := by decide +kernel
theorem dX1_roundsAway_47 : decode cX1_roundsAway 47 = .ok (.ifCond .eq 7, 3) := by decide +kernel
theorem dX1_roundsAway_50 : decode cX1_roundsAway 50 = .ok (.iconst 1, 1) := by decide +kernel
theorem dX1_roundsAway_51 : decode cX1_roundsAway 51 = .ok (.goto 4, 3) := by decide +kernel
theorem dX1_roundsAway_54 : decode cX1_roundsAway 54 = .ok (.iconst 0, 1) := by decide +kernel
theorem dX1_roundsAway_55 : decode cX1_roundsAway 55 = .ok (.ireturn, 1) := by decide +kernel
theorem dX1_canHandOn_0 : decode cX1_canHandOn 0 = .ok (.iload_n 0, 1) := by decide +kernel
theorem dX1_canHandOn_1 : decode cX1_canHandOn 1 = .ok (.iload_n 1, 1) := by decide +kernel
theorem dX1_canHandOn_2 : decode cX1_canHandOn 2 = .ok (.if_icmp .gt 7, 3) := by decide +kernel
theorem dX1_canHandOn_5 : decode cX1_canHandOn 5 = .ok (.iconst 1, 1) := by decide +kernel
theorem dX1_canHandOn_6 : decode cX1_canHandOn 6 = .ok (.goto 4, 3) := by decide +kernel
theorem dX1_canHandOn_9 : decode cX1_canHandOn 9 = .ok (.iconst 0, 1) := by decide +kernel
theorem dX1_canHandOn_10 : decode cX1_canHandOn 10 = .ok (.ireturn, 1) := by decide +kernel
set_option maxRecDepth 20000 in
theorem ggX1_handedOn_X1_singleAsDouble : GoodIn wsX1_handedOn wsX1_singleAsDouble := goodIn_r _ [4, 5, 6, 7, 3, 8, 9, 10, 11, 12, 13, 14, 15, 16, 17, 18, 19, 20, 21, 22, 23, 24, 25, 26, 27, 28, 29, 30, 31, 32] (by decide +kernel) (by decide +kernel)
set_option maxRecDepth 20000 in
theorem gX1_handedOn_X1_singleAsDouble : GoodIn wsX1_handedOn (va_wsS RX1 257 yX1_singleAsDouble wsX1_singleAsDouble) := goodIn_app (goodIn_of _ (by decide +kernel)) ggX1_handedOn_X1_singleAsDouble
set_option maxRecDepth 20000 in
theorem ggX1_handedOn_X1_wholeAsReal : GoodIn wsX1_handedOn wsX1_wholeAsReal := goodIn_r _ [15, 16, 17, 3, 18, 19, 20, 21, 22, 23, 24, 25, 26, 27, 28, 29, 30, 31, 32] (by decide +kernel) (by decide +kernel)
set_option maxRecDepth 20000 in
theorem gX1_handedOn_X1_wholeAsReal : GoodIn wsX1_handedOn (va_wsS RX1 260 yX1_wholeAsReal wsX1_wholeAsReal) := goodIn_app (goodIn_of _ (by decide +kernel)) ggX1_handedOn_X1_wholeAsReal
theorem dX1_handedOn_0 : decode cX1_handedOn 0 = .ok (.iload_n 2, 1) := by decide +kernel
theorem dX1_handedOn_1 : decode cX1_handedOn 1 = .ok (.iload_n 3, 1) := by decide +kernel
theorem dX1_handedOn_2 : decode cX1_handedOn 2 = .ok (.if_icmp .eq 8, 3) := by decide +kernel
theorem dX1_handedOn_5 : decode cX1_handedOn 5 = .ok (.iload_n 3, 1) := by decide +kernel
theorem dX1_handedOn_6 : decode cX1_handedOn 6 = .ok (.iconst 1, 1) := by decide +kernel
theorem dX1_handedOn_7 : decode cX1_handedOn 7 = .ok (.if_icmp .ne 5, 3) := by decide +kernel
theorem dX1_handedOn_10 : decode cX1_handedOn 10 = .ok (.lload_n 0, 1) := by decide +kernel
theorem dX1_handedOn_11 : decode cX1_handedOn 11 = .ok (.lreturn, 1) := by decide +kernel
theorem dX1_handedOn_12 : decode cX1_handedOn 12 = .ok (.iload_n 2, 1) := by decide +kernel
theorem dX1_handedOn_13 : decode cX1_handedOn 13 = .ok (.iconst 2, 1) := by decide +kernel
theorem dX1_handedOn_14 : decode cX1_handedOn 14 = .ok (.if_icmp .ne 8, 3) := by decide +kernel
theorem dX1_handedOn_17 : decode cX1_handedOn 17 = .ok (.lload_n 0, 1) := by decide +kernel
theorem dX1_handedOn_18 : decode cX1_handedOn 18 = .ok (.invokestatic 257, 3) := by decide +kernel
theorem dX1_handedOn_21 : decode cX1_handedOn 21 = .ok (.lreturn, 1) := by decide +kernel
theorem dX1_handedOn_22 : decode cX1_handedOn 22 = .ok (.iload_n 3, 1) := by decide +kernel
theorem dX1_handedOn_23 : decode cX1_handedOn 23 = .ok (.iconst 2, 1) := by decide +kernel
theorem dX1_handedOn_24 : decode cX1_handedOn 24 = .ok (.if_icmp .ne 13, 3) := by decide +kernel
theorem dX1_handedOn_27 : decode cX1_handedOn 27 = .ok (.lload_n 0, 1) := by decide +kernel
theorem dX1_handedOn_28 : decode cX1_handedOn 28 = .ok (.bipush 23, 2) := by decide +kernel
theorem dX1_handedOn_30 : decode cX1_handedOn 30 = .ok (.bipush 127, 2) := by decide +kernel
theorem dX1_handedOn_32 : decode cX1_handedOn 32 = .ok (.iconst 2, 1) := by decide +kernel
theorem dX1_handedOn_33 : decode cX1_handedOn 33 = .ok (.invokestatic 260, 3) := by decide +kernel
theorem dX1_handedOn_36 : decode cX1_handedOn 36 = .ok (.lreturn, 1) := by decide +kernel
theorem dX1_handedOn_37 : decode cX1_handedOn 37 = .ok (.lload_n 0, 1) := by decide +kernel
theorem dX1_handedOn_38 : decode cX1_handedOn 38 = .ok (.bipush 52, 2) := by decide +kernel
theorem dX1_handedOn_40 : decode cX1_handedOn 40 = .ok (.sipush 1023, 3) := by decide +kernel
theorem dX1_handedOn_43 : decode cX1_handedOn 43 = .ok (.iconst 3, 1) := by decide +kernel
theorem dX1_handedOn_44 : decode cX1_handedOn 44 = .ok (.invokestatic 260, 3) := by decide +kernel
theorem dX1_handedOn_47 : decode cX1_handedOn 47 = .ok (.lreturn, 1) := by decide +kernel
set_option maxRecDepth 20000 in
theorem ggX1_wholeAsReal_X1_highestBit : GoodIn wsX1_wholeAsReal wsX1_highestBit := goodIn_r _ [4] (by decide +kernel) (by decide +kernel)
set_option maxRecDepth 20000 in
theorem gX1_wholeAsReal_X1_highestBit : GoodIn wsX1_wholeAsReal (va_wsS RX1 264 yX1_highestBit wsX1_highestBit) := goodIn_app (goodIn_of _ (by decide +kernel)) ggX1_wholeAsReal_X1_highestBit
set_option maxRecDepth 20000 in
theorem ggX1_wholeAsReal_X1_cutTo : GoodIn wsX1_wholeAsReal wsX1_cutTo := goodIn_r _ [7, 8, 9, 3, 10] (by decide +kernel) (by decide +kernel)
set_option maxRecDepth 20000 in
theorem gX1_wholeAsReal_X1_cutTo : GoodIn wsX1_wholeAsReal (va_wsS RX1 267 yX1_cutTo wsX1_cutTo) := goodIn_app (goodIn_of _ (by decide +kernel)) ggX1_wholeAsReal_X1_cutTo
set_option maxRecDepth 20000 in
theorem ggX1_wholeAsReal_X1_withSign : GoodIn wsX1_wholeAsReal wsX1_withSign := goodIn_r _ [13, 14, 15, 3, 16, 17, 18] (by decide +kernel) (by decide +kernel)
set_option maxRecDepth 20000 in
theorem gX1_wholeAsReal_X1_withSign : GoodIn wsX1_wholeAsReal (va_wsS RX1 213 yX1_withSign wsX1_withSign) := goodIn_app (goodIn_of _ (by decide +kernel)) ggX1_wholeAsReal_X1_withSign
theorem dX1_wholeAsReal_0 : decode cX1_wholeAsReal 0 = .ok (.lload_n 0, 1) := by decide +kernel
theorem dX1_wholeAsReal_1 : decode cX1_wholeAsReal 1 = .ok (.lconst 0, 1) := by decide +kernel
theorem dX1_wholeAsReal_2 : decode cX1_wholeAsReal 2 = .ok (.lcmp, 1) := by decide +kernel
theorem dX1_wholeAsReal_3 : decode cX1_wholeAsReal 3 = .ok (.ifCond .ne 5, 3) := by decide +kernel
theorem dX1_wholeAsReal_6 : decode cX1_wholeAsReal 6 = .ok (.lconst 0, 1) := by decide +kernel
theorem dX1_wholeAsReal_7 : decode cX1_wholeAsReal 7 = .ok (.lreturn, 1) := by decide +kernel
theorem dX1_wholeAsReal_8 : decode cX1_wholeAsReal 8 = .ok (.lload_n 0, 1) := by decide +kernel
theorem dX1_wholeAsReal_9 : decode cX1_wholeAsReal 9 = .ok (.lconst 0, 1) := by decide +kernel
theorem dX1_wholeAsReal_10 : decode cX1_wholeAsReal 10 = .ok (.lcmp, 1) := by decide +kernel
theorem dX1_wholeAsReal_11 : decode cX1_wholeAsReal 11 = .ok (.ifCond .ge 8, 3) := by decide +kernel
theorem dX1_wholeAsReal_14 : decode cX1_wholeAsReal 14 = .ok (.lload_n 0, 1) := by decide +kernel
theorem dX1_wholeAsReal_15 : decode cX1_wholeAsReal 15 = .ok (.lneg, 1) := by decide +kernel
theorem dX1_wholeAsReal_16 : decode cX1_wholeAsReal 16 = .ok (.goto 4, 3) := by decide +kernel
theorem dX1_wholeAsReal_19 : decode cX1_wholeAsReal 19 = .ok (.lload_n 0, 1) := by decide +kernel
theorem dX1_wholeAsReal_20 : decode cX1_wholeAsReal 20 = .ok (.lstore 5, 2) := by decide +kernel
theorem dX1_wholeAsReal_22 : decode cX1_wholeAsReal 22 = .ok (.lload 5, 2) := by decide +kernel
theorem dX1_wholeAsReal_24 : decode cX1_wholeAsReal 24 = .ok (.invokestatic 264, 3) := by decide +kernel
theorem dX1_wholeAsReal_27 : decode cX1_wholeAsReal 27 = .ok (.istore 7, 2) := by decide +kernel
theorem dX1_wholeAsReal_29 : decode cX1_wholeAsReal 29 = .ok (.lload 5, 2) := by decide +kernel
theorem dX1_wholeAsReal_31 : decode cX1_wholeAsReal 31 = .ok (.iload 7, 2) := by decide +kernel
theorem dX1_wholeAsReal_33 : decode cX1_wholeAsReal 33 = .ok (.iload_n 2, 1) := by decide +kernel
theorem dX1_wholeAsReal_34 : decode cX1_wholeAsReal 34 = .ok (.isub, 1) := by decide +kernel
theorem dX1_wholeAsReal_35 : decode cX1_wholeAsReal 35 = .ok (.invokestatic 267, 3) := by decide +kernel
theorem dX1_wholeAsReal_38 : decode cX1_wholeAsReal 38 = .ok (.lstore 8, 2) := by decide +kernel
theorem dX1_wholeAsReal_40 : decode cX1_wholeAsReal 40 = .ok (.lconst 1, 1) := by decide +kernel
theorem dX1_wholeAsReal_41 : decode cX1_wholeAsReal 41 = .ok (.iload_n 2, 1) := by decide +kernel
theorem dX1_wholeAsReal_42 : decode cX1_wholeAsReal 42 = .ok (.lshl, 1) := by decide +kernel
theorem dX1_wholeAsReal_43 : decode cX1_wholeAsReal 43 = .ok (.lstore 10, 2) := by decide +kernel
theorem dX1_wholeAsReal_45 : decode cX1_wholeAsReal 45 = .ok (.iload 7, 2) := by decide +kernel
theorem dX1_wholeAsReal_47 : decode cX1_wholeAsReal 47 = .ok (.iload_n 3, 1) := by decide +kernel
theorem dX1_wholeAsReal_48 : decode cX1_wholeAsReal 48 = .ok (.iadd, 1) := by decide +kernel
theorem dX1_wholeAsReal_49 : decode cX1_wholeAsReal 49 = .ok (.i2l, 1) := by decide +kernel
theorem dX1_wholeAsReal_50 : decode cX1_wholeAsReal 50 = .ok (.iload_n 2, 1) := by decide +kernel
theorem dX1_wholeAsReal_51 : decode cX1_wholeAsReal 51 = .ok (.lshl, 1) := by decide +kernel
theorem dX1_wholeAsReal_52 : decode cX1_wholeAsReal 52 = .ok (.lload 8, 2) := by decide +kernel
theorem dX1_wholeAsReal_54 : decode cX1_wholeAsReal 54 = .ok (.lload 10, 2) := by decide +kernel
theorem dX1_wholeAsReal_56 : decode cX1_wholeAsReal 56 = .ok (.lsub, 1) := by decide +kernel
theorem dX1_wholeAsReal_57 : decode cX1_wholeAsReal 57 = .ok (.ladd, 1) := by decide +kernel
theorem dX1_wholeAsReal_58 : decode cX1_wholeAsReal 58 = .ok (.lstore 12, 2) := by decide +kernel
theorem dX1_wholeAsReal_60 : decode cX1_wholeAsReal 60 = .ok (.lload 12, 2) := by decide +kernel
theorem dX1_wholeAsReal_62 : decode cX1_wholeAsReal 62 = .ok (.lload_n 0, 1) := by decide +kernel
theorem dX1_wholeAsReal_63 : decode cX1_wholeAsReal 63 = .ok (.lconst 0, 1) := by decide +kernel
theorem dX1_wholeAsReal_64 : decode cX1_wholeAsReal 64 = .ok (.lcmp, 1) := by decide +kernel
theorem dX1_wholeAsReal_65 : decode cX1_wholeAsReal 65 = .ok (.ifCond .ge 7, 3) := by decide +kernel
theorem dX1_wholeAsReal_68 : decode cX1_wholeAsReal 68 = .ok (.iconst 1, 1) := by decide +kernel
theorem dX1_wholeAsReal_69 : decode cX1_wholeAsReal 69 = .ok (.goto 4, 3) := by decide +kernel
theorem dX1_wholeAsReal_72 : decode cX1_wholeAsReal 72 = .ok (.iconst 0, 1) := by decide +kernel
theorem dX1_wholeAsReal_73 : decode cX1_wholeAsReal 73 = .ok (.iload 4, 2) := by decide +kernel
theorem dX1_wholeAsReal_75 : decode cX1_wholeAsReal 75 = .ok (.invokestatic 213, 3) := by decide +kernel
theorem dX1_wholeAsReal_78 : decode cX1_wholeAsReal 78 = .ok (.lreturn, 1) := by decide +kernel
theorem dX1_highestBit_0 : decode cX1_highestBit 0 = .ok (.bipush 63, 2) := by decide +kernel
theorem dX1_highestBit_2 : decode cX1_highestBit 2 = .ok (.istore_n 2, 1) := by decide +kernel
theorem dX1_highestBit_3 : decode cX1_highestBit 3 = .ok (.iload_n 2, 1) := by decide +kernel
theorem dX1_highestBit_4 : decode cX1_highestBit 4 = .ok (.ifCond .le 17, 3) := by decide +kernel
theorem dX1_highestBit_7 : decode cX1_highestBit 7 = .ok (.lload_n 0, 1) := by decide +kernel
theorem dX1_highestBit_8 : decode cX1_highestBit 8 = .ok (.iload_n 2, 1) := by decide +kernel
theorem dX1_highestBit_9 : decode cX1_highestBit 9 = .ok (.lushr, 1) := by decide +kernel
theorem dX1_highestBit_10 : decode cX1_highestBit 10 = .ok (.lconst 0, 1) := by decide +kernel
theorem dX1_highestBit_11 : decode cX1_highestBit 11 = .ok (.lcmp, 1) := by decide +kernel
theorem dX1_highestBit_12 : decode cX1_highestBit 12 = .ok (.ifCond .ne 9, 3) := by decide +kernel
theorem dX1_highestBit_15 : decode cX1_highestBit 15 = .ok (.iinc 2 (-1), 3) := by decide +kernel
theorem dX1_highestBit_18 : decode cX1_highestBit 18 = .ok (.goto (-15), 3) := by decide +kernel
theorem dX1_highestBit_21 : decode cX1_highestBit 21 = .ok (.iload_n 2, 1) := by decide +kernel
theorem dX1_highestBit_22 : decode cX1_highestBit 22 = .ok (.ireturn, 1) := by decide +kernel
set_option maxRecDepth 20000 in
theorem ggX1_cutTo_X1_roundsAway : GoodIn wsX1_cutTo wsX1_roundsAway := goodIn_r _ [4] (by decide +kernel) (by decide +kernel)
set_option maxRecDepth 20000 in
theorem gX1_cutTo_X1_roundsAway : GoodIn wsX1_cutTo (va_wsS RX1 253 yX1_roundsAway wsX1_roundsAway) := goodIn_app (goodIn_of _ (by decide +kernel)) ggX1_cutTo_X1_roundsAway
theorem dX1_cutTo_0 : decode cX1_cutTo 0 = .ok (.iload_n 2, 1) := by decide +kernel
theorem dX1_cutTo_1 : decode cX1_cutTo 1 = .ok (.ifCond .gt 8, 3) := by decide +kernel
theorem dX1_cutTo_4 : decode cX1_cutTo 4 = .ok (.lload_n 0, 1) := by decide +kernel
theorem dX1_cutTo_5 : decode cX1_cutTo 5 = .ok (.iload_n 2, 1) := by decide +kernel
theorem dX1_cutTo_6 : decode cX1_cutTo 6 = .ok (.ineg, 1) := by decide +kernel
theorem dX1_cutTo_7 : decode cX1_cutTo 7 = .ok (.lshl, 1) := by decide +kernel
theorem dX1_cutTo_8 : decode cX1_cutTo 8 = .ok (.lreturn, 1) := by decide +kernel
theorem dX1_cutTo_9 : decode cX1_cutTo 9 = .ok (.lload_n 0, 1) := by decide +kernel
theorem dX1_cutTo_10 : decode cX1_cutTo 10 = .ok (.iload_n 2, 1) := by decide +kernel
theorem dX1_cutTo_11 : decode cX1_cutTo 11 = .ok (.lushr, 1) := by decide +kernel
theorem dX1_cutTo_12 : decode cX1_cutTo 12 = .ok (.lstore_n 3, 1) := by decide +kernel
theorem dX1_cutTo_13 : decode cX1_cutTo 13 = .ok (.lload_n 0, 1) := by decide +kernel
theorem dX1_cutTo_14 : decode cX1_cutTo 14 = .ok (.lconst 1, 1) := by decide +kernel
theorem dX1_cutTo_15 : decode cX1_cutTo 15 = .ok (.iload_n 2, 1) := by decide +kernel
theorem dX1_cutTo_16 : decode cX1_cutTo 16 = .ok (.lshl, 1) := by decide +kernel
theorem dX1_cutTo_17 : decode cX1_cutTo 17 = .ok (.lconst 1, 1) := by decide +kernel
theorem dX1_cutTo_18 : decode cX1_cutTo 18 = .ok (.lsub, 1) := by decide +kernel
theorem dX1_cutTo_19 : decode cX1_cutTo 19 = .ok (.invokestatic 253, 3) := by decide +kernel
theorem dX1_cutTo_22 : decode cX1_cutTo 22 = .ok (.ifCond .eq 9, 3) := by decide +kernel
theorem dX1_cutTo_25 : decode cX1_cutTo 25 = .ok (.lload_n 3, 1) := by decide +kernel
theorem dX1_cutTo_26 : decode cX1_cutTo 26 = .ok (.lconst 1, 1) := by decide +kernel
theorem dX1_cutTo_27 : decode cX1_cutTo 27 = .ok (.ladd, 1) := by decide +kernel
theorem dX1_cutTo_28 : decode cX1_cutTo 28 = .ok (.goto 4, 3) := by decide +kernel
theorem dX1_cutTo_31 : decode cX1_cutTo 31 = .ok (.lload_n 3, 1) := by decide +kernel
theorem dX1_cutTo_32 : decode cX1_cutTo 32 = .ok (.lreturn, 1) := by decide +kernel
set_option maxRecDepth 20000 in
theorem ggX1_singleAsDouble_X1_sizeAsDouble : GoodIn wsX1_singleAsDouble wsX1_sizeAsDouble := goodIn_r _ [5, 6, 7, 8, 9, 10, 11, 4, 12, 13, 14, 15, 16, 17, 18, 19, 20, 21, 22, 23, 24, 25, 26, 27, 28, 29] (by decide +kernel) (by decide +kernel)
set_option maxRecDepth 20000 in
theorem gX1_singleAsDouble_X1_sizeAsDouble : GoodIn wsX1_singleAsDouble (va_wsS RX1 270 yX1_sizeAsDouble wsX1_sizeAsDouble) := goodIn_app (goodIn_of _ (by decide +kernel)) ggX1_singleAsDouble_X1_sizeAsDouble
set_option maxRecDepth 20000 in
theorem ggX1_singleAsDouble_X1_withSign : GoodIn wsX1_singleAsDouble wsX1_withSign := goodIn_r _ [24, 25, 26, 4, 27, 28, 29] (by decide +kernel) (by decide +kernel)
set_option maxRecDepth 20000 in
theorem gX1_singleAsDouble_X1_withSign : GoodIn wsX1_singleAsDouble (va_wsS RX1 213 yX1_withSign wsX1_withSign) := goodIn_app (goodIn_of _ (by decide +kernel)) ggX1_singleAsDouble_X1_withSign
theorem dX1_singleAsDouble_0 : decode cX1_singleAsDouble 0 = .ok (.lload_n 0, 1) := by decide +kernel
theorem dX1_singleAsDouble_1 : decode cX1_singleAsDouble 1 = .ok (.ldc2_w 173, 3) := by decide +kernel
theorem dX1_singleAsDouble_4 : decode cX1_singleAsDouble 4 = .ok (.land, 1) := by decide +kernel
theorem dX1_singleAsDouble_5 : decode cX1_singleAsDouble 5 = .ok (.invokestatic 270, 3) := by decide +kernel
theorem dX1_singleAsDouble_8 : decode cX1_singleAsDouble 8 = .ok (.lload_n 0, 1) := by decide +kernel
theorem dX1_singleAsDouble_9 : decode cX1_singleAsDouble 9 = .ok (.lconst 0, 1) := by decide +kernel
theorem dX1_singleAsDouble_10 : decode cX1_singleAsDouble 10 = .ok (.lcmp, 1) := by decide +kernel
theorem dX1_singleAsDouble_11 : decode cX1_singleAsDouble 11 = .ok (.ifCond .ge 7, 3) := by decide +kernel
theorem dX1_singleAsDouble_14 : decode cX1_singleAsDouble 14 = .ok (.iconst 1, 1) := by decide +kernel
theorem dX1_singleAsDouble_15 : decode cX1_singleAsDouble 15 = .ok (.goto 4, 3) := by decide +kernel
theorem dX1_singleAsDouble_18 : decode cX1_singleAsDouble 18 = .ok (.iconst 0, 1) := by decide +kernel
theorem dX1_singleAsDouble_19 : decode cX1_singleAsDouble 19 = .ok (.iconst 3, 1) := by decide +kernel
theorem dX1_singleAsDouble_20 : decode cX1_singleAsDouble 20 = .ok (.invokestatic 213, 3) := by decide +kernel
theorem dX1_singleAsDouble_23 : decode cX1_singleAsDouble 23 = .ok (.lreturn, 1) := by decide +kernel
set_option maxRecDepth 20000 in
theorem ggX1_sizeAsDouble_X1_wholeAsReal : GoodIn wsX1_sizeAsDouble wsX1_wholeAsReal := goodIn_r _ [8, 9, 10, 7, 11, 12, 13, 14, 15, 16, 17, 18, 19, 20, 21, 22, 23, 24, 25] (by decide +kernel) (by decide +kernel)
set_option maxRecDepth 20000 in
theorem gX1_sizeAsDouble_X1_wholeAsReal : GoodIn wsX1_sizeAsDouble (va_wsS RX1 260 yX1_wholeAsReal wsX1_wholeAsReal) := goodIn_app (goodIn_of _ (by decide +kernel)) ggX1_sizeAsDouble_X1_wholeAsReal
theorem dX1_sizeAsDouble_0 : decode cX1_sizeAsDouble 0 = .ok (.lload_n 0, 1) := by decide +kernel
theorem dX1_sizeAsDouble_1 : decode cX1_sizeAsDouble 1 = .ok (.lconst 0, 1) := by decide +kernel
theorem dX1_sizeAsDouble_2 : decode cX1_sizeAsDouble 2 = .ok (.lcmp, 1) := by decide +kernel
theorem dX1_sizeAsDouble_3 : decode cX1_sizeAsDouble 3 = .ok (.ifCond .ne 5, 3) := by decide +kernel
theorem dX1_sizeAsDouble_6 : decode cX1_sizeAsDouble 6 = .ok (.lconst 0, 1) := by decide +kernel
theorem dX1_sizeAsDouble_7 : decode cX1_sizeAsDouble 7 = .ok (.lreturn, 1) := by decide +kernel
theorem dX1_sizeAsDouble_8 : decode cX1_sizeAsDouble 8 = .ok (.lload_n 0, 1) := by decide +kernel
theorem dX1_sizeAsDouble_9 : decode cX1_sizeAsDouble 9 = .ok (.ldc2_w 175, 3) := by decide +kernel
theorem dX1_sizeAsDouble_12 : decode cX1_sizeAsDouble 12 = .ok (.lcmp, 1) := by decide +kernel
theorem dX1_sizeAsDouble_13 : decode cX1_sizeAsDouble 13 = .ok (.ifCond .ne 7, 3) := by decide +kernel
theorem dX1_sizeAsDouble_16 : decode cX1_sizeAsDouble 16 = .ok (.ldc2_w 169, 3) := by decide +kernel
theorem dX1_sizeAsDouble_19 : decode cX1_sizeAsDouble 19 = .ok (.lreturn, 1) := by decide +kernel
theorem dX1_sizeAsDouble_20 : decode cX1_sizeAsDouble 20 = .ok (.lload_n 0, 1) := by decide +kernel
theorem dX1_sizeAsDouble_21 : decode cX1_sizeAsDouble 21 = .ok (.bipush 23, 2) := by decide +kernel
theorem dX1_sizeAsDouble_23 : decode cX1_sizeAsDouble 23 = .ok (.lushr, 1) := by decide +kernel
theorem dX1_sizeAsDouble_24 : decode cX1_sizeAsDouble 24 = .ok (.lconst 0, 1) := by decide +kernel
theorem dX1_sizeAsDouble_25 : decode cX1_sizeAsDouble 25 = .ok (.lcmp, 1) := by decide +kernel
theorem dX1_sizeAsDouble_26 : decode cX1_sizeAsDouble 26 = .ok (.ifCond .ne 20, 3) := by decide +kernel
theorem dX1_sizeAsDouble_29 : decode cX1_sizeAsDouble 29 = .ok (.lload_n 0, 1) := by decide +kernel
theorem dX1_sizeAsDouble_30 : decode cX1_sizeAsDouble 30 = .ok (.bipush 52, 2) := by decide +kernel
theorem dX1_sizeAsDouble_32 : decode cX1_sizeAsDouble 32 = .ok (.sipush 1023, 3) := by decide +kernel
theorem dX1_sizeAsDouble_35 : decode cX1_sizeAsDouble 35 = .ok (.iconst 3, 1) := by decide +kernel
theorem dX1_sizeAsDouble_36 : decode cX1_sizeAsDouble 36 = .ok (.invokestatic 260, 3) := by decide +kernel
theorem dX1_sizeAsDouble_39 : decode cX1_sizeAsDouble 39 = .ok (.lstore_n 2, 1) := by decide +kernel
theorem dX1_sizeAsDouble_40 : decode cX1_sizeAsDouble 40 = .ok (.lload_n 2, 1) := by decide +kernel
theorem dX1_sizeAsDouble_41 : decode cX1_sizeAsDouble 41 = .ok (.ldc2_w 273, 3) := by decide +kernel
theorem dX1_sizeAsDouble_44 : decode cX1_sizeAsDouble 44 = .ok (.lsub, 1) := by decide +kernel
theorem dX1_sizeAsDouble_45 : decode cX1_sizeAsDouble 45 = .ok (.lreturn, 1) := by decide +kernel
theorem dX1_sizeAsDouble_46 : decode cX1_sizeAsDouble 46 = .ok (.lload_n 0, 1) := by decide +kernel
theorem dX1_sizeAsDouble_47 : decode cX1_sizeAsDouble 47 = .ok (.bipush 29, 2) := by decide +kernel
theorem dX1_sizeAsDouble_49 : decode cX1_sizeAsDouble 49 = .ok (.lshl, 1) := by decide +kernel
theorem dX1_sizeAsDouble_50 : decode cX1_sizeAsDouble 50 = .ok (.lstore_n 2, 1) := by decide +kernel
theorem dX1_sizeAsDouble_51 : decode cX1_sizeAsDouble 51 = .ok (.lload_n 2, 1) := by decide +kernel
theorem dX1_sizeAsDouble_52 : decode cX1_sizeAsDouble 52 = .ok (.ldc2_w 275, 3) := by decide +kernel
theorem dX1_sizeAsDouble_55 : decode cX1_sizeAsDouble 55 = .ok (.ladd, 1) := by decide +kernel
theorem dX1_sizeAsDouble_56 : decode cX1_sizeAsDouble 56 = .ok (.lreturn, 1) := by decide +kernel
