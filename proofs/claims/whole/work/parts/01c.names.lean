theorem dX2_commonDivisor_45 : decode cX2_commonDivisor 45 = .ok (.lload 4, 2) := by decide +kernel
theorem dX2_commonDivisor_47 : decode cX2_commonDivisor 47 = .ok (.lreturn, 1) := by decide +kernel
theorem dX3_init_0 : decode cX3_init 0 = .ok (.aload_n 0, 1) := by decide +kernel
theorem dX3_init_1 : decode cX3_init 1 = .ok (.invokespecial 5, 3) := by decide +kernel
theorem dX3_init_4 : decode cX3_init 4 = .ok (.aload_n 0, 1) := by decide +kernel
theorem dX3_init_5 : decode cX3_init 5 = .ok (.aload_n 1, 1) := by decide +kernel
theorem dX3_init_6 : decode cX3_init 6 = .ok (.putfield 11, 3) := by decide +kernel
theorem dX3_init_9 : decode cX3_init 9 = .ok (.aload_n 0, 1) := by decide +kernel
theorem dX3_init_10 : decode cX3_init 10 = .ok (.bipush 6, 2) := by decide +kernel
theorem dX3_init_12 : decode cX3_init 12 = .ok (.newarray .int, 2) := by decide +kernel
theorem dX3_init_14 : decode cX3_init 14 = .ok (.putfield 15, 3) := by decide +kernel
theorem dX3_init_17 : decode cX3_init 17 = .ok (.aload_n 0, 1) := by decide +kernel
theorem dX3_init_18 : decode cX3_init 18 = .ok (.bipush 36, 2) := by decide +kernel
theorem dX3_init_20 : decode cX3_init 20 = .ok (.newarray .int, 2) := by decide +kernel
theorem dX3_init_22 : decode cX3_init 22 = .ok (.putfield 19, 3) := by decide +kernel
theorem dX3_init_25 : decode cX3_init 25 = .ok (.aload_n 0, 1) := by decide +kernel
theorem dX3_init_26 : decode cX3_init 26 = .ok (.sipush 1014, 3) := by decide +kernel
theorem dX3_init_29 : decode cX3_init 29 = .ok (.newarray .long, 2) := by decide +kernel
theorem dX3_init_31 : decode cX3_init 31 = .ok (.putfield 22, 3) := by decide +kernel
theorem dX3_init_34 : decode cX3_init 34 = .ok (.aload_n 0, 1) := by decide +kernel
theorem dX3_init_35 : decode cX3_init 35 = .ok (.sipush 1014, 3) := by decide +kernel
theorem dX3_init_38 : decode cX3_init 38 = .ok (.newarray .int, 2) := by decide +kernel
theorem dX3_init_40 : decode cX3_init 40 = .ok (.putfield 26, 3) := by decide +kernel
theorem dX3_init_43 : decode cX3_init 43 = .ok (.aload_n 0, 1) := by decide +kernel
theorem dX3_init_44 : decode cX3_init 44 = .ok (.sipush 1014, 3) := by decide +kernel
theorem dX3_init_47 : decode cX3_init 47 = .ok (.newarray .int, 2) := by decide +kernel
theorem dX3_init_49 : decode cX3_init 49 = .ok (.putfield 29, 3) := by decide +kernel
theorem dX3_init_52 : decode cX3_init 52 = .ok (.aload_n 0, 1) := by decide +kernel
theorem dX3_init_53 : decode cX3_init 53 = .ok (.sipush 1014, 3) := by decide +kernel
theorem dX3_init_56 : decode cX3_init 56 = .ok (.newarray .long, 2) := by decide +kernel
theorem dX3_init_58 : decode cX3_init 58 = .ok (.putfield 32, 3) := by decide +kernel
theorem dX3_init_61 : decode cX3_init 61 = .ok (.return_, 1) := by decide +kernel
theorem dX3_forget_0 : decode cX3_forget 0 = .ok (.aload_n 0, 1) := by decide +kernel
theorem dX3_forget_1 : decode cX3_forget 1 = .ok (.iconst 0, 1) := by decide +kernel
theorem dX3_forget_2 : decode cX3_forget 2 = .ok (.putfield 35, 3) := by decide +kernel
theorem dX3_forget_5 : decode cX3_forget 5 = .ok (.return_, 1) := by decide +kernel
set_option maxRecDepth 20000 in
theorem ggX3_startAnew_X3_setLevel : GoodIn wsX3_startAnew wsX3_setLevel := goodIn_r _ [6, 7, 8, 9, 10, 11, 12, 13, 14, 15, 16, 17, 18, 19, 20, 21] (by decide +kernel) (by decide +kernel)
set_option maxRecDepth 20000 in
theorem gX3_startAnew_X3_setLevel : GoodIn wsX3_startAnew (wsV RX3 43 RX3 yX3_setLevel wsX3_setLevel) := goodIn_app (goodIn_of _ (by decide +kernel)) ggX3_startAnew_X3_setLevel
theorem dX3_startAnew_0 : decode cX3_startAnew 0 = .ok (.aload_n 0, 1) := by decide +kernel
theorem dX3_startAnew_1 : decode cX3_startAnew 1 = .ok (.iload_n 1, 1) := by decide +kernel
theorem dX3_startAnew_2 : decode cX3_startAnew 2 = .ok (.putfield 39, 3) := by decide +kernel
theorem dX3_startAnew_5 : decode cX3_startAnew 5 = .ok (.iconst 0, 1) := by decide +kernel
theorem dX3_startAnew_6 : decode cX3_startAnew 6 = .ok (.istore_n 2, 1) := by decide +kernel
theorem dX3_startAnew_7 : decode cX3_startAnew 7 = .ok (.iload_n 2, 1) := by decide +kernel
theorem dX3_startAnew_8 : decode cX3_startAnew 8 = .ok (.iload_n 1, 1) := by decide +kernel
theorem dX3_startAnew_9 : decode cX3_startAnew 9 = .ok (.if_icmp .ge 16, 3) := by decide +kernel
theorem dX3_startAnew_12 : decode cX3_startAnew 12 = .ok (.aload_n 0, 1) := by decide +kernel
theorem dX3_startAnew_13 : decode cX3_startAnew 13 = .ok (.iload_n 2, 1) := by decide +kernel
theorem dX3_startAnew_14 : decode cX3_startAnew 14 = .ok (.iconst 0, 1) := by decide +kernel
theorem dX3_startAnew_15 : decode cX3_startAnew 15 = .ok (.iconst 0, 1) := by decide +kernel
theorem dX3_startAnew_16 : decode cX3_startAnew 16 = .ok (.invokevirtual 43, 3) := by decide +kernel
theorem dX3_startAnew_19 : decode cX3_startAnew 19 = .ok (.iinc 2 1, 3) := by decide +kernel
theorem dX3_startAnew_22 : decode cX3_startAnew 22 = .ok (.goto (-15), 3) := by decide +kernel
theorem dX3_startAnew_25 : decode cX3_startAnew 25 = .ok (.return_, 1) := by decide +kernel
set_option maxRecDepth 20000 in
theorem ggX3_has_X6_within : GoodIn wsX3_has wsX6_within := goodIn_r _ [4] (by decide +kernel) (by decide +kernel)
set_option maxRecDepth 20000 in
theorem gX3_has_X6_within_n47 : GoodIn wsX3_has (wsX6_within) := ggX3_has_X6_within
theorem dX3_has_0 : decode cX3_has 0 = .ok (.iload_n 1, 1) := by decide +kernel
theorem dX3_has_1 : decode cX3_has 1 = .ok (.iconst 0, 1) := by decide +kernel
theorem dX3_has_2 : decode cX3_has 2 = .ok (.aload_n 0, 1) := by decide +kernel
theorem dX3_has_3 : decode cX3_has 3 = .ok (.getfield 39, 3) := by decide +kernel
theorem dX3_has_6 : decode cX3_has 6 = .ok (.iconst 1, 1) := by decide +kernel
theorem dX3_has_7 : decode cX3_has 7 = .ok (.isub, 1) := by decide +kernel
theorem dX3_has_8 : decode cX3_has 8 = .ok (.invokestatic 47, 3) := by decide +kernel
theorem dX3_has_11 : decode cX3_has 11 = .ok (.ireturn, 1) := by decide +kernel
set_option maxRecDepth 20000 in
theorem ggX3_hasState_X6_within : GoodIn wsX3_hasState wsX6_within := goodIn_r _ [3] (by decide +kernel) (by decide +kernel)
set_option maxRecDepth 20000 in
theorem gX3_hasState_X6_within_n47 : GoodIn wsX3_hasState (wsX6_within) := ggX3_hasState_X6_within
set_option maxRecDepth 20000 in
theorem ggX3_hasState_X3_has : GoodIn wsX3_hasState wsX3_has := goodIn_r _ [8, 9, 1, 2, 3, 10, 11, 12, 13, 14, 15, 16, 17, 18] (by decide +kernel) (by decide +kernel)
set_option maxRecDepth 20000 in
theorem gX3_hasState_X3_has : GoodIn wsX3_hasState (wsV RX3 51 RX3 yX3_has wsX3_has) := goodIn_app (goodIn_of _ (by decide +kernel)) ggX3_hasState_X3_has
theorem dX3_hasState_0 : decode cX3_hasState 0 = .ok (.iload_n 1, 1) := by decide +kernel
theorem dX3_hasState_1 : decode cX3_hasState 1 = .ok (.iconst 0, 1) := by decide +kernel
theorem dX3_hasState_2 : decode cX3_hasState 2 = .ok (.bipush 12, 2) := by decide +kernel
theorem dX3_hasState_4 : decode cX3_hasState 4 = .ok (.invokestatic 47, 3) := by decide +kernel
theorem dX3_hasState_7 : decode cX3_hasState 7 = .ok (.ifCond .eq 24, 3) := by decide +kernel
theorem dX3_hasState_10 : decode cX3_hasState 10 = .ok (.iload_n 2, 1) := by decide +kernel
theorem dX3_hasState_11 : decode cX3_hasState 11 = .ok (.iconst 0, 1) := by decide +kernel
theorem dX3_hasState_12 : decode cX3_hasState 12 = .ok (.iload_n 1, 1) := by decide +kernel
theorem dX3_hasState_13 : decode cX3_hasState 13 = .ok (.invokestatic 47, 3) := by decide +kernel
theorem dX3_hasState_16 : decode cX3_hasState 16 = .ok (.ifCond .eq 15, 3) := by decide +kernel
theorem dX3_hasState_19 : decode cX3_hasState 19 = .ok (.aload_n 0, 1) := by decide +kernel
theorem dX3_hasState_20 : decode cX3_hasState 20 = .ok (.iload_n 3, 1) := by decide +kernel
theorem dX3_hasState_21 : decode cX3_hasState 21 = .ok (.invokevirtual 51, 3) := by decide +kernel
theorem dX3_hasState_24 : decode cX3_hasState 24 = .ok (.ifCond .eq 7, 3) := by decide +kernel
theorem dX3_hasState_27 : decode cX3_hasState 27 = .ok (.iconst 1, 1) := by decide +kernel
theorem dX3_hasState_28 : decode cX3_hasState 28 = .ok (.goto 4, 3) := by decide +kernel
theorem dX3_hasState_31 : decode cX3_hasState 31 = .ok (.iconst 0, 1) := by decide +kernel
theorem dX3_hasState_32 : decode cX3_hasState 32 = .ok (.ireturn, 1) := by decide +kernel
theorem dX3_canGo_0 : decode cX3_canGo 0 = .ok (.iload_n 1, 1) := by decide +kernel
theorem dX3_canGo_1 : decode cX3_canGo 1 = .ok (.ifCond .ge 5, 3) := by decide +kernel
theorem dX3_canGo_4 : decode cX3_canGo 4 = .ok (.iconst 0, 1) := by decide +kernel
theorem dX3_canGo_5 : decode cX3_canGo 5 = .ok (.ireturn, 1) := by decide +kernel
theorem dX3_canGo_6 : decode cX3_canGo 6 = .ok (.iload_n 1, 1) := by decide +kernel
theorem dX3_canGo_7 : decode cX3_canGo 7 = .ok (.istore_n 2, 1) := by decide +kernel
theorem dX3_canGo_8 : decode cX3_canGo 8 = .ok (.iconst 0, 1) := by decide +kernel
theorem dX3_canGo_9 : decode cX3_canGo 9 = .ok (.istore_n 3, 1) := by decide +kernel
theorem dX3_canGo_10 : decode cX3_canGo 10 = .ok (.iconst 0, 1) := by decide +kernel
theorem dX3_canGo_11 : decode cX3_canGo 11 = .ok (.istore 4, 2) := by decide +kernel
theorem dX3_canGo_13 : decode cX3_canGo 13 = .ok (.iload 4, 2) := by decide +kernel
theorem dX3_canGo_15 : decode cX3_canGo 15 = .ok (.aload_n 0, 1) := by decide +kernel
theorem dX3_canGo_16 : decode cX3_canGo 16 = .ok (.getfield 39, 3) := by decide +kernel
theorem dX3_canGo_19 : decode cX3_canGo 19 = .ok (.if_icmp .ge 21, 3) := by decide +kernel
theorem dX3_canGo_22 : decode cX3_canGo 22 = .ok (.iload_n 3, 1) := by decide +kernel
theorem dX3_canGo_23 : decode cX3_canGo 23 = .ok (.iload_n 2, 1) := by decide +kernel
theorem dX3_canGo_24 : decode cX3_canGo 24 = .ok (.bipush 10, 2) := by decide +kernel
theorem dX3_canGo_26 : decode cX3_canGo 26 = .ok (.irem, 1) := by decide +kernel
theorem dX3_canGo_27 : decode cX3_canGo 27 = .ok (.iadd, 1) := by decide +kernel
theorem dX3_canGo_28 : decode cX3_canGo 28 = .ok (.istore_n 3, 1) := by decide +kernel
theorem dX3_canGo_29 : decode cX3_canGo 29 = .ok (.iload_n 2, 1) := by decide +kernel
theorem dX3_canGo_30 : decode cX3_canGo 30 = .ok (.bipush 10, 2) := by decide +kernel
theorem dX3_canGo_32 : decode cX3_canGo 32 = .ok (.idiv, 1) := by decide +kernel
theorem dX3_canGo_33 : decode cX3_canGo 33 = .ok (.istore_n 2, 1) := by decide +kernel
theorem dX3_canGo_34 : decode cX3_canGo 34 = .ok (.iinc 4 1, 3) := by decide +kernel
theorem dX3_canGo_37 : decode cX3_canGo 37 = .ok (.goto (-24), 3) := by decide +kernel
theorem dX3_canGo_40 : decode cX3_canGo 40 = .ok (.iload_n 2, 1) := by decide +kernel
theorem dX3_canGo_41 : decode cX3_canGo 41 = .ok (.ifCond .ne 13, 3) := by decide +kernel
theorem dX3_canGo_44 : decode cX3_canGo 44 = .ok (.iload_n 3, 1) := by decide +kernel
theorem dX3_canGo_45 : decode cX3_canGo 45 = .ok (.bipush 10, 2) := by decide +kernel
theorem dX3_canGo_47 : decode cX3_canGo 47 = .ok (.if_icmp .gt 7, 3) := by decide +kernel
theorem dX3_canGo_50 : decode cX3_canGo 50 = .ok (.iconst 1, 1) := by decide +kernel
theorem dX3_canGo_51 : decode cX3_canGo 51 = .ok (.goto 4, 3) := by decide +kernel
theorem dX3_canGo_54 : decode cX3_canGo 54 = .ok (.iconst 0, 1) := by decide +kernel
theorem dX3_canGo_55 : decode cX3_canGo 55 = .ok (.ireturn, 1) := by decide +kernel
set_option maxRecDepth 20000 in
theorem ggX3_setLevel_X6_within : GoodIn wsX3_setLevel wsX6_within := goodIn_r _ [6] (by decide +kernel) (by decide +kernel)
set_option maxRecDepth 20000 in
theorem gX3_setLevel_X6_within_n47 : GoodIn wsX3_setLevel (wsX6_within) := ggX3_setLevel_X6_within
theorem dX3_setLevel_0 : decode cX3_setLevel 0 = .ok (.iload_n 1, 1) := by decide +kernel
theorem dX3_setLevel_1 : decode cX3_setLevel 1 = .ok (.iconst 0, 1) := by decide +kernel
theorem dX3_setLevel_2 : decode cX3_setLevel 2 = .ok (.iconst 5, 1) := by decide +kernel
theorem dX3_setLevel_3 : decode cX3_setLevel 3 = .ok (.invokestatic 47, 3) := by decide +kernel
theorem dX3_setLevel_6 : decode cX3_setLevel 6 = .ok (.ifCond .ne 4, 3) := by decide +kernel
theorem dX3_setLevel_9 : decode cX3_setLevel 9 = .ok (.return_, 1) := by decide +kernel
theorem dX3_setLevel_10 : decode cX3_setLevel 10 = .ok (.aload_n 0, 1) := by decide +kernel
theorem dX3_setLevel_11 : decode cX3_setLevel 11 = .ok (.getfield 15, 3) := by decide +kernel
theorem dX3_setLevel_14 : decode cX3_setLevel 14 = .ok (.iload_n 1, 1) := by decide +kernel
theorem dX3_setLevel_15 : decode cX3_setLevel 15 = .ok (.iload_n 2, 1) := by decide +kernel
theorem dX3_setLevel_16 : decode cX3_setLevel 16 = .ok (.iastore, 1) := by decide +kernel
theorem dX3_setLevel_17 : decode cX3_setLevel 17 = .ok (.iload_n 3, 1) := by decide +kernel
theorem dX3_setLevel_18 : decode cX3_setLevel 18 = .ok (.istore 4, 2) := by decide +kernel
theorem dX3_setLevel_20 : decode cX3_setLevel 20 = .ok (.bipush 10, 2) := by decide +kernel
theorem dX3_setLevel_22 : decode cX3_setLevel 22 = .ok (.istore 5, 2) := by decide +kernel
theorem dX3_setLevel_24 : decode cX3_setLevel 24 = .ok (.iload_n 1, 1) := by decide +kernel
theorem dX3_setLevel_25 : decode cX3_setLevel 25 = .ok (.bipush 6, 2) := by decide +kernel
theorem dX3_setLevel_27 : decode cX3_setLevel 27 = .ok (.imul, 1) := by decide +kernel
theorem dX3_setLevel_28 : decode cX3_setLevel 28 = .ok (.istore 6, 2) := by decide +kernel
theorem dX3_setLevel_30 : decode cX3_setLevel 30 = .ok (.iconst 0, 1) := by decide +kernel
theorem dX3_setLevel_31 : decode cX3_setLevel 31 = .ok (.istore 7, 2) := by decide +kernel
theorem dX3_setLevel_33 : decode cX3_setLevel 33 = .ok (.iload 7, 2) := by decide +kernel
theorem dX3_setLevel_35 : decode cX3_setLevel 35 = .ok (.bipush 6, 2) := by decide +kernel
theorem dX3_setLevel_37 : decode cX3_setLevel 37 = .ok (.if_icmp .ge 41, 3) := by decide +kernel
theorem dX3_setLevel_40 : decode cX3_setLevel 40 = .ok (.aload_n 0, 1) := by decide +kernel
theorem dX3_setLevel_41 : decode cX3_setLevel 41 = .ok (.getfield 19, 3) := by decide +kernel
theorem dX3_setLevel_44 : decode cX3_setLevel 44 = .ok (.iload 6, 2) := by decide +kernel
theorem dX3_setLevel_46 : decode cX3_setLevel 46 = .ok (.iload 7, 2) := by decide +kernel
theorem dX3_setLevel_48 : decode cX3_setLevel 48 = .ok (.iadd, 1) := by decide +kernel
theorem dX3_setLevel_49 : decode cX3_setLevel 49 = .ok (.iload 4, 2) := by decide +kernel
theorem dX3_setLevel_51 : decode cX3_setLevel 51 = .ok (.bipush 10, 2) := by decide +kernel
theorem dX3_setLevel_53 : decode cX3_setLevel 53 = .ok (.irem, 1) := by decide +kernel
theorem dX3_setLevel_54 : decode cX3_setLevel 54 = .ok (.iastore, 1) := by decide +kernel
theorem dX3_setLevel_55 : decode cX3_setLevel 55 = .ok (.iload 5, 2) := by decide +kernel
theorem dX3_setLevel_57 : decode cX3_setLevel 57 = .ok (.iload 4, 2) := by decide +kernel
theorem dX3_setLevel_59 : decode cX3_setLevel 59 = .ok (.bipush 10, 2) := by decide +kernel
theorem dX3_setLevel_61 : decode cX3_setLevel 61 = .ok (.irem, 1) := by decide +kernel
theorem dX3_setLevel_62 : decode cX3_setLevel 62 = .ok (.isub, 1) := by decide +kernel
theorem dX3_setLevel_63 : decode cX3_setLevel 63 = .ok (.istore 5, 2) := by decide +kernel
theorem dX3_setLevel_65 : decode cX3_setLevel 65 = .ok (.iload 4, 2) := by decide +kernel
theorem dX3_setLevel_67 : decode cX3_setLevel 67 = .ok (.bipush 10, 2) := by decide +kernel
theorem dX3_setLevel_69 : decode cX3_setLevel 69 = .ok (.idiv, 1) := by decide +kernel
theorem dX3_setLevel_70 : decode cX3_setLevel 70 = .ok (.istore 4, 2) := by decide +kernel
theorem dX3_setLevel_72 : decode cX3_setLevel 72 = .ok (.iinc 7 1, 3) := by decide +kernel
theorem dX3_setLevel_75 : decode cX3_setLevel 75 = .ok (.goto (-42), 3) := by decide +kernel
theorem dX3_setLevel_78 : decode cX3_setLevel 78 = .ok (.aload_n 0, 1) := by decide +kernel
theorem dX3_setLevel_79 : decode cX3_setLevel 79 = .ok (.getfield 19, 3) := by decide +kernel
theorem dX3_setLevel_82 : decode cX3_setLevel 82 = .ok (.iload 6, 2) := by decide +kernel
theorem dX3_setLevel_84 : decode cX3_setLevel 84 = .ok (.dup2, 1) := by decide +kernel
theorem dX3_setLevel_85 : decode cX3_setLevel 85 = .ok (.iaload, 1) := by decide +kernel
theorem dX3_setLevel_86 : decode cX3_setLevel 86 = .ok (.iload 5, 2) := by decide +kernel
theorem dX3_setLevel_88 : decode cX3_setLevel 88 = .ok (.iadd, 1) := by decide +kernel
theorem dX3_setLevel_89 : decode cX3_setLevel 89 = .ok (.iastore, 1) := by decide +kernel
theorem dX3_setLevel_90 : decode cX3_setLevel 90 = .ok (.aload_n 0, 1) := by decide +kernel
theorem dX3_setLevel_91 : decode cX3_setLevel 91 = .ok (.iconst 0, 1) := by decide +kernel
theorem dX3_setLevel_92 : decode cX3_setLevel 92 = .ok (.putfield 35, 3) := by decide +kernel
theorem dX3_setLevel_95 : decode cX3_setLevel 95 = .ok (.return_, 1) := by decide +kernel
set_option maxRecDepth 20000 in
theorem ggX3_meanOf_X3_settleAll : GoodIn wsX3_meanOf wsX3_settleAll := goodIn_r _ [6, 7, 8, 9, 10, 11, 5, 12, 1, 13, 14, 15, 16, 17, 18, 19, 20, 21, 22, 23, 24, 25, 26, 27, 28, 29, 30, 31, 32, 33, 34, 35, 36, 37, 38, 39, 40, 41, 42, 43, 44, 45, 46, 47, 48, 49, 50, 51, 52, 53, 54, 55, 56, 57, 58, 59, 60, 61, 62, 63, 64, 65, 66, 67, 68, 69] (by decide +kernel) (by decide +kernel)
set_option maxRecDepth 20000 in
theorem gX3_meanOf_X3_settleAll : GoodIn wsX3_meanOf (wsV RX3 55 RX3 yX3_settleAll wsX3_settleAll) := goodIn_app (goodIn_of _ (by decide +kernel)) ggX3_meanOf_X3_settleAll
set_option maxRecDepth 20000 in
theorem ggX3_meanOf_X3_read : GoodIn wsX3_meanOf wsX3_read := goodIn_r _ [37, 16, 17, 5, 18, 32, 33, 34] (by decide +kernel) (by decide +kernel)
set_option maxRecDepth 20000 in
theorem gX3_meanOf_X3_read : GoodIn wsX3_meanOf (va_wsS RX3 58 yX3_read wsX3_read) := goodIn_app (goodIn_of _ (by decide +kernel)) ggX3_meanOf_X3_read
theorem dX3_meanOf_0 : decode cX3_meanOf 0 = .ok (.aload_n 0, 1) := by decide +kernel
theorem dX3_meanOf_1 : decode cX3_meanOf 1 = .ok (.invokevirtual 55, 3) := by decide +kernel
theorem dX3_meanOf_4 : decode cX3_meanOf 4 = .ok (.aload_n 0, 1) := by decide +kernel
theorem dX3_meanOf_5 : decode cX3_meanOf 5 = .ok (.getfield 22, 3) := by decide +kernel
theorem dX3_meanOf_8 : decode cX3_meanOf 8 = .ok (.iload_n 1, 1) := by decide +kernel
theorem dX3_meanOf_9 : decode cX3_meanOf 9 = .ok (.iload_n 2, 1) := by decide +kernel
theorem dX3_meanOf_10 : decode cX3_meanOf 10 = .ok (.iload_n 3, 1) := by decide +kernel
theorem dX3_meanOf_11 : decode cX3_meanOf 11 = .ok (.invokestatic 58, 3) := by decide +kernel
theorem dX3_meanOf_14 : decode cX3_meanOf 14 = .ok (.lreturn, 1) := by decide +kernel
set_option maxRecDepth 20000 in
theorem ggX3_ruleOf_X3_settleAll : GoodIn wsX3_ruleOf wsX3_settleAll := goodIn_r _ [6, 7, 8, 9, 10, 11, 5, 12, 13, 1, 14, 15, 16, 17, 18, 19, 20, 21, 22, 23, 24, 25, 26, 27, 28, 29, 30, 31, 32, 33, 34, 35, 36, 37, 38, 39, 40, 41, 42, 43, 44, 45, 46, 47, 48, 49, 50, 51, 52, 53, 54, 55, 56, 57, 58, 59, 60, 61, 62, 63, 64, 65, 66, 67, 68, 69] (by decide +kernel) (by decide +kernel)
set_option maxRecDepth 20000 in
theorem gX3_ruleOf_X3_settleAll : GoodIn wsX3_ruleOf (wsV RX3 55 RX3 yX3_settleAll wsX3_settleAll) := goodIn_app (goodIn_of _ (by decide +kernel)) ggX3_ruleOf_X3_settleAll
set_option maxRecDepth 20000 in
theorem ggX3_ruleOf_X3_readInt : GoodIn wsX3_ruleOf wsX3_readInt := goodIn_r _ [58, 16, 17, 5, 18, 32, 33, 34] (by decide +kernel) (by decide +kernel)
set_option maxRecDepth 20000 in
theorem gX3_ruleOf_X3_readInt : GoodIn wsX3_ruleOf (va_wsS RX3 62 yX3_readInt wsX3_readInt) := goodIn_app (goodIn_of _ (by decide +kernel)) ggX3_ruleOf_X3_readInt
theorem dX3_ruleOf_0 : decode cX3_ruleOf 0 = .ok (.aload_n 0, 1) := by decide +kernel
theorem dX3_ruleOf_1 : decode cX3_ruleOf 1 = .ok (.invokevirtual 55, 3) := by decide +kernel
theorem dX3_ruleOf_4 : decode cX3_ruleOf 4 = .ok (.aload_n 0, 1) := by decide +kernel
theorem dX3_ruleOf_5 : decode cX3_ruleOf 5 = .ok (.getfield 26, 3) := by decide +kernel
theorem dX3_ruleOf_8 : decode cX3_ruleOf 8 = .ok (.iload_n 1, 1) := by decide +kernel
theorem dX3_ruleOf_9 : decode cX3_ruleOf 9 = .ok (.iload_n 2, 1) := by decide +kernel
theorem dX3_ruleOf_10 : decode cX3_ruleOf 10 = .ok (.iload_n 3, 1) := by decide +kernel
theorem dX3_ruleOf_11 : decode cX3_ruleOf 11 = .ok (.invokestatic 62, 3) := by decide +kernel
theorem dX3_ruleOf_14 : decode cX3_ruleOf 14 = .ok (.ireturn, 1) := by decide +kernel
set_option maxRecDepth 20000 in
theorem ggX3_greatestOf_X3_settleAll : GoodIn wsX3_greatestOf wsX3_settleAll := goodIn_r _ [6, 7, 8, 9, 10, 11, 5, 12, 13, 14, 15, 16, 17, 18, 19, 20, 21, 22, 23, 24, 25, 26, 27, 28, 29, 30, 31, 32, 33, 34, 35, 36, 37, 38, 39, 40, 41, 42, 43, 44, 45, 46, 47, 1, 48, 49, 50, 51, 52, 53, 54, 55, 56, 57, 58, 59, 60, 61, 62, 63, 64, 65, 66, 67, 68, 69] (by decide +kernel) (by decide +kernel)
set_option maxRecDepth 20000 in
theorem gX3_greatestOf_X3_settleAll : GoodIn wsX3_greatestOf (wsV RX3 55 RX3 yX3_settleAll wsX3_settleAll) := goodIn_app (goodIn_of _ (by decide +kernel)) ggX3_greatestOf_X3_settleAll
set_option maxRecDepth 20000 in
theorem ggX3_greatestOf_X3_readInt : GoodIn wsX3_greatestOf wsX3_readInt := goodIn_r _ [58, 17, 18, 5, 19, 33, 34, 35] (by decide +kernel) (by decide +kernel)
set_option maxRecDepth 20000 in
theorem gX3_greatestOf_X3_readInt : GoodIn wsX3_greatestOf (va_wsS RX3 62 yX3_readInt wsX3_readInt) := goodIn_app (goodIn_of _ (by decide +kernel)) ggX3_greatestOf_X3_readInt
theorem dX3_greatestOf_0 : decode cX3_greatestOf 0 = .ok (.aload_n 0, 1) := by decide +kernel
theorem dX3_greatestOf_1 : decode cX3_greatestOf 1 = .ok (.invokevirtual 55, 3) := by decide +kernel
theorem dX3_greatestOf_4 : decode cX3_greatestOf 4 = .ok (.aload_n 0, 1) := by decide +kernel
theorem dX3_greatestOf_5 : decode cX3_greatestOf 5 = .ok (.getfield 29, 3) := by decide +kernel
theorem dX3_greatestOf_8 : decode cX3_greatestOf 8 = .ok (.iload_n 1, 1) := by decide +kernel
theorem dX3_greatestOf_9 : decode cX3_greatestOf 9 = .ok (.iload_n 2, 1) := by decide +kernel
theorem dX3_greatestOf_10 : decode cX3_greatestOf 10 = .ok (.iload_n 3, 1) := by decide +kernel
theorem dX3_greatestOf_11 : decode cX3_greatestOf 11 = .ok (.invokestatic 62, 3) := by decide +kernel
theorem dX3_greatestOf_14 : decode cX3_greatestOf 14 = .ok (.ireturn, 1) := by decide +kernel
set_option maxRecDepth 20000 in
theorem ggX3_meanCapped_X3_settleCapped : GoodIn wsX3_meanCapped wsX3_settleCapped := goodIn_r _ [11, 6, 12, 13, 1, 2, 3, 4, 14, 15, 10, 16, 17, 18, 19, 20, 21, 22, 23, 24, 25, 26, 27, 28, 5, 29, 30, 31, 32, 33, 34, 35, 36, 37, 38, 39, 40, 41, 42, 43, 44, 45, 46, 47, 48, 49, 50, 51] (by decide +kernel) (by decide +kernel)
set_option maxRecDepth 20000 in
theorem gX3_meanCapped_X3_settleCapped : GoodIn wsX3_meanCapped (wsV RX3 72 RX3 yX3_settleCapped wsX3_settleCapped) := goodIn_app (goodIn_of _ (by decide +kernel)) ggX3_meanCapped_X3_settleCapped
set_option maxRecDepth 20000 in
theorem ggX3_meanCapped_X3_read : GoodIn wsX3_meanCapped wsX3_read := goodIn_r _ [36, 14, 15, 10, 16, 22, 23, 24] (by decide +kernel) (by decide +kernel)
set_option maxRecDepth 20000 in
theorem gX3_meanCapped_X3_read : GoodIn wsX3_meanCapped (va_wsS RX3 58 yX3_read wsX3_read) := goodIn_app (goodIn_of _ (by decide +kernel)) ggX3_meanCapped_X3_read
theorem dX3_meanCapped_0 : decode cX3_meanCapped 0 = .ok (.iconst 0, 1) := by decide +kernel
theorem dX3_meanCapped_1 : decode cX3_meanCapped 1 = .ok (.istore 5, 2) := by decide +kernel
theorem dX3_meanCapped_3 : decode cX3_meanCapped 3 = .ok (.iload 5, 2) := by decide +kernel
theorem dX3_meanCapped_5 : decode cX3_meanCapped 5 = .ok (.iload_n 1, 1) := by decide +kernel
theorem dX3_meanCapped_6 : decode cX3_meanCapped 6 = .ok (.if_icmp .gt 59, 3) := by decide +kernel
theorem dX3_meanCapped_9 : decode cX3_meanCapped 9 = .ok (.iconst 0, 1) := by decide +kernel
theorem dX3_meanCapped_10 : decode cX3_meanCapped 10 = .ok (.istore 6, 2) := by decide +kernel
theorem dX3_meanCapped_12 : decode cX3_meanCapped 12 = .ok (.iload 6, 2) := by decide +kernel
theorem dX3_meanCapped_14 : decode cX3_meanCapped 14 = .ok (.iload 5, 2) := by decide +kernel
theorem dX3_meanCapped_16 : decode cX3_meanCapped 16 = .ok (.iload_n 2, 1) := by decide +kernel
theorem dX3_meanCapped_17 : decode cX3_meanCapped 17 = .ok (.invokestatic 66, 3) := by decide +kernel
theorem dX3_meanCapped_20 : decode cX3_meanCapped 20 = .ok (.if_icmp .gt 39, 3) := by decide +kernel
theorem dX3_meanCapped_23 : decode cX3_meanCapped 23 = .ok (.iconst 0, 1) := by decide +kernel
theorem dX3_meanCapped_24 : decode cX3_meanCapped 24 = .ok (.istore 7, 2) := by decide +kernel
theorem dX3_meanCapped_26 : decode cX3_meanCapped 26 = .ok (.iload 7, 2) := by decide +kernel
theorem dX3_meanCapped_28 : decode cX3_meanCapped 28 = .ok (.aload_n 0, 1) := by decide +kernel
theorem dX3_meanCapped_29 : decode cX3_meanCapped 29 = .ok (.getfield 39, 3) := by decide +kernel
theorem dX3_meanCapped_32 : decode cX3_meanCapped 32 = .ok (.if_icmp .ge 21, 3) := by decide +kernel
theorem dX3_meanCapped_35 : decode cX3_meanCapped 35 = .ok (.aload_n 0, 1) := by decide +kernel
theorem dX3_meanCapped_36 : decode cX3_meanCapped 36 = .ok (.iload 5, 2) := by decide +kernel
theorem dX3_meanCapped_38 : decode cX3_meanCapped 38 = .ok (.iload 6, 2) := by decide +kernel
theorem dX3_meanCapped_40 : decode cX3_meanCapped 40 = .ok (.iload 7, 2) := by decide +kernel
theorem dX3_meanCapped_42 : decode cX3_meanCapped 42 = .ok (.iload 4, 2) := by decide +kernel
theorem dX3_meanCapped_44 : decode cX3_meanCapped 44 = .ok (.invokevirtual 72, 3) := by decide +kernel
theorem dX3_meanCapped_47 : decode cX3_meanCapped 47 = .ok (.iinc 7 1, 3) := by decide +kernel
theorem dX3_meanCapped_50 : decode cX3_meanCapped 50 = .ok (.goto (-24), 3) := by decide +kernel
theorem dX3_meanCapped_53 : decode cX3_meanCapped 53 = .ok (.iinc 6 1, 3) := by decide +kernel
theorem dX3_meanCapped_56 : decode cX3_meanCapped 56 = .ok (.goto (-44), 3) := by decide +kernel
theorem dX3_meanCapped_59 : decode cX3_meanCapped 59 = .ok (.iinc 5 1, 3) := by decide +kernel
theorem dX3_meanCapped_62 : decode cX3_meanCapped 62 = .ok (.goto (-59), 3) := by decide +kernel
theorem dX3_meanCapped_65 : decode cX3_meanCapped 65 = .ok (.aload_n 0, 1) := by decide +kernel
theorem dX3_meanCapped_66 : decode cX3_meanCapped 66 = .ok (.getfield 32, 3) := by decide +kernel
theorem dX3_meanCapped_69 : decode cX3_meanCapped 69 = .ok (.iload_n 1, 1) := by decide +kernel
theorem dX3_meanCapped_70 : decode cX3_meanCapped 70 = .ok (.iload_n 2, 1) := by decide +kernel
theorem dX3_meanCapped_71 : decode cX3_meanCapped 71 = .ok (.iload_n 3, 1) := by decide +kernel
theorem dX3_meanCapped_72 : decode cX3_meanCapped 72 = .ok (.invokestatic 58, 3) := by decide +kernel
theorem dX3_meanCapped_75 : decode cX3_meanCapped 75 = .ok (.lreturn, 1) := by decide +kernel
set_option maxRecDepth 20000 in
theorem ggX3_settleAll_X3_settleMean : GoodIn wsX3_settleAll wsX3_settleMean := goodIn_r _ [7, 8, 9, 10, 11, 12, 13, 6, 14, 15, 16, 17, 18, 19, 20, 21, 22, 2, 23, 24, 25, 26, 27, 28, 29, 30, 31, 32, 33, 34, 35, 36, 37, 38, 55, 56, 57, 58, 59, 60, 61, 62, 63, 64, 65] (by decide +kernel) (by decide +kernel)
set_option maxRecDepth 20000 in
theorem gX3_settleAll_X3_settleMean : GoodIn wsX3_settleAll (wsV RX3 76 RX3 yX3_settleMean wsX3_settleMean) := goodIn_app (goodIn_of _ (by decide +kernel)) ggX3_settleAll_X3_settleMean
set_option maxRecDepth 20000 in
theorem ggX3_settleAll_X3_settleGreatest : GoodIn wsX3_settleAll wsX3_settleGreatest := goodIn_r _ [42, 43, 9, 10, 11, 12, 13, 6, 14, 44, 45, 46, 47, 2, 48, 49, 50, 51, 23, 24, 25, 26, 27, 28, 29, 30, 52, 53, 54, 34, 35, 36, 37, 38, 55, 56, 57, 58, 59, 60, 61, 62, 63, 64, 65] (by decide +kernel) (by decide +kernel)
set_option maxRecDepth 20000 in
theorem gX3_settleAll_X3_settleGreatest : GoodIn wsX3_settleAll (wsV RX3 79 RX3 yX3_settleGreatest wsX3_settleGreatest) := goodIn_app (goodIn_of _ (by decide +kernel)) ggX3_settleAll_X3_settleGreatest
theorem dX3_settleAll_0 : decode cX3_settleAll 0 = .ok (.aload_n 0, 1) := by decide +kernel
theorem dX3_settleAll_1 : decode cX3_settleAll 1 = .ok (.getfield 35, 3) := by decide +kernel
theorem dX3_settleAll_4 : decode cX3_settleAll 4 = .ok (.ifCond .eq 4, 3) := by decide +kernel
theorem dX3_settleAll_7 : decode cX3_settleAll 7 = .ok (.return_, 1) := by decide +kernel
theorem dX3_settleAll_8 : decode cX3_settleAll 8 = .ok (.iconst 0, 1) := by decide +kernel
theorem dX3_settleAll_9 : decode cX3_settleAll 9 = .ok (.istore_n 1, 1) := by decide +kernel
theorem dX3_settleAll_10 : decode cX3_settleAll 10 = .ok (.iload_n 1, 1) := by decide +kernel
theorem dX3_settleAll_11 : decode cX3_settleAll 11 = .ok (.bipush 12, 2) := by decide +kernel
theorem dX3_settleAll_13 : decode cX3_settleAll 13 = .ok (.if_icmp .gt 52, 3) := by decide +kernel
theorem dX3_settleAll_16 : decode cX3_settleAll 16 = .ok (.iconst 0, 1) := by decide +kernel
theorem dX3_settleAll_17 : decode cX3_settleAll 17 = .ok (.istore_n 2, 1) := by decide +kernel
theorem dX3_settleAll_18 : decode cX3_settleAll 18 = .ok (.iload_n 2, 1) := by decide +kernel
theorem dX3_settleAll_19 : decode cX3_settleAll 19 = .ok (.iload_n 1, 1) := by decide +kernel
theorem dX3_settleAll_20 : decode cX3_settleAll 20 = .ok (.if_icmp .gt 39, 3) := by decide +kernel
theorem dX3_settleAll_23 : decode cX3_settleAll 23 = .ok (.iconst 0, 1) := by decide +kernel
theorem dX3_settleAll_24 : decode cX3_settleAll 24 = .ok (.istore_n 3, 1) := by decide +kernel
theorem dX3_settleAll_25 : decode cX3_settleAll 25 = .ok (.iload_n 3, 1) := by decide +kernel
theorem dX3_settleAll_26 : decode cX3_settleAll 26 = .ok (.aload_n 0, 1) := by decide +kernel
theorem dX3_settleAll_27 : decode cX3_settleAll 27 = .ok (.getfield 39, 3) := by decide +kernel
theorem dX3_settleAll_30 : decode cX3_settleAll 30 = .ok (.if_icmp .ge 23, 3) := by decide +kernel
theorem dX3_settleAll_33 : decode cX3_settleAll 33 = .ok (.aload_n 0, 1) := by decide +kernel
theorem dX3_settleAll_34 : decode cX3_settleAll 34 = .ok (.iload_n 1, 1) := by decide +kernel
theorem dX3_settleAll_35 : decode cX3_settleAll 35 = .ok (.iload_n 2, 1) := by decide +kernel
theorem dX3_settleAll_36 : decode cX3_settleAll 36 = .ok (.iload_n 3, 1) := by decide +kernel
theorem dX3_settleAll_37 : decode cX3_settleAll 37 = .ok (.invokevirtual 76, 3) := by decide +kernel
theorem dX3_settleAll_40 : decode cX3_settleAll 40 = .ok (.aload_n 0, 1) := by decide +kernel
theorem dX3_settleAll_41 : decode cX3_settleAll 41 = .ok (.iload_n 1, 1) := by decide +kernel
theorem dX3_settleAll_42 : decode cX3_settleAll 42 = .ok (.iload_n 2, 1) := by decide +kernel
theorem dX3_settleAll_43 : decode cX3_settleAll 43 = .ok (.iload_n 3, 1) := by decide +kernel
theorem dX3_settleAll_44 : decode cX3_settleAll 44 = .ok (.invokevirtual 79, 3) := by decide +kernel
theorem dX3_settleAll_47 : decode cX3_settleAll 47 = .ok (.iinc 3 1, 3) := by decide +kernel
theorem dX3_settleAll_50 : decode cX3_settleAll 50 = .ok (.goto (-25), 3) := by decide +kernel
theorem dX3_settleAll_53 : decode cX3_settleAll 53 = .ok (.iinc 2 1, 3) := by decide +kernel
theorem dX3_settleAll_56 : decode cX3_settleAll 56 = .ok (.goto (-38), 3) := by decide +kernel
theorem dX3_settleAll_59 : decode cX3_settleAll 59 = .ok (.iinc 1 1, 3) := by decide +kernel
theorem dX3_settleAll_62 : decode cX3_settleAll 62 = .ok (.goto (-52), 3) := by decide +kernel
theorem dX3_settleAll_65 : decode cX3_settleAll 65 = .ok (.aload_n 0, 1) := by decide +kernel
theorem dX3_settleAll_66 : decode cX3_settleAll 66 = .ok (.iconst 1, 1) := by decide +kernel
theorem dX3_settleAll_67 : decode cX3_settleAll 67 = .ok (.putfield 35, 3) := by decide +kernel
theorem dX3_settleAll_70 : decode cX3_settleAll 70 = .ok (.return_, 1) := by decide +kernel
set_option maxRecDepth 20000 in
theorem ggX3_settleMean_X3_stateOf : GoodIn wsX3_settleMean wsX3_stateOf := goodIn_r _ [8] (by decide +kernel) (by decide +kernel)
set_option maxRecDepth 20000 in
theorem gX3_settleMean_X3_stateOf : GoodIn wsX3_settleMean (va_wsS RX3 82 yX3_stateOf wsX3_stateOf) := goodIn_app (goodIn_of _ (by decide +kernel)) ggX3_settleMean_X3_stateOf
set_option maxRecDepth 20000 in
theorem ggX3_settleMean_X2_power : GoodIn wsX3_settleMean wsX2_power := goodIn_r _ [12] (by decide +kernel) (by decide +kernel)
set_option maxRecDepth 20000 in
theorem gX3_settleMean_X2_power : GoodIn wsX3_settleMean (va_wsS RX3 86 yX2_power wsX2_power) := goodIn_app (goodIn_of _ (by decide +kernel)) ggX3_settleMean_X2_power
set_option maxRecDepth 20000 in
theorem ggX3_settleMean_X3_meanBehind : GoodIn wsX3_settleMean wsX3_meanBehind := goodIn_r _ [16, 17, 18, 19, 20, 7, 21, 22, 23, 24, 25, 26, 27, 28, 5, 6, 8, 34, 35, 36, 37, 38, 39, 40, 41, 42] (by decide +kernel) (by decide +kernel)
set_option maxRecDepth 20000 in
theorem gX3_settleMean_X3_meanBehind : GoodIn wsX3_settleMean (wsV RX3 92 RX3 yX3_meanBehind wsX3_meanBehind) := goodIn_app (goodIn_of _ (by decide +kernel)) ggX3_settleMean_X3_meanBehind
set_option maxRecDepth 20000 in
theorem ggX3_settleMean_X3_askedAt : GoodIn wsX3_settleMean wsX3_askedAt := goodIn_r _ [32, 33, 23, 24, 25, 34, 35, 36, 37, 38, 39, 40, 41, 42] (by decide +kernel) (by decide +kernel)
set_option maxRecDepth 20000 in
theorem gX3_settleMean_X3_askedAt : GoodIn wsX3_settleMean (wsV RX3 100 RX3 yX3_askedAt wsX3_askedAt) := goodIn_app (goodIn_of _ (by decide +kernel)) ggX3_settleMean_X3_askedAt
theorem dX3_settleMean_0 : decode cX3_settleMean 0 = .ok (.iload_n 1, 1) := by decide +kernel
theorem dX3_settleMean_1 : decode cX3_settleMean 1 = .ok (.iload_n 2, 1) := by decide +kernel
theorem dX3_settleMean_2 : decode cX3_settleMean 2 = .ok (.iload_n 3, 1) := by decide +kernel
theorem dX3_settleMean_3 : decode cX3_settleMean 3 = .ok (.invokestatic 82, 3) := by decide +kernel
theorem dX3_settleMean_6 : decode cX3_settleMean 6 = .ok (.istore 4, 2) := by decide +kernel
theorem dX3_settleMean_8 : decode cX3_settleMean 8 = .ok (.iload 4, 2) := by decide +kernel
theorem dX3_settleMean_10 : decode cX3_settleMean 10 = .ok (.iconst (-1), 1) := by decide +kernel
theorem dX3_settleMean_11 : decode cX3_settleMean 11 = .ok (.if_icmp .ne 4, 3) := by decide +kernel
theorem dX3_settleMean_14 : decode cX3_settleMean 14 = .ok (.return_, 1) := by decide +kernel
theorem dX3_settleMean_15 : decode cX3_settleMean 15 = .ok (.iload_n 2, 1) := by decide +kernel
theorem dX3_settleMean_16 : decode cX3_settleMean 16 = .ok (.ifCond .ne 20, 3) := by decide +kernel
theorem dX3_settleMean_19 : decode cX3_settleMean 19 = .ok (.aload_n 0, 1) := by decide +kernel
theorem dX3_settleMean_20 : decode cX3_settleMean 20 = .ok (.getfield 22, 3) := by decide +kernel
theorem dX3_settleMean_23 : decode cX3_settleMean 23 = .ok (.iload 4, 2) := by decide +kernel
theorem dX3_settleMean_25 : decode cX3_settleMean 25 = .ok (.lconst 0, 1) := by decide +kernel
theorem dX3_settleMean_26 : decode cX3_settleMean 26 = .ok (.lastore, 1) := by decide +kernel
theorem dX3_settleMean_27 : decode cX3_settleMean 27 = .ok (.aload_n 0, 1) := by decide +kernel
theorem dX3_settleMean_28 : decode cX3_settleMean 28 = .ok (.getfield 26, 3) := by decide +kernel
theorem dX3_settleMean_31 : decode cX3_settleMean 31 = .ok (.iload 4, 2) := by decide +kernel
theorem dX3_settleMean_33 : decode cX3_settleMean 33 = .ok (.iconst 0, 1) := by decide +kernel
theorem dX3_settleMean_34 : decode cX3_settleMean 34 = .ok (.iastore, 1) := by decide +kernel
theorem dX3_settleMean_35 : decode cX3_settleMean 35 = .ok (.return_, 1) := by decide +kernel
theorem dX3_settleMean_36 : decode cX3_settleMean 36 = .ok (.bipush 10, 2) := by decide +kernel
theorem dX3_settleMean_38 : decode cX3_settleMean 38 = .ok (.iload_n 1, 1) := by decide +kernel
theorem dX3_settleMean_39 : decode cX3_settleMean 39 = .ok (.invokestatic 86, 3) := by decide +kernel
theorem dX3_settleMean_42 : decode cX3_settleMean 42 = .ok (.lstore 5, 2) := by decide +kernel
theorem dX3_settleMean_44 : decode cX3_settleMean 44 = .ok (.aload_n 0, 1) := by decide +kernel
theorem dX3_settleMean_45 : decode cX3_settleMean 45 = .ok (.aload_n 0, 1) := by decide +kernel
theorem dX3_settleMean_46 : decode cX3_settleMean 46 = .ok (.getfield 22, 3) := by decide +kernel
theorem dX3_settleMean_49 : decode cX3_settleMean 49 = .ok (.iload_n 1, 1) := by decide +kernel
theorem dX3_settleMean_50 : decode cX3_settleMean 50 = .ok (.iconst 1, 1) := by decide +kernel
theorem dX3_settleMean_51 : decode cX3_settleMean 51 = .ok (.isub, 1) := by decide +kernel
theorem dX3_settleMean_52 : decode cX3_settleMean 52 = .ok (.iload_n 2, 1) := by decide +kernel
theorem dX3_settleMean_53 : decode cX3_settleMean 53 = .ok (.iconst 1, 1) := by decide +kernel
theorem dX3_settleMean_54 : decode cX3_settleMean 54 = .ok (.isub, 1) := by decide +kernel
theorem dX3_settleMean_55 : decode cX3_settleMean 55 = .ok (.iload_n 3, 1) := by decide +kernel
theorem dX3_settleMean_56 : decode cX3_settleMean 56 = .ok (.invokevirtual 92, 3) := by decide +kernel
theorem dX3_settleMean_59 : decode cX3_settleMean 59 = .ok (.lstore 7, 2) := by decide +kernel
theorem dX3_settleMean_61 : decode cX3_settleMean 61 = .ok (.aload_n 0, 1) := by decide +kernel
theorem dX3_settleMean_62 : decode cX3_settleMean 62 = .ok (.getfield 11, 3) := by decide +kernel
theorem dX3_settleMean_65 : decode cX3_settleMean 65 = .ok (.getfield 95, 3) := by decide +kernel
theorem dX3_settleMean_68 : decode cX3_settleMean 68 = .ok (.i2l, 1) := by decide +kernel
theorem dX3_settleMean_69 : decode cX3_settleMean 69 = .ok (.lload 5, 2) := by decide +kernel
theorem dX3_settleMean_71 : decode cX3_settleMean 71 = .ok (.lmul, 1) := by decide +kernel
theorem dX3_settleMean_72 : decode cX3_settleMean 72 = .ok (.lload 7, 2) := by decide +kernel
theorem dX3_settleMean_74 : decode cX3_settleMean 74 = .ok (.ladd, 1) := by decide +kernel
theorem dX3_settleMean_75 : decode cX3_settleMean 75 = .ok (.lstore 9, 2) := by decide +kernel
theorem dX3_settleMean_77 : decode cX3_settleMean 77 = .ok (.iconst 2, 1) := by decide +kernel
theorem dX3_settleMean_78 : decode cX3_settleMean 78 = .ok (.istore 11, 2) := by decide +kernel
theorem dX3_settleMean_80 : decode cX3_settleMean 80 = .ok (.aload_n 0, 1) := by decide +kernel
theorem dX3_settleMean_81 : decode cX3_settleMean 81 = .ok (.iload_n 3, 1) := by decide +kernel
theorem dX3_settleMean_82 : decode cX3_settleMean 82 = .ok (.invokevirtual 100, 3) := by decide +kernel
theorem dX3_settleMean_85 : decode cX3_settleMean 85 = .ok (.i2l, 1) := by decide +kernel
theorem dX3_settleMean_86 : decode cX3_settleMean 86 = .ok (.lload 5, 2) := by decide +kernel
theorem dX3_settleMean_88 : decode cX3_settleMean 88 = .ok (.lmul, 1) := by decide +kernel
theorem dX3_settleMean_89 : decode cX3_settleMean 89 = .ok (.lload 7, 2) := by decide +kernel
theorem dX3_settleMean_91 : decode cX3_settleMean 91 = .ok (.ladd, 1) := by decide +kernel
theorem dX3_settleMean_92 : decode cX3_settleMean 92 = .ok (.lstore 12, 2) := by decide +kernel
theorem dX3_settleMean_94 : decode cX3_settleMean 94 = .ok (.lload 12, 2) := by decide +kernel
theorem dX3_settleMean_96 : decode cX3_settleMean 96 = .ok (.lload 9, 2) := by decide +kernel
theorem dX3_settleMean_98 : decode cX3_settleMean 98 = .ok (.lcmp, 1) := by decide +kernel
theorem dX3_settleMean_99 : decode cX3_settleMean 99 = .ok (.ifCond .gt 10, 3) := by decide +kernel
theorem dX3_settleMean_102 : decode cX3_settleMean 102 = .ok (.lload 12, 2) := by decide +kernel
theorem dX3_settleMean_104 : decode cX3_settleMean 104 = .ok (.lstore 9, 2) := by decide +kernel
theorem dX3_settleMean_106 : decode cX3_settleMean 106 = .ok (.iconst 1, 1) := by decide +kernel
theorem dX3_settleMean_107 : decode cX3_settleMean 107 = .ok (.istore 11, 2) := by decide +kernel
theorem dX3_settleMean_109 : decode cX3_settleMean 109 = .ok (.aload_n 0, 1) := by decide +kernel
theorem dX3_settleMean_110 : decode cX3_settleMean 110 = .ok (.aload_n 0, 1) := by decide +kernel
theorem dX3_settleMean_111 : decode cX3_settleMean 111 = .ok (.getfield 22, 3) := by decide +kernel
theorem dX3_settleMean_114 : decode cX3_settleMean 114 = .ok (.iload_n 1, 1) := by decide +kernel
theorem dX3_settleMean_115 : decode cX3_settleMean 115 = .ok (.iconst 1, 1) := by decide +kernel
theorem dX3_settleMean_116 : decode cX3_settleMean 116 = .ok (.isub, 1) := by decide +kernel
theorem dX3_settleMean_117 : decode cX3_settleMean 117 = .ok (.iload_n 2, 1) := by decide +kernel
theorem dX3_settleMean_118 : decode cX3_settleMean 118 = .ok (.iload_n 3, 1) := by decide +kernel
theorem dX3_settleMean_119 : decode cX3_settleMean 119 = .ok (.invokevirtual 92, 3) := by decide +kernel
theorem dX3_settleMean_122 : decode cX3_settleMean 122 = .ok (.lstore 14, 2) := by decide +kernel
theorem dX3_settleMean_124 : decode cX3_settleMean 124 = .ok (.iload_n 2, 1) := by decide +kernel
theorem dX3_settleMean_125 : decode cX3_settleMean 125 = .ok (.iload_n 1, 1) := by decide +kernel
theorem dX3_settleMean_126 : decode cX3_settleMean 126 = .ok (.if_icmp .ge 18, 3) := by decide +kernel
theorem dX3_settleMean_129 : decode cX3_settleMean 129 = .ok (.lload 14, 2) := by decide +kernel
theorem dX3_settleMean_131 : decode cX3_settleMean 131 = .ok (.lload 9, 2) := by decide +kernel
theorem dX3_settleMean_133 : decode cX3_settleMean 133 = .ok (.lcmp, 1) := by decide +kernel
theorem dX3_settleMean_134 : decode cX3_settleMean 134 = .ok (.ifCond .gt 10, 3) := by decide +kernel
theorem dX3_settleMean_137 : decode cX3_settleMean 137 = .ok (.lload 14, 2) := by decide +kernel
theorem dX3_settleMean_139 : decode cX3_settleMean 139 = .ok (.lstore 9, 2) := by decide +kernel
theorem dX3_settleMean_141 : decode cX3_settleMean 141 = .ok (.iconst 0, 1) := by decide +kernel
theorem dX3_settleMean_142 : decode cX3_settleMean 142 = .ok (.istore 11, 2) := by decide +kernel
theorem dX3_settleMean_144 : decode cX3_settleMean 144 = .ok (.aload_n 0, 1) := by decide +kernel
theorem dX3_settleMean_145 : decode cX3_settleMean 145 = .ok (.getfield 22, 3) := by decide +kernel
theorem dX3_settleMean_148 : decode cX3_settleMean 148 = .ok (.iload 4, 2) := by decide +kernel
theorem dX3_settleMean_150 : decode cX3_settleMean 150 = .ok (.lload 9, 2) := by decide +kernel
theorem dX3_settleMean_152 : decode cX3_settleMean 152 = .ok (.lastore, 1) := by decide +kernel
theorem dX3_settleMean_153 : decode cX3_settleMean 153 = .ok (.aload_n 0, 1) := by decide +kernel
theorem dX3_settleMean_154 : decode cX3_settleMean 154 = .ok (.getfield 26, 3) := by decide +kernel
theorem dX3_settleMean_157 : decode cX3_settleMean 157 = .ok (.iload 4, 2) := by decide +kernel
theorem dX3_settleMean_159 : decode cX3_settleMean 159 = .ok (.iload 11, 2) := by decide +kernel
theorem dX3_settleMean_161 : decode cX3_settleMean 161 = .ok (.iastore, 1) := by decide +kernel
theorem dX3_settleMean_162 : decode cX3_settleMean 162 = .ok (.return_, 1) := by decide +kernel
set_option maxRecDepth 20000 in
theorem ggX3_settleGreatest_X3_stateOf : GoodIn wsX3_settleGreatest wsX3_stateOf := goodIn_r _ [8] (by decide +kernel) (by decide +kernel)
set_option maxRecDepth 20000 in
theorem gX3_settleGreatest_X3_stateOf : GoodIn wsX3_settleGreatest (va_wsS RX3 82 yX3_stateOf wsX3_stateOf) := goodIn_app (goodIn_of _ (by decide +kernel)) ggX3_settleGreatest_X3_stateOf
set_option maxRecDepth 20000 in
theorem ggX3_settleGreatest_X3_greatestBehind : GoodIn wsX3_settleGreatest wsX3_greatestBehind := goodIn_r _ [12, 13, 1, 14, 15, 16, 17, 18, 19, 20, 7, 21, 22, 23, 24, 25, 26, 27, 28, 5, 6, 8, 34, 35, 36, 37, 38, 39, 40, 41, 42] (by decide +kernel) (by decide +kernel)
set_option maxRecDepth 20000 in
theorem gX3_settleGreatest_X3_greatestBehind : GoodIn wsX3_settleGreatest (wsV RX3 104 RX3 yX3_greatestBehind wsX3_greatestBehind) := goodIn_app (goodIn_of _ (by decide +kernel)) ggX3_settleGreatest_X3_greatestBehind
set_option maxRecDepth 20000 in
theorem ggX3_settleGreatest_X3_askedAt : GoodIn wsX3_settleGreatest wsX3_askedAt := goodIn_r _ [32, 33, 23, 24, 25, 34, 35, 36, 37, 38, 39, 40, 41, 42] (by decide +kernel) (by decide +kernel)
set_option maxRecDepth 20000 in
theorem gX3_settleGreatest_X3_askedAt : GoodIn wsX3_settleGreatest (wsV RX3 100 RX3 yX3_askedAt wsX3_askedAt) := goodIn_app (goodIn_of _ (by decide +kernel)) ggX3_settleGreatest_X3_askedAt
theorem dX3_settleGreatest_0 : decode cX3_settleGreatest 0 = .ok (.iload_n 1, 1) := by decide +kernel
theorem dX3_settleGreatest_1 : decode cX3_settleGreatest 1 = .ok (.iload_n 2, 1) := by decide +kernel
theorem dX3_settleGreatest_2 : decode cX3_settleGreatest 2 = .ok (.iload_n 3, 1) := by decide +kernel
theorem dX3_settleGreatest_3 : decode cX3_settleGreatest 3 = .ok (.invokestatic 82, 3) := by decide +kernel
theorem dX3_settleGreatest_6 : decode cX3_settleGreatest 6 = .ok (.istore 4, 2) := by decide +kernel
theorem dX3_settleGreatest_8 : decode cX3_settleGreatest 8 = .ok (.iload 4, 2) := by decide +kernel
theorem dX3_settleGreatest_10 : decode cX3_settleGreatest 10 = .ok (.iconst (-1), 1) := by decide +kernel
theorem dX3_settleGreatest_11 : decode cX3_settleGreatest 11 = .ok (.if_icmp .ne 4, 3) := by decide +kernel
theorem dX3_settleGreatest_14 : decode cX3_settleGreatest 14 = .ok (.return_, 1) := by decide +kernel
theorem dX3_settleGreatest_15 : decode cX3_settleGreatest 15 = .ok (.iload_n 2, 1) := by decide +kernel
theorem dX3_settleGreatest_16 : decode cX3_settleGreatest 16 = .ok (.ifCond .ne 14, 3) := by decide +kernel
theorem dX3_settleGreatest_19 : decode cX3_settleGreatest 19 = .ok (.aload_n 0, 1) := by decide +kernel
theorem dX3_settleGreatest_20 : decode cX3_settleGreatest 20 = .ok (.getfield 29, 3) := by decide +kernel
theorem dX3_settleGreatest_23 : decode cX3_settleGreatest 23 = .ok (.iload 4, 2) := by decide +kernel
theorem dX3_settleGreatest_25 : decode cX3_settleGreatest 25 = .ok (.iconst 0, 1) := by decide +kernel
theorem dX3_settleGreatest_26 : decode cX3_settleGreatest 26 = .ok (.iastore, 1) := by decide +kernel
theorem dX3_settleGreatest_27 : decode cX3_settleGreatest 27 = .ok (.goto 81, 3) := by decide +kernel
theorem dX3_settleGreatest_30 : decode cX3_settleGreatest 30 = .ok (.aload_n 0, 1) := by decide +kernel
theorem dX3_settleGreatest_31 : decode cX3_settleGreatest 31 = .ok (.getfield 26, 3) := by decide +kernel
theorem dX3_settleGreatest_34 : decode cX3_settleGreatest 34 = .ok (.iload 4, 2) := by decide +kernel
theorem dX3_settleGreatest_36 : decode cX3_settleGreatest 36 = .ok (.iaload, 1) := by decide +kernel
theorem dX3_settleGreatest_37 : decode cX3_settleGreatest 37 = .ok (.ifCond .ne 22, 3) := by decide +kernel
theorem dX3_settleGreatest_40 : decode cX3_settleGreatest 40 = .ok (.aload_n 0, 1) := by decide +kernel
theorem dX3_settleGreatest_41 : decode cX3_settleGreatest 41 = .ok (.getfield 29, 3) := by decide +kernel
theorem dX3_settleGreatest_44 : decode cX3_settleGreatest 44 = .ok (.iload 4, 2) := by decide +kernel
theorem dX3_settleGreatest_46 : decode cX3_settleGreatest 46 = .ok (.aload_n 0, 1) := by decide +kernel
theorem dX3_settleGreatest_47 : decode cX3_settleGreatest 47 = .ok (.iload_n 1, 1) := by decide +kernel
theorem dX3_settleGreatest_48 : decode cX3_settleGreatest 48 = .ok (.iconst 1, 1) := by decide +kernel
theorem dX3_settleGreatest_49 : decode cX3_settleGreatest 49 = .ok (.isub, 1) := by decide +kernel
theorem dX3_settleGreatest_50 : decode cX3_settleGreatest 50 = .ok (.iload_n 2, 1) := by decide +kernel
theorem dX3_settleGreatest_51 : decode cX3_settleGreatest 51 = .ok (.iload_n 3, 1) := by decide +kernel
theorem dX3_settleGreatest_52 : decode cX3_settleGreatest 52 = .ok (.invokevirtual 104, 3) := by decide +kernel
theorem dX3_settleGreatest_55 : decode cX3_settleGreatest 55 = .ok (.iastore, 1) := by decide +kernel
theorem dX3_settleGreatest_56 : decode cX3_settleGreatest 56 = .ok (.goto 52, 3) := by decide +kernel
theorem dX3_settleGreatest_59 : decode cX3_settleGreatest 59 = .ok (.aload_n 0, 1) := by decide +kernel
theorem dX3_settleGreatest_60 : decode cX3_settleGreatest 60 = .ok (.getfield 26, 3) := by decide +kernel
theorem dX3_settleGreatest_63 : decode cX3_settleGreatest 63 = .ok (.iload 4, 2) := by decide +kernel
theorem dX3_settleGreatest_65 : decode cX3_settleGreatest 65 = .ok (.iaload, 1) := by decide +kernel
theorem dX3_settleGreatest_66 : decode cX3_settleGreatest 66 = .ok (.iconst 1, 1) := by decide +kernel
theorem dX3_settleGreatest_67 : decode cX3_settleGreatest 67 = .ok (.if_icmp .ne 11, 3) := by decide +kernel
theorem dX3_settleGreatest_70 : decode cX3_settleGreatest 70 = .ok (.aload_n 0, 1) := by decide +kernel
theorem dX3_settleGreatest_71 : decode cX3_settleGreatest 71 = .ok (.iload_n 3, 1) := by decide +kernel
theorem dX3_settleGreatest_72 : decode cX3_settleGreatest 72 = .ok (.invokevirtual 100, 3) := by decide +kernel
theorem dX3_settleGreatest_75 : decode cX3_settleGreatest 75 = .ok (.goto 10, 3) := by decide +kernel
theorem dX3_settleGreatest_78 : decode cX3_settleGreatest 78 = .ok (.aload_n 0, 1) := by decide +kernel
theorem dX3_settleGreatest_79 : decode cX3_settleGreatest 79 = .ok (.getfield 11, 3) := by decide +kernel
theorem dX3_settleGreatest_82 : decode cX3_settleGreatest 82 = .ok (.getfield 95, 3) := by decide +kernel
theorem dX3_settleGreatest_85 : decode cX3_settleGreatest 85 = .ok (.istore 5, 2) := by decide +kernel
theorem dX3_settleGreatest_87 : decode cX3_settleGreatest 87 = .ok (.aload_n 0, 1) := by decide +kernel
theorem dX3_settleGreatest_88 : decode cX3_settleGreatest 88 = .ok (.getfield 29, 3) := by decide +kernel
theorem dX3_settleGreatest_91 : decode cX3_settleGreatest 91 = .ok (.iload 4, 2) := by decide +kernel
theorem dX3_settleGreatest_93 : decode cX3_settleGreatest 93 = .ok (.iload 5, 2) := by decide +kernel
theorem dX3_settleGreatest_95 : decode cX3_settleGreatest 95 = .ok (.aload_n 0, 1) := by decide +kernel
theorem dX3_settleGreatest_96 : decode cX3_settleGreatest 96 = .ok (.iload_n 1, 1) := by decide +kernel
theorem dX3_settleGreatest_97 : decode cX3_settleGreatest 97 = .ok (.iconst 1, 1) := by decide +kernel
theorem dX3_settleGreatest_98 : decode cX3_settleGreatest 98 = .ok (.isub, 1) := by decide +kernel
theorem dX3_settleGreatest_99 : decode cX3_settleGreatest 99 = .ok (.iload_n 2, 1) := by decide +kernel
theorem dX3_settleGreatest_100 : decode cX3_settleGreatest 100 = .ok (.iconst 1, 1) := by decide +kernel
theorem dX3_settleGreatest_101 : decode cX3_settleGreatest 101 = .ok (.isub, 1) := by decide +kernel
theorem dX3_settleGreatest_102 : decode cX3_settleGreatest 102 = .ok (.iload_n 3, 1) := by decide +kernel
theorem dX3_settleGreatest_103 : decode cX3_settleGreatest 103 = .ok (.invokevirtual 104, 3) := by decide +kernel
theorem dX3_settleGreatest_106 : decode cX3_settleGreatest 106 = .ok (.iadd, 1) := by decide +kernel
theorem dX3_settleGreatest_107 : decode cX3_settleGreatest 107 = .ok (.iastore, 1) := by decide +kernel
theorem dX3_settleGreatest_108 : decode cX3_settleGreatest 108 = .ok (.return_, 1) := by decide +kernel
set_option maxRecDepth 20000 in
theorem ggX3_settleCapped_X3_stateOf : GoodIn wsX3_settleCapped wsX3_stateOf := goodIn_r _ [11] (by decide +kernel) (by decide +kernel)
set_option maxRecDepth 20000 in
theorem gX3_settleCapped_X3_stateOf : GoodIn wsX3_settleCapped (va_wsS RX3 82 yX3_stateOf wsX3_stateOf) := goodIn_app (goodIn_of _ (by decide +kernel)) ggX3_settleCapped_X3_stateOf
set_option maxRecDepth 20000 in
theorem ggX3_settleCapped_X3_askedAt : GoodIn wsX3_settleCapped wsX3_askedAt := goodIn_r _ [15, 16, 17, 18, 19, 37, 38, 39, 40, 41, 42, 43, 44, 45] (by decide +kernel) (by decide +kernel)
set_option maxRecDepth 20000 in
theorem gX3_settleCapped_X3_askedAt : GoodIn wsX3_settleCapped (wsV RX3 100 RX3 yX3_askedAt wsX3_askedAt) := goodIn_app (goodIn_of _ (by decide +kernel)) ggX3_settleCapped_X3_askedAt
set_option maxRecDepth 20000 in
theorem ggX3_settleCapped_X3_meanBehind : GoodIn wsX3_settleCapped wsX3_meanBehind := goodIn_r _ [23, 24, 25, 26, 27, 10, 28, 29, 17, 18, 19, 30, 31, 32, 8, 9, 11, 37, 38, 39, 40, 41, 42, 43, 44, 45] (by decide +kernel) (by decide +kernel)
set_option maxRecDepth 20000 in
theorem gX3_settleCapped_X3_meanBehind : GoodIn wsX3_settleCapped (wsV RX3 92 RX3 yX3_meanBehind wsX3_meanBehind) := goodIn_app (goodIn_of _ (by decide +kernel)) ggX3_settleCapped_X3_meanBehind
set_option maxRecDepth 20000 in
theorem ggX3_settleCapped_X2_power : GoodIn wsX3_settleCapped wsX2_power := goodIn_r _ [36] (by decide +kernel) (by decide +kernel)
set_option maxRecDepth 20000 in
theorem gX3_settleCapped_X2_power : GoodIn wsX3_settleCapped (va_wsS RX3 86 yX2_power wsX2_power) := goodIn_app (goodIn_of _ (by decide +kernel)) ggX3_settleCapped_X2_power
theorem dX3_settleCapped_0 : decode cX3_settleCapped 0 = .ok (.iload_n 1, 1) := by decide +kernel
theorem dX3_settleCapped_1 : decode cX3_settleCapped 1 = .ok (.iload_n 2, 1) := by decide +kernel
theorem dX3_settleCapped_2 : decode cX3_settleCapped 2 = .ok (.iload_n 3, 1) := by decide +kernel
theorem dX3_settleCapped_3 : decode cX3_settleCapped 3 = .ok (.invokestatic 82, 3) := by decide +kernel
theorem dX3_settleCapped_6 : decode cX3_settleCapped 6 = .ok (.istore 5, 2) := by decide +kernel
theorem dX3_settleCapped_8 : decode cX3_settleCapped 8 = .ok (.iload 5, 2) := by decide +kernel
theorem dX3_settleCapped_10 : decode cX3_settleCapped 10 = .ok (.iconst (-1), 1) := by decide +kernel
theorem dX3_settleCapped_11 : decode cX3_settleCapped 11 = .ok (.if_icmp .ne 4, 3) := by decide +kernel
theorem dX3_settleCapped_14 : decode cX3_settleCapped 14 = .ok (.return_, 1) := by decide +kernel
theorem dX3_settleCapped_15 : decode cX3_settleCapped 15 = .ok (.aload_n 0, 1) := by decide +kernel
theorem dX3_settleCapped_16 : decode cX3_settleCapped 16 = .ok (.iload_n 3, 1) := by decide +kernel
theorem dX3_settleCapped_17 : decode cX3_settleCapped 17 = .ok (.invokevirtual 100, 3) := by decide +kernel
theorem dX3_settleCapped_20 : decode cX3_settleCapped 20 = .ok (.istore 6, 2) := by decide +kernel
theorem dX3_settleCapped_22 : decode cX3_settleCapped 22 = .ok (.iload_n 2, 1) := by decide +kernel
theorem dX3_settleCapped_23 : decode cX3_settleCapped 23 = .ok (.ifCond .ne 14, 3) := by decide +kernel
theorem dX3_settleCapped_26 : decode cX3_settleCapped 26 = .ok (.aload_n 0, 1) := by decide +kernel
theorem dX3_settleCapped_27 : decode cX3_settleCapped 27 = .ok (.getfield 32, 3) := by decide +kernel
theorem dX3_settleCapped_30 : decode cX3_settleCapped 30 = .ok (.iload 5, 2) := by decide +kernel
theorem dX3_settleCapped_32 : decode cX3_settleCapped 32 = .ok (.lconst 0, 1) := by decide +kernel
theorem dX3_settleCapped_33 : decode cX3_settleCapped 33 = .ok (.lastore, 1) := by decide +kernel
theorem dX3_settleCapped_34 : decode cX3_settleCapped 34 = .ok (.goto 97, 3) := by decide +kernel
theorem dX3_settleCapped_37 : decode cX3_settleCapped 37 = .ok (.iload 6, 2) := by decide +kernel
theorem dX3_settleCapped_39 : decode cX3_settleCapped 39 = .ok (.iload 4, 2) := by decide +kernel
theorem dX3_settleCapped_41 : decode cX3_settleCapped 41 = .ok (.if_icmp .le 31, 3) := by decide +kernel
theorem dX3_settleCapped_44 : decode cX3_settleCapped 44 = .ok (.iload_n 2, 1) := by decide +kernel
theorem dX3_settleCapped_45 : decode cX3_settleCapped 45 = .ok (.iload_n 1, 1) := by decide +kernel
theorem dX3_settleCapped_46 : decode cX3_settleCapped 46 = .ok (.if_icmp .ge 26, 3) := by decide +kernel
theorem dX3_settleCapped_49 : decode cX3_settleCapped 49 = .ok (.aload_n 0, 1) := by decide +kernel
theorem dX3_settleCapped_50 : decode cX3_settleCapped 50 = .ok (.getfield 32, 3) := by decide +kernel
theorem dX3_settleCapped_53 : decode cX3_settleCapped 53 = .ok (.iload 5, 2) := by decide +kernel
theorem dX3_settleCapped_55 : decode cX3_settleCapped 55 = .ok (.aload_n 0, 1) := by decide +kernel
theorem dX3_settleCapped_56 : decode cX3_settleCapped 56 = .ok (.aload_n 0, 1) := by decide +kernel
theorem dX3_settleCapped_57 : decode cX3_settleCapped 57 = .ok (.getfield 32, 3) := by decide +kernel
theorem dX3_settleCapped_60 : decode cX3_settleCapped 60 = .ok (.iload_n 1, 1) := by decide +kernel
theorem dX3_settleCapped_61 : decode cX3_settleCapped 61 = .ok (.iconst 1, 1) := by decide +kernel
theorem dX3_settleCapped_62 : decode cX3_settleCapped 62 = .ok (.isub, 1) := by decide +kernel
theorem dX3_settleCapped_63 : decode cX3_settleCapped 63 = .ok (.iload_n 2, 1) := by decide +kernel
theorem dX3_settleCapped_64 : decode cX3_settleCapped 64 = .ok (.iload_n 3, 1) := by decide +kernel
theorem dX3_settleCapped_65 : decode cX3_settleCapped 65 = .ok (.invokevirtual 92, 3) := by decide +kernel
theorem dX3_settleCapped_68 : decode cX3_settleCapped 68 = .ok (.lastore, 1) := by decide +kernel
theorem dX3_settleCapped_69 : decode cX3_settleCapped 69 = .ok (.goto 62, 3) := by decide +kernel
theorem dX3_settleCapped_72 : decode cX3_settleCapped 72 = .ok (.iload 6, 2) := by decide +kernel
theorem dX3_settleCapped_74 : decode cX3_settleCapped 74 = .ok (.iload 4, 2) := by decide +kernel
theorem dX3_settleCapped_76 : decode cX3_settleCapped 76 = .ok (.if_icmp .le 18, 3) := by decide +kernel
theorem dX3_settleCapped_79 : decode cX3_settleCapped 79 = .ok (.iload 6, 2) := by decide +kernel
theorem dX3_settleCapped_81 : decode cX3_settleCapped 81 = .ok (.aload_n 0, 1) := by decide +kernel
theorem dX3_settleCapped_82 : decode cX3_settleCapped 82 = .ok (.getfield 11, 3) := by decide +kernel
theorem dX3_settleCapped_85 : decode cX3_settleCapped 85 = .ok (.getfield 95, 3) := by decide +kernel
theorem dX3_settleCapped_88 : decode cX3_settleCapped 88 = .ok (.invokestatic 66, 3) := by decide +kernel
theorem dX3_settleCapped_91 : decode cX3_settleCapped 91 = .ok (.goto 5, 3) := by decide +kernel
theorem dX3_settleCapped_94 : decode cX3_settleCapped 94 = .ok (.iload 6, 2) := by decide +kernel
theorem dX3_settleCapped_96 : decode cX3_settleCapped 96 = .ok (.istore 7, 2) := by decide +kernel
theorem dX3_settleCapped_98 : decode cX3_settleCapped 98 = .ok (.aload_n 0, 1) := by decide +kernel
theorem dX3_settleCapped_99 : decode cX3_settleCapped 99 = .ok (.getfield 32, 3) := by decide +kernel
theorem dX3_settleCapped_102 : decode cX3_settleCapped 102 = .ok (.iload 5, 2) := by decide +kernel
theorem dX3_settleCapped_104 : decode cX3_settleCapped 104 = .ok (.iload 7, 2) := by decide +kernel
theorem dX3_settleCapped_106 : decode cX3_settleCapped 106 = .ok (.i2l, 1) := by decide +kernel
theorem dX3_settleCapped_107 : decode cX3_settleCapped 107 = .ok (.bipush 10, 2) := by decide +kernel
theorem dX3_settleCapped_109 : decode cX3_settleCapped 109 = .ok (.iload_n 1, 1) := by decide +kernel
theorem dX3_settleCapped_110 : decode cX3_settleCapped 110 = .ok (.invokestatic 86, 3) := by decide +kernel
theorem dX3_settleCapped_113 : decode cX3_settleCapped 113 = .ok (.lmul, 1) := by decide +kernel
theorem dX3_settleCapped_114 : decode cX3_settleCapped 114 = .ok (.aload_n 0, 1) := by decide +kernel
theorem dX3_settleCapped_115 : decode cX3_settleCapped 115 = .ok (.aload_n 0, 1) := by decide +kernel
theorem dX3_settleCapped_116 : decode cX3_settleCapped 116 = .ok (.getfield 32, 3) := by decide +kernel
theorem dX3_settleCapped_119 : decode cX3_settleCapped 119 = .ok (.iload_n 1, 1) := by decide +kernel
theorem dX3_settleCapped_120 : decode cX3_settleCapped 120 = .ok (.iconst 1, 1) := by decide +kernel
theorem dX3_settleCapped_121 : decode cX3_settleCapped 121 = .ok (.isub, 1) := by decide +kernel
theorem dX3_settleCapped_122 : decode cX3_settleCapped 122 = .ok (.iload_n 2, 1) := by decide +kernel
theorem dX3_settleCapped_123 : decode cX3_settleCapped 123 = .ok (.iconst 1, 1) := by decide +kernel
theorem dX3_settleCapped_124 : decode cX3_settleCapped 124 = .ok (.isub, 1) := by decide +kernel
theorem dX3_settleCapped_125 : decode cX3_settleCapped 125 = .ok (.iload_n 3, 1) := by decide +kernel
theorem dX3_settleCapped_126 : decode cX3_settleCapped 126 = .ok (.invokevirtual 92, 3) := by decide +kernel
theorem dX3_settleCapped_129 : decode cX3_settleCapped 129 = .ok (.ladd, 1) := by decide +kernel
theorem dX3_settleCapped_130 : decode cX3_settleCapped 130 = .ok (.lastore, 1) := by decide +kernel
theorem dX3_settleCapped_131 : decode cX3_settleCapped 131 = .ok (.return_, 1) := by decide +kernel
set_option maxRecDepth 20000 in
theorem ggX3_meanBehind_X3_chanceOf : GoodIn wsX3_meanBehind wsX3_chanceOf := goodIn_r _ [6, 7, 8, 9, 10, 17, 18, 19, 20, 21, 22, 23, 24, 25] (by decide +kernel) (by decide +kernel)
set_option maxRecDepth 20000 in
theorem gX3_meanBehind_X3_chanceOf : GoodIn wsX3_meanBehind (wsV RX3 107 RX3 yX3_chanceOf wsX3_chanceOf) := goodIn_app (goodIn_of _ (by decide +kernel)) ggX3_meanBehind_X3_chanceOf
set_option maxRecDepth 20000 in
theorem ggX3_meanBehind_X3_read : GoodIn wsX3_meanBehind wsX3_read := goodIn_r _ [13, 14, 15, 5, 16, 8, 9, 10] (by decide +kernel) (by decide +kernel)
set_option maxRecDepth 20000 in
theorem gX3_meanBehind_X3_read : GoodIn wsX3_meanBehind (va_wsS RX3 58 yX3_read wsX3_read) := goodIn_app (goodIn_of _ (by decide +kernel)) ggX3_meanBehind_X3_read
theorem dX3_meanBehind_0 : decode cX3_meanBehind 0 = .ok (.lconst 0, 1) := by decide +kernel
theorem dX3_meanBehind_1 : decode cX3_meanBehind 1 = .ok (.lstore 5, 2) := by decide +kernel
theorem dX3_meanBehind_3 : decode cX3_meanBehind 3 = .ok (.iconst 0, 1) := by decide +kernel
theorem dX3_meanBehind_4 : decode cX3_meanBehind 4 = .ok (.istore 7, 2) := by decide +kernel
theorem dX3_meanBehind_6 : decode cX3_meanBehind 6 = .ok (.iload 7, 2) := by decide +kernel
theorem dX3_meanBehind_8 : decode cX3_meanBehind 8 = .ok (.aload_n 0, 1) := by decide +kernel
theorem dX3_meanBehind_9 : decode cX3_meanBehind 9 = .ok (.getfield 39, 3) := by decide +kernel
theorem dX3_meanBehind_12 : decode cX3_meanBehind 12 = .ok (.if_icmp .ge 32, 3) := by decide +kernel
theorem dX3_meanBehind_15 : decode cX3_meanBehind 15 = .ok (.lload 5, 2) := by decide +kernel
theorem dX3_meanBehind_17 : decode cX3_meanBehind 17 = .ok (.aload_n 0, 1) := by decide +kernel
theorem dX3_meanBehind_18 : decode cX3_meanBehind 18 = .ok (.iload 4, 2) := by decide +kernel
theorem dX3_meanBehind_20 : decode cX3_meanBehind 20 = .ok (.iload 7, 2) := by decide +kernel
theorem dX3_meanBehind_22 : decode cX3_meanBehind 22 = .ok (.invokevirtual 107, 3) := by decide +kernel
theorem dX3_meanBehind_25 : decode cX3_meanBehind 25 = .ok (.i2l, 1) := by decide +kernel
theorem dX3_meanBehind_26 : decode cX3_meanBehind 26 = .ok (.aload_n 1, 1) := by decide +kernel
theorem dX3_meanBehind_27 : decode cX3_meanBehind 27 = .ok (.iload_n 2, 1) := by decide +kernel
theorem dX3_meanBehind_28 : decode cX3_meanBehind 28 = .ok (.iload_n 3, 1) := by decide +kernel
theorem dX3_meanBehind_29 : decode cX3_meanBehind 29 = .ok (.iload 7, 2) := by decide +kernel
theorem dX3_meanBehind_31 : decode cX3_meanBehind 31 = .ok (.invokestatic 58, 3) := by decide +kernel
theorem dX3_meanBehind_34 : decode cX3_meanBehind 34 = .ok (.lmul, 1) := by decide +kernel
theorem dX3_meanBehind_35 : decode cX3_meanBehind 35 = .ok (.ladd, 1) := by decide +kernel
theorem dX3_meanBehind_36 : decode cX3_meanBehind 36 = .ok (.lstore 5, 2) := by decide +kernel
theorem dX3_meanBehind_38 : decode cX3_meanBehind 38 = .ok (.iinc 7 1, 3) := by decide +kernel
theorem dX3_meanBehind_41 : decode cX3_meanBehind 41 = .ok (.goto (-35), 3) := by decide +kernel
theorem dX3_meanBehind_44 : decode cX3_meanBehind 44 = .ok (.lload 5, 2) := by decide +kernel
theorem dX3_meanBehind_46 : decode cX3_meanBehind 46 = .ok (.lreturn, 1) := by decide +kernel
set_option maxRecDepth 20000 in
theorem ggX3_greatestBehind_X3_chanceOf : GoodIn wsX3_greatestBehind wsX3_chanceOf := goodIn_r _ [11, 12, 13, 14, 15, 22, 23, 24, 25, 26, 27, 28, 29, 30] (by decide +kernel) (by decide +kernel)
set_option maxRecDepth 20000 in
theorem gX3_greatestBehind_X3_chanceOf : GoodIn wsX3_greatestBehind (wsV RX3 107 RX3 yX3_chanceOf wsX3_chanceOf) := goodIn_app (goodIn_of _ (by decide +kernel)) ggX3_greatestBehind_X3_chanceOf
set_option maxRecDepth 20000 in
theorem ggX3_greatestBehind_X3_readInt : GoodIn wsX3_greatestBehind wsX3_readInt := goodIn_r _ [18, 19, 20, 10, 21, 13, 14, 15] (by decide +kernel) (by decide +kernel)
set_option maxRecDepth 20000 in
theorem gX3_greatestBehind_X3_readInt : GoodIn wsX3_greatestBehind (va_wsS RX3 62 yX3_readInt wsX3_readInt) := goodIn_app (goodIn_of _ (by decide +kernel)) ggX3_greatestBehind_X3_readInt
theorem dX3_greatestBehind_0 : decode cX3_greatestBehind 0 = .ok (.iconst 0, 1) := by decide +kernel
theorem dX3_greatestBehind_1 : decode cX3_greatestBehind 1 = .ok (.istore 4, 2) := by decide +kernel
theorem dX3_greatestBehind_3 : decode cX3_greatestBehind 3 = .ok (.iconst 0, 1) := by decide +kernel
theorem dX3_greatestBehind_4 : decode cX3_greatestBehind 4 = .ok (.istore 5, 2) := by decide +kernel
theorem dX3_greatestBehind_6 : decode cX3_greatestBehind 6 = .ok (.iload 5, 2) := by decide +kernel
theorem dX3_greatestBehind_8 : decode cX3_greatestBehind 8 = .ok (.aload_n 0, 1) := by decide +kernel
theorem dX3_greatestBehind_9 : decode cX3_greatestBehind 9 = .ok (.getfield 39, 3) := by decide +kernel
theorem dX3_greatestBehind_12 : decode cX3_greatestBehind 12 = .ok (.if_icmp .ge 37, 3) := by decide +kernel
theorem dX3_greatestBehind_15 : decode cX3_greatestBehind 15 = .ok (.aload_n 0, 1) := by decide +kernel
theorem dX3_greatestBehind_16 : decode cX3_greatestBehind 16 = .ok (.iload_n 3, 1) := by decide +kernel
theorem dX3_greatestBehind_17 : decode cX3_greatestBehind 17 = .ok (.iload 5, 2) := by decide +kernel
theorem dX3_greatestBehind_19 : decode cX3_greatestBehind 19 = .ok (.invokevirtual 107, 3) := by decide +kernel
theorem dX3_greatestBehind_22 : decode cX3_greatestBehind 22 = .ok (.ifCond .le 21, 3) := by decide +kernel
theorem dX3_greatestBehind_25 : decode cX3_greatestBehind 25 = .ok (.iload 4, 2) := by decide +kernel
theorem dX3_greatestBehind_27 : decode cX3_greatestBehind 27 = .ok (.aload_n 0, 1) := by decide +kernel
theorem dX3_greatestBehind_28 : decode cX3_greatestBehind 28 = .ok (.getfield 29, 3) := by decide +kernel
theorem dX3_greatestBehind_31 : decode cX3_greatestBehind 31 = .ok (.iload_n 1, 1) := by decide +kernel
theorem dX3_greatestBehind_32 : decode cX3_greatestBehind 32 = .ok (.iload_n 2, 1) := by decide +kernel
theorem dX3_greatestBehind_33 : decode cX3_greatestBehind 33 = .ok (.iload 5, 2) := by decide +kernel
theorem dX3_greatestBehind_35 : decode cX3_greatestBehind 35 = .ok (.invokestatic 62, 3) := by decide +kernel
theorem dX3_greatestBehind_38 : decode cX3_greatestBehind 38 = .ok (.invokestatic 110, 3) := by decide +kernel
theorem dX3_greatestBehind_41 : decode cX3_greatestBehind 41 = .ok (.istore 4, 2) := by decide +kernel
theorem dX3_greatestBehind_43 : decode cX3_greatestBehind 43 = .ok (.iinc 5 1, 3) := by decide +kernel
theorem dX3_greatestBehind_46 : decode cX3_greatestBehind 46 = .ok (.goto (-40), 3) := by decide +kernel
theorem dX3_greatestBehind_49 : decode cX3_greatestBehind 49 = .ok (.iload 4, 2) := by decide +kernel
theorem dX3_greatestBehind_51 : decode cX3_greatestBehind 51 = .ok (.ireturn, 1) := by decide +kernel
set_option maxRecDepth 20000 in
theorem ggX3_askedAt_X6_within : GoodIn wsX3_askedAt wsX6_within := goodIn_r _ [4] (by decide +kernel) (by decide +kernel)
set_option maxRecDepth 20000 in
theorem gX3_askedAt_X6_within_n47 : GoodIn wsX3_askedAt (wsX6_within) := ggX3_askedAt_X6_within
theorem dX3_askedAt_0 : decode cX3_askedAt 0 = .ok (.iload_n 1, 1) := by decide +kernel
theorem dX3_askedAt_1 : decode cX3_askedAt 1 = .ok (.iconst 0, 1) := by decide +kernel
theorem dX3_askedAt_2 : decode cX3_askedAt 2 = .ok (.aload_n 0, 1) := by decide +kernel
theorem dX3_askedAt_3 : decode cX3_askedAt 3 = .ok (.getfield 15, 3) := by decide +kernel
theorem dX3_askedAt_6 : decode cX3_askedAt 6 = .ok (.arraylength, 1) := by decide +kernel
theorem dX3_askedAt_7 : decode cX3_askedAt 7 = .ok (.iconst 1, 1) := by decide +kernel
theorem dX3_askedAt_8 : decode cX3_askedAt 8 = .ok (.isub, 1) := by decide +kernel
theorem dX3_askedAt_9 : decode cX3_askedAt 9 = .ok (.invokestatic 47, 3) := by decide +kernel
theorem dX3_askedAt_12 : decode cX3_askedAt 12 = .ok (.ifCond .eq 12, 3) := by decide +kernel
theorem dX3_askedAt_15 : decode cX3_askedAt 15 = .ok (.aload_n 0, 1) := by decide +kernel
theorem dX3_askedAt_16 : decode cX3_askedAt 16 = .ok (.getfield 15, 3) := by decide +kernel
theorem dX3_askedAt_19 : decode cX3_askedAt 19 = .ok (.iload_n 1, 1) := by decide +kernel
theorem dX3_askedAt_20 : decode cX3_askedAt 20 = .ok (.iaload, 1) := by decide +kernel
theorem dX3_askedAt_21 : decode cX3_askedAt 21 = .ok (.goto 4, 3) := by decide +kernel
theorem dX3_askedAt_24 : decode cX3_askedAt 24 = .ok (.iconst 0, 1) := by decide +kernel
theorem dX3_askedAt_25 : decode cX3_askedAt 25 = .ok (.ireturn, 1) := by decide +kernel
set_option maxRecDepth 20000 in
theorem ggX3_chanceOf_X6_within : GoodIn wsX3_chanceOf wsX6_within := goodIn_r _ [4] (by decide +kernel) (by decide +kernel)
set_option maxRecDepth 20000 in
theorem gX3_chanceOf_X6_within_n47 : GoodIn wsX3_chanceOf (wsX6_within) := ggX3_chanceOf_X6_within
theorem dX3_chanceOf_0 : decode cX3_chanceOf 0 = .ok (.iload_n 1, 1) := by decide +kernel
theorem dX3_chanceOf_1 : decode cX3_chanceOf 1 = .ok (.iconst 0, 1) := by decide +kernel
theorem dX3_chanceOf_2 : decode cX3_chanceOf 2 = .ok (.iconst 5, 1) := by decide +kernel
theorem dX3_chanceOf_3 : decode cX3_chanceOf 3 = .ok (.invokestatic 47, 3) := by decide +kernel
theorem dX3_chanceOf_6 : decode cX3_chanceOf 6 = .ok (.ifCond .eq 16, 3) := by decide +kernel
theorem dX3_chanceOf_9 : decode cX3_chanceOf 9 = .ok (.iload_n 2, 1) := by decide +kernel
theorem dX3_chanceOf_10 : decode cX3_chanceOf 10 = .ok (.iconst 0, 1) := by decide +kernel
theorem dX3_chanceOf_11 : decode cX3_chanceOf 11 = .ok (.iconst 5, 1) := by decide +kernel
theorem dX3_chanceOf_12 : decode cX3_chanceOf 12 = .ok (.invokestatic 47, 3) := by decide +kernel
theorem dX3_chanceOf_15 : decode cX3_chanceOf 15 = .ok (.ifCond .eq 7, 3) := by decide +kernel
theorem dX3_chanceOf_18 : decode cX3_chanceOf 18 = .ok (.iconst 1, 1) := by decide +kernel
theorem dX3_chanceOf_19 : decode cX3_chanceOf 19 = .ok (.goto 4, 3) := by decide +kernel
theorem dX3_chanceOf_22 : decode cX3_chanceOf 22 = .ok (.iconst 0, 1) := by decide +kernel
theorem dX3_chanceOf_23 : decode cX3_chanceOf 23 = .ok (.istore_n 3, 1) := by decide +kernel
theorem dX3_chanceOf_24 : decode cX3_chanceOf 24 = .ok (.iload_n 3, 1) := by decide +kernel
theorem dX3_chanceOf_25 : decode cX3_chanceOf 25 = .ok (.ifCond .eq 17, 3) := by decide +kernel
theorem dX3_chanceOf_28 : decode cX3_chanceOf 28 = .ok (.aload_n 0, 1) := by decide +kernel
theorem dX3_chanceOf_29 : decode cX3_chanceOf 29 = .ok (.getfield 19, 3) := by decide +kernel
theorem dX3_chanceOf_32 : decode cX3_chanceOf 32 = .ok (.iload_n 1, 1) := by decide +kernel
theorem dX3_chanceOf_33 : decode cX3_chanceOf 33 = .ok (.bipush 6, 2) := by decide +kernel
theorem dX3_chanceOf_35 : decode cX3_chanceOf 35 = .ok (.imul, 1) := by decide +kernel
theorem dX3_chanceOf_36 : decode cX3_chanceOf 36 = .ok (.iload_n 2, 1) := by decide +kernel
theorem dX3_chanceOf_37 : decode cX3_chanceOf 37 = .ok (.iadd, 1) := by decide +kernel
theorem dX3_chanceOf_38 : decode cX3_chanceOf 38 = .ok (.iaload, 1) := by decide +kernel
theorem dX3_chanceOf_39 : decode cX3_chanceOf 39 = .ok (.goto 4, 3) := by decide +kernel
theorem dX3_chanceOf_42 : decode cX3_chanceOf 42 = .ok (.iconst 0, 1) := by decide +kernel
theorem dX3_chanceOf_43 : decode cX3_chanceOf 43 = .ok (.ireturn, 1) := by decide +kernel
set_option maxRecDepth 20000 in
theorem ggX3_read_X3_stateOf : GoodIn wsX3_read wsX3_stateOf := goodIn_r _ [4] (by decide +kernel) (by decide +kernel)
set_option maxRecDepth 20000 in
theorem gX3_read_X3_stateOf : GoodIn wsX3_read (va_wsS RX3 82 yX3_stateOf wsX3_stateOf) := goodIn_app (goodIn_of _ (by decide +kernel)) ggX3_read_X3_stateOf
set_option maxRecDepth 20000 in
theorem ggX3_read_X6_within : GoodIn wsX3_read wsX6_within := goodIn_r _ [7] (by decide +kernel) (by decide +kernel)
set_option maxRecDepth 20000 in
theorem gX3_read_X6_within_n47 : GoodIn wsX3_read (wsX6_within) := ggX3_read_X6_within
theorem dX3_read_0 : decode cX3_read 0 = .ok (.iload_n 1, 1) := by decide +kernel
theorem dX3_read_1 : decode cX3_read 1 = .ok (.iload_n 2, 1) := by decide +kernel
theorem dX3_read_2 : decode cX3_read 2 = .ok (.iload_n 3, 1) := by decide +kernel
theorem dX3_read_3 : decode cX3_read 3 = .ok (.invokestatic 82, 3) := by decide +kernel
theorem dX3_read_6 : decode cX3_read 6 = .ok (.istore 4, 2) := by decide +kernel
theorem dX3_read_8 : decode cX3_read 8 = .ok (.iload 4, 2) := by decide +kernel
theorem dX3_read_10 : decode cX3_read 10 = .ok (.iconst 0, 1) := by decide +kernel
theorem dX3_read_11 : decode cX3_read 11 = .ok (.aload_n 0, 1) := by decide +kernel
theorem dX3_read_12 : decode cX3_read 12 = .ok (.arraylength, 1) := by decide +kernel
theorem dX3_read_13 : decode cX3_read 13 = .ok (.iconst 1, 1) := by decide +kernel
theorem dX3_read_14 : decode cX3_read 14 = .ok (.isub, 1) := by decide +kernel
theorem dX3_read_15 : decode cX3_read 15 = .ok (.invokestatic 47, 3) := by decide +kernel
theorem dX3_read_18 : decode cX3_read 18 = .ok (.ifCond .eq 10, 3) := by decide +kernel
theorem dX3_read_21 : decode cX3_read 21 = .ok (.aload_n 0, 1) := by decide +kernel
theorem dX3_read_22 : decode cX3_read 22 = .ok (.iload 4, 2) := by decide +kernel
theorem dX3_read_24 : decode cX3_read 24 = .ok (.laload, 1) := by decide +kernel
theorem dX3_read_25 : decode cX3_read 25 = .ok (.goto 4, 3) := by decide +kernel
theorem dX3_read_28 : decode cX3_read 28 = .ok (.lconst 0, 1) := by decide +kernel
theorem dX3_read_29 : decode cX3_read 29 = .ok (.lreturn, 1) := by decide +kernel
set_option maxRecDepth 20000 in
theorem ggX3_readInt_X3_stateOf : GoodIn wsX3_readInt wsX3_stateOf := goodIn_r _ [4] (by decide +kernel) (by decide +kernel)
set_option maxRecDepth 20000 in
theorem gX3_readInt_X3_stateOf : GoodIn wsX3_readInt (va_wsS RX3 82 yX3_stateOf wsX3_stateOf) := goodIn_app (goodIn_of _ (by decide +kernel)) ggX3_readInt_X3_stateOf
set_option maxRecDepth 20000 in
theorem ggX3_readInt_X6_within : GoodIn wsX3_readInt wsX6_within := goodIn_r _ [7] (by decide +kernel) (by decide +kernel)
set_option maxRecDepth 20000 in
theorem gX3_readInt_X6_within_n47 : GoodIn wsX3_readInt (wsX6_within) := ggX3_readInt_X6_within
theorem dX3_readInt_0 : decode cX3_readInt 0 = .ok (.iload_n 1, 1) := by decide +kernel
theorem dX3_readInt_1 : decode cX3_readInt 1 = .ok (.iload_n 2, 1) := by decide +kernel
theorem dX3_readInt_2 : decode cX3_readInt 2 = .ok (.iload_n 3, 1) := by decide +kernel
theorem dX3_readInt_3 : decode cX3_readInt 3 = .ok (.invokestatic 82, 3) := by decide +kernel
theorem dX3_readInt_6 : decode cX3_readInt 6 = .ok (.istore 4, 2) := by decide +kernel
theorem dX3_readInt_8 : decode cX3_readInt 8 = .ok (.iload 4, 2) := by decide +kernel
theorem dX3_readInt_10 : decode cX3_readInt 10 = .ok (.iconst 0, 1) := by decide +kernel
theorem dX3_readInt_11 : decode cX3_readInt 11 = .ok (.aload_n 0, 1) := by decide +kernel
theorem dX3_readInt_12 : decode cX3_readInt 12 = .ok (.arraylength, 1) := by decide +kernel
theorem dX3_readInt_13 : decode cX3_readInt 13 = .ok (.iconst 1, 1) := by decide +kernel
theorem dX3_readInt_14 : decode cX3_readInt 14 = .ok (.isub, 1) := by decide +kernel
theorem dX3_readInt_15 : decode cX3_readInt 15 = .ok (.invokestatic 47, 3) := by decide +kernel
theorem dX3_readInt_18 : decode cX3_readInt 18 = .ok (.ifCond .eq 10, 3) := by decide +kernel
theorem dX3_readInt_21 : decode cX3_readInt 21 = .ok (.aload_n 0, 1) := by decide +kernel
theorem dX3_readInt_22 : decode cX3_readInt 22 = .ok (.iload 4, 2) := by decide +kernel
theorem dX3_readInt_24 : decode cX3_readInt 24 = .ok (.iaload, 1) := by decide +kernel
theorem dX3_readInt_25 : decode cX3_readInt 25 = .ok (.goto 4, 3) := by decide +kernel
theorem dX3_readInt_28 : decode cX3_readInt 28 = .ok (.iconst 0, 1) := by decide +kernel
theorem dX3_readInt_29 : decode cX3_readInt 29 = .ok (.ireturn, 1) := by decide +kernel
theorem dX3_stateOf_0 : decode cX3_stateOf 0 = .ok (.iload_n 0, 1) := by decide +kernel
theorem dX3_stateOf_1 : decode cX3_stateOf 1 = .ok (.ifCond .lt 33, 3) := by decide +kernel
theorem dX3_stateOf_4 : decode cX3_stateOf 4 = .ok (.iload_n 0, 1) := by decide +kernel
theorem dX3_stateOf_5 : decode cX3_stateOf 5 = .ok (.bipush 12, 2) := by decide +kernel
theorem dX3_stateOf_7 : decode cX3_stateOf 7 = .ok (.if_icmp .gt 27, 3) := by decide +kernel
theorem dX3_stateOf_10 : decode cX3_stateOf 10 = .ok (.iload_n 1, 1) := by decide +kernel
theorem dX3_stateOf_11 : decode cX3_stateOf 11 = .ok (.ifCond .lt 23, 3) := by decide +kernel
theorem dX3_stateOf_14 : decode cX3_stateOf 14 = .ok (.iload_n 1, 1) := by decide +kernel
theorem dX3_stateOf_15 : decode cX3_stateOf 15 = .ok (.bipush 12, 2) := by decide +kernel
theorem dX3_stateOf_17 : decode cX3_stateOf 17 = .ok (.if_icmp .gt 17, 3) := by decide +kernel
theorem dX3_stateOf_20 : decode cX3_stateOf 20 = .ok (.iload_n 2, 1) := by decide +kernel
theorem dX3_stateOf_21 : decode cX3_stateOf 21 = .ok (.ifCond .lt 13, 3) := by decide +kernel
theorem dX3_stateOf_24 : decode cX3_stateOf 24 = .ok (.iload_n 2, 1) := by decide +kernel
theorem dX3_stateOf_25 : decode cX3_stateOf 25 = .ok (.bipush 6, 2) := by decide +kernel
theorem dX3_stateOf_27 : decode cX3_stateOf 27 = .ok (.if_icmp .ge 7, 3) := by decide +kernel
theorem dX3_stateOf_30 : decode cX3_stateOf 30 = .ok (.iconst 1, 1) := by decide +kernel
theorem dX3_stateOf_31 : decode cX3_stateOf 31 = .ok (.goto 4, 3) := by decide +kernel
theorem dX3_stateOf_34 : decode cX3_stateOf 34 = .ok (.iconst 0, 1) := by decide +kernel
theorem dX3_stateOf_35 : decode cX3_stateOf 35 = .ok (.istore_n 3, 1) := by decide +kernel
theorem dX3_stateOf_36 : decode cX3_stateOf 36 = .ok (.iload_n 3, 1) := by decide +kernel
theorem dX3_stateOf_37 : decode cX3_stateOf 37 = .ok (.ifCond .eq 17, 3) := by decide +kernel
theorem dX3_stateOf_40 : decode cX3_stateOf 40 = .ok (.iload_n 0, 1) := by decide +kernel
theorem dX3_stateOf_41 : decode cX3_stateOf 41 = .ok (.bipush 13, 2) := by decide +kernel
theorem dX3_stateOf_43 : decode cX3_stateOf 43 = .ok (.imul, 1) := by decide +kernel
theorem dX3_stateOf_44 : decode cX3_stateOf 44 = .ok (.iload_n 1, 1) := by decide +kernel
theorem dX3_stateOf_45 : decode cX3_stateOf 45 = .ok (.iadd, 1) := by decide +kernel
theorem dX3_stateOf_46 : decode cX3_stateOf 46 = .ok (.bipush 6, 2) := by decide +kernel
theorem dX3_stateOf_48 : decode cX3_stateOf 48 = .ok (.imul, 1) := by decide +kernel
theorem dX3_stateOf_49 : decode cX3_stateOf 49 = .ok (.iload_n 2, 1) := by decide +kernel
theorem dX3_stateOf_50 : decode cX3_stateOf 50 = .ok (.iadd, 1) := by decide +kernel
theorem dX3_stateOf_51 : decode cX3_stateOf 51 = .ok (.goto 4, 3) := by decide +kernel
theorem dX3_stateOf_54 : decode cX3_stateOf 54 = .ok (.iconst (-1), 1) := by decide +kernel
theorem dX3_stateOf_55 : decode cX3_stateOf 55 = .ok (.ireturn, 1) := by decide +kernel
set_option maxRecDepth 20000 in
theorem ggX4_init_J7_fill_53178 : GoodIn wsX4_init wsJ7_fill_53178 := goodIn_r _ [10] (by decide +kernel) (by decide +kernel)
set_option maxRecDepth 20000 in
theorem gX4_init_J7_fill_53178 : GoodIn wsX4_init (va_wsS RX4 15 yJ7_fill_53178 wsJ7_fill_53178) := goodIn_app (goodIn_of _ (by decide +kernel)) ggX4_init_J7_fill_53178
theorem dX4_init_0 : decode cX4_init 0 = .ok (.aload_n 0, 1) := by decide +kernel
theorem dX4_init_1 : decode cX4_init 1 = .ok (.invokespecial 3, 3) := by decide +kernel
theorem dX4_init_4 : decode cX4_init 4 = .ok (.aload_n 0, 1) := by decide +kernel
theorem dX4_init_5 : decode cX4_init 5 = .ok (.sipush 600, 3) := by decide +kernel
theorem dX4_init_8 : decode cX4_init 8 = .ok (.newarray .int, 2) := by decide +kernel
theorem dX4_init_10 : decode cX4_init 10 = .ok (.putfield 9, 3) := by decide +kernel
theorem dX4_init_13 : decode cX4_init 13 = .ok (.aload_n 0, 1) := by decide +kernel
theorem dX4_init_14 : decode cX4_init 14 = .ok (.getfield 9, 3) := by decide +kernel
theorem dX4_init_17 : decode cX4_init 17 = .ok (.iconst (-1), 1) := by decide +kernel
theorem dX4_init_18 : decode cX4_init 18 = .ok (.invokestatic 15, 3) := by decide +kernel
theorem dX4_init_21 : decode cX4_init 21 = .ok (.aload_n 0, 1) := by decide +kernel
theorem dX4_init_22 : decode cX4_init 22 = .ok (.bipush 100, 2) := by decide +kernel
theorem dX4_init_24 : decode cX4_init 24 = .ok (.putfield 21, 3) := by decide +kernel
theorem dX4_init_27 : decode cX4_init 27 = .ok (.return_, 1) := by decide +kernel
set_option maxRecDepth 20000 in
theorem ggX4_put_X4_isLetHour : GoodIn wsX4_put wsX4_isLetHour := goodIn_r _ [5, 6, 7, 8] (by decide +kernel) (by decide +kernel)
set_option maxRecDepth 20000 in
theorem gX4_put_X4_isLetHour : GoodIn wsX4_put (va_wsS RX4 25 yX4_isLetHour wsX4_isLetHour) := goodIn_app (goodIn_of _ (by decide +kernel)) ggX4_put_X4_isLetHour
theorem dX4_put_0 : decode cX4_put 0 = .ok (.iload_n 2, 1) := by decide +kernel
theorem dX4_put_1 : decode cX4_put 1 = .ok (.istore 5, 2) := by decide +kernel
theorem dX4_put_3 : decode cX4_put 3 = .ok (.iload 5, 2) := by decide +kernel
theorem dX4_put_5 : decode cX4_put 5 = .ok (.iload_n 3, 1) := by decide +kernel
theorem dX4_put_6 : decode cX4_put 6 = .ok (.if_icmp .gt 41, 3) := by decide +kernel
theorem dX4_put_9 : decode cX4_put 9 = .ok (.iload 5, 2) := by decide +kernel
theorem dX4_put_11 : decode cX4_put 11 = .ok (.sipush 200, 3) := by decide +kernel
theorem dX4_put_14 : decode cX4_put 14 = .ok (.if_icmp .ge 33, 3) := by decide +kernel
theorem dX4_put_17 : decode cX4_put 17 = .ok (.iload_n 1, 1) := by decide +kernel
theorem dX4_put_18 : decode cX4_put 18 = .ok (.iload 5, 2) := by decide +kernel
theorem dX4_put_20 : decode cX4_put 20 = .ok (.invokestatic 25, 3) := by decide +kernel
theorem dX4_put_23 : decode cX4_put 23 = .ok (.ifCond .eq 18, 3) := by decide +kernel
theorem dX4_put_26 : decode cX4_put 26 = .ok (.aload_n 0, 1) := by decide +kernel
theorem dX4_put_27 : decode cX4_put 27 = .ok (.getfield 9, 3) := by decide +kernel
theorem dX4_put_30 : decode cX4_put 30 = .ok (.iload_n 1, 1) := by decide +kernel
theorem dX4_put_31 : decode cX4_put 31 = .ok (.sipush 200, 3) := by decide +kernel
theorem dX4_put_34 : decode cX4_put 34 = .ok (.imul, 1) := by decide +kernel
theorem dX4_put_35 : decode cX4_put 35 = .ok (.iload 5, 2) := by decide +kernel
theorem dX4_put_37 : decode cX4_put 37 = .ok (.iadd, 1) := by decide +kernel
theorem dX4_put_38 : decode cX4_put 38 = .ok (.iload 4, 2) := by decide +kernel
theorem dX4_put_40 : decode cX4_put 40 = .ok (.iastore, 1) := by decide +kernel
theorem dX4_put_41 : decode cX4_put 41 = .ok (.iinc 5 1, 3) := by decide +kernel
theorem dX4_put_44 : decode cX4_put 44 = .ok (.goto (-41), 3) := by decide +kernel
theorem dX4_put_47 : decode cX4_put 47 = .ok (.return_, 1) := by decide +kernel
set_option maxRecDepth 20000 in
theorem ggX4_at_X4_isLetHour : GoodIn wsX4_at wsX4_isLetHour := goodIn_r _ [6, 7, 8, 9] (by decide +kernel) (by decide +kernel)
set_option maxRecDepth 20000 in
theorem gX4_at_X4_isLetHour : GoodIn wsX4_at (va_wsS RX4 25 yX4_isLetHour wsX4_isLetHour) := goodIn_app (goodIn_of _ (by decide +kernel)) ggX4_at_X4_isLetHour
theorem dX4_at_0 : decode cX4_at 0 = .ok (.iload_n 1, 1) := by decide +kernel
theorem dX4_at_1 : decode cX4_at 1 = .ok (.iconst 3, 1) := by decide +kernel
theorem dX4_at_2 : decode cX4_at 2 = .ok (.if_icmp .ne 8, 3) := by decide +kernel
theorem dX4_at_5 : decode cX4_at 5 = .ok (.aload_n 0, 1) := by decide +kernel
theorem dX4_at_6 : decode cX4_at 6 = .ok (.getfield 21, 3) := by decide +kernel
theorem dX4_at_9 : decode cX4_at 9 = .ok (.ireturn, 1) := by decide +kernel
theorem dX4_at_10 : decode cX4_at 10 = .ok (.iload_n 1, 1) := by decide +kernel
theorem dX4_at_11 : decode cX4_at 11 = .ok (.iload_n 2, 1) := by decide +kernel
theorem dX4_at_12 : decode cX4_at 12 = .ok (.invokestatic 25, 3) := by decide +kernel
theorem dX4_at_15 : decode cX4_at 15 = .ok (.ifCond .eq 18, 3) := by decide +kernel
theorem dX4_at_18 : decode cX4_at 18 = .ok (.aload_n 0, 1) := by decide +kernel
theorem dX4_at_19 : decode cX4_at 19 = .ok (.getfield 9, 3) := by decide +kernel
theorem dX4_at_22 : decode cX4_at 22 = .ok (.iload_n 1, 1) := by decide +kernel
theorem dX4_at_23 : decode cX4_at 23 = .ok (.sipush 200, 3) := by decide +kernel
theorem dX4_at_26 : decode cX4_at 26 = .ok (.imul, 1) := by decide +kernel
theorem dX4_at_27 : decode cX4_at 27 = .ok (.iload_n 2, 1) := by decide +kernel
theorem dX4_at_28 : decode cX4_at 28 = .ok (.iadd, 1) := by decide +kernel
theorem dX4_at_29 : decode cX4_at 29 = .ok (.iaload, 1) := by decide +kernel
theorem dX4_at_30 : decode cX4_at 30 = .ok (.goto 4, 3) := by decide +kernel
theorem dX4_at_33 : decode cX4_at 33 = .ok (.iconst (-1), 1) := by decide +kernel
theorem dX4_at_34 : decode cX4_at 34 = .ok (.ireturn, 1) := by decide +kernel
set_option maxRecDepth 20000 in
theorem ggX4_isLetHour_X6_within : GoodIn wsX4_isLetHour wsX6_within := goodIn_r _ [3] (by decide +kernel) (by decide +kernel)
set_option maxRecDepth 20000 in
theorem gX4_isLetHour_X6_within_n29 : GoodIn wsX4_isLetHour (wsX6_within) := ggX4_isLetHour_X6_within
theorem dX4_isLetHour_0 : decode cX4_isLetHour 0 = .ok (.iload_n 0, 1) := by decide +kernel
theorem dX4_isLetHour_1 : decode cX4_isLetHour 1 = .ok (.iconst 0, 1) := by decide +kernel
theorem dX4_isLetHour_2 : decode cX4_isLetHour 2 = .ok (.iconst 2, 1) := by decide +kernel
theorem dX4_isLetHour_3 : decode cX4_isLetHour 3 = .ok (.invokestatic 29, 3) := by decide +kernel
theorem dX4_isLetHour_6 : decode cX4_isLetHour 6 = .ok (.ifCond .eq 18, 3) := by decide +kernel
theorem dX4_isLetHour_9 : decode cX4_isLetHour 9 = .ok (.iload_n 1, 1) := by decide +kernel
theorem dX4_isLetHour_10 : decode cX4_isLetHour 10 = .ok (.iconst 0, 1) := by decide +kernel
theorem dX4_isLetHour_11 : decode cX4_isLetHour 11 = .ok (.sipush 199, 3) := by decide +kernel
theorem dX4_isLetHour_14 : decode cX4_isLetHour 14 = .ok (.invokestatic 29, 3) := by decide +kernel
theorem dX4_isLetHour_17 : decode cX4_isLetHour 17 = .ok (.ifCond .eq 7, 3) := by decide +kernel
theorem dX4_isLetHour_20 : decode cX4_isLetHour 20 = .ok (.iconst 1, 1) := by decide +kernel
theorem dX4_isLetHour_21 : decode cX4_isLetHour 21 = .ok (.goto 4, 3) := by decide +kernel
theorem dX4_isLetHour_24 : decode cX4_isLetHour 24 = .ok (.iconst 0, 1) := by decide +kernel
theorem dX4_isLetHour_25 : decode cX4_isLetHour 25 = .ok (.ireturn, 1) := by decide +kernel
theorem dX5_init_0 : decode cX5_init 0 = .ok (.aload_n 0, 1) := by decide +kernel
theorem dX5_init_1 : decode cX5_init 1 = .ok (.invokespecial 3, 3) := by decide +kernel
theorem dX5_init_4 : decode cX5_init 4 = .ok (.aload_n 0, 1) := by decide +kernel
theorem dX5_init_5 : decode cX5_init 5 = .ok (.iload_n 1, 1) := by decide +kernel
theorem dX5_init_6 : decode cX5_init 6 = .ok (.ldc 9, 2) := by decide +kernel
theorem dX5_init_8 : decode cX5_init 8 = .ok (.idiv, 1) := by decide +kernel
theorem dX5_init_9 : decode cX5_init 9 = .ok (.putfield 10, 3) := by decide +kernel
theorem dX5_init_12 : decode cX5_init 12 = .ok (.aload_n 0, 1) := by decide +kernel
theorem dX5_init_13 : decode cX5_init 13 = .ok (.iload_n 1, 1) := by decide +kernel
theorem dX5_init_14 : decode cX5_init 14 = .ok (.sipush 1000, 3) := by decide +kernel
theorem dX5_init_17 : decode cX5_init 17 = .ok (.idiv, 1) := by decide +kernel
theorem dX5_init_18 : decode cX5_init 18 = .ok (.sipush 1000, 3) := by decide +kernel
theorem dX5_init_21 : decode cX5_init 21 = .ok (.irem, 1) := by decide +kernel
theorem dX5_init_22 : decode cX5_init 22 = .ok (.putfield 16, 3) := by decide +kernel
theorem dX5_init_25 : decode cX5_init 25 = .ok (.aload_n 0, 1) := by decide +kernel
theorem dX5_init_26 : decode cX5_init 26 = .ok (.iload_n 1, 1) := by decide +kernel
theorem dX5_init_27 : decode cX5_init 27 = .ok (.bipush 100, 2) := by decide +kernel
theorem dX5_init_29 : decode cX5_init 29 = .ok (.idiv, 1) := by decide +kernel
theorem dX5_init_30 : decode cX5_init 30 = .ok (.bipush 10, 2) := by decide +kernel
theorem dX5_init_32 : decode cX5_init 32 = .ok (.irem, 1) := by decide +kernel
theorem dX5_init_33 : decode cX5_init 33 = .ok (.putfield 19, 3) := by decide +kernel
theorem dX5_init_36 : decode cX5_init 36 = .ok (.aload_n 0, 1) := by decide +kernel
theorem dX5_init_37 : decode cX5_init 37 = .ok (.iload_n 1, 1) := by decide +kernel
theorem dX5_init_38 : decode cX5_init 38 = .ok (.bipush 10, 2) := by decide +kernel
theorem dX5_init_40 : decode cX5_init 40 = .ok (.idiv, 1) := by decide +kernel
theorem dX5_init_41 : decode cX5_init 41 = .ok (.bipush 10, 2) := by decide +kernel
theorem dX5_init_43 : decode cX5_init 43 = .ok (.irem, 1) := by decide +kernel
theorem dX5_init_44 : decode cX5_init 44 = .ok (.putfield 22, 3) := by decide +kernel
theorem dX5_init_47 : decode cX5_init 47 = .ok (.aload_n 0, 1) := by decide +kernel
theorem dX5_init_48 : decode cX5_init 48 = .ok (.iload_n 1, 1) := by decide +kernel
theorem dX5_init_49 : decode cX5_init 49 = .ok (.bipush 10, 2) := by decide +kernel
theorem dX5_init_51 : decode cX5_init 51 = .ok (.irem, 1) := by decide +kernel
theorem dX5_init_52 : decode cX5_init 52 = .ok (.putfield 25, 3) := by decide +kernel
theorem dX5_init_55 : decode cX5_init 55 = .ok (.aload_n 0, 1) := by decide +kernel
theorem dX5_init_56 : decode cX5_init 56 = .ok (.iload_n 2, 1) := by decide +kernel
theorem dX5_init_57 : decode cX5_init 57 = .ok (.putfield 28, 3) := by decide +kernel
theorem dX5_init_60 : decode cX5_init 60 = .ok (.aload_n 0, 1) := by decide +kernel
theorem dX5_init_61 : decode cX5_init 61 = .ok (.iload_n 3, 1) := by decide +kernel
theorem dX5_init_62 : decode cX5_init 62 = .ok (.putfield 31, 3) := by decide +kernel
theorem dX5_init_65 : decode cX5_init 65 = .ok (.aload_n 0, 1) := by decide +kernel
theorem dX5_init_66 : decode cX5_init 66 = .ok (.iload 4, 2) := by decide +kernel
theorem dX5_init_68 : decode cX5_init 68 = .ok (.putfield 34, 3) := by decide +kernel
theorem dX5_init_71 : decode cX5_init 71 = .ok (.return_, 1) := by decide +kernel
set_option maxRecDepth 20000 in
theorem ggX5_canBe_X6_within : GoodIn wsX5_canBe wsX6_within := goodIn_r _ [11] (by decide +kernel) (by decide +kernel)
set_option maxRecDepth 20000 in
theorem gX5_canBe_X6_within_n37 : GoodIn wsX5_canBe (wsX6_within) := ggX5_canBe_X6_within
theorem dX5_canBe_0 : decode cX5_canBe 0 = .ok (.aload_n 0, 1) := by decide +kernel
theorem dX5_canBe_1 : decode cX5_canBe 1 = .ok (.getfield 10, 3) := by decide +kernel
theorem dX5_canBe_4 : decode cX5_canBe 4 = .ok (.iconst 1, 1) := by decide +kernel
theorem dX5_canBe_5 : decode cX5_canBe 5 = .ok (.bipush 30, 2) := by decide +kernel
theorem dX5_canBe_7 : decode cX5_canBe 7 = .ok (.invokestatic 37, 3) := by decide +kernel
theorem dX5_canBe_10 : decode cX5_canBe 10 = .ok (.ifCond .eq 100, 3) := by decide +kernel
theorem dX5_canBe_13 : decode cX5_canBe 13 = .ok (.aload_n 0, 1) := by decide +kernel
theorem dX5_canBe_14 : decode cX5_canBe 14 = .ok (.getfield 16, 3) := by decide +kernel
theorem dX5_canBe_17 : decode cX5_canBe 17 = .ok (.iconst 0, 1) := by decide +kernel
theorem dX5_canBe_18 : decode cX5_canBe 18 = .ok (.sipush 200, 3) := by decide +kernel
theorem dX5_canBe_21 : decode cX5_canBe 21 = .ok (.invokestatic 37, 3) := by decide +kernel
theorem dX5_canBe_24 : decode cX5_canBe 24 = .ok (.ifCond .eq 86, 3) := by decide +kernel
theorem dX5_canBe_27 : decode cX5_canBe 27 = .ok (.aload_n 0, 1) := by decide +kernel
theorem dX5_canBe_28 : decode cX5_canBe 28 = .ok (.getfield 19, 3) := by decide +kernel
theorem dX5_canBe_31 : decode cX5_canBe 31 = .ok (.iconst 0, 1) := by decide +kernel
theorem dX5_canBe_32 : decode cX5_canBe 32 = .ok (.iconst 2, 1) := by decide +kernel
theorem dX5_canBe_33 : decode cX5_canBe 33 = .ok (.invokestatic 37, 3) := by decide +kernel
theorem dX5_canBe_36 : decode cX5_canBe 36 = .ok (.ifCond .eq 74, 3) := by decide +kernel
theorem dX5_canBe_39 : decode cX5_canBe 39 = .ok (.aload_n 0, 1) := by decide +kernel
theorem dX5_canBe_40 : decode cX5_canBe 40 = .ok (.getfield 22, 3) := by decide +kernel
theorem dX5_canBe_43 : decode cX5_canBe 43 = .ok (.iconst 0, 1) := by decide +kernel
theorem dX5_canBe_44 : decode cX5_canBe 44 = .ok (.iconst 5, 1) := by decide +kernel
theorem dX5_canBe_45 : decode cX5_canBe 45 = .ok (.invokestatic 37, 3) := by decide +kernel
theorem dX5_canBe_48 : decode cX5_canBe 48 = .ok (.ifCond .eq 62, 3) := by decide +kernel
theorem dX5_canBe_51 : decode cX5_canBe 51 = .ok (.aload_n 0, 1) := by decide +kernel
theorem dX5_canBe_52 : decode cX5_canBe 52 = .ok (.getfield 25, 3) := by decide +kernel
theorem dX5_canBe_55 : decode cX5_canBe 55 = .ok (.iconst 0, 1) := by decide +kernel
theorem dX5_canBe_56 : decode cX5_canBe 56 = .ok (.iconst 5, 1) := by decide +kernel
theorem dX5_canBe_57 : decode cX5_canBe 57 = .ok (.invokestatic 37, 3) := by decide +kernel
theorem dX5_canBe_60 : decode cX5_canBe 60 = .ok (.ifCond .eq 50, 3) := by decide +kernel
theorem dX5_canBe_63 : decode cX5_canBe 63 = .ok (.aload_n 0, 1) := by decide +kernel
theorem dX5_canBe_64 : decode cX5_canBe 64 = .ok (.getfield 28, 3) := by decide +kernel
theorem dX5_canBe_67 : decode cX5_canBe 67 = .ok (.iconst 0, 1) := by decide +kernel
theorem dX5_canBe_68 : decode cX5_canBe 68 = .ok (.sipush 999, 3) := by decide +kernel
theorem dX5_canBe_71 : decode cX5_canBe 71 = .ok (.invokestatic 37, 3) := by decide +kernel
theorem dX5_canBe_74 : decode cX5_canBe 74 = .ok (.ifCond .eq 36, 3) := by decide +kernel
theorem dX5_canBe_77 : decode cX5_canBe 77 = .ok (.aload_n 0, 1) := by decide +kernel
theorem dX5_canBe_78 : decode cX5_canBe 78 = .ok (.getfield 31, 3) := by decide +kernel
theorem dX5_canBe_81 : decode cX5_canBe 81 = .ok (.iconst 1, 1) := by decide +kernel
theorem dX5_canBe_82 : decode cX5_canBe 82 = .ok (.bipush 60, 2) := by decide +kernel
theorem dX5_canBe_84 : decode cX5_canBe 84 = .ok (.invokestatic 37, 3) := by decide +kernel
theorem dX5_canBe_87 : decode cX5_canBe 87 = .ok (.ifCond .eq 23, 3) := by decide +kernel
theorem dX5_canBe_90 : decode cX5_canBe 90 = .ok (.aload_n 0, 1) := by decide +kernel
