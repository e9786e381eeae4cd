theorem dX0_init_0 : decode cX0_init 0 = .ok (.aload_n 0, 1) := by decide +kernel
theorem dX0_init_1 : decode cX0_init 1 = .ok (.invokespecial 7, 3) := by decide +kernel
theorem dX0_init_4 : decode cX0_init 4 = .ok (.aload_n 0, 1) := by decide +kernel
theorem dX0_init_5 : decode cX0_init 5 = .ok (.aload_n 1, 1) := by decide +kernel
theorem dX0_init_6 : decode cX0_init 6 = .ok (.putfield 13, 3) := by decide +kernel
theorem dX0_init_9 : decode cX0_init 9 = .ok (.aload_n 0, 1) := by decide +kernel
theorem dX0_init_10 : decode cX0_init 10 = .ok (.sipush 900, 3) := by decide +kernel
theorem dX0_init_13 : decode cX0_init 13 = .ok (.newarray .int, 2) := by decide +kernel
theorem dX0_init_15 : decode cX0_init 15 = .ok (.putfield 19, 3) := by decide +kernel
theorem dX0_init_18 : decode cX0_init 18 = .ok (.return_, 1) := by decide +kernel
set_option maxRecDepth 20000 in
theorem ggX0_leastSum_X0_settleHour : GoodIn wsX0_leastSum wsX0_settleHour := goodIn_r _ [7, 8, 9, 10, 11, 6, 12, 13, 14, 15, 16, 17, 18, 19, 20, 21, 22, 23, 24, 25, 26, 27, 28, 29, 30, 31, 32, 33, 34, 35, 36, 37, 38, 39, 40, 41, 42, 43, 44, 45, 46, 47, 1, 48, 49, 50, 51, 52, 53, 54, 55, 56, 57, 58, 59, 60, 61, 62, 63, 64, 65, 66, 67, 68, 69, 70, 71, 72] (by decide +kernel) (by decide +kernel)
set_option maxRecDepth 20000 in
theorem gX0_leastSum_X0_settleHour : GoodIn wsX0_leastSum (wsV RX0 30 RX0 yX0_settleHour wsX0_settleHour) := goodIn_app (goodIn_of _ (by decide +kernel)) ggX0_leastSum_X0_settleHour
set_option maxRecDepth 20000 in
theorem ggX0_leastSum_X0_from : GoodIn wsX0_leastSum wsX0_from := goodIn_r _ [47, 1, 23, 8, 48, 49, 50, 6, 51, 34, 35, 36, 61, 62, 63, 64, 65, 66, 67, 68, 69, 70] (by decide +kernel) (by decide +kernel)
set_option maxRecDepth 20000 in
theorem gX0_leastSum_X0_from : GoodIn wsX0_leastSum (wsV RX0 34 RX0 yX0_from wsX0_from) := goodIn_app (goodIn_of _ (by decide +kernel)) ggX0_leastSum_X0_from
theorem dX0_leastSum_0 : decode cX0_leastSum 0 = .ok (.aload_n 1, 1) := by decide +kernel
theorem dX0_leastSum_1 : decode cX0_leastSum 1 = .ok (.getfield 23, 3) := by decide +kernel
theorem dX0_leastSum_4 : decode cX0_leastSum 4 = .ok (.iconst 1, 1) := by decide +kernel
theorem dX0_leastSum_5 : decode cX0_leastSum 5 = .ok (.isub, 1) := by decide +kernel
theorem dX0_leastSum_6 : decode cX0_leastSum 6 = .ok (.istore_n 2, 1) := by decide +kernel
theorem dX0_leastSum_7 : decode cX0_leastSum 7 = .ok (.iload_n 2, 1) := by decide +kernel
theorem dX0_leastSum_8 : decode cX0_leastSum 8 = .ok (.aload_n 1, 1) := by decide +kernel
theorem dX0_leastSum_9 : decode cX0_leastSum 9 = .ok (.getfield 27, 3) := by decide +kernel
theorem dX0_leastSum_12 : decode cX0_leastSum 12 = .ok (.if_icmp .lt 15, 3) := by decide +kernel
theorem dX0_leastSum_15 : decode cX0_leastSum 15 = .ok (.aload_n 0, 1) := by decide +kernel
theorem dX0_leastSum_16 : decode cX0_leastSum 16 = .ok (.aload_n 1, 1) := by decide +kernel
theorem dX0_leastSum_17 : decode cX0_leastSum 17 = .ok (.iload_n 2, 1) := by decide +kernel
theorem dX0_leastSum_18 : decode cX0_leastSum 18 = .ok (.invokevirtual 30, 3) := by decide +kernel
theorem dX0_leastSum_21 : decode cX0_leastSum 21 = .ok (.iinc 2 (-1), 3) := by decide +kernel
theorem dX0_leastSum_24 : decode cX0_leastSum 24 = .ok (.goto (-17), 3) := by decide +kernel
theorem dX0_leastSum_27 : decode cX0_leastSum 27 = .ok (.aload_n 0, 1) := by decide +kernel
theorem dX0_leastSum_28 : decode cX0_leastSum 28 = .ok (.aload_n 1, 1) := by decide +kernel
theorem dX0_leastSum_29 : decode cX0_leastSum 29 = .ok (.aload_n 1, 1) := by decide +kernel
theorem dX0_leastSum_30 : decode cX0_leastSum 30 = .ok (.getfield 27, 3) := by decide +kernel
theorem dX0_leastSum_33 : decode cX0_leastSum 33 = .ok (.iconst 4, 1) := by decide +kernel
theorem dX0_leastSum_34 : decode cX0_leastSum 34 = .ok (.iconst 0, 1) := by decide +kernel
theorem dX0_leastSum_35 : decode cX0_leastSum 35 = .ok (.invokevirtual 34, 3) := by decide +kernel
theorem dX0_leastSum_38 : decode cX0_leastSum 38 = .ok (.ireturn, 1) := by decide +kernel
set_option maxRecDepth 20000 in
theorem ggX0_settleHour_X0_onMachine : GoodIn wsX0_settleHour wsX0_onMachine := goodIn_r _ [6, 7, 8, 9, 10, 11, 12, 13, 14, 5, 15, 16, 17, 18, 19, 20, 21, 22, 23, 24, 25, 26, 27, 28, 29, 30, 31, 32, 33, 34, 35, 36, 37, 38, 39, 40, 41, 42, 1, 43, 44, 45, 46, 56, 57, 58, 59, 60, 61, 62, 63, 64, 65, 66, 67] (by decide +kernel) (by decide +kernel)
set_option maxRecDepth 20000 in
theorem gX0_settleHour_X0_onMachine : GoodIn wsX0_settleHour (wsV RX0 41 RX0 yX0_onMachine wsX0_onMachine) := goodIn_app (goodIn_of _ (by decide +kernel)) ggX0_settleHour_X0_onMachine
set_option maxRecDepth 20000 in
theorem ggX0_settleHour_X0_put : GoodIn wsX0_settleHour wsX0_put := goodIn_r _ [50, 43, 44, 45, 5, 46, 28, 29, 30, 64, 65] (by decide +kernel) (by decide +kernel)
set_option maxRecDepth 20000 in
theorem gX0_settleHour_X0_put : GoodIn wsX0_settleHour (wsV RX0 44 RX0 yX0_put wsX0_put) := goodIn_app (goodIn_of _ (by decide +kernel)) ggX0_settleHour_X0_put
set_option maxRecDepth 20000 in
theorem ggX0_settleHour_X0_onNone : GoodIn wsX0_settleHour wsX0_onNone := goodIn_r _ [54, 55, 17, 8, 9, 10, 11, 38, 39, 40, 5, 41, 42, 1, 43, 44, 45, 46, 28, 29, 30, 12, 13, 14, 15, 16, 18, 19, 20, 21, 22, 23, 24, 25, 26, 27, 31, 32, 33, 56, 57, 58, 59, 60, 61, 62, 63, 64, 65, 66, 67] (by decide +kernel) (by decide +kernel)
set_option maxRecDepth 20000 in
theorem gX0_settleHour_X0_onNone : GoodIn wsX0_settleHour (wsV RX0 48 RX0 yX0_onNone wsX0_onNone) := goodIn_app (goodIn_of _ (by decide +kernel)) ggX0_settleHour_X0_onNone
theorem dX0_settleHour_0 : decode cX0_settleHour 0 = .ok (.iconst 0, 1) := by decide +kernel
theorem dX0_settleHour_1 : decode cX0_settleHour 1 = .ok (.istore_n 3, 1) := by decide +kernel
theorem dX0_settleHour_2 : decode cX0_settleHour 2 = .ok (.iload_n 3, 1) := by decide +kernel
theorem dX0_settleHour_3 : decode cX0_settleHour 3 = .ok (.iconst 4, 1) := by decide +kernel
theorem dX0_settleHour_4 : decode cX0_settleHour 4 = .ok (.if_icmp .ge 44, 3) := by decide +kernel
theorem dX0_settleHour_7 : decode cX0_settleHour 7 = .ok (.iconst 0, 1) := by decide +kernel
theorem dX0_settleHour_8 : decode cX0_settleHour 8 = .ok (.istore 4, 2) := by decide +kernel
theorem dX0_settleHour_10 : decode cX0_settleHour 10 = .ok (.iload 4, 2) := by decide +kernel
theorem dX0_settleHour_12 : decode cX0_settleHour 12 = .ok (.aload_n 1, 1) := by decide +kernel
theorem dX0_settleHour_13 : decode cX0_settleHour 13 = .ok (.getfield 38, 3) := by decide +kernel
theorem dX0_settleHour_16 : decode cX0_settleHour 16 = .ok (.if_icmp .ge 26, 3) := by decide +kernel
theorem dX0_settleHour_19 : decode cX0_settleHour 19 = .ok (.aload_n 0, 1) := by decide +kernel
theorem dX0_settleHour_20 : decode cX0_settleHour 20 = .ok (.iload_n 2, 1) := by decide +kernel
theorem dX0_settleHour_21 : decode cX0_settleHour 21 = .ok (.iload_n 3, 1) := by decide +kernel
theorem dX0_settleHour_22 : decode cX0_settleHour 22 = .ok (.iload 4, 2) := by decide +kernel
theorem dX0_settleHour_24 : decode cX0_settleHour 24 = .ok (.aload_n 0, 1) := by decide +kernel
theorem dX0_settleHour_25 : decode cX0_settleHour 25 = .ok (.aload_n 1, 1) := by decide +kernel
theorem dX0_settleHour_26 : decode cX0_settleHour 26 = .ok (.iload_n 2, 1) := by decide +kernel
theorem dX0_settleHour_27 : decode cX0_settleHour 27 = .ok (.iload_n 3, 1) := by decide +kernel
theorem dX0_settleHour_28 : decode cX0_settleHour 28 = .ok (.iload 4, 2) := by decide +kernel
theorem dX0_settleHour_30 : decode cX0_settleHour 30 = .ok (.invokevirtual 41, 3) := by decide +kernel
theorem dX0_settleHour_33 : decode cX0_settleHour 33 = .ok (.invokevirtual 44, 3) := by decide +kernel
theorem dX0_settleHour_36 : decode cX0_settleHour 36 = .ok (.iinc 4 1, 3) := by decide +kernel
theorem dX0_settleHour_39 : decode cX0_settleHour 39 = .ok (.goto (-29), 3) := by decide +kernel
theorem dX0_settleHour_42 : decode cX0_settleHour 42 = .ok (.iinc 3 1, 3) := by decide +kernel
theorem dX0_settleHour_45 : decode cX0_settleHour 45 = .ok (.goto (-43), 3) := by decide +kernel
theorem dX0_settleHour_48 : decode cX0_settleHour 48 = .ok (.iconst 0, 1) := by decide +kernel
theorem dX0_settleHour_49 : decode cX0_settleHour 49 = .ok (.istore_n 3, 1) := by decide +kernel
theorem dX0_settleHour_50 : decode cX0_settleHour 50 = .ok (.iload_n 3, 1) := by decide +kernel
theorem dX0_settleHour_51 : decode cX0_settleHour 51 = .ok (.aload_n 1, 1) := by decide +kernel
theorem dX0_settleHour_52 : decode cX0_settleHour 52 = .ok (.getfield 38, 3) := by decide +kernel
theorem dX0_settleHour_55 : decode cX0_settleHour 55 = .ok (.if_icmp .ge 23, 3) := by decide +kernel
theorem dX0_settleHour_58 : decode cX0_settleHour 58 = .ok (.aload_n 0, 1) := by decide +kernel
theorem dX0_settleHour_59 : decode cX0_settleHour 59 = .ok (.iload_n 2, 1) := by decide +kernel
theorem dX0_settleHour_60 : decode cX0_settleHour 60 = .ok (.iconst 4, 1) := by decide +kernel
theorem dX0_settleHour_61 : decode cX0_settleHour 61 = .ok (.iload_n 3, 1) := by decide +kernel
theorem dX0_settleHour_62 : decode cX0_settleHour 62 = .ok (.aload_n 0, 1) := by decide +kernel
theorem dX0_settleHour_63 : decode cX0_settleHour 63 = .ok (.aload_n 1, 1) := by decide +kernel
theorem dX0_settleHour_64 : decode cX0_settleHour 64 = .ok (.iload_n 2, 1) := by decide +kernel
theorem dX0_settleHour_65 : decode cX0_settleHour 65 = .ok (.iload_n 3, 1) := by decide +kernel
theorem dX0_settleHour_66 : decode cX0_settleHour 66 = .ok (.invokevirtual 48, 3) := by decide +kernel
theorem dX0_settleHour_69 : decode cX0_settleHour 69 = .ok (.invokevirtual 44, 3) := by decide +kernel
theorem dX0_settleHour_72 : decode cX0_settleHour 72 = .ok (.iinc 3 1, 3) := by decide +kernel
theorem dX0_settleHour_75 : decode cX0_settleHour 75 = .ok (.goto (-25), 3) := by decide +kernel
theorem dX0_settleHour_78 : decode cX0_settleHour 78 = .ok (.return_, 1) := by decide +kernel
set_option maxRecDepth 20000 in
theorem ggX0_onMachine_X0_stay : GoodIn wsX0_onMachine wsX0_stay := goodIn_r _ [10, 11, 12, 13, 14, 15, 16, 17, 18, 19, 20, 21, 22, 23, 24, 25, 26, 27, 9, 28, 2, 3, 4, 5, 51, 52, 53, 54] (by decide +kernel) (by decide +kernel)
set_option maxRecDepth 20000 in
theorem gX0_onMachine_X0_stay : GoodIn wsX0_onMachine (wsV RX0 52 RX0 yX0_stay wsX0_stay) := goodIn_app (goodIn_of _ (by decide +kernel)) ggX0_onMachine_X0_stay
set_option maxRecDepth 20000 in
theorem ggX0_onMachine_X0_fromSaved : GoodIn wsX0_onMachine wsX0_fromSaved := goodIn_r _ [32, 2, 3, 4, 5, 33, 34, 35, 9, 36, 37, 12, 38, 39, 40, 41, 42, 23, 24, 25, 43, 44, 45, 46, 47, 48, 49, 50, 51, 52] (by decide +kernel) (by decide +kernel)
set_option maxRecDepth 20000 in
theorem gX0_onMachine_X0_fromSaved : GoodIn wsX0_onMachine (wsV RX0 59 RX0 yX0_fromSaved wsX0_fromSaved) := goodIn_app (goodIn_of _ (by decide +kernel)) ggX0_onMachine_X0_fromSaved
set_option maxRecDepth 20000 in
theorem ggX0_onMachine_X0_sum : GoodIn wsX0_onMachine wsX0_sum := goodIn_r _ [28, 12, 2, 3, 4, 5] (by decide +kernel) (by decide +kernel)
set_option maxRecDepth 20000 in
theorem gX0_onMachine_X0_sum : GoodIn wsX0_onMachine (va_wsS RX0 62 yX0_sum wsX0_sum) := goodIn_app (goodIn_of _ (by decide +kernel)) ggX0_onMachine_X0_sum
set_option maxRecDepth 20000 in
theorem ggX0_onMachine_X0_from : GoodIn wsX0_onMachine wsX0_from := goodIn_r _ [36, 37, 12, 38, 39, 40, 41, 9, 42, 23, 24, 25, 43, 44, 45, 46, 47, 48, 49, 50, 51, 52] (by decide +kernel) (by decide +kernel)
set_option maxRecDepth 20000 in
theorem gX0_onMachine_X0_from : GoodIn wsX0_onMachine (wsV RX0 34 RX0 yX0_from wsX0_from) := goodIn_app (goodIn_of _ (by decide +kernel)) ggX0_onMachine_X0_from
theorem dX0_onMachine_0 : decode cX0_onMachine 0 = .ok (.aload_n 0, 1) := by decide +kernel
theorem dX0_onMachine_1 : decode cX0_onMachine 1 = .ok (.iload_n 3, 1) := by decide +kernel
theorem dX0_onMachine_2 : decode cX0_onMachine 2 = .ok (.iload_n 2, 1) := by decide +kernel
theorem dX0_onMachine_3 : decode cX0_onMachine 3 = .ok (.iconst 1, 1) := by decide +kernel
theorem dX0_onMachine_4 : decode cX0_onMachine 4 = .ok (.invokevirtual 52, 3) := by decide +kernel
theorem dX0_onMachine_7 : decode cX0_onMachine 7 = .ok (.istore 5, 2) := by decide +kernel
theorem dX0_onMachine_9 : decode cX0_onMachine 9 = .ok (.aload_n 1, 1) := by decide +kernel
theorem dX0_onMachine_10 : decode cX0_onMachine 10 = .ok (.getfield 56, 3) := by decide +kernel
theorem dX0_onMachine_13 : decode cX0_onMachine 13 = .ok (.ifCond .ne 22, 3) := by decide +kernel
theorem dX0_onMachine_16 : decode cX0_onMachine 16 = .ok (.iload 5, 2) := by decide +kernel
theorem dX0_onMachine_18 : decode cX0_onMachine 18 = .ok (.aload_n 0, 1) := by decide +kernel
theorem dX0_onMachine_19 : decode cX0_onMachine 19 = .ok (.aload_n 1, 1) := by decide +kernel
theorem dX0_onMachine_20 : decode cX0_onMachine 20 = .ok (.iload_n 2, 1) := by decide +kernel
theorem dX0_onMachine_21 : decode cX0_onMachine 21 = .ok (.iconst 1, 1) := by decide +kernel
theorem dX0_onMachine_22 : decode cX0_onMachine 22 = .ok (.iadd, 1) := by decide +kernel
theorem dX0_onMachine_23 : decode cX0_onMachine 23 = .ok (.iload_n 3, 1) := by decide +kernel
theorem dX0_onMachine_24 : decode cX0_onMachine 24 = .ok (.iload 4, 2) := by decide +kernel
theorem dX0_onMachine_26 : decode cX0_onMachine 26 = .ok (.iconst 1, 1) := by decide +kernel
theorem dX0_onMachine_27 : decode cX0_onMachine 27 = .ok (.iadd, 1) := by decide +kernel
theorem dX0_onMachine_28 : decode cX0_onMachine 28 = .ok (.invokevirtual 59, 3) := by decide +kernel
theorem dX0_onMachine_31 : decode cX0_onMachine 31 = .ok (.invokestatic 62, 3) := by decide +kernel
theorem dX0_onMachine_34 : decode cX0_onMachine 34 = .ok (.ireturn, 1) := by decide +kernel
theorem dX0_onMachine_35 : decode cX0_onMachine 35 = .ok (.iload 5, 2) := by decide +kernel
theorem dX0_onMachine_37 : decode cX0_onMachine 37 = .ok (.aload_n 0, 1) := by decide +kernel
theorem dX0_onMachine_38 : decode cX0_onMachine 38 = .ok (.aload_n 1, 1) := by decide +kernel
theorem dX0_onMachine_39 : decode cX0_onMachine 39 = .ok (.iload_n 2, 1) := by decide +kernel
theorem dX0_onMachine_40 : decode cX0_onMachine 40 = .ok (.iconst 1, 1) := by decide +kernel
theorem dX0_onMachine_41 : decode cX0_onMachine 41 = .ok (.iadd, 1) := by decide +kernel
theorem dX0_onMachine_42 : decode cX0_onMachine 42 = .ok (.iload_n 3, 1) := by decide +kernel
theorem dX0_onMachine_43 : decode cX0_onMachine 43 = .ok (.iload 4, 2) := by decide +kernel
theorem dX0_onMachine_45 : decode cX0_onMachine 45 = .ok (.iconst 1, 1) := by decide +kernel
theorem dX0_onMachine_46 : decode cX0_onMachine 46 = .ok (.iadd, 1) := by decide +kernel
theorem dX0_onMachine_47 : decode cX0_onMachine 47 = .ok (.invokevirtual 34, 3) := by decide +kernel
theorem dX0_onMachine_50 : decode cX0_onMachine 50 = .ok (.invokestatic 62, 3) := by decide +kernel
theorem dX0_onMachine_53 : decode cX0_onMachine 53 = .ok (.istore 6, 2) := by decide +kernel
theorem dX0_onMachine_55 : decode cX0_onMachine 55 = .ok (.aload_n 0, 1) := by decide +kernel
theorem dX0_onMachine_56 : decode cX0_onMachine 56 = .ok (.iload_n 3, 1) := by decide +kernel
theorem dX0_onMachine_57 : decode cX0_onMachine 57 = .ok (.iload_n 2, 1) := by decide +kernel
theorem dX0_onMachine_58 : decode cX0_onMachine 58 = .ok (.aload_n 1, 1) := by decide +kernel
theorem dX0_onMachine_59 : decode cX0_onMachine 59 = .ok (.getfield 56, 3) := by decide +kernel
theorem dX0_onMachine_62 : decode cX0_onMachine 62 = .ok (.invokevirtual 52, 3) := by decide +kernel
theorem dX0_onMachine_65 : decode cX0_onMachine 65 = .ok (.istore 7, 2) := by decide +kernel
theorem dX0_onMachine_67 : decode cX0_onMachine 67 = .ok (.iload 6, 2) := by decide +kernel
theorem dX0_onMachine_69 : decode cX0_onMachine 69 = .ok (.iload 7, 2) := by decide +kernel
theorem dX0_onMachine_71 : decode cX0_onMachine 71 = .ok (.aload_n 0, 1) := by decide +kernel
theorem dX0_onMachine_72 : decode cX0_onMachine 72 = .ok (.aload_n 1, 1) := by decide +kernel
theorem dX0_onMachine_73 : decode cX0_onMachine 73 = .ok (.iload_n 2, 1) := by decide +kernel
theorem dX0_onMachine_74 : decode cX0_onMachine 74 = .ok (.aload_n 1, 1) := by decide +kernel
theorem dX0_onMachine_75 : decode cX0_onMachine 75 = .ok (.getfield 56, 3) := by decide +kernel
theorem dX0_onMachine_78 : decode cX0_onMachine 78 = .ok (.iadd, 1) := by decide +kernel
theorem dX0_onMachine_79 : decode cX0_onMachine 79 = .ok (.iload_n 3, 1) := by decide +kernel
theorem dX0_onMachine_80 : decode cX0_onMachine 80 = .ok (.iload 4, 2) := by decide +kernel
theorem dX0_onMachine_82 : decode cX0_onMachine 82 = .ok (.invokevirtual 59, 3) := by decide +kernel
theorem dX0_onMachine_85 : decode cX0_onMachine 85 = .ok (.invokestatic 62, 3) := by decide +kernel
theorem dX0_onMachine_88 : decode cX0_onMachine 88 = .ok (.invokestatic 66, 3) := by decide +kernel
theorem dX0_onMachine_91 : decode cX0_onMachine 91 = .ok (.ireturn, 1) := by decide +kernel
set_option maxRecDepth 20000 in
theorem ggX0_onNone_X0_from : GoodIn wsX0_onNone wsX0_from := goodIn_r _ [11, 12, 2, 13, 14, 15, 16, 10, 17, 18, 19, 20, 39, 40, 41, 42, 43, 44, 45, 46, 47, 48] (by decide +kernel) (by decide +kernel)
set_option maxRecDepth 20000 in
theorem gX0_onNone_X0_from : GoodIn wsX0_onNone (wsV RX0 34 RX0 yX0_from wsX0_from) := goodIn_app (goodIn_of _ (by decide +kernel)) ggX0_onNone_X0_from
set_option maxRecDepth 20000 in
theorem ggX0_onNone_X0_stay : GoodIn wsX0_onNone wsX0_stay := goodIn_r _ [24, 25, 2, 26, 27, 28, 29, 30, 31, 32, 33, 34, 35, 18, 19, 20, 36, 37, 10, 38, 3, 4, 5, 6, 47, 48, 49, 50] (by decide +kernel) (by decide +kernel)
set_option maxRecDepth 20000 in
theorem gX0_onNone_X0_stay : GoodIn wsX0_onNone (wsV RX0 52 RX0 yX0_stay wsX0_stay) := goodIn_app (goodIn_of _ (by decide +kernel)) ggX0_onNone_X0_stay
set_option maxRecDepth 20000 in
theorem ggX0_onNone_X0_sum : GoodIn wsX0_onNone wsX0_sum := goodIn_r _ [38, 2, 3, 4, 5, 6] (by decide +kernel) (by decide +kernel)
set_option maxRecDepth 20000 in
theorem gX0_onNone_X0_sum : GoodIn wsX0_onNone (va_wsS RX0 62 yX0_sum wsX0_sum) := goodIn_app (goodIn_of _ (by decide +kernel)) ggX0_onNone_X0_sum
theorem dX0_onNone_0 : decode cX0_onNone 0 = .ok (.aload_n 0, 1) := by decide +kernel
theorem dX0_onNone_1 : decode cX0_onNone 1 = .ok (.aload_n 1, 1) := by decide +kernel
theorem dX0_onNone_2 : decode cX0_onNone 2 = .ok (.iload_n 2, 1) := by decide +kernel
theorem dX0_onNone_3 : decode cX0_onNone 3 = .ok (.iconst 1, 1) := by decide +kernel
theorem dX0_onNone_4 : decode cX0_onNone 4 = .ok (.iadd, 1) := by decide +kernel
theorem dX0_onNone_5 : decode cX0_onNone 5 = .ok (.iconst 4, 1) := by decide +kernel
theorem dX0_onNone_6 : decode cX0_onNone 6 = .ok (.iload_n 3, 1) := by decide +kernel
theorem dX0_onNone_7 : decode cX0_onNone 7 = .ok (.invokevirtual 34, 3) := by decide +kernel
theorem dX0_onNone_10 : decode cX0_onNone 10 = .ok (.istore 4, 2) := by decide +kernel
theorem dX0_onNone_12 : decode cX0_onNone 12 = .ok (.iconst 0, 1) := by decide +kernel
theorem dX0_onNone_13 : decode cX0_onNone 13 = .ok (.istore 5, 2) := by decide +kernel
theorem dX0_onNone_15 : decode cX0_onNone 15 = .ok (.iload 5, 2) := by decide +kernel
theorem dX0_onNone_17 : decode cX0_onNone 17 = .ok (.iconst 4, 1) := by decide +kernel
theorem dX0_onNone_18 : decode cX0_onNone 18 = .ok (.if_icmp .ge 77, 3) := by decide +kernel
theorem dX0_onNone_21 : decode cX0_onNone 21 = .ok (.aload_n 0, 1) := by decide +kernel
theorem dX0_onNone_22 : decode cX0_onNone 22 = .ok (.aload_n 1, 1) := by decide +kernel
theorem dX0_onNone_23 : decode cX0_onNone 23 = .ok (.iload_n 2, 1) := by decide +kernel
theorem dX0_onNone_24 : decode cX0_onNone 24 = .ok (.iload 5, 2) := by decide +kernel
theorem dX0_onNone_26 : decode cX0_onNone 26 = .ok (.iconst 0, 1) := by decide +kernel
theorem dX0_onNone_27 : decode cX0_onNone 27 = .ok (.invokevirtual 34, 3) := by decide +kernel
theorem dX0_onNone_30 : decode cX0_onNone 30 = .ok (.istore 6, 2) := by decide +kernel
theorem dX0_onNone_32 : decode cX0_onNone 32 = .ok (.aload_n 0, 1) := by decide +kernel
theorem dX0_onNone_33 : decode cX0_onNone 33 = .ok (.iload 5, 2) := by decide +kernel
theorem dX0_onNone_35 : decode cX0_onNone 35 = .ok (.iload_n 2, 1) := by decide +kernel
theorem dX0_onNone_36 : decode cX0_onNone 36 = .ok (.aload_n 1, 1) := by decide +kernel
theorem dX0_onNone_37 : decode cX0_onNone 37 = .ok (.getfield 71, 3) := by decide +kernel
theorem dX0_onNone_40 : decode cX0_onNone 40 = .ok (.invokevirtual 52, 3) := by decide +kernel
theorem dX0_onNone_43 : decode cX0_onNone 43 = .ok (.istore 7, 2) := by decide +kernel
theorem dX0_onNone_45 : decode cX0_onNone 45 = .ok (.iload_n 3, 1) := by decide +kernel
theorem dX0_onNone_46 : decode cX0_onNone 46 = .ok (.ifCond .ne 8, 3) := by decide +kernel
theorem dX0_onNone_49 : decode cX0_onNone 49 = .ok (.ldc 74, 2) := by decide +kernel
theorem dX0_onNone_51 : decode cX0_onNone 51 = .ok (.goto 22, 3) := by decide +kernel
theorem dX0_onNone_54 : decode cX0_onNone 54 = .ok (.iload 7, 2) := by decide +kernel
theorem dX0_onNone_56 : decode cX0_onNone 56 = .ok (.aload_n 0, 1) := by decide +kernel
theorem dX0_onNone_57 : decode cX0_onNone 57 = .ok (.aload_n 1, 1) := by decide +kernel
theorem dX0_onNone_58 : decode cX0_onNone 58 = .ok (.iload_n 2, 1) := by decide +kernel
theorem dX0_onNone_59 : decode cX0_onNone 59 = .ok (.aload_n 1, 1) := by decide +kernel
theorem dX0_onNone_60 : decode cX0_onNone 60 = .ok (.getfield 71, 3) := by decide +kernel
theorem dX0_onNone_63 : decode cX0_onNone 63 = .ok (.iadd, 1) := by decide +kernel
theorem dX0_onNone_64 : decode cX0_onNone 64 = .ok (.iload 5, 2) := by decide +kernel
theorem dX0_onNone_66 : decode cX0_onNone 66 = .ok (.iload_n 3, 1) := by decide +kernel
theorem dX0_onNone_67 : decode cX0_onNone 67 = .ok (.invokevirtual 34, 3) := by decide +kernel
theorem dX0_onNone_70 : decode cX0_onNone 70 = .ok (.invokestatic 62, 3) := by decide +kernel
theorem dX0_onNone_73 : decode cX0_onNone 73 = .ok (.istore 8, 2) := by decide +kernel
theorem dX0_onNone_75 : decode cX0_onNone 75 = .ok (.iload 4, 2) := by decide +kernel
theorem dX0_onNone_77 : decode cX0_onNone 77 = .ok (.iload 6, 2) := by decide +kernel
theorem dX0_onNone_79 : decode cX0_onNone 79 = .ok (.iload 8, 2) := by decide +kernel
theorem dX0_onNone_81 : decode cX0_onNone 81 = .ok (.invokestatic 66, 3) := by decide +kernel
theorem dX0_onNone_84 : decode cX0_onNone 84 = .ok (.invokestatic 66, 3) := by decide +kernel
theorem dX0_onNone_87 : decode cX0_onNone 87 = .ok (.istore 4, 2) := by decide +kernel
theorem dX0_onNone_89 : decode cX0_onNone 89 = .ok (.iinc 5 1, 3) := by decide +kernel
theorem dX0_onNone_92 : decode cX0_onNone 92 = .ok (.goto (-77), 3) := by decide +kernel
theorem dX0_onNone_95 : decode cX0_onNone 95 = .ok (.iload 4, 2) := by decide +kernel
theorem dX0_onNone_97 : decode cX0_onNone 97 = .ok (.ireturn, 1) := by decide +kernel
set_option maxRecDepth 20000 in
theorem ggX0_fromSaved_X0_from : GoodIn wsX0_fromSaved wsX0_from := goodIn_r _ [9, 10, 11, 12, 13, 14, 15, 8, 16, 17, 18, 19, 20, 21, 22, 23, 24, 25, 26, 27, 28, 29] (by decide +kernel) (by decide +kernel)
set_option maxRecDepth 20000 in
theorem gX0_fromSaved_X0_from : GoodIn wsX0_fromSaved (wsV RX0 34 RX0 yX0_from wsX0_from) := goodIn_app (goodIn_of _ (by decide +kernel)) ggX0_fromSaved_X0_from
theorem dX0_fromSaved_0 : decode cX0_fromSaved 0 = .ok (.aload_n 0, 1) := by decide +kernel
theorem dX0_fromSaved_1 : decode cX0_fromSaved 1 = .ok (.aload_n 1, 1) := by decide +kernel
theorem dX0_fromSaved_2 : decode cX0_fromSaved 2 = .ok (.iload_n 2, 1) := by decide +kernel
theorem dX0_fromSaved_3 : decode cX0_fromSaved 3 = .ok (.iload_n 3, 1) := by decide +kernel
theorem dX0_fromSaved_4 : decode cX0_fromSaved 4 = .ok (.iload 4, 2) := by decide +kernel
theorem dX0_fromSaved_6 : decode cX0_fromSaved 6 = .ok (.invokevirtual 34, 3) := by decide +kernel
theorem dX0_fromSaved_9 : decode cX0_fromSaved 9 = .ok (.aload_n 0, 1) := by decide +kernel
theorem dX0_fromSaved_10 : decode cX0_fromSaved 10 = .ok (.aload_n 1, 1) := by decide +kernel
theorem dX0_fromSaved_11 : decode cX0_fromSaved 11 = .ok (.iload_n 2, 1) := by decide +kernel
theorem dX0_fromSaved_12 : decode cX0_fromSaved 12 = .ok (.iconst 4, 1) := by decide +kernel
theorem dX0_fromSaved_13 : decode cX0_fromSaved 13 = .ok (.iload 4, 2) := by decide +kernel
theorem dX0_fromSaved_15 : decode cX0_fromSaved 15 = .ok (.invokevirtual 34, 3) := by decide +kernel
theorem dX0_fromSaved_18 : decode cX0_fromSaved 18 = .ok (.invokestatic 66, 3) := by decide +kernel
theorem dX0_fromSaved_21 : decode cX0_fromSaved 21 = .ok (.ireturn, 1) := by decide +kernel
set_option maxRecDepth 20000 in
theorem ggX0_from_X0_slotOf : GoodIn wsX0_from wsX0_slotOf := goodIn_r _ [8] (by decide +kernel) (by decide +kernel)
set_option maxRecDepth 20000 in
theorem gX0_from_X0_slotOf : GoodIn wsX0_from (va_wsS RX0 75 yX0_slotOf wsX0_slotOf) := goodIn_app (goodIn_of _ (by decide +kernel)) ggX0_from_X0_slotOf
set_option maxRecDepth 20000 in
theorem ggX0_from_X6_within : GoodIn wsX0_from wsX6_within := goodIn_r _ [11] (by decide +kernel) (by decide +kernel)
set_option maxRecDepth 20000 in
theorem gX0_from_X6_within_n78 : GoodIn wsX0_from (wsX6_within) := ggX0_from_X6_within
theorem dX0_from_0 : decode cX0_from 0 = .ok (.iload_n 2, 1) := by decide +kernel
theorem dX0_from_1 : decode cX0_from 1 = .ok (.aload_n 1, 1) := by decide +kernel
theorem dX0_from_2 : decode cX0_from 2 = .ok (.getfield 23, 3) := by decide +kernel
theorem dX0_from_5 : decode cX0_from 5 = .ok (.if_icmp .le 6, 3) := by decide +kernel
theorem dX0_from_8 : decode cX0_from 8 = .ok (.ldc 74, 2) := by decide +kernel
theorem dX0_from_10 : decode cX0_from 10 = .ok (.ireturn, 1) := by decide +kernel
theorem dX0_from_11 : decode cX0_from 11 = .ok (.iload 4, 2) := by decide +kernel
theorem dX0_from_13 : decode cX0_from 13 = .ok (.aload_n 1, 1) := by decide +kernel
theorem dX0_from_14 : decode cX0_from 14 = .ok (.getfield 38, 3) := by decide +kernel
theorem dX0_from_17 : decode cX0_from 17 = .ok (.if_icmp .lt 5, 3) := by decide +kernel
theorem dX0_from_20 : decode cX0_from 20 = .ok (.iconst 0, 1) := by decide +kernel
theorem dX0_from_21 : decode cX0_from 21 = .ok (.ireturn, 1) := by decide +kernel
theorem dX0_from_22 : decode cX0_from 22 = .ok (.iload_n 2, 1) := by decide +kernel
theorem dX0_from_23 : decode cX0_from 23 = .ok (.aload_n 1, 1) := by decide +kernel
theorem dX0_from_24 : decode cX0_from 24 = .ok (.getfield 23, 3) := by decide +kernel
theorem dX0_from_27 : decode cX0_from 27 = .ok (.if_icmp .ge 13, 3) := by decide +kernel
theorem dX0_from_30 : decode cX0_from 30 = .ok (.iload_n 2, 1) := by decide +kernel
theorem dX0_from_31 : decode cX0_from 31 = .ok (.iload_n 3, 1) := by decide +kernel
theorem dX0_from_32 : decode cX0_from 32 = .ok (.iload 4, 2) := by decide +kernel
theorem dX0_from_34 : decode cX0_from 34 = .ok (.invokestatic 75, 3) := by decide +kernel
theorem dX0_from_37 : decode cX0_from 37 = .ok (.goto 4, 3) := by decide +kernel
theorem dX0_from_40 : decode cX0_from 40 = .ok (.iconst (-1), 1) := by decide +kernel
theorem dX0_from_41 : decode cX0_from 41 = .ok (.istore 5, 2) := by decide +kernel
theorem dX0_from_43 : decode cX0_from 43 = .ok (.iload 5, 2) := by decide +kernel
theorem dX0_from_45 : decode cX0_from 45 = .ok (.iconst 0, 1) := by decide +kernel
theorem dX0_from_46 : decode cX0_from 46 = .ok (.aload_n 0, 1) := by decide +kernel
theorem dX0_from_47 : decode cX0_from 47 = .ok (.getfield 19, 3) := by decide +kernel
theorem dX0_from_50 : decode cX0_from 50 = .ok (.arraylength, 1) := by decide +kernel
theorem dX0_from_51 : decode cX0_from 51 = .ok (.iconst 1, 1) := by decide +kernel
theorem dX0_from_52 : decode cX0_from 52 = .ok (.isub, 1) := by decide +kernel
theorem dX0_from_53 : decode cX0_from 53 = .ok (.invokestatic 78, 3) := by decide +kernel
theorem dX0_from_56 : decode cX0_from 56 = .ok (.ifCond .eq 13, 3) := by decide +kernel
theorem dX0_from_59 : decode cX0_from 59 = .ok (.aload_n 0, 1) := by decide +kernel
theorem dX0_from_60 : decode cX0_from 60 = .ok (.getfield 19, 3) := by decide +kernel
theorem dX0_from_63 : decode cX0_from 63 = .ok (.iload 5, 2) := by decide +kernel
theorem dX0_from_65 : decode cX0_from 65 = .ok (.iaload, 1) := by decide +kernel
theorem dX0_from_66 : decode cX0_from 66 = .ok (.goto 5, 3) := by decide +kernel
theorem dX0_from_69 : decode cX0_from 69 = .ok (.ldc 74, 2) := by decide +kernel
theorem dX0_from_71 : decode cX0_from 71 = .ok (.ireturn, 1) := by decide +kernel
set_option maxRecDepth 20000 in
theorem ggX0_stay_X4_at : GoodIn wsX0_stay wsX4_at := goodIn_r _ [7, 8, 9, 10, 11, 6, 12, 13, 14, 15, 26, 27] (by decide +kernel) (by decide +kernel)
set_option maxRecDepth 20000 in
theorem gX0_stay_X4_at : GoodIn wsX0_stay (wsV RX0 82 RX4 yX4_at wsX4_at) := goodIn_app (goodIn_of _ (by decide +kernel)) ggX0_stay_X4_at
set_option maxRecDepth 20000 in
theorem ggX0_stay_X0_sum : GoodIn wsX0_stay wsX0_sum := goodIn_r _ [19, 2, 20, 21, 22, 23] (by decide +kernel) (by decide +kernel)
set_option maxRecDepth 20000 in
theorem gX0_stay_X0_sum : GoodIn wsX0_stay (va_wsS RX0 62 yX0_sum wsX0_sum) := goodIn_app (goodIn_of _ (by decide +kernel)) ggX0_stay_X0_sum
theorem dX0_stay_0 : decode cX0_stay 0 = .ok (.iconst 0, 1) := by decide +kernel
theorem dX0_stay_1 : decode cX0_stay 1 = .ok (.istore 4, 2) := by decide +kernel
theorem dX0_stay_3 : decode cX0_stay 3 = .ok (.iconst 0, 1) := by decide +kernel
theorem dX0_stay_4 : decode cX0_stay 4 = .ok (.istore 5, 2) := by decide +kernel
theorem dX0_stay_6 : decode cX0_stay 6 = .ok (.iload 5, 2) := by decide +kernel
theorem dX0_stay_8 : decode cX0_stay 8 = .ok (.iload_n 3, 1) := by decide +kernel
theorem dX0_stay_9 : decode cX0_stay 9 = .ok (.if_icmp .ge 43, 3) := by decide +kernel
theorem dX0_stay_12 : decode cX0_stay 12 = .ok (.aload_n 0, 1) := by decide +kernel
theorem dX0_stay_13 : decode cX0_stay 13 = .ok (.getfield 13, 3) := by decide +kernel
theorem dX0_stay_16 : decode cX0_stay 16 = .ok (.iload_n 1, 1) := by decide +kernel
theorem dX0_stay_17 : decode cX0_stay 17 = .ok (.iload_n 2, 1) := by decide +kernel
theorem dX0_stay_18 : decode cX0_stay 18 = .ok (.iload 5, 2) := by decide +kernel
theorem dX0_stay_20 : decode cX0_stay 20 = .ok (.iadd, 1) := by decide +kernel
theorem dX0_stay_21 : decode cX0_stay 21 = .ok (.invokevirtual 82, 3) := by decide +kernel
theorem dX0_stay_24 : decode cX0_stay 24 = .ok (.istore 6, 2) := by decide +kernel
theorem dX0_stay_26 : decode cX0_stay 26 = .ok (.iload 4, 2) := by decide +kernel
theorem dX0_stay_28 : decode cX0_stay 28 = .ok (.iload 6, 2) := by decide +kernel
theorem dX0_stay_30 : decode cX0_stay 30 = .ok (.iconst (-1), 1) := by decide +kernel
theorem dX0_stay_31 : decode cX0_stay 31 = .ok (.if_icmp .ne 8, 3) := by decide +kernel
theorem dX0_stay_34 : decode cX0_stay 34 = .ok (.ldc 74, 2) := by decide +kernel
theorem dX0_stay_36 : decode cX0_stay 36 = .ok (.goto 5, 3) := by decide +kernel
theorem dX0_stay_39 : decode cX0_stay 39 = .ok (.iload 6, 2) := by decide +kernel
theorem dX0_stay_41 : decode cX0_stay 41 = .ok (.invokestatic 62, 3) := by decide +kernel
theorem dX0_stay_44 : decode cX0_stay 44 = .ok (.istore 4, 2) := by decide +kernel
theorem dX0_stay_46 : decode cX0_stay 46 = .ok (.iinc 5 1, 3) := by decide +kernel
theorem dX0_stay_49 : decode cX0_stay 49 = .ok (.goto (-43), 3) := by decide +kernel
theorem dX0_stay_52 : decode cX0_stay 52 = .ok (.iload 4, 2) := by decide +kernel
theorem dX0_stay_54 : decode cX0_stay 54 = .ok (.ireturn, 1) := by decide +kernel
set_option maxRecDepth 20000 in
theorem ggX0_put_X0_slotOf : GoodIn wsX0_put wsX0_slotOf := goodIn_r _ [5] (by decide +kernel) (by decide +kernel)
set_option maxRecDepth 20000 in
theorem gX0_put_X0_slotOf : GoodIn wsX0_put (va_wsS RX0 75 yX0_slotOf wsX0_slotOf) := goodIn_app (goodIn_of _ (by decide +kernel)) ggX0_put_X0_slotOf
set_option maxRecDepth 20000 in
theorem ggX0_put_X6_within : GoodIn wsX0_put wsX6_within := goodIn_r _ [8] (by decide +kernel) (by decide +kernel)
set_option maxRecDepth 20000 in
theorem gX0_put_X6_within_n78 : GoodIn wsX0_put (wsX6_within) := ggX0_put_X6_within
theorem dX0_put_0 : decode cX0_put 0 = .ok (.iload_n 1, 1) := by decide +kernel
theorem dX0_put_1 : decode cX0_put 1 = .ok (.iload_n 2, 1) := by decide +kernel
theorem dX0_put_2 : decode cX0_put 2 = .ok (.iload_n 3, 1) := by decide +kernel
theorem dX0_put_3 : decode cX0_put 3 = .ok (.invokestatic 75, 3) := by decide +kernel
theorem dX0_put_6 : decode cX0_put 6 = .ok (.istore 5, 2) := by decide +kernel
theorem dX0_put_8 : decode cX0_put 8 = .ok (.iload 5, 2) := by decide +kernel
theorem dX0_put_10 : decode cX0_put 10 = .ok (.iconst 0, 1) := by decide +kernel
theorem dX0_put_11 : decode cX0_put 11 = .ok (.aload_n 0, 1) := by decide +kernel
theorem dX0_put_12 : decode cX0_put 12 = .ok (.getfield 19, 3) := by decide +kernel
theorem dX0_put_15 : decode cX0_put 15 = .ok (.arraylength, 1) := by decide +kernel
theorem dX0_put_16 : decode cX0_put 16 = .ok (.iconst 1, 1) := by decide +kernel
theorem dX0_put_17 : decode cX0_put 17 = .ok (.isub, 1) := by decide +kernel
theorem dX0_put_18 : decode cX0_put 18 = .ok (.invokestatic 78, 3) := by decide +kernel
theorem dX0_put_21 : decode cX0_put 21 = .ok (.ifCond .eq 12, 3) := by decide +kernel
theorem dX0_put_24 : decode cX0_put 24 = .ok (.aload_n 0, 1) := by decide +kernel
theorem dX0_put_25 : decode cX0_put 25 = .ok (.getfield 19, 3) := by decide +kernel
theorem dX0_put_28 : decode cX0_put 28 = .ok (.iload 5, 2) := by decide +kernel
theorem dX0_put_30 : decode cX0_put 30 = .ok (.iload 4, 2) := by decide +kernel
theorem dX0_put_32 : decode cX0_put 32 = .ok (.iastore, 1) := by decide +kernel
theorem dX0_put_33 : decode cX0_put 33 = .ok (.return_, 1) := by decide +kernel
theorem dX0_sum_0 : decode cX0_sum 0 = .ok (.ldc 74, 2) := by decide +kernel
theorem dX0_sum_2 : decode cX0_sum 2 = .ok (.iload_n 0, 1) := by decide +kernel
theorem dX0_sum_3 : decode cX0_sum 3 = .ok (.iload_n 1, 1) := by decide +kernel
theorem dX0_sum_4 : decode cX0_sum 4 = .ok (.iadd, 1) := by decide +kernel
theorem dX0_sum_5 : decode cX0_sum 5 = .ok (.invokestatic 66, 3) := by decide +kernel
theorem dX0_sum_8 : decode cX0_sum 8 = .ok (.ireturn, 1) := by decide +kernel
theorem dX0_slotOf_0 : decode cX0_slotOf 0 = .ok (.iload_n 0, 1) := by decide +kernel
theorem dX0_slotOf_1 : decode cX0_slotOf 1 = .ok (.ifCond .lt 33, 3) := by decide +kernel
theorem dX0_slotOf_4 : decode cX0_slotOf 4 = .ok (.iload_n 0, 1) := by decide +kernel
theorem dX0_slotOf_5 : decode cX0_slotOf 5 = .ok (.sipush 200, 3) := by decide +kernel
theorem dX0_slotOf_8 : decode cX0_slotOf 8 = .ok (.if_icmp .ge 26, 3) := by decide +kernel
theorem dX0_slotOf_11 : decode cX0_slotOf 11 = .ok (.iload_n 1, 1) := by decide +kernel
theorem dX0_slotOf_12 : decode cX0_slotOf 12 = .ok (.ifCond .lt 22, 3) := by decide +kernel
theorem dX0_slotOf_15 : decode cX0_slotOf 15 = .ok (.iload_n 1, 1) := by decide +kernel
theorem dX0_slotOf_16 : decode cX0_slotOf 16 = .ok (.iconst 5, 1) := by decide +kernel
theorem dX0_slotOf_17 : decode cX0_slotOf 17 = .ok (.if_icmp .ge 17, 3) := by decide +kernel
theorem dX0_slotOf_20 : decode cX0_slotOf 20 = .ok (.iload_n 2, 1) := by decide +kernel
theorem dX0_slotOf_21 : decode cX0_slotOf 21 = .ok (.ifCond .lt 13, 3) := by decide +kernel
theorem dX0_slotOf_24 : decode cX0_slotOf 24 = .ok (.iload_n 2, 1) := by decide +kernel
theorem dX0_slotOf_25 : decode cX0_slotOf 25 = .ok (.bipush 30, 2) := by decide +kernel
theorem dX0_slotOf_27 : decode cX0_slotOf 27 = .ok (.if_icmp .ge 7, 3) := by decide +kernel
theorem dX0_slotOf_30 : decode cX0_slotOf 30 = .ok (.iconst 1, 1) := by decide +kernel
theorem dX0_slotOf_31 : decode cX0_slotOf 31 = .ok (.goto 4, 3) := by decide +kernel
theorem dX0_slotOf_34 : decode cX0_slotOf 34 = .ok (.iconst 0, 1) := by decide +kernel
theorem dX0_slotOf_35 : decode cX0_slotOf 35 = .ok (.istore_n 3, 1) := by decide +kernel
theorem dX0_slotOf_36 : decode cX0_slotOf 36 = .ok (.iload_n 3, 1) := by decide +kernel
theorem dX0_slotOf_37 : decode cX0_slotOf 37 = .ok (.ifCond .eq 19, 3) := by decide +kernel
theorem dX0_slotOf_40 : decode cX0_slotOf 40 = .ok (.iload_n 0, 1) := by decide +kernel
theorem dX0_slotOf_41 : decode cX0_slotOf 41 = .ok (.bipush 6, 2) := by decide +kernel
theorem dX0_slotOf_43 : decode cX0_slotOf 43 = .ok (.irem, 1) := by decide +kernel
theorem dX0_slotOf_44 : decode cX0_slotOf 44 = .ok (.iconst 5, 1) := by decide +kernel
theorem dX0_slotOf_45 : decode cX0_slotOf 45 = .ok (.imul, 1) := by decide +kernel
theorem dX0_slotOf_46 : decode cX0_slotOf 46 = .ok (.iload_n 1, 1) := by decide +kernel
theorem dX0_slotOf_47 : decode cX0_slotOf 47 = .ok (.iadd, 1) := by decide +kernel
theorem dX0_slotOf_48 : decode cX0_slotOf 48 = .ok (.bipush 30, 2) := by decide +kernel
theorem dX0_slotOf_50 : decode cX0_slotOf 50 = .ok (.imul, 1) := by decide +kernel
theorem dX0_slotOf_51 : decode cX0_slotOf 51 = .ok (.iload_n 2, 1) := by decide +kernel
theorem dX0_slotOf_52 : decode cX0_slotOf 52 = .ok (.iadd, 1) := by decide +kernel
theorem dX0_slotOf_53 : decode cX0_slotOf 53 = .ok (.goto 4, 3) := by decide +kernel
theorem dX0_slotOf_56 : decode cX0_slotOf 56 = .ok (.iconst (-1), 1) := by decide +kernel
theorem dX0_slotOf_57 : decode cX0_slotOf 57 = .ok (.ireturn, 1) := by decide +kernel
theorem dX1_init_0 : decode cX1_init 0 = .ok (.aload_n 0, 1) := by decide +kernel
theorem dX1_init_1 : decode cX1_init 1 = .ok (.invokespecial 3, 3) := by decide +kernel
theorem dX1_init_4 : decode cX1_init 4 = .ok (.aload_n 0, 1) := by decide +kernel
theorem dX1_init_5 : decode cX1_init 5 = .ok (.aload_n 1, 1) := by decide +kernel
theorem dX1_init_6 : decode cX1_init 6 = .ok (.putfield 9, 3) := by decide +kernel
theorem dX1_init_9 : decode cX1_init 9 = .ok (.aload_n 0, 1) := by decide +kernel
theorem dX1_init_10 : decode cX1_init 10 = .ok (.iconst 0, 1) := by decide +kernel
theorem dX1_init_11 : decode cX1_init 11 = .ok (.putfield 15, 3) := by decide +kernel
theorem dX1_init_14 : decode cX1_init 14 = .ok (.aload_n 0, 1) := by decide +kernel
theorem dX1_init_15 : decode cX1_init 15 = .ok (.iconst (-1), 1) := by decide +kernel
theorem dX1_init_16 : decode cX1_init 16 = .ok (.putfield 19, 3) := by decide +kernel
theorem dX1_init_19 : decode cX1_init 19 = .ok (.return_, 1) := by decide +kernel
theorem dX1_isReady_0 : decode cX1_isReady 0 = .ok (.aload_n 0, 1) := by decide +kernel
theorem dX1_isReady_1 : decode cX1_isReady 1 = .ok (.getfield 19, 3) := by decide +kernel
theorem dX1_isReady_4 : decode cX1_isReady 4 = .ok (.iconst (-1), 1) := by decide +kernel
theorem dX1_isReady_5 : decode cX1_isReady 5 = .ok (.if_icmp .eq 7, 3) := by decide +kernel
theorem dX1_isReady_8 : decode cX1_isReady 8 = .ok (.iconst 1, 1) := by decide +kernel
theorem dX1_isReady_9 : decode cX1_isReady 9 = .ok (.goto 4, 3) := by decide +kernel
theorem dX1_isReady_12 : decode cX1_isReady 12 = .ok (.iconst 0, 1) := by decide +kernel
theorem dX1_isReady_13 : decode cX1_isReady 13 = .ok (.ireturn, 1) := by decide +kernel
set_option maxRecDepth 20000 in
theorem ggX1_tell_X1_need : GoodIn wsX1_tell wsX1_need := goodIn_r _ [17, 1, 18, 19, 20, 21, 22, 23, 24, 25, 26, 27, 28, 29, 30, 31, 32, 33, 34, 35, 36, 37, 38, 39, 40, 41, 42, 43, 44] (by decide +kernel) (by decide +kernel)
set_option maxRecDepth 20000 in
theorem gX1_tell_X1_need : GoodIn wsX1_tell (wsV RX1 49 RX1 yX1_need wsX1_need) := goodIn_app (goodIn_of _ (by decide +kernel)) ggX1_tell_X1_need
theorem dX1_tell_0 : decode cX1_tell 0 = .ok (.iload_n 1, 1) := by decide +kernel
theorem dX1_tell_1 : decode cX1_tell 1 = .ok (.tableswitch 132 0 12 #[67, 72, 77, 82, 87, 92, 97, 102, 107, 112, 117, 122, 127], 67) := by decide +kernel
theorem dX1_tell_68 : decode cX1_tell 68 = .ok (.aload_n 0, 1) := by decide +kernel
theorem dX1_tell_69 : decode cX1_tell 69 = .ok (.getfield 22, 3) := by decide +kernel
theorem dX1_tell_72 : decode cX1_tell 72 = .ok (.ireturn, 1) := by decide +kernel
theorem dX1_tell_73 : decode cX1_tell 73 = .ok (.aload_n 0, 1) := by decide +kernel
theorem dX1_tell_74 : decode cX1_tell 74 = .ok (.getfield 25, 3) := by decide +kernel
theorem dX1_tell_77 : decode cX1_tell 77 = .ok (.ireturn, 1) := by decide +kernel
theorem dX1_tell_78 : decode cX1_tell 78 = .ok (.aload_n 0, 1) := by decide +kernel
theorem dX1_tell_79 : decode cX1_tell 79 = .ok (.getfield 28, 3) := by decide +kernel
theorem dX1_tell_82 : decode cX1_tell 82 = .ok (.ireturn, 1) := by decide +kernel
theorem dX1_tell_83 : decode cX1_tell 83 = .ok (.aload_n 0, 1) := by decide +kernel
theorem dX1_tell_84 : decode cX1_tell 84 = .ok (.getfield 31, 3) := by decide +kernel
theorem dX1_tell_87 : decode cX1_tell 87 = .ok (.ireturn, 1) := by decide +kernel
theorem dX1_tell_88 : decode cX1_tell 88 = .ok (.aload_n 0, 1) := by decide +kernel
theorem dX1_tell_89 : decode cX1_tell 89 = .ok (.getfield 34, 3) := by decide +kernel
theorem dX1_tell_92 : decode cX1_tell 92 = .ok (.ireturn, 1) := by decide +kernel
theorem dX1_tell_93 : decode cX1_tell 93 = .ok (.aload_n 0, 1) := by decide +kernel
theorem dX1_tell_94 : decode cX1_tell 94 = .ok (.getfield 37, 3) := by decide +kernel
theorem dX1_tell_97 : decode cX1_tell 97 = .ok (.ireturn, 1) := by decide +kernel
theorem dX1_tell_98 : decode cX1_tell 98 = .ok (.aload_n 0, 1) := by decide +kernel
theorem dX1_tell_99 : decode cX1_tell 99 = .ok (.getfield 40, 3) := by decide +kernel
theorem dX1_tell_102 : decode cX1_tell 102 = .ok (.ireturn, 1) := by decide +kernel
theorem dX1_tell_103 : decode cX1_tell 103 = .ok (.aload_n 0, 1) := by decide +kernel
theorem dX1_tell_104 : decode cX1_tell 104 = .ok (.getfield 43, 3) := by decide +kernel
theorem dX1_tell_107 : decode cX1_tell 107 = .ok (.ireturn, 1) := by decide +kernel
theorem dX1_tell_108 : decode cX1_tell 108 = .ok (.aload_n 0, 1) := by decide +kernel
theorem dX1_tell_109 : decode cX1_tell 109 = .ok (.getfield 46, 3) := by decide +kernel
theorem dX1_tell_112 : decode cX1_tell 112 = .ok (.ireturn, 1) := by decide +kernel
theorem dX1_tell_113 : decode cX1_tell 113 = .ok (.aload_n 0, 1) := by decide +kernel
theorem dX1_tell_114 : decode cX1_tell 114 = .ok (.getfield 15, 3) := by decide +kernel
theorem dX1_tell_117 : decode cX1_tell 117 = .ok (.ireturn, 1) := by decide +kernel
theorem dX1_tell_118 : decode cX1_tell 118 = .ok (.aload_n 0, 1) := by decide +kernel
theorem dX1_tell_119 : decode cX1_tell 119 = .ok (.getfield 19, 3) := by decide +kernel
theorem dX1_tell_122 : decode cX1_tell 122 = .ok (.ireturn, 1) := by decide +kernel
theorem dX1_tell_123 : decode cX1_tell 123 = .ok (.aload_n 0, 1) := by decide +kernel
theorem dX1_tell_124 : decode cX1_tell 124 = .ok (.invokevirtual 49, 3) := by decide +kernel
theorem dX1_tell_127 : decode cX1_tell 127 = .ok (.ireturn, 1) := by decide +kernel
theorem dX1_tell_128 : decode cX1_tell 128 = .ok (.aload_n 0, 1) := by decide +kernel
theorem dX1_tell_129 : decode cX1_tell 129 = .ok (.getfield 53, 3) := by decide +kernel
theorem dX1_tell_132 : decode cX1_tell 132 = .ok (.ireturn, 1) := by decide +kernel
theorem dX1_tell_133 : decode cX1_tell 133 = .ok (.iconst (-1), 1) := by decide +kernel
theorem dX1_tell_134 : decode cX1_tell 134 = .ok (.ireturn, 1) := by decide +kernel
set_option maxRecDepth 20000 in
theorem ggX1_passHour_X1_isReady : GoodIn wsX1_passHour wsX1_isReady := goodIn_r _ [15, 9, 83, 84, 85, 86, 87, 88, 89, 90, 91, 92, 93, 94, 95, 96, 97, 98] (by decide +kernel) (by decide +kernel)
set_option maxRecDepth 20000 in
theorem gX1_passHour_X1_isReady : GoodIn wsX1_passHour (wsV RX1 56 RX1 yX1_isReady wsX1_isReady) := goodIn_app (goodIn_of _ (by decide +kernel)) ggX1_passHour_X1_isReady
set_option maxRecDepth 20000 in
theorem ggX1_passHour_X1_need : GoodIn wsX1_passHour wsX1_need := goodIn_r _ [19, 7, 2, 20, 8, 83, 84, 85, 86, 87, 88, 89, 90, 91, 92, 93, 94, 95, 96, 97, 98, 99, 100, 101, 102, 103, 104, 105, 106] (by decide +kernel) (by decide +kernel)
set_option maxRecDepth 20000 in
theorem gX1_passHour_X1_need : GoodIn wsX1_passHour (wsV RX1 49 RX1 yX1_need wsX1_need) := goodIn_app (goodIn_of _ (by decide +kernel)) ggX1_passHour_X1_need
set_option maxRecDepth 20000 in
theorem ggX1_passHour_X4_at : GoodIn wsX1_passHour wsX4_at := goodIn_r _ [25, 26, 27, 28, 29, 24, 30, 31, 32, 33, 107, 108] (by decide +kernel) (by decide +kernel)
set_option maxRecDepth 20000 in
theorem gX1_passHour_X4_at : GoodIn wsX1_passHour (wsV RX1 72 RX4 yX4_at wsX4_at) := goodIn_app (goodIn_of _ (by decide +kernel)) ggX1_passHour_X4_at
set_option maxRecDepth 20000 in
theorem ggX1_passHour_X1_passAtFull : GoodIn wsX1_passHour wsX1_passAtFull := goodIn_r _ [37, 10, 38, 39, 40, 41, 7, 42, 43, 44, 14, 45, 2, 20, 46, 47, 48, 49, 50, 51, 52, 53, 54, 55, 56, 57, 83, 84, 85, 86, 87, 88, 89, 90, 91, 92, 93, 94, 95, 96, 97, 98, 99, 100, 101, 102, 103, 104, 105, 106] (by decide +kernel) (by decide +kernel)
set_option maxRecDepth 20000 in
theorem gX1_passHour_X1_passAtFull : GoodIn wsX1_passHour (wsV RX1 81 RX1 yX1_passAtFull wsX1_passAtFull) := goodIn_app (goodIn_of _ (by decide +kernel)) ggX1_passHour_X1_passAtFull
set_option maxRecDepth 20000 in
theorem ggX1_passHour_X1_passWaiting : GoodIn wsX1_passHour wsX1_passWaiting := goodIn_r _ [61, 10, 62, 63, 47, 48, 49, 14, 50, 46, 51, 40, 52, 83, 84, 85, 86, 87, 88, 89, 90, 91, 92, 93, 94, 95, 96, 97, 98] (by decide +kernel) (by decide +kernel)
set_option maxRecDepth 20000 in
theorem gX1_passHour_X1_passWaiting : GoodIn wsX1_passHour (wsV RX1 88 RX1 yX1_passWaiting wsX1_passWaiting) := goodIn_app (goodIn_of _ (by decide +kernel)) ggX1_passHour_X1_passWaiting
set_option maxRecDepth 20000 in
theorem ggX1_passHour_X1_passAtMarket : GoodIn wsX1_passHour wsX1_passAtMarket := goodIn_r _ [67, 10, 7, 2, 20, 40, 38, 52, 53, 54, 55, 14, 56, 57, 68, 69, 70, 71, 72, 73, 74, 75, 76, 51, 77, 78, 79, 80, 41, 81, 8, 82, 83, 84, 85, 86, 87, 88, 89, 90, 91, 92, 93, 94, 95, 96, 97, 98, 99, 100, 101, 102, 103, 104, 105, 106] (by decide +kernel) (by decide +kernel)
set_option maxRecDepth 20000 in
theorem gX1_passHour_X1_passAtMarket : GoodIn wsX1_passHour (wsV RX1 91 RX1 yX1_passAtMarket wsX1_passAtMarket) := goodIn_app (goodIn_of _ (by decide +kernel)) ggX1_passHour_X1_passAtMarket
theorem dX1_passHour_0 : decode cX1_passHour 0 = .ok (.aload_n 0, 1) := by decide +kernel
theorem dX1_passHour_1 : decode cX1_passHour 1 = .ok (.invokevirtual 56, 3) := by decide +kernel
theorem dX1_passHour_4 : decode cX1_passHour 4 = .ok (.ifCond .eq 4, 3) := by decide +kernel
theorem dX1_passHour_7 : decode cX1_passHour 7 = .ok (.return_, 1) := by decide +kernel
theorem dX1_passHour_8 : decode cX1_passHour 8 = .ok (.aload_n 0, 1) := by decide +kernel
theorem dX1_passHour_9 : decode cX1_passHour 9 = .ok (.aload_n 0, 1) := by decide +kernel
theorem dX1_passHour_10 : decode cX1_passHour 10 = .ok (.getfield 60, 3) := by decide +kernel
theorem dX1_passHour_13 : decode cX1_passHour 13 = .ok (.ifCond .ne 19, 3) := by decide +kernel
theorem dX1_passHour_16 : decode cX1_passHour 16 = .ok (.aload_n 0, 1) := by decide +kernel
theorem dX1_passHour_17 : decode cX1_passHour 17 = .ok (.getfield 9, 3) := by decide +kernel
theorem dX1_passHour_20 : decode cX1_passHour 20 = .ok (.getfield 64, 3) := by decide +kernel
theorem dX1_passHour_23 : decode cX1_passHour 23 = .ok (.iload_n 1, 1) := by decide +kernel
theorem dX1_passHour_24 : decode cX1_passHour 24 = .ok (.isub, 1) := by decide +kernel
theorem dX1_passHour_25 : decode cX1_passHour 25 = .ok (.aload_n 0, 1) := by decide +kernel
theorem dX1_passHour_26 : decode cX1_passHour 26 = .ok (.invokevirtual 49, 3) := by decide +kernel
theorem dX1_passHour_29 : decode cX1_passHour 29 = .ok (.if_icmp .gt 7, 3) := by decide +kernel
theorem dX1_passHour_32 : decode cX1_passHour 32 = .ok (.iconst 1, 1) := by decide +kernel
theorem dX1_passHour_33 : decode cX1_passHour 33 = .ok (.goto 4, 3) := by decide +kernel
theorem dX1_passHour_36 : decode cX1_passHour 36 = .ok (.iconst 0, 1) := by decide +kernel
theorem dX1_passHour_37 : decode cX1_passHour 37 = .ok (.putfield 60, 3) := by decide +kernel
theorem dX1_passHour_40 : decode cX1_passHour 40 = .ok (.aload_n 2, 1) := by decide +kernel
theorem dX1_passHour_41 : decode cX1_passHour 41 = .ok (.aload_n 0, 1) := by decide +kernel
theorem dX1_passHour_42 : decode cX1_passHour 42 = .ok (.getfield 9, 3) := by decide +kernel
theorem dX1_passHour_45 : decode cX1_passHour 45 = .ok (.getfield 69, 3) := by decide +kernel
theorem dX1_passHour_48 : decode cX1_passHour 48 = .ok (.iload_n 1, 1) := by decide +kernel
theorem dX1_passHour_49 : decode cX1_passHour 49 = .ok (.invokevirtual 72, 3) := by decide +kernel
theorem dX1_passHour_52 : decode cX1_passHour 52 = .ok (.istore_n 3, 1) := by decide +kernel
theorem dX1_passHour_53 : decode cX1_passHour 53 = .ok (.aload_n 0, 1) := by decide +kernel
theorem dX1_passHour_54 : decode cX1_passHour 54 = .ok (.getfield 60, 3) := by decide +kernel
theorem dX1_passHour_57 : decode cX1_passHour 57 = .ok (.ifCond .eq 14, 3) := by decide +kernel
theorem dX1_passHour_60 : decode cX1_passHour 60 = .ok (.aload_n 0, 1) := by decide +kernel
theorem dX1_passHour_61 : decode cX1_passHour 61 = .ok (.aload_n 2, 1) := by decide +kernel
theorem dX1_passHour_62 : decode cX1_passHour 62 = .ok (.getfield 78, 3) := by decide +kernel
theorem dX1_passHour_65 : decode cX1_passHour 65 = .ok (.invokevirtual 81, 3) := by decide +kernel
theorem dX1_passHour_68 : decode cX1_passHour 68 = .ok (.goto 31, 3) := by decide +kernel
theorem dX1_passHour_71 : decode cX1_passHour 71 = .ok (.iload_n 3, 1) := by decide +kernel
theorem dX1_passHour_72 : decode cX1_passHour 72 = .ok (.iconst (-1), 1) := by decide +kernel
theorem dX1_passHour_73 : decode cX1_passHour 73 = .ok (.if_icmp .eq 14, 3) := by decide +kernel
theorem dX1_passHour_76 : decode cX1_passHour 76 = .ok (.iload_n 3, 1) := by decide +kernel
theorem dX1_passHour_77 : decode cX1_passHour 77 = .ok (.aload_n 0, 1) := by decide +kernel
theorem dX1_passHour_78 : decode cX1_passHour 78 = .ok (.getfield 9, 3) := by decide +kernel
theorem dX1_passHour_81 : decode cX1_passHour 81 = .ok (.getfield 85, 3) := by decide +kernel
theorem dX1_passHour_84 : decode cX1_passHour 84 = .ok (.if_icmp .le 10, 3) := by decide +kernel
theorem dX1_passHour_87 : decode cX1_passHour 87 = .ok (.aload_n 0, 1) := by decide +kernel
theorem dX1_passHour_88 : decode cX1_passHour 88 = .ok (.invokevirtual 88, 3) := by decide +kernel
theorem dX1_passHour_91 : decode cX1_passHour 91 = .ok (.goto 8, 3) := by decide +kernel
theorem dX1_passHour_94 : decode cX1_passHour 94 = .ok (.aload_n 0, 1) := by decide +kernel
theorem dX1_passHour_95 : decode cX1_passHour 95 = .ok (.iload_n 3, 1) := by decide +kernel
theorem dX1_passHour_96 : decode cX1_passHour 96 = .ok (.invokevirtual 91, 3) := by decide +kernel
theorem dX1_passHour_99 : decode cX1_passHour 99 = .ok (.aload_n 0, 1) := by decide +kernel
theorem dX1_passHour_100 : decode cX1_passHour 100 = .ok (.getfield 22, 3) := by decide +kernel
theorem dX1_passHour_103 : decode cX1_passHour 103 = .ok (.aload_n 0, 1) := by decide +kernel
theorem dX1_passHour_104 : decode cX1_passHour 104 = .ok (.getfield 9, 3) := by decide +kernel
theorem dX1_passHour_107 : decode cX1_passHour 107 = .ok (.getfield 94, 3) := by decide +kernel
theorem dX1_passHour_110 : decode cX1_passHour 110 = .ok (.if_icmp .lt 15, 3) := by decide +kernel
theorem dX1_passHour_113 : decode cX1_passHour 113 = .ok (.aload_n 0, 1) := by decide +kernel
theorem dX1_passHour_114 : decode cX1_passHour 114 = .ok (.iload_n 1, 1) := by decide +kernel
theorem dX1_passHour_115 : decode cX1_passHour 115 = .ok (.iconst 1, 1) := by decide +kernel
theorem dX1_passHour_116 : decode cX1_passHour 116 = .ok (.iadd, 1) := by decide +kernel
theorem dX1_passHour_117 : decode cX1_passHour 117 = .ok (.putfield 19, 3) := by decide +kernel
theorem dX1_passHour_120 : decode cX1_passHour 120 = .ok (.aload_n 0, 1) := by decide +kernel
theorem dX1_passHour_121 : decode cX1_passHour 121 = .ok (.iconst 0, 1) := by decide +kernel
theorem dX1_passHour_122 : decode cX1_passHour 122 = .ok (.putfield 15, 3) := by decide +kernel
theorem dX1_passHour_125 : decode cX1_passHour 125 = .ok (.return_, 1) := by decide +kernel
theorem dX1_need_0 : decode cX1_need 0 = .ok (.aload_n 0, 1) := by decide +kernel
theorem dX1_need_1 : decode cX1_need 1 = .ok (.getfield 22, 3) := by decide +kernel
theorem dX1_need_4 : decode cX1_need 4 = .ok (.aload_n 0, 1) := by decide +kernel
theorem dX1_need_5 : decode cX1_need 5 = .ok (.getfield 9, 3) := by decide +kernel
theorem dX1_need_8 : decode cX1_need 8 = .ok (.getfield 97, 3) := by decide +kernel
theorem dX1_need_11 : decode cX1_need 11 = .ok (.if_icmp .le 26, 3) := by decide +kernel
theorem dX1_need_14 : decode cX1_need 14 = .ok (.aload_n 0, 1) := by decide +kernel
theorem dX1_need_15 : decode cX1_need 15 = .ok (.getfield 9, 3) := by decide +kernel
theorem dX1_need_18 : decode cX1_need 18 = .ok (.getfield 94, 3) := by decide +kernel
theorem dX1_need_21 : decode cX1_need 21 = .ok (.aload_n 0, 1) := by decide +kernel
theorem dX1_need_22 : decode cX1_need 22 = .ok (.getfield 22, 3) := by decide +kernel
theorem dX1_need_25 : decode cX1_need 25 = .ok (.isub, 1) := by decide +kernel
theorem dX1_need_26 : decode cX1_need 26 = .ok (.aload_n 0, 1) := by decide +kernel
theorem dX1_need_27 : decode cX1_need 27 = .ok (.getfield 9, 3) := by decide +kernel
theorem dX1_need_30 : decode cX1_need 30 = .ok (.getfield 97, 3) := by decide +kernel
theorem dX1_need_33 : decode cX1_need 33 = .ok (.iadd, 1) := by decide +kernel
theorem dX1_need_34 : decode cX1_need 34 = .ok (.goto 10, 3) := by decide +kernel
theorem dX1_need_37 : decode cX1_need 37 = .ok (.aload_n 0, 1) := by decide +kernel
theorem dX1_need_38 : decode cX1_need 38 = .ok (.getfield 9, 3) := by decide +kernel
theorem dX1_need_41 : decode cX1_need 41 = .ok (.getfield 94, 3) := by decide +kernel
theorem dX1_need_44 : decode cX1_need 44 = .ok (.ireturn, 1) := by decide +kernel
set_option maxRecDepth 20000 in
theorem ggX1_passAtFull_X1_comeToFull : GoodIn wsX1_passAtFull wsX1_comeToFull := goodIn_r _ [11, 1, 6, 12, 13, 4, 14, 15, 16, 17, 10, 18, 19, 20, 26, 27, 28, 29, 30, 31, 32, 33, 34, 35, 36, 37, 38, 39, 40, 41, 42, 43, 44, 45, 46, 47, 48, 49] (by decide +kernel) (by decide +kernel)
set_option maxRecDepth 20000 in
theorem gX1_passAtFull_X1_comeToFull : GoodIn wsX1_passAtFull (wsV RX1 100 RX1 yX1_comeToFull wsX1_comeToFull) := goodIn_app (goodIn_of _ (by decide +kernel)) ggX1_passAtFull_X1_comeToFull
set_option maxRecDepth 20000 in
theorem ggX1_passAtFull_X1_bringOn : GoodIn wsX1_passAtFull wsX1_bringOn := goodIn_r _ [24, 4, 25, 26, 27, 28, 29, 30, 31, 32, 33, 34, 35, 36, 37, 38, 39, 40, 41] (by decide +kernel) (by decide +kernel)
set_option maxRecDepth 20000 in
theorem gX1_passAtFull_X1_bringOn : GoodIn wsX1_passAtFull (wsV RX1 106 RX1 yX1_bringOn wsX1_bringOn) := goodIn_app (goodIn_of _ (by decide +kernel)) ggX1_passAtFull_X1_bringOn
theorem dX1_passAtFull_0 : decode cX1_passAtFull 0 = .ok (.aload_n 0, 1) := by decide +kernel
theorem dX1_passAtFull_1 : decode cX1_passAtFull 1 = .ok (.getfield 15, 3) := by decide +kernel
theorem dX1_passAtFull_4 : decode cX1_passAtFull 4 = .ok (.iconst 2, 1) := by decide +kernel
theorem dX1_passAtFull_5 : decode cX1_passAtFull 5 = .ok (.if_icmp .eq 7, 3) := by decide +kernel
theorem dX1_passAtFull_8 : decode cX1_passAtFull 8 = .ok (.aload_n 0, 1) := by decide +kernel
theorem dX1_passAtFull_9 : decode cX1_passAtFull 9 = .ok (.invokevirtual 100, 3) := by decide +kernel
theorem dX1_passAtFull_12 : decode cX1_passAtFull 12 = .ok (.aload_n 0, 1) := by decide +kernel
theorem dX1_passAtFull_13 : decode cX1_passAtFull 13 = .ok (.dup, 1) := by decide +kernel
theorem dX1_passAtFull_14 : decode cX1_passAtFull 14 = .ok (.getfield 43, 3) := by decide +kernel
theorem dX1_passAtFull_17 : decode cX1_passAtFull 17 = .ok (.iload_n 1, 1) := by decide +kernel
theorem dX1_passAtFull_18 : decode cX1_passAtFull 18 = .ok (.iadd, 1) := by decide +kernel
theorem dX1_passAtFull_19 : decode cX1_passAtFull 19 = .ok (.putfield 43, 3) := by decide +kernel
theorem dX1_passAtFull_22 : decode cX1_passAtFull 22 = .ok (.aload_n 0, 1) := by decide +kernel
theorem dX1_passAtFull_23 : decode cX1_passAtFull 23 = .ok (.dup, 1) := by decide +kernel
theorem dX1_passAtFull_24 : decode cX1_passAtFull 24 = .ok (.getfield 46, 3) := by decide +kernel
theorem dX1_passAtFull_27 : decode cX1_passAtFull 27 = .ok (.iconst 1, 1) := by decide +kernel
theorem dX1_passAtFull_28 : decode cX1_passAtFull 28 = .ok (.iadd, 1) := by decide +kernel
theorem dX1_passAtFull_29 : decode cX1_passAtFull 29 = .ok (.putfield 46, 3) := by decide +kernel
theorem dX1_passAtFull_32 : decode cX1_passAtFull 32 = .ok (.aload_n 0, 1) := by decide +kernel
theorem dX1_passAtFull_33 : decode cX1_passAtFull 33 = .ok (.getfield 103, 3) := by decide +kernel
theorem dX1_passAtFull_36 : decode cX1_passAtFull 36 = .ok (.ifCond .le 10, 3) := by decide +kernel
theorem dX1_passAtFull_39 : decode cX1_passAtFull 39 = .ok (.aload_n 0, 1) := by decide +kernel
theorem dX1_passAtFull_40 : decode cX1_passAtFull 40 = .ok (.invokevirtual 106, 3) := by decide +kernel
theorem dX1_passAtFull_43 : decode cX1_passAtFull 43 = .ok (.goto 23, 3) := by decide +kernel
theorem dX1_passAtFull_46 : decode cX1_passAtFull 46 = .ok (.aload_n 0, 1) := by decide +kernel
theorem dX1_passAtFull_47 : decode cX1_passAtFull 47 = .ok (.dup, 1) := by decide +kernel
theorem dX1_passAtFull_48 : decode cX1_passAtFull 48 = .ok (.getfield 31, 3) := by decide +kernel
theorem dX1_passAtFull_51 : decode cX1_passAtFull 51 = .ok (.iconst 1, 1) := by decide +kernel
theorem dX1_passAtFull_52 : decode cX1_passAtFull 52 = .ok (.iadd, 1) := by decide +kernel
theorem dX1_passAtFull_53 : decode cX1_passAtFull 53 = .ok (.putfield 31, 3) := by decide +kernel
theorem dX1_passAtFull_56 : decode cX1_passAtFull 56 = .ok (.aload_n 0, 1) := by decide +kernel
theorem dX1_passAtFull_57 : decode cX1_passAtFull 57 = .ok (.dup, 1) := by decide +kernel
theorem dX1_passAtFull_58 : decode cX1_passAtFull 58 = .ok (.getfield 22, 3) := by decide +kernel
theorem dX1_passAtFull_61 : decode cX1_passAtFull 61 = .ok (.iconst 1, 1) := by decide +kernel
theorem dX1_passAtFull_62 : decode cX1_passAtFull 62 = .ok (.iadd, 1) := by decide +kernel
theorem dX1_passAtFull_63 : decode cX1_passAtFull 63 = .ok (.putfield 22, 3) := by decide +kernel
theorem dX1_passAtFull_66 : decode cX1_passAtFull 66 = .ok (.return_, 1) := by decide +kernel
set_option maxRecDepth 20000 in
theorem ggX1_comeToFull_X1_loseUnsaved : GoodIn wsX1_comeToFull wsX1_loseUnsaved := goodIn_r _ [11, 6, 12, 5, 13, 14, 15, 16, 17, 18, 19, 20, 21, 22, 23, 24, 25, 26, 27, 28, 29] (by decide +kernel) (by decide +kernel)
set_option maxRecDepth 20000 in
theorem gX1_comeToFull_X1_loseUnsaved : GoodIn wsX1_comeToFull (wsV RX1 109 RX1 yX1_loseUnsaved wsX1_loseUnsaved) := goodIn_app (goodIn_of _ (by decide +kernel)) ggX1_comeToFull_X1_loseUnsaved
theorem dX1_comeToFull_0 : decode cX1_comeToFull 0 = .ok (.aload_n 0, 1) := by decide +kernel
theorem dX1_comeToFull_1 : decode cX1_comeToFull 1 = .ok (.invokevirtual 109, 3) := by decide +kernel
theorem dX1_comeToFull_4 : decode cX1_comeToFull 4 = .ok (.aload_n 0, 1) := by decide +kernel
theorem dX1_comeToFull_5 : decode cX1_comeToFull 5 = .ok (.iconst 2, 1) := by decide +kernel
theorem dX1_comeToFull_6 : decode cX1_comeToFull 6 = .ok (.putfield 15, 3) := by decide +kernel
theorem dX1_comeToFull_9 : decode cX1_comeToFull 9 = .ok (.aload_n 0, 1) := by decide +kernel
theorem dX1_comeToFull_10 : decode cX1_comeToFull 10 = .ok (.getfield 22, 3) := by decide +kernel
theorem dX1_comeToFull_13 : decode cX1_comeToFull 13 = .ok (.aload_n 0, 1) := by decide +kernel
theorem dX1_comeToFull_14 : decode cX1_comeToFull 14 = .ok (.getfield 9, 3) := by decide +kernel
theorem dX1_comeToFull_17 : decode cX1_comeToFull 17 = .ok (.getfield 97, 3) := by decide +kernel
theorem dX1_comeToFull_20 : decode cX1_comeToFull 20 = .ok (.if_icmp .le 17, 3) := by decide +kernel
theorem dX1_comeToFull_23 : decode cX1_comeToFull 23 = .ok (.aload_n 0, 1) := by decide +kernel
theorem dX1_comeToFull_24 : decode cX1_comeToFull 24 = .ok (.aload_n 0, 1) := by decide +kernel
theorem dX1_comeToFull_25 : decode cX1_comeToFull 25 = .ok (.getfield 9, 3) := by decide +kernel
theorem dX1_comeToFull_28 : decode cX1_comeToFull 28 = .ok (.getfield 97, 3) := by decide +kernel
theorem dX1_comeToFull_31 : decode cX1_comeToFull 31 = .ok (.putfield 103, 3) := by decide +kernel
theorem dX1_comeToFull_34 : decode cX1_comeToFull 34 = .ok (.goto 21, 3) := by decide +kernel
theorem dX1_comeToFull_37 : decode cX1_comeToFull 37 = .ok (.aload_n 0, 1) := by decide +kernel
theorem dX1_comeToFull_38 : decode cX1_comeToFull 38 = .ok (.dup, 1) := by decide +kernel
theorem dX1_comeToFull_39 : decode cX1_comeToFull 39 = .ok (.getfield 28, 3) := by decide +kernel
theorem dX1_comeToFull_42 : decode cX1_comeToFull 42 = .ok (.aload_n 0, 1) := by decide +kernel
theorem dX1_comeToFull_43 : decode cX1_comeToFull 43 = .ok (.getfield 22, 3) := by decide +kernel
theorem dX1_comeToFull_46 : decode cX1_comeToFull 46 = .ok (.iadd, 1) := by decide +kernel
theorem dX1_comeToFull_47 : decode cX1_comeToFull 47 = .ok (.putfield 28, 3) := by decide +kernel
theorem dX1_comeToFull_50 : decode cX1_comeToFull 50 = .ok (.aload_n 0, 1) := by decide +kernel
theorem dX1_comeToFull_51 : decode cX1_comeToFull 51 = .ok (.iconst 0, 1) := by decide +kernel
theorem dX1_comeToFull_52 : decode cX1_comeToFull 52 = .ok (.putfield 22, 3) := by decide +kernel
theorem dX1_comeToFull_55 : decode cX1_comeToFull 55 = .ok (.return_, 1) := by decide +kernel
set_option maxRecDepth 20000 in
theorem ggX1_passWaiting_X1_loseUnsaved : GoodIn wsX1_passWaiting wsX1_loseUnsaved := goodIn_r _ [8, 9, 10, 11, 12, 13, 14, 15, 16, 17, 18, 19, 20, 21, 22, 23, 24, 25, 26, 27, 28] (by decide +kernel) (by decide +kernel)
set_option maxRecDepth 20000 in
theorem gX1_passWaiting_X1_loseUnsaved : GoodIn wsX1_passWaiting (wsV RX1 109 RX1 yX1_loseUnsaved wsX1_loseUnsaved) := goodIn_app (goodIn_of _ (by decide +kernel)) ggX1_passWaiting_X1_loseUnsaved
theorem dX1_passWaiting_0 : decode cX1_passWaiting 0 = .ok (.aload_n 0, 1) := by decide +kernel
theorem dX1_passWaiting_1 : decode cX1_passWaiting 1 = .ok (.getfield 15, 3) := by decide +kernel
theorem dX1_passWaiting_4 : decode cX1_passWaiting 4 = .ok (.iconst 1, 1) := by decide +kernel
theorem dX1_passWaiting_5 : decode cX1_passWaiting 5 = .ok (.if_icmp .ne 22, 3) := by decide +kernel
theorem dX1_passWaiting_8 : decode cX1_passWaiting 8 = .ok (.aload_n 0, 1) := by decide +kernel
theorem dX1_passWaiting_9 : decode cX1_passWaiting 9 = .ok (.dup, 1) := by decide +kernel
theorem dX1_passWaiting_10 : decode cX1_passWaiting 10 = .ok (.getfield 53, 3) := by decide +kernel
theorem dX1_passWaiting_13 : decode cX1_passWaiting 13 = .ok (.iconst 1, 1) := by decide +kernel
theorem dX1_passWaiting_14 : decode cX1_passWaiting 14 = .ok (.iadd, 1) := by decide +kernel
theorem dX1_passWaiting_15 : decode cX1_passWaiting 15 = .ok (.putfield 53, 3) := by decide +kernel
theorem dX1_passWaiting_18 : decode cX1_passWaiting 18 = .ok (.aload_n 0, 1) := by decide +kernel
theorem dX1_passWaiting_19 : decode cX1_passWaiting 19 = .ok (.invokevirtual 109, 3) := by decide +kernel
theorem dX1_passWaiting_22 : decode cX1_passWaiting 22 = .ok (.aload_n 0, 1) := by decide +kernel
theorem dX1_passWaiting_23 : decode cX1_passWaiting 23 = .ok (.iconst 0, 1) := by decide +kernel
theorem dX1_passWaiting_24 : decode cX1_passWaiting 24 = .ok (.putfield 15, 3) := by decide +kernel
theorem dX1_passWaiting_27 : decode cX1_passWaiting 27 = .ok (.aload_n 0, 1) := by decide +kernel
theorem dX1_passWaiting_28 : decode cX1_passWaiting 28 = .ok (.dup, 1) := by decide +kernel
theorem dX1_passWaiting_29 : decode cX1_passWaiting 29 = .ok (.getfield 40, 3) := by decide +kernel
theorem dX1_passWaiting_32 : decode cX1_passWaiting 32 = .ok (.iconst 1, 1) := by decide +kernel
theorem dX1_passWaiting_33 : decode cX1_passWaiting 33 = .ok (.iadd, 1) := by decide +kernel
theorem dX1_passWaiting_34 : decode cX1_passWaiting 34 = .ok (.putfield 40, 3) := by decide +kernel
theorem dX1_passWaiting_37 : decode cX1_passWaiting 37 = .ok (.return_, 1) := by decide +kernel
set_option maxRecDepth 20000 in
theorem ggX1_passAtMarket_X1_bringOn : GoodIn wsX1_passAtMarket wsX1_bringOn := goodIn_r _ [12, 5, 13, 32, 33, 34, 35, 36, 37, 38, 39, 40, 41, 42, 43, 44, 45, 46, 47] (by decide +kernel) (by decide +kernel)
set_option maxRecDepth 20000 in
theorem gX1_passAtMarket_X1_bringOn : GoodIn wsX1_passAtMarket (wsV RX1 106 RX1 yX1_bringOn wsX1_bringOn) := goodIn_app (goodIn_of _ (by decide +kernel)) ggX1_passAtMarket_X1_bringOn
set_option maxRecDepth 20000 in
theorem ggX1_passAtMarket_X1_saveOn : GoodIn wsX1_passAtMarket wsX1_saveOn := goodIn_r _ [17, 7, 18, 19, 20, 21, 11, 22, 2, 23, 32, 33, 34, 35, 36, 37, 38, 39, 40, 41, 42, 43, 44, 45, 46, 47] (by decide +kernel) (by decide +kernel)
set_option maxRecDepth 20000 in
theorem gX1_passAtMarket_X1_saveOn : GoodIn wsX1_passAtMarket (wsV RX1 115 RX1 yX1_saveOn wsX1_saveOn) := goodIn_app (goodIn_of _ (by decide +kernel)) ggX1_passAtMarket_X1_saveOn
set_option maxRecDepth 20000 in
theorem ggX1_passAtMarket_X1_workOn : GoodIn wsX1_passAtMarket wsX1_workOn := goodIn_r _ [27, 28, 23, 3, 29, 2, 30, 31, 7, 19, 20, 21, 11, 22, 32, 33, 34, 35, 36, 37, 38, 39, 40, 41, 42, 43, 44, 45, 46, 47, 48, 49, 50, 51, 52, 53, 54, 55] (by decide +kernel) (by decide +kernel)
set_option maxRecDepth 20000 in
theorem gX1_passAtMarket_X1_workOn : GoodIn wsX1_passAtMarket (wsV RX1 118 RX1 yX1_workOn wsX1_workOn) := goodIn_app (goodIn_of _ (by decide +kernel)) ggX1_passAtMarket_X1_workOn
theorem dX1_passAtMarket_0 : decode cX1_passAtMarket 0 = .ok (.aload_n 0, 1) := by decide +kernel
theorem dX1_passAtMarket_1 : decode cX1_passAtMarket 1 = .ok (.getfield 15, 3) := by decide +kernel
theorem dX1_passAtMarket_4 : decode cX1_passAtMarket 4 = .ok (.iconst 1, 1) := by decide +kernel
theorem dX1_passAtMarket_5 : decode cX1_passAtMarket 5 = .ok (.if_icmp .eq 30, 3) := by decide +kernel
theorem dX1_passAtMarket_8 : decode cX1_passAtMarket 8 = .ok (.aload_n 0, 1) := by decide +kernel
theorem dX1_passAtMarket_9 : decode cX1_passAtMarket 9 = .ok (.iconst 1, 1) := by decide +kernel
theorem dX1_passAtMarket_10 : decode cX1_passAtMarket 10 = .ok (.putfield 15, 3) := by decide +kernel
theorem dX1_passAtMarket_13 : decode cX1_passAtMarket 13 = .ok (.aload_n 0, 1) := by decide +kernel
theorem dX1_passAtMarket_14 : decode cX1_passAtMarket 14 = .ok (.aload_n 0, 1) := by decide +kernel
theorem dX1_passAtMarket_15 : decode cX1_passAtMarket 15 = .ok (.getfield 22, 3) := by decide +kernel
theorem dX1_passAtMarket_18 : decode cX1_passAtMarket 18 = .ok (.ifCond .le 13, 3) := by decide +kernel
theorem dX1_passAtMarket_21 : decode cX1_passAtMarket 21 = .ok (.aload_n 0, 1) := by decide +kernel
theorem dX1_passAtMarket_22 : decode cX1_passAtMarket 22 = .ok (.getfield 9, 3) := by decide +kernel
theorem dX1_passAtMarket_25 : decode cX1_passAtMarket 25 = .ok (.getfield 97, 3) := by decide +kernel
theorem dX1_passAtMarket_28 : decode cX1_passAtMarket 28 = .ok (.goto 4, 3) := by decide +kernel
theorem dX1_passAtMarket_31 : decode cX1_passAtMarket 31 = .ok (.iconst 0, 1) := by decide +kernel
theorem dX1_passAtMarket_32 : decode cX1_passAtMarket 32 = .ok (.putfield 103, 3) := by decide +kernel
theorem dX1_passAtMarket_35 : decode cX1_passAtMarket 35 = .ok (.aload_n 0, 1) := by decide +kernel
theorem dX1_passAtMarket_36 : decode cX1_passAtMarket 36 = .ok (.dup, 1) := by decide +kernel
theorem dX1_passAtMarket_37 : decode cX1_passAtMarket 37 = .ok (.getfield 43, 3) := by decide +kernel
theorem dX1_passAtMarket_40 : decode cX1_passAtMarket 40 = .ok (.iload_n 1, 1) := by decide +kernel
theorem dX1_passAtMarket_41 : decode cX1_passAtMarket 41 = .ok (.iadd, 1) := by decide +kernel
theorem dX1_passAtMarket_42 : decode cX1_passAtMarket 42 = .ok (.putfield 43, 3) := by decide +kernel
theorem dX1_passAtMarket_45 : decode cX1_passAtMarket 45 = .ok (.aload_n 0, 1) := by decide +kernel
theorem dX1_passAtMarket_46 : decode cX1_passAtMarket 46 = .ok (.getfield 103, 3) := by decide +kernel
theorem dX1_passAtMarket_49 : decode cX1_passAtMarket 49 = .ok (.ifCond .le 10, 3) := by decide +kernel
theorem dX1_passAtMarket_52 : decode cX1_passAtMarket 52 = .ok (.aload_n 0, 1) := by decide +kernel
theorem dX1_passAtMarket_53 : decode cX1_passAtMarket 53 = .ok (.invokevirtual 106, 3) := by decide +kernel
theorem dX1_passAtMarket_56 : decode cX1_passAtMarket 56 = .ok (.goto 21, 3) := by decide +kernel
theorem dX1_passAtMarket_59 : decode cX1_passAtMarket 59 = .ok (.aload_n 0, 1) := by decide +kernel
theorem dX1_passAtMarket_60 : decode cX1_passAtMarket 60 = .ok (.getfield 112, 3) := by decide +kernel
theorem dX1_passAtMarket_63 : decode cX1_passAtMarket 63 = .ok (.ifCond .le 10, 3) := by decide +kernel
theorem dX1_passAtMarket_66 : decode cX1_passAtMarket 66 = .ok (.aload_n 0, 1) := by decide +kernel
theorem dX1_passAtMarket_67 : decode cX1_passAtMarket 67 = .ok (.invokevirtual 115, 3) := by decide +kernel
theorem dX1_passAtMarket_70 : decode cX1_passAtMarket 70 = .ok (.goto 7, 3) := by decide +kernel
theorem dX1_passAtMarket_73 : decode cX1_passAtMarket 73 = .ok (.aload_n 0, 1) := by decide +kernel
theorem dX1_passAtMarket_74 : decode cX1_passAtMarket 74 = .ok (.invokevirtual 118, 3) := by decide +kernel
theorem dX1_passAtMarket_77 : decode cX1_passAtMarket 77 = .ok (.return_, 1) := by decide +kernel
theorem dX1_bringOn_0 : decode cX1_bringOn 0 = .ok (.aload_n 0, 1) := by decide +kernel
theorem dX1_bringOn_1 : decode cX1_bringOn 1 = .ok (.dup, 1) := by decide +kernel
theorem dX1_bringOn_2 : decode cX1_bringOn 2 = .ok (.getfield 103, 3) := by decide +kernel
theorem dX1_bringOn_5 : decode cX1_bringOn 5 = .ok (.iconst 1, 1) := by decide +kernel
theorem dX1_bringOn_6 : decode cX1_bringOn 6 = .ok (.isub, 1) := by decide +kernel
theorem dX1_bringOn_7 : decode cX1_bringOn 7 = .ok (.putfield 103, 3) := by decide +kernel
theorem dX1_bringOn_10 : decode cX1_bringOn 10 = .ok (.aload_n 0, 1) := by decide +kernel
theorem dX1_bringOn_11 : decode cX1_bringOn 11 = .ok (.dup, 1) := by decide +kernel
theorem dX1_bringOn_12 : decode cX1_bringOn 12 = .ok (.getfield 34, 3) := by decide +kernel
theorem dX1_bringOn_15 : decode cX1_bringOn 15 = .ok (.iconst 1, 1) := by decide +kernel
theorem dX1_bringOn_16 : decode cX1_bringOn 16 = .ok (.iadd, 1) := by decide +kernel
theorem dX1_bringOn_17 : decode cX1_bringOn 17 = .ok (.putfield 34, 3) := by decide +kernel
theorem dX1_bringOn_20 : decode cX1_bringOn 20 = .ok (.return_, 1) := by decide +kernel
set_option maxRecDepth 20000 in
theorem ggX1_saveOn_X1_keepAll : GoodIn wsX1_saveOn wsX1_keepAll := goodIn_r _ [7, 8, 9, 10, 11, 12, 13, 14, 15, 16, 17, 18, 19, 20, 21, 22, 23, 24, 25] (by decide +kernel) (by decide +kernel)
set_option maxRecDepth 20000 in
theorem gX1_saveOn_X1_keepAll : GoodIn wsX1_saveOn (wsV RX1 121 RX1 yX1_keepAll wsX1_keepAll) := goodIn_app (goodIn_of _ (by decide +kernel)) ggX1_saveOn_X1_keepAll
theorem dX1_saveOn_0 : decode cX1_saveOn 0 = .ok (.aload_n 0, 1) := by decide +kernel
theorem dX1_saveOn_1 : decode cX1_saveOn 1 = .ok (.dup, 1) := by decide +kernel
theorem dX1_saveOn_2 : decode cX1_saveOn 2 = .ok (.getfield 112, 3) := by decide +kernel
theorem dX1_saveOn_5 : decode cX1_saveOn 5 = .ok (.iconst 1, 1) := by decide +kernel
theorem dX1_saveOn_6 : decode cX1_saveOn 6 = .ok (.isub, 1) := by decide +kernel
theorem dX1_saveOn_7 : decode cX1_saveOn 7 = .ok (.putfield 112, 3) := by decide +kernel
theorem dX1_saveOn_10 : decode cX1_saveOn 10 = .ok (.aload_n 0, 1) := by decide +kernel
theorem dX1_saveOn_11 : decode cX1_saveOn 11 = .ok (.dup, 1) := by decide +kernel
theorem dX1_saveOn_12 : decode cX1_saveOn 12 = .ok (.getfield 37, 3) := by decide +kernel
theorem dX1_saveOn_15 : decode cX1_saveOn 15 = .ok (.iconst 1, 1) := by decide +kernel
theorem dX1_saveOn_16 : decode cX1_saveOn 16 = .ok (.iadd, 1) := by decide +kernel
theorem dX1_saveOn_17 : decode cX1_saveOn 17 = .ok (.putfield 37, 3) := by decide +kernel
theorem dX1_saveOn_20 : decode cX1_saveOn 20 = .ok (.aload_n 0, 1) := by decide +kernel
theorem dX1_saveOn_21 : decode cX1_saveOn 21 = .ok (.getfield 112, 3) := by decide +kernel
theorem dX1_saveOn_24 : decode cX1_saveOn 24 = .ok (.ifCond .ne 7, 3) := by decide +kernel
theorem dX1_saveOn_27 : decode cX1_saveOn 27 = .ok (.aload_n 0, 1) := by decide +kernel
theorem dX1_saveOn_28 : decode cX1_saveOn 28 = .ok (.invokevirtual 121, 3) := by decide +kernel
theorem dX1_saveOn_31 : decode cX1_saveOn 31 = .ok (.return_, 1) := by decide +kernel
set_option maxRecDepth 20000 in
theorem ggX1_workOn_X1_keepAll : GoodIn wsX1_workOn wsX1_keepAll := goodIn_r _ [13, 5, 2, 14, 15, 16, 17, 18, 19, 20, 21, 22, 23, 24, 25, 26, 27, 28, 29] (by decide +kernel) (by decide +kernel)
set_option maxRecDepth 20000 in
theorem gX1_workOn_X1_keepAll : GoodIn wsX1_workOn (wsV RX1 121 RX1 yX1_keepAll wsX1_keepAll) := goodIn_app (goodIn_of _ (by decide +kernel)) ggX1_workOn_X1_keepAll
theorem dX1_workOn_0 : decode cX1_workOn 0 = .ok (.aload_n 0, 1) := by decide +kernel
theorem dX1_workOn_1 : decode cX1_workOn 1 = .ok (.dup, 1) := by decide +kernel
theorem dX1_workOn_2 : decode cX1_workOn 2 = .ok (.getfield 31, 3) := by decide +kernel
theorem dX1_workOn_5 : decode cX1_workOn 5 = .ok (.iconst 1, 1) := by decide +kernel
theorem dX1_workOn_6 : decode cX1_workOn 6 = .ok (.iadd, 1) := by decide +kernel
theorem dX1_workOn_7 : decode cX1_workOn 7 = .ok (.putfield 31, 3) := by decide +kernel
theorem dX1_workOn_10 : decode cX1_workOn 10 = .ok (.aload_n 0, 1) := by decide +kernel
theorem dX1_workOn_11 : decode cX1_workOn 11 = .ok (.dup, 1) := by decide +kernel
theorem dX1_workOn_12 : decode cX1_workOn 12 = .ok (.getfield 25, 3) := by decide +kernel
theorem dX1_workOn_15 : decode cX1_workOn 15 = .ok (.iconst 1, 1) := by decide +kernel
theorem dX1_workOn_16 : decode cX1_workOn 16 = .ok (.iadd, 1) := by decide +kernel
theorem dX1_workOn_17 : decode cX1_workOn 17 = .ok (.putfield 25, 3) := by decide +kernel
theorem dX1_workOn_20 : decode cX1_workOn 20 = .ok (.aload_n 0, 1) := by decide +kernel
theorem dX1_workOn_21 : decode cX1_workOn 21 = .ok (.getfield 25, 3) := by decide +kernel
theorem dX1_workOn_24 : decode cX1_workOn 24 = .ok (.aload_n 0, 1) := by decide +kernel
theorem dX1_workOn_25 : decode cX1_workOn 25 = .ok (.getfield 9, 3) := by decide +kernel
theorem dX1_workOn_28 : decode cX1_workOn 28 = .ok (.getfield 124, 3) := by decide +kernel
theorem dX1_workOn_31 : decode cX1_workOn 31 = .ok (.if_icmp .ge 23, 3) := by decide +kernel
theorem dX1_workOn_34 : decode cX1_workOn 34 = .ok (.aload_n 0, 1) := by decide +kernel
theorem dX1_workOn_35 : decode cX1_workOn 35 = .ok (.getfield 22, 3) := by decide +kernel
theorem dX1_workOn_38 : decode cX1_workOn 38 = .ok (.aload_n 0, 1) := by decide +kernel
theorem dX1_workOn_39 : decode cX1_workOn 39 = .ok (.getfield 25, 3) := by decide +kernel
theorem dX1_workOn_42 : decode cX1_workOn 42 = .ok (.iadd, 1) := by decide +kernel
theorem dX1_workOn_43 : decode cX1_workOn 43 = .ok (.aload_n 0, 1) := by decide +kernel
theorem dX1_workOn_44 : decode cX1_workOn 44 = .ok (.getfield 9, 3) := by decide +kernel
theorem dX1_workOn_47 : decode cX1_workOn 47 = .ok (.getfield 94, 3) := by decide +kernel
theorem dX1_workOn_50 : decode cX1_workOn 50 = .ok (.if_icmp .ge 4, 3) := by decide +kernel
theorem dX1_workOn_53 : decode cX1_workOn 53 = .ok (.return_, 1) := by decide +kernel
theorem dX1_workOn_54 : decode cX1_workOn 54 = .ok (.aload_n 0, 1) := by decide +kernel
theorem dX1_workOn_55 : decode cX1_workOn 55 = .ok (.aload_n 0, 1) := by decide +kernel
theorem dX1_workOn_56 : decode cX1_workOn 56 = .ok (.getfield 9, 3) := by decide +kernel
theorem dX1_workOn_59 : decode cX1_workOn 59 = .ok (.getfield 127, 3) := by decide +kernel
theorem dX1_workOn_62 : decode cX1_workOn 62 = .ok (.putfield 112, 3) := by decide +kernel
theorem dX1_workOn_65 : decode cX1_workOn 65 = .ok (.aload_n 0, 1) := by decide +kernel
theorem dX1_workOn_66 : decode cX1_workOn 66 = .ok (.getfield 112, 3) := by decide +kernel
theorem dX1_workOn_69 : decode cX1_workOn 69 = .ok (.ifCond .ne 7, 3) := by decide +kernel
theorem dX1_workOn_72 : decode cX1_workOn 72 = .ok (.aload_n 0, 1) := by decide +kernel
theorem dX1_workOn_73 : decode cX1_workOn 73 = .ok (.invokevirtual 121, 3) := by decide +kernel
theorem dX1_workOn_76 : decode cX1_workOn 76 = .ok (.return_, 1) := by decide +kernel
theorem dX1_keepAll_0 : decode cX1_keepAll 0 = .ok (.aload_n 0, 1) := by decide +kernel
theorem dX1_keepAll_1 : decode cX1_keepAll 1 = .ok (.dup, 1) := by decide +kernel
theorem dX1_keepAll_2 : decode cX1_keepAll 2 = .ok (.getfield 22, 3) := by decide +kernel
theorem dX1_keepAll_5 : decode cX1_keepAll 5 = .ok (.aload_n 0, 1) := by decide +kernel
theorem dX1_keepAll_6 : decode cX1_keepAll 6 = .ok (.getfield 25, 3) := by decide +kernel
theorem dX1_keepAll_9 : decode cX1_keepAll 9 = .ok (.iadd, 1) := by decide +kernel
theorem dX1_keepAll_10 : decode cX1_keepAll 10 = .ok (.putfield 22, 3) := by decide +kernel
theorem dX1_keepAll_13 : decode cX1_keepAll 13 = .ok (.aload_n 0, 1) := by decide +kernel
theorem dX1_keepAll_14 : decode cX1_keepAll 14 = .ok (.iconst 0, 1) := by decide +kernel
theorem dX1_keepAll_15 : decode cX1_keepAll 15 = .ok (.putfield 25, 3) := by decide +kernel
theorem dX1_keepAll_18 : decode cX1_keepAll 18 = .ok (.return_, 1) := by decide +kernel
theorem dX1_loseUnsaved_0 : decode cX1_loseUnsaved 0 = .ok (.aload_n 0, 1) := by decide +kernel
theorem dX1_loseUnsaved_1 : decode cX1_loseUnsaved 1 = .ok (.dup, 1) := by decide +kernel
theorem dX1_loseUnsaved_2 : decode cX1_loseUnsaved 2 = .ok (.getfield 28, 3) := by decide +kernel
theorem dX1_loseUnsaved_5 : decode cX1_loseUnsaved 5 = .ok (.aload_n 0, 1) := by decide +kernel
theorem dX1_loseUnsaved_6 : decode cX1_loseUnsaved 6 = .ok (.getfield 25, 3) := by decide +kernel
theorem dX1_loseUnsaved_9 : decode cX1_loseUnsaved 9 = .ok (.iadd, 1) := by decide +kernel
theorem dX1_loseUnsaved_10 : decode cX1_loseUnsaved 10 = .ok (.putfield 28, 3) := by decide +kernel
theorem dX1_loseUnsaved_13 : decode cX1_loseUnsaved 13 = .ok (.aload_n 0, 1) := by decide +kernel
theorem dX1_loseUnsaved_14 : decode cX1_loseUnsaved 14 = .ok (.iconst 0, 1) := by decide +kernel
theorem dX1_loseUnsaved_15 : decode cX1_loseUnsaved 15 = .ok (.putfield 25, 3) := by decide +kernel
theorem dX1_loseUnsaved_18 : decode cX1_loseUnsaved 18 = .ok (.aload_n 0, 1) := by decide +kernel
theorem dX1_loseUnsaved_19 : decode cX1_loseUnsaved 19 = .ok (.iconst 0, 1) := by decide +kernel
theorem dX1_loseUnsaved_20 : decode cX1_loseUnsaved 20 = .ok (.putfield 103, 3) := by decide +kernel
theorem dX1_loseUnsaved_23 : decode cX1_loseUnsaved 23 = .ok (.aload_n 0, 1) := by decide +kernel
theorem dX1_loseUnsaved_24 : decode cX1_loseUnsaved 24 = .ok (.iconst 0, 1) := by decide +kernel
theorem dX1_loseUnsaved_25 : decode cX1_loseUnsaved 25 = .ok (.putfield 112, 3) := by decide +kernel
theorem dX1_loseUnsaved_28 : decode cX1_loseUnsaved 28 = .ok (.return_, 1) := by decide +kernel
set_option maxRecDepth 20000 in
theorem ggX2_canBe_X6_within : GoodIn wsX2_canBe wsX6_within := goodIn_r _ [3] (by decide +kernel) (by decide +kernel)
set_option maxRecDepth 20000 in
theorem gX2_canBe_X6_within_n7 : GoodIn wsX2_canBe (wsX6_within) := ggX2_canBe_X6_within
theorem dX2_canBe_0 : decode cX2_canBe 0 = .ok (.iload_n 0, 1) := by decide +kernel
theorem dX2_canBe_1 : decode cX2_canBe 1 = .ok (.iconst 1, 1) := by decide +kernel
theorem dX2_canBe_2 : decode cX2_canBe 2 = .ok (.bipush 10, 2) := by decide +kernel
theorem dX2_canBe_4 : decode cX2_canBe 4 = .ok (.invokestatic 7, 3) := by decide +kernel
theorem dX2_canBe_7 : decode cX2_canBe 7 = .ok (.ifCond .eq 26, 3) := by decide +kernel
theorem dX2_canBe_10 : decode cX2_canBe 10 = .ok (.iload_n 1, 1) := by decide +kernel
theorem dX2_canBe_11 : decode cX2_canBe 11 = .ok (.iconst 0, 1) := by decide +kernel
theorem dX2_canBe_12 : decode cX2_canBe 12 = .ok (.iconst 2, 1) := by decide +kernel
theorem dX2_canBe_13 : decode cX2_canBe 13 = .ok (.invokestatic 7, 3) := by decide +kernel
theorem dX2_canBe_16 : decode cX2_canBe 16 = .ok (.ifCond .eq 17, 3) := by decide +kernel
theorem dX2_canBe_19 : decode cX2_canBe 19 = .ok (.iload_n 2, 1) := by decide +kernel
theorem dX2_canBe_20 : decode cX2_canBe 20 = .ok (.iconst 2, 1) := by decide +kernel
theorem dX2_canBe_21 : decode cX2_canBe 21 = .ok (.bipush 10, 2) := by decide +kernel
theorem dX2_canBe_23 : decode cX2_canBe 23 = .ok (.invokestatic 7, 3) := by decide +kernel
theorem dX2_canBe_26 : decode cX2_canBe 26 = .ok (.ifCond .eq 7, 3) := by decide +kernel
theorem dX2_canBe_29 : decode cX2_canBe 29 = .ok (.iconst 1, 1) := by decide +kernel
theorem dX2_canBe_30 : decode cX2_canBe 30 = .ok (.goto 4, 3) := by decide +kernel
theorem dX2_canBe_33 : decode cX2_canBe 33 = .ok (.iconst 0, 1) := by decide +kernel
theorem dX2_canBe_34 : decode cX2_canBe 34 = .ok (.ireturn, 1) := by decide +kernel
set_option maxRecDepth 20000 in
theorem ggX2_bestSpan_X2_above : GoodIn wsX2_bestSpan wsX2_above := goodIn_r _ [4, 5, 6, 7, 8, 9, 10, 3, 11] (by decide +kernel) (by decide +kernel)
set_option maxRecDepth 20000 in
theorem gX2_bestSpan_X2_above : GoodIn wsX2_bestSpan (va_wsS RX2 13 yX2_above wsX2_above) := goodIn_app (goodIn_of _ (by decide +kernel)) ggX2_bestSpan_X2_above
theorem dX2_bestSpan_0 : decode cX2_bestSpan 0 = .ok (.iconst 1, 1) := by decide +kernel
theorem dX2_bestSpan_1 : decode cX2_bestSpan 1 = .ok (.istore_n 3, 1) := by decide +kernel
theorem dX2_bestSpan_2 : decode cX2_bestSpan 2 = .ok (.iload_n 0, 1) := by decide +kernel
theorem dX2_bestSpan_3 : decode cX2_bestSpan 3 = .ok (.iload_n 1, 1) := by decide +kernel
theorem dX2_bestSpan_4 : decode cX2_bestSpan 4 = .ok (.iload_n 2, 1) := by decide +kernel
theorem dX2_bestSpan_5 : decode cX2_bestSpan 5 = .ok (.iconst 1, 1) := by decide +kernel
theorem dX2_bestSpan_6 : decode cX2_bestSpan 6 = .ok (.iload_n 0, 1) := by decide +kernel
theorem dX2_bestSpan_7 : decode cX2_bestSpan 7 = .ok (.iload_n 1, 1) := by decide +kernel
theorem dX2_bestSpan_8 : decode cX2_bestSpan 8 = .ok (.iadd, 1) := by decide +kernel
theorem dX2_bestSpan_9 : decode cX2_bestSpan 9 = .ok (.invokestatic 13, 3) := by decide +kernel
theorem dX2_bestSpan_12 : decode cX2_bestSpan 12 = .ok (.lstore 4, 2) := by decide +kernel
theorem dX2_bestSpan_14 : decode cX2_bestSpan 14 = .ok (.iconst 2, 1) := by decide +kernel
theorem dX2_bestSpan_15 : decode cX2_bestSpan 15 = .ok (.istore 6, 2) := by decide +kernel
theorem dX2_bestSpan_17 : decode cX2_bestSpan 17 = .ok (.iload 6, 2) := by decide +kernel
theorem dX2_bestSpan_19 : decode cX2_bestSpan 19 = .ok (.iload_n 0, 1) := by decide +kernel
theorem dX2_bestSpan_20 : decode cX2_bestSpan 20 = .ok (.if_icmp .gt 37, 3) := by decide +kernel
theorem dX2_bestSpan_23 : decode cX2_bestSpan 23 = .ok (.iload_n 0, 1) := by decide +kernel
theorem dX2_bestSpan_24 : decode cX2_bestSpan 24 = .ok (.iload_n 1, 1) := by decide +kernel
theorem dX2_bestSpan_25 : decode cX2_bestSpan 25 = .ok (.iload_n 2, 1) := by decide +kernel
theorem dX2_bestSpan_26 : decode cX2_bestSpan 26 = .ok (.iload 6, 2) := by decide +kernel
theorem dX2_bestSpan_28 : decode cX2_bestSpan 28 = .ok (.iload_n 0, 1) := by decide +kernel
theorem dX2_bestSpan_29 : decode cX2_bestSpan 29 = .ok (.iload_n 1, 1) := by decide +kernel
theorem dX2_bestSpan_30 : decode cX2_bestSpan 30 = .ok (.iadd, 1) := by decide +kernel
theorem dX2_bestSpan_31 : decode cX2_bestSpan 31 = .ok (.invokestatic 13, 3) := by decide +kernel
theorem dX2_bestSpan_34 : decode cX2_bestSpan 34 = .ok (.lstore 7, 2) := by decide +kernel
theorem dX2_bestSpan_36 : decode cX2_bestSpan 36 = .ok (.lload 7, 2) := by decide +kernel
theorem dX2_bestSpan_38 : decode cX2_bestSpan 38 = .ok (.lload 4, 2) := by decide +kernel
theorem dX2_bestSpan_40 : decode cX2_bestSpan 40 = .ok (.lcmp, 1) := by decide +kernel
theorem dX2_bestSpan_41 : decode cX2_bestSpan 41 = .ok (.ifCond .ge 10, 3) := by decide +kernel
theorem dX2_bestSpan_44 : decode cX2_bestSpan 44 = .ok (.lload 7, 2) := by decide +kernel
theorem dX2_bestSpan_46 : decode cX2_bestSpan 46 = .ok (.lstore 4, 2) := by decide +kernel
theorem dX2_bestSpan_48 : decode cX2_bestSpan 48 = .ok (.iload 6, 2) := by decide +kernel
theorem dX2_bestSpan_50 : decode cX2_bestSpan 50 = .ok (.istore_n 3, 1) := by decide +kernel
theorem dX2_bestSpan_51 : decode cX2_bestSpan 51 = .ok (.iinc 6 1, 3) := by decide +kernel
theorem dX2_bestSpan_54 : decode cX2_bestSpan 54 = .ok (.goto (-37), 3) := by decide +kernel
theorem dX2_bestSpan_57 : decode cX2_bestSpan 57 = .ok (.iload_n 3, 1) := by decide +kernel
theorem dX2_bestSpan_58 : decode cX2_bestSpan 58 = .ok (.ireturn, 1) := by decide +kernel
set_option maxRecDepth 20000 in
theorem ggX2_above_X2_power : GoodIn wsX2_above wsX2_power := goodIn_r _ [8] (by decide +kernel) (by decide +kernel)
set_option maxRecDepth 20000 in
theorem gX2_above_X2_power : GoodIn wsX2_above (va_wsS RX2 25 yX2_power wsX2_power) := goodIn_app (goodIn_of _ (by decide +kernel)) ggX2_above_X2_power
theorem dX2_above_0 : decode cX2_above 0 = .ok (.lconst 0, 1) := by decide +kernel
theorem dX2_above_1 : decode cX2_above 1 = .ok (.lstore 5, 2) := by decide +kernel
theorem dX2_above_3 : decode cX2_above 3 = .ok (.iload_n 0, 1) := by decide +kernel
theorem dX2_above_4 : decode cX2_above 4 = .ok (.istore 7, 2) := by decide +kernel
theorem dX2_above_6 : decode cX2_above 6 = .ok (.iconst 0, 1) := by decide +kernel
theorem dX2_above_7 : decode cX2_above 7 = .ok (.istore 8, 2) := by decide +kernel
theorem dX2_above_9 : decode cX2_above 9 = .ok (.iload 8, 2) := by decide +kernel
theorem dX2_above_11 : decode cX2_above 11 = .ok (.iload_n 0, 1) := by decide +kernel
theorem dX2_above_12 : decode cX2_above 12 = .ok (.if_icmp .ge 74, 3) := by decide +kernel
theorem dX2_above_15 : decode cX2_above 15 = .ok (.iload 7, 2) := by decide +kernel
theorem dX2_above_17 : decode cX2_above 17 = .ok (.ifCond .le 69, 3) := by decide +kernel
theorem dX2_above_20 : decode cX2_above 20 = .ok (.iload_n 3, 1) := by decide +kernel
theorem dX2_above_21 : decode cX2_above 21 = .ok (.iload 7, 2) := by decide +kernel
theorem dX2_above_23 : decode cX2_above 23 = .ok (.invokestatic 19, 3) := by decide +kernel
theorem dX2_above_26 : decode cX2_above 26 = .ok (.istore 9, 2) := by decide +kernel
theorem dX2_above_28 : decode cX2_above 28 = .ok (.iload 9, 2) := by decide +kernel
theorem dX2_above_30 : decode cX2_above 30 = .ok (.iload_n 1, 1) := by decide +kernel
theorem dX2_above_31 : decode cX2_above 31 = .ok (.iadd, 1) := by decide +kernel
theorem dX2_above_32 : decode cX2_above 32 = .ok (.istore 10, 2) := by decide +kernel
theorem dX2_above_34 : decode cX2_above 34 = .ok (.iload_n 2, 1) := by decide +kernel
theorem dX2_above_35 : decode cX2_above 35 = .ok (.iconst 1, 1) := by decide +kernel
theorem dX2_above_36 : decode cX2_above 36 = .ok (.isub, 1) := by decide +kernel
theorem dX2_above_37 : decode cX2_above 37 = .ok (.iload 10, 2) := by decide +kernel
theorem dX2_above_39 : decode cX2_above 39 = .ok (.invokestatic 25, 3) := by decide +kernel
theorem dX2_above_42 : decode cX2_above 42 = .ok (.lstore 11, 2) := by decide +kernel
theorem dX2_above_44 : decode cX2_above 44 = .ok (.lload 5, 2) := by decide +kernel
theorem dX2_above_46 : decode cX2_above 46 = .ok (.iload_n 2, 1) := by decide +kernel
theorem dX2_above_47 : decode cX2_above 47 = .ok (.i2l, 1) := by decide +kernel
theorem dX2_above_48 : decode cX2_above 48 = .ok (.iload_n 2, 1) := by decide +kernel
theorem dX2_above_49 : decode cX2_above 49 = .ok (.iload 10, 2) := by decide +kernel
theorem dX2_above_51 : decode cX2_above 51 = .ok (.invokestatic 25, 3) := by decide +kernel
theorem dX2_above_54 : decode cX2_above 54 = .ok (.lload 11, 2) := by decide +kernel
theorem dX2_above_56 : decode cX2_above 56 = .ok (.lsub, 1) := by decide +kernel
theorem dX2_above_57 : decode cX2_above 57 = .ok (.lmul, 1) := by decide +kernel
theorem dX2_above_58 : decode cX2_above 58 = .ok (.iload_n 2, 1) := by decide +kernel
theorem dX2_above_59 : decode cX2_above 59 = .ok (.iconst 1, 1) := by decide +kernel
theorem dX2_above_60 : decode cX2_above 60 = .ok (.isub, 1) := by decide +kernel
theorem dX2_above_61 : decode cX2_above 61 = .ok (.iload 4, 2) := by decide +kernel
theorem dX2_above_63 : decode cX2_above 63 = .ok (.iload 10, 2) := by decide +kernel
theorem dX2_above_65 : decode cX2_above 65 = .ok (.isub, 1) := by decide +kernel
theorem dX2_above_66 : decode cX2_above 66 = .ok (.invokestatic 25, 3) := by decide +kernel
theorem dX2_above_69 : decode cX2_above 69 = .ok (.lmul, 1) := by decide +kernel
theorem dX2_above_70 : decode cX2_above 70 = .ok (.ladd, 1) := by decide +kernel
theorem dX2_above_71 : decode cX2_above 71 = .ok (.lstore 5, 2) := by decide +kernel
theorem dX2_above_73 : decode cX2_above 73 = .ok (.iload 7, 2) := by decide +kernel
theorem dX2_above_75 : decode cX2_above 75 = .ok (.iload 9, 2) := by decide +kernel
theorem dX2_above_77 : decode cX2_above 77 = .ok (.isub, 1) := by decide +kernel
theorem dX2_above_78 : decode cX2_above 78 = .ok (.istore 7, 2) := by decide +kernel
theorem dX2_above_80 : decode cX2_above 80 = .ok (.iinc 8 1, 3) := by decide +kernel
theorem dX2_above_83 : decode cX2_above 83 = .ok (.goto (-74), 3) := by decide +kernel
theorem dX2_above_86 : decode cX2_above 86 = .ok (.lload 5, 2) := by decide +kernel
theorem dX2_above_88 : decode cX2_above 88 = .ok (.lreturn, 1) := by decide +kernel
theorem dX2_power_0 : decode cX2_power 0 = .ok (.lconst 1, 1) := by decide +kernel
theorem dX2_power_1 : decode cX2_power 1 = .ok (.lstore_n 2, 1) := by decide +kernel
theorem dX2_power_2 : decode cX2_power 2 = .ok (.iconst 0, 1) := by decide +kernel
theorem dX2_power_3 : decode cX2_power 3 = .ok (.istore 4, 2) := by decide +kernel
theorem dX2_power_5 : decode cX2_power 5 = .ok (.iload 4, 2) := by decide +kernel
theorem dX2_power_7 : decode cX2_power 7 = .ok (.iload_n 1, 1) := by decide +kernel
theorem dX2_power_8 : decode cX2_power 8 = .ok (.if_icmp .ge 14, 3) := by decide +kernel
theorem dX2_power_11 : decode cX2_power 11 = .ok (.lload_n 2, 1) := by decide +kernel
theorem dX2_power_12 : decode cX2_power 12 = .ok (.iload_n 0, 1) := by decide +kernel
theorem dX2_power_13 : decode cX2_power 13 = .ok (.i2l, 1) := by decide +kernel
theorem dX2_power_14 : decode cX2_power 14 = .ok (.lmul, 1) := by decide +kernel
theorem dX2_power_15 : decode cX2_power 15 = .ok (.lstore_n 2, 1) := by decide +kernel
theorem dX2_power_16 : decode cX2_power 16 = .ok (.iinc 4 1, 3) := by decide +kernel
theorem dX2_power_19 : decode cX2_power 19 = .ok (.goto (-14), 3) := by decide +kernel
theorem dX2_power_22 : decode cX2_power 22 = .ok (.lload_n 2, 1) := by decide +kernel
theorem dX2_power_23 : decode cX2_power 23 = .ok (.lreturn, 1) := by decide +kernel
theorem dX2_commonDivisor_0 : decode cX2_commonDivisor 0 = .ok (.lload_n 0, 1) := by decide +kernel
theorem dX2_commonDivisor_1 : decode cX2_commonDivisor 1 = .ok (.lstore 4, 2) := by decide +kernel
theorem dX2_commonDivisor_3 : decode cX2_commonDivisor 3 = .ok (.lload_n 2, 1) := by decide +kernel
theorem dX2_commonDivisor_4 : decode cX2_commonDivisor 4 = .ok (.lstore 6, 2) := by decide +kernel
theorem dX2_commonDivisor_6 : decode cX2_commonDivisor 6 = .ok (.iconst 0, 1) := by decide +kernel
theorem dX2_commonDivisor_7 : decode cX2_commonDivisor 7 = .ok (.istore 8, 2) := by decide +kernel
theorem dX2_commonDivisor_9 : decode cX2_commonDivisor 9 = .ok (.iload 8, 2) := by decide +kernel
theorem dX2_commonDivisor_11 : decode cX2_commonDivisor 11 = .ok (.sipush 200, 3) := by decide +kernel
theorem dX2_commonDivisor_14 : decode cX2_commonDivisor 14 = .ok (.if_icmp .ge 31, 3) := by decide +kernel
theorem dX2_commonDivisor_17 : decode cX2_commonDivisor 17 = .ok (.lload 6, 2) := by decide +kernel
theorem dX2_commonDivisor_19 : decode cX2_commonDivisor 19 = .ok (.lconst 0, 1) := by decide +kernel
theorem dX2_commonDivisor_20 : decode cX2_commonDivisor 20 = .ok (.lcmp, 1) := by decide +kernel
theorem dX2_commonDivisor_21 : decode cX2_commonDivisor 21 = .ok (.ifCond .eq 24, 3) := by decide +kernel
theorem dX2_commonDivisor_24 : decode cX2_commonDivisor 24 = .ok (.lload 4, 2) := by decide +kernel
theorem dX2_commonDivisor_26 : decode cX2_commonDivisor 26 = .ok (.lload 6, 2) := by decide +kernel
theorem dX2_commonDivisor_28 : decode cX2_commonDivisor 28 = .ok (.lrem, 1) := by decide +kernel
theorem dX2_commonDivisor_29 : decode cX2_commonDivisor 29 = .ok (.lstore 9, 2) := by decide +kernel
theorem dX2_commonDivisor_31 : decode cX2_commonDivisor 31 = .ok (.lload 6, 2) := by decide +kernel
theorem dX2_commonDivisor_33 : decode cX2_commonDivisor 33 = .ok (.lstore 4, 2) := by decide +kernel
theorem dX2_commonDivisor_35 : decode cX2_commonDivisor 35 = .ok (.lload 9, 2) := by decide +kernel
theorem dX2_commonDivisor_37 : decode cX2_commonDivisor 37 = .ok (.lstore 6, 2) := by decide +kernel
theorem dX2_commonDivisor_39 : decode cX2_commonDivisor 39 = .ok (.iinc 8 1, 3) := by decide +kernel
theorem dX2_commonDivisor_42 : decode cX2_commonDivisor 42 = .ok (.goto (-33), 3) := by decide +kernel
