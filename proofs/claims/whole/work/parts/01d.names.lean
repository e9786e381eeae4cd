theorem dX5_canBe_91 : decode cX5_canBe 91 = .ok (.getfield 10, 3) := by decide +kernel
theorem dX5_canBe_94 : decode cX5_canBe 94 = .ok (.aload_n 0, 1) := by decide +kernel
theorem dX5_canBe_95 : decode cX5_canBe 95 = .ok (.getfield 16, 3) := by decide +kernel
theorem dX5_canBe_98 : decode cX5_canBe 98 = .ok (.aload_n 0, 1) := by decide +kernel
theorem dX5_canBe_99 : decode cX5_canBe 99 = .ok (.getfield 34, 3) := by decide +kernel
theorem dX5_canBe_102 : decode cX5_canBe 102 = .ok (.isub, 1) := by decide +kernel
theorem dX5_canBe_103 : decode cX5_canBe 103 = .ok (.if_icmp .gt 7, 3) := by decide +kernel
theorem dX5_canBe_106 : decode cX5_canBe 106 = .ok (.iconst 1, 1) := by decide +kernel
theorem dX5_canBe_107 : decode cX5_canBe 107 = .ok (.goto 4, 3) := by decide +kernel
theorem dX5_canBe_110 : decode cX5_canBe 110 = .ok (.iconst 0, 1) := by decide +kernel
theorem dX5_canBe_111 : decode cX5_canBe 111 = .ok (.ireturn, 1) := by decide +kernel
set_option maxRecDepth 20000 in
theorem ggX6_init_X4_init : GoodIn wsX6_init wsX4_init := goodIn_r _ [20, 21, 2, 3, 22, 23, 24, 25, 26, 27, 28, 47, 48] (by decide +kernel) (by decide +kernel)
set_option maxRecDepth 20000 in
theorem gX6_init_X4_init : GoodIn wsX6_init (wsX4_init) := ggX6_init_X4_init
set_option maxRecDepth 20000 in
theorem ggX6_init_X3_init : GoodIn wsX6_init wsX3_init := goodIn_r _ [31, 32, 2, 3, 33, 22, 34, 35, 36, 37, 38, 39, 40, 55, 56, 57, 58, 59, 60, 61, 62, 63] (by decide +kernel) (by decide +kernel)
set_option maxRecDepth 20000 in
theorem gX6_init_X3_init : GoodIn wsX6_init (wsX3_init) := ggX6_init_X3_init
set_option maxRecDepth 20000 in
theorem ggX6_init_X0_init : GoodIn wsX6_init wsX0_init := goodIn_r _ [43, 44, 2, 3, 45, 22, 46, 64, 65] (by decide +kernel) (by decide +kernel)
set_option maxRecDepth 20000 in
theorem gX6_init_X0_init : GoodIn wsX6_init (wsX0_init) := ggX6_init_X0_init
theorem dX6_init_0 : decode cX6_init 0 = .ok (.aload_n 0, 1) := by decide +kernel
theorem dX6_init_1 : decode cX6_init 1 = .ok (.invokespecial 1, 3) := by decide +kernel
theorem dX6_init_4 : decode cX6_init 4 = .ok (.aload_n 0, 1) := by decide +kernel
theorem dX6_init_5 : decode cX6_init 5 = .ok (.new 7, 3) := by decide +kernel
theorem dX6_init_8 : decode cX6_init 8 = .ok (.dup, 1) := by decide +kernel
theorem dX6_init_9 : decode cX6_init 9 = .ok (.invokespecial 9, 3) := by decide +kernel
theorem dX6_init_12 : decode cX6_init 12 = .ok (.putfield 10, 3) := by decide +kernel
theorem dX6_init_15 : decode cX6_init 15 = .ok (.aload_n 0, 1) := by decide +kernel
theorem dX6_init_16 : decode cX6_init 16 = .ok (.bipush 12, 2) := by decide +kernel
theorem dX6_init_18 : decode cX6_init 18 = .ok (.anewarray 16, 3) := by decide +kernel
theorem dX6_init_21 : decode cX6_init 21 = .ok (.putfield 18, 3) := by decide +kernel
theorem dX6_init_24 : decode cX6_init 24 = .ok (.aload_n 0, 1) := by decide +kernel
theorem dX6_init_25 : decode cX6_init 25 = .ok (.new 22, 3) := by decide +kernel
theorem dX6_init_28 : decode cX6_init 28 = .ok (.dup, 1) := by decide +kernel
theorem dX6_init_29 : decode cX6_init 29 = .ok (.aload_n 0, 1) := by decide +kernel
theorem dX6_init_30 : decode cX6_init 30 = .ok (.getfield 10, 3) := by decide +kernel
theorem dX6_init_33 : decode cX6_init 33 = .ok (.invokespecial 24, 3) := by decide +kernel
theorem dX6_init_36 : decode cX6_init 36 = .ok (.putfield 27, 3) := by decide +kernel
theorem dX6_init_39 : decode cX6_init 39 = .ok (.aload_n 0, 1) := by decide +kernel
theorem dX6_init_40 : decode cX6_init 40 = .ok (.new 31, 3) := by decide +kernel
theorem dX6_init_43 : decode cX6_init 43 = .ok (.dup, 1) := by decide +kernel
theorem dX6_init_44 : decode cX6_init 44 = .ok (.aload_n 0, 1) := by decide +kernel
theorem dX6_init_45 : decode cX6_init 45 = .ok (.getfield 10, 3) := by decide +kernel
theorem dX6_init_48 : decode cX6_init 48 = .ok (.invokespecial 33, 3) := by decide +kernel
theorem dX6_init_51 : decode cX6_init 51 = .ok (.putfield 34, 3) := by decide +kernel
theorem dX6_init_54 : decode cX6_init 54 = .ok (.return_, 1) := by decide +kernel
set_option maxRecDepth 20000 in
theorem ggX6_price_X6_within : GoodIn wsX6_price wsX6_within := goodIn_r _ [6] (by decide +kernel) (by decide +kernel)
set_option maxRecDepth 20000 in
theorem gX6_price_X6_within : GoodIn wsX6_price (va_wsS RX6 38 yX6_within wsX6_within) := goodIn_app (goodIn_of _ (by decide +kernel)) ggX6_price_X6_within
set_option maxRecDepth 20000 in
theorem ggX6_price_X4_put : GoodIn wsX6_price wsX4_put := goodIn_r _ [11, 12, 13, 14, 10, 15, 4, 5, 6, 22, 23] (by decide +kernel) (by decide +kernel)
set_option maxRecDepth 20000 in
theorem gX6_price_X4_put : GoodIn wsX6_price (wsV RX6 46 RX4 yX4_put wsX4_put) := goodIn_app (goodIn_of _ (by decide +kernel)) ggX6_price_X4_put
theorem dX6_price_0 : decode cX6_price 0 = .ok (.iload_n 1, 1) := by decide +kernel
theorem dX6_price_1 : decode cX6_price 1 = .ok (.iconst 0, 1) := by decide +kernel
theorem dX6_price_2 : decode cX6_price 2 = .ok (.iconst 2, 1) := by decide +kernel
theorem dX6_price_3 : decode cX6_price 3 = .ok (.invokestatic 38, 3) := by decide +kernel
theorem dX6_price_6 : decode cX6_price 6 = .ok (.ifCond .eq 15, 3) := by decide +kernel
theorem dX6_price_9 : decode cX6_price 9 = .ok (.iload 4, 2) := by decide +kernel
theorem dX6_price_11 : decode cX6_price 11 = .ok (.iconst (-1), 1) := by decide +kernel
theorem dX6_price_12 : decode cX6_price 12 = .ok (.sipush 999, 3) := by decide +kernel
theorem dX6_price_15 : decode cX6_price 15 = .ok (.invokestatic 38, 3) := by decide +kernel
theorem dX6_price_18 : decode cX6_price 18 = .ok (.ifCond .ne 5, 3) := by decide +kernel
theorem dX6_price_21 : decode cX6_price 21 = .ok (.iconst 0, 1) := by decide +kernel
theorem dX6_price_22 : decode cX6_price 22 = .ok (.ireturn, 1) := by decide +kernel
theorem dX6_price_23 : decode cX6_price 23 = .ok (.iload_n 2, 1) := by decide +kernel
theorem dX6_price_24 : decode cX6_price 24 = .ok (.aload_n 0, 1) := by decide +kernel
theorem dX6_price_25 : decode cX6_price 25 = .ok (.getfield 42, 3) := by decide +kernel
theorem dX6_price_28 : decode cX6_price 28 = .ok (.if_icmp .lt 15, 3) := by decide +kernel
theorem dX6_price_31 : decode cX6_price 31 = .ok (.iload_n 2, 1) := by decide +kernel
theorem dX6_price_32 : decode cX6_price 32 = .ok (.iload_n 3, 1) := by decide +kernel
theorem dX6_price_33 : decode cX6_price 33 = .ok (.if_icmp .gt 10, 3) := by decide +kernel
theorem dX6_price_36 : decode cX6_price 36 = .ok (.iload_n 3, 1) := by decide +kernel
theorem dX6_price_37 : decode cX6_price 37 = .ok (.sipush 200, 3) := by decide +kernel
theorem dX6_price_40 : decode cX6_price 40 = .ok (.if_icmp .lt 5, 3) := by decide +kernel
theorem dX6_price_43 : decode cX6_price 43 = .ok (.iconst 0, 1) := by decide +kernel
theorem dX6_price_44 : decode cX6_price 44 = .ok (.ireturn, 1) := by decide +kernel
theorem dX6_price_45 : decode cX6_price 45 = .ok (.aload_n 0, 1) := by decide +kernel
theorem dX6_price_46 : decode cX6_price 46 = .ok (.getfield 10, 3) := by decide +kernel
theorem dX6_price_49 : decode cX6_price 49 = .ok (.iload_n 1, 1) := by decide +kernel
theorem dX6_price_50 : decode cX6_price 50 = .ok (.iload_n 2, 1) := by decide +kernel
theorem dX6_price_51 : decode cX6_price 51 = .ok (.iload_n 3, 1) := by decide +kernel
theorem dX6_price_52 : decode cX6_price 52 = .ok (.iload 4, 2) := by decide +kernel
theorem dX6_price_54 : decode cX6_price 54 = .ok (.invokevirtual 46, 3) := by decide +kernel
theorem dX6_price_57 : decode cX6_price 57 = .ok (.iconst 1, 1) := by decide +kernel
theorem dX6_price_58 : decode cX6_price 58 = .ok (.ireturn, 1) := by decide +kernel
set_option maxRecDepth 20000 in
theorem ggX6_full_X6_within : GoodIn wsX6_full wsX6_within := goodIn_r _ [9] (by decide +kernel) (by decide +kernel)
set_option maxRecDepth 20000 in
theorem gX6_full_X6_within : GoodIn wsX6_full (va_wsS RX6 38 yX6_within wsX6_within) := goodIn_app (goodIn_of _ (by decide +kernel)) ggX6_full_X6_within
set_option maxRecDepth 20000 in
theorem ggX6_full_X3_forget : GoodIn wsX6_full wsX3_forget := goodIn_r _ [14, 15, 24, 25, 26, 27, 28, 29, 30, 31, 32] (by decide +kernel) (by decide +kernel)
set_option maxRecDepth 20000 in
theorem gX6_full_X3_forget : GoodIn wsX6_full (wsV RX6 56 RX3 yX3_forget wsX3_forget) := goodIn_app (goodIn_of _ (by decide +kernel)) ggX6_full_X3_forget
theorem dX6_full_0 : decode cX6_full 0 = .ok (.iload_n 1, 1) := by decide +kernel
theorem dX6_full_1 : decode cX6_full 1 = .ok (.iconst 1, 1) := by decide +kernel
theorem dX6_full_2 : decode cX6_full 2 = .ok (.sipush 999, 3) := by decide +kernel
theorem dX6_full_5 : decode cX6_full 5 = .ok (.invokestatic 38, 3) := by decide +kernel
theorem dX6_full_8 : decode cX6_full 8 = .ok (.ifCond .eq 17, 3) := by decide +kernel
theorem dX6_full_11 : decode cX6_full 11 = .ok (.aload_n 0, 1) := by decide +kernel
theorem dX6_full_12 : decode cX6_full 12 = .ok (.getfield 42, 3) := by decide +kernel
theorem dX6_full_15 : decode cX6_full 15 = .ok (.ifCond .ne 10, 3) := by decide +kernel
theorem dX6_full_18 : decode cX6_full 18 = .ok (.aload_n 0, 1) := by decide +kernel
theorem dX6_full_19 : decode cX6_full 19 = .ok (.getfield 50, 3) := by decide +kernel
theorem dX6_full_22 : decode cX6_full 22 = .ok (.ifCond .eq 5, 3) := by decide +kernel
theorem dX6_full_25 : decode cX6_full 25 = .ok (.iconst 0, 1) := by decide +kernel
theorem dX6_full_26 : decode cX6_full 26 = .ok (.ireturn, 1) := by decide +kernel
theorem dX6_full_27 : decode cX6_full 27 = .ok (.aload_n 0, 1) := by decide +kernel
theorem dX6_full_28 : decode cX6_full 28 = .ok (.getfield 10, 3) := by decide +kernel
theorem dX6_full_31 : decode cX6_full 31 = .ok (.iload_n 1, 1) := by decide +kernel
theorem dX6_full_32 : decode cX6_full 32 = .ok (.putfield 53, 3) := by decide +kernel
theorem dX6_full_35 : decode cX6_full 35 = .ok (.aload_n 0, 1) := by decide +kernel
theorem dX6_full_36 : decode cX6_full 36 = .ok (.getfield 27, 3) := by decide +kernel
theorem dX6_full_39 : decode cX6_full 39 = .ok (.invokevirtual 56, 3) := by decide +kernel
theorem dX6_full_42 : decode cX6_full 42 = .ok (.iconst 1, 1) := by decide +kernel
theorem dX6_full_43 : decode cX6_full 43 = .ok (.ireturn, 1) := by decide +kernel
set_option maxRecDepth 20000 in
theorem ggX6_job_X6_within : GoodIn wsX6_job wsX6_within := goodIn_r _ [13] (by decide +kernel) (by decide +kernel)
set_option maxRecDepth 20000 in
theorem gX6_job_X6_within : GoodIn wsX6_job (va_wsS RX6 38 yX6_within wsX6_within) := goodIn_app (goodIn_of _ (by decide +kernel)) ggX6_job_X6_within
set_option maxRecDepth 20000 in
theorem ggX6_job_X5_init : GoodIn wsX6_job wsX5_init := goodIn_r _ [16, 17, 18, 19, 20, 21, 22, 23, 24, 25, 26, 27, 28, 46, 47, 48, 49, 50, 51, 52, 53] (by decide +kernel) (by decide +kernel)
set_option maxRecDepth 20000 in
theorem gX6_job_X5_init : GoodIn wsX6_job (wsX5_init) := ggX6_job_X5_init
set_option maxRecDepth 20000 in
theorem ggX6_job_X5_canBe : GoodIn wsX6_job wsX5_canBe := goodIn_r _ [32, 21, 22, 23, 24, 25, 26, 27, 28, 11, 12, 13, 46, 47, 48, 49, 50, 51, 52, 53] (by decide +kernel) (by decide +kernel)
set_option maxRecDepth 20000 in
theorem gX6_job_X5_canBe : GoodIn wsX6_job (wsV RX6 63 RX5 yX5_canBe wsX5_canBe) := goodIn_app (goodIn_of _ (by decide +kernel)) ggX6_job_X5_canBe
set_option maxRecDepth 20000 in
theorem ggX6_job_X1_init : GoodIn wsX6_job wsX1_init := goodIn_r _ [35, 36, 18, 19, 37, 38, 39, 54, 55, 56, 57, 58, 59, 60, 61, 62, 63, 64, 65, 66, 67, 68, 69] (by decide +kernel) (by decide +kernel)
set_option maxRecDepth 20000 in
theorem gX6_job_X1_init : GoodIn wsX6_job (wsX1_init) := ggX6_job_X1_init
theorem dX6_job_0 : decode cX6_job 0 = .ok (.aload_n 0, 1) := by decide +kernel
theorem dX6_job_1 : decode cX6_job 1 = .ok (.getfield 50, 3) := by decide +kernel
theorem dX6_job_4 : decode cX6_job 4 = .ok (.istore 4, 2) := by decide +kernel
theorem dX6_job_6 : decode cX6_job 6 = .ok (.iload 4, 2) := by decide +kernel
theorem dX6_job_8 : decode cX6_job 8 = .ok (.iconst 0, 1) := by decide +kernel
theorem dX6_job_9 : decode cX6_job 9 = .ok (.aload_n 0, 1) := by decide +kernel
theorem dX6_job_10 : decode cX6_job 10 = .ok (.getfield 18, 3) := by decide +kernel
theorem dX6_job_13 : decode cX6_job 13 = .ok (.arraylength, 1) := by decide +kernel
theorem dX6_job_14 : decode cX6_job 14 = .ok (.iconst 1, 1) := by decide +kernel
theorem dX6_job_15 : decode cX6_job 15 = .ok (.isub, 1) := by decide +kernel
theorem dX6_job_16 : decode cX6_job 16 = .ok (.invokestatic 38, 3) := by decide +kernel
theorem dX6_job_19 : decode cX6_job 19 = .ok (.ifCond .ne 5, 3) := by decide +kernel
theorem dX6_job_22 : decode cX6_job 22 = .ok (.iconst (-1), 1) := by decide +kernel
theorem dX6_job_23 : decode cX6_job 23 = .ok (.ireturn, 1) := by decide +kernel
theorem dX6_job_24 : decode cX6_job 24 = .ok (.new 59, 3) := by decide +kernel
theorem dX6_job_27 : decode cX6_job 27 = .ok (.dup, 1) := by decide +kernel
theorem dX6_job_28 : decode cX6_job 28 = .ok (.iload_n 1, 1) := by decide +kernel
theorem dX6_job_29 : decode cX6_job 29 = .ok (.iload_n 2, 1) := by decide +kernel
theorem dX6_job_30 : decode cX6_job 30 = .ok (.iload_n 3, 1) := by decide +kernel
theorem dX6_job_31 : decode cX6_job 31 = .ok (.aload_n 0, 1) := by decide +kernel
theorem dX6_job_32 : decode cX6_job 32 = .ok (.getfield 42, 3) := by decide +kernel
theorem dX6_job_35 : decode cX6_job 35 = .ok (.invokespecial 61, 3) := by decide +kernel
theorem dX6_job_38 : decode cX6_job 38 = .ok (.astore 5, 2) := by decide +kernel
theorem dX6_job_40 : decode cX6_job 40 = .ok (.aload 5, 2) := by decide +kernel
theorem dX6_job_42 : decode cX6_job 42 = .ok (.invokevirtual 63, 3) := by decide +kernel
theorem dX6_job_45 : decode cX6_job 45 = .ok (.ifCond .ne 5, 3) := by decide +kernel
theorem dX6_job_48 : decode cX6_job 48 = .ok (.iconst (-1), 1) := by decide +kernel
theorem dX6_job_49 : decode cX6_job 49 = .ok (.ireturn, 1) := by decide +kernel
theorem dX6_job_50 : decode cX6_job 50 = .ok (.aload_n 0, 1) := by decide +kernel
theorem dX6_job_51 : decode cX6_job 51 = .ok (.getfield 18, 3) := by decide +kernel
theorem dX6_job_54 : decode cX6_job 54 = .ok (.iload 4, 2) := by decide +kernel
theorem dX6_job_56 : decode cX6_job 56 = .ok (.new 16, 3) := by decide +kernel
theorem dX6_job_59 : decode cX6_job 59 = .ok (.dup, 1) := by decide +kernel
theorem dX6_job_60 : decode cX6_job 60 = .ok (.aload 5, 2) := by decide +kernel
theorem dX6_job_62 : decode cX6_job 62 = .ok (.invokespecial 67, 3) := by decide +kernel
theorem dX6_job_65 : decode cX6_job 65 = .ok (.aastore, 1) := by decide +kernel
theorem dX6_job_66 : decode cX6_job 66 = .ok (.aload_n 0, 1) := by decide +kernel
theorem dX6_job_67 : decode cX6_job 67 = .ok (.iload 4, 2) := by decide +kernel
theorem dX6_job_69 : decode cX6_job 69 = .ok (.iconst 1, 1) := by decide +kernel
theorem dX6_job_70 : decode cX6_job 70 = .ok (.iadd, 1) := by decide +kernel
theorem dX6_job_71 : decode cX6_job 71 = .ok (.putfield 50, 3) := by decide +kernel
theorem dX6_job_74 : decode cX6_job 74 = .ok (.iload 4, 2) := by decide +kernel
theorem dX6_job_76 : decode cX6_job 76 = .ok (.ireturn, 1) := by decide +kernel
set_option maxRecDepth 20000 in
theorem ggX6_go_X6_within : GoodIn wsX6_go wsX6_within := goodIn_r _ [9] (by decide +kernel) (by decide +kernel)
set_option maxRecDepth 20000 in
theorem gX6_go_X6_within : GoodIn wsX6_go (va_wsS RX6 38 yX6_within wsX6_within) := goodIn_app (goodIn_of _ (by decide +kernel)) ggX6_go_X6_within
set_option maxRecDepth 20000 in
theorem ggX6_go_X6_passHour : GoodIn wsX6_go wsX6_passHour := goodIn_r _ [13, 14, 15, 16, 17, 18, 8, 19, 20, 6, 7, 9, 21, 22, 23, 24, 25, 26, 27, 28, 29, 30, 31, 32, 33, 34, 35, 36, 37, 38, 39, 40, 41, 42, 43, 44, 45, 46, 47, 48, 49, 50, 51, 52, 53, 54, 55, 56, 57, 58, 59, 60, 61, 62, 63, 64, 65, 66, 67, 68, 69, 70, 71, 72, 73, 74, 75, 76, 77, 78, 79, 80, 81, 82, 83, 84, 85, 86, 87, 88, 89, 90, 91, 92, 93, 94, 95, 96, 97, 98, 99, 100, 101, 102, 103, 104, 105, 106, 107, 108, 109, 110, 111, 112, 113, 114, 115, 116, 117, 118, 119, 120, 121, 122, 123, 124, 125, 126, 127, 128, 129, 130, 131, 132, 133, 134, 135] (by decide +kernel) (by decide +kernel)
set_option maxRecDepth 20000 in
theorem gX6_go_X6_passHour : GoodIn wsX6_go (wsV RX6 76 RX6 yX6_passHour wsX6_passHour) := goodIn_app (goodIn_of _ (by decide +kernel)) ggX6_go_X6_passHour
theorem dX6_go_0 : decode cX6_go 0 = .ok (.iload_n 1, 1) := by decide +kernel
theorem dX6_go_1 : decode cX6_go 1 = .ok (.iconst 0, 1) := by decide +kernel
theorem dX6_go_2 : decode cX6_go 2 = .ok (.sipush 200, 3) := by decide +kernel
theorem dX6_go_5 : decode cX6_go 5 = .ok (.invokestatic 38, 3) := by decide +kernel
theorem dX6_go_8 : decode cX6_go 8 = .ok (.ifCond .ne 5, 3) := by decide +kernel
theorem dX6_go_11 : decode cX6_go 11 = .ok (.iconst (-1), 1) := by decide +kernel
theorem dX6_go_12 : decode cX6_go 12 = .ok (.ireturn, 1) := by decide +kernel
theorem dX6_go_13 : decode cX6_go 13 = .ok (.sipush 200, 3) := by decide +kernel
theorem dX6_go_16 : decode cX6_go 16 = .ok (.aload_n 0, 1) := by decide +kernel
theorem dX6_go_17 : decode cX6_go 17 = .ok (.getfield 42, 3) := by decide +kernel
theorem dX6_go_20 : decode cX6_go 20 = .ok (.iload_n 1, 1) := by decide +kernel
theorem dX6_go_21 : decode cX6_go 21 = .ok (.iadd, 1) := by decide +kernel
theorem dX6_go_22 : decode cX6_go 22 = .ok (.invokestatic 70, 3) := by decide +kernel
theorem dX6_go_25 : decode cX6_go 25 = .ok (.istore_n 2, 1) := by decide +kernel
theorem dX6_go_26 : decode cX6_go 26 = .ok (.aload_n 0, 1) := by decide +kernel
theorem dX6_go_27 : decode cX6_go 27 = .ok (.getfield 42, 3) := by decide +kernel
theorem dX6_go_30 : decode cX6_go 30 = .ok (.istore_n 3, 1) := by decide +kernel
theorem dX6_go_31 : decode cX6_go 31 = .ok (.iload_n 3, 1) := by decide +kernel
theorem dX6_go_32 : decode cX6_go 32 = .ok (.iload_n 2, 1) := by decide +kernel
theorem dX6_go_33 : decode cX6_go 33 = .ok (.if_icmp .ge 14, 3) := by decide +kernel
theorem dX6_go_36 : decode cX6_go 36 = .ok (.aload_n 0, 1) := by decide +kernel
theorem dX6_go_37 : decode cX6_go 37 = .ok (.iload_n 3, 1) := by decide +kernel
theorem dX6_go_38 : decode cX6_go 38 = .ok (.invokevirtual 76, 3) := by decide +kernel
theorem dX6_go_41 : decode cX6_go 41 = .ok (.iinc 3 1, 3) := by decide +kernel
theorem dX6_go_44 : decode cX6_go 44 = .ok (.goto (-13), 3) := by decide +kernel
theorem dX6_go_47 : decode cX6_go 47 = .ok (.aload_n 0, 1) := by decide +kernel
theorem dX6_go_48 : decode cX6_go 48 = .ok (.iload_n 2, 1) := by decide +kernel
theorem dX6_go_49 : decode cX6_go 49 = .ok (.putfield 42, 3) := by decide +kernel
theorem dX6_go_52 : decode cX6_go 52 = .ok (.aload_n 0, 1) := by decide +kernel
theorem dX6_go_53 : decode cX6_go 53 = .ok (.getfield 42, 3) := by decide +kernel
theorem dX6_go_56 : decode cX6_go 56 = .ok (.ireturn, 1) := by decide +kernel
set_option maxRecDepth 20000 in
theorem ggX6_told_X6_jobOf : GoodIn wsX6_told wsX6_jobOf := goodIn_r _ [5, 6, 7, 8, 4, 9, 34, 35, 36, 37, 38, 39] (by decide +kernel) (by decide +kernel)
set_option maxRecDepth 20000 in
theorem gX6_told_X6_jobOf : GoodIn wsX6_told (wsV RX6 80 RX6 yX6_jobOf wsX6_jobOf) := goodIn_app (goodIn_of _ (by decide +kernel)) ggX6_told_X6_jobOf
set_option maxRecDepth 20000 in
theorem ggX6_told_X1_tell : GoodIn wsX6_told wsX1_tell := goodIn_r _ [14, 15, 16, 17, 18, 19, 20, 21, 22, 23, 24, 25, 26, 27, 28, 29, 13, 30, 31, 32, 33, 40, 41, 42, 43, 44, 45, 46, 47, 48, 49, 50, 51, 52, 53, 54, 55, 56, 57, 58, 59, 60, 61, 62, 63] (by decide +kernel) (by decide +kernel)
set_option maxRecDepth 20000 in
theorem gX6_told_X1_tell : GoodIn wsX6_told (wsV RX6 84 RX1 yX1_tell wsX1_tell) := goodIn_app (goodIn_of _ (by decide +kernel)) ggX6_told_X1_tell
theorem dX6_told_0 : decode cX6_told 0 = .ok (.aload_n 0, 1) := by decide +kernel
theorem dX6_told_1 : decode cX6_told 1 = .ok (.iload_n 1, 1) := by decide +kernel
theorem dX6_told_2 : decode cX6_told 2 = .ok (.invokevirtual 80, 3) := by decide +kernel
theorem dX6_told_5 : decode cX6_told 5 = .ok (.astore_n 3, 1) := by decide +kernel
theorem dX6_told_6 : decode cX6_told 6 = .ok (.aload_n 3, 1) := by decide +kernel
theorem dX6_told_7 : decode cX6_told 7 = .ok (.ifnonnull 7, 3) := by decide +kernel
theorem dX6_told_10 : decode cX6_told 10 = .ok (.iconst (-1), 1) := by decide +kernel
theorem dX6_told_11 : decode cX6_told 11 = .ok (.goto 8, 3) := by decide +kernel
theorem dX6_told_14 : decode cX6_told 14 = .ok (.aload_n 3, 1) := by decide +kernel
theorem dX6_told_15 : decode cX6_told 15 = .ok (.iload_n 2, 1) := by decide +kernel
theorem dX6_told_16 : decode cX6_told 16 = .ok (.invokevirtual 84, 3) := by decide +kernel
theorem dX6_told_19 : decode cX6_told 19 = .ok (.ireturn, 1) := by decide +kernel
set_option maxRecDepth 20000 in
theorem ggX6_span_X2_canBe : GoodIn wsX6_span wsX2_canBe := goodIn_r _ [4, 5, 6, 7] (by decide +kernel) (by decide +kernel)
set_option maxRecDepth 20000 in
theorem gX6_span_X2_canBe : GoodIn wsX6_span (va_wsS RX6 88 yX2_canBe wsX2_canBe) := goodIn_app (goodIn_of _ (by decide +kernel)) ggX6_span_X2_canBe
set_option maxRecDepth 20000 in
theorem ggX6_span_X2_bestSpan : GoodIn wsX6_span wsX2_bestSpan := goodIn_r _ [10, 11, 12, 3, 13, 14, 15, 16, 17, 18, 19, 20] (by decide +kernel) (by decide +kernel)
set_option maxRecDepth 20000 in
theorem gX6_span_X2_bestSpan : GoodIn wsX6_span (va_wsS RX6 92 yX2_bestSpan wsX2_bestSpan) := goodIn_app (goodIn_of _ (by decide +kernel)) ggX6_span_X2_bestSpan
theorem dX6_span_0 : decode cX6_span 0 = .ok (.iload_n 1, 1) := by decide +kernel
theorem dX6_span_1 : decode cX6_span 1 = .ok (.iload_n 2, 1) := by decide +kernel
theorem dX6_span_2 : decode cX6_span 2 = .ok (.iload_n 3, 1) := by decide +kernel
theorem dX6_span_3 : decode cX6_span 3 = .ok (.invokestatic 88, 3) := by decide +kernel
theorem dX6_span_6 : decode cX6_span 6 = .ok (.ifCond .eq 12, 3) := by decide +kernel
theorem dX6_span_9 : decode cX6_span 9 = .ok (.iload_n 1, 1) := by decide +kernel
theorem dX6_span_10 : decode cX6_span 10 = .ok (.iload_n 2, 1) := by decide +kernel
theorem dX6_span_11 : decode cX6_span 11 = .ok (.iload_n 3, 1) := by decide +kernel
theorem dX6_span_12 : decode cX6_span 12 = .ok (.invokestatic 92, 3) := by decide +kernel
theorem dX6_span_15 : decode cX6_span 15 = .ok (.goto 4, 3) := by decide +kernel
theorem dX6_span_18 : decode cX6_span 18 = .ok (.iconst (-1), 1) := by decide +kernel
theorem dX6_span_19 : decode cX6_span 19 = .ok (.ireturn, 1) := by decide +kernel
set_option maxRecDepth 20000 in
theorem ggX6_mean_X2_canBe : GoodIn wsX6_mean wsX2_canBe := goodIn_r _ [5, 6, 7, 8] (by decide +kernel) (by decide +kernel)
set_option maxRecDepth 20000 in
theorem gX6_mean_X2_canBe : GoodIn wsX6_mean (va_wsS RX6 88 yX2_canBe wsX2_canBe) := goodIn_app (goodIn_of _ (by decide +kernel)) ggX6_mean_X2_canBe
set_option maxRecDepth 20000 in
theorem ggX6_mean_X6_within : GoodIn wsX6_mean wsX6_within := goodIn_r _ [8] (by decide +kernel) (by decide +kernel)
set_option maxRecDepth 20000 in
theorem gX6_mean_X6_within : GoodIn wsX6_mean (va_wsS RX6 38 yX6_within wsX6_within) := goodIn_app (goodIn_of _ (by decide +kernel)) ggX6_mean_X6_within
set_option maxRecDepth 20000 in
theorem ggX6_mean_X2_power : GoodIn wsX6_mean wsX2_power := goodIn_r _ [12] (by decide +kernel) (by decide +kernel)
set_option maxRecDepth 20000 in
theorem gX6_mean_X2_power : GoodIn wsX6_mean (va_wsS RX6 98 yX2_power wsX2_power) := goodIn_app (goodIn_of _ (by decide +kernel)) ggX6_mean_X2_power
set_option maxRecDepth 20000 in
theorem ggX6_mean_X2_above : GoodIn wsX6_mean wsX2_above := goodIn_r _ [15, 16, 17, 18, 19, 20, 11, 4, 12] (by decide +kernel) (by decide +kernel)
set_option maxRecDepth 20000 in
theorem gX6_mean_X2_above : GoodIn wsX6_mean (va_wsS RX6 102 yX2_above wsX2_above) := goodIn_app (goodIn_of _ (by decide +kernel)) ggX6_mean_X2_above
set_option maxRecDepth 20000 in
theorem ggX6_mean_X2_commonDivisor : GoodIn wsX6_mean wsX2_commonDivisor := goodIn_r _ [23] (by decide +kernel) (by decide +kernel)
set_option maxRecDepth 20000 in
theorem gX6_mean_X2_commonDivisor : GoodIn wsX6_mean (va_wsS RX6 106 yX2_commonDivisor wsX2_commonDivisor) := goodIn_app (goodIn_of _ (by decide +kernel)) ggX6_mean_X2_commonDivisor
theorem dX6_mean_0 : decode cX6_mean 0 = .ok (.iload_n 1, 1) := by decide +kernel
theorem dX6_mean_1 : decode cX6_mean 1 = .ok (.iload_n 2, 1) := by decide +kernel
theorem dX6_mean_2 : decode cX6_mean 2 = .ok (.iload_n 3, 1) := by decide +kernel
theorem dX6_mean_3 : decode cX6_mean 3 = .ok (.invokestatic 88, 3) := by decide +kernel
theorem dX6_mean_6 : decode cX6_mean 6 = .ok (.ifCond .eq 23, 3) := by decide +kernel
theorem dX6_mean_9 : decode cX6_mean 9 = .ok (.iload 4, 2) := by decide +kernel
theorem dX6_mean_11 : decode cX6_mean 11 = .ok (.iconst 1, 1) := by decide +kernel
theorem dX6_mean_12 : decode cX6_mean 12 = .ok (.iload_n 1, 1) := by decide +kernel
theorem dX6_mean_13 : decode cX6_mean 13 = .ok (.invokestatic 38, 3) := by decide +kernel
theorem dX6_mean_16 : decode cX6_mean 16 = .ok (.ifCond .eq 13, 3) := by decide +kernel
theorem dX6_mean_19 : decode cX6_mean 19 = .ok (.iload 5, 2) := by decide +kernel
theorem dX6_mean_21 : decode cX6_mean 21 = .ok (.iconst 0, 1) := by decide +kernel
theorem dX6_mean_22 : decode cX6_mean 22 = .ok (.iconst 1, 1) := by decide +kernel
theorem dX6_mean_23 : decode cX6_mean 23 = .ok (.invokestatic 38, 3) := by decide +kernel
theorem dX6_mean_26 : decode cX6_mean 26 = .ok (.ifCond .ne 7, 3) := by decide +kernel
theorem dX6_mean_29 : decode cX6_mean 29 = .ok (.ldc2_w 96, 3) := by decide +kernel
theorem dX6_mean_32 : decode cX6_mean 32 = .ok (.lreturn, 1) := by decide +kernel
theorem dX6_mean_33 : decode cX6_mean 33 = .ok (.iload_n 3, 1) := by decide +kernel
theorem dX6_mean_34 : decode cX6_mean 34 = .ok (.iconst 1, 1) := by decide +kernel
theorem dX6_mean_35 : decode cX6_mean 35 = .ok (.isub, 1) := by decide +kernel
theorem dX6_mean_36 : decode cX6_mean 36 = .ok (.iload 4, 2) := by decide +kernel
theorem dX6_mean_38 : decode cX6_mean 38 = .ok (.iload_n 2, 1) := by decide +kernel
theorem dX6_mean_39 : decode cX6_mean 39 = .ok (.iadd, 1) := by decide +kernel
theorem dX6_mean_40 : decode cX6_mean 40 = .ok (.invokestatic 98, 3) := by decide +kernel
theorem dX6_mean_43 : decode cX6_mean 43 = .ok (.lstore 6, 2) := by decide +kernel
theorem dX6_mean_45 : decode cX6_mean 45 = .ok (.iload_n 1, 1) := by decide +kernel
theorem dX6_mean_46 : decode cX6_mean 46 = .ok (.iload_n 2, 1) := by decide +kernel
theorem dX6_mean_47 : decode cX6_mean 47 = .ok (.iload_n 3, 1) := by decide +kernel
theorem dX6_mean_48 : decode cX6_mean 48 = .ok (.iload 4, 2) := by decide +kernel
theorem dX6_mean_50 : decode cX6_mean 50 = .ok (.iload 4, 2) := by decide +kernel
theorem dX6_mean_52 : decode cX6_mean 52 = .ok (.iload_n 2, 1) := by decide +kernel
theorem dX6_mean_53 : decode cX6_mean 53 = .ok (.iadd, 1) := by decide +kernel
theorem dX6_mean_54 : decode cX6_mean 54 = .ok (.invokestatic 102, 3) := by decide +kernel
theorem dX6_mean_57 : decode cX6_mean 57 = .ok (.lstore 8, 2) := by decide +kernel
theorem dX6_mean_59 : decode cX6_mean 59 = .ok (.lload 8, 2) := by decide +kernel
theorem dX6_mean_61 : decode cX6_mean 61 = .ok (.lload 6, 2) := by decide +kernel
theorem dX6_mean_63 : decode cX6_mean 63 = .ok (.invokestatic 106, 3) := by decide +kernel
theorem dX6_mean_66 : decode cX6_mean 66 = .ok (.lstore 10, 2) := by decide +kernel
theorem dX6_mean_68 : decode cX6_mean 68 = .ok (.lload 10, 2) := by decide +kernel
theorem dX6_mean_70 : decode cX6_mean 70 = .ok (.lconst 0, 1) := by decide +kernel
theorem dX6_mean_71 : decode cX6_mean 71 = .ok (.lcmp, 1) := by decide +kernel
theorem dX6_mean_72 : decode cX6_mean 72 = .ok (.ifCond .gt 7, 3) := by decide +kernel
theorem dX6_mean_75 : decode cX6_mean 75 = .ok (.ldc2_w 96, 3) := by decide +kernel
theorem dX6_mean_78 : decode cX6_mean 78 = .ok (.lreturn, 1) := by decide +kernel
theorem dX6_mean_79 : decode cX6_mean 79 = .ok (.iload 5, 2) := by decide +kernel
theorem dX6_mean_81 : decode cX6_mean 81 = .ok (.ifCond .ne 8, 3) := by decide +kernel
theorem dX6_mean_84 : decode cX6_mean 84 = .ok (.lload 8, 2) := by decide +kernel
theorem dX6_mean_86 : decode cX6_mean 86 = .ok (.goto 5, 3) := by decide +kernel
theorem dX6_mean_89 : decode cX6_mean 89 = .ok (.lload 6, 2) := by decide +kernel
theorem dX6_mean_91 : decode cX6_mean 91 = .ok (.lload 10, 2) := by decide +kernel
theorem dX6_mean_93 : decode cX6_mean 93 = .ok (.ldiv, 1) := by decide +kernel
theorem dX6_mean_94 : decode cX6_mean 94 = .ok (.lreturn, 1) := by decide +kernel
set_option maxRecDepth 20000 in
theorem ggX6_levels_X6_within : GoodIn wsX6_levels wsX6_within := goodIn_r _ [5] (by decide +kernel) (by decide +kernel)
set_option maxRecDepth 20000 in
theorem gX6_levels_X6_within : GoodIn wsX6_levels (va_wsS RX6 38 yX6_within wsX6_within) := goodIn_app (goodIn_of _ (by decide +kernel)) ggX6_levels_X6_within
set_option maxRecDepth 20000 in
theorem ggX6_levels_X3_startAnew : GoodIn wsX6_levels wsX3_startAnew := goodIn_r _ [10, 11, 12, 13, 14, 9, 15, 16, 17, 18, 3, 4, 5, 25, 26, 27, 28, 29, 30, 31, 32, 33] (by decide +kernel) (by decide +kernel)
set_option maxRecDepth 20000 in
theorem gX6_levels_X3_startAnew : GoodIn wsX6_levels (wsV RX6 110 RX3 yX3_startAnew wsX3_startAnew) := goodIn_app (goodIn_of _ (by decide +kernel)) ggX6_levels_X3_startAnew
theorem dX6_levels_0 : decode cX6_levels 0 = .ok (.iload_n 1, 1) := by decide +kernel
theorem dX6_levels_1 : decode cX6_levels 1 = .ok (.iconst 1, 1) := by decide +kernel
theorem dX6_levels_2 : decode cX6_levels 2 = .ok (.bipush 6, 2) := by decide +kernel
theorem dX6_levels_4 : decode cX6_levels 4 = .ok (.invokestatic 38, 3) := by decide +kernel
theorem dX6_levels_7 : decode cX6_levels 7 = .ok (.ifCond .ne 5, 3) := by decide +kernel
theorem dX6_levels_10 : decode cX6_levels 10 = .ok (.iconst 0, 1) := by decide +kernel
theorem dX6_levels_11 : decode cX6_levels 11 = .ok (.ireturn, 1) := by decide +kernel
theorem dX6_levels_12 : decode cX6_levels 12 = .ok (.aload_n 0, 1) := by decide +kernel
theorem dX6_levels_13 : decode cX6_levels 13 = .ok (.getfield 27, 3) := by decide +kernel
theorem dX6_levels_16 : decode cX6_levels 16 = .ok (.iload_n 1, 1) := by decide +kernel
theorem dX6_levels_17 : decode cX6_levels 17 = .ok (.invokevirtual 110, 3) := by decide +kernel
theorem dX6_levels_20 : decode cX6_levels 20 = .ok (.iconst 1, 1) := by decide +kernel
theorem dX6_levels_21 : decode cX6_levels 21 = .ok (.ireturn, 1) := by decide +kernel
set_option maxRecDepth 20000 in
theorem ggX6_level_X3_has : GoodIn wsX6_level wsX3_has := goodIn_r _ [6, 7, 8, 9, 10, 29, 30, 31, 32, 33, 34, 35, 36, 37] (by decide +kernel) (by decide +kernel)
set_option maxRecDepth 20000 in
theorem gX6_level_X3_has : GoodIn wsX6_level (wsV RX6 113 RX3 yX3_has wsX3_has) := goodIn_app (goodIn_of _ (by decide +kernel)) ggX6_level_X3_has
set_option maxRecDepth 20000 in
theorem ggX6_level_X6_within : GoodIn wsX6_level wsX6_within := goodIn_r _ [10] (by decide +kernel) (by decide +kernel)
set_option maxRecDepth 20000 in
theorem gX6_level_X6_within : GoodIn wsX6_level (va_wsS RX6 38 yX6_within wsX6_within) := goodIn_app (goodIn_of _ (by decide +kernel)) ggX6_level_X6_within
set_option maxRecDepth 20000 in
theorem ggX6_level_X3_canGo : GoodIn wsX6_level wsX3_canGo := goodIn_r _ [15, 7, 29, 30, 31, 32, 33, 34, 35, 36, 37] (by decide +kernel) (by decide +kernel)
set_option maxRecDepth 20000 in
theorem gX6_level_X3_canGo : GoodIn wsX6_level (wsV RX6 117 RX3 yX3_canGo wsX3_canGo) := goodIn_app (goodIn_of _ (by decide +kernel)) ggX6_level_X3_canGo
set_option maxRecDepth 20000 in
theorem ggX6_level_X3_setLevel : GoodIn wsX6_level wsX3_setLevel := goodIn_r _ [19, 20, 21, 22, 8, 9, 10, 29, 30, 31, 32, 33, 34, 35, 36, 37] (by decide +kernel) (by decide +kernel)
set_option maxRecDepth 20000 in
theorem gX6_level_X3_setLevel : GoodIn wsX6_level (wsV RX6 120 RX3 yX3_setLevel wsX3_setLevel) := goodIn_app (goodIn_of _ (by decide +kernel)) ggX6_level_X3_setLevel
theorem dX6_level_0 : decode cX6_level 0 = .ok (.aload_n 0, 1) := by decide +kernel
theorem dX6_level_1 : decode cX6_level 1 = .ok (.getfield 27, 3) := by decide +kernel
theorem dX6_level_4 : decode cX6_level 4 = .ok (.iload_n 1, 1) := by decide +kernel
theorem dX6_level_5 : decode cX6_level 5 = .ok (.invokevirtual 113, 3) := by decide +kernel
theorem dX6_level_8 : decode cX6_level 8 = .ok (.ifCond .eq 25, 3) := by decide +kernel
theorem dX6_level_11 : decode cX6_level 11 = .ok (.iload_n 2, 1) := by decide +kernel
theorem dX6_level_12 : decode cX6_level 12 = .ok (.iconst 0, 1) := by decide +kernel
theorem dX6_level_13 : decode cX6_level 13 = .ok (.sipush 999, 3) := by decide +kernel
theorem dX6_level_16 : decode cX6_level 16 = .ok (.invokestatic 38, 3) := by decide +kernel
theorem dX6_level_19 : decode cX6_level 19 = .ok (.ifCond .eq 14, 3) := by decide +kernel
theorem dX6_level_22 : decode cX6_level 22 = .ok (.aload_n 0, 1) := by decide +kernel
theorem dX6_level_23 : decode cX6_level 23 = .ok (.getfield 27, 3) := by decide +kernel
theorem dX6_level_26 : decode cX6_level 26 = .ok (.iload_n 3, 1) := by decide +kernel
theorem dX6_level_27 : decode cX6_level 27 = .ok (.invokevirtual 117, 3) := by decide +kernel
theorem dX6_level_30 : decode cX6_level 30 = .ok (.ifCond .ne 5, 3) := by decide +kernel
theorem dX6_level_33 : decode cX6_level 33 = .ok (.iconst 0, 1) := by decide +kernel
theorem dX6_level_34 : decode cX6_level 34 = .ok (.ireturn, 1) := by decide +kernel
theorem dX6_level_35 : decode cX6_level 35 = .ok (.aload_n 0, 1) := by decide +kernel
theorem dX6_level_36 : decode cX6_level 36 = .ok (.getfield 27, 3) := by decide +kernel
theorem dX6_level_39 : decode cX6_level 39 = .ok (.iload_n 1, 1) := by decide +kernel
theorem dX6_level_40 : decode cX6_level 40 = .ok (.iload_n 2, 1) := by decide +kernel
theorem dX6_level_41 : decode cX6_level 41 = .ok (.iload_n 3, 1) := by decide +kernel
theorem dX6_level_42 : decode cX6_level 42 = .ok (.invokevirtual 120, 3) := by decide +kernel
theorem dX6_level_45 : decode cX6_level 45 = .ok (.iconst 1, 1) := by decide +kernel
theorem dX6_level_46 : decode cX6_level 46 = .ok (.ireturn, 1) := by decide +kernel
set_option maxRecDepth 20000 in
theorem ggX6_table_X3_hasState : GoodIn wsX6_table wsX3_hasState := goodIn_r _ [7, 8, 9, 10, 11, 12, 13, 6, 14, 15, 79, 80, 81, 82, 83, 84, 85, 86, 87] (by decide +kernel) (by decide +kernel)
set_option maxRecDepth 20000 in
theorem gX6_table_X3_hasState : GoodIn wsX6_table (wsV RX6 124 RX3 yX3_hasState wsX3_hasState) := goodIn_app (goodIn_of _ (by decide +kernel)) ggX6_table_X3_hasState
set_option maxRecDepth 20000 in
theorem ggX6_table_X3_meanOf : GoodIn wsX6_table wsX3_meanOf := goodIn_r _ [19, 20, 21, 22, 23, 6, 24, 25, 15, 26, 27, 28, 29, 30, 31, 32, 33, 34, 35, 36, 37, 38, 39, 40, 41, 42, 43, 44, 45, 46, 47, 48, 8, 9, 10, 49, 50, 51, 52, 53, 54, 55, 56, 57, 58, 59, 60, 61, 62, 63, 64, 65, 66, 67, 68, 69, 70, 71, 72, 79, 80, 81, 82, 83, 84, 85, 86, 87, 88, 89] (by decide +kernel) (by decide +kernel)
set_option maxRecDepth 20000 in
theorem gX6_table_X3_meanOf : GoodIn wsX6_table (wsV RX6 127 RX3 yX3_meanOf wsX3_meanOf) := goodIn_app (goodIn_of _ (by decide +kernel)) ggX6_table_X3_meanOf
theorem dX6_table_0 : decode cX6_table 0 = .ok (.aload_n 0, 1) := by decide +kernel
theorem dX6_table_1 : decode cX6_table 1 = .ok (.getfield 27, 3) := by decide +kernel
theorem dX6_table_4 : decode cX6_table 4 = .ok (.iload_n 1, 1) := by decide +kernel
theorem dX6_table_5 : decode cX6_table 5 = .ok (.iload_n 2, 1) := by decide +kernel
theorem dX6_table_6 : decode cX6_table 6 = .ok (.iload_n 3, 1) := by decide +kernel
theorem dX6_table_7 : decode cX6_table 7 = .ok (.invokevirtual 124, 3) := by decide +kernel
theorem dX6_table_10 : decode cX6_table 10 = .ok (.ifCond .eq 16, 3) := by decide +kernel
theorem dX6_table_13 : decode cX6_table 13 = .ok (.aload_n 0, 1) := by decide +kernel
theorem dX6_table_14 : decode cX6_table 14 = .ok (.getfield 27, 3) := by decide +kernel
theorem dX6_table_17 : decode cX6_table 17 = .ok (.iload_n 1, 1) := by decide +kernel
theorem dX6_table_18 : decode cX6_table 18 = .ok (.iload_n 2, 1) := by decide +kernel
theorem dX6_table_19 : decode cX6_table 19 = .ok (.iload_n 3, 1) := by decide +kernel
theorem dX6_table_20 : decode cX6_table 20 = .ok (.invokevirtual 127, 3) := by decide +kernel
theorem dX6_table_23 : decode cX6_table 23 = .ok (.goto 6, 3) := by decide +kernel
theorem dX6_table_26 : decode cX6_table 26 = .ok (.ldc2_w 96, 3) := by decide +kernel
theorem dX6_table_29 : decode cX6_table 29 = .ok (.lreturn, 1) := by decide +kernel
set_option maxRecDepth 20000 in
theorem ggX6_rule_X3_hasState : GoodIn wsX6_rule wsX3_hasState := goodIn_r _ [6, 7, 8, 9, 10, 11, 12, 5, 13, 14, 78, 79, 80, 81, 82, 83, 84, 85, 86] (by decide +kernel) (by decide +kernel)
set_option maxRecDepth 20000 in
theorem gX6_rule_X3_hasState : GoodIn wsX6_rule (wsV RX6 124 RX3 yX3_hasState wsX3_hasState) := goodIn_app (goodIn_of _ (by decide +kernel)) ggX6_rule_X3_hasState
set_option maxRecDepth 20000 in
theorem ggX6_rule_X3_ruleOf : GoodIn wsX6_rule wsX3_ruleOf := goodIn_r _ [18, 19, 20, 21, 22, 5, 23, 24, 14, 25, 26, 27, 28, 29, 30, 31, 32, 33, 34, 35, 36, 37, 38, 39, 40, 41, 42, 43, 44, 45, 46, 47, 7, 8, 9, 48, 49, 50, 51, 52, 53, 54, 55, 56, 57, 58, 59, 60, 61, 62, 63, 64, 65, 66, 67, 68, 69, 70, 71, 78, 79, 80, 81, 82, 83, 84, 85, 86, 87, 88] (by decide +kernel) (by decide +kernel)
set_option maxRecDepth 20000 in
theorem gX6_rule_X3_ruleOf : GoodIn wsX6_rule (wsV RX6 131 RX3 yX3_ruleOf wsX3_ruleOf) := goodIn_app (goodIn_of _ (by decide +kernel)) ggX6_rule_X3_ruleOf
theorem dX6_rule_0 : decode cX6_rule 0 = .ok (.aload_n 0, 1) := by decide +kernel
theorem dX6_rule_1 : decode cX6_rule 1 = .ok (.getfield 27, 3) := by decide +kernel
theorem dX6_rule_4 : decode cX6_rule 4 = .ok (.iload_n 1, 1) := by decide +kernel
theorem dX6_rule_5 : decode cX6_rule 5 = .ok (.iload_n 2, 1) := by decide +kernel
theorem dX6_rule_6 : decode cX6_rule 6 = .ok (.iload_n 3, 1) := by decide +kernel
theorem dX6_rule_7 : decode cX6_rule 7 = .ok (.invokevirtual 124, 3) := by decide +kernel
theorem dX6_rule_10 : decode cX6_rule 10 = .ok (.ifCond .eq 16, 3) := by decide +kernel
theorem dX6_rule_13 : decode cX6_rule 13 = .ok (.aload_n 0, 1) := by decide +kernel
theorem dX6_rule_14 : decode cX6_rule 14 = .ok (.getfield 27, 3) := by decide +kernel
theorem dX6_rule_17 : decode cX6_rule 17 = .ok (.iload_n 1, 1) := by decide +kernel
theorem dX6_rule_18 : decode cX6_rule 18 = .ok (.iload_n 2, 1) := by decide +kernel
theorem dX6_rule_19 : decode cX6_rule 19 = .ok (.iload_n 3, 1) := by decide +kernel
theorem dX6_rule_20 : decode cX6_rule 20 = .ok (.invokevirtual 131, 3) := by decide +kernel
theorem dX6_rule_23 : decode cX6_rule 23 = .ok (.goto 4, 3) := by decide +kernel
theorem dX6_rule_26 : decode cX6_rule 26 = .ok (.iconst (-1), 1) := by decide +kernel
theorem dX6_rule_27 : decode cX6_rule 27 = .ok (.ireturn, 1) := by decide +kernel
set_option maxRecDepth 20000 in
theorem ggX6_worst_X3_hasState : GoodIn wsX6_worst wsX3_hasState := goodIn_r _ [6, 7, 8, 9, 10, 11, 12, 5, 13, 14, 78, 79, 80, 81, 82, 83, 84, 85, 86] (by decide +kernel) (by decide +kernel)
set_option maxRecDepth 20000 in
theorem gX6_worst_X3_hasState : GoodIn wsX6_worst (wsV RX6 124 RX3 yX3_hasState wsX3_hasState) := goodIn_app (goodIn_of _ (by decide +kernel)) ggX6_worst_X3_hasState
set_option maxRecDepth 20000 in
theorem ggX6_worst_X3_greatestOf : GoodIn wsX6_worst wsX3_greatestOf := goodIn_r _ [18, 19, 20, 21, 22, 5, 23, 24, 14, 25, 26, 27, 28, 29, 30, 31, 32, 33, 34, 35, 36, 37, 38, 39, 40, 41, 42, 43, 44, 45, 46, 47, 48, 7, 8, 9, 49, 50, 51, 52, 53, 54, 55, 56, 57, 58, 59, 60, 61, 62, 63, 64, 65, 66, 67, 68, 69, 70, 71, 78, 79, 80, 81, 82, 83, 84, 85, 86, 87, 88] (by decide +kernel) (by decide +kernel)
set_option maxRecDepth 20000 in
theorem gX6_worst_X3_greatestOf : GoodIn wsX6_worst (wsV RX6 134 RX3 yX3_greatestOf wsX3_greatestOf) := goodIn_app (goodIn_of _ (by decide +kernel)) ggX6_worst_X3_greatestOf
theorem dX6_worst_0 : decode cX6_worst 0 = .ok (.aload_n 0, 1) := by decide +kernel
theorem dX6_worst_1 : decode cX6_worst 1 = .ok (.getfield 27, 3) := by decide +kernel
theorem dX6_worst_4 : decode cX6_worst 4 = .ok (.iload_n 1, 1) := by decide +kernel
theorem dX6_worst_5 : decode cX6_worst 5 = .ok (.iload_n 2, 1) := by decide +kernel
theorem dX6_worst_6 : decode cX6_worst 6 = .ok (.iload_n 3, 1) := by decide +kernel
theorem dX6_worst_7 : decode cX6_worst 7 = .ok (.invokevirtual 124, 3) := by decide +kernel
theorem dX6_worst_10 : decode cX6_worst 10 = .ok (.ifCond .eq 16, 3) := by decide +kernel
theorem dX6_worst_13 : decode cX6_worst 13 = .ok (.aload_n 0, 1) := by decide +kernel
theorem dX6_worst_14 : decode cX6_worst 14 = .ok (.getfield 27, 3) := by decide +kernel
theorem dX6_worst_17 : decode cX6_worst 17 = .ok (.iload_n 1, 1) := by decide +kernel
theorem dX6_worst_18 : decode cX6_worst 18 = .ok (.iload_n 2, 1) := by decide +kernel
theorem dX6_worst_19 : decode cX6_worst 19 = .ok (.iload_n 3, 1) := by decide +kernel
theorem dX6_worst_20 : decode cX6_worst 20 = .ok (.invokevirtual 134, 3) := by decide +kernel
theorem dX6_worst_23 : decode cX6_worst 23 = .ok (.goto 4, 3) := by decide +kernel
theorem dX6_worst_26 : decode cX6_worst 26 = .ok (.iconst (-1), 1) := by decide +kernel
theorem dX6_worst_27 : decode cX6_worst 27 = .ok (.ireturn, 1) := by decide +kernel
set_option maxRecDepth 20000 in
theorem ggX6_capped_X3_hasState : GoodIn wsX6_capped wsX3_hasState := goodIn_r _ [7, 8, 9, 10, 11, 12, 13, 6, 14, 15, 62, 63, 64, 65, 66, 67, 68, 69, 70] (by decide +kernel) (by decide +kernel)
set_option maxRecDepth 20000 in
theorem gX6_capped_X3_hasState : GoodIn wsX6_capped (wsV RX6 124 RX3 yX3_hasState wsX3_hasState) := goodIn_app (goodIn_of _ (by decide +kernel)) ggX6_capped_X3_hasState
set_option maxRecDepth 20000 in
theorem ggX6_capped_X6_within : GoodIn wsX6_capped wsX6_within := goodIn_r _ [10] (by decide +kernel) (by decide +kernel)
set_option maxRecDepth 20000 in
theorem gX6_capped_X6_within : GoodIn wsX6_capped (va_wsS RX6 38 yX6_within wsX6_within) := goodIn_app (goodIn_of _ (by decide +kernel)) ggX6_capped_X6_within
set_option maxRecDepth 20000 in
theorem ggX6_capped_X3_meanCapped : GoodIn wsX6_capped wsX3_meanCapped := goodIn_r _ [20, 21, 22, 23, 24, 15, 25, 26, 27, 28, 6, 29, 30, 31, 32, 33, 34, 35, 36, 37, 38, 39, 8, 9, 10, 40, 41, 42, 43, 44, 45, 46, 47, 48, 49, 50, 51, 52, 53, 54, 55, 62, 63, 64, 65, 66, 67, 68, 69, 70, 71, 72] (by decide +kernel) (by decide +kernel)
set_option maxRecDepth 20000 in
theorem gX6_capped_X3_meanCapped : GoodIn wsX6_capped (wsV RX6 137 RX3 yX3_meanCapped wsX3_meanCapped) := goodIn_app (goodIn_of _ (by decide +kernel)) ggX6_capped_X3_meanCapped
theorem dX6_capped_0 : decode cX6_capped 0 = .ok (.aload_n 0, 1) := by decide +kernel
theorem dX6_capped_1 : decode cX6_capped 1 = .ok (.getfield 27, 3) := by decide +kernel
theorem dX6_capped_4 : decode cX6_capped 4 = .ok (.iload_n 1, 1) := by decide +kernel
theorem dX6_capped_5 : decode cX6_capped 5 = .ok (.iload_n 2, 1) := by decide +kernel
theorem dX6_capped_6 : decode cX6_capped 6 = .ok (.iload_n 3, 1) := by decide +kernel
theorem dX6_capped_7 : decode cX6_capped 7 = .ok (.invokevirtual 124, 3) := by decide +kernel
theorem dX6_capped_10 : decode cX6_capped 10 = .ok (.ifCond .eq 15, 3) := by decide +kernel
theorem dX6_capped_13 : decode cX6_capped 13 = .ok (.iload 4, 2) := by decide +kernel
theorem dX6_capped_15 : decode cX6_capped 15 = .ok (.iconst 0, 1) := by decide +kernel
theorem dX6_capped_16 : decode cX6_capped 16 = .ok (.sipush 999, 3) := by decide +kernel
theorem dX6_capped_19 : decode cX6_capped 19 = .ok (.invokestatic 38, 3) := by decide +kernel
theorem dX6_capped_22 : decode cX6_capped 22 = .ok (.ifCond .ne 7, 3) := by decide +kernel
theorem dX6_capped_25 : decode cX6_capped 25 = .ok (.ldc2_w 96, 3) := by decide +kernel
theorem dX6_capped_28 : decode cX6_capped 28 = .ok (.lreturn, 1) := by decide +kernel
theorem dX6_capped_29 : decode cX6_capped 29 = .ok (.aload_n 0, 1) := by decide +kernel
theorem dX6_capped_30 : decode cX6_capped 30 = .ok (.getfield 27, 3) := by decide +kernel
theorem dX6_capped_33 : decode cX6_capped 33 = .ok (.iload_n 1, 1) := by decide +kernel
theorem dX6_capped_34 : decode cX6_capped 34 = .ok (.iload_n 2, 1) := by decide +kernel
theorem dX6_capped_35 : decode cX6_capped 35 = .ok (.iload_n 3, 1) := by decide +kernel
theorem dX6_capped_36 : decode cX6_capped 36 = .ok (.iload 4, 2) := by decide +kernel
theorem dX6_capped_38 : decode cX6_capped 38 = .ok (.invokevirtual 137, 3) := by decide +kernel
theorem dX6_capped_41 : decode cX6_capped 41 = .ok (.lreturn, 1) := by decide +kernel
set_option maxRecDepth 20000 in
theorem ggX6_oracle_X6_jobOf : GoodIn wsX6_oracle wsX6_jobOf := goodIn_r _ [7, 8, 9, 10, 6, 11, 73, 74, 75, 76, 77, 78] (by decide +kernel) (by decide +kernel)
set_option maxRecDepth 20000 in
theorem gX6_oracle_X6_jobOf : GoodIn wsX6_oracle (wsV RX6 80 RX6 yX6_jobOf wsX6_jobOf) := goodIn_app (goodIn_of _ (by decide +kernel)) ggX6_oracle_X6_jobOf
set_option maxRecDepth 20000 in
theorem ggX6_oracle_X0_leastSum : GoodIn wsX6_oracle wsX0_leastSum := goodIn_r _ [16, 17, 18, 19, 20, 21, 15, 22, 23, 24, 25, 26, 27, 28, 29, 30, 31, 32, 33, 34, 35, 36, 37, 38, 39, 40, 41, 42, 43, 44, 45, 46, 47, 48, 10, 6, 11, 49, 50, 51, 52, 53, 54, 55, 56, 57, 58, 59, 60, 61, 62, 63, 64, 65, 66, 67, 68, 69, 70, 71, 72, 95, 96, 97, 98, 99, 100, 101, 102, 103, 104, 105, 106] (by decide +kernel) (by decide +kernel)
set_option maxRecDepth 20000 in
theorem gX6_oracle_X0_leastSum : GoodIn wsX6_oracle (wsV RX6 145 RX0 yX0_leastSum wsX0_leastSum) := goodIn_app (goodIn_of _ (by decide +kernel)) ggX6_oracle_X0_leastSum
theorem dX6_oracle_0 : decode cX6_oracle 0 = .ok (.aload_n 0, 1) := by decide +kernel
theorem dX6_oracle_1 : decode cX6_oracle 1 = .ok (.iload_n 1, 1) := by decide +kernel
theorem dX6_oracle_2 : decode cX6_oracle 2 = .ok (.invokevirtual 80, 3) := by decide +kernel
theorem dX6_oracle_5 : decode cX6_oracle 5 = .ok (.astore_n 2, 1) := by decide +kernel
theorem dX6_oracle_6 : decode cX6_oracle 6 = .ok (.aload_n 2, 1) := by decide +kernel
theorem dX6_oracle_7 : decode cX6_oracle 7 = .ok (.ifnonnull 7, 3) := by decide +kernel
theorem dX6_oracle_10 : decode cX6_oracle 10 = .ok (.iconst (-1), 1) := by decide +kernel
theorem dX6_oracle_11 : decode cX6_oracle 11 = .ok (.goto 14, 3) := by decide +kernel
theorem dX6_oracle_14 : decode cX6_oracle 14 = .ok (.aload_n 0, 1) := by decide +kernel
theorem dX6_oracle_15 : decode cX6_oracle 15 = .ok (.getfield 34, 3) := by decide +kernel
theorem dX6_oracle_18 : decode cX6_oracle 18 = .ok (.aload_n 2, 1) := by decide +kernel
theorem dX6_oracle_19 : decode cX6_oracle 19 = .ok (.getfield 141, 3) := by decide +kernel
theorem dX6_oracle_22 : decode cX6_oracle 22 = .ok (.invokevirtual 145, 3) := by decide +kernel
theorem dX6_oracle_25 : decode cX6_oracle 25 = .ok (.ireturn, 1) := by decide +kernel
set_option maxRecDepth 20000 in
theorem ggX6_count_X6_readyJobs : GoodIn wsX6_count wsX6_readyJobs := goodIn_r _ [11, 2, 12, 13, 14, 10, 15, 16, 17, 18, 19, 20, 21, 22, 23, 24, 25, 31, 32, 33, 34, 35, 36, 48, 49, 50, 51, 52, 53, 54, 55, 56, 57, 58, 59, 60, 61, 62, 63] (by decide +kernel) (by decide +kernel)
set_option maxRecDepth 20000 in
theorem gX6_count_X6_readyJobs : GoodIn wsX6_count (wsV RX6 149 RX6 yX6_readyJobs wsX6_readyJobs) := goodIn_app (goodIn_of _ (by decide +kernel)) ggX6_count_X6_readyJobs
set_option maxRecDepth 20000 in
theorem ggX6_count_X6_allPaid : GoodIn wsX6_count wsX6_allPaid := goodIn_r _ [29, 2, 30, 12, 13, 14, 10, 15, 16, 17, 18, 19, 31, 32, 33, 34, 35, 36, 48, 49, 50, 51, 52, 53, 54, 55, 56, 57, 58, 59, 60, 61, 62, 63] (by decide +kernel) (by decide +kernel)
set_option maxRecDepth 20000 in
theorem gX6_count_X6_allPaid : GoodIn wsX6_count (wsV RX6 153 RX6 yX6_allPaid wsX6_allPaid) := goodIn_app (goodIn_of _ (by decide +kernel)) ggX6_count_X6_allPaid
theorem dX6_count_0 : decode cX6_count 0 = .ok (.iload_n 1, 1) := by decide +kernel
theorem dX6_count_1 : decode cX6_count 1 = .ok (.tableswitch 75 0 5 #[39, 44, 49, 54, 59, 67], 39) := by decide +kernel
theorem dX6_count_40 : decode cX6_count 40 = .ok (.aload_n 0, 1) := by decide +kernel
theorem dX6_count_41 : decode cX6_count 41 = .ok (.getfield 42, 3) := by decide +kernel
theorem dX6_count_44 : decode cX6_count 44 = .ok (.ireturn, 1) := by decide +kernel
theorem dX6_count_45 : decode cX6_count 45 = .ok (.aload_n 0, 1) := by decide +kernel
theorem dX6_count_46 : decode cX6_count 46 = .ok (.getfield 50, 3) := by decide +kernel
theorem dX6_count_49 : decode cX6_count 49 = .ok (.ireturn, 1) := by decide +kernel
theorem dX6_count_50 : decode cX6_count 50 = .ok (.aload_n 0, 1) := by decide +kernel
theorem dX6_count_51 : decode cX6_count 51 = .ok (.invokevirtual 149, 3) := by decide +kernel
theorem dX6_count_54 : decode cX6_count 54 = .ok (.ireturn, 1) := by decide +kernel
theorem dX6_count_55 : decode cX6_count 55 = .ok (.aload_n 0, 1) := by decide +kernel
theorem dX6_count_56 : decode cX6_count 56 = .ok (.invokevirtual 153, 3) := by decide +kernel
theorem dX6_count_59 : decode cX6_count 59 = .ok (.ireturn, 1) := by decide +kernel
theorem dX6_count_60 : decode cX6_count 60 = .ok (.aload_n 0, 1) := by decide +kernel
theorem dX6_count_61 : decode cX6_count 61 = .ok (.getfield 27, 3) := by decide +kernel
theorem dX6_count_64 : decode cX6_count 64 = .ok (.getfield 156, 3) := by decide +kernel
theorem dX6_count_67 : decode cX6_count 67 = .ok (.ireturn, 1) := by decide +kernel
theorem dX6_count_68 : decode cX6_count 68 = .ok (.aload_n 0, 1) := by decide +kernel
theorem dX6_count_69 : decode cX6_count 69 = .ok (.getfield 10, 3) := by decide +kernel
theorem dX6_count_72 : decode cX6_count 72 = .ok (.getfield 53, 3) := by decide +kernel
theorem dX6_count_75 : decode cX6_count 75 = .ok (.ireturn, 1) := by decide +kernel
theorem dX6_count_76 : decode cX6_count 76 = .ok (.iconst (-1), 1) := by decide +kernel
theorem dX6_count_77 : decode cX6_count 77 = .ok (.ireturn, 1) := by decide +kernel
set_option maxRecDepth 20000 in
theorem ggX6_passHour_X6_jobOf : GoodIn wsX6_passHour wsX6_jobOf := goodIn_r _ [7, 8, 9, 10, 6, 11, 95, 96, 97, 98, 99, 100] (by decide +kernel) (by decide +kernel)
set_option maxRecDepth 20000 in
theorem gX6_passHour_X6_jobOf : GoodIn wsX6_passHour (wsV RX6 80 RX6 yX6_jobOf wsX6_jobOf) := goodIn_app (goodIn_of _ (by decide +kernel)) ggX6_passHour_X6_jobOf
set_option maxRecDepth 20000 in
theorem ggX6_passHour_X1_passHour : GoodIn wsX6_passHour wsX1_passHour := goodIn_r _ [16, 17, 18, 19, 20, 21, 22, 23, 24, 25, 26, 27, 28, 29, 15, 30, 31, 32, 33, 34, 35, 36, 37, 38, 39, 40, 41, 42, 43, 44, 45, 10, 6, 11, 46, 47, 48, 49, 50, 51, 52, 53, 54, 55, 56, 57, 58, 59, 60, 61, 62, 63, 64, 65, 66, 67, 68, 69, 70, 71, 72, 73, 74, 75, 76, 77, 78, 79, 80, 81, 82, 83, 84, 85, 86, 87, 88, 89, 90, 91, 92, 93, 94, 101, 102, 103, 104, 105, 106, 107, 108, 109, 110, 111, 112, 113, 114, 115, 116, 117, 118, 119, 120, 121, 122, 123, 124, 125, 126] (by decide +kernel) (by decide +kernel)
set_option maxRecDepth 20000 in
theorem gX6_passHour_X1_passHour : GoodIn wsX6_passHour (wsV RX6 159 RX1 yX1_passHour wsX1_passHour) := goodIn_app (goodIn_of _ (by decide +kernel)) ggX6_passHour_X1_passHour
theorem dX6_passHour_0 : decode cX6_passHour 0 = .ok (.iconst 0, 1) := by decide +kernel
theorem dX6_passHour_1 : decode cX6_passHour 1 = .ok (.istore_n 2, 1) := by decide +kernel
theorem dX6_passHour_2 : decode cX6_passHour 2 = .ok (.iload_n 2, 1) := by decide +kernel
theorem dX6_passHour_3 : decode cX6_passHour 3 = .ok (.aload_n 0, 1) := by decide +kernel
theorem dX6_passHour_4 : decode cX6_passHour 4 = .ok (.getfield 50, 3) := by decide +kernel
theorem dX6_passHour_7 : decode cX6_passHour 7 = .ok (.if_icmp .ge 28, 3) := by decide +kernel
theorem dX6_passHour_10 : decode cX6_passHour 10 = .ok (.aload_n 0, 1) := by decide +kernel
theorem dX6_passHour_11 : decode cX6_passHour 11 = .ok (.iload_n 2, 1) := by decide +kernel
theorem dX6_passHour_12 : decode cX6_passHour 12 = .ok (.invokevirtual 80, 3) := by decide +kernel
theorem dX6_passHour_15 : decode cX6_passHour 15 = .ok (.astore_n 3, 1) := by decide +kernel
theorem dX6_passHour_16 : decode cX6_passHour 16 = .ok (.aload_n 3, 1) := by decide +kernel
theorem dX6_passHour_17 : decode cX6_passHour 17 = .ok (.ifnull 12, 3) := by decide +kernel
theorem dX6_passHour_20 : decode cX6_passHour 20 = .ok (.aload_n 3, 1) := by decide +kernel
theorem dX6_passHour_21 : decode cX6_passHour 21 = .ok (.iload_n 1, 1) := by decide +kernel
theorem dX6_passHour_22 : decode cX6_passHour 22 = .ok (.aload_n 0, 1) := by decide +kernel
theorem dX6_passHour_23 : decode cX6_passHour 23 = .ok (.getfield 10, 3) := by decide +kernel
theorem dX6_passHour_26 : decode cX6_passHour 26 = .ok (.invokevirtual 159, 3) := by decide +kernel
theorem dX6_passHour_29 : decode cX6_passHour 29 = .ok (.iinc 2 1, 3) := by decide +kernel
theorem dX6_passHour_32 : decode cX6_passHour 32 = .ok (.goto (-30), 3) := by decide +kernel
theorem dX6_passHour_35 : decode cX6_passHour 35 = .ok (.return_, 1) := by decide +kernel
set_option maxRecDepth 20000 in
theorem ggX6_readyJobs_X6_jobOf : GoodIn wsX6_readyJobs wsX6_jobOf := goodIn_r _ [6, 7, 8, 9, 5, 10, 17, 18, 19, 20, 21, 22] (by decide +kernel) (by decide +kernel)
set_option maxRecDepth 20000 in
theorem gX6_readyJobs_X6_jobOf : GoodIn wsX6_readyJobs (wsV RX6 80 RX6 yX6_jobOf wsX6_jobOf) := goodIn_app (goodIn_of _ (by decide +kernel)) ggX6_readyJobs_X6_jobOf
set_option maxRecDepth 20000 in
theorem ggX6_readyJobs_X1_isReady : GoodIn wsX6_readyJobs wsX1_isReady := goodIn_r _ [15, 16, 23, 24, 25, 26, 27, 28, 29, 30, 31, 32, 33, 34, 35, 36, 37, 38] (by decide +kernel) (by decide +kernel)
set_option maxRecDepth 20000 in
theorem gX6_readyJobs_X1_isReady : GoodIn wsX6_readyJobs (wsV RX6 162 RX1 yX1_isReady wsX1_isReady) := goodIn_app (goodIn_of _ (by decide +kernel)) ggX6_readyJobs_X1_isReady
theorem dX6_readyJobs_0 : decode cX6_readyJobs 0 = .ok (.iconst 0, 1) := by decide +kernel
theorem dX6_readyJobs_1 : decode cX6_readyJobs 1 = .ok (.istore_n 1, 1) := by decide +kernel
theorem dX6_readyJobs_2 : decode cX6_readyJobs 2 = .ok (.iconst 0, 1) := by decide +kernel
theorem dX6_readyJobs_3 : decode cX6_readyJobs 3 = .ok (.istore_n 2, 1) := by decide +kernel
theorem dX6_readyJobs_4 : decode cX6_readyJobs 4 = .ok (.iload_n 2, 1) := by decide +kernel
theorem dX6_readyJobs_5 : decode cX6_readyJobs 5 = .ok (.aload_n 0, 1) := by decide +kernel
theorem dX6_readyJobs_6 : decode cX6_readyJobs 6 = .ok (.getfield 50, 3) := by decide +kernel
theorem dX6_readyJobs_9 : decode cX6_readyJobs 9 = .ok (.if_icmp .ge 29, 3) := by decide +kernel
theorem dX6_readyJobs_12 : decode cX6_readyJobs 12 = .ok (.aload_n 0, 1) := by decide +kernel
theorem dX6_readyJobs_13 : decode cX6_readyJobs 13 = .ok (.iload_n 2, 1) := by decide +kernel
theorem dX6_readyJobs_14 : decode cX6_readyJobs 14 = .ok (.invokevirtual 80, 3) := by decide +kernel
theorem dX6_readyJobs_17 : decode cX6_readyJobs 17 = .ok (.astore_n 3, 1) := by decide +kernel
theorem dX6_readyJobs_18 : decode cX6_readyJobs 18 = .ok (.aload_n 3, 1) := by decide +kernel
theorem dX6_readyJobs_19 : decode cX6_readyJobs 19 = .ok (.ifnull 13, 3) := by decide +kernel
theorem dX6_readyJobs_22 : decode cX6_readyJobs 22 = .ok (.aload_n 3, 1) := by decide +kernel
theorem dX6_readyJobs_23 : decode cX6_readyJobs 23 = .ok (.invokevirtual 162, 3) := by decide +kernel
theorem dX6_readyJobs_26 : decode cX6_readyJobs 26 = .ok (.ifCond .eq 6, 3) := by decide +kernel
theorem dX6_readyJobs_29 : decode cX6_readyJobs 29 = .ok (.iinc 1 1, 3) := by decide +kernel
theorem dX6_readyJobs_32 : decode cX6_readyJobs 32 = .ok (.iinc 2 1, 3) := by decide +kernel
theorem dX6_readyJobs_35 : decode cX6_readyJobs 35 = .ok (.goto (-31), 3) := by decide +kernel
theorem dX6_readyJobs_38 : decode cX6_readyJobs 38 = .ok (.iload_n 1, 1) := by decide +kernel
theorem dX6_readyJobs_39 : decode cX6_readyJobs 39 = .ok (.ireturn, 1) := by decide +kernel
set_option maxRecDepth 20000 in
theorem ggX6_allPaid_X6_jobOf : GoodIn wsX6_allPaid wsX6_jobOf := goodIn_r _ [7, 8, 9, 10, 6, 11, 12, 13, 14, 15, 16, 17] (by decide +kernel) (by decide +kernel)
set_option maxRecDepth 20000 in
theorem gX6_allPaid_X6_jobOf : GoodIn wsX6_allPaid (wsV RX6 80 RX6 yX6_jobOf wsX6_jobOf) := goodIn_app (goodIn_of _ (by decide +kernel)) ggX6_allPaid_X6_jobOf
theorem dX6_allPaid_0 : decode cX6_allPaid 0 = .ok (.iconst 0, 1) := by decide +kernel
theorem dX6_allPaid_1 : decode cX6_allPaid 1 = .ok (.istore_n 1, 1) := by decide +kernel
theorem dX6_allPaid_2 : decode cX6_allPaid 2 = .ok (.iconst 0, 1) := by decide +kernel
theorem dX6_allPaid_3 : decode cX6_allPaid 3 = .ok (.istore_n 2, 1) := by decide +kernel
theorem dX6_allPaid_4 : decode cX6_allPaid 4 = .ok (.iload_n 2, 1) := by decide +kernel
theorem dX6_allPaid_5 : decode cX6_allPaid 5 = .ok (.aload_n 0, 1) := by decide +kernel
theorem dX6_allPaid_6 : decode cX6_allPaid 6 = .ok (.getfield 50, 3) := by decide +kernel
theorem dX6_allPaid_9 : decode cX6_allPaid 9 = .ok (.if_icmp .ge 26, 3) := by decide +kernel
theorem dX6_allPaid_12 : decode cX6_allPaid 12 = .ok (.aload_n 0, 1) := by decide +kernel
theorem dX6_allPaid_13 : decode cX6_allPaid 13 = .ok (.iload_n 2, 1) := by decide +kernel
theorem dX6_allPaid_14 : decode cX6_allPaid 14 = .ok (.invokevirtual 80, 3) := by decide +kernel
theorem dX6_allPaid_17 : decode cX6_allPaid 17 = .ok (.astore_n 3, 1) := by decide +kernel
theorem dX6_allPaid_18 : decode cX6_allPaid 18 = .ok (.aload_n 3, 1) := by decide +kernel
theorem dX6_allPaid_19 : decode cX6_allPaid 19 = .ok (.ifnull 10, 3) := by decide +kernel
theorem dX6_allPaid_22 : decode cX6_allPaid 22 = .ok (.iload_n 1, 1) := by decide +kernel
theorem dX6_allPaid_23 : decode cX6_allPaid 23 = .ok (.aload_n 3, 1) := by decide +kernel
theorem dX6_allPaid_24 : decode cX6_allPaid 24 = .ok (.getfield 165, 3) := by decide +kernel
theorem dX6_allPaid_27 : decode cX6_allPaid 27 = .ok (.iadd, 1) := by decide +kernel
theorem dX6_allPaid_28 : decode cX6_allPaid 28 = .ok (.istore_n 1, 1) := by decide +kernel
theorem dX6_allPaid_29 : decode cX6_allPaid 29 = .ok (.iinc 2 1, 3) := by decide +kernel
theorem dX6_allPaid_32 : decode cX6_allPaid 32 = .ok (.goto (-28), 3) := by decide +kernel
theorem dX6_allPaid_35 : decode cX6_allPaid 35 = .ok (.iload_n 1, 1) := by decide +kernel
theorem dX6_allPaid_36 : decode cX6_allPaid 36 = .ok (.ireturn, 1) := by decide +kernel
set_option maxRecDepth 20000 in
theorem ggX6_jobOf_X6_within : GoodIn wsX6_jobOf wsX6_within := goodIn_r _ [5] (by decide +kernel) (by decide +kernel)
set_option maxRecDepth 20000 in
theorem gX6_jobOf_X6_within : GoodIn wsX6_jobOf (va_wsS RX6 38 yX6_within wsX6_within) := goodIn_app (goodIn_of _ (by decide +kernel)) ggX6_jobOf_X6_within
theorem dX6_jobOf_0 : decode cX6_jobOf 0 = .ok (.iload_n 1, 1) := by decide +kernel
theorem dX6_jobOf_1 : decode cX6_jobOf 1 = .ok (.iconst 0, 1) := by decide +kernel
theorem dX6_jobOf_2 : decode cX6_jobOf 2 = .ok (.aload_n 0, 1) := by decide +kernel
theorem dX6_jobOf_3 : decode cX6_jobOf 3 = .ok (.getfield 18, 3) := by decide +kernel
theorem dX6_jobOf_6 : decode cX6_jobOf 6 = .ok (.arraylength, 1) := by decide +kernel
theorem dX6_jobOf_7 : decode cX6_jobOf 7 = .ok (.iconst 1, 1) := by decide +kernel
theorem dX6_jobOf_8 : decode cX6_jobOf 8 = .ok (.isub, 1) := by decide +kernel
theorem dX6_jobOf_9 : decode cX6_jobOf 9 = .ok (.invokestatic 38, 3) := by decide +kernel
theorem dX6_jobOf_12 : decode cX6_jobOf 12 = .ok (.ifCond .eq 12, 3) := by decide +kernel
theorem dX6_jobOf_15 : decode cX6_jobOf 15 = .ok (.aload_n 0, 1) := by decide +kernel
theorem dX6_jobOf_16 : decode cX6_jobOf 16 = .ok (.getfield 18, 3) := by decide +kernel
theorem dX6_jobOf_19 : decode cX6_jobOf 19 = .ok (.iload_n 1, 1) := by decide +kernel
theorem dX6_jobOf_20 : decode cX6_jobOf 20 = .ok (.aaload, 1) := by decide +kernel
theorem dX6_jobOf_21 : decode cX6_jobOf 21 = .ok (.goto 4, 3) := by decide +kernel
theorem dX6_jobOf_24 : decode cX6_jobOf 24 = .ok (.aconst_null, 1) := by decide +kernel
theorem dX6_jobOf_25 : decode cX6_jobOf 25 = .ok (.areturn, 1) := by decide +kernel
theorem dX6_within_0 : decode cX6_within 0 = .ok (.iload_n 0, 1) := by decide +kernel
theorem dX6_within_1 : decode cX6_within 1 = .ok (.iload_n 1, 1) := by decide +kernel
theorem dX6_within_2 : decode cX6_within 2 = .ok (.if_icmp .lt 12, 3) := by decide +kernel
theorem dX6_within_5 : decode cX6_within 5 = .ok (.iload_n 0, 1) := by decide +kernel
theorem dX6_within_6 : decode cX6_within 6 = .ok (.iload_n 2, 1) := by decide +kernel
theorem dX6_within_7 : decode cX6_within 7 = .ok (.if_icmp .gt 7, 3) := by decide +kernel
theorem dX6_within_10 : decode cX6_within 10 = .ok (.iconst 1, 1) := by decide +kernel
theorem dX6_within_11 : decode cX6_within 11 = .ok (.goto 4, 3) := by decide +kernel
theorem dX6_within_14 : decode cX6_within 14 = .ok (.iconst 0, 1) := by decide +kernel
theorem dX6_within_15 : decode cX6_within 15 = .ok (.ireturn, 1) := by decide +kernel
theorem dX7_init_0 : decode cX7_init 0 = .ok (.aload_n 0, 1) := by decide +kernel
theorem dX7_init_1 : decode cX7_init 1 = .ok (.invokespecial 1, 3) := by decide +kernel
theorem dX7_init_4 : decode cX7_init 4 = .ok (.aload_n 0, 1) := by decide +kernel
theorem dX7_init_5 : decode cX7_init 5 = .ok (.bipush 100, 2) := by decide +kernel
theorem dX7_init_7 : decode cX7_init 7 = .ok (.putfield 7, 3) := by decide +kernel
theorem dX7_init_10 : decode cX7_init 10 = .ok (.aload_n 0, 1) := by decide +kernel
theorem dX7_init_11 : decode cX7_init 11 = .ok (.sipush 600, 3) := by decide +kernel
theorem dX7_init_14 : decode cX7_init 14 = .ok (.newarray .int, 2) := by decide +kernel
theorem dX7_init_16 : decode cX7_init 16 = .ok (.putfield 13, 3) := by decide +kernel
theorem dX7_init_19 : decode cX7_init 19 = .ok (.aload_n 0, 1) := by decide +kernel
theorem dX7_init_20 : decode cX7_init 20 = .ok (.bipush 12, 2) := by decide +kernel
theorem dX7_init_22 : decode cX7_init 22 = .ok (.newarray .int, 2) := by decide +kernel
theorem dX7_init_24 : decode cX7_init 24 = .ok (.putfield 17, 3) := by decide +kernel
theorem dX7_init_27 : decode cX7_init 27 = .ok (.aload_n 0, 1) := by decide +kernel
theorem dX7_init_28 : decode cX7_init 28 = .ok (.bipush 12, 2) := by decide +kernel
theorem dX7_init_30 : decode cX7_init 30 = .ok (.newarray .int, 2) := by decide +kernel
theorem dX7_init_32 : decode cX7_init 32 = .ok (.putfield 20, 3) := by decide +kernel
theorem dX7_init_35 : decode cX7_init 35 = .ok (.aload_n 0, 1) := by decide +kernel
theorem dX7_init_36 : decode cX7_init 36 = .ok (.bipush 12, 2) := by decide +kernel
theorem dX7_init_38 : decode cX7_init 38 = .ok (.newarray .int, 2) := by decide +kernel
theorem dX7_init_40 : decode cX7_init 40 = .ok (.putfield 23, 3) := by decide +kernel
theorem dX7_init_43 : decode cX7_init 43 = .ok (.aload_n 0, 1) := by decide +kernel
theorem dX7_init_44 : decode cX7_init 44 = .ok (.bipush 12, 2) := by decide +kernel
theorem dX7_init_46 : decode cX7_init 46 = .ok (.newarray .int, 2) := by decide +kernel
theorem dX7_init_48 : decode cX7_init 48 = .ok (.putfield 26, 3) := by decide +kernel
theorem dX7_init_51 : decode cX7_init 51 = .ok (.aload_n 0, 1) := by decide +kernel
theorem dX7_init_52 : decode cX7_init 52 = .ok (.bipush 12, 2) := by decide +kernel
theorem dX7_init_54 : decode cX7_init 54 = .ok (.newarray .int, 2) := by decide +kernel
theorem dX7_init_56 : decode cX7_init 56 = .ok (.putfield 29, 3) := by decide +kernel
theorem dX7_init_59 : decode cX7_init 59 = .ok (.aload_n 0, 1) := by decide +kernel
theorem dX7_init_60 : decode cX7_init 60 = .ok (.bipush 12, 2) := by decide +kernel
theorem dX7_init_62 : decode cX7_init 62 = .ok (.newarray .int, 2) := by decide +kernel
theorem dX7_init_64 : decode cX7_init 64 = .ok (.putfield 32, 3) := by decide +kernel
theorem dX7_init_67 : decode cX7_init 67 = .ok (.aload_n 0, 1) := by decide +kernel
theorem dX7_init_68 : decode cX7_init 68 = .ok (.bipush 12, 2) := by decide +kernel
theorem dX7_init_70 : decode cX7_init 70 = .ok (.newarray .int, 2) := by decide +kernel
theorem dX7_init_72 : decode cX7_init 72 = .ok (.putfield 35, 3) := by decide +kernel
theorem dX7_init_75 : decode cX7_init 75 = .ok (.aload_n 0, 1) := by decide +kernel
theorem dX7_init_76 : decode cX7_init 76 = .ok (.bipush 12, 2) := by decide +kernel
theorem dX7_init_78 : decode cX7_init 78 = .ok (.newarray .int, 2) := by decide +kernel
theorem dX7_init_80 : decode cX7_init 80 = .ok (.putfield 38, 3) := by decide +kernel
theorem dX7_init_83 : decode cX7_init 83 = .ok (.aload_n 0, 1) := by decide +kernel
theorem dX7_init_84 : decode cX7_init 84 = .ok (.bipush 12, 2) := by decide +kernel
theorem dX7_init_86 : decode cX7_init 86 = .ok (.newarray .int, 2) := by decide +kernel
theorem dX7_init_88 : decode cX7_init 88 = .ok (.putfield 41, 3) := by decide +kernel
theorem dX7_init_91 : decode cX7_init 91 = .ok (.aload_n 0, 1) := by decide +kernel
theorem dX7_init_92 : decode cX7_init 92 = .ok (.bipush 12, 2) := by decide +kernel
theorem dX7_init_94 : decode cX7_init 94 = .ok (.newarray .int, 2) := by decide +kernel
theorem dX7_init_96 : decode cX7_init 96 = .ok (.putfield 44, 3) := by decide +kernel
theorem dX7_init_99 : decode cX7_init 99 = .ok (.aload_n 0, 1) := by decide +kernel
theorem dX7_init_100 : decode cX7_init 100 = .ok (.bipush 12, 2) := by decide +kernel
theorem dX7_init_102 : decode cX7_init 102 = .ok (.newarray .int, 2) := by decide +kernel
theorem dX7_init_104 : decode cX7_init 104 = .ok (.putfield 47, 3) := by decide +kernel
theorem dX7_init_107 : decode cX7_init 107 = .ok (.aload_n 0, 1) := by decide +kernel
theorem dX7_init_108 : decode cX7_init 108 = .ok (.bipush 12, 2) := by decide +kernel
theorem dX7_init_110 : decode cX7_init 110 = .ok (.newarray .int, 2) := by decide +kernel
theorem dX7_init_112 : decode cX7_init 112 = .ok (.putfield 50, 3) := by decide +kernel
theorem dX7_init_115 : decode cX7_init 115 = .ok (.aload_n 0, 1) := by decide +kernel
theorem dX7_init_116 : decode cX7_init 116 = .ok (.bipush 12, 2) := by decide +kernel
theorem dX7_init_118 : decode cX7_init 118 = .ok (.newarray .int, 2) := by decide +kernel
theorem dX7_init_120 : decode cX7_init 120 = .ok (.putfield 53, 3) := by decide +kernel
theorem dX7_init_123 : decode cX7_init 123 = .ok (.aload_n 0, 1) := by decide +kernel
theorem dX7_init_124 : decode cX7_init 124 = .ok (.bipush 12, 2) := by decide +kernel
theorem dX7_init_126 : decode cX7_init 126 = .ok (.newarray .int, 2) := by decide +kernel
theorem dX7_init_128 : decode cX7_init 128 = .ok (.putfield 56, 3) := by decide +kernel
theorem dX7_init_131 : decode cX7_init 131 = .ok (.aload_n 0, 1) := by decide +kernel
theorem dX7_init_132 : decode cX7_init 132 = .ok (.bipush 12, 2) := by decide +kernel
theorem dX7_init_134 : decode cX7_init 134 = .ok (.newarray .int, 2) := by decide +kernel
theorem dX7_init_136 : decode cX7_init 136 = .ok (.putfield 59, 3) := by decide +kernel
theorem dX7_init_139 : decode cX7_init 139 = .ok (.aload_n 0, 1) := by decide +kernel
theorem dX7_init_140 : decode cX7_init 140 = .ok (.bipush 12, 2) := by decide +kernel
theorem dX7_init_142 : decode cX7_init 142 = .ok (.newarray .int, 2) := by decide +kernel
theorem dX7_init_144 : decode cX7_init 144 = .ok (.putfield 62, 3) := by decide +kernel
theorem dX7_init_147 : decode cX7_init 147 = .ok (.aload_n 0, 1) := by decide +kernel
theorem dX7_init_148 : decode cX7_init 148 = .ok (.bipush 12, 2) := by decide +kernel
theorem dX7_init_150 : decode cX7_init 150 = .ok (.newarray .int, 2) := by decide +kernel
theorem dX7_init_152 : decode cX7_init 152 = .ok (.putfield 65, 3) := by decide +kernel
theorem dX7_init_155 : decode cX7_init 155 = .ok (.aload_n 0, 1) := by decide +kernel
theorem dX7_init_156 : decode cX7_init 156 = .ok (.bipush 12, 2) := by decide +kernel
theorem dX7_init_158 : decode cX7_init 158 = .ok (.newarray .int, 2) := by decide +kernel
theorem dX7_init_160 : decode cX7_init 160 = .ok (.putfield 68, 3) := by decide +kernel
theorem dX7_init_163 : decode cX7_init 163 = .ok (.aload_n 0, 1) := by decide +kernel
theorem dX7_init_164 : decode cX7_init 164 = .ok (.bipush 12, 2) := by decide +kernel
theorem dX7_init_166 : decode cX7_init 166 = .ok (.newarray .int, 2) := by decide +kernel
theorem dX7_init_168 : decode cX7_init 168 = .ok (.putfield 71, 3) := by decide +kernel
theorem dX7_init_171 : decode cX7_init 171 = .ok (.aload_n 0, 1) := by decide +kernel
theorem dX7_init_172 : decode cX7_init 172 = .ok (.bipush 12, 2) := by decide +kernel
theorem dX7_init_174 : decode cX7_init 174 = .ok (.newarray .int, 2) := by decide +kernel
theorem dX7_init_176 : decode cX7_init 176 = .ok (.putfield 74, 3) := by decide +kernel
theorem dX7_init_179 : decode cX7_init 179 = .ok (.aload_n 0, 1) := by decide +kernel
theorem dX7_init_180 : decode cX7_init 180 = .ok (.bipush 12, 2) := by decide +kernel
theorem dX7_init_182 : decode cX7_init 182 = .ok (.newarray .int, 2) := by decide +kernel
theorem dX7_init_184 : decode cX7_init 184 = .ok (.putfield 77, 3) := by decide +kernel
theorem dX7_init_187 : decode cX7_init 187 = .ok (.aload_n 0, 1) := by decide +kernel
theorem dX7_init_188 : decode cX7_init 188 = .ok (.bipush 12, 2) := by decide +kernel
theorem dX7_init_190 : decode cX7_init 190 = .ok (.newarray .int, 2) := by decide +kernel
theorem dX7_init_192 : decode cX7_init 192 = .ok (.putfield 80, 3) := by decide +kernel
theorem dX7_init_195 : decode cX7_init 195 = .ok (.aload_n 0, 1) := by decide +kernel
theorem dX7_init_196 : decode cX7_init 196 = .ok (.bipush 12, 2) := by decide +kernel
theorem dX7_init_198 : decode cX7_init 198 = .ok (.newarray .int, 2) := by decide +kernel
theorem dX7_init_200 : decode cX7_init 200 = .ok (.putfield 83, 3) := by decide +kernel
theorem dX7_init_203 : decode cX7_init 203 = .ok (.aload_n 0, 1) := by decide +kernel
theorem dX7_init_204 : decode cX7_init 204 = .ok (.bipush 12, 2) := by decide +kernel
theorem dX7_init_206 : decode cX7_init 206 = .ok (.newarray .boolean, 2) := by decide +kernel
theorem dX7_init_208 : decode cX7_init 208 = .ok (.putfield 86, 3) := by decide +kernel
theorem dX7_init_211 : decode cX7_init 211 = .ok (.aload_n 0, 1) := by decide +kernel
theorem dX7_init_212 : decode cX7_init 212 = .ok (.bipush 6, 2) := by decide +kernel
theorem dX7_init_214 : decode cX7_init 214 = .ok (.newarray .int, 2) := by decide +kernel
theorem dX7_init_216 : decode cX7_init 216 = .ok (.putfield 90, 3) := by decide +kernel
theorem dX7_init_219 : decode cX7_init 219 = .ok (.aload_n 0, 1) := by decide +kernel
theorem dX7_init_220 : decode cX7_init 220 = .ok (.bipush 36, 2) := by decide +kernel
theorem dX7_init_222 : decode cX7_init 222 = .ok (.newarray .int, 2) := by decide +kernel
theorem dX7_init_224 : decode cX7_init 224 = .ok (.putfield 93, 3) := by decide +kernel
theorem dX7_init_227 : decode cX7_init 227 = .ok (.aload_n 0, 1) := by decide +kernel
theorem dX7_init_228 : decode cX7_init 228 = .ok (.sipush 1014, 3) := by decide +kernel
theorem dX7_init_231 : decode cX7_init 231 = .ok (.newarray .long, 2) := by decide +kernel
theorem dX7_init_233 : decode cX7_init 233 = .ok (.putfield 96, 3) := by decide +kernel
theorem dX7_init_236 : decode cX7_init 236 = .ok (.aload_n 0, 1) := by decide +kernel
theorem dX7_init_237 : decode cX7_init 237 = .ok (.sipush 1014, 3) := by decide +kernel
theorem dX7_init_240 : decode cX7_init 240 = .ok (.newarray .int, 2) := by decide +kernel
theorem dX7_init_242 : decode cX7_init 242 = .ok (.putfield 100, 3) := by decide +kernel
theorem dX7_init_245 : decode cX7_init 245 = .ok (.aload_n 0, 1) := by decide +kernel
theorem dX7_init_246 : decode cX7_init 246 = .ok (.sipush 1014, 3) := by decide +kernel
theorem dX7_init_249 : decode cX7_init 249 = .ok (.newarray .int, 2) := by decide +kernel
theorem dX7_init_251 : decode cX7_init 251 = .ok (.putfield 103, 3) := by decide +kernel
theorem dX7_init_254 : decode cX7_init 254 = .ok (.aload_n 0, 1) := by decide +kernel
theorem dX7_init_255 : decode cX7_init 255 = .ok (.sipush 6231, 3) := by decide +kernel
theorem dX7_init_258 : decode cX7_init 258 = .ok (.newarray .int, 2) := by decide +kernel
theorem dX7_init_260 : decode cX7_init 260 = .ok (.putfield 106, 3) := by decide +kernel
theorem dX7_init_263 : decode cX7_init 263 = .ok (.iconst 0, 1) := by decide +kernel
theorem dX7_init_264 : decode cX7_init 264 = .ok (.istore_n 1, 1) := by decide +kernel
theorem dX7_init_265 : decode cX7_init 265 = .ok (.iload_n 1, 1) := by decide +kernel
theorem dX7_init_266 : decode cX7_init 266 = .ok (.sipush 600, 3) := by decide +kernel
theorem dX7_init_269 : decode cX7_init 269 = .ok (.if_icmp .ge 16, 3) := by decide +kernel
theorem dX7_init_272 : decode cX7_init 272 = .ok (.aload_n 0, 1) := by decide +kernel
theorem dX7_init_273 : decode cX7_init 273 = .ok (.getfield 13, 3) := by decide +kernel
theorem dX7_init_276 : decode cX7_init 276 = .ok (.iload_n 1, 1) := by decide +kernel
theorem dX7_init_277 : decode cX7_init 277 = .ok (.iconst (-1), 1) := by decide +kernel
theorem dX7_init_278 : decode cX7_init 278 = .ok (.iastore, 1) := by decide +kernel
theorem dX7_init_279 : decode cX7_init 279 = .ok (.iinc 1 1, 3) := by decide +kernel
theorem dX7_init_282 : decode cX7_init 282 = .ok (.goto (-17), 3) := by decide +kernel
theorem dX7_init_285 : decode cX7_init 285 = .ok (.return_, 1) := by decide +kernel
theorem dX7_in_0 : decode cX7_in 0 = .ok (.iload_n 0, 1) := by decide +kernel
theorem dX7_in_1 : decode cX7_in 1 = .ok (.iload_n 1, 1) := by decide +kernel
theorem dX7_in_2 : decode cX7_in 2 = .ok (.if_icmp .lt 12, 3) := by decide +kernel
theorem dX7_in_5 : decode cX7_in 5 = .ok (.iload_n 0, 1) := by decide +kernel
theorem dX7_in_6 : decode cX7_in 6 = .ok (.iload_n 2, 1) := by decide +kernel
theorem dX7_in_7 : decode cX7_in 7 = .ok (.if_icmp .gt 7, 3) := by decide +kernel
theorem dX7_in_10 : decode cX7_in 10 = .ok (.iconst 1, 1) := by decide +kernel
theorem dX7_in_11 : decode cX7_in 11 = .ok (.goto 4, 3) := by decide +kernel
theorem dX7_in_14 : decode cX7_in 14 = .ok (.iconst 0, 1) := by decide +kernel
theorem dX7_in_15 : decode cX7_in 15 = .ok (.ireturn, 1) := by decide +kernel
set_option maxRecDepth 20000 in
theorem ggX7_isJob_X7_in : GoodIn wsX7_isJob wsX7_in := goodIn_r _ [5] (by decide +kernel) (by decide +kernel)
set_option maxRecDepth 20000 in
theorem gX7_isJob_X7_in : GoodIn wsX7_isJob (va_wsS RX7 112 yX7_in wsX7_in) := goodIn_app (goodIn_of _ (by decide +kernel)) ggX7_isJob_X7_in
theorem dX7_isJob_0 : decode cX7_isJob 0 = .ok (.iload_n 1, 1) := by decide +kernel
theorem dX7_isJob_1 : decode cX7_isJob 1 = .ok (.iconst 0, 1) := by decide +kernel
theorem dX7_isJob_2 : decode cX7_isJob 2 = .ok (.aload_n 0, 1) := by decide +kernel
theorem dX7_isJob_3 : decode cX7_isJob 3 = .ok (.getfield 109, 3) := by decide +kernel
theorem dX7_isJob_6 : decode cX7_isJob 6 = .ok (.iconst 1, 1) := by decide +kernel
theorem dX7_isJob_7 : decode cX7_isJob 7 = .ok (.isub, 1) := by decide +kernel
theorem dX7_isJob_8 : decode cX7_isJob 8 = .ok (.invokestatic 112, 3) := by decide +kernel
theorem dX7_isJob_11 : decode cX7_isJob 11 = .ok (.ireturn, 1) := by decide +kernel
set_option maxRecDepth 20000 in
theorem ggX7_price_X7_in : GoodIn wsX7_price wsX7_in := goodIn_r _ [6] (by decide +kernel) (by decide +kernel)
set_option maxRecDepth 20000 in
theorem gX7_price_X7_in : GoodIn wsX7_price (va_wsS RX7 112 yX7_in wsX7_in) := goodIn_app (goodIn_of _ (by decide +kernel)) ggX7_price_X7_in
theorem dX7_price_0 : decode cX7_price 0 = .ok (.iload_n 1, 1) := by decide +kernel
theorem dX7_price_1 : decode cX7_price 1 = .ok (.iconst 0, 1) := by decide +kernel
theorem dX7_price_2 : decode cX7_price 2 = .ok (.iconst 2, 1) := by decide +kernel
theorem dX7_price_3 : decode cX7_price 3 = .ok (.invokestatic 112, 3) := by decide +kernel
theorem dX7_price_6 : decode cX7_price 6 = .ok (.ifCond .eq 40, 3) := by decide +kernel
theorem dX7_price_9 : decode cX7_price 9 = .ok (.iload 4, 2) := by decide +kernel
theorem dX7_price_11 : decode cX7_price 11 = .ok (.iconst (-1), 1) := by decide +kernel
theorem dX7_price_12 : decode cX7_price 12 = .ok (.sipush 999, 3) := by decide +kernel
theorem dX7_price_15 : decode cX7_price 15 = .ok (.invokestatic 112, 3) := by decide +kernel
theorem dX7_price_18 : decode cX7_price 18 = .ok (.ifCond .eq 28, 3) := by decide +kernel
theorem dX7_price_21 : decode cX7_price 21 = .ok (.iload_n 2, 1) := by decide +kernel
theorem dX7_price_22 : decode cX7_price 22 = .ok (.aload_n 0, 1) := by decide +kernel
theorem dX7_price_23 : decode cX7_price 23 = .ok (.getfield 116, 3) := by decide +kernel
theorem dX7_price_26 : decode cX7_price 26 = .ok (.sipush 199, 3) := by decide +kernel
theorem dX7_price_29 : decode cX7_price 29 = .ok (.invokestatic 112, 3) := by decide +kernel
theorem dX7_price_32 : decode cX7_price 32 = .ok (.ifCond .eq 14, 3) := by decide +kernel
theorem dX7_price_35 : decode cX7_price 35 = .ok (.iload_n 3, 1) := by decide +kernel
theorem dX7_price_36 : decode cX7_price 36 = .ok (.iload_n 2, 1) := by decide +kernel
theorem dX7_price_37 : decode cX7_price 37 = .ok (.sipush 199, 3) := by decide +kernel
theorem dX7_price_40 : decode cX7_price 40 = .ok (.invokestatic 112, 3) := by decide +kernel
theorem dX7_price_43 : decode cX7_price 43 = .ok (.ifCond .ne 5, 3) := by decide +kernel
theorem dX7_price_46 : decode cX7_price 46 = .ok (.iconst 0, 1) := by decide +kernel
theorem dX7_price_47 : decode cX7_price 47 = .ok (.ireturn, 1) := by decide +kernel
theorem dX7_price_48 : decode cX7_price 48 = .ok (.iload_n 2, 1) := by decide +kernel
theorem dX7_price_49 : decode cX7_price 49 = .ok (.istore 5, 2) := by decide +kernel
theorem dX7_price_51 : decode cX7_price 51 = .ok (.iload 5, 2) := by decide +kernel
theorem dX7_price_53 : decode cX7_price 53 = .ok (.iload_n 3, 1) := by decide +kernel
theorem dX7_price_54 : decode cX7_price 54 = .ok (.if_icmp .gt 24, 3) := by decide +kernel
theorem dX7_price_57 : decode cX7_price 57 = .ok (.aload_n 0, 1) := by decide +kernel
theorem dX7_price_58 : decode cX7_price 58 = .ok (.getfield 13, 3) := by decide +kernel
theorem dX7_price_61 : decode cX7_price 61 = .ok (.sipush 200, 3) := by decide +kernel
theorem dX7_price_64 : decode cX7_price 64 = .ok (.iload_n 1, 1) := by decide +kernel
theorem dX7_price_65 : decode cX7_price 65 = .ok (.imul, 1) := by decide +kernel
theorem dX7_price_66 : decode cX7_price 66 = .ok (.iload 5, 2) := by decide +kernel
theorem dX7_price_68 : decode cX7_price 68 = .ok (.iadd, 1) := by decide +kernel
theorem dX7_price_69 : decode cX7_price 69 = .ok (.iload 4, 2) := by decide +kernel
theorem dX7_price_71 : decode cX7_price 71 = .ok (.iastore, 1) := by decide +kernel
theorem dX7_price_72 : decode cX7_price 72 = .ok (.iinc 5 1, 3) := by decide +kernel
theorem dX7_price_75 : decode cX7_price 75 = .ok (.goto (-24), 3) := by decide +kernel
theorem dX7_price_78 : decode cX7_price 78 = .ok (.iconst 1, 1) := by decide +kernel
theorem dX7_price_79 : decode cX7_price 79 = .ok (.ireturn, 1) := by decide +kernel
set_option maxRecDepth 20000 in
theorem ggX7_full_X7_in : GoodIn wsX7_full wsX7_in := goodIn_r _ [7] (by decide +kernel) (by decide +kernel)
set_option maxRecDepth 20000 in
theorem gX7_full_X7_in : GoodIn wsX7_full (va_wsS RX7 112 yX7_in wsX7_in) := goodIn_app (goodIn_of _ (by decide +kernel)) ggX7_full_X7_in
theorem dX7_full_0 : decode cX7_full 0 = .ok (.iload_n 1, 1) := by decide +kernel
theorem dX7_full_1 : decode cX7_full 1 = .ok (.iconst 1, 1) := by decide +kernel
theorem dX7_full_2 : decode cX7_full 2 = .ok (.sipush 999, 3) := by decide +kernel
theorem dX7_full_5 : decode cX7_full 5 = .ok (.invokestatic 112, 3) := by decide +kernel
theorem dX7_full_8 : decode cX7_full 8 = .ok (.ifCond .eq 17, 3) := by decide +kernel
theorem dX7_full_11 : decode cX7_full 11 = .ok (.aload_n 0, 1) := by decide +kernel
theorem dX7_full_12 : decode cX7_full 12 = .ok (.getfield 116, 3) := by decide +kernel
theorem dX7_full_15 : decode cX7_full 15 = .ok (.ifCond .gt 10, 3) := by decide +kernel
theorem dX7_full_18 : decode cX7_full 18 = .ok (.aload_n 0, 1) := by decide +kernel
theorem dX7_full_19 : decode cX7_full 19 = .ok (.getfield 109, 3) := by decide +kernel
theorem dX7_full_22 : decode cX7_full 22 = .ok (.ifCond .le 5, 3) := by decide +kernel
theorem dX7_full_25 : decode cX7_full 25 = .ok (.iconst 0, 1) := by decide +kernel
theorem dX7_full_26 : decode cX7_full 26 = .ok (.ireturn, 1) := by decide +kernel
theorem dX7_full_27 : decode cX7_full 27 = .ok (.aload_n 0, 1) := by decide +kernel
theorem dX7_full_28 : decode cX7_full 28 = .ok (.iload_n 1, 1) := by decide +kernel
theorem dX7_full_29 : decode cX7_full 29 = .ok (.putfield 7, 3) := by decide +kernel
theorem dX7_full_32 : decode cX7_full 32 = .ok (.iconst 1, 1) := by decide +kernel
theorem dX7_full_33 : decode cX7_full 33 = .ok (.ireturn, 1) := by decide +kernel
set_option maxRecDepth 20000 in
theorem ggX7_job_X7_in : GoodIn wsX7_job wsX7_in := goodIn_r _ [16] (by decide +kernel) (by decide +kernel)
set_option maxRecDepth 20000 in
theorem gX7_job_X7_in : GoodIn wsX7_job (va_wsS RX7 112 yX7_in wsX7_in) := goodIn_app (goodIn_of _ (by decide +kernel)) ggX7_job_X7_in
theorem dX7_job_0 : decode cX7_job 0 = .ok (.iload_n 1, 1) := by decide +kernel
theorem dX7_job_1 : decode cX7_job 1 = .ok (.ldc 119, 2) := by decide +kernel
theorem dX7_job_3 : decode cX7_job 3 = .ok (.idiv, 1) := by decide +kernel
theorem dX7_job_4 : decode cX7_job 4 = .ok (.istore 4, 2) := by decide +kernel
theorem dX7_job_6 : decode cX7_job 6 = .ok (.iload_n 1, 1) := by decide +kernel
theorem dX7_job_7 : decode cX7_job 7 = .ok (.sipush 1000, 3) := by decide +kernel
theorem dX7_job_10 : decode cX7_job 10 = .ok (.idiv, 1) := by decide +kernel
theorem dX7_job_11 : decode cX7_job 11 = .ok (.sipush 1000, 3) := by decide +kernel
theorem dX7_job_14 : decode cX7_job 14 = .ok (.irem, 1) := by decide +kernel
theorem dX7_job_15 : decode cX7_job 15 = .ok (.istore 5, 2) := by decide +kernel
theorem dX7_job_17 : decode cX7_job 17 = .ok (.iload_n 1, 1) := by decide +kernel
theorem dX7_job_18 : decode cX7_job 18 = .ok (.bipush 100, 2) := by decide +kernel
theorem dX7_job_20 : decode cX7_job 20 = .ok (.idiv, 1) := by decide +kernel
theorem dX7_job_21 : decode cX7_job 21 = .ok (.bipush 10, 2) := by decide +kernel
theorem dX7_job_23 : decode cX7_job 23 = .ok (.irem, 1) := by decide +kernel
theorem dX7_job_24 : decode cX7_job 24 = .ok (.istore 6, 2) := by decide +kernel
theorem dX7_job_26 : decode cX7_job 26 = .ok (.iload_n 1, 1) := by decide +kernel
theorem dX7_job_27 : decode cX7_job 27 = .ok (.ifCond .lt 47, 3) := by decide +kernel
theorem dX7_job_30 : decode cX7_job 30 = .ok (.iload 4, 2) := by decide +kernel
theorem dX7_job_32 : decode cX7_job 32 = .ok (.iconst 1, 1) := by decide +kernel
theorem dX7_job_33 : decode cX7_job 33 = .ok (.bipush 30, 2) := by decide +kernel
theorem dX7_job_35 : decode cX7_job 35 = .ok (.invokestatic 112, 3) := by decide +kernel
theorem dX7_job_38 : decode cX7_job 38 = .ok (.ifCond .eq 36, 3) := by decide +kernel
theorem dX7_job_41 : decode cX7_job 41 = .ok (.iload 5, 2) := by decide +kernel
theorem dX7_job_43 : decode cX7_job 43 = .ok (.sipush 200, 3) := by decide +kernel
theorem dX7_job_46 : decode cX7_job 46 = .ok (.if_icmp .gt 28, 3) := by decide +kernel
theorem dX7_job_49 : decode cX7_job 49 = .ok (.iload 6, 2) := by decide +kernel
theorem dX7_job_51 : decode cX7_job 51 = .ok (.iconst 3, 1) := by decide +kernel
theorem dX7_job_52 : decode cX7_job 52 = .ok (.if_icmp .ge 22, 3) := by decide +kernel
theorem dX7_job_55 : decode cX7_job 55 = .ok (.iload_n 1, 1) := by decide +kernel
theorem dX7_job_56 : decode cX7_job 56 = .ok (.bipush 10, 2) := by decide +kernel
theorem dX7_job_58 : decode cX7_job 58 = .ok (.idiv, 1) := by decide +kernel
theorem dX7_job_59 : decode cX7_job 59 = .ok (.bipush 10, 2) := by decide +kernel
theorem dX7_job_61 : decode cX7_job 61 = .ok (.irem, 1) := by decide +kernel
theorem dX7_job_62 : decode cX7_job 62 = .ok (.iconst 5, 1) := by decide +kernel
theorem dX7_job_63 : decode cX7_job 63 = .ok (.if_icmp .gt 11, 3) := by decide +kernel
theorem dX7_job_66 : decode cX7_job 66 = .ok (.iload_n 1, 1) := by decide +kernel
theorem dX7_job_67 : decode cX7_job 67 = .ok (.bipush 10, 2) := by decide +kernel
theorem dX7_job_69 : decode cX7_job 69 = .ok (.irem, 1) := by decide +kernel
theorem dX7_job_70 : decode cX7_job 70 = .ok (.iconst 5, 1) := by decide +kernel
theorem dX7_job_71 : decode cX7_job 71 = .ok (.if_icmp .le 5, 3) := by decide +kernel
theorem dX7_job_74 : decode cX7_job 74 = .ok (.iconst (-1), 1) := by decide +kernel
theorem dX7_job_75 : decode cX7_job 75 = .ok (.ireturn, 1) := by decide +kernel
theorem dX7_job_76 : decode cX7_job 76 = .ok (.iload_n 2, 1) := by decide +kernel
theorem dX7_job_77 : decode cX7_job 77 = .ok (.iconst 0, 1) := by decide +kernel
theorem dX7_job_78 : decode cX7_job 78 = .ok (.sipush 999, 3) := by decide +kernel
theorem dX7_job_81 : decode cX7_job 81 = .ok (.invokestatic 112, 3) := by decide +kernel
theorem dX7_job_84 : decode cX7_job 84 = .ok (.ifCond .eq 34, 3) := by decide +kernel
theorem dX7_job_87 : decode cX7_job 87 = .ok (.iload_n 3, 1) := by decide +kernel
theorem dX7_job_88 : decode cX7_job 88 = .ok (.iconst 1, 1) := by decide +kernel
theorem dX7_job_89 : decode cX7_job 89 = .ok (.bipush 60, 2) := by decide +kernel
theorem dX7_job_91 : decode cX7_job 91 = .ok (.invokestatic 112, 3) := by decide +kernel
theorem dX7_job_94 : decode cX7_job 94 = .ok (.ifCond .eq 24, 3) := by decide +kernel
theorem dX7_job_97 : decode cX7_job 97 = .ok (.iload 4, 2) := by decide +kernel
theorem dX7_job_99 : decode cX7_job 99 = .ok (.iload 5, 2) := by decide +kernel
theorem dX7_job_101 : decode cX7_job 101 = .ok (.aload_n 0, 1) := by decide +kernel
theorem dX7_job_102 : decode cX7_job 102 = .ok (.getfield 116, 3) := by decide +kernel
theorem dX7_job_105 : decode cX7_job 105 = .ok (.isub, 1) := by decide +kernel
theorem dX7_job_106 : decode cX7_job 106 = .ok (.if_icmp .gt 12, 3) := by decide +kernel
theorem dX7_job_109 : decode cX7_job 109 = .ok (.aload_n 0, 1) := by decide +kernel
theorem dX7_job_110 : decode cX7_job 110 = .ok (.getfield 109, 3) := by decide +kernel
theorem dX7_job_113 : decode cX7_job 113 = .ok (.bipush 12, 2) := by decide +kernel
theorem dX7_job_115 : decode cX7_job 115 = .ok (.if_icmp .ne 5, 3) := by decide +kernel
theorem dX7_job_118 : decode cX7_job 118 = .ok (.iconst (-1), 1) := by decide +kernel
theorem dX7_job_119 : decode cX7_job 119 = .ok (.ireturn, 1) := by decide +kernel
theorem dX7_job_120 : decode cX7_job 120 = .ok (.aload_n 0, 1) := by decide +kernel
theorem dX7_job_121 : decode cX7_job 121 = .ok (.getfield 17, 3) := by decide +kernel
theorem dX7_job_124 : decode cX7_job 124 = .ok (.aload_n 0, 1) := by decide +kernel
theorem dX7_job_125 : decode cX7_job 125 = .ok (.getfield 109, 3) := by decide +kernel
theorem dX7_job_128 : decode cX7_job 128 = .ok (.iload 4, 2) := by decide +kernel
theorem dX7_job_130 : decode cX7_job 130 = .ok (.iastore, 1) := by decide +kernel
theorem dX7_job_131 : decode cX7_job 131 = .ok (.aload_n 0, 1) := by decide +kernel
theorem dX7_job_132 : decode cX7_job 132 = .ok (.getfield 20, 3) := by decide +kernel
theorem dX7_job_135 : decode cX7_job 135 = .ok (.aload_n 0, 1) := by decide +kernel
theorem dX7_job_136 : decode cX7_job 136 = .ok (.getfield 109, 3) := by decide +kernel
theorem dX7_job_139 : decode cX7_job 139 = .ok (.iload 5, 2) := by decide +kernel
theorem dX7_job_141 : decode cX7_job 141 = .ok (.iastore, 1) := by decide +kernel
theorem dX7_job_142 : decode cX7_job 142 = .ok (.aload_n 0, 1) := by decide +kernel
theorem dX7_job_143 : decode cX7_job 143 = .ok (.getfield 23, 3) := by decide +kernel
theorem dX7_job_146 : decode cX7_job 146 = .ok (.aload_n 0, 1) := by decide +kernel
theorem dX7_job_147 : decode cX7_job 147 = .ok (.getfield 109, 3) := by decide +kernel
theorem dX7_job_150 : decode cX7_job 150 = .ok (.iload 6, 2) := by decide +kernel
theorem dX7_job_152 : decode cX7_job 152 = .ok (.iastore, 1) := by decide +kernel
theorem dX7_job_153 : decode cX7_job 153 = .ok (.aload_n 0, 1) := by decide +kernel
theorem dX7_job_154 : decode cX7_job 154 = .ok (.getfield 32, 3) := by decide +kernel
theorem dX7_job_157 : decode cX7_job 157 = .ok (.aload_n 0, 1) := by decide +kernel
theorem dX7_job_158 : decode cX7_job 158 = .ok (.getfield 109, 3) := by decide +kernel
theorem dX7_job_161 : decode cX7_job 161 = .ok (.iload_n 1, 1) := by decide +kernel
theorem dX7_job_162 : decode cX7_job 162 = .ok (.bipush 10, 2) := by decide +kernel
theorem dX7_job_164 : decode cX7_job 164 = .ok (.idiv, 1) := by decide +kernel
theorem dX7_job_165 : decode cX7_job 165 = .ok (.bipush 10, 2) := by decide +kernel
theorem dX7_job_167 : decode cX7_job 167 = .ok (.irem, 1) := by decide +kernel
theorem dX7_job_168 : decode cX7_job 168 = .ok (.iastore, 1) := by decide +kernel
theorem dX7_job_169 : decode cX7_job 169 = .ok (.aload_n 0, 1) := by decide +kernel
theorem dX7_job_170 : decode cX7_job 170 = .ok (.getfield 35, 3) := by decide +kernel
theorem dX7_job_173 : decode cX7_job 173 = .ok (.aload_n 0, 1) := by decide +kernel
theorem dX7_job_174 : decode cX7_job 174 = .ok (.getfield 109, 3) := by decide +kernel
theorem dX7_job_177 : decode cX7_job 177 = .ok (.iload_n 1, 1) := by decide +kernel
