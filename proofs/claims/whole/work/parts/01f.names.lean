theorem dX7_level_153 : decode cX7_level 153 = .ok (.iconst 1, 1) := by decide +kernel
theorem dX7_level_154 : decode cX7_level 154 = .ok (.ireturn, 1) := by decide +kernel
set_option maxRecDepth 20000 in
theorem ggX7_isState_X7_in : GoodIn wsX7_isState wsX7_in := goodIn_r _ [5] (by decide +kernel) (by decide +kernel)
set_option maxRecDepth 20000 in
theorem gX7_isState_X7_in : GoodIn wsX7_isState (va_wsS RX7 112 yX7_in wsX7_in) := goodIn_app (goodIn_of _ (by decide +kernel)) ggX7_isState_X7_in
theorem dX7_isState_0 : decode cX7_isState 0 = .ok (.iload_n 1, 1) := by decide +kernel
theorem dX7_isState_1 : decode cX7_isState 1 = .ok (.iconst 0, 1) := by decide +kernel
theorem dX7_isState_2 : decode cX7_isState 2 = .ok (.bipush 12, 2) := by decide +kernel
theorem dX7_isState_4 : decode cX7_isState 4 = .ok (.invokestatic 112, 3) := by decide +kernel
theorem dX7_isState_7 : decode cX7_isState 7 = .ok (.ifCond .eq 30, 3) := by decide +kernel
theorem dX7_isState_10 : decode cX7_isState 10 = .ok (.iload_n 2, 1) := by decide +kernel
theorem dX7_isState_11 : decode cX7_isState 11 = .ok (.iconst 0, 1) := by decide +kernel
theorem dX7_isState_12 : decode cX7_isState 12 = .ok (.iload_n 1, 1) := by decide +kernel
theorem dX7_isState_13 : decode cX7_isState 13 = .ok (.invokestatic 112, 3) := by decide +kernel
theorem dX7_isState_16 : decode cX7_isState 16 = .ok (.ifCond .eq 21, 3) := by decide +kernel
theorem dX7_isState_19 : decode cX7_isState 19 = .ok (.iload_n 3, 1) := by decide +kernel
theorem dX7_isState_20 : decode cX7_isState 20 = .ok (.iconst 0, 1) := by decide +kernel
theorem dX7_isState_21 : decode cX7_isState 21 = .ok (.aload_n 0, 1) := by decide +kernel
theorem dX7_isState_22 : decode cX7_isState 22 = .ok (.getfield 162, 3) := by decide +kernel
theorem dX7_isState_25 : decode cX7_isState 25 = .ok (.iconst 1, 1) := by decide +kernel
theorem dX7_isState_26 : decode cX7_isState 26 = .ok (.isub, 1) := by decide +kernel
theorem dX7_isState_27 : decode cX7_isState 27 = .ok (.invokestatic 112, 3) := by decide +kernel
theorem dX7_isState_30 : decode cX7_isState 30 = .ok (.ifCond .eq 7, 3) := by decide +kernel
theorem dX7_isState_33 : decode cX7_isState 33 = .ok (.iconst 1, 1) := by decide +kernel
theorem dX7_isState_34 : decode cX7_isState 34 = .ok (.goto 4, 3) := by decide +kernel
theorem dX7_isState_37 : decode cX7_isState 37 = .ok (.iconst 0, 1) := by decide +kernel
theorem dX7_isState_38 : decode cX7_isState 38 = .ok (.ireturn, 1) := by decide +kernel
theorem dX7_at_0 : decode cX7_at 0 = .ok (.bipush 6, 2) := by decide +kernel
theorem dX7_at_2 : decode cX7_at 2 = .ok (.bipush 13, 2) := by decide +kernel
theorem dX7_at_4 : decode cX7_at 4 = .ok (.iload_n 0, 1) := by decide +kernel
theorem dX7_at_5 : decode cX7_at 5 = .ok (.imul, 1) := by decide +kernel
theorem dX7_at_6 : decode cX7_at 6 = .ok (.iload_n 1, 1) := by decide +kernel
theorem dX7_at_7 : decode cX7_at 7 = .ok (.iadd, 1) := by decide +kernel
theorem dX7_at_8 : decode cX7_at 8 = .ok (.imul, 1) := by decide +kernel
theorem dX7_at_9 : decode cX7_at 9 = .ok (.iload_n 2, 1) := by decide +kernel
theorem dX7_at_10 : decode cX7_at 10 = .ok (.iadd, 1) := by decide +kernel
theorem dX7_at_11 : decode cX7_at 11 = .ok (.ireturn, 1) := by decide +kernel
set_option maxRecDepth 20000 in
theorem ggX7_next_X7_at : GoodIn wsX7_next wsX7_at := goodIn_r _ [7] (by decide +kernel) (by decide +kernel)
set_option maxRecDepth 20000 in
theorem gX7_next_X7_at : GoodIn wsX7_next (va_wsS RX7 165 yX7_at wsX7_at) := goodIn_app (goodIn_of _ (by decide +kernel)) ggX7_next_X7_at
theorem dX7_next_0 : decode cX7_next 0 = .ok (.lconst 0, 1) := by decide +kernel
theorem dX7_next_1 : decode cX7_next 1 = .ok (.lstore 4, 2) := by decide +kernel
theorem dX7_next_3 : decode cX7_next 3 = .ok (.iconst 0, 1) := by decide +kernel
theorem dX7_next_4 : decode cX7_next 4 = .ok (.istore 6, 2) := by decide +kernel
theorem dX7_next_6 : decode cX7_next 6 = .ok (.iload 6, 2) := by decide +kernel
theorem dX7_next_8 : decode cX7_next 8 = .ok (.aload_n 0, 1) := by decide +kernel
theorem dX7_next_9 : decode cX7_next 9 = .ok (.getfield 162, 3) := by decide +kernel
theorem dX7_next_12 : decode cX7_next 12 = .ok (.if_icmp .ge 42, 3) := by decide +kernel
theorem dX7_next_15 : decode cX7_next 15 = .ok (.lload 4, 2) := by decide +kernel
theorem dX7_next_17 : decode cX7_next 17 = .ok (.aload_n 0, 1) := by decide +kernel
theorem dX7_next_18 : decode cX7_next 18 = .ok (.getfield 93, 3) := by decide +kernel
theorem dX7_next_21 : decode cX7_next 21 = .ok (.bipush 6, 2) := by decide +kernel
theorem dX7_next_23 : decode cX7_next 23 = .ok (.iload_n 3, 1) := by decide +kernel
theorem dX7_next_24 : decode cX7_next 24 = .ok (.imul, 1) := by decide +kernel
theorem dX7_next_25 : decode cX7_next 25 = .ok (.iload 6, 2) := by decide +kernel
theorem dX7_next_27 : decode cX7_next 27 = .ok (.iadd, 1) := by decide +kernel
theorem dX7_next_28 : decode cX7_next 28 = .ok (.iaload, 1) := by decide +kernel
theorem dX7_next_29 : decode cX7_next 29 = .ok (.i2l, 1) := by decide +kernel
theorem dX7_next_30 : decode cX7_next 30 = .ok (.aload_n 0, 1) := by decide +kernel
theorem dX7_next_31 : decode cX7_next 31 = .ok (.getfield 96, 3) := by decide +kernel
theorem dX7_next_34 : decode cX7_next 34 = .ok (.iload_n 1, 1) := by decide +kernel
theorem dX7_next_35 : decode cX7_next 35 = .ok (.iconst 1, 1) := by decide +kernel
theorem dX7_next_36 : decode cX7_next 36 = .ok (.isub, 1) := by decide +kernel
theorem dX7_next_37 : decode cX7_next 37 = .ok (.iload_n 2, 1) := by decide +kernel
theorem dX7_next_38 : decode cX7_next 38 = .ok (.iload 6, 2) := by decide +kernel
theorem dX7_next_40 : decode cX7_next 40 = .ok (.invokestatic 165, 3) := by decide +kernel
theorem dX7_next_43 : decode cX7_next 43 = .ok (.laload, 1) := by decide +kernel
theorem dX7_next_44 : decode cX7_next 44 = .ok (.lmul, 1) := by decide +kernel
theorem dX7_next_45 : decode cX7_next 45 = .ok (.ladd, 1) := by decide +kernel
theorem dX7_next_46 : decode cX7_next 46 = .ok (.lstore 4, 2) := by decide +kernel
theorem dX7_next_48 : decode cX7_next 48 = .ok (.iinc 6 1, 3) := by decide +kernel
theorem dX7_next_51 : decode cX7_next 51 = .ok (.goto (-45), 3) := by decide +kernel
theorem dX7_next_54 : decode cX7_next 54 = .ok (.lload 4, 2) := by decide +kernel
theorem dX7_next_56 : decode cX7_next 56 = .ok (.lreturn, 1) := by decide +kernel
set_option maxRecDepth 20000 in
theorem ggX7_worstNext_X7_at : GoodIn wsX7_worstNext wsX7_at := goodIn_r _ [7] (by decide +kernel) (by decide +kernel)
set_option maxRecDepth 20000 in
theorem gX7_worstNext_X7_at : GoodIn wsX7_worstNext (va_wsS RX7 165 yX7_at wsX7_at) := goodIn_app (goodIn_of _ (by decide +kernel)) ggX7_worstNext_X7_at
theorem dX7_worstNext_0 : decode cX7_worstNext 0 = .ok (.iconst 0, 1) := by decide +kernel
theorem dX7_worstNext_1 : decode cX7_worstNext 1 = .ok (.istore 4, 2) := by decide +kernel
theorem dX7_worstNext_3 : decode cX7_worstNext 3 = .ok (.iconst 0, 1) := by decide +kernel
theorem dX7_worstNext_4 : decode cX7_worstNext 4 = .ok (.istore 5, 2) := by decide +kernel
theorem dX7_worstNext_6 : decode cX7_worstNext 6 = .ok (.iload 5, 2) := by decide +kernel
theorem dX7_worstNext_8 : decode cX7_worstNext 8 = .ok (.aload_n 0, 1) := by decide +kernel
theorem dX7_worstNext_9 : decode cX7_worstNext 9 = .ok (.getfield 162, 3) := by decide +kernel
theorem dX7_worstNext_12 : decode cX7_worstNext 12 = .ok (.if_icmp .ge 59, 3) := by decide +kernel
theorem dX7_worstNext_15 : decode cX7_worstNext 15 = .ok (.aload_n 0, 1) := by decide +kernel
theorem dX7_worstNext_16 : decode cX7_worstNext 16 = .ok (.getfield 93, 3) := by decide +kernel
theorem dX7_worstNext_19 : decode cX7_worstNext 19 = .ok (.bipush 6, 2) := by decide +kernel
theorem dX7_worstNext_21 : decode cX7_worstNext 21 = .ok (.iload_n 3, 1) := by decide +kernel
theorem dX7_worstNext_22 : decode cX7_worstNext 22 = .ok (.imul, 1) := by decide +kernel
theorem dX7_worstNext_23 : decode cX7_worstNext 23 = .ok (.iload 5, 2) := by decide +kernel
theorem dX7_worstNext_25 : decode cX7_worstNext 25 = .ok (.iadd, 1) := by decide +kernel
theorem dX7_worstNext_26 : decode cX7_worstNext 26 = .ok (.iaload, 1) := by decide +kernel
theorem dX7_worstNext_27 : decode cX7_worstNext 27 = .ok (.ifCond .le 38, 3) := by decide +kernel
theorem dX7_worstNext_30 : decode cX7_worstNext 30 = .ok (.aload_n 0, 1) := by decide +kernel
theorem dX7_worstNext_31 : decode cX7_worstNext 31 = .ok (.getfield 103, 3) := by decide +kernel
theorem dX7_worstNext_34 : decode cX7_worstNext 34 = .ok (.iload_n 1, 1) := by decide +kernel
theorem dX7_worstNext_35 : decode cX7_worstNext 35 = .ok (.iconst 1, 1) := by decide +kernel
theorem dX7_worstNext_36 : decode cX7_worstNext 36 = .ok (.isub, 1) := by decide +kernel
theorem dX7_worstNext_37 : decode cX7_worstNext 37 = .ok (.iload_n 2, 1) := by decide +kernel
theorem dX7_worstNext_38 : decode cX7_worstNext 38 = .ok (.iload 5, 2) := by decide +kernel
theorem dX7_worstNext_40 : decode cX7_worstNext 40 = .ok (.invokestatic 165, 3) := by decide +kernel
theorem dX7_worstNext_43 : decode cX7_worstNext 43 = .ok (.iaload, 1) := by decide +kernel
theorem dX7_worstNext_44 : decode cX7_worstNext 44 = .ok (.iload 4, 2) := by decide +kernel
theorem dX7_worstNext_46 : decode cX7_worstNext 46 = .ok (.if_icmp .le 19, 3) := by decide +kernel
theorem dX7_worstNext_49 : decode cX7_worstNext 49 = .ok (.aload_n 0, 1) := by decide +kernel
theorem dX7_worstNext_50 : decode cX7_worstNext 50 = .ok (.getfield 103, 3) := by decide +kernel
theorem dX7_worstNext_53 : decode cX7_worstNext 53 = .ok (.iload_n 1, 1) := by decide +kernel
theorem dX7_worstNext_54 : decode cX7_worstNext 54 = .ok (.iconst 1, 1) := by decide +kernel
theorem dX7_worstNext_55 : decode cX7_worstNext 55 = .ok (.isub, 1) := by decide +kernel
theorem dX7_worstNext_56 : decode cX7_worstNext 56 = .ok (.iload_n 2, 1) := by decide +kernel
theorem dX7_worstNext_57 : decode cX7_worstNext 57 = .ok (.iload 5, 2) := by decide +kernel
theorem dX7_worstNext_59 : decode cX7_worstNext 59 = .ok (.invokestatic 165, 3) := by decide +kernel
theorem dX7_worstNext_62 : decode cX7_worstNext 62 = .ok (.iaload, 1) := by decide +kernel
theorem dX7_worstNext_63 : decode cX7_worstNext 63 = .ok (.istore 4, 2) := by decide +kernel
theorem dX7_worstNext_65 : decode cX7_worstNext 65 = .ok (.iinc 5 1, 3) := by decide +kernel
theorem dX7_worstNext_68 : decode cX7_worstNext 68 = .ok (.goto (-62), 3) := by decide +kernel
theorem dX7_worstNext_71 : decode cX7_worstNext 71 = .ok (.iload 4, 2) := by decide +kernel
theorem dX7_worstNext_73 : decode cX7_worstNext 73 = .ok (.ireturn, 1) := by decide +kernel
set_option maxRecDepth 20000 in
theorem ggX7_makes_X7_power : GoodIn wsX7_makes wsX7_power := goodIn_r _ [5] (by decide +kernel) (by decide +kernel)
set_option maxRecDepth 20000 in
theorem gX7_makes_X7_power : GoodIn wsX7_makes (va_wsS RX7 145 yX7_power wsX7_power) := goodIn_app (goodIn_of _ (by decide +kernel)) ggX7_makes_X7_power
set_option maxRecDepth 20000 in
theorem ggX7_makes_X7_state : GoodIn wsX7_makes wsX7_state := goodIn_r _ [9, 10, 11, 12, 13, 14, 15, 16, 4, 17, 18, 19, 20, 21, 1, 22, 23, 24, 25, 26, 27, 28, 29, 30, 31, 32, 33, 34, 35, 36, 37, 38, 39, 40, 41, 42, 43, 44, 45, 46, 47, 48, 49, 50, 51, 52, 53, 54, 55, 56, 57, 58, 59, 60, 61, 62, 63, 64, 65] (by decide +kernel) (by decide +kernel)
set_option maxRecDepth 20000 in
theorem gX7_makes_X7_state : GoodIn wsX7_makes (wsV RX7 169 RX7 yX7_state wsX7_state) := goodIn_app (goodIn_of _ (by decide +kernel)) ggX7_makes_X7_state
theorem dX7_makes_0 : decode cX7_makes 0 = .ok (.iconst 0, 1) := by decide +kernel
theorem dX7_makes_1 : decode cX7_makes 1 = .ok (.istore_n 3, 1) := by decide +kernel
theorem dX7_makes_2 : decode cX7_makes 2 = .ok (.iload_n 3, 1) := by decide +kernel
theorem dX7_makes_3 : decode cX7_makes 3 = .ok (.iload_n 1, 1) := by decide +kernel
theorem dX7_makes_4 : decode cX7_makes 4 = .ok (.if_icmp .gt 62, 3) := by decide +kernel
theorem dX7_makes_7 : decode cX7_makes 7 = .ok (.bipush 10, 2) := by decide +kernel
theorem dX7_makes_9 : decode cX7_makes 9 = .ok (.iload_n 3, 1) := by decide +kernel
theorem dX7_makes_10 : decode cX7_makes 10 = .ok (.invokestatic 145, 3) := by decide +kernel
theorem dX7_makes_13 : decode cX7_makes 13 = .ok (.lstore 4, 2) := by decide +kernel
theorem dX7_makes_15 : decode cX7_makes 15 = .ok (.iconst 0, 1) := by decide +kernel
theorem dX7_makes_16 : decode cX7_makes 16 = .ok (.istore 6, 2) := by decide +kernel
theorem dX7_makes_18 : decode cX7_makes 18 = .ok (.iload 6, 2) := by decide +kernel
theorem dX7_makes_20 : decode cX7_makes 20 = .ok (.iload_n 3, 1) := by decide +kernel
theorem dX7_makes_21 : decode cX7_makes 21 = .ok (.if_icmp .gt 39, 3) := by decide +kernel
theorem dX7_makes_24 : decode cX7_makes 24 = .ok (.iconst 0, 1) := by decide +kernel
theorem dX7_makes_25 : decode cX7_makes 25 = .ok (.istore 7, 2) := by decide +kernel
theorem dX7_makes_27 : decode cX7_makes 27 = .ok (.iload 7, 2) := by decide +kernel
theorem dX7_makes_29 : decode cX7_makes 29 = .ok (.aload_n 0, 1) := by decide +kernel
theorem dX7_makes_30 : decode cX7_makes 30 = .ok (.getfield 162, 3) := by decide +kernel
theorem dX7_makes_33 : decode cX7_makes 33 = .ok (.if_icmp .ge 21, 3) := by decide +kernel
theorem dX7_makes_36 : decode cX7_makes 36 = .ok (.aload_n 0, 1) := by decide +kernel
theorem dX7_makes_37 : decode cX7_makes 37 = .ok (.iload_n 3, 1) := by decide +kernel
theorem dX7_makes_38 : decode cX7_makes 38 = .ok (.iload 6, 2) := by decide +kernel
theorem dX7_makes_40 : decode cX7_makes 40 = .ok (.iload 7, 2) := by decide +kernel
theorem dX7_makes_42 : decode cX7_makes 42 = .ok (.lload 4, 2) := by decide +kernel
theorem dX7_makes_44 : decode cX7_makes 44 = .ok (.iload_n 2, 1) := by decide +kernel
theorem dX7_makes_45 : decode cX7_makes 45 = .ok (.invokevirtual 169, 3) := by decide +kernel
theorem dX7_makes_48 : decode cX7_makes 48 = .ok (.iinc 7 1, 3) := by decide +kernel
theorem dX7_makes_51 : decode cX7_makes 51 = .ok (.goto (-24), 3) := by decide +kernel
theorem dX7_makes_54 : decode cX7_makes 54 = .ok (.iinc 6 1, 3) := by decide +kernel
theorem dX7_makes_57 : decode cX7_makes 57 = .ok (.goto (-39), 3) := by decide +kernel
theorem dX7_makes_60 : decode cX7_makes 60 = .ok (.iinc 3 1, 3) := by decide +kernel
theorem dX7_makes_63 : decode cX7_makes 63 = .ok (.goto (-61), 3) := by decide +kernel
theorem dX7_makes_66 : decode cX7_makes 66 = .ok (.return_, 1) := by decide +kernel
set_option maxRecDepth 20000 in
theorem ggX7_state_X7_at : GoodIn wsX7_state wsX7_at := goodIn_r _ [9] (by decide +kernel) (by decide +kernel)
set_option maxRecDepth 20000 in
theorem gX7_state_X7_at : GoodIn wsX7_state (va_wsS RX7 165 yX7_at wsX7_at) := goodIn_app (goodIn_of _ (by decide +kernel)) ggX7_state_X7_at
set_option maxRecDepth 20000 in
theorem ggX7_state_X7_next : GoodIn wsX7_state wsX7_next := goodIn_r _ [13, 14, 15, 1, 6, 7, 8, 9, 24, 25, 26, 27, 28, 29, 30, 31, 32, 33, 34, 35, 36, 37, 38, 39, 40, 41, 42, 43, 44, 45, 46, 47, 48, 49, 50, 51, 52, 53, 54, 55, 56, 57, 58] (by decide +kernel) (by decide +kernel)
set_option maxRecDepth 20000 in
theorem gX7_state_X7_next : GoodIn wsX7_state (wsV RX7 173 RX7 yX7_next wsX7_next) := goodIn_app (goodIn_of _ (by decide +kernel)) ggX7_state_X7_next
set_option maxRecDepth 20000 in
theorem ggX7_state_X7_best : GoodIn wsX7_state wsX7_best := goodIn_r _ [19, 4, 5, 10, 11, 12, 8, 13, 14, 15, 1, 6, 7, 9, 24, 25, 26, 27, 28, 29, 30, 31, 32, 33, 34, 35, 36, 37, 38, 39, 40, 41, 42, 43, 44, 45, 46, 47, 48, 49, 50, 51, 52, 53, 54, 55, 56, 57, 58] (by decide +kernel) (by decide +kernel)
set_option maxRecDepth 20000 in
theorem gX7_state_X7_best : GoodIn wsX7_state (wsV RX7 176 RX7 yX7_best wsX7_best) := goodIn_app (goodIn_of _ (by decide +kernel)) ggX7_state_X7_best
set_option maxRecDepth 20000 in
theorem ggX7_state_X7_worstNext : GoodIn wsX7_state wsX7_worstNext := goodIn_r _ [23, 14, 15, 3, 6, 7, 8, 9, 24, 25, 26, 27, 28, 29, 30, 31, 32, 33, 34, 35, 36, 37, 38, 39, 40, 41, 42, 43, 44, 45, 46, 47, 48, 49, 50, 51, 52, 53, 54, 55, 56, 57, 58] (by decide +kernel) (by decide +kernel)
set_option maxRecDepth 20000 in
theorem gX7_state_X7_worstNext : GoodIn wsX7_state (wsV RX7 180 RX7 yX7_worstNext wsX7_worstNext) := goodIn_app (goodIn_of _ (by decide +kernel)) ggX7_state_X7_worstNext
theorem dX7_state_0 : decode cX7_state 0 = .ok (.iload_n 1, 1) := by decide +kernel
theorem dX7_state_1 : decode cX7_state 1 = .ok (.iload_n 2, 1) := by decide +kernel
theorem dX7_state_2 : decode cX7_state 2 = .ok (.iload_n 3, 1) := by decide +kernel
theorem dX7_state_3 : decode cX7_state 3 = .ok (.invokestatic 165, 3) := by decide +kernel
theorem dX7_state_6 : decode cX7_state 6 = .ok (.istore 7, 2) := by decide +kernel
theorem dX7_state_8 : decode cX7_state 8 = .ok (.aload_n 0, 1) := by decide +kernel
theorem dX7_state_9 : decode cX7_state 9 = .ok (.getfield 96, 3) := by decide +kernel
theorem dX7_state_12 : decode cX7_state 12 = .ok (.iload 7, 2) := by decide +kernel
theorem dX7_state_14 : decode cX7_state 14 = .ok (.lconst 0, 1) := by decide +kernel
theorem dX7_state_15 : decode cX7_state 15 = .ok (.lastore, 1) := by decide +kernel
theorem dX7_state_16 : decode cX7_state 16 = .ok (.aload_n 0, 1) := by decide +kernel
theorem dX7_state_17 : decode cX7_state 17 = .ok (.getfield 100, 3) := by decide +kernel
theorem dX7_state_20 : decode cX7_state 20 = .ok (.iload 7, 2) := by decide +kernel
theorem dX7_state_22 : decode cX7_state 22 = .ok (.iconst 0, 1) := by decide +kernel
theorem dX7_state_23 : decode cX7_state 23 = .ok (.iastore, 1) := by decide +kernel
theorem dX7_state_24 : decode cX7_state 24 = .ok (.aload_n 0, 1) := by decide +kernel
theorem dX7_state_25 : decode cX7_state 25 = .ok (.getfield 103, 3) := by decide +kernel
theorem dX7_state_28 : decode cX7_state 28 = .ok (.iload 7, 2) := by decide +kernel
theorem dX7_state_30 : decode cX7_state 30 = .ok (.iconst 0, 1) := by decide +kernel
theorem dX7_state_31 : decode cX7_state 31 = .ok (.iastore, 1) := by decide +kernel
theorem dX7_state_32 : decode cX7_state 32 = .ok (.iload_n 2, 1) := by decide +kernel
theorem dX7_state_33 : decode cX7_state 33 = .ok (.ifCond .ne 4, 3) := by decide +kernel
theorem dX7_state_36 : decode cX7_state 36 = .ok (.return_, 1) := by decide +kernel
theorem dX7_state_37 : decode cX7_state 37 = .ok (.aload_n 0, 1) := by decide +kernel
theorem dX7_state_38 : decode cX7_state 38 = .ok (.getfield 90, 3) := by decide +kernel
theorem dX7_state_41 : decode cX7_state 41 = .ok (.iload_n 3, 1) := by decide +kernel
theorem dX7_state_42 : decode cX7_state 42 = .ok (.iaload, 1) := by decide +kernel
theorem dX7_state_43 : decode cX7_state 43 = .ok (.istore 8, 2) := by decide +kernel
theorem dX7_state_45 : decode cX7_state 45 = .ok (.aload_n 0, 1) := by decide +kernel
theorem dX7_state_46 : decode cX7_state 46 = .ok (.iload_n 1, 1) := by decide +kernel
theorem dX7_state_47 : decode cX7_state 47 = .ok (.iload_n 2, 1) := by decide +kernel
theorem dX7_state_48 : decode cX7_state 48 = .ok (.iconst 1, 1) := by decide +kernel
theorem dX7_state_49 : decode cX7_state 49 = .ok (.isub, 1) := by decide +kernel
theorem dX7_state_50 : decode cX7_state 50 = .ok (.iload_n 3, 1) := by decide +kernel
theorem dX7_state_51 : decode cX7_state 51 = .ok (.invokevirtual 173, 3) := by decide +kernel
theorem dX7_state_54 : decode cX7_state 54 = .ok (.lstore 9, 2) := by decide +kernel
theorem dX7_state_56 : decode cX7_state 56 = .ok (.iload 6, 2) := by decide +kernel
theorem dX7_state_58 : decode cX7_state 58 = .ok (.iconst (-1), 1) := by decide +kernel
theorem dX7_state_59 : decode cX7_state 59 = .ok (.if_icmp .ne 17, 3) := by decide +kernel
theorem dX7_state_62 : decode cX7_state 62 = .ok (.aload_n 0, 1) := by decide +kernel
theorem dX7_state_63 : decode cX7_state 63 = .ok (.iload_n 1, 1) := by decide +kernel
theorem dX7_state_64 : decode cX7_state 64 = .ok (.iload_n 2, 1) := by decide +kernel
theorem dX7_state_65 : decode cX7_state 65 = .ok (.iload_n 3, 1) := by decide +kernel
theorem dX7_state_66 : decode cX7_state 66 = .ok (.lload 4, 2) := by decide +kernel
theorem dX7_state_68 : decode cX7_state 68 = .ok (.lload 9, 2) := by decide +kernel
theorem dX7_state_70 : decode cX7_state 70 = .ok (.invokevirtual 176, 3) := by decide +kernel
theorem dX7_state_73 : decode cX7_state 73 = .ok (.goto 37, 3) := by decide +kernel
theorem dX7_state_76 : decode cX7_state 76 = .ok (.iload 8, 2) := by decide +kernel
theorem dX7_state_78 : decode cX7_state 78 = .ok (.iload 6, 2) := by decide +kernel
theorem dX7_state_80 : decode cX7_state 80 = .ok (.if_icmp .gt 7, 3) := by decide +kernel
theorem dX7_state_83 : decode cX7_state 83 = .ok (.iconst 1, 1) := by decide +kernel
theorem dX7_state_84 : decode cX7_state 84 = .ok (.goto 26, 3) := by decide +kernel
theorem dX7_state_87 : decode cX7_state 87 = .ok (.iload_n 2, 1) := by decide +kernel
theorem dX7_state_88 : decode cX7_state 88 = .ok (.iload_n 1, 1) := by decide +kernel
theorem dX7_state_89 : decode cX7_state 89 = .ok (.if_icmp .ge 7, 3) := by decide +kernel
theorem dX7_state_92 : decode cX7_state 92 = .ok (.iconst 0, 1) := by decide +kernel
theorem dX7_state_93 : decode cX7_state 93 = .ok (.goto 17, 3) := by decide +kernel
theorem dX7_state_96 : decode cX7_state 96 = .ok (.iload 8, 2) := by decide +kernel
theorem dX7_state_98 : decode cX7_state 98 = .ok (.aload_n 0, 1) := by decide +kernel
theorem dX7_state_99 : decode cX7_state 99 = .ok (.getfield 7, 3) := by decide +kernel
theorem dX7_state_102 : decode cX7_state 102 = .ok (.if_icmp .gt 7, 3) := by decide +kernel
theorem dX7_state_105 : decode cX7_state 105 = .ok (.iconst 1, 1) := by decide +kernel
theorem dX7_state_106 : decode cX7_state 106 = .ok (.goto 4, 3) := by decide +kernel
theorem dX7_state_109 : decode cX7_state 109 = .ok (.iconst 2, 1) := by decide +kernel
theorem dX7_state_110 : decode cX7_state 110 = .ok (.istore 11, 2) := by decide +kernel
theorem dX7_state_112 : decode cX7_state 112 = .ok (.aload_n 0, 1) := by decide +kernel
theorem dX7_state_113 : decode cX7_state 113 = .ok (.getfield 100, 3) := by decide +kernel
theorem dX7_state_116 : decode cX7_state 116 = .ok (.iload 7, 2) := by decide +kernel
theorem dX7_state_118 : decode cX7_state 118 = .ok (.iload 11, 2) := by decide +kernel
theorem dX7_state_120 : decode cX7_state 120 = .ok (.iastore, 1) := by decide +kernel
theorem dX7_state_121 : decode cX7_state 121 = .ok (.iload 11, 2) := by decide +kernel
theorem dX7_state_123 : decode cX7_state 123 = .ok (.ifCond .ne 7, 3) := by decide +kernel
theorem dX7_state_126 : decode cX7_state 126 = .ok (.iconst 0, 1) := by decide +kernel
theorem dX7_state_127 : decode cX7_state 127 = .ok (.goto 18, 3) := by decide +kernel
theorem dX7_state_130 : decode cX7_state 130 = .ok (.iload 11, 2) := by decide +kernel
theorem dX7_state_132 : decode cX7_state 132 = .ok (.iconst 1, 1) := by decide +kernel
theorem dX7_state_133 : decode cX7_state 133 = .ok (.if_icmp .ne 8, 3) := by decide +kernel
theorem dX7_state_136 : decode cX7_state 136 = .ok (.iload 8, 2) := by decide +kernel
theorem dX7_state_138 : decode cX7_state 138 = .ok (.goto 7, 3) := by decide +kernel
theorem dX7_state_141 : decode cX7_state 141 = .ok (.aload_n 0, 1) := by decide +kernel
theorem dX7_state_142 : decode cX7_state 142 = .ok (.getfield 7, 3) := by decide +kernel
theorem dX7_state_145 : decode cX7_state 145 = .ok (.istore 12, 2) := by decide +kernel
theorem dX7_state_147 : decode cX7_state 147 = .ok (.aload_n 0, 1) := by decide +kernel
theorem dX7_state_148 : decode cX7_state 148 = .ok (.getfield 96, 3) := by decide +kernel
theorem dX7_state_151 : decode cX7_state 151 = .ok (.iload 7, 2) := by decide +kernel
theorem dX7_state_153 : decode cX7_state 153 = .ok (.iload 11, 2) := by decide +kernel
theorem dX7_state_155 : decode cX7_state 155 = .ok (.ifCond .ne 13, 3) := by decide +kernel
theorem dX7_state_158 : decode cX7_state 158 = .ok (.aload_n 0, 1) := by decide +kernel
theorem dX7_state_159 : decode cX7_state 159 = .ok (.iload_n 1, 1) := by decide +kernel
theorem dX7_state_160 : decode cX7_state 160 = .ok (.iload_n 2, 1) := by decide +kernel
theorem dX7_state_161 : decode cX7_state 161 = .ok (.iload_n 3, 1) := by decide +kernel
theorem dX7_state_162 : decode cX7_state 162 = .ok (.invokevirtual 173, 3) := by decide +kernel
theorem dX7_state_165 : decode cX7_state 165 = .ok (.goto 12, 3) := by decide +kernel
theorem dX7_state_168 : decode cX7_state 168 = .ok (.iload 12, 2) := by decide +kernel
theorem dX7_state_170 : decode cX7_state 170 = .ok (.i2l, 1) := by decide +kernel
theorem dX7_state_171 : decode cX7_state 171 = .ok (.lload 4, 2) := by decide +kernel
theorem dX7_state_173 : decode cX7_state 173 = .ok (.lmul, 1) := by decide +kernel
theorem dX7_state_174 : decode cX7_state 174 = .ok (.lload 9, 2) := by decide +kernel
theorem dX7_state_176 : decode cX7_state 176 = .ok (.ladd, 1) := by decide +kernel
theorem dX7_state_177 : decode cX7_state 177 = .ok (.lastore, 1) := by decide +kernel
theorem dX7_state_178 : decode cX7_state 178 = .ok (.aload_n 0, 1) := by decide +kernel
theorem dX7_state_179 : decode cX7_state 179 = .ok (.getfield 103, 3) := by decide +kernel
theorem dX7_state_182 : decode cX7_state 182 = .ok (.iload 7, 2) := by decide +kernel
theorem dX7_state_184 : decode cX7_state 184 = .ok (.iload 12, 2) := by decide +kernel
theorem dX7_state_186 : decode cX7_state 186 = .ok (.aload_n 0, 1) := by decide +kernel
theorem dX7_state_187 : decode cX7_state 187 = .ok (.iload_n 1, 1) := by decide +kernel
theorem dX7_state_188 : decode cX7_state 188 = .ok (.iload 11, 2) := by decide +kernel
theorem dX7_state_190 : decode cX7_state 190 = .ok (.ifCond .ne 7, 3) := by decide +kernel
theorem dX7_state_193 : decode cX7_state 193 = .ok (.iload_n 2, 1) := by decide +kernel
theorem dX7_state_194 : decode cX7_state 194 = .ok (.goto 6, 3) := by decide +kernel
theorem dX7_state_197 : decode cX7_state 197 = .ok (.iload_n 2, 1) := by decide +kernel
theorem dX7_state_198 : decode cX7_state 198 = .ok (.iconst 1, 1) := by decide +kernel
theorem dX7_state_199 : decode cX7_state 199 = .ok (.isub, 1) := by decide +kernel
theorem dX7_state_200 : decode cX7_state 200 = .ok (.iload_n 3, 1) := by decide +kernel
theorem dX7_state_201 : decode cX7_state 201 = .ok (.invokevirtual 180, 3) := by decide +kernel
theorem dX7_state_204 : decode cX7_state 204 = .ok (.iadd, 1) := by decide +kernel
theorem dX7_state_205 : decode cX7_state 205 = .ok (.iastore, 1) := by decide +kernel
theorem dX7_state_206 : decode cX7_state 206 = .ok (.return_, 1) := by decide +kernel
set_option maxRecDepth 20000 in
theorem ggX7_best_X7_next : GoodIn wsX7_best wsX7_next := goodIn_r _ [7, 8, 9, 10, 11, 12, 6, 13, 14, 15, 16, 17, 18, 19, 20, 21, 22, 23, 24, 25, 26, 27, 28, 29, 30, 31, 32, 33, 34, 35, 36, 37, 38, 39, 40, 41, 42, 43, 44, 45, 46, 47, 48] (by decide +kernel) (by decide +kernel)
set_option maxRecDepth 20000 in
theorem gX7_best_X7_next : GoodIn wsX7_best (wsV RX7 173 RX7 yX7_next wsX7_next) := goodIn_app (goodIn_of _ (by decide +kernel)) ggX7_best_X7_next
theorem dX7_best_0 : decode cX7_best 0 = .ok (.aload_n 0, 1) := by decide +kernel
theorem dX7_best_1 : decode cX7_best 1 = .ok (.getfield 90, 3) := by decide +kernel
theorem dX7_best_4 : decode cX7_best 4 = .ok (.iload_n 3, 1) := by decide +kernel
theorem dX7_best_5 : decode cX7_best 5 = .ok (.iaload, 1) := by decide +kernel
theorem dX7_best_6 : decode cX7_best 6 = .ok (.i2l, 1) := by decide +kernel
theorem dX7_best_7 : decode cX7_best 7 = .ok (.lload 4, 2) := by decide +kernel
theorem dX7_best_9 : decode cX7_best 9 = .ok (.lmul, 1) := by decide +kernel
theorem dX7_best_10 : decode cX7_best 10 = .ok (.lload 6, 2) := by decide +kernel
theorem dX7_best_12 : decode cX7_best 12 = .ok (.ladd, 1) := by decide +kernel
theorem dX7_best_13 : decode cX7_best 13 = .ok (.lstore 8, 2) := by decide +kernel
theorem dX7_best_15 : decode cX7_best 15 = .ok (.aload_n 0, 1) := by decide +kernel
theorem dX7_best_16 : decode cX7_best 16 = .ok (.getfield 7, 3) := by decide +kernel
theorem dX7_best_19 : decode cX7_best 19 = .ok (.i2l, 1) := by decide +kernel
theorem dX7_best_20 : decode cX7_best 20 = .ok (.lload 4, 2) := by decide +kernel
theorem dX7_best_22 : decode cX7_best 22 = .ok (.lmul, 1) := by decide +kernel
theorem dX7_best_23 : decode cX7_best 23 = .ok (.lload 6, 2) := by decide +kernel
theorem dX7_best_25 : decode cX7_best 25 = .ok (.ladd, 1) := by decide +kernel
theorem dX7_best_26 : decode cX7_best 26 = .ok (.lstore 10, 2) := by decide +kernel
theorem dX7_best_28 : decode cX7_best 28 = .ok (.iload_n 2, 1) := by decide +kernel
theorem dX7_best_29 : decode cX7_best 29 = .ok (.iload_n 1, 1) := by decide +kernel
theorem dX7_best_30 : decode cX7_best 30 = .ok (.if_icmp .ge 31, 3) := by decide +kernel
theorem dX7_best_33 : decode cX7_best 33 = .ok (.aload_n 0, 1) := by decide +kernel
theorem dX7_best_34 : decode cX7_best 34 = .ok (.iload_n 1, 1) := by decide +kernel
theorem dX7_best_35 : decode cX7_best 35 = .ok (.iload_n 2, 1) := by decide +kernel
theorem dX7_best_36 : decode cX7_best 36 = .ok (.iload_n 3, 1) := by decide +kernel
theorem dX7_best_37 : decode cX7_best 37 = .ok (.invokevirtual 173, 3) := by decide +kernel
theorem dX7_best_40 : decode cX7_best 40 = .ok (.lload 8, 2) := by decide +kernel
theorem dX7_best_42 : decode cX7_best 42 = .ok (.lcmp, 1) := by decide +kernel
theorem dX7_best_43 : decode cX7_best 43 = .ok (.ifCond .gt 18, 3) := by decide +kernel
theorem dX7_best_46 : decode cX7_best 46 = .ok (.aload_n 0, 1) := by decide +kernel
theorem dX7_best_47 : decode cX7_best 47 = .ok (.iload_n 1, 1) := by decide +kernel
theorem dX7_best_48 : decode cX7_best 48 = .ok (.iload_n 2, 1) := by decide +kernel
theorem dX7_best_49 : decode cX7_best 49 = .ok (.iload_n 3, 1) := by decide +kernel
theorem dX7_best_50 : decode cX7_best 50 = .ok (.invokevirtual 173, 3) := by decide +kernel
theorem dX7_best_53 : decode cX7_best 53 = .ok (.lload 10, 2) := by decide +kernel
theorem dX7_best_55 : decode cX7_best 55 = .ok (.lcmp, 1) := by decide +kernel
theorem dX7_best_56 : decode cX7_best 56 = .ok (.ifCond .gt 5, 3) := by decide +kernel
theorem dX7_best_59 : decode cX7_best 59 = .ok (.iconst 0, 1) := by decide +kernel
theorem dX7_best_60 : decode cX7_best 60 = .ok (.ireturn, 1) := by decide +kernel
theorem dX7_best_61 : decode cX7_best 61 = .ok (.lload 8, 2) := by decide +kernel
theorem dX7_best_63 : decode cX7_best 63 = .ok (.lload 10, 2) := by decide +kernel
theorem dX7_best_65 : decode cX7_best 65 = .ok (.lcmp, 1) := by decide +kernel
theorem dX7_best_66 : decode cX7_best 66 = .ok (.ifCond .gt 7, 3) := by decide +kernel
theorem dX7_best_69 : decode cX7_best 69 = .ok (.iconst 1, 1) := by decide +kernel
theorem dX7_best_70 : decode cX7_best 70 = .ok (.goto 4, 3) := by decide +kernel
theorem dX7_best_73 : decode cX7_best 73 = .ok (.iconst 2, 1) := by decide +kernel
theorem dX7_best_74 : decode cX7_best 74 = .ok (.ireturn, 1) := by decide +kernel
set_option maxRecDepth 20000 in
theorem ggX7_table_X7_isState : GoodIn wsX7_table wsX7_isState := goodIn_r _ [7, 8, 9, 10, 6, 11, 43, 44, 45, 46, 47, 48, 49, 50, 51, 52, 53, 54, 55, 56, 57, 58, 59, 60, 61, 62, 63, 64, 65, 66, 67, 68, 69, 70, 71, 72, 73, 74, 75, 76, 77] (by decide +kernel) (by decide +kernel)
set_option maxRecDepth 20000 in
theorem gX7_table_X7_isState : GoodIn wsX7_table (wsV RX7 183 RX7 yX7_isState wsX7_isState) := goodIn_app (goodIn_of _ (by decide +kernel)) ggX7_table_X7_isState
set_option maxRecDepth 20000 in
theorem ggX7_table_X7_makes : GoodIn wsX7_table wsX7_makes := goodIn_r _ [15, 8, 16, 17, 6, 18, 19, 20, 21, 22, 2, 23, 24, 25, 26, 27, 28, 29, 30, 31, 32, 33, 34, 35, 36, 37, 38, 39, 40, 41, 42, 43, 44, 45, 46, 47, 48, 49, 50, 51, 52, 53, 54, 55, 56, 57, 58, 59, 60, 61, 62, 63, 64, 65, 66, 67, 68, 69, 70, 71, 72, 73, 74, 75, 76, 77] (by decide +kernel) (by decide +kernel)
set_option maxRecDepth 20000 in
theorem gX7_table_X7_makes : GoodIn wsX7_table (wsV RX7 186 RX7 yX7_makes wsX7_makes) := goodIn_app (goodIn_of _ (by decide +kernel)) ggX7_table_X7_makes
set_option maxRecDepth 20000 in
theorem ggX7_table_X7_at : GoodIn wsX7_table wsX7_at := goodIn_r _ [29] (by decide +kernel) (by decide +kernel)
set_option maxRecDepth 20000 in
theorem gX7_table_X7_at : GoodIn wsX7_table (va_wsS RX7 165 yX7_at wsX7_at) := goodIn_app (goodIn_of _ (by decide +kernel)) ggX7_table_X7_at
theorem dX7_table_0 : decode cX7_table 0 = .ok (.aload_n 0, 1) := by decide +kernel
theorem dX7_table_1 : decode cX7_table 1 = .ok (.iload_n 1, 1) := by decide +kernel
theorem dX7_table_2 : decode cX7_table 2 = .ok (.iload_n 2, 1) := by decide +kernel
theorem dX7_table_3 : decode cX7_table 3 = .ok (.iload_n 3, 1) := by decide +kernel
theorem dX7_table_4 : decode cX7_table 4 = .ok (.invokevirtual 183, 3) := by decide +kernel
theorem dX7_table_7 : decode cX7_table 7 = .ok (.ifCond .ne 7, 3) := by decide +kernel
theorem dX7_table_10 : decode cX7_table 10 = .ok (.ldc2_w 160, 3) := by decide +kernel
theorem dX7_table_13 : decode cX7_table 13 = .ok (.lreturn, 1) := by decide +kernel
theorem dX7_table_14 : decode cX7_table 14 = .ok (.aload_n 0, 1) := by decide +kernel
theorem dX7_table_15 : decode cX7_table 15 = .ok (.iload_n 1, 1) := by decide +kernel
theorem dX7_table_16 : decode cX7_table 16 = .ok (.iconst (-1), 1) := by decide +kernel
theorem dX7_table_17 : decode cX7_table 17 = .ok (.invokevirtual 186, 3) := by decide +kernel
theorem dX7_table_20 : decode cX7_table 20 = .ok (.aload_n 0, 1) := by decide +kernel
theorem dX7_table_21 : decode cX7_table 21 = .ok (.getfield 96, 3) := by decide +kernel
theorem dX7_table_24 : decode cX7_table 24 = .ok (.iload_n 1, 1) := by decide +kernel
theorem dX7_table_25 : decode cX7_table 25 = .ok (.iload_n 2, 1) := by decide +kernel
theorem dX7_table_26 : decode cX7_table 26 = .ok (.iload_n 3, 1) := by decide +kernel
theorem dX7_table_27 : decode cX7_table 27 = .ok (.invokestatic 165, 3) := by decide +kernel
theorem dX7_table_30 : decode cX7_table 30 = .ok (.laload, 1) := by decide +kernel
theorem dX7_table_31 : decode cX7_table 31 = .ok (.lreturn, 1) := by decide +kernel
set_option maxRecDepth 20000 in
theorem ggX7_rule_X7_isState : GoodIn wsX7_rule wsX7_isState := goodIn_r _ [6, 7, 8, 9, 5, 10, 42, 43, 44, 45, 46, 47, 48, 49, 50, 51, 52, 53, 54, 55, 56, 57, 58, 59, 60, 61, 62, 63, 64, 65, 66, 67, 68, 69, 70, 71, 72, 73, 74, 75, 76] (by decide +kernel) (by decide +kernel)
set_option maxRecDepth 20000 in
theorem gX7_rule_X7_isState : GoodIn wsX7_rule (wsV RX7 183 RX7 yX7_isState wsX7_isState) := goodIn_app (goodIn_of _ (by decide +kernel)) ggX7_rule_X7_isState
set_option maxRecDepth 20000 in
theorem ggX7_rule_X7_makes : GoodIn wsX7_rule wsX7_makes := goodIn_r _ [14, 7, 15, 16, 5, 17, 18, 19, 20, 21, 22, 1, 23, 24, 25, 26, 27, 28, 29, 30, 31, 32, 33, 34, 35, 36, 37, 38, 39, 40, 41, 42, 43, 44, 45, 46, 47, 48, 49, 50, 51, 52, 53, 54, 55, 56, 57, 58, 59, 60, 61, 62, 63, 64, 65, 66, 67, 68, 69, 70, 71, 72, 73, 74, 75, 76] (by decide +kernel) (by decide +kernel)
set_option maxRecDepth 20000 in
theorem gX7_rule_X7_makes : GoodIn wsX7_rule (wsV RX7 186 RX7 yX7_makes wsX7_makes) := goodIn_app (goodIn_of _ (by decide +kernel)) ggX7_rule_X7_makes
set_option maxRecDepth 20000 in
theorem ggX7_rule_X7_at : GoodIn wsX7_rule wsX7_at := goodIn_r _ [28] (by decide +kernel) (by decide +kernel)
set_option maxRecDepth 20000 in
theorem gX7_rule_X7_at : GoodIn wsX7_rule (va_wsS RX7 165 yX7_at wsX7_at) := goodIn_app (goodIn_of _ (by decide +kernel)) ggX7_rule_X7_at
theorem dX7_rule_0 : decode cX7_rule 0 = .ok (.aload_n 0, 1) := by decide +kernel
theorem dX7_rule_1 : decode cX7_rule 1 = .ok (.iload_n 1, 1) := by decide +kernel
theorem dX7_rule_2 : decode cX7_rule 2 = .ok (.iload_n 2, 1) := by decide +kernel
theorem dX7_rule_3 : decode cX7_rule 3 = .ok (.iload_n 3, 1) := by decide +kernel
theorem dX7_rule_4 : decode cX7_rule 4 = .ok (.invokevirtual 183, 3) := by decide +kernel
theorem dX7_rule_7 : decode cX7_rule 7 = .ok (.ifCond .ne 5, 3) := by decide +kernel
theorem dX7_rule_10 : decode cX7_rule 10 = .ok (.iconst (-1), 1) := by decide +kernel
theorem dX7_rule_11 : decode cX7_rule 11 = .ok (.ireturn, 1) := by decide +kernel
theorem dX7_rule_12 : decode cX7_rule 12 = .ok (.aload_n 0, 1) := by decide +kernel
theorem dX7_rule_13 : decode cX7_rule 13 = .ok (.iload_n 1, 1) := by decide +kernel
theorem dX7_rule_14 : decode cX7_rule 14 = .ok (.iconst (-1), 1) := by decide +kernel
theorem dX7_rule_15 : decode cX7_rule 15 = .ok (.invokevirtual 186, 3) := by decide +kernel
theorem dX7_rule_18 : decode cX7_rule 18 = .ok (.aload_n 0, 1) := by decide +kernel
theorem dX7_rule_19 : decode cX7_rule 19 = .ok (.getfield 100, 3) := by decide +kernel
theorem dX7_rule_22 : decode cX7_rule 22 = .ok (.iload_n 1, 1) := by decide +kernel
theorem dX7_rule_23 : decode cX7_rule 23 = .ok (.iload_n 2, 1) := by decide +kernel
theorem dX7_rule_24 : decode cX7_rule 24 = .ok (.iload_n 3, 1) := by decide +kernel
theorem dX7_rule_25 : decode cX7_rule 25 = .ok (.invokestatic 165, 3) := by decide +kernel
theorem dX7_rule_28 : decode cX7_rule 28 = .ok (.iaload, 1) := by decide +kernel
theorem dX7_rule_29 : decode cX7_rule 29 = .ok (.ireturn, 1) := by decide +kernel
set_option maxRecDepth 20000 in
theorem ggX7_worst_X7_isState : GoodIn wsX7_worst wsX7_isState := goodIn_r _ [6, 7, 8, 9, 5, 10, 42, 43, 44, 45, 46, 47, 48, 49, 50, 51, 52, 53, 54, 55, 56, 57, 58, 59, 60, 61, 62, 63, 64, 65, 66, 67, 68, 69, 70, 71, 72, 73, 74, 75, 76] (by decide +kernel) (by decide +kernel)
set_option maxRecDepth 20000 in
theorem gX7_worst_X7_isState : GoodIn wsX7_worst (wsV RX7 183 RX7 yX7_isState wsX7_isState) := goodIn_app (goodIn_of _ (by decide +kernel)) ggX7_worst_X7_isState
set_option maxRecDepth 20000 in
theorem ggX7_worst_X7_makes : GoodIn wsX7_worst wsX7_makes := goodIn_r _ [14, 7, 15, 16, 5, 17, 18, 19, 20, 21, 22, 23, 1, 24, 25, 26, 27, 28, 29, 30, 31, 32, 33, 34, 35, 36, 37, 38, 39, 40, 41, 42, 43, 44, 45, 46, 47, 48, 49, 50, 51, 52, 53, 54, 55, 56, 57, 58, 59, 60, 61, 62, 63, 64, 65, 66, 67, 68, 69, 70, 71, 72, 73, 74, 75, 76] (by decide +kernel) (by decide +kernel)
set_option maxRecDepth 20000 in
theorem gX7_worst_X7_makes : GoodIn wsX7_worst (wsV RX7 186 RX7 yX7_makes wsX7_makes) := goodIn_app (goodIn_of _ (by decide +kernel)) ggX7_worst_X7_makes
set_option maxRecDepth 20000 in
theorem ggX7_worst_X7_at : GoodIn wsX7_worst wsX7_at := goodIn_r _ [28] (by decide +kernel) (by decide +kernel)
set_option maxRecDepth 20000 in
theorem gX7_worst_X7_at : GoodIn wsX7_worst (va_wsS RX7 165 yX7_at wsX7_at) := goodIn_app (goodIn_of _ (by decide +kernel)) ggX7_worst_X7_at
theorem dX7_worst_0 : decode cX7_worst 0 = .ok (.aload_n 0, 1) := by decide +kernel
theorem dX7_worst_1 : decode cX7_worst 1 = .ok (.iload_n 1, 1) := by decide +kernel
theorem dX7_worst_2 : decode cX7_worst 2 = .ok (.iload_n 2, 1) := by decide +kernel
theorem dX7_worst_3 : decode cX7_worst 3 = .ok (.iload_n 3, 1) := by decide +kernel
theorem dX7_worst_4 : decode cX7_worst 4 = .ok (.invokevirtual 183, 3) := by decide +kernel
theorem dX7_worst_7 : decode cX7_worst 7 = .ok (.ifCond .ne 5, 3) := by decide +kernel
theorem dX7_worst_10 : decode cX7_worst 10 = .ok (.iconst (-1), 1) := by decide +kernel
theorem dX7_worst_11 : decode cX7_worst 11 = .ok (.ireturn, 1) := by decide +kernel
theorem dX7_worst_12 : decode cX7_worst 12 = .ok (.aload_n 0, 1) := by decide +kernel
theorem dX7_worst_13 : decode cX7_worst 13 = .ok (.iload_n 1, 1) := by decide +kernel
theorem dX7_worst_14 : decode cX7_worst 14 = .ok (.iconst (-1), 1) := by decide +kernel
theorem dX7_worst_15 : decode cX7_worst 15 = .ok (.invokevirtual 186, 3) := by decide +kernel
theorem dX7_worst_18 : decode cX7_worst 18 = .ok (.aload_n 0, 1) := by decide +kernel
theorem dX7_worst_19 : decode cX7_worst 19 = .ok (.getfield 103, 3) := by decide +kernel
theorem dX7_worst_22 : decode cX7_worst 22 = .ok (.iload_n 1, 1) := by decide +kernel
theorem dX7_worst_23 : decode cX7_worst 23 = .ok (.iload_n 2, 1) := by decide +kernel
theorem dX7_worst_24 : decode cX7_worst 24 = .ok (.iload_n 3, 1) := by decide +kernel
theorem dX7_worst_25 : decode cX7_worst 25 = .ok (.invokestatic 165, 3) := by decide +kernel
theorem dX7_worst_28 : decode cX7_worst 28 = .ok (.iaload, 1) := by decide +kernel
theorem dX7_worst_29 : decode cX7_worst 29 = .ok (.ireturn, 1) := by decide +kernel
set_option maxRecDepth 20000 in
theorem ggX7_capped_X7_isState : GoodIn wsX7_capped wsX7_isState := goodIn_r _ [7, 8, 9, 10, 6, 11, 43, 44, 45, 46, 47, 48, 49, 50, 51, 52, 53, 54, 55, 56, 57, 58, 59, 60, 61, 62, 63, 64, 65, 66, 67, 68, 69, 70, 71, 72, 73, 74, 75, 76, 77] (by decide +kernel) (by decide +kernel)
set_option maxRecDepth 20000 in
theorem gX7_capped_X7_isState : GoodIn wsX7_capped (wsV RX7 183 RX7 yX7_isState wsX7_isState) := goodIn_app (goodIn_of _ (by decide +kernel)) ggX7_capped_X7_isState
set_option maxRecDepth 20000 in
theorem ggX7_capped_X7_in : GoodIn wsX7_capped wsX7_in := goodIn_r _ [11] (by decide +kernel) (by decide +kernel)
set_option maxRecDepth 20000 in
theorem gX7_capped_X7_in : GoodIn wsX7_capped (va_wsS RX7 112 yX7_in wsX7_in) := goodIn_app (goodIn_of _ (by decide +kernel)) ggX7_capped_X7_in
set_option maxRecDepth 20000 in
theorem ggX7_capped_X7_makes : GoodIn wsX7_capped wsX7_makes := goodIn_r _ [15, 8, 16, 17, 6, 18, 19, 20, 21, 22, 2, 23, 24, 25, 26, 27, 28, 29, 30, 31, 32, 33, 34, 35, 36, 37, 38, 39, 40, 41, 42, 43, 44, 45, 46, 47, 48, 49, 50, 51, 52, 53, 54, 55, 56, 57, 58, 59, 60, 61, 62, 63, 64, 65, 66, 67, 68, 69, 70, 71, 72, 73, 74, 75, 76, 77] (by decide +kernel) (by decide +kernel)
set_option maxRecDepth 20000 in
theorem gX7_capped_X7_makes : GoodIn wsX7_capped (wsV RX7 186 RX7 yX7_makes wsX7_makes) := goodIn_app (goodIn_of _ (by decide +kernel)) ggX7_capped_X7_makes
set_option maxRecDepth 20000 in
theorem ggX7_capped_X7_at : GoodIn wsX7_capped wsX7_at := goodIn_r _ [29] (by decide +kernel) (by decide +kernel)
set_option maxRecDepth 20000 in
theorem gX7_capped_X7_at : GoodIn wsX7_capped (va_wsS RX7 165 yX7_at wsX7_at) := goodIn_app (goodIn_of _ (by decide +kernel)) ggX7_capped_X7_at
theorem dX7_capped_0 : decode cX7_capped 0 = .ok (.aload_n 0, 1) := by decide +kernel
theorem dX7_capped_1 : decode cX7_capped 1 = .ok (.iload_n 1, 1) := by decide +kernel
theorem dX7_capped_2 : decode cX7_capped 2 = .ok (.iload_n 2, 1) := by decide +kernel
theorem dX7_capped_3 : decode cX7_capped 3 = .ok (.iload_n 3, 1) := by decide +kernel
theorem dX7_capped_4 : decode cX7_capped 4 = .ok (.invokevirtual 183, 3) := by decide +kernel
theorem dX7_capped_7 : decode cX7_capped 7 = .ok (.ifCond .eq 15, 3) := by decide +kernel
theorem dX7_capped_10 : decode cX7_capped 10 = .ok (.iload 4, 2) := by decide +kernel
theorem dX7_capped_12 : decode cX7_capped 12 = .ok (.iconst 0, 1) := by decide +kernel
theorem dX7_capped_13 : decode cX7_capped 13 = .ok (.sipush 999, 3) := by decide +kernel
theorem dX7_capped_16 : decode cX7_capped 16 = .ok (.invokestatic 112, 3) := by decide +kernel
theorem dX7_capped_19 : decode cX7_capped 19 = .ok (.ifCond .ne 7, 3) := by decide +kernel
theorem dX7_capped_22 : decode cX7_capped 22 = .ok (.ldc2_w 160, 3) := by decide +kernel
theorem dX7_capped_25 : decode cX7_capped 25 = .ok (.lreturn, 1) := by decide +kernel
theorem dX7_capped_26 : decode cX7_capped 26 = .ok (.aload_n 0, 1) := by decide +kernel
theorem dX7_capped_27 : decode cX7_capped 27 = .ok (.iload_n 1, 1) := by decide +kernel
theorem dX7_capped_28 : decode cX7_capped 28 = .ok (.iload 4, 2) := by decide +kernel
theorem dX7_capped_30 : decode cX7_capped 30 = .ok (.invokevirtual 186, 3) := by decide +kernel
theorem dX7_capped_33 : decode cX7_capped 33 = .ok (.aload_n 0, 1) := by decide +kernel
theorem dX7_capped_34 : decode cX7_capped 34 = .ok (.getfield 96, 3) := by decide +kernel
theorem dX7_capped_37 : decode cX7_capped 37 = .ok (.iload_n 1, 1) := by decide +kernel
theorem dX7_capped_38 : decode cX7_capped 38 = .ok (.iload_n 2, 1) := by decide +kernel
theorem dX7_capped_39 : decode cX7_capped 39 = .ok (.iload_n 3, 1) := by decide +kernel
theorem dX7_capped_40 : decode cX7_capped 40 = .ok (.invokestatic 165, 3) := by decide +kernel
theorem dX7_capped_43 : decode cX7_capped 43 = .ok (.laload, 1) := by decide +kernel
theorem dX7_capped_44 : decode cX7_capped 44 = .ok (.lreturn, 1) := by decide +kernel
theorem dX7_priceAt_0 : decode cX7_priceAt 0 = .ok (.iload_n 1, 1) := by decide +kernel
theorem dX7_priceAt_1 : decode cX7_priceAt 1 = .ok (.iconst 3, 1) := by decide +kernel
theorem dX7_priceAt_2 : decode cX7_priceAt 2 = .ok (.if_icmp .ne 10, 3) := by decide +kernel
theorem dX7_priceAt_5 : decode cX7_priceAt 5 = .ok (.aload_n 0, 1) := by decide +kernel
theorem dX7_priceAt_6 : decode cX7_priceAt 6 = .ok (.getfield 7, 3) := by decide +kernel
theorem dX7_priceAt_9 : decode cX7_priceAt 9 = .ok (.goto 15, 3) := by decide +kernel
theorem dX7_priceAt_12 : decode cX7_priceAt 12 = .ok (.aload_n 0, 1) := by decide +kernel
theorem dX7_priceAt_13 : decode cX7_priceAt 13 = .ok (.getfield 13, 3) := by decide +kernel
theorem dX7_priceAt_16 : decode cX7_priceAt 16 = .ok (.sipush 200, 3) := by decide +kernel
theorem dX7_priceAt_19 : decode cX7_priceAt 19 = .ok (.iload_n 1, 1) := by decide +kernel
theorem dX7_priceAt_20 : decode cX7_priceAt 20 = .ok (.imul, 1) := by decide +kernel
theorem dX7_priceAt_21 : decode cX7_priceAt 21 = .ok (.iload_n 2, 1) := by decide +kernel
theorem dX7_priceAt_22 : decode cX7_priceAt 22 = .ok (.iadd, 1) := by decide +kernel
theorem dX7_priceAt_23 : decode cX7_priceAt 23 = .ok (.iaload, 1) := by decide +kernel
theorem dX7_priceAt_24 : decode cX7_priceAt 24 = .ok (.ireturn, 1) := by decide +kernel
set_option maxRecDepth 20000 in
theorem ggX7_cheapest_X7_priceAt : GoodIn wsX7_cheapest wsX7_priceAt := goodIn_r _ [10, 11, 12, 13, 14, 15, 16, 17, 18, 19, 20, 21, 22, 23, 24, 25, 26, 27, 28, 29, 30, 31, 32, 33, 34, 35, 36, 37, 38, 39, 40, 41, 42, 43, 44, 45, 46, 47] (by decide +kernel) (by decide +kernel)
set_option maxRecDepth 20000 in
theorem gX7_cheapest_X7_priceAt : GoodIn wsX7_cheapest (wsV RX7 189 RX7 yX7_priceAt wsX7_priceAt) := goodIn_app (goodIn_of _ (by decide +kernel)) ggX7_cheapest_X7_priceAt
theorem dX7_cheapest_0 : decode cX7_cheapest 0 = .ok (.aload_n 0, 1) := by decide +kernel
theorem dX7_cheapest_1 : decode cX7_cheapest 1 = .ok (.getfield 106, 3) := by decide +kernel
theorem dX7_cheapest_4 : decode cX7_cheapest 4 = .ok (.bipush 31, 2) := by decide +kernel
theorem dX7_cheapest_6 : decode cX7_cheapest 6 = .ok (.iload_n 2, 1) := by decide +kernel
theorem dX7_cheapest_7 : decode cX7_cheapest 7 = .ok (.iconst 1, 1) := by decide +kernel
theorem dX7_cheapest_8 : decode cX7_cheapest 8 = .ok (.iadd, 1) := by decide +kernel
theorem dX7_cheapest_9 : decode cX7_cheapest 9 = .ok (.imul, 1) := by decide +kernel
theorem dX7_cheapest_10 : decode cX7_cheapest 10 = .ok (.iload_n 3, 1) := by decide +kernel
theorem dX7_cheapest_11 : decode cX7_cheapest 11 = .ok (.iadd, 1) := by decide +kernel
theorem dX7_cheapest_12 : decode cX7_cheapest 12 = .ok (.iaload, 1) := by decide +kernel
theorem dX7_cheapest_13 : decode cX7_cheapest 13 = .ok (.istore 4, 2) := by decide +kernel
theorem dX7_cheapest_15 : decode cX7_cheapest 15 = .ok (.iconst 0, 1) := by decide +kernel
theorem dX7_cheapest_16 : decode cX7_cheapest 16 = .ok (.istore 5, 2) := by decide +kernel
theorem dX7_cheapest_18 : decode cX7_cheapest 18 = .ok (.iload 5, 2) := by decide +kernel
theorem dX7_cheapest_20 : decode cX7_cheapest 20 = .ok (.iconst 3, 1) := by decide +kernel
theorem dX7_cheapest_21 : decode cX7_cheapest 21 = .ok (.if_icmp .gt 255, 3) := by decide +kernel
theorem dX7_cheapest_24 : decode cX7_cheapest 24 = .ok (.iconst 0, 1) := by decide +kernel
theorem dX7_cheapest_25 : decode cX7_cheapest 25 = .ok (.istore 6, 2) := by decide +kernel
theorem dX7_cheapest_27 : decode cX7_cheapest 27 = .ok (.iload_n 3, 1) := by decide +kernel
theorem dX7_cheapest_28 : decode cX7_cheapest 28 = .ok (.ifCond .le 12, 3) := by decide +kernel
theorem dX7_cheapest_31 : decode cX7_cheapest 31 = .ok (.aload_n 0, 1) := by decide +kernel
theorem dX7_cheapest_32 : decode cX7_cheapest 32 = .ok (.getfield 35, 3) := by decide +kernel
theorem dX7_cheapest_35 : decode cX7_cheapest 35 = .ok (.iload_n 1, 1) := by decide +kernel
theorem dX7_cheapest_36 : decode cX7_cheapest 36 = .ok (.iaload, 1) := by decide +kernel
theorem dX7_cheapest_37 : decode cX7_cheapest 37 = .ok (.goto 4, 3) := by decide +kernel
theorem dX7_cheapest_40 : decode cX7_cheapest 40 = .ok (.iconst 0, 1) := by decide +kernel
theorem dX7_cheapest_41 : decode cX7_cheapest 41 = .ok (.istore 7, 2) := by decide +kernel
theorem dX7_cheapest_43 : decode cX7_cheapest 43 = .ok (.iconst 1, 1) := by decide +kernel
theorem dX7_cheapest_44 : decode cX7_cheapest 44 = .ok (.istore 8, 2) := by decide +kernel
theorem dX7_cheapest_46 : decode cX7_cheapest 46 = .ok (.iload_n 2, 1) := by decide +kernel
theorem dX7_cheapest_47 : decode cX7_cheapest 47 = .ok (.iload 8, 2) := by decide +kernel
theorem dX7_cheapest_49 : decode cX7_cheapest 49 = .ok (.iadd, 1) := by decide +kernel
theorem dX7_cheapest_50 : decode cX7_cheapest 50 = .ok (.aload_n 0, 1) := by decide +kernel
theorem dX7_cheapest_51 : decode cX7_cheapest 51 = .ok (.getfield 20, 3) := by decide +kernel
theorem dX7_cheapest_54 : decode cX7_cheapest 54 = .ok (.iload_n 1, 1) := by decide +kernel
theorem dX7_cheapest_55 : decode cX7_cheapest 55 = .ok (.iaload, 1) := by decide +kernel
theorem dX7_cheapest_56 : decode cX7_cheapest 56 = .ok (.if_icmp .gt 214, 3) := by decide +kernel
theorem dX7_cheapest_59 : decode cX7_cheapest 59 = .ok (.aload_n 0, 1) := by decide +kernel
theorem dX7_cheapest_60 : decode cX7_cheapest 60 = .ok (.iload 5, 2) := by decide +kernel
theorem dX7_cheapest_62 : decode cX7_cheapest 62 = .ok (.iload_n 2, 1) := by decide +kernel
theorem dX7_cheapest_63 : decode cX7_cheapest 63 = .ok (.iload 8, 2) := by decide +kernel
theorem dX7_cheapest_65 : decode cX7_cheapest 65 = .ok (.iadd, 1) := by decide +kernel
theorem dX7_cheapest_66 : decode cX7_cheapest 66 = .ok (.iconst 1, 1) := by decide +kernel
theorem dX7_cheapest_67 : decode cX7_cheapest 67 = .ok (.isub, 1) := by decide +kernel
theorem dX7_cheapest_68 : decode cX7_cheapest 68 = .ok (.invokevirtual 189, 3) := by decide +kernel
theorem dX7_cheapest_71 : decode cX7_cheapest 71 = .ok (.iconst (-1), 1) := by decide +kernel
theorem dX7_cheapest_72 : decode cX7_cheapest 72 = .ok (.if_icmp .eq 198, 3) := by decide +kernel
theorem dX7_cheapest_75 : decode cX7_cheapest 75 = .ok (.iload 6, 2) := by decide +kernel
theorem dX7_cheapest_77 : decode cX7_cheapest 77 = .ok (.aload_n 0, 1) := by decide +kernel
theorem dX7_cheapest_78 : decode cX7_cheapest 78 = .ok (.iload 5, 2) := by decide +kernel
theorem dX7_cheapest_80 : decode cX7_cheapest 80 = .ok (.iload_n 2, 1) := by decide +kernel
theorem dX7_cheapest_81 : decode cX7_cheapest 81 = .ok (.iload 8, 2) := by decide +kernel
theorem dX7_cheapest_83 : decode cX7_cheapest 83 = .ok (.iadd, 1) := by decide +kernel
theorem dX7_cheapest_84 : decode cX7_cheapest 84 = .ok (.iconst 1, 1) := by decide +kernel
theorem dX7_cheapest_85 : decode cX7_cheapest 85 = .ok (.isub, 1) := by decide +kernel
theorem dX7_cheapest_86 : decode cX7_cheapest 86 = .ok (.invokevirtual 189, 3) := by decide +kernel
theorem dX7_cheapest_89 : decode cX7_cheapest 89 = .ok (.iadd, 1) := by decide +kernel
theorem dX7_cheapest_90 : decode cX7_cheapest 90 = .ok (.istore 6, 2) := by decide +kernel
theorem dX7_cheapest_92 : decode cX7_cheapest 92 = .ok (.iload 6, 2) := by decide +kernel
theorem dX7_cheapest_94 : decode cX7_cheapest 94 = .ok (.iload 4, 2) := by decide +kernel
theorem dX7_cheapest_96 : decode cX7_cheapest 96 = .ok (.if_icmp .lt 6, 3) := by decide +kernel
theorem dX7_cheapest_99 : decode cX7_cheapest 99 = .ok (.goto 171, 3) := by decide +kernel
theorem dX7_cheapest_102 : decode cX7_cheapest 102 = .ok (.iload 8, 2) := by decide +kernel
theorem dX7_cheapest_104 : decode cX7_cheapest 104 = .ok (.iload 7, 2) := by decide +kernel
theorem dX7_cheapest_106 : decode cX7_cheapest 106 = .ok (.isub, 1) := by decide +kernel
theorem dX7_cheapest_107 : decode cX7_cheapest 107 = .ok (.aload_n 0, 1) := by decide +kernel
theorem dX7_cheapest_108 : decode cX7_cheapest 108 = .ok (.getfield 17, 3) := by decide +kernel
theorem dX7_cheapest_111 : decode cX7_cheapest 111 = .ok (.iload_n 1, 1) := by decide +kernel
theorem dX7_cheapest_112 : decode cX7_cheapest 112 = .ok (.iaload, 1) := by decide +kernel
theorem dX7_cheapest_113 : decode cX7_cheapest 113 = .ok (.iload_n 3, 1) := by decide +kernel
theorem dX7_cheapest_114 : decode cX7_cheapest 114 = .ok (.isub, 1) := by decide +kernel
theorem dX7_cheapest_115 : decode cX7_cheapest 115 = .ok (.if_icmp .ge 14, 3) := by decide +kernel
theorem dX7_cheapest_118 : decode cX7_cheapest 118 = .ok (.iload 8, 2) := by decide +kernel
theorem dX7_cheapest_120 : decode cX7_cheapest 120 = .ok (.aload_n 0, 1) := by decide +kernel
theorem dX7_cheapest_121 : decode cX7_cheapest 121 = .ok (.getfield 17, 3) := by decide +kernel
theorem dX7_cheapest_124 : decode cX7_cheapest 124 = .ok (.iload_n 1, 1) := by decide +kernel
theorem dX7_cheapest_125 : decode cX7_cheapest 125 = .ok (.iaload, 1) := by decide +kernel
theorem dX7_cheapest_126 : decode cX7_cheapest 126 = .ok (.if_icmp .lt 10, 3) := by decide +kernel
theorem dX7_cheapest_129 : decode cX7_cheapest 129 = .ok (.iload 6, 2) := by decide +kernel
theorem dX7_cheapest_131 : decode cX7_cheapest 131 = .ok (.istore 4, 2) := by decide +kernel
theorem dX7_cheapest_133 : decode cX7_cheapest 133 = .ok (.goto 137, 3) := by decide +kernel
theorem dX7_cheapest_136 : decode cX7_cheapest 136 = .ok (.iload_n 3, 1) := by decide +kernel
theorem dX7_cheapest_137 : decode cX7_cheapest 137 = .ok (.iload 8, 2) := by decide +kernel
theorem dX7_cheapest_139 : decode cX7_cheapest 139 = .ok (.iload 7, 2) := by decide +kernel
theorem dX7_cheapest_141 : decode cX7_cheapest 141 = .ok (.isub, 1) := by decide +kernel
theorem dX7_cheapest_142 : decode cX7_cheapest 142 = .ok (.aload_n 0, 1) := by decide +kernel
theorem dX7_cheapest_143 : decode cX7_cheapest 143 = .ok (.getfield 32, 3) := by decide +kernel
theorem dX7_cheapest_146 : decode cX7_cheapest 146 = .ok (.iload_n 1, 1) := by decide +kernel
theorem dX7_cheapest_147 : decode cX7_cheapest 147 = .ok (.iaload, 1) := by decide +kernel
theorem dX7_cheapest_148 : decode cX7_cheapest 148 = .ok (.isub, 1) := by decide +kernel
theorem dX7_cheapest_149 : decode cX7_cheapest 149 = .ok (.ifCond .le 18, 3) := by decide +kernel
theorem dX7_cheapest_152 : decode cX7_cheapest 152 = .ok (.iload 8, 2) := by decide +kernel
theorem dX7_cheapest_154 : decode cX7_cheapest 154 = .ok (.iload 7, 2) := by decide +kernel
theorem dX7_cheapest_156 : decode cX7_cheapest 156 = .ok (.isub, 1) := by decide +kernel
theorem dX7_cheapest_157 : decode cX7_cheapest 157 = .ok (.aload_n 0, 1) := by decide +kernel
theorem dX7_cheapest_158 : decode cX7_cheapest 158 = .ok (.getfield 32, 3) := by decide +kernel
theorem dX7_cheapest_161 : decode cX7_cheapest 161 = .ok (.iload_n 1, 1) := by decide +kernel
theorem dX7_cheapest_162 : decode cX7_cheapest 162 = .ok (.iaload, 1) := by decide +kernel
theorem dX7_cheapest_163 : decode cX7_cheapest 163 = .ok (.isub, 1) := by decide +kernel
theorem dX7_cheapest_164 : decode cX7_cheapest 164 = .ok (.goto 4, 3) := by decide +kernel
theorem dX7_cheapest_167 : decode cX7_cheapest 167 = .ok (.iconst 0, 1) := by decide +kernel
theorem dX7_cheapest_168 : decode cX7_cheapest 168 = .ok (.iadd, 1) := by decide +kernel
theorem dX7_cheapest_169 : decode cX7_cheapest 169 = .ok (.istore 9, 2) := by decide +kernel
theorem dX7_cheapest_171 : decode cX7_cheapest 171 = .ok (.iload 8, 2) := by decide +kernel
theorem dX7_cheapest_173 : decode cX7_cheapest 173 = .ok (.aload_n 0, 1) := by decide +kernel
theorem dX7_cheapest_174 : decode cX7_cheapest 174 = .ok (.getfield 32, 3) := by decide +kernel
theorem dX7_cheapest_177 : decode cX7_cheapest 177 = .ok (.iload_n 1, 1) := by decide +kernel
theorem dX7_cheapest_178 : decode cX7_cheapest 178 = .ok (.iaload, 1) := by decide +kernel
theorem dX7_cheapest_179 : decode cX7_cheapest 179 = .ok (.isub, 1) := by decide +kernel
theorem dX7_cheapest_180 : decode cX7_cheapest 180 = .ok (.istore 10, 2) := by decide +kernel
theorem dX7_cheapest_182 : decode cX7_cheapest 182 = .ok (.iload 9, 2) := by decide +kernel
theorem dX7_cheapest_184 : decode cX7_cheapest 184 = .ok (.iload 10, 2) := by decide +kernel
theorem dX7_cheapest_186 : decode cX7_cheapest 186 = .ok (.if_icmp .le 8, 3) := by decide +kernel
theorem dX7_cheapest_189 : decode cX7_cheapest 189 = .ok (.iload 9, 2) := by decide +kernel
theorem dX7_cheapest_191 : decode cX7_cheapest 191 = .ok (.goto 5, 3) := by decide +kernel
theorem dX7_cheapest_194 : decode cX7_cheapest 194 = .ok (.iload 10, 2) := by decide +kernel
theorem dX7_cheapest_196 : decode cX7_cheapest 196 = .ok (.istore 11, 2) := by decide +kernel
theorem dX7_cheapest_198 : decode cX7_cheapest 198 = .ok (.iload 11, 2) := by decide +kernel
theorem dX7_cheapest_200 : decode cX7_cheapest 200 = .ok (.aload_n 0, 1) := by decide +kernel
theorem dX7_cheapest_201 : decode cX7_cheapest 201 = .ok (.getfield 17, 3) := by decide +kernel
theorem dX7_cheapest_204 : decode cX7_cheapest 204 = .ok (.iload_n 1, 1) := by decide +kernel
theorem dX7_cheapest_205 : decode cX7_cheapest 205 = .ok (.iaload, 1) := by decide +kernel
theorem dX7_cheapest_206 : decode cX7_cheapest 206 = .ok (.if_icmp .le 11, 3) := by decide +kernel
theorem dX7_cheapest_209 : decode cX7_cheapest 209 = .ok (.aload_n 0, 1) := by decide +kernel
theorem dX7_cheapest_210 : decode cX7_cheapest 210 = .ok (.getfield 17, 3) := by decide +kernel
theorem dX7_cheapest_213 : decode cX7_cheapest 213 = .ok (.iload_n 1, 1) := by decide +kernel
theorem dX7_cheapest_214 : decode cX7_cheapest 214 = .ok (.iaload, 1) := by decide +kernel
theorem dX7_cheapest_215 : decode cX7_cheapest 215 = .ok (.istore 11, 2) := by decide +kernel
theorem dX7_cheapest_217 : decode cX7_cheapest 217 = .ok (.iload 11, 2) := by decide +kernel
theorem dX7_cheapest_219 : decode cX7_cheapest 219 = .ok (.aload_n 0, 1) := by decide +kernel
theorem dX7_cheapest_220 : decode cX7_cheapest 220 = .ok (.getfield 17, 3) := by decide +kernel
theorem dX7_cheapest_223 : decode cX7_cheapest 223 = .ok (.iload_n 1, 1) := by decide +kernel
theorem dX7_cheapest_224 : decode cX7_cheapest 224 = .ok (.iaload, 1) := by decide +kernel
theorem dX7_cheapest_225 : decode cX7_cheapest 225 = .ok (.if_icmp .lt 8, 3) := by decide +kernel
theorem dX7_cheapest_228 : decode cX7_cheapest 228 = .ok (.iload 6, 2) := by decide +kernel
theorem dX7_cheapest_230 : decode cX7_cheapest 230 = .ok (.goto 21, 3) := by decide +kernel
theorem dX7_cheapest_233 : decode cX7_cheapest 233 = .ok (.iload 6, 2) := by decide +kernel
theorem dX7_cheapest_235 : decode cX7_cheapest 235 = .ok (.aload_n 0, 1) := by decide +kernel
theorem dX7_cheapest_236 : decode cX7_cheapest 236 = .ok (.getfield 106, 3) := by decide +kernel
theorem dX7_cheapest_239 : decode cX7_cheapest 239 = .ok (.bipush 31, 2) := by decide +kernel
theorem dX7_cheapest_241 : decode cX7_cheapest 241 = .ok (.iload_n 2, 1) := by decide +kernel
theorem dX7_cheapest_242 : decode cX7_cheapest 242 = .ok (.iload 8, 2) := by decide +kernel
theorem dX7_cheapest_244 : decode cX7_cheapest 244 = .ok (.iadd, 1) := by decide +kernel
theorem dX7_cheapest_245 : decode cX7_cheapest 245 = .ok (.imul, 1) := by decide +kernel
theorem dX7_cheapest_246 : decode cX7_cheapest 246 = .ok (.iload 11, 2) := by decide +kernel
theorem dX7_cheapest_248 : decode cX7_cheapest 248 = .ok (.iadd, 1) := by decide +kernel
theorem dX7_cheapest_249 : decode cX7_cheapest 249 = .ok (.iaload, 1) := by decide +kernel
theorem dX7_cheapest_250 : decode cX7_cheapest 250 = .ok (.iadd, 1) := by decide +kernel
theorem dX7_cheapest_251 : decode cX7_cheapest 251 = .ok (.istore 12, 2) := by decide +kernel
theorem dX7_cheapest_253 : decode cX7_cheapest 253 = .ok (.iload 12, 2) := by decide +kernel
theorem dX7_cheapest_255 : decode cX7_cheapest 255 = .ok (.iload 4, 2) := by decide +kernel
theorem dX7_cheapest_257 : decode cX7_cheapest 257 = .ok (.if_icmp .ge 7, 3) := by decide +kernel
theorem dX7_cheapest_260 : decode cX7_cheapest 260 = .ok (.iload 12, 2) := by decide +kernel
theorem dX7_cheapest_262 : decode cX7_cheapest 262 = .ok (.istore 4, 2) := by decide +kernel
theorem dX7_cheapest_264 : decode cX7_cheapest 264 = .ok (.iinc 8 1, 3) := by decide +kernel
theorem dX7_cheapest_267 : decode cX7_cheapest 267 = .ok (.goto (-221), 3) := by decide +kernel
theorem dX7_cheapest_270 : decode cX7_cheapest 270 = .ok (.iinc 5 1, 3) := by decide +kernel
theorem dX7_cheapest_273 : decode cX7_cheapest 273 = .ok (.goto (-255), 3) := by decide +kernel
theorem dX7_cheapest_276 : decode cX7_cheapest 276 = .ok (.iload 4, 2) := by decide +kernel
theorem dX7_cheapest_278 : decode cX7_cheapest 278 = .ok (.ireturn, 1) := by decide +kernel
set_option maxRecDepth 20000 in
theorem ggX7_oracle_X7_isJob : GoodIn wsX7_oracle wsX7_isJob := goodIn_r _ [10, 11, 12, 13, 9, 14, 27, 28, 29, 30, 31, 32, 33, 34, 35, 36, 37, 38, 39, 40, 41, 42, 43, 44, 45, 46, 47, 48, 49, 50, 51, 52, 53, 54, 55, 56, 57, 58, 59, 60, 61] (by decide +kernel) (by decide +kernel)
set_option maxRecDepth 20000 in
theorem gX7_oracle_X7_isJob : GoodIn wsX7_oracle (wsV RX7 141 RX7 yX7_isJob wsX7_isJob) := goodIn_app (goodIn_of _ (by decide +kernel)) ggX7_oracle_X7_isJob
set_option maxRecDepth 20000 in
theorem ggX7_oracle_X7_cheapest : GoodIn wsX7_oracle wsX7_cheapest := goodIn_r _ [18, 1, 19, 2, 5, 20, 21, 22, 23, 9, 24, 25, 26, 27, 28, 29, 30, 31, 32, 33, 34, 35, 36, 37, 38, 39, 40, 41, 42, 43, 44, 45, 46, 47, 48, 49, 50, 51, 52, 53, 54, 55, 56, 57, 58, 59, 60, 61] (by decide +kernel) (by decide +kernel)
set_option maxRecDepth 20000 in
theorem gX7_oracle_X7_cheapest : GoodIn wsX7_oracle (wsV RX7 194 RX7 yX7_cheapest wsX7_cheapest) := goodIn_app (goodIn_of _ (by decide +kernel)) ggX7_oracle_X7_cheapest
theorem dX7_oracle_0 : decode cX7_oracle 0 = .ok (.aload_n 0, 1) := by decide +kernel
theorem dX7_oracle_1 : decode cX7_oracle 1 = .ok (.iload_n 1, 1) := by decide +kernel
theorem dX7_oracle_2 : decode cX7_oracle 2 = .ok (.invokevirtual 141, 3) := by decide +kernel
theorem dX7_oracle_5 : decode cX7_oracle 5 = .ok (.ifCond .ne 5, 3) := by decide +kernel
theorem dX7_oracle_8 : decode cX7_oracle 8 = .ok (.iconst (-1), 1) := by decide +kernel
theorem dX7_oracle_9 : decode cX7_oracle 9 = .ok (.ireturn, 1) := by decide +kernel
theorem dX7_oracle_10 : decode cX7_oracle 10 = .ok (.iconst 0, 1) := by decide +kernel
theorem dX7_oracle_11 : decode cX7_oracle 11 = .ok (.istore_n 2, 1) := by decide +kernel
theorem dX7_oracle_12 : decode cX7_oracle 12 = .ok (.iload_n 2, 1) := by decide +kernel
theorem dX7_oracle_13 : decode cX7_oracle 13 = .ok (.bipush 31, 2) := by decide +kernel
theorem dX7_oracle_15 : decode cX7_oracle 15 = .ok (.if_icmp .ge 27, 3) := by decide +kernel
theorem dX7_oracle_18 : decode cX7_oracle 18 = .ok (.aload_n 0, 1) := by decide +kernel
theorem dX7_oracle_19 : decode cX7_oracle 19 = .ok (.getfield 106, 3) := by decide +kernel
theorem dX7_oracle_22 : decode cX7_oracle 22 = .ok (.bipush 31, 2) := by decide +kernel
theorem dX7_oracle_24 : decode cX7_oracle 24 = .ok (.aload_n 0, 1) := by decide +kernel
theorem dX7_oracle_25 : decode cX7_oracle 25 = .ok (.getfield 20, 3) := by decide +kernel
theorem dX7_oracle_28 : decode cX7_oracle 28 = .ok (.iload_n 1, 1) := by decide +kernel
theorem dX7_oracle_29 : decode cX7_oracle 29 = .ok (.iaload, 1) := by decide +kernel
theorem dX7_oracle_30 : decode cX7_oracle 30 = .ok (.imul, 1) := by decide +kernel
theorem dX7_oracle_31 : decode cX7_oracle 31 = .ok (.iload_n 2, 1) := by decide +kernel
theorem dX7_oracle_32 : decode cX7_oracle 32 = .ok (.iadd, 1) := by decide +kernel
theorem dX7_oracle_33 : decode cX7_oracle 33 = .ok (.ldc 193, 2) := by decide +kernel
theorem dX7_oracle_35 : decode cX7_oracle 35 = .ok (.iastore, 1) := by decide +kernel
theorem dX7_oracle_36 : decode cX7_oracle 36 = .ok (.iinc 2 1, 3) := by decide +kernel
theorem dX7_oracle_39 : decode cX7_oracle 39 = .ok (.goto (-27), 3) := by decide +kernel
theorem dX7_oracle_42 : decode cX7_oracle 42 = .ok (.aload_n 0, 1) := by decide +kernel
theorem dX7_oracle_43 : decode cX7_oracle 43 = .ok (.getfield 20, 3) := by decide +kernel
theorem dX7_oracle_46 : decode cX7_oracle 46 = .ok (.iload_n 1, 1) := by decide +kernel
theorem dX7_oracle_47 : decode cX7_oracle 47 = .ok (.iaload, 1) := by decide +kernel
theorem dX7_oracle_48 : decode cX7_oracle 48 = .ok (.iconst 1, 1) := by decide +kernel
theorem dX7_oracle_49 : decode cX7_oracle 49 = .ok (.isub, 1) := by decide +kernel
theorem dX7_oracle_50 : decode cX7_oracle 50 = .ok (.istore_n 2, 1) := by decide +kernel
theorem dX7_oracle_51 : decode cX7_oracle 51 = .ok (.iload_n 2, 1) := by decide +kernel
theorem dX7_oracle_52 : decode cX7_oracle 52 = .ok (.aload_n 0, 1) := by decide +kernel
theorem dX7_oracle_53 : decode cX7_oracle 53 = .ok (.getfield 38, 3) := by decide +kernel
theorem dX7_oracle_56 : decode cX7_oracle 56 = .ok (.iload_n 1, 1) := by decide +kernel
theorem dX7_oracle_57 : decode cX7_oracle 57 = .ok (.iaload, 1) := by decide +kernel
theorem dX7_oracle_58 : decode cX7_oracle 58 = .ok (.if_icmp .lt 45, 3) := by decide +kernel
theorem dX7_oracle_61 : decode cX7_oracle 61 = .ok (.iconst 0, 1) := by decide +kernel
theorem dX7_oracle_62 : decode cX7_oracle 62 = .ok (.istore_n 3, 1) := by decide +kernel
theorem dX7_oracle_63 : decode cX7_oracle 63 = .ok (.iload_n 3, 1) := by decide +kernel
theorem dX7_oracle_64 : decode cX7_oracle 64 = .ok (.aload_n 0, 1) := by decide +kernel
theorem dX7_oracle_65 : decode cX7_oracle 65 = .ok (.getfield 17, 3) := by decide +kernel
theorem dX7_oracle_68 : decode cX7_oracle 68 = .ok (.iload_n 1, 1) := by decide +kernel
theorem dX7_oracle_69 : decode cX7_oracle 69 = .ok (.iaload, 1) := by decide +kernel
theorem dX7_oracle_70 : decode cX7_oracle 70 = .ok (.if_icmp .ge 27, 3) := by decide +kernel
theorem dX7_oracle_73 : decode cX7_oracle 73 = .ok (.aload_n 0, 1) := by decide +kernel
theorem dX7_oracle_74 : decode cX7_oracle 74 = .ok (.getfield 106, 3) := by decide +kernel
theorem dX7_oracle_77 : decode cX7_oracle 77 = .ok (.bipush 31, 2) := by decide +kernel
theorem dX7_oracle_79 : decode cX7_oracle 79 = .ok (.iload_n 2, 1) := by decide +kernel
theorem dX7_oracle_80 : decode cX7_oracle 80 = .ok (.imul, 1) := by decide +kernel
theorem dX7_oracle_81 : decode cX7_oracle 81 = .ok (.iload_n 3, 1) := by decide +kernel
theorem dX7_oracle_82 : decode cX7_oracle 82 = .ok (.iadd, 1) := by decide +kernel
theorem dX7_oracle_83 : decode cX7_oracle 83 = .ok (.aload_n 0, 1) := by decide +kernel
theorem dX7_oracle_84 : decode cX7_oracle 84 = .ok (.iload_n 1, 1) := by decide +kernel
theorem dX7_oracle_85 : decode cX7_oracle 85 = .ok (.iload_n 2, 1) := by decide +kernel
theorem dX7_oracle_86 : decode cX7_oracle 86 = .ok (.iload_n 3, 1) := by decide +kernel
theorem dX7_oracle_87 : decode cX7_oracle 87 = .ok (.invokevirtual 194, 3) := by decide +kernel
theorem dX7_oracle_90 : decode cX7_oracle 90 = .ok (.iastore, 1) := by decide +kernel
theorem dX7_oracle_91 : decode cX7_oracle 91 = .ok (.iinc 3 1, 3) := by decide +kernel
theorem dX7_oracle_94 : decode cX7_oracle 94 = .ok (.goto (-31), 3) := by decide +kernel
theorem dX7_oracle_97 : decode cX7_oracle 97 = .ok (.iinc 2 (-1), 3) := by decide +kernel
theorem dX7_oracle_100 : decode cX7_oracle 100 = .ok (.goto (-49), 3) := by decide +kernel
theorem dX7_oracle_103 : decode cX7_oracle 103 = .ok (.aload_n 0, 1) := by decide +kernel
theorem dX7_oracle_104 : decode cX7_oracle 104 = .ok (.getfield 106, 3) := by decide +kernel
theorem dX7_oracle_107 : decode cX7_oracle 107 = .ok (.bipush 31, 2) := by decide +kernel
theorem dX7_oracle_109 : decode cX7_oracle 109 = .ok (.aload_n 0, 1) := by decide +kernel
theorem dX7_oracle_110 : decode cX7_oracle 110 = .ok (.getfield 38, 3) := by decide +kernel
theorem dX7_oracle_113 : decode cX7_oracle 113 = .ok (.iload_n 1, 1) := by decide +kernel
theorem dX7_oracle_114 : decode cX7_oracle 114 = .ok (.iaload, 1) := by decide +kernel
theorem dX7_oracle_115 : decode cX7_oracle 115 = .ok (.imul, 1) := by decide +kernel
theorem dX7_oracle_116 : decode cX7_oracle 116 = .ok (.iaload, 1) := by decide +kernel
theorem dX7_oracle_117 : decode cX7_oracle 117 = .ok (.ireturn, 1) := by decide +kernel
theorem dX7_count_0 : decode cX7_count 0 = .ok (.iconst 0, 1) := by decide +kernel
theorem dX7_count_1 : decode cX7_count 1 = .ok (.istore_n 2, 1) := by decide +kernel
theorem dX7_count_2 : decode cX7_count 2 = .ok (.iload_n 1, 1) := by decide +kernel
theorem dX7_count_3 : decode cX7_count 3 = .ok (.tableswitch 120 0 5 #[37, 42, 47, 83, 110, 115], 37) := by decide +kernel
theorem dX7_count_40 : decode cX7_count 40 = .ok (.aload_n 0, 1) := by decide +kernel
theorem dX7_count_41 : decode cX7_count 41 = .ok (.getfield 116, 3) := by decide +kernel
theorem dX7_count_44 : decode cX7_count 44 = .ok (.ireturn, 1) := by decide +kernel
theorem dX7_count_45 : decode cX7_count 45 = .ok (.aload_n 0, 1) := by decide +kernel
theorem dX7_count_46 : decode cX7_count 46 = .ok (.getfield 109, 3) := by decide +kernel
theorem dX7_count_49 : decode cX7_count 49 = .ok (.ireturn, 1) := by decide +kernel
theorem dX7_count_50 : decode cX7_count 50 = .ok (.iconst 0, 1) := by decide +kernel
theorem dX7_count_51 : decode cX7_count 51 = .ok (.istore_n 3, 1) := by decide +kernel
theorem dX7_count_52 : decode cX7_count 52 = .ok (.iload_n 3, 1) := by decide +kernel
theorem dX7_count_53 : decode cX7_count 53 = .ok (.aload_n 0, 1) := by decide +kernel
theorem dX7_count_54 : decode cX7_count 54 = .ok (.getfield 109, 3) := by decide +kernel
theorem dX7_count_57 : decode cX7_count 57 = .ok (.if_icmp .ge 27, 3) := by decide +kernel
theorem dX7_count_60 : decode cX7_count 60 = .ok (.iload_n 2, 1) := by decide +kernel
theorem dX7_count_61 : decode cX7_count 61 = .ok (.aload_n 0, 1) := by decide +kernel
theorem dX7_count_62 : decode cX7_count 62 = .ok (.getfield 71, 3) := by decide +kernel
theorem dX7_count_65 : decode cX7_count 65 = .ok (.iload_n 3, 1) := by decide +kernel
theorem dX7_count_66 : decode cX7_count 66 = .ok (.iaload, 1) := by decide +kernel
theorem dX7_count_67 : decode cX7_count 67 = .ok (.iconst (-1), 1) := by decide +kernel
theorem dX7_count_68 : decode cX7_count 68 = .ok (.if_icmp .eq 7, 3) := by decide +kernel
theorem dX7_count_71 : decode cX7_count 71 = .ok (.iconst 1, 1) := by decide +kernel
theorem dX7_count_72 : decode cX7_count 72 = .ok (.goto 4, 3) := by decide +kernel
theorem dX7_count_75 : decode cX7_count 75 = .ok (.iconst 0, 1) := by decide +kernel
theorem dX7_count_76 : decode cX7_count 76 = .ok (.iadd, 1) := by decide +kernel
theorem dX7_count_77 : decode cX7_count 77 = .ok (.istore_n 2, 1) := by decide +kernel
theorem dX7_count_78 : decode cX7_count 78 = .ok (.iinc 3 1, 3) := by decide +kernel
theorem dX7_count_81 : decode cX7_count 81 = .ok (.goto (-29), 3) := by decide +kernel
theorem dX7_count_84 : decode cX7_count 84 = .ok (.iload_n 2, 1) := by decide +kernel
theorem dX7_count_85 : decode cX7_count 85 = .ok (.ireturn, 1) := by decide +kernel
theorem dX7_count_86 : decode cX7_count 86 = .ok (.iconst 0, 1) := by decide +kernel
theorem dX7_count_87 : decode cX7_count 87 = .ok (.istore_n 3, 1) := by decide +kernel
theorem dX7_count_88 : decode cX7_count 88 = .ok (.iload_n 3, 1) := by decide +kernel
theorem dX7_count_89 : decode cX7_count 89 = .ok (.aload_n 0, 1) := by decide +kernel
theorem dX7_count_90 : decode cX7_count 90 = .ok (.getfield 109, 3) := by decide +kernel
theorem dX7_count_93 : decode cX7_count 93 = .ok (.if_icmp .ge 18, 3) := by decide +kernel
theorem dX7_count_96 : decode cX7_count 96 = .ok (.iload_n 2, 1) := by decide +kernel
theorem dX7_count_97 : decode cX7_count 97 = .ok (.aload_n 0, 1) := by decide +kernel
theorem dX7_count_98 : decode cX7_count 98 = .ok (.getfield 62, 3) := by decide +kernel
theorem dX7_count_101 : decode cX7_count 101 = .ok (.iload_n 3, 1) := by decide +kernel
theorem dX7_count_102 : decode cX7_count 102 = .ok (.iaload, 1) := by decide +kernel
theorem dX7_count_103 : decode cX7_count 103 = .ok (.iadd, 1) := by decide +kernel
theorem dX7_count_104 : decode cX7_count 104 = .ok (.istore_n 2, 1) := by decide +kernel
theorem dX7_count_105 : decode cX7_count 105 = .ok (.iinc 3 1, 3) := by decide +kernel
theorem dX7_count_108 : decode cX7_count 108 = .ok (.goto (-20), 3) := by decide +kernel
theorem dX7_count_111 : decode cX7_count 111 = .ok (.iload_n 2, 1) := by decide +kernel
theorem dX7_count_112 : decode cX7_count 112 = .ok (.ireturn, 1) := by decide +kernel
theorem dX7_count_113 : decode cX7_count 113 = .ok (.aload_n 0, 1) := by decide +kernel
theorem dX7_count_114 : decode cX7_count 114 = .ok (.getfield 162, 3) := by decide +kernel
theorem dX7_count_117 : decode cX7_count 117 = .ok (.ireturn, 1) := by decide +kernel
theorem dX7_count_118 : decode cX7_count 118 = .ok (.aload_n 0, 1) := by decide +kernel
theorem dX7_count_119 : decode cX7_count 119 = .ok (.getfield 7, 3) := by decide +kernel
theorem dX7_count_122 : decode cX7_count 122 = .ok (.ireturn, 1) := by decide +kernel
theorem dX7_count_123 : decode cX7_count 123 = .ok (.iconst (-1), 1) := by decide +kernel
theorem dX7_count_124 : decode cX7_count 124 = .ok (.ireturn, 1) := by decide +kernel
theorem dJ9_max_7cf53_0 : decode cJ9_max_7cf53 0 = .ok (.iload_n 0, 1) := by decide +kernel
theorem dJ9_max_7cf53_1 : decode cJ9_max_7cf53 1 = .ok (.iload_n 1, 1) := by decide +kernel
theorem dJ9_max_7cf53_2 : decode cJ9_max_7cf53 2 = .ok (.if_icmp .lt 7, 3) := by decide +kernel
theorem dJ9_max_7cf53_5 : decode cJ9_max_7cf53 5 = .ok (.iload_n 0, 1) := by decide +kernel
theorem dJ9_max_7cf53_6 : decode cJ9_max_7cf53 6 = .ok (.goto 4, 3) := by decide +kernel
theorem dJ9_max_7cf53_9 : decode cJ9_max_7cf53 9 = .ok (.iload_n 1, 1) := by decide +kernel
theorem dJ9_max_7cf53_10 : decode cJ9_max_7cf53 10 = .ok (.ireturn, 1) := by decide +kernel
theorem dJ9_min_7cf53_0 : decode cJ9_min_7cf53 0 = .ok (.iload_n 0, 1) := by decide +kernel
theorem dJ9_min_7cf53_1 : decode cJ9_min_7cf53 1 = .ok (.iload_n 1, 1) := by decide +kernel
theorem dJ9_min_7cf53_2 : decode cJ9_min_7cf53 2 = .ok (.if_icmp .gt 7, 3) := by decide +kernel
theorem dJ9_min_7cf53_5 : decode cJ9_min_7cf53 5 = .ok (.iload_n 0, 1) := by decide +kernel
theorem dJ9_min_7cf53_6 : decode cJ9_min_7cf53 6 = .ok (.goto 4, 3) := by decide +kernel
theorem dJ9_min_7cf53_9 : decode cJ9_min_7cf53 9 = .ok (.iload_n 1, 1) := by decide +kernel
theorem dJ9_min_7cf53_10 : decode cJ9_min_7cf53 10 = .ok (.ireturn, 1) := by decide +kernel
theorem dJ7_fill_53178_0 : decode cJ7_fill_53178 0 = .ok (.iconst 0, 1) := by decide +kernel
theorem dJ7_fill_53178_1 : decode cJ7_fill_53178 1 = .ok (.istore_n 2, 1) := by decide +kernel
theorem dJ7_fill_53178_2 : decode cJ7_fill_53178 2 = .ok (.aload_n 0, 1) := by decide +kernel
theorem dJ7_fill_53178_3 : decode cJ7_fill_53178 3 = .ok (.arraylength, 1) := by decide +kernel
theorem dJ7_fill_53178_4 : decode cJ7_fill_53178 4 = .ok (.istore_n 3, 1) := by decide +kernel
theorem dJ7_fill_53178_5 : decode cJ7_fill_53178 5 = .ok (.iload_n 2, 1) := by decide +kernel
theorem dJ7_fill_53178_6 : decode cJ7_fill_53178 6 = .ok (.iload_n 3, 1) := by decide +kernel
theorem dJ7_fill_53178_7 : decode cJ7_fill_53178 7 = .ok (.if_icmp .ge 13, 3) := by decide +kernel
theorem dJ7_fill_53178_10 : decode cJ7_fill_53178 10 = .ok (.aload_n 0, 1) := by decide +kernel
theorem dJ7_fill_53178_11 : decode cJ7_fill_53178 11 = .ok (.iload_n 2, 1) := by decide +kernel
theorem dJ7_fill_53178_12 : decode cJ7_fill_53178 12 = .ok (.iload_n 1, 1) := by decide +kernel
theorem dJ7_fill_53178_13 : decode cJ7_fill_53178 13 = .ok (.iastore, 1) := by decide +kernel
theorem dJ7_fill_53178_14 : decode cJ7_fill_53178 14 = .ok (.iinc 2 1, 3) := by decide +kernel
theorem dJ7_fill_53178_17 : decode cJ7_fill_53178 17 = .ok (.goto (-12), 3) := by decide +kernel
theorem dJ7_fill_53178_20 : decode cJ7_fill_53178 20 = .ok (.return_, 1) := by decide +kernel
set_option maxRecDepth 20000 in
theorem ggL_law_X6_init : GoodIn wsL_law wsX6_init := goodIn_r _ [8, 9, 10, 11, 12, 13, 14, 15, 16, 17, 18, 19, 20, 21, 22, 23, 24, 25, 26, 27, 28, 29, 30, 31, 32, 33, 34, 35, 36, 37, 38, 39, 40, 41, 42, 43, 44, 45, 46, 47, 48, 49, 50, 51, 52, 53, 54, 637, 638, 596, 597, 598, 599, 600, 601, 639, 640, 641, 642, 643, 644, 645, 646, 647, 648, 649] (by decide +kernel) (by decide +kernel)
set_option maxRecDepth 20000 in
theorem gL_law_X6_init : GoodIn wsL_law (wsX6_init) := ggL_law_X6_init
set_option maxRecDepth 20000 in
theorem ggL_law_X7_init : GoodIn wsL_law wsX7_init := goodIn_r _ [57, 58, 10, 11, 59, 30, 60, 61, 62, 63, 64, 65, 66, 67, 68, 69, 70, 71, 72, 73, 74, 75, 76, 77, 78, 79, 80, 81, 82, 83, 84, 85, 86, 87, 44, 88, 89, 90, 91, 602, 603, 604, 605, 606, 607, 608, 609, 610, 611, 612, 613, 614, 615, 616, 617, 618, 619, 620, 621, 622, 623, 624, 625, 626, 627, 628, 629, 630, 631, 632, 633, 634, 635, 636] (by decide +kernel) (by decide +kernel)
set_option maxRecDepth 20000 in
theorem gL_law_X7_init : GoodIn wsL_law (wsX7_init) := ggL_law_X7_init
set_option maxRecDepth 20000 in
theorem ggL_law_X6_price : GoodIn wsL_law wsX6_price := goodIn_r _ [95, 96, 15, 97, 98, 2, 99, 100, 101, 102, 14, 103, 31, 104, 105, 106, 596, 597, 598, 599, 600, 601, 637, 638] (by decide +kernel) (by decide +kernel)
set_option maxRecDepth 20000 in
theorem gL_law_X6_price : GoodIn wsL_law (wsV RL 13 RX6 yX6_price wsX6_price) := goodIn_app (goodIn_of _ (by decide +kernel)) ggL_law_X6_price
set_option maxRecDepth 20000 in
theorem ggL_law_X7_price : GoodIn wsL_law wsX7_price := goodIn_r _ [110, 111, 60, 112, 113, 5, 114, 602, 603, 604, 605, 606, 607, 608, 609, 610, 611, 612, 613, 614, 615, 616, 617, 618, 619, 620, 621, 622, 623, 624, 625, 626, 627, 628, 629, 630, 631, 632, 633, 634, 635, 636] (by decide +kernel) (by decide +kernel)
set_option maxRecDepth 20000 in
theorem gL_law_X7_price : GoodIn wsL_law (wsV RL 17 RX7 yX7_price wsX7_price) := goodIn_app (goodIn_of _ (by decide +kernel)) ggL_law_X7_price
set_option maxRecDepth 20000 in
theorem ggL_law_X6_full : GoodIn wsL_law wsX6_full := goodIn_r _ [118, 96, 119, 15, 120, 21, 97, 98, 2, 99, 121, 122, 123, 20, 124, 125, 596, 597, 598, 599, 600, 601, 637, 638, 639, 640, 641, 642, 643, 644, 645, 646, 647] (by decide +kernel) (by decide +kernel)
set_option maxRecDepth 20000 in
theorem gL_law_X6_full : GoodIn wsL_law (wsV RL 18 RX6 yX6_full wsX6_full) := goodIn_app (goodIn_of _ (by decide +kernel)) ggL_law_X6_full
set_option maxRecDepth 20000 in
theorem ggL_law_X7_full : GoodIn wsL_law wsX7_full := goodIn_r _ [129, 111, 130, 59, 112, 113, 5, 114, 602, 603, 604, 605, 606, 607, 608, 609, 610, 611, 612, 613, 614, 615, 616, 617, 618, 619, 620, 621, 622, 623, 624, 625, 626, 627, 628, 629, 630, 631, 632, 633, 634, 635, 636] (by decide +kernel) (by decide +kernel)
set_option maxRecDepth 20000 in
theorem gL_law_X7_full : GoodIn wsL_law (wsV RL 22 RX7 yX7_full wsX7_full) := goodIn_app (goodIn_of _ (by decide +kernel)) ggL_law_X7_full
set_option maxRecDepth 20000 in
theorem ggL_law_X6_job : GoodIn wsL_law wsX6_job := goodIn_r _ [134, 119, 17, 135, 136, 137, 96, 16, 138, 139, 97, 98, 2, 99, 140, 141, 142, 143, 10, 11, 144, 145, 146, 147, 148, 149, 150, 151, 152, 153, 154, 155, 156, 157, 158, 159, 160, 161, 162, 163, 596, 597, 598, 599, 600, 601, 650, 651, 652, 653, 654, 655, 656, 657, 658, 659, 660, 661, 662, 663, 664, 665, 666, 667, 668, 669, 670, 671, 672, 673] (by decide +kernel) (by decide +kernel)
set_option maxRecDepth 20000 in
theorem gL_law_X6_job : GoodIn wsL_law (wsV RL 23 RX6 yX6_job wsX6_job) := goodIn_app (goodIn_of _ (by decide +kernel)) ggL_law_X6_job
set_option maxRecDepth 20000 in
theorem ggL_law_X7_job : GoodIn wsL_law wsX7_job := goodIn_r _ [167, 168, 111, 130, 61, 62, 63, 66, 67, 64, 65, 68, 79, 112, 113, 5, 114, 602, 603, 604, 605, 606, 607, 608, 609, 610, 611, 612, 613, 614, 615, 616, 617, 618, 619, 620, 621, 622, 623, 624, 625, 626, 627, 628, 629, 630, 631, 632, 633, 634, 635, 636] (by decide +kernel) (by decide +kernel)
set_option maxRecDepth 20000 in
theorem gL_law_X7_job : GoodIn wsL_law (wsV RL 27 RX7 yX7_job wsX7_job) := goodIn_app (goodIn_of _ (by decide +kernel)) ggL_law_X7_job
set_option maxRecDepth 20000 in
theorem ggL_law_X6_go : GoodIn wsL_law wsX6_go := goodIn_r _ [172, 96, 173, 174, 175, 176, 97, 98, 2, 99, 177, 178, 179, 180, 119, 15, 181, 182, 183, 184, 17, 185, 186, 187, 139, 188, 189, 161, 190, 191, 192, 193, 194, 195, 163, 162, 196, 197, 198, 199, 200, 201, 202, 203, 204, 205, 206, 207, 14, 208, 32, 31, 104, 105, 106, 209, 210, 211, 212, 213, 214, 215, 216, 217, 218, 219, 220, 221, 222, 223, 224, 225, 226, 227, 228, 229, 230, 231, 232, 233, 234, 235, 236, 237, 238, 239, 240, 241, 242, 243, 244, 245, 246, 247, 248, 249, 250, 251, 252, 253, 254, 255, 256, 257, 596, 597, 598, 599, 600, 601, 658, 659, 660, 661, 662, 663, 664, 665, 666, 667, 668, 669, 670, 671, 672, 673, 650, 651, 652, 653, 654, 655, 656, 657, 637, 638] (by decide +kernel) (by decide +kernel)
set_option maxRecDepth 20000 in
theorem gL_law_X6_go : GoodIn wsL_law (wsV RL 28 RX6 yX6_go wsX6_go) := goodIn_app (goodIn_of _ (by decide +kernel)) ggL_law_X6_go
set_option maxRecDepth 20000 in
theorem ggL_law_X7_go : GoodIn wsL_law wsX7_go := goodIn_r _ [261, 111, 130, 79, 112, 113, 5, 114, 262, 263, 264, 265, 85, 62, 60, 63, 64, 78, 80, 75, 69, 61, 266, 267, 268, 269, 67, 270, 271, 272, 273, 81, 71, 76, 59, 77, 73, 72, 274, 275, 276, 277, 70, 82, 83, 278, 279, 280, 281, 74, 65, 66, 282, 283, 284, 285, 602, 603, 604, 605, 606, 607, 608, 609, 610, 611, 612, 613, 614, 615, 616, 617, 618, 619, 620, 621, 622, 623, 624, 625, 626, 627, 628, 629, 630, 631, 632, 633, 634, 635, 636] (by decide +kernel) (by decide +kernel)
set_option maxRecDepth 20000 in
theorem gL_law_X7_go : GoodIn wsL_law (wsV RL 32 RX7 yX7_go wsX7_go) := goodIn_app (goodIn_of _ (by decide +kernel)) ggL_law_X7_go
set_option maxRecDepth 20000 in
theorem ggL_law_X6_told : GoodIn wsL_law wsX6_told := goodIn_r _ [289, 181, 182, 183, 2, 184, 17, 97, 98, 99, 290, 291, 292, 139, 293, 194, 226, 221, 216, 232, 247, 238, 213, 214, 162, 163, 237, 200, 201, 202, 203, 161, 204, 195, 596, 597, 598, 599, 600, 601, 658, 659, 660, 661, 662, 663, 664, 665, 666, 667, 668, 669, 670, 671, 672, 673, 650, 651, 652, 653, 654, 655, 656, 657] (by decide +kernel) (by decide +kernel)
set_option maxRecDepth 20000 in
theorem gL_law_X6_told : GoodIn wsL_law (wsV RL 33 RX6 yX6_told wsX6_told) := goodIn_app (goodIn_of _ (by decide +kernel)) ggL_law_X6_told
set_option maxRecDepth 20000 in
theorem ggL_law_X7_told : GoodIn wsL_law wsX7_told := goodIn_r _ [297, 69, 70, 71, 72, 73, 74, 75, 76, 77, 78, 79, 80, 298, 299, 300, 5, 301, 130, 112, 113, 114, 266, 267, 268, 269, 67, 61, 602, 603, 604, 605, 606, 607, 608, 609, 610, 611, 612, 613, 614, 615, 616, 617, 618, 619, 620, 621, 622, 623, 624, 625, 626, 627, 628, 629, 630, 631, 632, 633, 634, 635, 636] (by decide +kernel) (by decide +kernel)
set_option maxRecDepth 20000 in
theorem gL_law_X7_told : GoodIn wsL_law (wsV RL 37 RX7 yX7_told wsX7_told) := goodIn_app (goodIn_of _ (by decide +kernel)) ggL_law_X7_told
set_option maxRecDepth 20000 in
theorem ggL_law_X6_span : GoodIn wsL_law wsX6_span := goodIn_r _ [305, 306, 307, 308, 309, 98, 2, 99, 310, 311, 312, 313, 314, 315, 316, 174, 175, 176, 317, 318, 319] (by decide +kernel) (by decide +kernel)
set_option maxRecDepth 20000 in
theorem gL_law_X6_span : GoodIn wsL_law (wsV RL 38 RX6 yX6_span wsX6_span) := goodIn_app (goodIn_of _ (by decide +kernel)) ggL_law_X6_span
set_option maxRecDepth 20000 in
theorem ggL_law_X7_span : GoodIn wsL_law wsX7_span := goodIn_r _ [323, 324, 325, 5, 326, 112, 113, 114, 327, 328, 329, 330, 331, 332, 333, 334, 335] (by decide +kernel) (by decide +kernel)
set_option maxRecDepth 20000 in
theorem gL_law_X7_span : GoodIn wsL_law (wsV RL 41 RX7 yX7_span wsX7_span) := goodIn_app (goodIn_of _ (by decide +kernel)) ggL_law_X7_span
set_option maxRecDepth 20000 in
theorem ggL_law_X6_mean : GoodIn wsL_law wsX6_mean := goodIn_r _ [339, 340, 306, 307, 308, 309, 98, 2, 99, 97, 341, 318, 319, 342, 314, 315, 316, 174, 175, 176, 317, 343, 344, 345] (by decide +kernel) (by decide +kernel)
set_option maxRecDepth 20000 in
theorem gL_law_X6_mean : GoodIn wsL_law (wsV RL 42 RX6 yX6_mean wsX6_mean) := goodIn_app (goodIn_of _ (by decide +kernel)) ggL_law_X6_mean
set_option maxRecDepth 20000 in
theorem ggL_law_X7_mean : GoodIn wsL_law wsX7_mean := goodIn_r _ [349, 350, 324, 325, 5, 326, 112, 113, 114, 327, 328, 329, 330, 331, 332, 333, 334, 335] (by decide +kernel) (by decide +kernel)
set_option maxRecDepth 20000 in
theorem gL_law_X7_mean : GoodIn wsL_law (wsV RL 46 RX7 yX7_mean wsX7_mean) := goodIn_app (goodIn_of _ (by decide +kernel)) ggL_law_X7_mean
set_option maxRecDepth 20000 in
theorem ggL_law_X6_levels : GoodIn wsL_law wsX6_levels := goodIn_r _ [354, 21, 97, 98, 2, 99, 355, 356, 357, 20, 358, 359, 360, 361, 362, 363, 42, 43, 125, 596, 597, 598, 599, 600, 601, 639, 640, 641, 642, 643, 644, 645, 646, 647] (by decide +kernel) (by decide +kernel)
set_option maxRecDepth 20000 in
theorem gL_law_X6_levels : GoodIn wsL_law (wsV RL 47 RX6 yX6_levels wsX6_levels) := goodIn_app (goodIn_of _ (by decide +kernel)) ggL_law_X6_levels
set_option maxRecDepth 20000 in
theorem ggL_law_X7_levels : GoodIn wsL_law wsX7_levels := goodIn_r _ [367, 368, 87, 86, 112, 113, 5, 114, 602, 603, 604, 605, 606, 607, 608, 609, 610, 611, 612, 613, 614, 615, 616, 617, 618, 619, 620, 621, 622, 623, 624, 625, 626, 627, 628, 629, 630, 631, 632, 633, 634, 635, 636] (by decide +kernel) (by decide +kernel)
set_option maxRecDepth 20000 in
theorem gL_law_X7_levels : GoodIn wsL_law (wsV RL 50 RX7 yX7_levels wsX7_levels) := goodIn_app (goodIn_of _ (by decide +kernel)) ggL_law_X7_levels
set_option maxRecDepth 20000 in
theorem ggL_law_X6_level : GoodIn wsL_law wsX6_level := goodIn_r _ [372, 21, 373, 374, 375, 20, 376, 359, 98, 2, 99, 97, 377, 378, 379, 380, 381, 361, 362, 363, 42, 43, 125, 596, 597, 598, 599, 600, 601, 639, 640, 641, 642, 643, 644, 645, 646, 647] (by decide +kernel) (by decide +kernel)
set_option maxRecDepth 20000 in
theorem gL_law_X6_level : GoodIn wsL_law (wsV RL 51 RX6 yX6_level wsX6_level) := goodIn_app (goodIn_of _ (by decide +kernel)) ggL_law_X6_level
set_option maxRecDepth 20000 in
theorem ggL_law_X7_level : GoodIn wsL_law wsX7_level := goodIn_r _ [385, 368, 87, 86, 112, 113, 5, 114, 602, 603, 604, 605, 606, 607, 608, 609, 610, 611, 612, 613, 614, 615, 616, 617, 618, 619, 620, 621, 622, 623, 624, 625, 626, 627, 628, 629, 630, 631, 632, 633, 634, 635, 636] (by decide +kernel) (by decide +kernel)
set_option maxRecDepth 20000 in
theorem gL_law_X7_level : GoodIn wsL_law (wsV RL 55 RX7 yX7_level wsX7_level) := goodIn_app (goodIn_of _ (by decide +kernel)) ggL_law_X7_level
set_option maxRecDepth 20000 in
theorem ggL_law_X6_table : GoodIn wsL_law wsX6_table := goodIn_r _ [389, 21, 340, 390, 391, 392, 20, 393, 98, 2, 99, 394, 374, 375, 376, 359, 395, 396, 397, 398, 45, 399, 400, 401, 402, 125, 403, 404, 405, 406, 46, 41, 407, 408, 409, 410, 411, 318, 308, 319, 412, 413, 414, 415, 416, 417, 418, 419, 43, 420, 421, 422, 423, 424, 425, 426, 42, 427, 428, 429, 430, 47, 431, 432, 433, 434, 435, 436, 175, 437, 438, 439, 440, 596, 597, 598, 599, 600, 601, 639, 640, 641, 642, 643, 644, 645, 646, 647, 637, 638] (by decide +kernel) (by decide +kernel)
set_option maxRecDepth 20000 in
theorem gL_law_X6_table : GoodIn wsL_law (wsV RL 56 RX6 yX6_table wsX6_table) := goodIn_app (goodIn_of _ (by decide +kernel)) ggL_law_X6_table
set_option maxRecDepth 20000 in
theorem ggL_law_X7_table : GoodIn wsL_law wsX7_table := goodIn_r _ [444, 350, 88, 445, 446, 447, 5, 448, 368, 112, 113, 114, 449, 450, 451, 452, 333, 334, 335, 453, 454, 455, 456, 89, 90, 86, 59, 457, 458, 459, 460, 461, 462, 463, 87, 464, 465, 466, 467, 468, 469, 470, 471, 602, 603, 604, 605, 606, 607, 608, 609, 610, 611, 612, 613, 614, 615, 616, 617, 618, 619, 620, 621, 622, 623, 624, 625, 626, 627, 628, 629, 630, 631, 632, 633, 634, 635, 636] (by decide +kernel) (by decide +kernel)
set_option maxRecDepth 20000 in
theorem gL_law_X7_table : GoodIn wsL_law (wsV RL 60 RX7 yX7_table wsX7_table) := goodIn_app (goodIn_of _ (by decide +kernel)) ggL_law_X7_table
set_option maxRecDepth 20000 in
theorem ggL_law_X6_rule : GoodIn wsL_law wsX6_rule := goodIn_r _ [475, 21, 390, 391, 392, 20, 393, 98, 2, 99, 394, 374, 375, 376, 359, 476, 477, 478, 479, 46, 399, 400, 401, 402, 125, 403, 404, 405, 406, 45, 41, 407, 408, 409, 410, 411, 318, 308, 319, 412, 413, 414, 415, 416, 417, 418, 419, 43, 420, 421, 422, 423, 424, 425, 426, 42, 427, 428, 429, 430, 47, 431, 432, 433, 434, 435, 436, 175, 437, 438, 439, 440, 596, 597, 598, 599, 600, 601, 639, 640, 641, 642, 643, 644, 645, 646, 647, 637, 638] (by decide +kernel) (by decide +kernel)
set_option maxRecDepth 20000 in
theorem gL_law_X6_rule : GoodIn wsL_law (wsV RL 61 RX6 yX6_rule wsX6_rule) := goodIn_app (goodIn_of _ (by decide +kernel)) ggL_law_X6_rule
set_option maxRecDepth 20000 in
theorem ggL_law_X7_rule : GoodIn wsL_law wsX7_rule := goodIn_r _ [483, 89, 445, 446, 447, 5, 448, 368, 112, 113, 114, 449, 450, 451, 452, 333, 334, 335, 453, 454, 455, 456, 88, 90, 86, 59, 457, 458, 459, 460, 461, 462, 463, 87, 464, 465, 466, 467, 468, 469, 470, 471, 602, 603, 604, 605, 606, 607, 608, 609, 610, 611, 612, 613, 614, 615, 616, 617, 618, 619, 620, 621, 622, 623, 624, 625, 626, 627, 628, 629, 630, 631, 632, 633, 634, 635, 636] (by decide +kernel) (by decide +kernel)
set_option maxRecDepth 20000 in
theorem gL_law_X7_rule : GoodIn wsL_law (wsV RL 64 RX7 yX7_rule wsX7_rule) := goodIn_app (goodIn_of _ (by decide +kernel)) ggL_law_X7_rule
set_option maxRecDepth 20000 in
theorem ggL_law_X6_worst : GoodIn wsL_law wsX6_worst := goodIn_r _ [487, 21, 390, 391, 392, 20, 393, 98, 2, 99, 394, 374, 375, 376, 359, 488, 489, 490, 491, 47, 399, 400, 401, 402, 125, 403, 404, 405, 406, 45, 46, 41, 407, 408, 409, 410, 411, 318, 308, 319, 412, 413, 414, 415, 416, 417, 418, 419, 43, 420, 421, 422, 423, 424, 425, 426, 42, 427, 428, 429, 430, 431, 432, 433, 434, 435, 436, 175, 437, 438, 439, 440, 596, 597, 598, 599, 600, 601, 639, 640, 641, 642, 643, 644, 645, 646, 647, 637, 638] (by decide +kernel) (by decide +kernel)
set_option maxRecDepth 20000 in
theorem gL_law_X6_worst : GoodIn wsL_law (wsV RL 65 RX6 yX6_worst wsX6_worst) := goodIn_app (goodIn_of _ (by decide +kernel)) ggL_law_X6_worst
set_option maxRecDepth 20000 in
theorem ggL_law_X7_worst : GoodIn wsL_law wsX7_worst := goodIn_r _ [495, 90, 445, 446, 447, 5, 448, 368, 112, 113, 114, 449, 450, 451, 452, 333, 334, 335, 453, 454, 455, 456, 88, 89, 86, 59, 457, 458, 459, 460, 461, 462, 463, 87, 464, 465, 466, 467, 468, 469, 470, 471, 602, 603, 604, 605, 606, 607, 608, 609, 610, 611, 612, 613, 614, 615, 616, 617, 618, 619, 620, 621, 622, 623, 624, 625, 626, 627, 628, 629, 630, 631, 632, 633, 634, 635, 636] (by decide +kernel) (by decide +kernel)
set_option maxRecDepth 20000 in
theorem gL_law_X7_worst : GoodIn wsL_law (wsV RL 68 RX7 yX7_worst wsX7_worst) := goodIn_app (goodIn_of _ (by decide +kernel)) ggL_law_X7_worst
set_option maxRecDepth 20000 in
theorem ggL_law_X6_capped : GoodIn wsL_law wsX6_capped := goodIn_r _ [499, 21, 340, 390, 391, 392, 20, 393, 98, 2, 99, 394, 374, 375, 376, 359, 97, 500, 501, 502, 503, 504, 174, 175, 176, 48, 505, 506, 507, 508, 41, 407, 408, 409, 410, 423, 424, 425, 426, 42, 412, 413, 414, 415, 416, 417, 418, 419, 43, 420, 421, 422, 411, 318, 308, 319, 596, 597, 598, 599, 600, 601, 639, 640, 641, 642, 643, 644, 645, 646, 647, 637, 638] (by decide +kernel) (by decide +kernel)
set_option maxRecDepth 20000 in
theorem gL_law_X6_capped : GoodIn wsL_law (wsV RL 69 RX6 yX6_capped wsX6_capped) := goodIn_app (goodIn_of _ (by decide +kernel)) ggL_law_X6_capped
set_option maxRecDepth 20000 in
theorem ggL_law_X7_capped : GoodIn wsL_law wsX7_capped := goodIn_r _ [512, 350, 88, 445, 446, 447, 5, 448, 368, 112, 113, 114, 449, 450, 451, 452, 333, 334, 335, 453, 454, 455, 456, 89, 90, 86, 59, 457, 458, 459, 460, 461, 462, 463, 87, 464, 465, 466, 467, 468, 469, 470, 471, 602, 603, 604, 605, 606, 607, 608, 609, 610, 611, 612, 613, 614, 615, 616, 617, 618, 619, 620, 621, 622, 623, 624, 625, 626, 627, 628, 629, 630, 631, 632, 633, 634, 635, 636] (by decide +kernel) (by decide +kernel)
set_option maxRecDepth 20000 in
theorem gL_law_X7_capped : GoodIn wsL_law (wsV RL 73 RX7 yX7_capped wsX7_capped) := goodIn_app (goodIn_of _ (by decide +kernel)) ggL_law_X7_capped
set_option maxRecDepth 20000 in
theorem ggL_law_X6_oracle : GoodIn wsL_law wsX6_oracle := goodIn_r _ [516, 25, 517, 181, 182, 183, 2, 184, 17, 97, 98, 99, 518, 519, 520, 24, 521, 522, 523, 524, 525, 526, 527, 528, 529, 530, 531, 532, 533, 534, 174, 175, 176, 535, 536, 537, 538, 53, 539, 540, 206, 207, 14, 208, 32, 31, 104, 105, 106, 541, 542, 543, 544, 545, 546, 547, 548, 549, 550, 551, 54, 552, 553, 554, 555, 556, 557, 558, 559, 560, 561, 562, 563, 596, 597, 598, 599, 600, 601, 658, 659, 660, 661, 662, 663, 664, 665, 666, 667, 668, 669, 670, 671, 672, 673, 650, 651, 652, 653, 654, 655, 656, 657, 648, 649, 637, 638] (by decide +kernel) (by decide +kernel)
set_option maxRecDepth 20000 in
theorem gL_law_X6_oracle : GoodIn wsL_law (wsV RL 74 RX6 yX6_oracle wsX6_oracle) := goodIn_app (goodIn_of _ (by decide +kernel)) ggL_law_X6_oracle
set_option maxRecDepth 20000 in
theorem ggL_law_X7_oracle : GoodIn wsL_law wsX7_oracle := goodIn_r _ [567, 91, 62, 568, 68, 61, 298, 299, 300, 5, 301, 130, 112, 113, 114, 569, 570, 571, 572, 67, 66, 573, 574, 575, 576, 59, 60, 602, 603, 604, 605, 606, 607, 608, 609, 610, 611, 612, 613, 614, 615, 616, 617, 618, 619, 620, 621, 622, 623, 624, 625, 626, 627, 628, 629, 630, 631, 632, 633, 634, 635, 636] (by decide +kernel) (by decide +kernel)
set_option maxRecDepth 20000 in
theorem gL_law_X7_oracle : GoodIn wsL_law (wsV RL 77 RX7 yX7_oracle wsX7_oracle) := goodIn_app (goodIn_of _ (by decide +kernel)) ggL_law_X7_oracle
set_option maxRecDepth 20000 in
theorem ggL_law_X6_count : GoodIn wsL_law wsX6_count := goodIn_r _ [580, 96, 119, 21, 581, 15, 120, 582, 583, 584, 2, 585, 181, 182, 183, 184, 17, 97, 98, 99, 586, 197, 198, 139, 199, 163, 587, 588, 589, 590, 591, 596, 597, 598, 599, 600, 601, 639, 640, 641, 642, 643, 644, 645, 646, 647, 637, 638, 658, 659, 660, 661, 662, 663, 664, 665, 666, 667, 668, 669, 670, 671, 672, 673] (by decide +kernel) (by decide +kernel)
set_option maxRecDepth 20000 in
theorem gL_law_X6_count : GoodIn wsL_law (wsV RL 78 RX6 yX6_count wsX6_count) := goodIn_app (goodIn_of _ (by decide +kernel)) ggL_law_X6_count
set_option maxRecDepth 20000 in
theorem ggL_law_X7_count : GoodIn wsL_law wsX7_count := goodIn_r _ [595, 111, 130, 79, 76, 368, 59, 602, 603, 604, 605, 606, 607, 608, 609, 610, 611, 612, 613, 614, 615, 616, 617, 618, 619, 620, 621, 622, 623, 624, 625, 626, 627, 628, 629, 630, 631, 632, 633, 634, 635, 636] (by decide +kernel) (by decide +kernel)
set_option maxRecDepth 20000 in
theorem gL_law_X7_count : GoodIn wsL_law (wsV RL 81 RX7 yX7_count wsX7_count) := goodIn_app (goodIn_of _ (by decide +kernel)) ggL_law_X7_count
theorem dL_law_0 : decode cL_law 0 = .ok (.new 7, 3) := by decide +kernel
theorem dL_law_3 : decode cL_law 3 = .ok (.dup, 1) := by decide +kernel
theorem dL_law_4 : decode cL_law 4 = .ok (.invokespecial 9, 3) := by decide +kernel
theorem dL_law_7 : decode cL_law 7 = .ok (.astore_n 1, 1) := by decide +kernel
theorem dL_law_8 : decode cL_law 8 = .ok (.new 10, 3) := by decide +kernel
theorem dL_law_11 : decode cL_law 11 = .ok (.dup, 1) := by decide +kernel
theorem dL_law_12 : decode cL_law 12 = .ok (.invokespecial 12, 3) := by decide +kernel
theorem dL_law_15 : decode cL_law 15 = .ok (.astore_n 2, 1) := by decide +kernel
theorem dL_law_16 : decode cL_law 16 = .ok (.iconst 0, 1) := by decide +kernel
theorem dL_law_17 : decode cL_law 17 = .ok (.istore_n 3, 1) := by decide +kernel
theorem dL_law_18 : decode cL_law 18 = .ok (.iload_n 3, 1) := by decide +kernel
theorem dL_law_19 : decode cL_law 19 = .ok (.aload_n 0, 1) := by decide +kernel
theorem dL_law_20 : decode cL_law 20 = .ok (.arraylength, 1) := by decide +kernel
theorem dL_law_21 : decode cL_law 21 = .ok (.bipush 6, 2) := by decide +kernel
theorem dL_law_23 : decode cL_law 23 = .ok (.isub, 1) := by decide +kernel
theorem dL_law_24 : decode cL_law 24 = .ok (.if_icmp .gt 668, 3) := by decide +kernel
theorem dL_law_27 : decode cL_law 27 = .ok (.aload_n 0, 1) := by decide +kernel
theorem dL_law_28 : decode cL_law 28 = .ok (.iload_n 3, 1) := by decide +kernel
theorem dL_law_29 : decode cL_law 29 = .ok (.iaload, 1) := by decide +kernel
theorem dL_law_30 : decode cL_law 30 = .ok (.bipush 15, 2) := by decide +kernel
theorem dL_law_32 : decode cL_law 32 = .ok (.iand, 1) := by decide +kernel
theorem dL_law_33 : decode cL_law 33 = .ok (.tableswitch 653 0 14 #[75, 128, 151, 194, 217, 250, 293, 357, 380, 423, 467, 510, 553, 607, 630], 75) := by decide +kernel
theorem dL_law_108 : decode cL_law 108 = .ok (.aload_n 1, 1) := by decide +kernel
theorem dL_law_109 : decode cL_law 109 = .ok (.aload_n 0, 1) := by decide +kernel
theorem dL_law_110 : decode cL_law 110 = .ok (.iload_n 3, 1) := by decide +kernel
theorem dL_law_111 : decode cL_law 111 = .ok (.iconst 1, 1) := by decide +kernel
theorem dL_law_112 : decode cL_law 112 = .ok (.iadd, 1) := by decide +kernel
theorem dL_law_113 : decode cL_law 113 = .ok (.iaload, 1) := by decide +kernel
theorem dL_law_114 : decode cL_law 114 = .ok (.aload_n 0, 1) := by decide +kernel
theorem dL_law_115 : decode cL_law 115 = .ok (.iload_n 3, 1) := by decide +kernel
theorem dL_law_116 : decode cL_law 116 = .ok (.iconst 2, 1) := by decide +kernel
theorem dL_law_117 : decode cL_law 117 = .ok (.iadd, 1) := by decide +kernel
theorem dL_law_118 : decode cL_law 118 = .ok (.iaload, 1) := by decide +kernel
theorem dL_law_119 : decode cL_law 119 = .ok (.aload_n 0, 1) := by decide +kernel
theorem dL_law_120 : decode cL_law 120 = .ok (.iload_n 3, 1) := by decide +kernel
theorem dL_law_121 : decode cL_law 121 = .ok (.iconst 3, 1) := by decide +kernel
theorem dL_law_122 : decode cL_law 122 = .ok (.iadd, 1) := by decide +kernel
theorem dL_law_123 : decode cL_law 123 = .ok (.iaload, 1) := by decide +kernel
theorem dL_law_124 : decode cL_law 124 = .ok (.aload_n 0, 1) := by decide +kernel
theorem dL_law_125 : decode cL_law 125 = .ok (.iload_n 3, 1) := by decide +kernel
