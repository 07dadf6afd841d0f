theorem dX5_goBack_31 : decode cX5_goBack 31 = .ok (.invokevirtual 51, 3) := by decide +kernel
theorem dX5_goBack_34 : decode cX5_goBack 34 = .ok (.ireturn, 1) := by decide +kernel
theorem dX5_goBack_35 : decode cX5_goBack 35 = .ok (.aload_n 0, 1) := by decide +kernel
theorem dX5_goBack_36 : decode cX5_goBack 36 = .ok (.invokevirtual 55, 3) := by decide +kernel
theorem dX5_goBack_39 : decode cX5_goBack 39 = .ok (.aload_n 0, 1) := by decide +kernel
theorem dX5_goBack_40 : decode cX5_goBack 40 = .ok (.getfield 19, 3) := by decide +kernel
theorem dX5_goBack_43 : decode cX5_goBack 43 = .ok (.bipush 39, 2) := by decide +kernel
theorem dX5_goBack_45 : decode cX5_goBack 45 = .ok (.iload_n 1, 1) := by decide +kernel
theorem dX5_goBack_46 : decode cX5_goBack 46 = .ok (.imul, 1) := by decide +kernel
theorem dX5_goBack_47 : decode cX5_goBack 47 = .ok (.aload_n 0, 1) := by decide +kernel
theorem dX5_goBack_48 : decode cX5_goBack 48 = .ok (.getfield 7, 3) := by decide +kernel
theorem dX5_goBack_51 : decode cX5_goBack 51 = .ok (.iconst 0, 1) := by decide +kernel
theorem dX5_goBack_52 : decode cX5_goBack 52 = .ok (.invokestatic 47, 3) := by decide +kernel
theorem dX5_goBack_55 : decode cX5_goBack 55 = .ok (.aload_n 0, 1) := by decide +kernel
theorem dX5_goBack_56 : decode cX5_goBack 56 = .ok (.getfield 7, 3) := by decide +kernel
theorem dX5_goBack_59 : decode cX5_goBack 59 = .ok (.iconst 4, 1) := by decide +kernel
theorem dX5_goBack_60 : decode cX5_goBack 60 = .ok (.iaload, 1) := by decide +kernel
theorem dX5_goBack_61 : decode cX5_goBack 61 = .ok (.ireturn, 1) := by decide +kernel
theorem dX5_swing_0 : decode cX5_swing 0 = .ok (.iload_n 0, 1) := by decide +kernel
theorem dX5_swing_1 : decode cX5_swing 1 = .ok (.sipush 1800, 3) := by decide +kernel
theorem dX5_swing_4 : decode cX5_swing 4 = .ok (.irem, 1) := by decide +kernel
theorem dX5_swing_5 : decode cX5_swing 5 = .ok (.istore_n 1, 1) := by decide +kernel
theorem dX5_swing_6 : decode cX5_swing 6 = .ok (.iload_n 1, 1) := by decide +kernel
theorem dX5_swing_7 : decode cX5_swing 7 = .ok (.sipush 1800, 3) := by decide +kernel
theorem dX5_swing_10 : decode cX5_swing 10 = .ok (.iload_n 1, 1) := by decide +kernel
theorem dX5_swing_11 : decode cX5_swing 11 = .ok (.isub, 1) := by decide +kernel
theorem dX5_swing_12 : decode cX5_swing 12 = .ok (.imul, 1) := by decide +kernel
theorem dX5_swing_13 : decode cX5_swing 13 = .ok (.sipush 810, 3) := by decide +kernel
theorem dX5_swing_16 : decode cX5_swing 16 = .ok (.idiv, 1) := by decide +kernel
theorem dX5_swing_17 : decode cX5_swing 17 = .ok (.istore_n 2, 1) := by decide +kernel
theorem dX5_swing_18 : decode cX5_swing 18 = .ok (.iload_n 0, 1) := by decide +kernel
theorem dX5_swing_19 : decode cX5_swing 19 = .ok (.sipush 1800, 3) := by decide +kernel
theorem dX5_swing_22 : decode cX5_swing 22 = .ok (.if_icmp .ge 7, 3) := by decide +kernel
theorem dX5_swing_25 : decode cX5_swing 25 = .ok (.iload_n 2, 1) := by decide +kernel
theorem dX5_swing_26 : decode cX5_swing 26 = .ok (.goto 5, 3) := by decide +kernel
theorem dX5_swing_29 : decode cX5_swing 29 = .ok (.iload_n 2, 1) := by decide +kernel
theorem dX5_swing_30 : decode cX5_swing 30 = .ok (.ineg, 1) := by decide +kernel
theorem dX5_swing_31 : decode cX5_swing 31 = .ok (.ireturn, 1) := by decide +kernel
set_option maxRecDepth 20000 in
theorem ggX5_turn_X5_swing : GoodIn wsX5_turn wsX5_swing := goodIn_r _ [4] (by decide +kernel) (by decide +kernel)
set_option maxRecDepth 20000 in
theorem gX5_turn_X5_swing : GoodIn wsX5_turn (va_wsS RX5 58 yX5_swing wsX5_swing) := goodIn_app (goodIn_of _ (by decide +kernel)) ggX5_turn_X5_swing
theorem dX5_turn_0 : decode cX5_turn 0 = .ok (.iload_n 0, 1) := by decide +kernel
theorem dX5_turn_1 : decode cX5_turn 1 = .ok (.sipush 900, 3) := by decide +kernel
theorem dX5_turn_4 : decode cX5_turn 4 = .ok (.iadd, 1) := by decide +kernel
theorem dX5_turn_5 : decode cX5_turn 5 = .ok (.sipush 3600, 3) := by decide +kernel
theorem dX5_turn_8 : decode cX5_turn 8 = .ok (.irem, 1) := by decide +kernel
theorem dX5_turn_9 : decode cX5_turn 9 = .ok (.invokestatic 58, 3) := by decide +kernel
theorem dX5_turn_12 : decode cX5_turn 12 = .ok (.ireturn, 1) := by decide +kernel
set_option maxRecDepth 20000 in
theorem ggX5_pull_X5_of : GoodIn wsX5_pull wsX5_of := goodIn_r _ [5] (by decide +kernel) (by decide +kernel)
set_option maxRecDepth 20000 in
theorem gX5_pull_X5_of : GoodIn wsX5_pull (va_wsS RX5 40 yX5_of wsX5_of) := goodIn_app (goodIn_of _ (by decide +kernel)) ggX5_pull_X5_of
set_option maxRecDepth 20000 in
theorem ggX5_pull_X5_turn : GoodIn wsX5_pull wsX5_turn := goodIn_r _ [8, 9, 10, 4, 11] (by decide +kernel) (by decide +kernel)
set_option maxRecDepth 20000 in
theorem gX5_pull_X5_turn : GoodIn wsX5_pull (va_wsS RX5 61 yX5_turn wsX5_turn) := goodIn_app (goodIn_of _ (by decide +kernel)) ggX5_pull_X5_turn
set_option maxRecDepth 20000 in
theorem ggX5_pull_X5_swing : GoodIn wsX5_pull wsX5_swing := goodIn_r _ [11] (by decide +kernel) (by decide +kernel)
set_option maxRecDepth 20000 in
theorem gX5_pull_X5_swing : GoodIn wsX5_pull (va_wsS RX5 58 yX5_swing wsX5_swing) := goodIn_app (goodIn_of _ (by decide +kernel)) ggX5_pull_X5_swing
theorem dX5_pull_0 : decode cX5_pull 0 = .ok (.aload_n 0, 1) := by decide +kernel
theorem dX5_pull_1 : decode cX5_pull 1 = .ok (.iload_n 1, 1) := by decide +kernel
theorem dX5_pull_2 : decode cX5_pull 2 = .ok (.iconst 1, 1) := by decide +kernel
theorem dX5_pull_3 : decode cX5_pull 3 = .ok (.invokestatic 40, 3) := by decide +kernel
theorem dX5_pull_6 : decode cX5_pull 6 = .ok (.istore_n 2, 1) := by decide +kernel
theorem dX5_pull_7 : decode cX5_pull 7 = .ok (.aload_n 0, 1) := by decide +kernel
theorem dX5_pull_8 : decode cX5_pull 8 = .ok (.iconst 1, 1) := by decide +kernel
theorem dX5_pull_9 : decode cX5_pull 9 = .ok (.iaload, 1) := by decide +kernel
theorem dX5_pull_10 : decode cX5_pull 10 = .ok (.aload_n 0, 1) := by decide +kernel
theorem dX5_pull_11 : decode cX5_pull 11 = .ok (.bipush 7, 2) := by decide +kernel
theorem dX5_pull_13 : decode cX5_pull 13 = .ok (.iaload, 1) := by decide +kernel
theorem dX5_pull_14 : decode cX5_pull 14 = .ok (.iload_n 2, 1) := by decide +kernel
theorem dX5_pull_15 : decode cX5_pull 15 = .ok (.invokestatic 61, 3) := by decide +kernel
theorem dX5_pull_18 : decode cX5_pull 18 = .ok (.imul, 1) := by decide +kernel
theorem dX5_pull_19 : decode cX5_pull 19 = .ok (.aload_n 0, 1) := by decide +kernel
theorem dX5_pull_20 : decode cX5_pull 20 = .ok (.bipush 8, 2) := by decide +kernel
theorem dX5_pull_22 : decode cX5_pull 22 = .ok (.iaload, 1) := by decide +kernel
theorem dX5_pull_23 : decode cX5_pull 23 = .ok (.iload_n 2, 1) := by decide +kernel
theorem dX5_pull_24 : decode cX5_pull 24 = .ok (.invokestatic 58, 3) := by decide +kernel
theorem dX5_pull_27 : decode cX5_pull 27 = .ok (.imul, 1) := by decide +kernel
theorem dX5_pull_28 : decode cX5_pull 28 = .ok (.isub, 1) := by decide +kernel
theorem dX5_pull_29 : decode cX5_pull 29 = .ok (.imul, 1) := by decide +kernel
theorem dX5_pull_30 : decode cX5_pull 30 = .ok (.ldc 64, 2) := by decide +kernel
theorem dX5_pull_32 : decode cX5_pull 32 = .ok (.idiv, 1) := by decide +kernel
theorem dX5_pull_33 : decode cX5_pull 33 = .ok (.ireturn, 1) := by decide +kernel
set_option maxRecDepth 20000 in
theorem ggX5_sum_X5_goes : GoodIn wsX5_sum wsX5_goes := goodIn_r _ [4, 5, 6, 3, 7] (by decide +kernel) (by decide +kernel)
set_option maxRecDepth 20000 in
theorem gX5_sum_X5_goes : GoodIn wsX5_sum (va_wsS RX5 65 yX5_goes wsX5_goes) := goodIn_app (goodIn_of _ (by decide +kernel)) ggX5_sum_X5_goes
set_option maxRecDepth 20000 in
theorem ggX5_sum_X5_of : GoodIn wsX5_sum wsX5_of := goodIn_r _ [7] (by decide +kernel) (by decide +kernel)
set_option maxRecDepth 20000 in
theorem gX5_sum_X5_of : GoodIn wsX5_sum (va_wsS RX5 40 yX5_of wsX5_of) := goodIn_app (goodIn_of _ (by decide +kernel)) ggX5_sum_X5_of
set_option maxRecDepth 20000 in
theorem ggX5_sum_X5_turn : GoodIn wsX5_sum wsX5_turn := goodIn_r _ [10, 11, 12, 3, 13] (by decide +kernel) (by decide +kernel)
set_option maxRecDepth 20000 in
theorem gX5_sum_X5_turn : GoodIn wsX5_sum (va_wsS RX5 61 yX5_turn wsX5_turn) := goodIn_app (goodIn_of _ (by decide +kernel)) ggX5_sum_X5_turn
set_option maxRecDepth 20000 in
theorem ggX5_sum_X5_swing : GoodIn wsX5_sum wsX5_swing := goodIn_r _ [13] (by decide +kernel) (by decide +kernel)
set_option maxRecDepth 20000 in
theorem gX5_sum_X5_swing : GoodIn wsX5_sum (va_wsS RX5 58 yX5_swing wsX5_swing) := goodIn_app (goodIn_of _ (by decide +kernel)) ggX5_sum_X5_swing
theorem dX5_sum_0 : decode cX5_sum 0 = .ok (.iconst 0, 1) := by decide +kernel
theorem dX5_sum_1 : decode cX5_sum 1 = .ok (.istore_n 2, 1) := by decide +kernel
theorem dX5_sum_2 : decode cX5_sum 2 = .ok (.iconst 0, 1) := by decide +kernel
theorem dX5_sum_3 : decode cX5_sum 3 = .ok (.istore_n 3, 1) := by decide +kernel
theorem dX5_sum_4 : decode cX5_sum 4 = .ok (.iload_n 3, 1) := by decide +kernel
theorem dX5_sum_5 : decode cX5_sum 5 = .ok (.aload_n 0, 1) := by decide +kernel
theorem dX5_sum_6 : decode cX5_sum 6 = .ok (.iconst 3, 1) := by decide +kernel
theorem dX5_sum_7 : decode cX5_sum 7 = .ok (.iaload, 1) := by decide +kernel
theorem dX5_sum_8 : decode cX5_sum 8 = .ok (.if_icmp .ge 49, 3) := by decide +kernel
theorem dX5_sum_11 : decode cX5_sum 11 = .ok (.iload_n 2, 1) := by decide +kernel
theorem dX5_sum_12 : decode cX5_sum 12 = .ok (.aload_n 0, 1) := by decide +kernel
theorem dX5_sum_13 : decode cX5_sum 13 = .ok (.iload_n 3, 1) := by decide +kernel
theorem dX5_sum_14 : decode cX5_sum 14 = .ok (.invokestatic 65, 3) := by decide +kernel
theorem dX5_sum_17 : decode cX5_sum 17 = .ok (.ifCond .ne 7, 3) := by decide +kernel
theorem dX5_sum_20 : decode cX5_sum 20 = .ok (.iconst 0, 1) := by decide +kernel
theorem dX5_sum_21 : decode cX5_sum 21 = .ok (.goto 28, 3) := by decide +kernel
theorem dX5_sum_24 : decode cX5_sum 24 = .ok (.iload_n 1, 1) := by decide +kernel
theorem dX5_sum_25 : decode cX5_sum 25 = .ok (.ifCond .eq 15, 3) := by decide +kernel
theorem dX5_sum_28 : decode cX5_sum 28 = .ok (.aload_n 0, 1) := by decide +kernel
theorem dX5_sum_29 : decode cX5_sum 29 = .ok (.iload_n 3, 1) := by decide +kernel
theorem dX5_sum_30 : decode cX5_sum 30 = .ok (.iconst 1, 1) := by decide +kernel
theorem dX5_sum_31 : decode cX5_sum 31 = .ok (.invokestatic 40, 3) := by decide +kernel
theorem dX5_sum_34 : decode cX5_sum 34 = .ok (.invokestatic 61, 3) := by decide +kernel
theorem dX5_sum_37 : decode cX5_sum 37 = .ok (.goto 12, 3) := by decide +kernel
theorem dX5_sum_40 : decode cX5_sum 40 = .ok (.aload_n 0, 1) := by decide +kernel
theorem dX5_sum_41 : decode cX5_sum 41 = .ok (.iload_n 3, 1) := by decide +kernel
theorem dX5_sum_42 : decode cX5_sum 42 = .ok (.iconst 1, 1) := by decide +kernel
theorem dX5_sum_43 : decode cX5_sum 43 = .ok (.invokestatic 40, 3) := by decide +kernel
theorem dX5_sum_46 : decode cX5_sum 46 = .ok (.invokestatic 58, 3) := by decide +kernel
theorem dX5_sum_49 : decode cX5_sum 49 = .ok (.iadd, 1) := by decide +kernel
theorem dX5_sum_50 : decode cX5_sum 50 = .ok (.istore_n 2, 1) := by decide +kernel
theorem dX5_sum_51 : decode cX5_sum 51 = .ok (.iinc 3 1, 3) := by decide +kernel
theorem dX5_sum_54 : decode cX5_sum 54 = .ok (.goto (-50), 3) := by decide +kernel
theorem dX5_sum_57 : decode cX5_sum 57 = .ok (.iload_n 2, 1) := by decide +kernel
theorem dX5_sum_58 : decode cX5_sum 58 = .ok (.ireturn, 1) := by decide +kernel
set_option maxRecDepth 20000 in
theorem ggX5_going_X5_goes : GoodIn wsX5_going wsX5_goes := goodIn_r _ [4, 5, 6, 3, 7] (by decide +kernel) (by decide +kernel)
set_option maxRecDepth 20000 in
theorem gX5_going_X5_goes : GoodIn wsX5_going (va_wsS RX5 65 yX5_goes wsX5_goes) := goodIn_app (goodIn_of _ (by decide +kernel)) ggX5_going_X5_goes
theorem dX5_going_0 : decode cX5_going 0 = .ok (.iconst 0, 1) := by decide +kernel
theorem dX5_going_1 : decode cX5_going 1 = .ok (.istore_n 1, 1) := by decide +kernel
theorem dX5_going_2 : decode cX5_going 2 = .ok (.iconst 0, 1) := by decide +kernel
theorem dX5_going_3 : decode cX5_going 3 = .ok (.istore_n 2, 1) := by decide +kernel
theorem dX5_going_4 : decode cX5_going 4 = .ok (.iload_n 2, 1) := by decide +kernel
theorem dX5_going_5 : decode cX5_going 5 = .ok (.aload_n 0, 1) := by decide +kernel
theorem dX5_going_6 : decode cX5_going 6 = .ok (.iconst 3, 1) := by decide +kernel
theorem dX5_going_7 : decode cX5_going 7 = .ok (.iaload, 1) := by decide +kernel
theorem dX5_going_8 : decode cX5_going 8 = .ok (.if_icmp .ge 25, 3) := by decide +kernel
theorem dX5_going_11 : decode cX5_going 11 = .ok (.iload_n 1, 1) := by decide +kernel
theorem dX5_going_12 : decode cX5_going 12 = .ok (.aload_n 0, 1) := by decide +kernel
theorem dX5_going_13 : decode cX5_going 13 = .ok (.iload_n 2, 1) := by decide +kernel
theorem dX5_going_14 : decode cX5_going 14 = .ok (.invokestatic 65, 3) := by decide +kernel
theorem dX5_going_17 : decode cX5_going 17 = .ok (.ifCond .eq 7, 3) := by decide +kernel
theorem dX5_going_20 : decode cX5_going 20 = .ok (.iconst 1, 1) := by decide +kernel
theorem dX5_going_21 : decode cX5_going 21 = .ok (.goto 4, 3) := by decide +kernel
theorem dX5_going_24 : decode cX5_going 24 = .ok (.iconst 0, 1) := by decide +kernel
theorem dX5_going_25 : decode cX5_going 25 = .ok (.iadd, 1) := by decide +kernel
theorem dX5_going_26 : decode cX5_going 26 = .ok (.istore_n 1, 1) := by decide +kernel
theorem dX5_going_27 : decode cX5_going 27 = .ok (.iinc 2 1, 3) := by decide +kernel
theorem dX5_going_30 : decode cX5_going 30 = .ok (.goto (-26), 3) := by decide +kernel
theorem dX5_going_33 : decode cX5_going 33 = .ok (.iload_n 1, 1) := by decide +kernel
theorem dX5_going_34 : decode cX5_going 34 = .ok (.ireturn, 1) := by decide +kernel
set_option maxRecDepth 20000 in
theorem ggX5_apartBy_X5_of : GoodIn wsX5_apartBy wsX5_of := goodIn_r _ [4] (by decide +kernel) (by decide +kernel)
set_option maxRecDepth 20000 in
theorem gX5_apartBy_X5_of : GoodIn wsX5_apartBy (va_wsS RX5 40 yX5_of wsX5_of) := goodIn_app (goodIn_of _ (by decide +kernel)) ggX5_apartBy_X5_of
theorem dX5_apartBy_0 : decode cX5_apartBy 0 = .ok (.aload_n 0, 1) := by decide +kernel
theorem dX5_apartBy_1 : decode cX5_apartBy 1 = .ok (.iload_n 1, 1) := by decide +kernel
theorem dX5_apartBy_2 : decode cX5_apartBy 2 = .ok (.iconst 1, 1) := by decide +kernel
theorem dX5_apartBy_3 : decode cX5_apartBy 3 = .ok (.invokestatic 40, 3) := by decide +kernel
theorem dX5_apartBy_6 : decode cX5_apartBy 6 = .ok (.aload_n 0, 1) := by decide +kernel
theorem dX5_apartBy_7 : decode cX5_apartBy 7 = .ok (.iload_n 2, 1) := by decide +kernel
theorem dX5_apartBy_8 : decode cX5_apartBy 8 = .ok (.iconst 1, 1) := by decide +kernel
theorem dX5_apartBy_9 : decode cX5_apartBy 9 = .ok (.invokestatic 40, 3) := by decide +kernel
theorem dX5_apartBy_12 : decode cX5_apartBy 12 = .ok (.isub, 1) := by decide +kernel
theorem dX5_apartBy_13 : decode cX5_apartBy 13 = .ok (.istore_n 3, 1) := by decide +kernel
theorem dX5_apartBy_14 : decode cX5_apartBy 14 = .ok (.iload_n 3, 1) := by decide +kernel
theorem dX5_apartBy_15 : decode cX5_apartBy 15 = .ok (.ifCond .ge 8, 3) := by decide +kernel
theorem dX5_apartBy_18 : decode cX5_apartBy 18 = .ok (.iload_n 3, 1) := by decide +kernel
theorem dX5_apartBy_19 : decode cX5_apartBy 19 = .ok (.ineg, 1) := by decide +kernel
theorem dX5_apartBy_20 : decode cX5_apartBy 20 = .ok (.goto 4, 3) := by decide +kernel
theorem dX5_apartBy_23 : decode cX5_apartBy 23 = .ok (.iload_n 3, 1) := by decide +kernel
theorem dX5_apartBy_24 : decode cX5_apartBy 24 = .ok (.istore_n 3, 1) := by decide +kernel
theorem dX5_apartBy_25 : decode cX5_apartBy 25 = .ok (.iload_n 3, 1) := by decide +kernel
theorem dX5_apartBy_26 : decode cX5_apartBy 26 = .ok (.sipush 1800, 3) := by decide +kernel
theorem dX5_apartBy_29 : decode cX5_apartBy 29 = .ok (.if_icmp .le 11, 3) := by decide +kernel
theorem dX5_apartBy_32 : decode cX5_apartBy 32 = .ok (.sipush 3600, 3) := by decide +kernel
theorem dX5_apartBy_35 : decode cX5_apartBy 35 = .ok (.iload_n 3, 1) := by decide +kernel
theorem dX5_apartBy_36 : decode cX5_apartBy 36 = .ok (.isub, 1) := by decide +kernel
theorem dX5_apartBy_37 : decode cX5_apartBy 37 = .ok (.goto 4, 3) := by decide +kernel
theorem dX5_apartBy_40 : decode cX5_apartBy 40 = .ok (.iload_n 3, 1) := by decide +kernel
theorem dX5_apartBy_41 : decode cX5_apartBy 41 = .ok (.ireturn, 1) := by decide +kernel
set_option maxRecDepth 20000 in
theorem ggX5_step_X5_going : GoodIn wsX5_step wsX5_going := goodIn_r _ [4, 5, 6, 3, 7, 8, 9, 10] (by decide +kernel) (by decide +kernel)
set_option maxRecDepth 20000 in
theorem gX5_step_X5_going : GoodIn wsX5_step (va_wsS RX5 69 yX5_going wsX5_going) := goodIn_app (goodIn_of _ (by decide +kernel)) ggX5_step_X5_going
set_option maxRecDepth 20000 in
theorem ggX5_step_X5_sum : GoodIn wsX5_step wsX5_sum := goodIn_r _ [13, 5, 6, 3, 7, 8, 9, 10, 14, 15, 16, 17, 18, 19] (by decide +kernel) (by decide +kernel)
set_option maxRecDepth 20000 in
theorem gX5_step_X5_sum : GoodIn wsX5_step (va_wsS RX5 73 yX5_sum wsX5_sum) := goodIn_app (goodIn_of _ (by decide +kernel)) ggX5_step_X5_sum
set_option maxRecDepth 20000 in
theorem ggX5_step_X5_goes : GoodIn wsX5_step wsX5_goes := goodIn_r _ [7, 8, 9, 3, 10] (by decide +kernel) (by decide +kernel)
set_option maxRecDepth 20000 in
theorem gX5_step_X5_goes : GoodIn wsX5_step (va_wsS RX5 65 yX5_goes wsX5_goes) := goodIn_app (goodIn_of _ (by decide +kernel)) ggX5_step_X5_goes
set_option maxRecDepth 20000 in
theorem ggX5_step_X5_pull : GoodIn wsX5_step wsX5_pull := goodIn_r _ [22, 23, 8, 9, 3, 10, 14, 15, 16, 17, 18, 19] (by decide +kernel) (by decide +kernel)
set_option maxRecDepth 20000 in
theorem gX5_step_X5_pull : GoodIn wsX5_step (va_wsS RX5 77 yX5_pull wsX5_pull) := goodIn_app (goodIn_of _ (by decide +kernel)) ggX5_step_X5_pull
theorem dX5_step_0 : decode cX5_step 0 = .ok (.aload_n 0, 1) := by decide +kernel
theorem dX5_step_1 : decode cX5_step 1 = .ok (.invokestatic 69, 3) := by decide +kernel
theorem dX5_step_4 : decode cX5_step 4 = .ok (.istore_n 1, 1) := by decide +kernel
theorem dX5_step_5 : decode cX5_step 5 = .ok (.iload_n 1, 1) := by decide +kernel
theorem dX5_step_6 : decode cX5_step 6 = .ok (.ifCond .ne 7, 3) := by decide +kernel
theorem dX5_step_9 : decode cX5_step 9 = .ok (.iconst 0, 1) := by decide +kernel
theorem dX5_step_10 : decode cX5_step 10 = .ok (.goto 10, 3) := by decide +kernel
theorem dX5_step_13 : decode cX5_step 13 = .ok (.aload_n 0, 1) := by decide +kernel
theorem dX5_step_14 : decode cX5_step 14 = .ok (.iconst 0, 1) := by decide +kernel
theorem dX5_step_15 : decode cX5_step 15 = .ok (.invokestatic 73, 3) := by decide +kernel
theorem dX5_step_18 : decode cX5_step 18 = .ok (.iload_n 1, 1) := by decide +kernel
theorem dX5_step_19 : decode cX5_step 19 = .ok (.idiv, 1) := by decide +kernel
theorem dX5_step_20 : decode cX5_step 20 = .ok (.istore_n 2, 1) := by decide +kernel
theorem dX5_step_21 : decode cX5_step 21 = .ok (.iload_n 1, 1) := by decide +kernel
theorem dX5_step_22 : decode cX5_step 22 = .ok (.ifCond .ne 7, 3) := by decide +kernel
theorem dX5_step_25 : decode cX5_step 25 = .ok (.iconst 0, 1) := by decide +kernel
theorem dX5_step_26 : decode cX5_step 26 = .ok (.goto 10, 3) := by decide +kernel
theorem dX5_step_29 : decode cX5_step 29 = .ok (.aload_n 0, 1) := by decide +kernel
theorem dX5_step_30 : decode cX5_step 30 = .ok (.iconst 1, 1) := by decide +kernel
theorem dX5_step_31 : decode cX5_step 31 = .ok (.invokestatic 73, 3) := by decide +kernel
theorem dX5_step_34 : decode cX5_step 34 = .ok (.iload_n 1, 1) := by decide +kernel
theorem dX5_step_35 : decode cX5_step 35 = .ok (.idiv, 1) := by decide +kernel
theorem dX5_step_36 : decode cX5_step 36 = .ok (.istore_n 3, 1) := by decide +kernel
theorem dX5_step_37 : decode cX5_step 37 = .ok (.aload_n 0, 1) := by decide +kernel
theorem dX5_step_38 : decode cX5_step 38 = .ok (.bipush 7, 2) := by decide +kernel
theorem dX5_step_40 : decode cX5_step 40 = .ok (.aload_n 0, 1) := by decide +kernel
theorem dX5_step_41 : decode cX5_step 41 = .ok (.bipush 7, 2) := by decide +kernel
theorem dX5_step_43 : decode cX5_step 43 = .ok (.iaload, 1) := by decide +kernel
theorem dX5_step_44 : decode cX5_step 44 = .ok (.aload_n 0, 1) := by decide +kernel
theorem dX5_step_45 : decode cX5_step 45 = .ok (.iconst 0, 1) := by decide +kernel
theorem dX5_step_46 : decode cX5_step 46 = .ok (.iaload, 1) := by decide +kernel
theorem dX5_step_47 : decode cX5_step 47 = .ok (.imul, 1) := by decide +kernel
theorem dX5_step_48 : decode cX5_step 48 = .ok (.iload_n 2, 1) := by decide +kernel
theorem dX5_step_49 : decode cX5_step 49 = .ok (.bipush 100, 2) := by decide +kernel
theorem dX5_step_51 : decode cX5_step 51 = .ok (.aload_n 0, 1) := by decide +kernel
theorem dX5_step_52 : decode cX5_step 52 = .ok (.iconst 0, 1) := by decide +kernel
theorem dX5_step_53 : decode cX5_step 53 = .ok (.iaload, 1) := by decide +kernel
theorem dX5_step_54 : decode cX5_step 54 = .ok (.isub, 1) := by decide +kernel
theorem dX5_step_55 : decode cX5_step 55 = .ok (.imul, 1) := by decide +kernel
theorem dX5_step_56 : decode cX5_step 56 = .ok (.iadd, 1) := by decide +kernel
theorem dX5_step_57 : decode cX5_step 57 = .ok (.bipush 100, 2) := by decide +kernel
theorem dX5_step_59 : decode cX5_step 59 = .ok (.idiv, 1) := by decide +kernel
theorem dX5_step_60 : decode cX5_step 60 = .ok (.iastore, 1) := by decide +kernel
theorem dX5_step_61 : decode cX5_step 61 = .ok (.aload_n 0, 1) := by decide +kernel
theorem dX5_step_62 : decode cX5_step 62 = .ok (.bipush 8, 2) := by decide +kernel
theorem dX5_step_64 : decode cX5_step 64 = .ok (.aload_n 0, 1) := by decide +kernel
theorem dX5_step_65 : decode cX5_step 65 = .ok (.bipush 8, 2) := by decide +kernel
theorem dX5_step_67 : decode cX5_step 67 = .ok (.iaload, 1) := by decide +kernel
theorem dX5_step_68 : decode cX5_step 68 = .ok (.aload_n 0, 1) := by decide +kernel
theorem dX5_step_69 : decode cX5_step 69 = .ok (.iconst 0, 1) := by decide +kernel
theorem dX5_step_70 : decode cX5_step 70 = .ok (.iaload, 1) := by decide +kernel
theorem dX5_step_71 : decode cX5_step 71 = .ok (.imul, 1) := by decide +kernel
theorem dX5_step_72 : decode cX5_step 72 = .ok (.iload_n 3, 1) := by decide +kernel
theorem dX5_step_73 : decode cX5_step 73 = .ok (.bipush 100, 2) := by decide +kernel
theorem dX5_step_75 : decode cX5_step 75 = .ok (.aload_n 0, 1) := by decide +kernel
theorem dX5_step_76 : decode cX5_step 76 = .ok (.iconst 0, 1) := by decide +kernel
theorem dX5_step_77 : decode cX5_step 77 = .ok (.iaload, 1) := by decide +kernel
theorem dX5_step_78 : decode cX5_step 78 = .ok (.isub, 1) := by decide +kernel
theorem dX5_step_79 : decode cX5_step 79 = .ok (.imul, 1) := by decide +kernel
theorem dX5_step_80 : decode cX5_step 80 = .ok (.iadd, 1) := by decide +kernel
theorem dX5_step_81 : decode cX5_step 81 = .ok (.bipush 100, 2) := by decide +kernel
theorem dX5_step_83 : decode cX5_step 83 = .ok (.idiv, 1) := by decide +kernel
theorem dX5_step_84 : decode cX5_step 84 = .ok (.iastore, 1) := by decide +kernel
theorem dX5_step_85 : decode cX5_step 85 = .ok (.iconst 0, 1) := by decide +kernel
theorem dX5_step_86 : decode cX5_step 86 = .ok (.istore 4, 2) := by decide +kernel
theorem dX5_step_88 : decode cX5_step 88 = .ok (.iconst 0, 1) := by decide +kernel
theorem dX5_step_89 : decode cX5_step 89 = .ok (.istore 5, 2) := by decide +kernel
theorem dX5_step_91 : decode cX5_step 91 = .ok (.iload 5, 2) := by decide +kernel
theorem dX5_step_93 : decode cX5_step 93 = .ok (.aload_n 0, 1) := by decide +kernel
theorem dX5_step_94 : decode cX5_step 94 = .ok (.iconst 3, 1) := by decide +kernel
theorem dX5_step_95 : decode cX5_step 95 = .ok (.iaload, 1) := by decide +kernel
theorem dX5_step_96 : decode cX5_step 96 = .ok (.if_icmp .ge 130, 3) := by decide +kernel
theorem dX5_step_99 : decode cX5_step 99 = .ok (.aload_n 0, 1) := by decide +kernel
theorem dX5_step_100 : decode cX5_step 100 = .ok (.iload 5, 2) := by decide +kernel
theorem dX5_step_102 : decode cX5_step 102 = .ok (.invokestatic 65, 3) := by decide +kernel
theorem dX5_step_105 : decode cX5_step 105 = .ok (.ifCond .eq 115, 3) := by decide +kernel
theorem dX5_step_108 : decode cX5_step 108 = .ok (.bipush 9, 2) := by decide +kernel
theorem dX5_step_110 : decode cX5_step 110 = .ok (.iconst 5, 1) := by decide +kernel
theorem dX5_step_111 : decode cX5_step 111 = .ok (.iload 5, 2) := by decide +kernel
theorem dX5_step_113 : decode cX5_step 113 = .ok (.imul, 1) := by decide +kernel
theorem dX5_step_114 : decode cX5_step 114 = .ok (.iadd, 1) := by decide +kernel
theorem dX5_step_115 : decode cX5_step 115 = .ok (.istore 6, 2) := by decide +kernel
theorem dX5_step_117 : decode cX5_step 117 = .ok (.aload_n 0, 1) := by decide +kernel
theorem dX5_step_118 : decode cX5_step 118 = .ok (.iload 6, 2) := by decide +kernel
theorem dX5_step_120 : decode cX5_step 120 = .ok (.iconst 1, 1) := by decide +kernel
theorem dX5_step_121 : decode cX5_step 121 = .ok (.iadd, 1) := by decide +kernel
theorem dX5_step_122 : decode cX5_step 122 = .ok (.iaload, 1) := by decide +kernel
theorem dX5_step_123 : decode cX5_step 123 = .ok (.aload_n 0, 1) := by decide +kernel
theorem dX5_step_124 : decode cX5_step 124 = .ok (.iload 6, 2) := by decide +kernel
theorem dX5_step_126 : decode cX5_step 126 = .ok (.iaload, 1) := by decide +kernel
theorem dX5_step_127 : decode cX5_step 127 = .ok (.iadd, 1) := by decide +kernel
theorem dX5_step_128 : decode cX5_step 128 = .ok (.aload_n 0, 1) := by decide +kernel
theorem dX5_step_129 : decode cX5_step 129 = .ok (.iload 5, 2) := by decide +kernel
theorem dX5_step_131 : decode cX5_step 131 = .ok (.invokestatic 77, 3) := by decide +kernel
theorem dX5_step_134 : decode cX5_step 134 = .ok (.iadd, 1) := by decide +kernel
theorem dX5_step_135 : decode cX5_step 135 = .ok (.istore 7, 2) := by decide +kernel
theorem dX5_step_137 : decode cX5_step 137 = .ok (.iload 7, 2) := by decide +kernel
theorem dX5_step_139 : decode cX5_step 139 = .ok (.sipush 3600, 3) := by decide +kernel
theorem dX5_step_142 : decode cX5_step 142 = .ok (.if_icmp .lt 7, 3) := by decide +kernel
theorem dX5_step_145 : decode cX5_step 145 = .ok (.iconst 1, 1) := by decide +kernel
theorem dX5_step_146 : decode cX5_step 146 = .ok (.goto 4, 3) := by decide +kernel
theorem dX5_step_149 : decode cX5_step 149 = .ok (.iconst 0, 1) := by decide +kernel
theorem dX5_step_150 : decode cX5_step 150 = .ok (.istore 8, 2) := by decide +kernel
theorem dX5_step_152 : decode cX5_step 152 = .ok (.aload_n 0, 1) := by decide +kernel
theorem dX5_step_153 : decode cX5_step 153 = .ok (.iload 6, 2) := by decide +kernel
theorem dX5_step_155 : decode cX5_step 155 = .ok (.iconst 1, 1) := by decide +kernel
theorem dX5_step_156 : decode cX5_step 156 = .ok (.iadd, 1) := by decide +kernel
theorem dX5_step_157 : decode cX5_step 157 = .ok (.iload 7, 2) := by decide +kernel
theorem dX5_step_159 : decode cX5_step 159 = .ok (.sipush 3600, 3) := by decide +kernel
theorem dX5_step_162 : decode cX5_step 162 = .ok (.if_icmp .lt 12, 3) := by decide +kernel
theorem dX5_step_165 : decode cX5_step 165 = .ok (.iload 7, 2) := by decide +kernel
theorem dX5_step_167 : decode cX5_step 167 = .ok (.sipush 3600, 3) := by decide +kernel
theorem dX5_step_170 : decode cX5_step 170 = .ok (.isub, 1) := by decide +kernel
theorem dX5_step_171 : decode cX5_step 171 = .ok (.goto 19, 3) := by decide +kernel
theorem dX5_step_174 : decode cX5_step 174 = .ok (.iload 7, 2) := by decide +kernel
theorem dX5_step_176 : decode cX5_step 176 = .ok (.ifCond .ge 12, 3) := by decide +kernel
theorem dX5_step_179 : decode cX5_step 179 = .ok (.iload 7, 2) := by decide +kernel
theorem dX5_step_181 : decode cX5_step 181 = .ok (.sipush 3600, 3) := by decide +kernel
theorem dX5_step_184 : decode cX5_step 184 = .ok (.iadd, 1) := by decide +kernel
theorem dX5_step_185 : decode cX5_step 185 = .ok (.goto 5, 3) := by decide +kernel
theorem dX5_step_188 : decode cX5_step 188 = .ok (.iload 7, 2) := by decide +kernel
theorem dX5_step_190 : decode cX5_step 190 = .ok (.iastore, 1) := by decide +kernel
theorem dX5_step_191 : decode cX5_step 191 = .ok (.aload_n 0, 1) := by decide +kernel
theorem dX5_step_192 : decode cX5_step 192 = .ok (.iload 6, 2) := by decide +kernel
theorem dX5_step_194 : decode cX5_step 194 = .ok (.iconst 2, 1) := by decide +kernel
theorem dX5_step_195 : decode cX5_step 195 = .ok (.iadd, 1) := by decide +kernel
theorem dX5_step_196 : decode cX5_step 196 = .ok (.dup2, 1) := by decide +kernel
theorem dX5_step_197 : decode cX5_step 197 = .ok (.iaload, 1) := by decide +kernel
theorem dX5_step_198 : decode cX5_step 198 = .ok (.iload 8, 2) := by decide +kernel
theorem dX5_step_200 : decode cX5_step 200 = .ok (.isub, 1) := by decide +kernel
theorem dX5_step_201 : decode cX5_step 201 = .ok (.iastore, 1) := by decide +kernel
theorem dX5_step_202 : decode cX5_step 202 = .ok (.aload_n 0, 1) := by decide +kernel
theorem dX5_step_203 : decode cX5_step 203 = .ok (.iload 6, 2) := by decide +kernel
theorem dX5_step_205 : decode cX5_step 205 = .ok (.iconst 4, 1) := by decide +kernel
theorem dX5_step_206 : decode cX5_step 206 = .ok (.iadd, 1) := by decide +kernel
theorem dX5_step_207 : decode cX5_step 207 = .ok (.dup2, 1) := by decide +kernel
theorem dX5_step_208 : decode cX5_step 208 = .ok (.iaload, 1) := by decide +kernel
theorem dX5_step_209 : decode cX5_step 209 = .ok (.iload 8, 2) := by decide +kernel
theorem dX5_step_211 : decode cX5_step 211 = .ok (.iadd, 1) := by decide +kernel
theorem dX5_step_212 : decode cX5_step 212 = .ok (.iastore, 1) := by decide +kernel
theorem dX5_step_213 : decode cX5_step 213 = .ok (.iload 4, 2) := by decide +kernel
theorem dX5_step_215 : decode cX5_step 215 = .ok (.iload 8, 2) := by decide +kernel
theorem dX5_step_217 : decode cX5_step 217 = .ok (.iadd, 1) := by decide +kernel
theorem dX5_step_218 : decode cX5_step 218 = .ok (.istore 4, 2) := by decide +kernel
theorem dX5_step_220 : decode cX5_step 220 = .ok (.iinc 5 1, 3) := by decide +kernel
theorem dX5_step_223 : decode cX5_step 223 = .ok (.goto (-132), 3) := by decide +kernel
theorem dX5_step_226 : decode cX5_step 226 = .ok (.aload_n 0, 1) := by decide +kernel
theorem dX5_step_227 : decode cX5_step 227 = .ok (.iconst 5, 1) := by decide +kernel
theorem dX5_step_228 : decode cX5_step 228 = .ok (.dup2, 1) := by decide +kernel
theorem dX5_step_229 : decode cX5_step 229 = .ok (.iaload, 1) := by decide +kernel
theorem dX5_step_230 : decode cX5_step 230 = .ok (.iload 4, 2) := by decide +kernel
theorem dX5_step_232 : decode cX5_step 232 = .ok (.iadd, 1) := by decide +kernel
theorem dX5_step_233 : decode cX5_step 233 = .ok (.iastore, 1) := by decide +kernel
theorem dX5_step_234 : decode cX5_step 234 = .ok (.aload_n 0, 1) := by decide +kernel
theorem dX5_step_235 : decode cX5_step 235 = .ok (.bipush 6, 2) := by decide +kernel
theorem dX5_step_237 : decode cX5_step 237 = .ok (.dup2, 1) := by decide +kernel
theorem dX5_step_238 : decode cX5_step 238 = .ok (.iaload, 1) := by decide +kernel
theorem dX5_step_239 : decode cX5_step 239 = .ok (.iload 4, 2) := by decide +kernel
theorem dX5_step_241 : decode cX5_step 241 = .ok (.iconst 1, 1) := by decide +kernel
theorem dX5_step_242 : decode cX5_step 242 = .ok (.if_icmp .le 7, 3) := by decide +kernel
theorem dX5_step_245 : decode cX5_step 245 = .ok (.iconst 1, 1) := by decide +kernel
theorem dX5_step_246 : decode cX5_step 246 = .ok (.goto 4, 3) := by decide +kernel
theorem dX5_step_249 : decode cX5_step 249 = .ok (.iconst 0, 1) := by decide +kernel
theorem dX5_step_250 : decode cX5_step 250 = .ok (.iadd, 1) := by decide +kernel
theorem dX5_step_251 : decode cX5_step 251 = .ok (.iastore, 1) := by decide +kernel
theorem dX5_step_252 : decode cX5_step 252 = .ok (.aload_n 0, 1) := by decide +kernel
theorem dX5_step_253 : decode cX5_step 253 = .ok (.iconst 4, 1) := by decide +kernel
theorem dX5_step_254 : decode cX5_step 254 = .ok (.dup2, 1) := by decide +kernel
theorem dX5_step_255 : decode cX5_step 255 = .ok (.iaload, 1) := by decide +kernel
theorem dX5_step_256 : decode cX5_step 256 = .ok (.iconst 1, 1) := by decide +kernel
theorem dX5_step_257 : decode cX5_step 257 = .ok (.iadd, 1) := by decide +kernel
theorem dX5_step_258 : decode cX5_step 258 = .ok (.iastore, 1) := by decide +kernel
theorem dX5_step_259 : decode cX5_step 259 = .ok (.return_, 1) := by decide +kernel
set_option maxRecDepth 20000 in
theorem ggX5_steps_X5_step : GoodIn wsX5_steps wsX5_step := goodIn_r _ [4, 5, 6, 3, 7, 8, 9, 10, 11, 12, 13, 14, 15, 16, 17, 18, 19, 20, 21, 22, 23, 24, 25, 26] (by decide +kernel) (by decide +kernel)
set_option maxRecDepth 20000 in
theorem gX5_steps_X5_step : GoodIn wsX5_steps (va_wsS RX5 81 yX5_step wsX5_step) := goodIn_app (goodIn_of _ (by decide +kernel)) ggX5_steps_X5_step
theorem dX5_steps_0 : decode cX5_steps 0 = .ok (.iconst 0, 1) := by decide +kernel
theorem dX5_steps_1 : decode cX5_steps 1 = .ok (.istore_n 2, 1) := by decide +kernel
theorem dX5_steps_2 : decode cX5_steps 2 = .ok (.iload_n 2, 1) := by decide +kernel
theorem dX5_steps_3 : decode cX5_steps 3 = .ok (.iload_n 1, 1) := by decide +kernel
theorem dX5_steps_4 : decode cX5_steps 4 = .ok (.if_icmp .ge 13, 3) := by decide +kernel
theorem dX5_steps_7 : decode cX5_steps 7 = .ok (.aload_n 0, 1) := by decide +kernel
theorem dX5_steps_8 : decode cX5_steps 8 = .ok (.invokestatic 81, 3) := by decide +kernel
theorem dX5_steps_11 : decode cX5_steps 11 = .ok (.iinc 2 1, 3) := by decide +kernel
theorem dX5_steps_14 : decode cX5_steps 14 = .ok (.goto (-12), 3) := by decide +kernel
theorem dX5_steps_17 : decode cX5_steps 17 = .ok (.return_, 1) := by decide +kernel
set_option maxRecDepth 20000 in
theorem ggX5_most_X5_goes : GoodIn wsX5_most wsX5_goes := goodIn_r _ [4, 5, 6, 3, 7] (by decide +kernel) (by decide +kernel)
set_option maxRecDepth 20000 in
theorem gX5_most_X5_goes : GoodIn wsX5_most (va_wsS RX5 65 yX5_goes wsX5_goes) := goodIn_app (goodIn_of _ (by decide +kernel)) ggX5_most_X5_goes
set_option maxRecDepth 20000 in
theorem ggX5_most_X5_apartBy : GoodIn wsX5_most wsX5_apartBy := goodIn_r _ [10, 5, 6, 3, 7] (by decide +kernel) (by decide +kernel)
set_option maxRecDepth 20000 in
theorem gX5_most_X5_apartBy : GoodIn wsX5_most (va_wsS RX5 85 yX5_apartBy wsX5_apartBy) := goodIn_app (goodIn_of _ (by decide +kernel)) ggX5_most_X5_apartBy
theorem dX5_most_0 : decode cX5_most 0 = .ok (.iconst (-1), 1) := by decide +kernel
theorem dX5_most_1 : decode cX5_most 1 = .ok (.istore_n 1, 1) := by decide +kernel
theorem dX5_most_2 : decode cX5_most 2 = .ok (.iconst 0, 1) := by decide +kernel
theorem dX5_most_3 : decode cX5_most 3 = .ok (.istore_n 2, 1) := by decide +kernel
theorem dX5_most_4 : decode cX5_most 4 = .ok (.iload_n 2, 1) := by decide +kernel
theorem dX5_most_5 : decode cX5_most 5 = .ok (.bipush 36, 2) := by decide +kernel
theorem dX5_most_7 : decode cX5_most 7 = .ok (.if_icmp .ge 90, 3) := by decide +kernel
theorem dX5_most_10 : decode cX5_most 10 = .ok (.iload_n 2, 1) := by decide +kernel
theorem dX5_most_11 : decode cX5_most 11 = .ok (.bipush 6, 2) := by decide +kernel
theorem dX5_most_13 : decode cX5_most 13 = .ok (.idiv, 1) := by decide +kernel
theorem dX5_most_14 : decode cX5_most 14 = .ok (.istore_n 3, 1) := by decide +kernel
theorem dX5_most_15 : decode cX5_most 15 = .ok (.iload_n 2, 1) := by decide +kernel
theorem dX5_most_16 : decode cX5_most 16 = .ok (.bipush 6, 2) := by decide +kernel
theorem dX5_most_18 : decode cX5_most 18 = .ok (.irem, 1) := by decide +kernel
theorem dX5_most_19 : decode cX5_most 19 = .ok (.istore 4, 2) := by decide +kernel
theorem dX5_most_21 : decode cX5_most 21 = .ok (.iload_n 3, 1) := by decide +kernel
theorem dX5_most_22 : decode cX5_most 22 = .ok (.iload 4, 2) := by decide +kernel
theorem dX5_most_24 : decode cX5_most 24 = .ok (.if_icmp .ge 67, 3) := by decide +kernel
theorem dX5_most_27 : decode cX5_most 27 = .ok (.iload 4, 2) := by decide +kernel
theorem dX5_most_29 : decode cX5_most 29 = .ok (.aload_n 0, 1) := by decide +kernel
theorem dX5_most_30 : decode cX5_most 30 = .ok (.iconst 3, 1) := by decide +kernel
theorem dX5_most_31 : decode cX5_most 31 = .ok (.iaload, 1) := by decide +kernel
theorem dX5_most_32 : decode cX5_most 32 = .ok (.if_icmp .ge 59, 3) := by decide +kernel
theorem dX5_most_35 : decode cX5_most 35 = .ok (.aload_n 0, 1) := by decide +kernel
theorem dX5_most_36 : decode cX5_most 36 = .ok (.iload_n 3, 1) := by decide +kernel
theorem dX5_most_37 : decode cX5_most 37 = .ok (.invokestatic 65, 3) := by decide +kernel
theorem dX5_most_40 : decode cX5_most 40 = .ok (.ifCond .eq 51, 3) := by decide +kernel
theorem dX5_most_43 : decode cX5_most 43 = .ok (.aload_n 0, 1) := by decide +kernel
theorem dX5_most_44 : decode cX5_most 44 = .ok (.iload 4, 2) := by decide +kernel
theorem dX5_most_46 : decode cX5_most 46 = .ok (.invokestatic 65, 3) := by decide +kernel
theorem dX5_most_49 : decode cX5_most 49 = .ok (.ifCond .eq 42, 3) := by decide +kernel
theorem dX5_most_52 : decode cX5_most 52 = .ok (.iload_n 1, 1) := by decide +kernel
theorem dX5_most_53 : decode cX5_most 53 = .ok (.iconst (-1), 1) := by decide +kernel
theorem dX5_most_54 : decode cX5_most 54 = .ok (.if_icmp .eq 25, 3) := by decide +kernel
theorem dX5_most_57 : decode cX5_most 57 = .ok (.aload_n 0, 1) := by decide +kernel
theorem dX5_most_58 : decode cX5_most 58 = .ok (.iload_n 3, 1) := by decide +kernel
theorem dX5_most_59 : decode cX5_most 59 = .ok (.iload 4, 2) := by decide +kernel
theorem dX5_most_61 : decode cX5_most 61 = .ok (.invokestatic 85, 3) := by decide +kernel
theorem dX5_most_64 : decode cX5_most 64 = .ok (.aload_n 0, 1) := by decide +kernel
theorem dX5_most_65 : decode cX5_most 65 = .ok (.iload_n 1, 1) := by decide +kernel
theorem dX5_most_66 : decode cX5_most 66 = .ok (.bipush 8, 2) := by decide +kernel
theorem dX5_most_68 : decode cX5_most 68 = .ok (.idiv, 1) := by decide +kernel
theorem dX5_most_69 : decode cX5_most 69 = .ok (.iload_n 1, 1) := by decide +kernel
theorem dX5_most_70 : decode cX5_most 70 = .ok (.bipush 8, 2) := by decide +kernel
theorem dX5_most_72 : decode cX5_most 72 = .ok (.irem, 1) := by decide +kernel
theorem dX5_most_73 : decode cX5_most 73 = .ok (.invokestatic 85, 3) := by decide +kernel
theorem dX5_most_76 : decode cX5_most 76 = .ok (.if_icmp .le 13, 3) := by decide +kernel
theorem dX5_most_79 : decode cX5_most 79 = .ok (.bipush 8, 2) := by decide +kernel
theorem dX5_most_81 : decode cX5_most 81 = .ok (.iload_n 3, 1) := by decide +kernel
theorem dX5_most_82 : decode cX5_most 82 = .ok (.imul, 1) := by decide +kernel
theorem dX5_most_83 : decode cX5_most 83 = .ok (.iload 4, 2) := by decide +kernel
theorem dX5_most_85 : decode cX5_most 85 = .ok (.iadd, 1) := by decide +kernel
theorem dX5_most_86 : decode cX5_most 86 = .ok (.goto 4, 3) := by decide +kernel
theorem dX5_most_89 : decode cX5_most 89 = .ok (.iload_n 1, 1) := by decide +kernel
theorem dX5_most_90 : decode cX5_most 90 = .ok (.istore_n 1, 1) := by decide +kernel
theorem dX5_most_91 : decode cX5_most 91 = .ok (.iinc 2 1, 3) := by decide +kernel
theorem dX5_most_94 : decode cX5_most 94 = .ok (.goto (-90), 3) := by decide +kernel
theorem dX5_most_97 : decode cX5_most 97 = .ok (.iload_n 1, 1) := by decide +kernel
theorem dX5_most_98 : decode cX5_most 98 = .ok (.ireturn, 1) := by decide +kernel
set_option maxRecDepth 20000 in
theorem ggX5_greatest_X5_most : GoodIn wsX5_greatest wsX5_most := goodIn_r _ [4, 5, 6, 3, 7, 8, 9, 10, 11, 12, 13] (by decide +kernel) (by decide +kernel)
set_option maxRecDepth 20000 in
theorem gX5_greatest_X5_most : GoodIn wsX5_greatest (va_wsS RX5 88 yX5_most wsX5_most) := goodIn_app (goodIn_of _ (by decide +kernel)) ggX5_greatest_X5_most
set_option maxRecDepth 20000 in
theorem ggX5_greatest_X5_apartBy : GoodIn wsX5_greatest wsX5_apartBy := goodIn_r _ [13, 8, 9, 3, 10] (by decide +kernel) (by decide +kernel)
set_option maxRecDepth 20000 in
theorem gX5_greatest_X5_apartBy : GoodIn wsX5_greatest (va_wsS RX5 85 yX5_apartBy wsX5_apartBy) := goodIn_app (goodIn_of _ (by decide +kernel)) ggX5_greatest_X5_apartBy
theorem dX5_greatest_0 : decode cX5_greatest 0 = .ok (.aload_n 0, 1) := by decide +kernel
theorem dX5_greatest_1 : decode cX5_greatest 1 = .ok (.invokestatic 88, 3) := by decide +kernel
theorem dX5_greatest_4 : decode cX5_greatest 4 = .ok (.istore_n 1, 1) := by decide +kernel
theorem dX5_greatest_5 : decode cX5_greatest 5 = .ok (.iload_n 1, 1) := by decide +kernel
theorem dX5_greatest_6 : decode cX5_greatest 6 = .ok (.iconst (-1), 1) := by decide +kernel
theorem dX5_greatest_7 : decode cX5_greatest 7 = .ok (.if_icmp .ne 7, 3) := by decide +kernel
theorem dX5_greatest_10 : decode cX5_greatest 10 = .ok (.iconst 0, 1) := by decide +kernel
theorem dX5_greatest_11 : decode cX5_greatest 11 = .ok (.goto 15, 3) := by decide +kernel
theorem dX5_greatest_14 : decode cX5_greatest 14 = .ok (.aload_n 0, 1) := by decide +kernel
theorem dX5_greatest_15 : decode cX5_greatest 15 = .ok (.iload_n 1, 1) := by decide +kernel
theorem dX5_greatest_16 : decode cX5_greatest 16 = .ok (.bipush 8, 2) := by decide +kernel
theorem dX5_greatest_18 : decode cX5_greatest 18 = .ok (.idiv, 1) := by decide +kernel
theorem dX5_greatest_19 : decode cX5_greatest 19 = .ok (.iload_n 1, 1) := by decide +kernel
theorem dX5_greatest_20 : decode cX5_greatest 20 = .ok (.bipush 8, 2) := by decide +kernel
theorem dX5_greatest_22 : decode cX5_greatest 22 = .ok (.irem, 1) := by decide +kernel
theorem dX5_greatest_23 : decode cX5_greatest 23 = .ok (.invokestatic 85, 3) := by decide +kernel
theorem dX5_greatest_26 : decode cX5_greatest 26 = .ok (.ireturn, 1) := by decide +kernel
set_option maxRecDepth 20000 in
theorem ggX5_areInStep_X5_most : GoodIn wsX5_areInStep wsX5_most := goodIn_r _ [4, 5, 6, 3, 7, 8, 9, 10, 11, 12, 13] (by decide +kernel) (by decide +kernel)
set_option maxRecDepth 20000 in
theorem gX5_areInStep_X5_most : GoodIn wsX5_areInStep (va_wsS RX5 88 yX5_most wsX5_most) := goodIn_app (goodIn_of _ (by decide +kernel)) ggX5_areInStep_X5_most
set_option maxRecDepth 20000 in
theorem ggX5_areInStep_X5_greatest : GoodIn wsX5_areInStep wsX5_greatest := goodIn_r _ [16, 1, 2, 3, 4, 5, 6, 7, 8, 9, 10, 11, 12, 13] (by decide +kernel) (by decide +kernel)
set_option maxRecDepth 20000 in
theorem gX5_areInStep_X5_greatest : GoodIn wsX5_areInStep (va_wsS RX5 91 yX5_greatest wsX5_greatest) := goodIn_app (goodIn_of _ (by decide +kernel)) ggX5_areInStep_X5_greatest
theorem dX5_areInStep_0 : decode cX5_areInStep 0 = .ok (.aload_n 0, 1) := by decide +kernel
theorem dX5_areInStep_1 : decode cX5_areInStep 1 = .ok (.invokestatic 88, 3) := by decide +kernel
theorem dX5_areInStep_4 : decode cX5_areInStep 4 = .ok (.iconst (-1), 1) := by decide +kernel
theorem dX5_areInStep_5 : decode cX5_areInStep 5 = .ok (.if_icmp .eq 17, 3) := by decide +kernel
theorem dX5_areInStep_8 : decode cX5_areInStep 8 = .ok (.aload_n 0, 1) := by decide +kernel
theorem dX5_areInStep_9 : decode cX5_areInStep 9 = .ok (.invokestatic 91, 3) := by decide +kernel
theorem dX5_areInStep_12 : decode cX5_areInStep 12 = .ok (.aload_n 0, 1) := by decide +kernel
theorem dX5_areInStep_13 : decode cX5_areInStep 13 = .ok (.iconst 2, 1) := by decide +kernel
theorem dX5_areInStep_14 : decode cX5_areInStep 14 = .ok (.iaload, 1) := by decide +kernel
theorem dX5_areInStep_15 : decode cX5_areInStep 15 = .ok (.if_icmp .gt 7, 3) := by decide +kernel
theorem dX5_areInStep_18 : decode cX5_areInStep 18 = .ok (.iconst 1, 1) := by decide +kernel
theorem dX5_areInStep_19 : decode cX5_areInStep 19 = .ok (.goto 4, 3) := by decide +kernel
theorem dX5_areInStep_22 : decode cX5_areInStep 22 = .ok (.iconst 0, 1) := by decide +kernel
theorem dX5_areInStep_23 : decode cX5_areInStep 23 = .ok (.ireturn, 1) := by decide +kernel
set_option maxRecDepth 20000 in
theorem ggX5_order_X5_going : GoodIn wsX5_order wsX5_going := goodIn_r _ [4, 5, 6, 3, 7, 8, 9, 10] (by decide +kernel) (by decide +kernel)
set_option maxRecDepth 20000 in
theorem gX5_order_X5_going : GoodIn wsX5_order (va_wsS RX5 69 yX5_going wsX5_going) := goodIn_app (goodIn_of _ (by decide +kernel)) ggX5_order_X5_going
set_option maxRecDepth 20000 in
theorem ggX5_order_X5_sum : GoodIn wsX5_order wsX5_sum := goodIn_r _ [13, 5, 6, 3, 7, 8, 9, 10, 14, 15, 16, 17, 18, 19] (by decide +kernel) (by decide +kernel)
set_option maxRecDepth 20000 in
theorem gX5_order_X5_sum : GoodIn wsX5_order (va_wsS RX5 73 yX5_sum wsX5_sum) := goodIn_app (goodIn_of _ (by decide +kernel)) ggX5_order_X5_sum
theorem dX5_order_0 : decode cX5_order 0 = .ok (.aload_n 0, 1) := by decide +kernel
theorem dX5_order_1 : decode cX5_order 1 = .ok (.invokestatic 69, 3) := by decide +kernel
theorem dX5_order_4 : decode cX5_order 4 = .ok (.istore_n 1, 1) := by decide +kernel
theorem dX5_order_5 : decode cX5_order 5 = .ok (.aload_n 0, 1) := by decide +kernel
theorem dX5_order_6 : decode cX5_order 6 = .ok (.iconst 0, 1) := by decide +kernel
theorem dX5_order_7 : decode cX5_order 7 = .ok (.invokestatic 73, 3) := by decide +kernel
theorem dX5_order_10 : decode cX5_order 10 = .ok (.istore_n 2, 1) := by decide +kernel
theorem dX5_order_11 : decode cX5_order 11 = .ok (.aload_n 0, 1) := by decide +kernel
theorem dX5_order_12 : decode cX5_order 12 = .ok (.iconst 1, 1) := by decide +kernel
theorem dX5_order_13 : decode cX5_order 13 = .ok (.invokestatic 73, 3) := by decide +kernel
theorem dX5_order_16 : decode cX5_order 16 = .ok (.istore_n 3, 1) := by decide +kernel
theorem dX5_order_17 : decode cX5_order 17 = .ok (.iload_n 1, 1) := by decide +kernel
theorem dX5_order_18 : decode cX5_order 18 = .ok (.ifCond .ne 7, 3) := by decide +kernel
theorem dX5_order_21 : decode cX5_order 21 = .ok (.iconst 0, 1) := by decide +kernel
theorem dX5_order_22 : decode cX5_order 22 = .ok (.goto 18, 3) := by decide +kernel
theorem dX5_order_25 : decode cX5_order 25 = .ok (.iload_n 2, 1) := by decide +kernel
theorem dX5_order_26 : decode cX5_order 26 = .ok (.iload_n 2, 1) := by decide +kernel
theorem dX5_order_27 : decode cX5_order 27 = .ok (.imul, 1) := by decide +kernel
theorem dX5_order_28 : decode cX5_order 28 = .ok (.iload_n 3, 1) := by decide +kernel
theorem dX5_order_29 : decode cX5_order 29 = .ok (.iload_n 3, 1) := by decide +kernel
theorem dX5_order_30 : decode cX5_order 30 = .ok (.imul, 1) := by decide +kernel
theorem dX5_order_31 : decode cX5_order 31 = .ok (.iadd, 1) := by decide +kernel
theorem dX5_order_32 : decode cX5_order 32 = .ok (.sipush 1000, 3) := by decide +kernel
theorem dX5_order_35 : decode cX5_order 35 = .ok (.iload_n 1, 1) := by decide +kernel
theorem dX5_order_36 : decode cX5_order 36 = .ok (.imul, 1) := by decide +kernel
theorem dX5_order_37 : decode cX5_order 37 = .ok (.iload_n 1, 1) := by decide +kernel
theorem dX5_order_38 : decode cX5_order 38 = .ok (.imul, 1) := by decide +kernel
theorem dX5_order_39 : decode cX5_order 39 = .ok (.idiv, 1) := by decide +kernel
theorem dX5_order_40 : decode cX5_order 40 = .ok (.ireturn, 1) := by decide +kernel
set_option maxRecDepth 20000 in
theorem ggX5_isOne_X5_in : GoodIn wsX5_isOne wsX5_in := goodIn_r _ [4] (by decide +kernel) (by decide +kernel)
set_option maxRecDepth 20000 in
theorem gX5_isOne_X5_in : GoodIn wsX5_isOne (va_wsS RX5 36 yX5_in wsX5_in) := goodIn_app (goodIn_of _ (by decide +kernel)) ggX5_isOne_X5_in
theorem dX5_isOne_0 : decode cX5_isOne 0 = .ok (.iload_n 0, 1) := by decide +kernel
theorem dX5_isOne_1 : decode cX5_isOne 1 = .ok (.bipush 40, 2) := by decide +kernel
theorem dX5_isOne_3 : decode cX5_isOne 3 = .ok (.sipush 208, 3) := by decide +kernel
theorem dX5_isOne_6 : decode cX5_isOne 6 = .ok (.invokestatic 36, 3) := by decide +kernel
theorem dX5_isOne_9 : decode cX5_isOne 9 = .ok (.ifCond .eq 29, 3) := by decide +kernel
theorem dX5_isOne_12 : decode cX5_isOne 12 = .ok (.iload_n 1, 1) := by decide +kernel
theorem dX5_isOne_13 : decode cX5_isOne 13 = .ok (.iconst 0, 1) := by decide +kernel
theorem dX5_isOne_14 : decode cX5_isOne 14 = .ok (.sipush 3599, 3) := by decide +kernel
theorem dX5_isOne_17 : decode cX5_isOne 17 = .ok (.invokestatic 36, 3) := by decide +kernel
theorem dX5_isOne_20 : decode cX5_isOne 20 = .ok (.ifCond .eq 18, 3) := by decide +kernel
theorem dX5_isOne_23 : decode cX5_isOne 23 = .ok (.iload_n 2, 1) := by decide +kernel
theorem dX5_isOne_24 : decode cX5_isOne 24 = .ok (.iconst 0, 1) := by decide +kernel
theorem dX5_isOne_25 : decode cX5_isOne 25 = .ok (.sipush 999, 3) := by decide +kernel
theorem dX5_isOne_28 : decode cX5_isOne 28 = .ok (.invokestatic 36, 3) := by decide +kernel
theorem dX5_isOne_31 : decode cX5_isOne 31 = .ok (.ifCond .eq 7, 3) := by decide +kernel
theorem dX5_isOne_34 : decode cX5_isOne 34 = .ok (.iconst 1, 1) := by decide +kernel
theorem dX5_isOne_35 : decode cX5_isOne 35 = .ok (.goto 4, 3) := by decide +kernel
theorem dX5_isOne_38 : decode cX5_isOne 38 = .ok (.iconst 0, 1) := by decide +kernel
theorem dX5_isOne_39 : decode cX5_isOne 39 = .ok (.ireturn, 1) := by decide +kernel
theorem dX5_comes_0 : decode cX5_comes 0 = .ok (.bipush 9, 2) := by decide +kernel
theorem dX5_comes_2 : decode cX5_comes 2 = .ok (.iconst 5, 1) := by decide +kernel
theorem dX5_comes_3 : decode cX5_comes 3 = .ok (.aload_n 0, 1) := by decide +kernel
theorem dX5_comes_4 : decode cX5_comes 4 = .ok (.getfield 7, 3) := by decide +kernel
theorem dX5_comes_7 : decode cX5_comes 7 = .ok (.iconst 3, 1) := by decide +kernel
theorem dX5_comes_8 : decode cX5_comes 8 = .ok (.iaload, 1) := by decide +kernel
theorem dX5_comes_9 : decode cX5_comes 9 = .ok (.imul, 1) := by decide +kernel
theorem dX5_comes_10 : decode cX5_comes 10 = .ok (.iadd, 1) := by decide +kernel
theorem dX5_comes_11 : decode cX5_comes 11 = .ok (.istore 4, 2) := by decide +kernel
theorem dX5_comes_13 : decode cX5_comes 13 = .ok (.aload_n 0, 1) := by decide +kernel
theorem dX5_comes_14 : decode cX5_comes 14 = .ok (.getfield 7, 3) := by decide +kernel
theorem dX5_comes_17 : decode cX5_comes 17 = .ok (.iload 4, 2) := by decide +kernel
theorem dX5_comes_19 : decode cX5_comes 19 = .ok (.iload_n 1, 1) := by decide +kernel
theorem dX5_comes_20 : decode cX5_comes 20 = .ok (.iastore, 1) := by decide +kernel
theorem dX5_comes_21 : decode cX5_comes 21 = .ok (.aload_n 0, 1) := by decide +kernel
theorem dX5_comes_22 : decode cX5_comes 22 = .ok (.getfield 7, 3) := by decide +kernel
theorem dX5_comes_25 : decode cX5_comes 25 = .ok (.iload 4, 2) := by decide +kernel
theorem dX5_comes_27 : decode cX5_comes 27 = .ok (.iconst 1, 1) := by decide +kernel
theorem dX5_comes_28 : decode cX5_comes 28 = .ok (.iadd, 1) := by decide +kernel
theorem dX5_comes_29 : decode cX5_comes 29 = .ok (.iload_n 2, 1) := by decide +kernel
theorem dX5_comes_30 : decode cX5_comes 30 = .ok (.iastore, 1) := by decide +kernel
theorem dX5_comes_31 : decode cX5_comes 31 = .ok (.aload_n 0, 1) := by decide +kernel
theorem dX5_comes_32 : decode cX5_comes 32 = .ok (.getfield 7, 3) := by decide +kernel
theorem dX5_comes_35 : decode cX5_comes 35 = .ok (.iload 4, 2) := by decide +kernel
theorem dX5_comes_37 : decode cX5_comes 37 = .ok (.iconst 2, 1) := by decide +kernel
theorem dX5_comes_38 : decode cX5_comes 38 = .ok (.iadd, 1) := by decide +kernel
theorem dX5_comes_39 : decode cX5_comes 39 = .ok (.iload_n 3, 1) := by decide +kernel
theorem dX5_comes_40 : decode cX5_comes 40 = .ok (.iastore, 1) := by decide +kernel
theorem dX5_comes_41 : decode cX5_comes 41 = .ok (.aload_n 0, 1) := by decide +kernel
theorem dX5_comes_42 : decode cX5_comes 42 = .ok (.getfield 7, 3) := by decide +kernel
theorem dX5_comes_45 : decode cX5_comes 45 = .ok (.iload 4, 2) := by decide +kernel
theorem dX5_comes_47 : decode cX5_comes 47 = .ok (.iconst 3, 1) := by decide +kernel
theorem dX5_comes_48 : decode cX5_comes 48 = .ok (.iadd, 1) := by decide +kernel
theorem dX5_comes_49 : decode cX5_comes 49 = .ok (.iconst 0, 1) := by decide +kernel
theorem dX5_comes_50 : decode cX5_comes 50 = .ok (.iastore, 1) := by decide +kernel
theorem dX5_comes_51 : decode cX5_comes 51 = .ok (.aload_n 0, 1) := by decide +kernel
theorem dX5_comes_52 : decode cX5_comes 52 = .ok (.getfield 7, 3) := by decide +kernel
theorem dX5_comes_55 : decode cX5_comes 55 = .ok (.iload 4, 2) := by decide +kernel
theorem dX5_comes_57 : decode cX5_comes 57 = .ok (.iconst 4, 1) := by decide +kernel
theorem dX5_comes_58 : decode cX5_comes 58 = .ok (.iadd, 1) := by decide +kernel
theorem dX5_comes_59 : decode cX5_comes 59 = .ok (.iconst 0, 1) := by decide +kernel
theorem dX5_comes_60 : decode cX5_comes 60 = .ok (.iastore, 1) := by decide +kernel
theorem dX5_comes_61 : decode cX5_comes 61 = .ok (.aload_n 0, 1) := by decide +kernel
theorem dX5_comes_62 : decode cX5_comes 62 = .ok (.getfield 7, 3) := by decide +kernel
theorem dX5_comes_65 : decode cX5_comes 65 = .ok (.iconst 3, 1) := by decide +kernel
theorem dX5_comes_66 : decode cX5_comes 66 = .ok (.dup2, 1) := by decide +kernel
theorem dX5_comes_67 : decode cX5_comes 67 = .ok (.iaload, 1) := by decide +kernel
theorem dX5_comes_68 : decode cX5_comes 68 = .ok (.iconst 1, 1) := by decide +kernel
theorem dX5_comes_69 : decode cX5_comes 69 = .ok (.iadd, 1) := by decide +kernel
theorem dX5_comes_70 : decode cX5_comes 70 = .ok (.iastore, 1) := by decide +kernel
theorem dX5_comes_71 : decode cX5_comes 71 = .ok (.aload_n 0, 1) := by decide +kernel
theorem dX5_comes_72 : decode cX5_comes 72 = .ok (.getfield 7, 3) := by decide +kernel
theorem dX5_comes_75 : decode cX5_comes 75 = .ok (.iconst 3, 1) := by decide +kernel
theorem dX5_comes_76 : decode cX5_comes 76 = .ok (.iaload, 1) := by decide +kernel
theorem dX5_comes_77 : decode cX5_comes 77 = .ok (.iconst 1, 1) := by decide +kernel
theorem dX5_comes_78 : decode cX5_comes 78 = .ok (.isub, 1) := by decide +kernel
theorem dX5_comes_79 : decode cX5_comes 79 = .ok (.ireturn, 1) := by decide +kernel
set_option maxRecDepth 20000 in
theorem ggX5_metronome_X5_isOne : GoodIn wsX5_metronome wsX5_isOne := goodIn_r _ [6, 7, 8, 5, 9] (by decide +kernel) (by decide +kernel)
set_option maxRecDepth 20000 in
theorem gX5_metronome_X5_isOne : GoodIn wsX5_metronome (va_wsS RX5 94 yX5_isOne wsX5_isOne) := goodIn_app (goodIn_of _ (by decide +kernel)) ggX5_metronome_X5_isOne
set_option maxRecDepth 20000 in
theorem ggX5_metronome_X5_fails : GoodIn wsX5_metronome wsX5_fails := goodIn_r _ [13, 1, 27, 28, 29, 30, 31, 32, 33, 34, 35, 36, 37, 38, 39, 40] (by decide +kernel) (by decide +kernel)
set_option maxRecDepth 20000 in
theorem gX5_metronome_X5_fails : GoodIn wsX5_metronome (wsV RX5 51 RX5 yX5_fails wsX5_fails) := goodIn_app (goodIn_of _ (by decide +kernel)) ggX5_metronome_X5_fails
set_option maxRecDepth 20000 in
theorem ggX5_metronome_X5_saves : GoodIn wsX5_metronome wsX5_saves := goodIn_r _ [17, 18, 19, 2, 20, 21, 5, 22, 27, 28, 29, 30, 31, 32, 33, 34, 35, 36, 37, 38, 39, 40] (by decide +kernel) (by decide +kernel)
set_option maxRecDepth 20000 in
theorem gX5_metronome_X5_saves : GoodIn wsX5_metronome (wsV RX5 55 RX5 yX5_saves wsX5_saves) := goodIn_app (goodIn_of _ (by decide +kernel)) ggX5_metronome_X5_saves
set_option maxRecDepth 20000 in
theorem ggX5_metronome_X5_comes : GoodIn wsX5_metronome wsX5_comes := goodIn_r _ [26, 2, 27, 28, 29, 30, 31, 32, 33, 34, 35, 36, 37, 38, 39, 40] (by decide +kernel) (by decide +kernel)
set_option maxRecDepth 20000 in
theorem gX5_metronome_X5_comes : GoodIn wsX5_metronome (wsV RX5 97 RX5 yX5_comes wsX5_comes) := goodIn_app (goodIn_of _ (by decide +kernel)) ggX5_metronome_X5_comes
theorem dX5_metronome_0 : decode cX5_metronome 0 = .ok (.aload_n 0, 1) := by decide +kernel
theorem dX5_metronome_1 : decode cX5_metronome 1 = .ok (.iconst 0, 1) := by decide +kernel
theorem dX5_metronome_2 : decode cX5_metronome 2 = .ok (.putfield 32, 3) := by decide +kernel
theorem dX5_metronome_5 : decode cX5_metronome 5 = .ok (.iload_n 1, 1) := by decide +kernel
theorem dX5_metronome_6 : decode cX5_metronome 6 = .ok (.iload_n 2, 1) := by decide +kernel
theorem dX5_metronome_7 : decode cX5_metronome 7 = .ok (.iload_n 3, 1) := by decide +kernel
theorem dX5_metronome_8 : decode cX5_metronome 8 = .ok (.invokestatic 94, 3) := by decide +kernel
theorem dX5_metronome_11 : decode cX5_metronome 11 = .ok (.ifCond .ne 9, 3) := by decide +kernel
theorem dX5_metronome_14 : decode cX5_metronome 14 = .ok (.aload_n 0, 1) := by decide +kernel
theorem dX5_metronome_15 : decode cX5_metronome 15 = .ok (.iconst 1, 1) := by decide +kernel
theorem dX5_metronome_16 : decode cX5_metronome 16 = .ok (.invokevirtual 51, 3) := by decide +kernel
theorem dX5_metronome_19 : decode cX5_metronome 19 = .ok (.ireturn, 1) := by decide +kernel
theorem dX5_metronome_20 : decode cX5_metronome 20 = .ok (.aload_n 0, 1) := by decide +kernel
theorem dX5_metronome_21 : decode cX5_metronome 21 = .ok (.getfield 7, 3) := by decide +kernel
theorem dX5_metronome_24 : decode cX5_metronome 24 = .ok (.iconst 3, 1) := by decide +kernel
theorem dX5_metronome_25 : decode cX5_metronome 25 = .ok (.iaload, 1) := by decide +kernel
theorem dX5_metronome_26 : decode cX5_metronome 26 = .ok (.bipush 6, 2) := by decide +kernel
theorem dX5_metronome_28 : decode cX5_metronome 28 = .ok (.if_icmp .ne 9, 3) := by decide +kernel
theorem dX5_metronome_31 : decode cX5_metronome 31 = .ok (.aload_n 0, 1) := by decide +kernel
theorem dX5_metronome_32 : decode cX5_metronome 32 = .ok (.iconst 2, 1) := by decide +kernel
theorem dX5_metronome_33 : decode cX5_metronome 33 = .ok (.invokevirtual 51, 3) := by decide +kernel
theorem dX5_metronome_36 : decode cX5_metronome 36 = .ok (.ireturn, 1) := by decide +kernel
theorem dX5_metronome_37 : decode cX5_metronome 37 = .ok (.aload_n 0, 1) := by decide +kernel
theorem dX5_metronome_38 : decode cX5_metronome 38 = .ok (.invokevirtual 55, 3) := by decide +kernel
theorem dX5_metronome_41 : decode cX5_metronome 41 = .ok (.aload_n 0, 1) := by decide +kernel
theorem dX5_metronome_42 : decode cX5_metronome 42 = .ok (.iload_n 1, 1) := by decide +kernel
theorem dX5_metronome_43 : decode cX5_metronome 43 = .ok (.iload_n 2, 1) := by decide +kernel
theorem dX5_metronome_44 : decode cX5_metronome 44 = .ok (.iload_n 3, 1) := by decide +kernel
theorem dX5_metronome_45 : decode cX5_metronome 45 = .ok (.invokevirtual 97, 3) := by decide +kernel
theorem dX5_metronome_48 : decode cX5_metronome 48 = .ok (.ireturn, 1) := by decide +kernel
theorem dX5_changes_0 : decode cX5_changes 0 = .ok (.aload_n 0, 1) := by decide +kernel
theorem dX5_changes_1 : decode cX5_changes 1 = .ok (.getfield 7, 3) := by decide +kernel
theorem dX5_changes_4 : decode cX5_changes 4 = .ok (.iload_n 1, 1) := by decide +kernel
theorem dX5_changes_5 : decode cX5_changes 5 = .ok (.iaload, 1) := by decide +kernel
theorem dX5_changes_6 : decode cX5_changes 6 = .ok (.istore_n 3, 1) := by decide +kernel
theorem dX5_changes_7 : decode cX5_changes 7 = .ok (.aload_n 0, 1) := by decide +kernel
theorem dX5_changes_8 : decode cX5_changes 8 = .ok (.getfield 7, 3) := by decide +kernel
theorem dX5_changes_11 : decode cX5_changes 11 = .ok (.iload_n 1, 1) := by decide +kernel
theorem dX5_changes_12 : decode cX5_changes 12 = .ok (.iload_n 2, 1) := by decide +kernel
theorem dX5_changes_13 : decode cX5_changes 13 = .ok (.iastore, 1) := by decide +kernel
theorem dX5_changes_14 : decode cX5_changes 14 = .ok (.iload_n 3, 1) := by decide +kernel
theorem dX5_changes_15 : decode cX5_changes 15 = .ok (.ireturn, 1) := by decide +kernel
set_option maxRecDepth 20000 in
theorem ggX5_weigh_X5_isArm : GoodIn wsX5_weigh wsX5_isArm := goodIn_r _ [6, 7, 8, 9, 5, 10, 28, 29, 30, 31, 32, 33, 34, 35, 36, 37, 38, 39, 40, 41] (by decide +kernel) (by decide +kernel)
set_option maxRecDepth 20000 in
theorem gX5_weigh_X5_isArm : GoodIn wsX5_weigh (wsV RX5 101 RX5 yX5_isArm wsX5_isArm) := goodIn_app (goodIn_of _ (by decide +kernel)) ggX5_weigh_X5_isArm
set_option maxRecDepth 20000 in
theorem ggX5_weigh_X5_fails : GoodIn wsX5_weigh wsX5_fails := goodIn_r _ [14, 1, 28, 29, 30, 31, 32, 33, 34, 35, 36, 37, 38, 39, 40, 41] (by decide +kernel) (by decide +kernel)
set_option maxRecDepth 20000 in
theorem gX5_weigh_X5_fails : GoodIn wsX5_weigh (wsV RX5 51 RX5 yX5_fails wsX5_fails) := goodIn_app (goodIn_of _ (by decide +kernel)) ggX5_weigh_X5_fails
set_option maxRecDepth 20000 in
theorem ggX5_weigh_X5_in : GoodIn wsX5_weigh wsX5_in := goodIn_r _ [10] (by decide +kernel) (by decide +kernel)
set_option maxRecDepth 20000 in
theorem gX5_weigh_X5_in : GoodIn wsX5_weigh (va_wsS RX5 36 yX5_in wsX5_in) := goodIn_app (goodIn_of _ (by decide +kernel)) ggX5_weigh_X5_in
set_option maxRecDepth 20000 in
theorem ggX5_weigh_X5_saves : GoodIn wsX5_weigh wsX5_saves := goodIn_r _ [18, 19, 20, 7, 21, 22, 5, 23, 28, 29, 30, 31, 32, 33, 34, 35, 36, 37, 38, 39, 40, 41] (by decide +kernel) (by decide +kernel)
set_option maxRecDepth 20000 in
theorem gX5_weigh_X5_saves : GoodIn wsX5_weigh (wsV RX5 55 RX5 yX5_saves wsX5_saves) := goodIn_app (goodIn_of _ (by decide +kernel)) ggX5_weigh_X5_saves
set_option maxRecDepth 20000 in
theorem ggX5_weigh_X5_changes : GoodIn wsX5_weigh wsX5_changes := goodIn_r _ [27, 7, 28, 29, 30, 31, 32, 33, 34, 35, 36, 37, 38, 39, 40, 41] (by decide +kernel) (by decide +kernel)
set_option maxRecDepth 20000 in
theorem gX5_weigh_X5_changes : GoodIn wsX5_weigh (wsV RX5 105 RX5 yX5_changes wsX5_changes) := goodIn_app (goodIn_of _ (by decide +kernel)) ggX5_weigh_X5_changes
theorem dX5_weigh_0 : decode cX5_weigh 0 = .ok (.aload_n 0, 1) := by decide +kernel
theorem dX5_weigh_1 : decode cX5_weigh 1 = .ok (.iconst 0, 1) := by decide +kernel
theorem dX5_weigh_2 : decode cX5_weigh 2 = .ok (.putfield 32, 3) := by decide +kernel
theorem dX5_weigh_5 : decode cX5_weigh 5 = .ok (.aload_n 0, 1) := by decide +kernel
theorem dX5_weigh_6 : decode cX5_weigh 6 = .ok (.iload_n 1, 1) := by decide +kernel
theorem dX5_weigh_7 : decode cX5_weigh 7 = .ok (.invokevirtual 101, 3) := by decide +kernel
theorem dX5_weigh_10 : decode cX5_weigh 10 = .ok (.ifCond .ne 9, 3) := by decide +kernel
theorem dX5_weigh_13 : decode cX5_weigh 13 = .ok (.aload_n 0, 1) := by decide +kernel
theorem dX5_weigh_14 : decode cX5_weigh 14 = .ok (.iconst 1, 1) := by decide +kernel
theorem dX5_weigh_15 : decode cX5_weigh 15 = .ok (.invokevirtual 51, 3) := by decide +kernel
theorem dX5_weigh_18 : decode cX5_weigh 18 = .ok (.ireturn, 1) := by decide +kernel
theorem dX5_weigh_19 : decode cX5_weigh 19 = .ok (.iload_n 2, 1) := by decide +kernel
theorem dX5_weigh_20 : decode cX5_weigh 20 = .ok (.bipush 40, 2) := by decide +kernel
theorem dX5_weigh_22 : decode cX5_weigh 22 = .ok (.sipush 208, 3) := by decide +kernel
theorem dX5_weigh_25 : decode cX5_weigh 25 = .ok (.invokestatic 36, 3) := by decide +kernel
theorem dX5_weigh_28 : decode cX5_weigh 28 = .ok (.ifCond .ne 9, 3) := by decide +kernel
theorem dX5_weigh_31 : decode cX5_weigh 31 = .ok (.aload_n 0, 1) := by decide +kernel
theorem dX5_weigh_32 : decode cX5_weigh 32 = .ok (.iconst 2, 1) := by decide +kernel
theorem dX5_weigh_33 : decode cX5_weigh 33 = .ok (.invokevirtual 51, 3) := by decide +kernel
theorem dX5_weigh_36 : decode cX5_weigh 36 = .ok (.ireturn, 1) := by decide +kernel
theorem dX5_weigh_37 : decode cX5_weigh 37 = .ok (.aload_n 0, 1) := by decide +kernel
theorem dX5_weigh_38 : decode cX5_weigh 38 = .ok (.invokevirtual 55, 3) := by decide +kernel
theorem dX5_weigh_41 : decode cX5_weigh 41 = .ok (.aload_n 0, 1) := by decide +kernel
theorem dX5_weigh_42 : decode cX5_weigh 42 = .ok (.bipush 9, 2) := by decide +kernel
theorem dX5_weigh_44 : decode cX5_weigh 44 = .ok (.iconst 5, 1) := by decide +kernel
theorem dX5_weigh_45 : decode cX5_weigh 45 = .ok (.iload_n 1, 1) := by decide +kernel
theorem dX5_weigh_46 : decode cX5_weigh 46 = .ok (.imul, 1) := by decide +kernel
theorem dX5_weigh_47 : decode cX5_weigh 47 = .ok (.iadd, 1) := by decide +kernel
theorem dX5_weigh_48 : decode cX5_weigh 48 = .ok (.iload_n 2, 1) := by decide +kernel
theorem dX5_weigh_49 : decode cX5_weigh 49 = .ok (.invokevirtual 105, 3) := by decide +kernel
theorem dX5_weigh_52 : decode cX5_weigh 52 = .ok (.ireturn, 1) := by decide +kernel
set_option maxRecDepth 20000 in
theorem ggX5_wind_X5_isArm : GoodIn wsX5_wind wsX5_isArm := goodIn_r _ [6, 7, 8, 9, 5, 10, 28, 29, 30, 31, 32, 33, 34, 35, 36, 37, 38, 39, 40, 41] (by decide +kernel) (by decide +kernel)
set_option maxRecDepth 20000 in
theorem gX5_wind_X5_isArm : GoodIn wsX5_wind (wsV RX5 101 RX5 yX5_isArm wsX5_isArm) := goodIn_app (goodIn_of _ (by decide +kernel)) ggX5_wind_X5_isArm
set_option maxRecDepth 20000 in
theorem ggX5_wind_X5_fails : GoodIn wsX5_wind wsX5_fails := goodIn_r _ [14, 1, 28, 29, 30, 31, 32, 33, 34, 35, 36, 37, 38, 39, 40, 41] (by decide +kernel) (by decide +kernel)
set_option maxRecDepth 20000 in
theorem gX5_wind_X5_fails : GoodIn wsX5_wind (wsV RX5 51 RX5 yX5_fails wsX5_fails) := goodIn_app (goodIn_of _ (by decide +kernel)) ggX5_wind_X5_fails
set_option maxRecDepth 20000 in
theorem ggX5_wind_X5_in : GoodIn wsX5_wind wsX5_in := goodIn_r _ [10] (by decide +kernel) (by decide +kernel)
set_option maxRecDepth 20000 in
theorem gX5_wind_X5_in : GoodIn wsX5_wind (va_wsS RX5 36 yX5_in wsX5_in) := goodIn_app (goodIn_of _ (by decide +kernel)) ggX5_wind_X5_in
set_option maxRecDepth 20000 in
theorem ggX5_wind_X5_saves : GoodIn wsX5_wind wsX5_saves := goodIn_r _ [18, 19, 20, 7, 21, 22, 5, 23, 28, 29, 30, 31, 32, 33, 34, 35, 36, 37, 38, 39, 40, 41] (by decide +kernel) (by decide +kernel)
set_option maxRecDepth 20000 in
theorem gX5_wind_X5_saves : GoodIn wsX5_wind (wsV RX5 55 RX5 yX5_saves wsX5_saves) := goodIn_app (goodIn_of _ (by decide +kernel)) ggX5_wind_X5_saves
set_option maxRecDepth 20000 in
theorem ggX5_wind_X5_changes : GoodIn wsX5_wind wsX5_changes := goodIn_r _ [27, 7, 28, 29, 30, 31, 32, 33, 34, 35, 36, 37, 38, 39, 40, 41] (by decide +kernel) (by decide +kernel)
set_option maxRecDepth 20000 in
theorem gX5_wind_X5_changes : GoodIn wsX5_wind (wsV RX5 105 RX5 yX5_changes wsX5_changes) := goodIn_app (goodIn_of _ (by decide +kernel)) ggX5_wind_X5_changes
theorem dX5_wind_0 : decode cX5_wind 0 = .ok (.aload_n 0, 1) := by decide +kernel
theorem dX5_wind_1 : decode cX5_wind 1 = .ok (.iconst 0, 1) := by decide +kernel
theorem dX5_wind_2 : decode cX5_wind 2 = .ok (.putfield 32, 3) := by decide +kernel
theorem dX5_wind_5 : decode cX5_wind 5 = .ok (.aload_n 0, 1) := by decide +kernel
theorem dX5_wind_6 : decode cX5_wind 6 = .ok (.iload_n 1, 1) := by decide +kernel
theorem dX5_wind_7 : decode cX5_wind 7 = .ok (.invokevirtual 101, 3) := by decide +kernel
theorem dX5_wind_10 : decode cX5_wind 10 = .ok (.ifCond .ne 9, 3) := by decide +kernel
theorem dX5_wind_13 : decode cX5_wind 13 = .ok (.aload_n 0, 1) := by decide +kernel
theorem dX5_wind_14 : decode cX5_wind 14 = .ok (.iconst 1, 1) := by decide +kernel
theorem dX5_wind_15 : decode cX5_wind 15 = .ok (.invokevirtual 51, 3) := by decide +kernel
theorem dX5_wind_18 : decode cX5_wind 18 = .ok (.ireturn, 1) := by decide +kernel
theorem dX5_wind_19 : decode cX5_wind 19 = .ok (.iload_n 2, 1) := by decide +kernel
theorem dX5_wind_20 : decode cX5_wind 20 = .ok (.iconst 0, 1) := by decide +kernel
theorem dX5_wind_21 : decode cX5_wind 21 = .ok (.sipush 999, 3) := by decide +kernel
theorem dX5_wind_24 : decode cX5_wind 24 = .ok (.invokestatic 36, 3) := by decide +kernel
theorem dX5_wind_27 : decode cX5_wind 27 = .ok (.ifCond .ne 9, 3) := by decide +kernel
theorem dX5_wind_30 : decode cX5_wind 30 = .ok (.aload_n 0, 1) := by decide +kernel
theorem dX5_wind_31 : decode cX5_wind 31 = .ok (.iconst 2, 1) := by decide +kernel
theorem dX5_wind_32 : decode cX5_wind 32 = .ok (.invokevirtual 51, 3) := by decide +kernel
theorem dX5_wind_35 : decode cX5_wind 35 = .ok (.ireturn, 1) := by decide +kernel
theorem dX5_wind_36 : decode cX5_wind 36 = .ok (.aload_n 0, 1) := by decide +kernel
theorem dX5_wind_37 : decode cX5_wind 37 = .ok (.invokevirtual 55, 3) := by decide +kernel
theorem dX5_wind_40 : decode cX5_wind 40 = .ok (.aload_n 0, 1) := by decide +kernel
theorem dX5_wind_41 : decode cX5_wind 41 = .ok (.bipush 9, 2) := by decide +kernel
theorem dX5_wind_43 : decode cX5_wind 43 = .ok (.iconst 5, 1) := by decide +kernel
theorem dX5_wind_44 : decode cX5_wind 44 = .ok (.iload_n 1, 1) := by decide +kernel
theorem dX5_wind_45 : decode cX5_wind 45 = .ok (.imul, 1) := by decide +kernel
theorem dX5_wind_46 : decode cX5_wind 46 = .ok (.iadd, 1) := by decide +kernel
theorem dX5_wind_47 : decode cX5_wind 47 = .ok (.iconst 2, 1) := by decide +kernel
theorem dX5_wind_48 : decode cX5_wind 48 = .ok (.iadd, 1) := by decide +kernel
theorem dX5_wind_49 : decode cX5_wind 49 = .ok (.iload_n 2, 1) := by decide +kernel
theorem dX5_wind_50 : decode cX5_wind 50 = .ok (.invokevirtual 105, 3) := by decide +kernel
theorem dX5_wind_53 : decode cX5_wind 53 = .ok (.ireturn, 1) := by decide +kernel
theorem dX5_holds_0 : decode cX5_holds 0 = .ok (.bipush 9, 2) := by decide +kernel
theorem dX5_holds_2 : decode cX5_holds 2 = .ok (.iconst 5, 1) := by decide +kernel
theorem dX5_holds_3 : decode cX5_holds 3 = .ok (.iload_n 1, 1) := by decide +kernel
theorem dX5_holds_4 : decode cX5_holds 4 = .ok (.imul, 1) := by decide +kernel
theorem dX5_holds_5 : decode cX5_holds 5 = .ok (.iadd, 1) := by decide +kernel
theorem dX5_holds_6 : decode cX5_holds 6 = .ok (.iconst 3, 1) := by decide +kernel
theorem dX5_holds_7 : decode cX5_holds 7 = .ok (.iadd, 1) := by decide +kernel
theorem dX5_holds_8 : decode cX5_holds 8 = .ok (.istore_n 2, 1) := by decide +kernel
theorem dX5_holds_9 : decode cX5_holds 9 = .ok (.aload_n 0, 1) := by decide +kernel
theorem dX5_holds_10 : decode cX5_holds 10 = .ok (.getfield 7, 3) := by decide +kernel
theorem dX5_holds_13 : decode cX5_holds 13 = .ok (.iload_n 2, 1) := by decide +kernel
theorem dX5_holds_14 : decode cX5_holds 14 = .ok (.iconst 1, 1) := by decide +kernel
theorem dX5_holds_15 : decode cX5_holds 15 = .ok (.aload_n 0, 1) := by decide +kernel
theorem dX5_holds_16 : decode cX5_holds 16 = .ok (.getfield 7, 3) := by decide +kernel
theorem dX5_holds_19 : decode cX5_holds 19 = .ok (.iload_n 2, 1) := by decide +kernel
theorem dX5_holds_20 : decode cX5_holds 20 = .ok (.iaload, 1) := by decide +kernel
theorem dX5_holds_21 : decode cX5_holds 21 = .ok (.isub, 1) := by decide +kernel
theorem dX5_holds_22 : decode cX5_holds 22 = .ok (.iastore, 1) := by decide +kernel
theorem dX5_holds_23 : decode cX5_holds 23 = .ok (.aload_n 0, 1) := by decide +kernel
theorem dX5_holds_24 : decode cX5_holds 24 = .ok (.getfield 7, 3) := by decide +kernel
theorem dX5_holds_27 : decode cX5_holds 27 = .ok (.iload_n 2, 1) := by decide +kernel
theorem dX5_holds_28 : decode cX5_holds 28 = .ok (.iaload, 1) := by decide +kernel
theorem dX5_holds_29 : decode cX5_holds 29 = .ok (.ireturn, 1) := by decide +kernel
set_option maxRecDepth 20000 in
theorem ggX5_hold_X5_isArm : GoodIn wsX5_hold wsX5_isArm := goodIn_r _ [6, 7, 8, 9, 5, 10, 28, 29, 30, 31, 32, 33, 34, 35, 36, 37, 38, 39, 40, 41] (by decide +kernel) (by decide +kernel)
set_option maxRecDepth 20000 in
theorem gX5_hold_X5_isArm : GoodIn wsX5_hold (wsV RX5 101 RX5 yX5_isArm wsX5_isArm) := goodIn_app (goodIn_of _ (by decide +kernel)) ggX5_hold_X5_isArm
set_option maxRecDepth 20000 in
theorem ggX5_hold_X5_fails : GoodIn wsX5_hold wsX5_fails := goodIn_r _ [14, 1, 28, 29, 30, 31, 32, 33, 34, 35, 36, 37, 38, 39, 40, 41] (by decide +kernel) (by decide +kernel)
set_option maxRecDepth 20000 in
theorem gX5_hold_X5_fails : GoodIn wsX5_hold (wsV RX5 51 RX5 yX5_fails wsX5_fails) := goodIn_app (goodIn_of _ (by decide +kernel)) ggX5_hold_X5_fails
set_option maxRecDepth 20000 in
theorem ggX5_hold_X5_saves : GoodIn wsX5_hold wsX5_saves := goodIn_r _ [18, 19, 20, 7, 21, 22, 5, 23, 28, 29, 30, 31, 32, 33, 34, 35, 36, 37, 38, 39, 40, 41] (by decide +kernel) (by decide +kernel)
set_option maxRecDepth 20000 in
theorem gX5_hold_X5_saves : GoodIn wsX5_hold (wsV RX5 55 RX5 yX5_saves wsX5_saves) := goodIn_app (goodIn_of _ (by decide +kernel)) ggX5_hold_X5_saves
set_option maxRecDepth 20000 in
theorem ggX5_hold_X5_holds : GoodIn wsX5_hold wsX5_holds := goodIn_r _ [27, 7, 28, 29, 30, 31, 32, 33, 34, 35, 36, 37, 38, 39, 40, 41] (by decide +kernel) (by decide +kernel)
set_option maxRecDepth 20000 in
theorem gX5_hold_X5_holds : GoodIn wsX5_hold (wsV RX5 109 RX5 yX5_holds wsX5_holds) := goodIn_app (goodIn_of _ (by decide +kernel)) ggX5_hold_X5_holds
theorem dX5_hold_0 : decode cX5_hold 0 = .ok (.aload_n 0, 1) := by decide +kernel
theorem dX5_hold_1 : decode cX5_hold 1 = .ok (.iconst 0, 1) := by decide +kernel
theorem dX5_hold_2 : decode cX5_hold 2 = .ok (.putfield 32, 3) := by decide +kernel
theorem dX5_hold_5 : decode cX5_hold 5 = .ok (.aload_n 0, 1) := by decide +kernel
theorem dX5_hold_6 : decode cX5_hold 6 = .ok (.iload_n 1, 1) := by decide +kernel
theorem dX5_hold_7 : decode cX5_hold 7 = .ok (.invokevirtual 101, 3) := by decide +kernel
theorem dX5_hold_10 : decode cX5_hold 10 = .ok (.ifCond .ne 9, 3) := by decide +kernel
theorem dX5_hold_13 : decode cX5_hold 13 = .ok (.aload_n 0, 1) := by decide +kernel
theorem dX5_hold_14 : decode cX5_hold 14 = .ok (.iconst 1, 1) := by decide +kernel
theorem dX5_hold_15 : decode cX5_hold 15 = .ok (.invokevirtual 51, 3) := by decide +kernel
theorem dX5_hold_18 : decode cX5_hold 18 = .ok (.ireturn, 1) := by decide +kernel
theorem dX5_hold_19 : decode cX5_hold 19 = .ok (.aload_n 0, 1) := by decide +kernel
theorem dX5_hold_20 : decode cX5_hold 20 = .ok (.invokevirtual 55, 3) := by decide +kernel
theorem dX5_hold_23 : decode cX5_hold 23 = .ok (.aload_n 0, 1) := by decide +kernel
theorem dX5_hold_24 : decode cX5_hold 24 = .ok (.iload_n 1, 1) := by decide +kernel
theorem dX5_hold_25 : decode cX5_hold 25 = .ok (.invokevirtual 109, 3) := by decide +kernel
theorem dX5_hold_28 : decode cX5_hold 28 = .ok (.ireturn, 1) := by decide +kernel
set_option maxRecDepth 20000 in
theorem ggX5_take_X5_fails : GoodIn wsX5_take wsX5_fails := goodIn_r _ [7, 1, 17, 18, 19, 20, 21, 22, 23, 24, 25, 26, 27, 28, 29, 30] (by decide +kernel) (by decide +kernel)
set_option maxRecDepth 20000 in
theorem gX5_take_X5_fails : GoodIn wsX5_take (wsV RX5 51 RX5 yX5_fails wsX5_fails) := goodIn_app (goodIn_of _ (by decide +kernel)) ggX5_take_X5_fails
set_option maxRecDepth 20000 in
theorem ggX5_take_X5_saves : GoodIn wsX5_take wsX5_saves := goodIn_r _ [11, 12, 13, 2, 14, 15, 6, 16, 17, 18, 19, 20, 21, 22, 23, 24, 25, 26, 27, 28, 29, 30] (by decide +kernel) (by decide +kernel)
set_option maxRecDepth 20000 in
theorem gX5_take_X5_saves : GoodIn wsX5_take (wsV RX5 55 RX5 yX5_saves wsX5_saves) := goodIn_app (goodIn_of _ (by decide +kernel)) ggX5_take_X5_saves
theorem dX5_take_0 : decode cX5_take 0 = .ok (.aload_n 0, 1) := by decide +kernel
theorem dX5_take_1 : decode cX5_take 1 = .ok (.iconst 0, 1) := by decide +kernel
theorem dX5_take_2 : decode cX5_take 2 = .ok (.putfield 32, 3) := by decide +kernel
theorem dX5_take_5 : decode cX5_take 5 = .ok (.aload_n 0, 1) := by decide +kernel
theorem dX5_take_6 : decode cX5_take 6 = .ok (.getfield 7, 3) := by decide +kernel
theorem dX5_take_9 : decode cX5_take 9 = .ok (.iconst 3, 1) := by decide +kernel
theorem dX5_take_10 : decode cX5_take 10 = .ok (.iaload, 1) := by decide +kernel
theorem dX5_take_11 : decode cX5_take 11 = .ok (.ifCond .ne 9, 3) := by decide +kernel
theorem dX5_take_14 : decode cX5_take 14 = .ok (.aload_n 0, 1) := by decide +kernel
theorem dX5_take_15 : decode cX5_take 15 = .ok (.iconst 1, 1) := by decide +kernel
theorem dX5_take_16 : decode cX5_take 16 = .ok (.invokevirtual 51, 3) := by decide +kernel
theorem dX5_take_19 : decode cX5_take 19 = .ok (.ireturn, 1) := by decide +kernel
theorem dX5_take_20 : decode cX5_take 20 = .ok (.aload_n 0, 1) := by decide +kernel
theorem dX5_take_21 : decode cX5_take 21 = .ok (.invokevirtual 55, 3) := by decide +kernel
theorem dX5_take_24 : decode cX5_take 24 = .ok (.aload_n 0, 1) := by decide +kernel
theorem dX5_take_25 : decode cX5_take 25 = .ok (.getfield 7, 3) := by decide +kernel
theorem dX5_take_28 : decode cX5_take 28 = .ok (.iconst 3, 1) := by decide +kernel
theorem dX5_take_29 : decode cX5_take 29 = .ok (.dup2, 1) := by decide +kernel
theorem dX5_take_30 : decode cX5_take 30 = .ok (.iaload, 1) := by decide +kernel
theorem dX5_take_31 : decode cX5_take 31 = .ok (.iconst 1, 1) := by decide +kernel
theorem dX5_take_32 : decode cX5_take 32 = .ok (.isub, 1) := by decide +kernel
theorem dX5_take_33 : decode cX5_take 33 = .ok (.iastore, 1) := by decide +kernel
theorem dX5_take_34 : decode cX5_take 34 = .ok (.aload_n 0, 1) := by decide +kernel
theorem dX5_take_35 : decode cX5_take 35 = .ok (.getfield 7, 3) := by decide +kernel
theorem dX5_take_38 : decode cX5_take 38 = .ok (.iconst 3, 1) := by decide +kernel
theorem dX5_take_39 : decode cX5_take 39 = .ok (.iaload, 1) := by decide +kernel
theorem dX5_take_40 : decode cX5_take 40 = .ok (.ireturn, 1) := by decide +kernel
theorem dX5_mayRun_0 : decode cX5_mayRun 0 = .ok (.aload_n 0, 1) := by decide +kernel
theorem dX5_mayRun_1 : decode cX5_mayRun 1 = .ok (.getfield 7, 3) := by decide +kernel
theorem dX5_mayRun_4 : decode cX5_mayRun 4 = .ok (.iconst 4, 1) := by decide +kernel
theorem dX5_mayRun_5 : decode cX5_mayRun 5 = .ok (.iaload, 1) := by decide +kernel
theorem dX5_mayRun_6 : decode cX5_mayRun 6 = .ok (.iload_n 1, 1) := by decide +kernel
theorem dX5_mayRun_7 : decode cX5_mayRun 7 = .ok (.iadd, 1) := by decide +kernel
theorem dX5_mayRun_8 : decode cX5_mayRun 8 = .ok (.ldc 112, 2) := by decide +kernel
theorem dX5_mayRun_10 : decode cX5_mayRun 10 = .ok (.if_icmp .gt 7, 3) := by decide +kernel
theorem dX5_mayRun_13 : decode cX5_mayRun 13 = .ok (.iconst 1, 1) := by decide +kernel
theorem dX5_mayRun_14 : decode cX5_mayRun 14 = .ok (.goto 4, 3) := by decide +kernel
theorem dX5_mayRun_17 : decode cX5_mayRun 17 = .ok (.iconst 0, 1) := by decide +kernel
theorem dX5_mayRun_18 : decode cX5_mayRun 18 = .ok (.ireturn, 1) := by decide +kernel
set_option maxRecDepth 20000 in
theorem ggX5_run_X5_in : GoodIn wsX5_run wsX5_in := goodIn_r _ [6] (by decide +kernel) (by decide +kernel)
set_option maxRecDepth 20000 in
theorem gX5_run_X5_in : GoodIn wsX5_run (va_wsS RX5 36 yX5_in wsX5_in) := goodIn_app (goodIn_of _ (by decide +kernel)) ggX5_run_X5_in
set_option maxRecDepth 20000 in
theorem ggX5_run_X5_fails : GoodIn wsX5_run wsX5_fails := goodIn_r _ [10, 1, 53, 54, 55, 56, 57, 58, 59, 60, 61, 62, 63, 64, 65, 66] (by decide +kernel) (by decide +kernel)
set_option maxRecDepth 20000 in
theorem gX5_run_X5_fails : GoodIn wsX5_run (wsV RX5 51 RX5 yX5_fails wsX5_fails) := goodIn_app (goodIn_of _ (by decide +kernel)) ggX5_run_X5_fails
set_option maxRecDepth 20000 in
theorem ggX5_run_X5_mayRun : GoodIn wsX5_run wsX5_mayRun := goodIn_r _ [14, 2, 15, 53, 54, 55, 56, 57, 58, 59, 60, 61, 62, 63, 64, 65, 66] (by decide +kernel) (by decide +kernel)
set_option maxRecDepth 20000 in
theorem gX5_run_X5_mayRun : GoodIn wsX5_run (wsV RX5 113 RX5 yX5_mayRun wsX5_mayRun) := goodIn_app (goodIn_of _ (by decide +kernel)) ggX5_run_X5_mayRun
set_option maxRecDepth 20000 in
theorem ggX5_run_X5_saves : GoodIn wsX5_run wsX5_saves := goodIn_r _ [19, 20, 21, 2, 22, 23, 5, 24, 53, 54, 55, 56, 57, 58, 59, 60, 61, 62, 63, 64, 65, 66] (by decide +kernel) (by decide +kernel)
set_option maxRecDepth 20000 in
theorem gX5_run_X5_saves : GoodIn wsX5_run (wsV RX5 55 RX5 yX5_saves wsX5_saves) := goodIn_app (goodIn_of _ (by decide +kernel)) ggX5_run_X5_saves
set_option maxRecDepth 20000 in
theorem ggX5_run_X5_steps : GoodIn wsX5_run wsX5_steps := goodIn_r _ [27, 28, 29, 5, 30, 31, 32, 33, 34, 35, 36, 37, 38, 39, 40, 41, 42, 43, 44, 45, 46, 47, 48, 49, 50, 51, 52] (by decide +kernel) (by decide +kernel)
set_option maxRecDepth 20000 in
theorem gX5_run_X5_steps : GoodIn wsX5_run (va_wsS RX5 116 yX5_steps wsX5_steps) := goodIn_app (goodIn_of _ (by decide +kernel)) ggX5_run_X5_steps
theorem dX5_run_0 : decode cX5_run 0 = .ok (.aload_n 0, 1) := by decide +kernel
theorem dX5_run_1 : decode cX5_run 1 = .ok (.iconst 0, 1) := by decide +kernel
theorem dX5_run_2 : decode cX5_run 2 = .ok (.putfield 32, 3) := by decide +kernel
theorem dX5_run_5 : decode cX5_run 5 = .ok (.iload_n 1, 1) := by decide +kernel
theorem dX5_run_6 : decode cX5_run 6 = .ok (.iconst 1, 1) := by decide +kernel
theorem dX5_run_7 : decode cX5_run 7 = .ok (.sipush 500, 3) := by decide +kernel
theorem dX5_run_10 : decode cX5_run 10 = .ok (.invokestatic 36, 3) := by decide +kernel
theorem dX5_run_13 : decode cX5_run 13 = .ok (.ifCond .ne 9, 3) := by decide +kernel
theorem dX5_run_16 : decode cX5_run 16 = .ok (.aload_n 0, 1) := by decide +kernel
theorem dX5_run_17 : decode cX5_run 17 = .ok (.iconst 1, 1) := by decide +kernel
theorem dX5_run_18 : decode cX5_run 18 = .ok (.invokevirtual 51, 3) := by decide +kernel
theorem dX5_run_21 : decode cX5_run 21 = .ok (.ireturn, 1) := by decide +kernel
theorem dX5_run_22 : decode cX5_run 22 = .ok (.aload_n 0, 1) := by decide +kernel
theorem dX5_run_23 : decode cX5_run 23 = .ok (.iload_n 1, 1) := by decide +kernel
theorem dX5_run_24 : decode cX5_run 24 = .ok (.invokevirtual 113, 3) := by decide +kernel
theorem dX5_run_27 : decode cX5_run 27 = .ok (.ifCond .ne 9, 3) := by decide +kernel
theorem dX5_run_30 : decode cX5_run 30 = .ok (.aload_n 0, 1) := by decide +kernel
theorem dX5_run_31 : decode cX5_run 31 = .ok (.iconst 2, 1) := by decide +kernel
theorem dX5_run_32 : decode cX5_run 32 = .ok (.invokevirtual 51, 3) := by decide +kernel
theorem dX5_run_35 : decode cX5_run 35 = .ok (.ireturn, 1) := by decide +kernel
theorem dX5_run_36 : decode cX5_run 36 = .ok (.aload_n 0, 1) := by decide +kernel
theorem dX5_run_37 : decode cX5_run 37 = .ok (.invokevirtual 55, 3) := by decide +kernel
theorem dX5_run_40 : decode cX5_run 40 = .ok (.aload_n 0, 1) := by decide +kernel
theorem dX5_run_41 : decode cX5_run 41 = .ok (.getfield 7, 3) := by decide +kernel
theorem dX5_run_44 : decode cX5_run 44 = .ok (.iconst 5, 1) := by decide +kernel
theorem dX5_run_45 : decode cX5_run 45 = .ok (.iaload, 1) := by decide +kernel
theorem dX5_run_46 : decode cX5_run 46 = .ok (.istore_n 2, 1) := by decide +kernel
theorem dX5_run_47 : decode cX5_run 47 = .ok (.aload_n 0, 1) := by decide +kernel
theorem dX5_run_48 : decode cX5_run 48 = .ok (.getfield 7, 3) := by decide +kernel
theorem dX5_run_51 : decode cX5_run 51 = .ok (.iload_n 1, 1) := by decide +kernel
theorem dX5_run_52 : decode cX5_run 52 = .ok (.invokestatic 116, 3) := by decide +kernel
theorem dX5_run_55 : decode cX5_run 55 = .ok (.aload_n 0, 1) := by decide +kernel
theorem dX5_run_56 : decode cX5_run 56 = .ok (.getfield 7, 3) := by decide +kernel
theorem dX5_run_59 : decode cX5_run 59 = .ok (.iconst 5, 1) := by decide +kernel
theorem dX5_run_60 : decode cX5_run 60 = .ok (.iaload, 1) := by decide +kernel
theorem dX5_run_61 : decode cX5_run 61 = .ok (.iload_n 2, 1) := by decide +kernel
theorem dX5_run_62 : decode cX5_run 62 = .ok (.isub, 1) := by decide +kernel
theorem dX5_run_63 : decode cX5_run 63 = .ok (.ireturn, 1) := by decide +kernel
theorem dX5_size_0 : decode cX5_size 0 = .ok (.iload_n 0, 1) := by decide +kernel
theorem dX5_size_1 : decode cX5_size 1 = .ok (.ifCond .ge 8, 3) := by decide +kernel
theorem dX5_size_4 : decode cX5_size 4 = .ok (.iload_n 0, 1) := by decide +kernel
theorem dX5_size_5 : decode cX5_size 5 = .ok (.ineg, 1) := by decide +kernel
theorem dX5_size_6 : decode cX5_size 6 = .ok (.goto 4, 3) := by decide +kernel
theorem dX5_size_9 : decode cX5_size 9 = .ok (.iload_n 0, 1) := by decide +kernel
theorem dX5_size_10 : decode cX5_size 10 = .ok (.ireturn, 1) := by decide +kernel
set_option maxRecDepth 20000 in
theorem ggX5_stop_X5_saves : GoodIn wsX5_stop wsX5_saves := goodIn_r _ [6, 7, 8, 9, 10, 11, 5, 12, 20, 21, 22, 23, 24, 25, 26, 27, 28, 29, 30, 31, 32, 33] (by decide +kernel) (by decide +kernel)
set_option maxRecDepth 20000 in
theorem gX5_stop_X5_saves : GoodIn wsX5_stop (wsV RX5 55 RX5 yX5_saves wsX5_saves) := goodIn_app (goodIn_of _ (by decide +kernel)) ggX5_stop_X5_saves
set_option maxRecDepth 20000 in
theorem ggX5_stop_X5_changes : GoodIn wsX5_stop wsX5_changes := goodIn_r _ [16, 9, 20, 21, 22, 23, 24, 25, 26, 27, 28, 29, 30, 31, 32, 33] (by decide +kernel) (by decide +kernel)
set_option maxRecDepth 20000 in
theorem gX5_stop_X5_changes : GoodIn wsX5_stop (wsV RX5 105 RX5 yX5_changes wsX5_changes) := goodIn_app (goodIn_of _ (by decide +kernel)) ggX5_stop_X5_changes
set_option maxRecDepth 20000 in
theorem ggX5_stop_X5_size : GoodIn wsX5_stop wsX5_size := goodIn_r _ [19] (by decide +kernel) (by decide +kernel)
set_option maxRecDepth 20000 in
theorem gX5_stop_X5_size : GoodIn wsX5_stop (va_wsS RX5 120 yX5_size wsX5_size) := goodIn_app (goodIn_of _ (by decide +kernel)) ggX5_stop_X5_size
theorem dX5_stop_0 : decode cX5_stop 0 = .ok (.aload_n 0, 1) := by decide +kernel
theorem dX5_stop_1 : decode cX5_stop 1 = .ok (.iconst 0, 1) := by decide +kernel
theorem dX5_stop_2 : decode cX5_stop 2 = .ok (.putfield 32, 3) := by decide +kernel
theorem dX5_stop_5 : decode cX5_stop 5 = .ok (.aload_n 0, 1) := by decide +kernel
theorem dX5_stop_6 : decode cX5_stop 6 = .ok (.invokevirtual 55, 3) := by decide +kernel
theorem dX5_stop_9 : decode cX5_stop 9 = .ok (.aload_n 0, 1) := by decide +kernel
theorem dX5_stop_10 : decode cX5_stop 10 = .ok (.bipush 7, 2) := by decide +kernel
theorem dX5_stop_12 : decode cX5_stop 12 = .ok (.iconst 0, 1) := by decide +kernel
theorem dX5_stop_13 : decode cX5_stop 13 = .ok (.invokevirtual 105, 3) := by decide +kernel
theorem dX5_stop_16 : decode cX5_stop 16 = .ok (.invokestatic 120, 3) := by decide +kernel
theorem dX5_stop_19 : decode cX5_stop 19 = .ok (.aload_n 0, 1) := by decide +kernel
theorem dX5_stop_20 : decode cX5_stop 20 = .ok (.bipush 8, 2) := by decide +kernel
theorem dX5_stop_22 : decode cX5_stop 22 = .ok (.iconst 0, 1) := by decide +kernel
theorem dX5_stop_23 : decode cX5_stop 23 = .ok (.invokevirtual 105, 3) := by decide +kernel
theorem dX5_stop_26 : decode cX5_stop 26 = .ok (.invokestatic 120, 3) := by decide +kernel
theorem dX5_stop_29 : decode cX5_stop 29 = .ok (.iadd, 1) := by decide +kernel
theorem dX5_stop_30 : decode cX5_stop 30 = .ok (.ireturn, 1) := by decide +kernel
set_option maxRecDepth 20000 in
theorem ggX5_set_X5_in : GoodIn wsX5_set wsX5_in := goodIn_r _ [5] (by decide +kernel) (by decide +kernel)
set_option maxRecDepth 20000 in
theorem gX5_set_X5_in : GoodIn wsX5_set (va_wsS RX5 36 yX5_in wsX5_in) := goodIn_app (goodIn_of _ (by decide +kernel)) ggX5_set_X5_in
set_option maxRecDepth 20000 in
theorem ggX5_set_X5_fails : GoodIn wsX5_set wsX5_fails := goodIn_r _ [9, 1, 24, 25, 26, 27, 28, 29, 30, 31, 32, 33, 34, 35, 36, 37] (by decide +kernel) (by decide +kernel)
set_option maxRecDepth 20000 in
theorem gX5_set_X5_fails : GoodIn wsX5_set (wsV RX5 51 RX5 yX5_fails wsX5_fails) := goodIn_app (goodIn_of _ (by decide +kernel)) ggX5_set_X5_fails
set_option maxRecDepth 20000 in
theorem ggX5_set_X5_saves : GoodIn wsX5_set wsX5_saves := goodIn_r _ [13, 14, 15, 16, 17, 18, 4, 19, 24, 25, 26, 27, 28, 29, 30, 31, 32, 33, 34, 35, 36, 37] (by decide +kernel) (by decide +kernel)
set_option maxRecDepth 20000 in
theorem gX5_set_X5_saves : GoodIn wsX5_set (wsV RX5 55 RX5 yX5_saves wsX5_saves) := goodIn_app (goodIn_of _ (by decide +kernel)) ggX5_set_X5_saves
set_option maxRecDepth 20000 in
theorem ggX5_set_X5_changes : GoodIn wsX5_set wsX5_changes := goodIn_r _ [23, 16, 24, 25, 26, 27, 28, 29, 30, 31, 32, 33, 34, 35, 36, 37] (by decide +kernel) (by decide +kernel)
set_option maxRecDepth 20000 in
theorem gX5_set_X5_changes : GoodIn wsX5_set (wsV RX5 105 RX5 yX5_changes wsX5_changes) := goodIn_app (goodIn_of _ (by decide +kernel)) ggX5_set_X5_changes
theorem dX5_set_0 : decode cX5_set 0 = .ok (.aload_n 0, 1) := by decide +kernel
theorem dX5_set_1 : decode cX5_set 1 = .ok (.iconst 0, 1) := by decide +kernel
theorem dX5_set_2 : decode cX5_set 2 = .ok (.putfield 32, 3) := by decide +kernel
theorem dX5_set_5 : decode cX5_set 5 = .ok (.iload_n 1, 1) := by decide +kernel
theorem dX5_set_6 : decode cX5_set 6 = .ok (.iconst 0, 1) := by decide +kernel
theorem dX5_set_7 : decode cX5_set 7 = .ok (.iconst 2, 1) := by decide +kernel
theorem dX5_set_8 : decode cX5_set 8 = .ok (.invokestatic 36, 3) := by decide +kernel
theorem dX5_set_11 : decode cX5_set 11 = .ok (.ifCond .ne 9, 3) := by decide +kernel
theorem dX5_set_14 : decode cX5_set 14 = .ok (.aload_n 0, 1) := by decide +kernel
theorem dX5_set_15 : decode cX5_set 15 = .ok (.iconst 1, 1) := by decide +kernel
theorem dX5_set_16 : decode cX5_set 16 = .ok (.invokevirtual 51, 3) := by decide +kernel
theorem dX5_set_19 : decode cX5_set 19 = .ok (.ireturn, 1) := by decide +kernel
theorem dX5_set_20 : decode cX5_set 20 = .ok (.iload_n 2, 1) := by decide +kernel
theorem dX5_set_21 : decode cX5_set 21 = .ok (.iconst 0, 1) := by decide +kernel
theorem dX5_set_22 : decode cX5_set 22 = .ok (.iload_n 1, 1) := by decide +kernel
theorem dX5_set_23 : decode cX5_set 23 = .ok (.ifCond .ne 8, 3) := by decide +kernel
theorem dX5_set_26 : decode cX5_set 26 = .ok (.bipush 95, 2) := by decide +kernel
theorem dX5_set_28 : decode cX5_set 28 = .ok (.goto 16, 3) := by decide +kernel
theorem dX5_set_31 : decode cX5_set 31 = .ok (.iload_n 1, 1) := by decide +kernel
theorem dX5_set_32 : decode cX5_set 32 = .ok (.iconst 1, 1) := by decide +kernel
theorem dX5_set_33 : decode cX5_set 33 = .ok (.if_icmp .ne 8, 3) := by decide +kernel
theorem dX5_set_36 : decode cX5_set 36 = .ok (.bipush 99, 2) := by decide +kernel
theorem dX5_set_38 : decode cX5_set 38 = .ok (.goto 6, 3) := by decide +kernel
theorem dX5_set_41 : decode cX5_set 41 = .ok (.sipush 900, 3) := by decide +kernel
theorem dX5_set_44 : decode cX5_set 44 = .ok (.invokestatic 36, 3) := by decide +kernel
theorem dX5_set_47 : decode cX5_set 47 = .ok (.ifCond .ne 9, 3) := by decide +kernel
theorem dX5_set_50 : decode cX5_set 50 = .ok (.aload_n 0, 1) := by decide +kernel
theorem dX5_set_51 : decode cX5_set 51 = .ok (.iconst 2, 1) := by decide +kernel
theorem dX5_set_52 : decode cX5_set 52 = .ok (.invokevirtual 51, 3) := by decide +kernel
theorem dX5_set_55 : decode cX5_set 55 = .ok (.ireturn, 1) := by decide +kernel
theorem dX5_set_56 : decode cX5_set 56 = .ok (.aload_n 0, 1) := by decide +kernel
theorem dX5_set_57 : decode cX5_set 57 = .ok (.invokevirtual 55, 3) := by decide +kernel
theorem dX5_set_60 : decode cX5_set 60 = .ok (.aload_n 0, 1) := by decide +kernel
theorem dX5_set_61 : decode cX5_set 61 = .ok (.iload_n 1, 1) := by decide +kernel
theorem dX5_set_62 : decode cX5_set 62 = .ok (.iload_n 2, 1) := by decide +kernel
theorem dX5_set_63 : decode cX5_set 63 = .ok (.invokevirtual 105, 3) := by decide +kernel
theorem dX5_set_66 : decode cX5_set 66 = .ok (.ireturn, 1) := by decide +kernel
set_option maxRecDepth 20000 in
theorem ggX5_append_X5_in : GoodIn wsX5_append wsX5_in := goodIn_r _ [7] (by decide +kernel) (by decide +kernel)
set_option maxRecDepth 20000 in
theorem gX5_append_X5_in : GoodIn wsX5_append (va_wsS RX5 36 yX5_in wsX5_in) := goodIn_app (goodIn_of _ (by decide +kernel)) ggX5_append_X5_in
set_option maxRecDepth 20000 in
theorem ggX5_append_X5_fails : GoodIn wsX5_append wsX5_fails := goodIn_r _ [11, 1, 12, 13, 14, 15, 16, 17, 18, 19, 20, 21, 22, 23, 24, 25] (by decide +kernel) (by decide +kernel)
set_option maxRecDepth 20000 in
theorem gX5_append_X5_fails : GoodIn wsX5_append (wsV RX5 51 RX5 yX5_fails wsX5_fails) := goodIn_app (goodIn_of _ (by decide +kernel)) ggX5_append_X5_fails
theorem dX5_append_0 : decode cX5_append 0 = .ok (.aload_n 0, 1) := by decide +kernel
theorem dX5_append_1 : decode cX5_append 1 = .ok (.iconst 0, 1) := by decide +kernel
theorem dX5_append_2 : decode cX5_append 2 = .ok (.putfield 32, 3) := by decide +kernel
theorem dX5_append_5 : decode cX5_append 5 = .ok (.iload_n 1, 1) := by decide +kernel
theorem dX5_append_6 : decode cX5_append 6 = .ok (.bipush 33, 2) := by decide +kernel
theorem dX5_append_8 : decode cX5_append 8 = .ok (.bipush 126, 2) := by decide +kernel
theorem dX5_append_10 : decode cX5_append 10 = .ok (.invokestatic 36, 3) := by decide +kernel
theorem dX5_append_13 : decode cX5_append 13 = .ok (.ifCond .ne 9, 3) := by decide +kernel
theorem dX5_append_16 : decode cX5_append 16 = .ok (.aload_n 0, 1) := by decide +kernel
theorem dX5_append_17 : decode cX5_append 17 = .ok (.iconst 1, 1) := by decide +kernel
theorem dX5_append_18 : decode cX5_append 18 = .ok (.invokevirtual 51, 3) := by decide +kernel
theorem dX5_append_21 : decode cX5_append 21 = .ok (.ireturn, 1) := by decide +kernel
theorem dX5_append_22 : decode cX5_append 22 = .ok (.aload_n 0, 1) := by decide +kernel
theorem dX5_append_23 : decode cX5_append 23 = .ok (.getfield 123, 3) := by decide +kernel
theorem dX5_append_26 : decode cX5_append 26 = .ok (.bipush 60, 2) := by decide +kernel
theorem dX5_append_28 : decode cX5_append 28 = .ok (.if_icmp .ne 9, 3) := by decide +kernel
theorem dX5_append_31 : decode cX5_append 31 = .ok (.aload_n 0, 1) := by decide +kernel
theorem dX5_append_32 : decode cX5_append 32 = .ok (.iconst 2, 1) := by decide +kernel
theorem dX5_append_33 : decode cX5_append 33 = .ok (.invokevirtual 51, 3) := by decide +kernel
theorem dX5_append_36 : decode cX5_append 36 = .ok (.ireturn, 1) := by decide +kernel
theorem dX5_append_37 : decode cX5_append 37 = .ok (.aload_n 0, 1) := by decide +kernel
theorem dX5_append_38 : decode cX5_append 38 = .ok (.getfield 26, 3) := by decide +kernel
theorem dX5_append_41 : decode cX5_append 41 = .ok (.aload_n 0, 1) := by decide +kernel
theorem dX5_append_42 : decode cX5_append 42 = .ok (.getfield 123, 3) := by decide +kernel
theorem dX5_append_45 : decode cX5_append 45 = .ok (.iload_n 1, 1) := by decide +kernel
theorem dX5_append_46 : decode cX5_append 46 = .ok (.iastore, 1) := by decide +kernel
theorem dX5_append_47 : decode cX5_append 47 = .ok (.aload_n 0, 1) := by decide +kernel
theorem dX5_append_48 : decode cX5_append 48 = .ok (.dup, 1) := by decide +kernel
theorem dX5_append_49 : decode cX5_append 49 = .ok (.getfield 123, 3) := by decide +kernel
theorem dX5_append_52 : decode cX5_append 52 = .ok (.iconst 1, 1) := by decide +kernel
theorem dX5_append_53 : decode cX5_append 53 = .ok (.iadd, 1) := by decide +kernel
theorem dX5_append_54 : decode cX5_append 54 = .ok (.putfield 123, 3) := by decide +kernel
theorem dX5_append_57 : decode cX5_append 57 = .ok (.aload_n 0, 1) := by decide +kernel
theorem dX5_append_58 : decode cX5_append 58 = .ok (.getfield 123, 3) := by decide +kernel
theorem dX5_append_61 : decode cX5_append 61 = .ok (.ireturn, 1) := by decide +kernel
theorem dX5_clearBuffer_0 : decode cX5_clearBuffer 0 = .ok (.aload_n 0, 1) := by decide +kernel
theorem dX5_clearBuffer_1 : decode cX5_clearBuffer 1 = .ok (.iconst 0, 1) := by decide +kernel
theorem dX5_clearBuffer_2 : decode cX5_clearBuffer 2 = .ok (.putfield 32, 3) := by decide +kernel
theorem dX5_clearBuffer_5 : decode cX5_clearBuffer 5 = .ok (.aload_n 0, 1) := by decide +kernel
theorem dX5_clearBuffer_6 : decode cX5_clearBuffer 6 = .ok (.getfield 123, 3) := by decide +kernel
theorem dX5_clearBuffer_9 : decode cX5_clearBuffer 9 = .ok (.istore_n 1, 1) := by decide +kernel
theorem dX5_clearBuffer_10 : decode cX5_clearBuffer 10 = .ok (.aload_n 0, 1) := by decide +kernel
theorem dX5_clearBuffer_11 : decode cX5_clearBuffer 11 = .ok (.iconst 0, 1) := by decide +kernel
theorem dX5_clearBuffer_12 : decode cX5_clearBuffer 12 = .ok (.putfield 123, 3) := by decide +kernel
theorem dX5_clearBuffer_15 : decode cX5_clearBuffer 15 = .ok (.iload_n 1, 1) := by decide +kernel
theorem dX5_clearBuffer_16 : decode cX5_clearBuffer 16 = .ok (.ireturn, 1) := by decide +kernel
set_option maxRecDepth 20000 in
theorem ggX5_isAt_X5_in : GoodIn wsX5_isAt wsX5_in := goodIn_r _ [7] (by decide +kernel) (by decide +kernel)
set_option maxRecDepth 20000 in
theorem gX5_isAt_X5_in : GoodIn wsX5_isAt (va_wsS RX5 36 yX5_in wsX5_in) := goodIn_app (goodIn_of _ (by decide +kernel)) ggX5_isAt_X5_in
theorem dX5_isAt_0 : decode cX5_isAt 0 = .ok (.aload_n 0, 1) := by decide +kernel
theorem dX5_isAt_1 : decode cX5_isAt 1 = .ok (.getfield 126, 3) := by decide +kernel
theorem dX5_isAt_4 : decode cX5_isAt 4 = .ok (.aload_n 0, 1) := by decide +kernel
theorem dX5_isAt_5 : decode cX5_isAt 5 = .ok (.getfield 123, 3) := by decide +kernel
theorem dX5_isAt_8 : decode cX5_isAt 8 = .ok (.if_icmp .ge 24, 3) := by decide +kernel
theorem dX5_isAt_11 : decode cX5_isAt 11 = .ok (.aload_n 0, 1) := by decide +kernel
theorem dX5_isAt_12 : decode cX5_isAt 12 = .ok (.getfield 26, 3) := by decide +kernel
theorem dX5_isAt_15 : decode cX5_isAt 15 = .ok (.aload_n 0, 1) := by decide +kernel
theorem dX5_isAt_16 : decode cX5_isAt 16 = .ok (.getfield 126, 3) := by decide +kernel
theorem dX5_isAt_19 : decode cX5_isAt 19 = .ok (.iaload, 1) := by decide +kernel
theorem dX5_isAt_20 : decode cX5_isAt 20 = .ok (.iload_n 1, 1) := by decide +kernel
theorem dX5_isAt_21 : decode cX5_isAt 21 = .ok (.iload_n 2, 1) := by decide +kernel
theorem dX5_isAt_22 : decode cX5_isAt 22 = .ok (.invokestatic 36, 3) := by decide +kernel
theorem dX5_isAt_25 : decode cX5_isAt 25 = .ok (.ifCond .eq 7, 3) := by decide +kernel
theorem dX5_isAt_28 : decode cX5_isAt 28 = .ok (.iconst 1, 1) := by decide +kernel
theorem dX5_isAt_29 : decode cX5_isAt 29 = .ok (.goto 4, 3) := by decide +kernel
theorem dX5_isAt_32 : decode cX5_isAt 32 = .ok (.iconst 0, 1) := by decide +kernel
theorem dX5_isAt_33 : decode cX5_isAt 33 = .ok (.ireturn, 1) := by decide +kernel
theorem dX5_stops_0 : decode cX5_stops 0 = .ok (.aload_n 0, 1) := by decide +kernel
theorem dX5_stops_1 : decode cX5_stops 1 = .ok (.aload_n 0, 1) := by decide +kernel
theorem dX5_stops_2 : decode cX5_stops 2 = .ok (.getfield 126, 3) := by decide +kernel
theorem dX5_stops_5 : decode cX5_stops 5 = .ok (.aload_n 0, 1) := by decide +kernel
theorem dX5_stops_6 : decode cX5_stops 6 = .ok (.getfield 123, 3) := by decide +kernel
theorem dX5_stops_9 : decode cX5_stops 9 = .ok (.if_icmp .ge 7, 3) := by decide +kernel
theorem dX5_stops_12 : decode cX5_stops 12 = .ok (.iconst 1, 1) := by decide +kernel
theorem dX5_stops_13 : decode cX5_stops 13 = .ok (.goto 4, 3) := by decide +kernel
theorem dX5_stops_16 : decode cX5_stops 16 = .ok (.iconst 0, 1) := by decide +kernel
theorem dX5_stops_17 : decode cX5_stops 17 = .ok (.putfield 129, 3) := by decide +kernel
theorem dX5_stops_20 : decode cX5_stops 20 = .ok (.iconst 0, 1) := by decide +kernel
theorem dX5_stops_21 : decode cX5_stops 21 = .ok (.ireturn, 1) := by decide +kernel
set_option maxRecDepth 20000 in
theorem ggX5_isSign_X5_isAt : GoodIn wsX5_isSign wsX5_isAt := goodIn_r _ [6, 1, 7, 8, 9, 10, 5, 11, 17, 18, 19, 20, 21, 22, 23, 24, 25, 26, 27, 28, 29, 30] (by decide +kernel) (by decide +kernel)
set_option maxRecDepth 20000 in
theorem gX5_isSign_X5_isAt : GoodIn wsX5_isSign (wsV RX5 133 RX5 yX5_isAt wsX5_isAt) := goodIn_app (goodIn_of _ (by decide +kernel)) ggX5_isSign_X5_isAt
set_option maxRecDepth 20000 in
theorem ggX5_isSign_X5_stops : GoodIn wsX5_isSign wsX5_stops := goodIn_r _ [15, 1, 7, 16, 17, 18, 19, 20, 21, 22, 23, 24, 25, 26, 27, 28, 29, 30] (by decide +kernel) (by decide +kernel)
set_option maxRecDepth 20000 in
theorem gX5_isSign_X5_stops : GoodIn wsX5_isSign (wsV RX5 137 RX5 yX5_stops wsX5_stops) := goodIn_app (goodIn_of _ (by decide +kernel)) ggX5_isSign_X5_stops
theorem dX5_isSign_0 : decode cX5_isSign 0 = .ok (.aload_n 0, 1) := by decide +kernel
theorem dX5_isSign_1 : decode cX5_isSign 1 = .ok (.iload_n 1, 1) := by decide +kernel
theorem dX5_isSign_2 : decode cX5_isSign 2 = .ok (.iload_n 1, 1) := by decide +kernel
theorem dX5_isSign_3 : decode cX5_isSign 3 = .ok (.invokevirtual 133, 3) := by decide +kernel
theorem dX5_isSign_6 : decode cX5_isSign 6 = .ok (.ifCond .ne 8, 3) := by decide +kernel
theorem dX5_isSign_9 : decode cX5_isSign 9 = .ok (.aload_n 0, 1) := by decide +kernel
theorem dX5_isSign_10 : decode cX5_isSign 10 = .ok (.invokevirtual 137, 3) := by decide +kernel
theorem dX5_isSign_13 : decode cX5_isSign 13 = .ok (.ireturn, 1) := by decide +kernel
theorem dX5_isSign_14 : decode cX5_isSign 14 = .ok (.aload_n 0, 1) := by decide +kernel
theorem dX5_isSign_15 : decode cX5_isSign 15 = .ok (.dup, 1) := by decide +kernel
theorem dX5_isSign_16 : decode cX5_isSign 16 = .ok (.getfield 126, 3) := by decide +kernel
theorem dX5_isSign_19 : decode cX5_isSign 19 = .ok (.iconst 1, 1) := by decide +kernel
theorem dX5_isSign_20 : decode cX5_isSign 20 = .ok (.iadd, 1) := by decide +kernel
theorem dX5_isSign_21 : decode cX5_isSign 21 = .ok (.putfield 126, 3) := by decide +kernel
theorem dX5_isSign_24 : decode cX5_isSign 24 = .ok (.iconst 1, 1) := by decide +kernel
theorem dX5_isSign_25 : decode cX5_isSign 25 = .ok (.ireturn, 1) := by decide +kernel
theorem dX5_canBe_0 : decode cX5_canBe 0 = .ok (.iload_n 0, 1) := by decide +kernel
theorem dX5_canBe_1 : decode cX5_canBe 1 = .ok (.istore_n 3, 1) := by decide +kernel
theorem dX5_canBe_2 : decode cX5_canBe 2 = .ok (.iload_n 0, 1) := by decide +kernel
theorem dX5_canBe_3 : decode cX5_canBe 3 = .ok (.istore 4, 2) := by decide +kernel
theorem dX5_canBe_5 : decode cX5_canBe 5 = .ok (.iconst 0, 1) := by decide +kernel
theorem dX5_canBe_6 : decode cX5_canBe 6 = .ok (.istore 5, 2) := by decide +kernel
theorem dX5_canBe_8 : decode cX5_canBe 8 = .ok (.iconst 0, 1) := by decide +kernel
theorem dX5_canBe_9 : decode cX5_canBe 9 = .ok (.istore 6, 2) := by decide +kernel
theorem dX5_canBe_11 : decode cX5_canBe 11 = .ok (.iload 6, 2) := by decide +kernel
theorem dX5_canBe_13 : decode cX5_canBe 13 = .ok (.iconst 4, 1) := by decide +kernel
theorem dX5_canBe_14 : decode cX5_canBe 14 = .ok (.if_icmp .ge 47, 3) := by decide +kernel
theorem dX5_canBe_17 : decode cX5_canBe 17 = .ok (.iload 5, 2) := by decide +kernel
theorem dX5_canBe_19 : decode cX5_canBe 19 = .ok (.ifCond .ne 14, 3) := by decide +kernel
theorem dX5_canBe_22 : decode cX5_canBe 22 = .ok (.iload_n 3, 1) := by decide +kernel
theorem dX5_canBe_23 : decode cX5_canBe 23 = .ok (.iload_n 2, 1) := by decide +kernel
theorem dX5_canBe_24 : decode cX5_canBe 24 = .ok (.if_icmp .gt 13, 3) := by decide +kernel
theorem dX5_canBe_27 : decode cX5_canBe 27 = .ok (.iload 4, 2) := by decide +kernel
theorem dX5_canBe_29 : decode cX5_canBe 29 = .ok (.iload_n 1, 1) := by decide +kernel
theorem dX5_canBe_30 : decode cX5_canBe 30 = .ok (.if_icmp .lt 7, 3) := by decide +kernel
theorem dX5_canBe_33 : decode cX5_canBe 33 = .ok (.iconst 1, 1) := by decide +kernel
theorem dX5_canBe_34 : decode cX5_canBe 34 = .ok (.goto 4, 3) := by decide +kernel
theorem dX5_canBe_37 : decode cX5_canBe 37 = .ok (.iconst 0, 1) := by decide +kernel
theorem dX5_canBe_38 : decode cX5_canBe 38 = .ok (.istore 5, 2) := by decide +kernel
theorem dX5_canBe_40 : decode cX5_canBe 40 = .ok (.bipush 10, 2) := by decide +kernel
theorem dX5_canBe_42 : decode cX5_canBe 42 = .ok (.iload_n 3, 1) := by decide +kernel
theorem dX5_canBe_43 : decode cX5_canBe 43 = .ok (.imul, 1) := by decide +kernel
theorem dX5_canBe_44 : decode cX5_canBe 44 = .ok (.istore_n 3, 1) := by decide +kernel
theorem dX5_canBe_45 : decode cX5_canBe 45 = .ok (.bipush 10, 2) := by decide +kernel
theorem dX5_canBe_47 : decode cX5_canBe 47 = .ok (.iload 4, 2) := by decide +kernel
theorem dX5_canBe_49 : decode cX5_canBe 49 = .ok (.imul, 1) := by decide +kernel
theorem dX5_canBe_50 : decode cX5_canBe 50 = .ok (.bipush 9, 2) := by decide +kernel
theorem dX5_canBe_52 : decode cX5_canBe 52 = .ok (.iadd, 1) := by decide +kernel
theorem dX5_canBe_53 : decode cX5_canBe 53 = .ok (.istore 4, 2) := by decide +kernel
theorem dX5_canBe_55 : decode cX5_canBe 55 = .ok (.iinc 6 1, 3) := by decide +kernel
theorem dX5_canBe_58 : decode cX5_canBe 58 = .ok (.goto (-47), 3) := by decide +kernel
theorem dX5_canBe_61 : decode cX5_canBe 61 = .ok (.iload 5, 2) := by decide +kernel
theorem dX5_canBe_63 : decode cX5_canBe 63 = .ok (.ireturn, 1) := by decide +kernel
set_option maxRecDepth 20000 in
theorem ggX5_isNumber_X5_isAt : GoodIn wsX5_isNumber wsX5_isAt := goodIn_r _ [10, 2, 11, 1, 12, 13, 9, 14, 23, 24, 25, 26, 27, 28, 29, 30, 31, 32, 33, 34, 35, 36] (by decide +kernel) (by decide +kernel)
set_option maxRecDepth 20000 in
theorem gX5_isNumber_X5_isAt : GoodIn wsX5_isNumber (wsV RX5 133 RX5 yX5_isAt wsX5_isAt) := goodIn_app (goodIn_of _ (by decide +kernel)) ggX5_isNumber_X5_isAt
set_option maxRecDepth 20000 in
theorem ggX5_isNumber_X5_canBe : GoodIn wsX5_isNumber wsX5_canBe := goodIn_r _ [17] (by decide +kernel) (by decide +kernel)
set_option maxRecDepth 20000 in
theorem gX5_isNumber_X5_canBe : GoodIn wsX5_isNumber (va_wsS RX5 141 yX5_canBe wsX5_canBe) := goodIn_app (goodIn_of _ (by decide +kernel)) ggX5_isNumber_X5_canBe
set_option maxRecDepth 20000 in
theorem ggX5_isNumber_X5_stops : GoodIn wsX5_isNumber wsX5_stops := goodIn_r _ [21, 2, 11, 22, 23, 24, 25, 26, 27, 28, 29, 30, 31, 32, 33, 34, 35, 36] (by decide +kernel) (by decide +kernel)
set_option maxRecDepth 20000 in
theorem gX5_isNumber_X5_stops : GoodIn wsX5_isNumber (wsV RX5 137 RX5 yX5_stops wsX5_stops) := goodIn_app (goodIn_of _ (by decide +kernel)) ggX5_isNumber_X5_stops
theorem dX5_isNumber_0 : decode cX5_isNumber 0 = .ok (.aload_n 0, 1) := by decide +kernel
theorem dX5_isNumber_1 : decode cX5_isNumber 1 = .ok (.iload_n 2, 1) := by decide +kernel
theorem dX5_isNumber_2 : decode cX5_isNumber 2 = .ok (.ifCond .ne 8, 3) := by decide +kernel
theorem dX5_isNumber_5 : decode cX5_isNumber 5 = .ok (.bipush 48, 2) := by decide +kernel
theorem dX5_isNumber_7 : decode cX5_isNumber 7 = .ok (.goto 5, 3) := by decide +kernel
theorem dX5_isNumber_10 : decode cX5_isNumber 10 = .ok (.bipush 49, 2) := by decide +kernel
theorem dX5_isNumber_12 : decode cX5_isNumber 12 = .ok (.bipush 57, 2) := by decide +kernel
theorem dX5_isNumber_14 : decode cX5_isNumber 14 = .ok (.invokevirtual 133, 3) := by decide +kernel
theorem dX5_isNumber_17 : decode cX5_isNumber 17 = .ok (.ifCond .eq 27, 3) := by decide +kernel
theorem dX5_isNumber_20 : decode cX5_isNumber 20 = .ok (.aload_n 0, 1) := by decide +kernel
theorem dX5_isNumber_21 : decode cX5_isNumber 21 = .ok (.getfield 26, 3) := by decide +kernel
theorem dX5_isNumber_24 : decode cX5_isNumber 24 = .ok (.aload_n 0, 1) := by decide +kernel
theorem dX5_isNumber_25 : decode cX5_isNumber 25 = .ok (.getfield 126, 3) := by decide +kernel
theorem dX5_isNumber_28 : decode cX5_isNumber 28 = .ok (.iaload, 1) := by decide +kernel
theorem dX5_isNumber_29 : decode cX5_isNumber 29 = .ok (.bipush 48, 2) := by decide +kernel
theorem dX5_isNumber_31 : decode cX5_isNumber 31 = .ok (.isub, 1) := by decide +kernel
theorem dX5_isNumber_32 : decode cX5_isNumber 32 = .ok (.iload_n 2, 1) := by decide +kernel
theorem dX5_isNumber_33 : decode cX5_isNumber 33 = .ok (.iload_n 3, 1) := by decide +kernel
theorem dX5_isNumber_34 : decode cX5_isNumber 34 = .ok (.invokestatic 141, 3) := by decide +kernel
theorem dX5_isNumber_37 : decode cX5_isNumber 37 = .ok (.ifCond .eq 7, 3) := by decide +kernel
theorem dX5_isNumber_40 : decode cX5_isNumber 40 = .ok (.iconst 1, 1) := by decide +kernel
theorem dX5_isNumber_41 : decode cX5_isNumber 41 = .ok (.goto 4, 3) := by decide +kernel
theorem dX5_isNumber_44 : decode cX5_isNumber 44 = .ok (.iconst 0, 1) := by decide +kernel
theorem dX5_isNumber_45 : decode cX5_isNumber 45 = .ok (.istore 4, 2) := by decide +kernel
theorem dX5_isNumber_47 : decode cX5_isNumber 47 = .ok (.iload 4, 2) := by decide +kernel
theorem dX5_isNumber_49 : decode cX5_isNumber 49 = .ok (.ifCond .ne 8, 3) := by decide +kernel
theorem dX5_isNumber_52 : decode cX5_isNumber 52 = .ok (.aload_n 0, 1) := by decide +kernel
theorem dX5_isNumber_53 : decode cX5_isNumber 53 = .ok (.invokevirtual 137, 3) := by decide +kernel
theorem dX5_isNumber_56 : decode cX5_isNumber 56 = .ok (.ireturn, 1) := by decide +kernel
theorem dX5_isNumber_57 : decode cX5_isNumber 57 = .ok (.aload_n 0, 1) := by decide +kernel
theorem dX5_isNumber_58 : decode cX5_isNumber 58 = .ok (.aload_n 0, 1) := by decide +kernel
theorem dX5_isNumber_59 : decode cX5_isNumber 59 = .ok (.getfield 26, 3) := by decide +kernel
theorem dX5_isNumber_62 : decode cX5_isNumber 62 = .ok (.aload_n 0, 1) := by decide +kernel
theorem dX5_isNumber_63 : decode cX5_isNumber 63 = .ok (.getfield 126, 3) := by decide +kernel
theorem dX5_isNumber_66 : decode cX5_isNumber 66 = .ok (.iaload, 1) := by decide +kernel
theorem dX5_isNumber_67 : decode cX5_isNumber 67 = .ok (.bipush 48, 2) := by decide +kernel
theorem dX5_isNumber_69 : decode cX5_isNumber 69 = .ok (.isub, 1) := by decide +kernel
theorem dX5_isNumber_70 : decode cX5_isNumber 70 = .ok (.putfield 144, 3) := by decide +kernel
theorem dX5_isNumber_73 : decode cX5_isNumber 73 = .ok (.aload_n 0, 1) := by decide +kernel
theorem dX5_isNumber_74 : decode cX5_isNumber 74 = .ok (.dup, 1) := by decide +kernel
theorem dX5_isNumber_75 : decode cX5_isNumber 75 = .ok (.getfield 126, 3) := by decide +kernel
theorem dX5_isNumber_78 : decode cX5_isNumber 78 = .ok (.iconst 1, 1) := by decide +kernel
theorem dX5_isNumber_79 : decode cX5_isNumber 79 = .ok (.iadd, 1) := by decide +kernel
theorem dX5_isNumber_80 : decode cX5_isNumber 80 = .ok (.putfield 126, 3) := by decide +kernel
theorem dX5_isNumber_83 : decode cX5_isNumber 83 = .ok (.aload_n 0, 1) := by decide +kernel
theorem dX5_isNumber_84 : decode cX5_isNumber 84 = .ok (.getfield 144, 3) := by decide +kernel
theorem dX5_isNumber_87 : decode cX5_isNumber 87 = .ok (.ifCond .le 79, 3) := by decide +kernel
theorem dX5_isNumber_90 : decode cX5_isNumber 90 = .ok (.aload_n 0, 1) := by decide +kernel
theorem dX5_isNumber_91 : decode cX5_isNumber 91 = .ok (.bipush 48, 2) := by decide +kernel
theorem dX5_isNumber_93 : decode cX5_isNumber 93 = .ok (.bipush 57, 2) := by decide +kernel
theorem dX5_isNumber_95 : decode cX5_isNumber 95 = .ok (.invokevirtual 133, 3) := by decide +kernel
theorem dX5_isNumber_98 : decode cX5_isNumber 98 = .ok (.ifCond .eq 68, 3) := by decide +kernel
theorem dX5_isNumber_101 : decode cX5_isNumber 101 = .ok (.bipush 10, 2) := by decide +kernel
theorem dX5_isNumber_103 : decode cX5_isNumber 103 = .ok (.aload_n 0, 1) := by decide +kernel
theorem dX5_isNumber_104 : decode cX5_isNumber 104 = .ok (.getfield 144, 3) := by decide +kernel
theorem dX5_isNumber_107 : decode cX5_isNumber 107 = .ok (.imul, 1) := by decide +kernel
theorem dX5_isNumber_108 : decode cX5_isNumber 108 = .ok (.aload_n 0, 1) := by decide +kernel
theorem dX5_isNumber_109 : decode cX5_isNumber 109 = .ok (.getfield 26, 3) := by decide +kernel
theorem dX5_isNumber_112 : decode cX5_isNumber 112 = .ok (.aload_n 0, 1) := by decide +kernel
theorem dX5_isNumber_113 : decode cX5_isNumber 113 = .ok (.getfield 126, 3) := by decide +kernel
theorem dX5_isNumber_116 : decode cX5_isNumber 116 = .ok (.iaload, 1) := by decide +kernel
theorem dX5_isNumber_117 : decode cX5_isNumber 117 = .ok (.iadd, 1) := by decide +kernel
theorem dX5_isNumber_118 : decode cX5_isNumber 118 = .ok (.bipush 48, 2) := by decide +kernel
theorem dX5_isNumber_120 : decode cX5_isNumber 120 = .ok (.isub, 1) := by decide +kernel
theorem dX5_isNumber_121 : decode cX5_isNumber 121 = .ok (.iload_n 2, 1) := by decide +kernel
theorem dX5_isNumber_122 : decode cX5_isNumber 122 = .ok (.iload_n 3, 1) := by decide +kernel
theorem dX5_isNumber_123 : decode cX5_isNumber 123 = .ok (.invokestatic 141, 3) := by decide +kernel
theorem dX5_isNumber_126 : decode cX5_isNumber 126 = .ok (.ifCond .eq 40, 3) := by decide +kernel
theorem dX5_isNumber_129 : decode cX5_isNumber 129 = .ok (.aload_n 0, 1) := by decide +kernel
theorem dX5_isNumber_130 : decode cX5_isNumber 130 = .ok (.bipush 10, 2) := by decide +kernel
theorem dX5_isNumber_132 : decode cX5_isNumber 132 = .ok (.aload_n 0, 1) := by decide +kernel
theorem dX5_isNumber_133 : decode cX5_isNumber 133 = .ok (.getfield 144, 3) := by decide +kernel
theorem dX5_isNumber_136 : decode cX5_isNumber 136 = .ok (.imul, 1) := by decide +kernel
theorem dX5_isNumber_137 : decode cX5_isNumber 137 = .ok (.aload_n 0, 1) := by decide +kernel
theorem dX5_isNumber_138 : decode cX5_isNumber 138 = .ok (.getfield 26, 3) := by decide +kernel
theorem dX5_isNumber_141 : decode cX5_isNumber 141 = .ok (.aload_n 0, 1) := by decide +kernel
theorem dX5_isNumber_142 : decode cX5_isNumber 142 = .ok (.getfield 126, 3) := by decide +kernel
theorem dX5_isNumber_145 : decode cX5_isNumber 145 = .ok (.iaload, 1) := by decide +kernel
theorem dX5_isNumber_146 : decode cX5_isNumber 146 = .ok (.iadd, 1) := by decide +kernel
theorem dX5_isNumber_147 : decode cX5_isNumber 147 = .ok (.bipush 48, 2) := by decide +kernel
theorem dX5_isNumber_149 : decode cX5_isNumber 149 = .ok (.isub, 1) := by decide +kernel
theorem dX5_isNumber_150 : decode cX5_isNumber 150 = .ok (.putfield 144, 3) := by decide +kernel
theorem dX5_isNumber_153 : decode cX5_isNumber 153 = .ok (.aload_n 0, 1) := by decide +kernel
theorem dX5_isNumber_154 : decode cX5_isNumber 154 = .ok (.dup, 1) := by decide +kernel
theorem dX5_isNumber_155 : decode cX5_isNumber 155 = .ok (.getfield 126, 3) := by decide +kernel
theorem dX5_isNumber_158 : decode cX5_isNumber 158 = .ok (.iconst 1, 1) := by decide +kernel
theorem dX5_isNumber_159 : decode cX5_isNumber 159 = .ok (.iadd, 1) := by decide +kernel
theorem dX5_isNumber_160 : decode cX5_isNumber 160 = .ok (.putfield 126, 3) := by decide +kernel
theorem dX5_isNumber_163 : decode cX5_isNumber 163 = .ok (.goto (-80), 3) := by decide +kernel
theorem dX5_isNumber_166 : decode cX5_isNumber 166 = .ok (.aload_n 0, 1) := by decide +kernel
theorem dX5_isNumber_167 : decode cX5_isNumber 167 = .ok (.getfield 29, 3) := by decide +kernel
theorem dX5_isNumber_170 : decode cX5_isNumber 170 = .ok (.iconst 4, 1) := by decide +kernel
theorem dX5_isNumber_171 : decode cX5_isNumber 171 = .ok (.aload_n 0, 1) := by decide +kernel
theorem dX5_isNumber_172 : decode cX5_isNumber 172 = .ok (.getfield 147, 3) := by decide +kernel
theorem dX5_isNumber_175 : decode cX5_isNumber 175 = .ok (.imul, 1) := by decide +kernel
theorem dX5_isNumber_176 : decode cX5_isNumber 176 = .ok (.iload_n 1, 1) := by decide +kernel
theorem dX5_isNumber_177 : decode cX5_isNumber 177 = .ok (.iadd, 1) := by decide +kernel
theorem dX5_isNumber_178 : decode cX5_isNumber 178 = .ok (.aload_n 0, 1) := by decide +kernel
theorem dX5_isNumber_179 : decode cX5_isNumber 179 = .ok (.getfield 144, 3) := by decide +kernel
theorem dX5_isNumber_182 : decode cX5_isNumber 182 = .ok (.iastore, 1) := by decide +kernel
theorem dX5_isNumber_183 : decode cX5_isNumber 183 = .ok (.aload_n 0, 1) := by decide +kernel
theorem dX5_isNumber_184 : decode cX5_isNumber 184 = .ok (.getfield 144, 3) := by decide +kernel
theorem dX5_isNumber_187 : decode cX5_isNumber 187 = .ok (.iload_n 2, 1) := by decide +kernel
theorem dX5_isNumber_188 : decode cX5_isNumber 188 = .ok (.if_icmp .ge 10, 3) := by decide +kernel
theorem dX5_isNumber_191 : decode cX5_isNumber 191 = .ok (.aload_n 0, 1) := by decide +kernel
theorem dX5_isNumber_192 : decode cX5_isNumber 192 = .ok (.invokevirtual 137, 3) := by decide +kernel
theorem dX5_isNumber_195 : decode cX5_isNumber 195 = .ok (.ifCond .eq 7, 3) := by decide +kernel
theorem dX5_isNumber_198 : decode cX5_isNumber 198 = .ok (.iconst 1, 1) := by decide +kernel
theorem dX5_isNumber_199 : decode cX5_isNumber 199 = .ok (.goto 4, 3) := by decide +kernel
theorem dX5_isNumber_202 : decode cX5_isNumber 202 = .ok (.iconst 0, 1) := by decide +kernel
theorem dX5_isNumber_203 : decode cX5_isNumber 203 = .ok (.ireturn, 1) := by decide +kernel
set_option maxRecDepth 20000 in
theorem ggX5_isToldOne_X5_isNumber : GoodIn wsX5_isToldOne wsX5_isNumber := goodIn_r _ [8, 9, 3, 10, 1, 2, 11, 12, 13, 7, 14, 15, 16, 17, 18, 19, 20, 21, 22, 23, 24, 25, 26, 31, 32, 33, 34, 35, 36, 37, 38, 39, 40, 41, 42, 43, 44] (by decide +kernel) (by decide +kernel)
set_option maxRecDepth 20000 in
theorem gX5_isToldOne_X5_isNumber : GoodIn wsX5_isToldOne (wsV RX5 150 RX5 yX5_isNumber wsX5_isNumber) := goodIn_app (goodIn_of _ (by decide +kernel)) ggX5_isToldOne_X5_isNumber
set_option maxRecDepth 20000 in
theorem ggX5_isToldOne_X5_isSign : GoodIn wsX5_isToldOne wsX5_isSign := goodIn_r _ [30, 3, 11, 12, 13, 7, 14, 15, 9, 16, 17, 18, 22, 23, 24, 25, 26, 31, 32, 33, 34, 35, 36, 37, 38, 39, 40, 41, 42, 43, 44] (by decide +kernel) (by decide +kernel)
set_option maxRecDepth 20000 in
theorem gX5_isToldOne_X5_isSign : GoodIn wsX5_isToldOne (wsV RX5 153 RX5 yX5_isSign wsX5_isSign) := goodIn_app (goodIn_of _ (by decide +kernel)) ggX5_isToldOne_X5_isSign
set_option maxRecDepth 20000 in
theorem ggX5_isToldOne_X5_isAt : GoodIn wsX5_isToldOne wsX5_isAt := goodIn_r _ [14, 3, 15, 9, 16, 17, 7, 18, 31, 32, 33, 34, 35, 36, 37, 38, 39, 40, 41, 42, 43, 44] (by decide +kernel) (by decide +kernel)
set_option maxRecDepth 20000 in
theorem gX5_isToldOne_X5_isAt : GoodIn wsX5_isToldOne (wsV RX5 133 RX5 yX5_isAt wsX5_isAt) := goodIn_app (goodIn_of _ (by decide +kernel)) ggX5_isToldOne_X5_isAt
theorem dX5_isToldOne_0 : decode cX5_isToldOne 0 = .ok (.aload_n 0, 1) := by decide +kernel
theorem dX5_isToldOne_1 : decode cX5_isToldOne 1 = .ok (.iconst 1, 1) := by decide +kernel
theorem dX5_isToldOne_2 : decode cX5_isToldOne 2 = .ok (.bipush 40, 2) := by decide +kernel
theorem dX5_isToldOne_4 : decode cX5_isToldOne 4 = .ok (.sipush 208, 3) := by decide +kernel
theorem dX5_isToldOne_7 : decode cX5_isToldOne 7 = .ok (.invokevirtual 150, 3) := by decide +kernel
theorem dX5_isToldOne_10 : decode cX5_isToldOne 10 = .ok (.ifCond .eq 24, 3) := by decide +kernel
theorem dX5_isToldOne_13 : decode cX5_isToldOne 13 = .ok (.aload_n 0, 1) := by decide +kernel
theorem dX5_isToldOne_14 : decode cX5_isToldOne 14 = .ok (.bipush 64, 2) := by decide +kernel
theorem dX5_isToldOne_16 : decode cX5_isToldOne 16 = .ok (.invokevirtual 153, 3) := by decide +kernel
theorem dX5_isToldOne_19 : decode cX5_isToldOne 19 = .ok (.ifCond .eq 15, 3) := by decide +kernel
theorem dX5_isToldOne_22 : decode cX5_isToldOne 22 = .ok (.aload_n 0, 1) := by decide +kernel
theorem dX5_isToldOne_23 : decode cX5_isToldOne 23 = .ok (.iconst 2, 1) := by decide +kernel
theorem dX5_isToldOne_24 : decode cX5_isToldOne 24 = .ok (.iconst 0, 1) := by decide +kernel
theorem dX5_isToldOne_25 : decode cX5_isToldOne 25 = .ok (.sipush 3599, 3) := by decide +kernel
theorem dX5_isToldOne_28 : decode cX5_isToldOne 28 = .ok (.invokevirtual 150, 3) := by decide +kernel
theorem dX5_isToldOne_31 : decode cX5_isToldOne 31 = .ok (.ifCond .ne 5, 3) := by decide +kernel
theorem dX5_isToldOne_34 : decode cX5_isToldOne 34 = .ok (.iconst 0, 1) := by decide +kernel
theorem dX5_isToldOne_35 : decode cX5_isToldOne 35 = .ok (.ireturn, 1) := by decide +kernel
theorem dX5_isToldOne_36 : decode cX5_isToldOne 36 = .ok (.aload_n 0, 1) := by decide +kernel
theorem dX5_isToldOne_37 : decode cX5_isToldOne 37 = .ok (.getfield 29, 3) := by decide +kernel
theorem dX5_isToldOne_40 : decode cX5_isToldOne 40 = .ok (.iconst 4, 1) := by decide +kernel
theorem dX5_isToldOne_41 : decode cX5_isToldOne 41 = .ok (.aload_n 0, 1) := by decide +kernel
theorem dX5_isToldOne_42 : decode cX5_isToldOne 42 = .ok (.getfield 147, 3) := by decide +kernel
theorem dX5_isToldOne_45 : decode cX5_isToldOne 45 = .ok (.imul, 1) := by decide +kernel
theorem dX5_isToldOne_46 : decode cX5_isToldOne 46 = .ok (.iconst 3, 1) := by decide +kernel
theorem dX5_isToldOne_47 : decode cX5_isToldOne 47 = .ok (.iadd, 1) := by decide +kernel
theorem dX5_isToldOne_48 : decode cX5_isToldOne 48 = .ok (.sipush 500, 3) := by decide +kernel
theorem dX5_isToldOne_51 : decode cX5_isToldOne 51 = .ok (.iastore, 1) := by decide +kernel
theorem dX5_isToldOne_52 : decode cX5_isToldOne 52 = .ok (.aload_n 0, 1) := by decide +kernel
theorem dX5_isToldOne_53 : decode cX5_isToldOne 53 = .ok (.bipush 42, 2) := by decide +kernel
theorem dX5_isToldOne_55 : decode cX5_isToldOne 55 = .ok (.bipush 42, 2) := by decide +kernel
theorem dX5_isToldOne_57 : decode cX5_isToldOne 57 = .ok (.invokevirtual 133, 3) := by decide +kernel
theorem dX5_isToldOne_60 : decode cX5_isToldOne 60 = .ok (.ifCond .ne 5, 3) := by decide +kernel
theorem dX5_isToldOne_63 : decode cX5_isToldOne 63 = .ok (.iconst 1, 1) := by decide +kernel
theorem dX5_isToldOne_64 : decode cX5_isToldOne 64 = .ok (.ireturn, 1) := by decide +kernel
theorem dX5_isToldOne_65 : decode cX5_isToldOne 65 = .ok (.aload_n 0, 1) := by decide +kernel
theorem dX5_isToldOne_66 : decode cX5_isToldOne 66 = .ok (.dup, 1) := by decide +kernel
theorem dX5_isToldOne_67 : decode cX5_isToldOne 67 = .ok (.getfield 126, 3) := by decide +kernel
theorem dX5_isToldOne_70 : decode cX5_isToldOne 70 = .ok (.iconst 1, 1) := by decide +kernel
theorem dX5_isToldOne_71 : decode cX5_isToldOne 71 = .ok (.iadd, 1) := by decide +kernel
theorem dX5_isToldOne_72 : decode cX5_isToldOne 72 = .ok (.putfield 126, 3) := by decide +kernel
theorem dX5_isToldOne_75 : decode cX5_isToldOne 75 = .ok (.aload_n 0, 1) := by decide +kernel
theorem dX5_isToldOne_76 : decode cX5_isToldOne 76 = .ok (.iconst 3, 1) := by decide +kernel
theorem dX5_isToldOne_77 : decode cX5_isToldOne 77 = .ok (.iconst 1, 1) := by decide +kernel
theorem dX5_isToldOne_78 : decode cX5_isToldOne 78 = .ok (.sipush 999, 3) := by decide +kernel
theorem dX5_isToldOne_81 : decode cX5_isToldOne 81 = .ok (.invokevirtual 150, 3) := by decide +kernel
theorem dX5_isToldOne_84 : decode cX5_isToldOne 84 = .ok (.ireturn, 1) := by decide +kernel
set_option maxRecDepth 20000 in
theorem ggX5_isOrder_X5_isToldOne : GoodIn wsX5_isOrder wsX5_isToldOne := goodIn_r _ [10, 4, 5, 1, 11, 12, 13, 9, 14, 3, 15, 16, 17, 18, 19, 2, 20, 21, 22, 23, 24, 25, 26, 27, 28, 29, 30, 31, 32, 33, 34, 35, 36, 37, 38, 39, 40, 41, 42, 43, 44, 45, 46, 47, 48] (by decide +kernel) (by decide +kernel)
set_option maxRecDepth 20000 in
theorem gX5_isOrder_X5_isToldOne : GoodIn wsX5_isOrder (wsV RX5 156 RX5 yX5_isToldOne wsX5_isToldOne) := goodIn_app (goodIn_of _ (by decide +kernel)) ggX5_isOrder_X5_isToldOne
set_option maxRecDepth 20000 in
theorem ggX5_isOrder_X5_isNumber : GoodIn wsX5_isOrder wsX5_isNumber := goodIn_r _ [14, 3, 1, 15, 4, 5, 16, 17, 18, 9, 19, 2, 20, 21, 22, 23, 24, 25, 26, 27, 28, 29, 30, 35, 36, 37, 38, 39, 40, 41, 42, 43, 44, 45, 46, 47, 48] (by decide +kernel) (by decide +kernel)
set_option maxRecDepth 20000 in
theorem gX5_isOrder_X5_isNumber : GoodIn wsX5_isOrder (wsV RX5 150 RX5 yX5_isNumber wsX5_isNumber) := goodIn_app (goodIn_of _ (by decide +kernel)) ggX5_isOrder_X5_isNumber
set_option maxRecDepth 20000 in
theorem ggX5_isOrder_X5_isAt : GoodIn wsX5_isOrder wsX5_isAt := goodIn_r _ [19, 1, 2, 3, 20, 21, 9, 22, 35, 36, 37, 38, 39, 40, 41, 42, 43, 44, 45, 46, 47, 48] (by decide +kernel) (by decide +kernel)
set_option maxRecDepth 20000 in
theorem gX5_isOrder_X5_isAt : GoodIn wsX5_isOrder (wsV RX5 133 RX5 yX5_isAt wsX5_isAt) := goodIn_app (goodIn_of _ (by decide +kernel)) ggX5_isOrder_X5_isAt
set_option maxRecDepth 20000 in
theorem ggX5_isOrder_X5_stops : GoodIn wsX5_isOrder wsX5_stops := goodIn_r _ [29, 1, 2, 30, 35, 36, 37, 38, 39, 40, 41, 42, 43, 44, 45, 46, 47, 48] (by decide +kernel) (by decide +kernel)
set_option maxRecDepth 20000 in
theorem gX5_isOrder_X5_stops : GoodIn wsX5_isOrder (wsV RX5 137 RX5 yX5_stops wsX5_stops) := goodIn_app (goodIn_of _ (by decide +kernel)) ggX5_isOrder_X5_stops
theorem dX5_isOrder_0 : decode cX5_isOrder 0 = .ok (.aload_n 0, 1) := by decide +kernel
theorem dX5_isOrder_1 : decode cX5_isOrder 1 = .ok (.getfield 126, 3) := by decide +kernel
theorem dX5_isOrder_4 : decode cX5_isOrder 4 = .ok (.aload_n 0, 1) := by decide +kernel
theorem dX5_isOrder_5 : decode cX5_isOrder 5 = .ok (.getfield 123, 3) := by decide +kernel
theorem dX5_isOrder_8 : decode cX5_isOrder 8 = .ok (.if_icmp .ge 15, 3) := by decide +kernel
theorem dX5_isOrder_11 : decode cX5_isOrder 11 = .ok (.aload_n 0, 1) := by decide +kernel
theorem dX5_isOrder_12 : decode cX5_isOrder 12 = .ok (.getfield 26, 3) := by decide +kernel
theorem dX5_isOrder_15 : decode cX5_isOrder 15 = .ok (.aload_n 0, 1) := by decide +kernel
theorem dX5_isOrder_16 : decode cX5_isOrder 16 = .ok (.getfield 126, 3) := by decide +kernel
theorem dX5_isOrder_19 : decode cX5_isOrder 19 = .ok (.iaload, 1) := by decide +kernel
theorem dX5_isOrder_20 : decode cX5_isOrder 20 = .ok (.goto 4, 3) := by decide +kernel
theorem dX5_isOrder_23 : decode cX5_isOrder 23 = .ok (.iconst 0, 1) := by decide +kernel
theorem dX5_isOrder_24 : decode cX5_isOrder 24 = .ok (.istore_n 1, 1) := by decide +kernel
theorem dX5_isOrder_25 : decode cX5_isOrder 25 = .ok (.aload_n 0, 1) := by decide +kernel
theorem dX5_isOrder_26 : decode cX5_isOrder 26 = .ok (.getfield 29, 3) := by decide +kernel
theorem dX5_isOrder_29 : decode cX5_isOrder 29 = .ok (.iconst 4, 1) := by decide +kernel
theorem dX5_isOrder_30 : decode cX5_isOrder 30 = .ok (.aload_n 0, 1) := by decide +kernel
theorem dX5_isOrder_31 : decode cX5_isOrder 31 = .ok (.getfield 147, 3) := by decide +kernel
theorem dX5_isOrder_34 : decode cX5_isOrder 34 = .ok (.imul, 1) := by decide +kernel
theorem dX5_isOrder_35 : decode cX5_isOrder 35 = .ok (.iload_n 1, 1) := by decide +kernel
theorem dX5_isOrder_36 : decode cX5_isOrder 36 = .ok (.iastore, 1) := by decide +kernel
theorem dX5_isOrder_37 : decode cX5_isOrder 37 = .ok (.iload_n 1, 1) := by decide +kernel
theorem dX5_isOrder_38 : decode cX5_isOrder 38 = .ok (.lookupswitch 132 #[(104, 69), (109, 34), (115, 49)], 34) := by decide +kernel
theorem dX5_isOrder_72 : decode cX5_isOrder 72 = .ok (.aload_n 0, 1) := by decide +kernel
theorem dX5_isOrder_73 : decode cX5_isOrder 73 = .ok (.dup, 1) := by decide +kernel
theorem dX5_isOrder_74 : decode cX5_isOrder 74 = .ok (.getfield 126, 3) := by decide +kernel
theorem dX5_isOrder_77 : decode cX5_isOrder 77 = .ok (.iconst 1, 1) := by decide +kernel
theorem dX5_isOrder_78 : decode cX5_isOrder 78 = .ok (.iadd, 1) := by decide +kernel
theorem dX5_isOrder_79 : decode cX5_isOrder 79 = .ok (.putfield 126, 3) := by decide +kernel
theorem dX5_isOrder_82 : decode cX5_isOrder 82 = .ok (.aload_n 0, 1) := by decide +kernel
theorem dX5_isOrder_83 : decode cX5_isOrder 83 = .ok (.invokevirtual 156, 3) := by decide +kernel
theorem dX5_isOrder_86 : decode cX5_isOrder 86 = .ok (.ireturn, 1) := by decide +kernel
theorem dX5_isOrder_87 : decode cX5_isOrder 87 = .ok (.aload_n 0, 1) := by decide +kernel
theorem dX5_isOrder_88 : decode cX5_isOrder 88 = .ok (.dup, 1) := by decide +kernel
theorem dX5_isOrder_89 : decode cX5_isOrder 89 = .ok (.getfield 126, 3) := by decide +kernel
theorem dX5_isOrder_92 : decode cX5_isOrder 92 = .ok (.iconst 1, 1) := by decide +kernel
theorem dX5_isOrder_93 : decode cX5_isOrder 93 = .ok (.iadd, 1) := by decide +kernel
theorem dX5_isOrder_94 : decode cX5_isOrder 94 = .ok (.putfield 126, 3) := by decide +kernel
theorem dX5_isOrder_97 : decode cX5_isOrder 97 = .ok (.aload_n 0, 1) := by decide +kernel
theorem dX5_isOrder_98 : decode cX5_isOrder 98 = .ok (.iconst 1, 1) := by decide +kernel
theorem dX5_isOrder_99 : decode cX5_isOrder 99 = .ok (.iconst 1, 1) := by decide +kernel
theorem dX5_isOrder_100 : decode cX5_isOrder 100 = .ok (.sipush 500, 3) := by decide +kernel
theorem dX5_isOrder_103 : decode cX5_isOrder 103 = .ok (.invokevirtual 150, 3) := by decide +kernel
theorem dX5_isOrder_106 : decode cX5_isOrder 106 = .ok (.ireturn, 1) := by decide +kernel
theorem dX5_isOrder_107 : decode cX5_isOrder 107 = .ok (.aload_n 0, 1) := by decide +kernel
theorem dX5_isOrder_108 : decode cX5_isOrder 108 = .ok (.dup, 1) := by decide +kernel
theorem dX5_isOrder_109 : decode cX5_isOrder 109 = .ok (.getfield 126, 3) := by decide +kernel
theorem dX5_isOrder_112 : decode cX5_isOrder 112 = .ok (.iconst 1, 1) := by decide +kernel
theorem dX5_isOrder_113 : decode cX5_isOrder 113 = .ok (.iadd, 1) := by decide +kernel
theorem dX5_isOrder_114 : decode cX5_isOrder 114 = .ok (.putfield 126, 3) := by decide +kernel
theorem dX5_isOrder_117 : decode cX5_isOrder 117 = .ok (.aload_n 0, 1) := by decide +kernel
theorem dX5_isOrder_118 : decode cX5_isOrder 118 = .ok (.bipush 48, 2) := by decide +kernel
theorem dX5_isOrder_120 : decode cX5_isOrder 120 = .ok (.bipush 53, 2) := by decide +kernel
theorem dX5_isOrder_122 : decode cX5_isOrder 122 = .ok (.invokevirtual 133, 3) := by decide +kernel
theorem dX5_isOrder_125 : decode cX5_isOrder 125 = .ok (.ifCond .ne 8, 3) := by decide +kernel
theorem dX5_isOrder_128 : decode cX5_isOrder 128 = .ok (.aload_n 0, 1) := by decide +kernel
theorem dX5_isOrder_129 : decode cX5_isOrder 129 = .ok (.invokevirtual 137, 3) := by decide +kernel
theorem dX5_isOrder_132 : decode cX5_isOrder 132 = .ok (.ireturn, 1) := by decide +kernel
theorem dX5_isOrder_133 : decode cX5_isOrder 133 = .ok (.aload_n 0, 1) := by decide +kernel
theorem dX5_isOrder_134 : decode cX5_isOrder 134 = .ok (.getfield 29, 3) := by decide +kernel
theorem dX5_isOrder_137 : decode cX5_isOrder 137 = .ok (.iconst 4, 1) := by decide +kernel
theorem dX5_isOrder_138 : decode cX5_isOrder 138 = .ok (.aload_n 0, 1) := by decide +kernel
theorem dX5_isOrder_139 : decode cX5_isOrder 139 = .ok (.getfield 147, 3) := by decide +kernel
theorem dX5_isOrder_142 : decode cX5_isOrder 142 = .ok (.imul, 1) := by decide +kernel
theorem dX5_isOrder_143 : decode cX5_isOrder 143 = .ok (.iconst 1, 1) := by decide +kernel
theorem dX5_isOrder_144 : decode cX5_isOrder 144 = .ok (.iadd, 1) := by decide +kernel
theorem dX5_isOrder_145 : decode cX5_isOrder 145 = .ok (.aload_n 0, 1) := by decide +kernel
theorem dX5_isOrder_146 : decode cX5_isOrder 146 = .ok (.getfield 26, 3) := by decide +kernel
theorem dX5_isOrder_149 : decode cX5_isOrder 149 = .ok (.aload_n 0, 1) := by decide +kernel
theorem dX5_isOrder_150 : decode cX5_isOrder 150 = .ok (.getfield 126, 3) := by decide +kernel
theorem dX5_isOrder_153 : decode cX5_isOrder 153 = .ok (.iaload, 1) := by decide +kernel
theorem dX5_isOrder_154 : decode cX5_isOrder 154 = .ok (.bipush 48, 2) := by decide +kernel
theorem dX5_isOrder_156 : decode cX5_isOrder 156 = .ok (.isub, 1) := by decide +kernel
theorem dX5_isOrder_157 : decode cX5_isOrder 157 = .ok (.iastore, 1) := by decide +kernel
theorem dX5_isOrder_158 : decode cX5_isOrder 158 = .ok (.aload_n 0, 1) := by decide +kernel
theorem dX5_isOrder_159 : decode cX5_isOrder 159 = .ok (.dup, 1) := by decide +kernel
theorem dX5_isOrder_160 : decode cX5_isOrder 160 = .ok (.getfield 126, 3) := by decide +kernel
theorem dX5_isOrder_163 : decode cX5_isOrder 163 = .ok (.iconst 1, 1) := by decide +kernel
theorem dX5_isOrder_164 : decode cX5_isOrder 164 = .ok (.iadd, 1) := by decide +kernel
theorem dX5_isOrder_165 : decode cX5_isOrder 165 = .ok (.putfield 126, 3) := by decide +kernel
theorem dX5_isOrder_168 : decode cX5_isOrder 168 = .ok (.iconst 1, 1) := by decide +kernel
theorem dX5_isOrder_169 : decode cX5_isOrder 169 = .ok (.ireturn, 1) := by decide +kernel
theorem dX5_isOrder_170 : decode cX5_isOrder 170 = .ok (.aload_n 0, 1) := by decide +kernel
theorem dX5_isOrder_171 : decode cX5_isOrder 171 = .ok (.invokevirtual 137, 3) := by decide +kernel
theorem dX5_isOrder_174 : decode cX5_isOrder 174 = .ok (.ireturn, 1) := by decide +kernel
set_option maxRecDepth 20000 in
theorem ggX5_isText_X5_isOrder : GoodIn wsX5_isText wsX5_isOrder := goodIn_r _ [9, 1, 4, 10, 11, 2, 12, 13, 14, 8, 15, 16, 17, 18, 19, 20, 21, 22, 23, 24, 25, 26, 27, 28, 29, 30, 31, 32, 33, 34, 3, 35, 36, 37, 38, 39, 40, 41, 42, 43, 44, 45, 46, 47, 48, 49, 50, 51, 52] (by decide +kernel) (by decide +kernel)
set_option maxRecDepth 20000 in
theorem gX5_isText_X5_isOrder : GoodIn wsX5_isText (wsV RX5 159 RX5 yX5_isOrder wsX5_isOrder) := goodIn_app (goodIn_of _ (by decide +kernel)) ggX5_isText_X5_isOrder
set_option maxRecDepth 20000 in
theorem ggX5_isText_X5_isAt : GoodIn wsX5_isText wsX5_isAt := goodIn_r _ [24, 1, 4, 10, 25, 26, 8, 27, 39, 40, 41, 42, 43, 44, 45, 46, 47, 48, 49, 50, 51, 52] (by decide +kernel) (by decide +kernel)
set_option maxRecDepth 20000 in
theorem gX5_isText_X5_isAt : GoodIn wsX5_isText (wsV RX5 133 RX5 yX5_isAt wsX5_isAt) := goodIn_app (goodIn_of _ (by decide +kernel)) ggX5_isText_X5_isAt
theorem dX5_isText_0 : decode cX5_isText 0 = .ok (.aload_n 0, 1) := by decide +kernel
theorem dX5_isText_1 : decode cX5_isText 1 = .ok (.iconst 0, 1) := by decide +kernel
theorem dX5_isText_2 : decode cX5_isText 2 = .ok (.putfield 126, 3) := by decide +kernel
theorem dX5_isText_5 : decode cX5_isText 5 = .ok (.aload_n 0, 1) := by decide +kernel
theorem dX5_isText_6 : decode cX5_isText 6 = .ok (.iconst 0, 1) := by decide +kernel
theorem dX5_isText_7 : decode cX5_isText 7 = .ok (.putfield 147, 3) := by decide +kernel
theorem dX5_isText_10 : decode cX5_isText 10 = .ok (.aload_n 0, 1) := by decide +kernel
theorem dX5_isText_11 : decode cX5_isText 11 = .ok (.iconst 0, 1) := by decide +kernel
theorem dX5_isText_12 : decode cX5_isText 12 = .ok (.putfield 129, 3) := by decide +kernel
theorem dX5_isText_15 : decode cX5_isText 15 = .ok (.iconst 1, 1) := by decide +kernel
theorem dX5_isText_16 : decode cX5_isText 16 = .ok (.istore_n 1, 1) := by decide +kernel
theorem dX5_isText_17 : decode cX5_isText 17 = .ok (.iload_n 1, 1) := by decide +kernel
theorem dX5_isText_18 : decode cX5_isText 18 = .ok (.ifCond .eq 52, 3) := by decide +kernel
theorem dX5_isText_21 : decode cX5_isText 21 = .ok (.aload_n 0, 1) := by decide +kernel
theorem dX5_isText_22 : decode cX5_isText 22 = .ok (.invokevirtual 159, 3) := by decide +kernel
theorem dX5_isText_25 : decode cX5_isText 25 = .ok (.ifCond .ne 5, 3) := by decide +kernel
theorem dX5_isText_28 : decode cX5_isText 28 = .ok (.iconst 0, 1) := by decide +kernel
theorem dX5_isText_29 : decode cX5_isText 29 = .ok (.ireturn, 1) := by decide +kernel
theorem dX5_isText_30 : decode cX5_isText 30 = .ok (.aload_n 0, 1) := by decide +kernel
theorem dX5_isText_31 : decode cX5_isText 31 = .ok (.dup, 1) := by decide +kernel
theorem dX5_isText_32 : decode cX5_isText 32 = .ok (.getfield 147, 3) := by decide +kernel
theorem dX5_isText_35 : decode cX5_isText 35 = .ok (.iconst 1, 1) := by decide +kernel
theorem dX5_isText_36 : decode cX5_isText 36 = .ok (.iadd, 1) := by decide +kernel
theorem dX5_isText_37 : decode cX5_isText 37 = .ok (.putfield 147, 3) := by decide +kernel
theorem dX5_isText_40 : decode cX5_isText 40 = .ok (.aload_n 0, 1) := by decide +kernel
theorem dX5_isText_41 : decode cX5_isText 41 = .ok (.bipush 59, 2) := by decide +kernel
theorem dX5_isText_43 : decode cX5_isText 43 = .ok (.bipush 59, 2) := by decide +kernel
theorem dX5_isText_45 : decode cX5_isText 45 = .ok (.invokevirtual 133, 3) := by decide +kernel
theorem dX5_isText_48 : decode cX5_isText 48 = .ok (.istore_n 1, 1) := by decide +kernel
theorem dX5_isText_49 : decode cX5_isText 49 = .ok (.aload_n 0, 1) := by decide +kernel
theorem dX5_isText_50 : decode cX5_isText 50 = .ok (.dup, 1) := by decide +kernel
theorem dX5_isText_51 : decode cX5_isText 51 = .ok (.getfield 126, 3) := by decide +kernel
theorem dX5_isText_54 : decode cX5_isText 54 = .ok (.iload_n 1, 1) := by decide +kernel
theorem dX5_isText_55 : decode cX5_isText 55 = .ok (.ifCond .eq 7, 3) := by decide +kernel
theorem dX5_isText_58 : decode cX5_isText 58 = .ok (.iconst 1, 1) := by decide +kernel
theorem dX5_isText_59 : decode cX5_isText 59 = .ok (.goto 4, 3) := by decide +kernel
theorem dX5_isText_62 : decode cX5_isText 62 = .ok (.iconst 0, 1) := by decide +kernel
theorem dX5_isText_63 : decode cX5_isText 63 = .ok (.iadd, 1) := by decide +kernel
theorem dX5_isText_64 : decode cX5_isText 64 = .ok (.putfield 126, 3) := by decide +kernel
theorem dX5_isText_67 : decode cX5_isText 67 = .ok (.goto (-50), 3) := by decide +kernel
theorem dX5_isText_70 : decode cX5_isText 70 = .ok (.aload_n 0, 1) := by decide +kernel
theorem dX5_isText_71 : decode cX5_isText 71 = .ok (.aload_n 0, 1) := by decide +kernel
theorem dX5_isText_72 : decode cX5_isText 72 = .ok (.getfield 126, 3) := by decide +kernel
theorem dX5_isText_75 : decode cX5_isText 75 = .ok (.aload_n 0, 1) := by decide +kernel
theorem dX5_isText_76 : decode cX5_isText 76 = .ok (.getfield 123, 3) := by decide +kernel
theorem dX5_isText_79 : decode cX5_isText 79 = .ok (.if_icmp .ge 7, 3) := by decide +kernel
theorem dX5_isText_82 : decode cX5_isText 82 = .ok (.iconst 1, 1) := by decide +kernel
theorem dX5_isText_83 : decode cX5_isText 83 = .ok (.goto 4, 3) := by decide +kernel
theorem dX5_isText_86 : decode cX5_isText 86 = .ok (.iconst 0, 1) := by decide +kernel
theorem dX5_isText_87 : decode cX5_isText 87 = .ok (.putfield 129, 3) := by decide +kernel
theorem dX5_isText_90 : decode cX5_isText 90 = .ok (.aload_n 0, 1) := by decide +kernel
theorem dX5_isText_91 : decode cX5_isText 91 = .ok (.getfield 126, 3) := by decide +kernel
theorem dX5_isText_94 : decode cX5_isText 94 = .ok (.aload_n 0, 1) := by decide +kernel
theorem dX5_isText_95 : decode cX5_isText 95 = .ok (.getfield 123, 3) := by decide +kernel
theorem dX5_isText_98 : decode cX5_isText 98 = .ok (.if_icmp .ne 7, 3) := by decide +kernel
theorem dX5_isText_101 : decode cX5_isText 101 = .ok (.iconst 1, 1) := by decide +kernel
theorem dX5_isText_102 : decode cX5_isText 102 = .ok (.goto 4, 3) := by decide +kernel
theorem dX5_isText_105 : decode cX5_isText 105 = .ok (.iconst 0, 1) := by decide +kernel
theorem dX5_isText_106 : decode cX5_isText 106 = .ok (.ireturn, 1) := by decide +kernel
set_option maxRecDepth 20000 in
theorem ggX5_firstError_X5_isText : GoodIn wsX5_firstError wsX5_isText := goodIn_r _ [9, 3, 10, 2, 4, 11, 12, 13, 8, 14, 15, 16, 17, 18, 19, 20, 21, 22, 23, 24, 25, 26, 27, 28, 29, 30, 31, 32, 33, 34, 35, 36, 37, 38, 39, 40, 41, 42, 43, 44, 45, 46, 47, 48, 49, 50, 51, 52, 53, 54, 55, 56, 57] (by decide +kernel) (by decide +kernel)
set_option maxRecDepth 20000 in
theorem gX5_firstError_X5_isText : GoodIn wsX5_firstError (wsV RX5 162 RX5 yX5_isText wsX5_isText) := goodIn_app (goodIn_of _ (by decide +kernel)) ggX5_firstError_X5_isText
theorem dX5_firstError_0 : decode cX5_firstError 0 = .ok (.aload_n 0, 1) := by decide +kernel
theorem dX5_firstError_1 : decode cX5_firstError 1 = .ok (.iconst 0, 1) := by decide +kernel
theorem dX5_firstError_2 : decode cX5_firstError 2 = .ok (.putfield 32, 3) := by decide +kernel
theorem dX5_firstError_5 : decode cX5_firstError 5 = .ok (.aload_n 0, 1) := by decide +kernel
theorem dX5_firstError_6 : decode cX5_firstError 6 = .ok (.invokevirtual 162, 3) := by decide +kernel
theorem dX5_firstError_9 : decode cX5_firstError 9 = .ok (.istore_n 1, 1) := by decide +kernel
theorem dX5_firstError_10 : decode cX5_firstError 10 = .ok (.iload_n 1, 1) := by decide +kernel
theorem dX5_firstError_11 : decode cX5_firstError 11 = .ok (.ifCond .ne 17, 3) := by decide +kernel
theorem dX5_firstError_14 : decode cX5_firstError 14 = .ok (.aload_n 0, 1) := by decide +kernel
theorem dX5_firstError_15 : decode cX5_firstError 15 = .ok (.getfield 129, 3) := by decide +kernel
theorem dX5_firstError_18 : decode cX5_firstError 18 = .ok (.ifCond .eq 10, 3) := by decide +kernel
theorem dX5_firstError_21 : decode cX5_firstError 21 = .ok (.aload_n 0, 1) := by decide +kernel
theorem dX5_firstError_22 : decode cX5_firstError 22 = .ok (.getfield 126, 3) := by decide +kernel
theorem dX5_firstError_25 : decode cX5_firstError 25 = .ok (.goto 7, 3) := by decide +kernel
theorem dX5_firstError_28 : decode cX5_firstError 28 = .ok (.aload_n 0, 1) := by decide +kernel
theorem dX5_firstError_29 : decode cX5_firstError 29 = .ok (.getfield 123, 3) := by decide +kernel
theorem dX5_firstError_32 : decode cX5_firstError 32 = .ok (.ireturn, 1) := by decide +kernel
set_option maxRecDepth 20000 in
theorem ggX5_does_X5_comes : GoodIn wsX5_does wsX5_comes := goodIn_r _ [7, 2, 52, 53, 54, 55, 56, 57, 58, 59, 60, 61, 62, 63, 64, 65] (by decide +kernel) (by decide +kernel)
set_option maxRecDepth 20000 in
theorem gX5_does_X5_comes : GoodIn wsX5_does (wsV RX5 97 RX5 yX5_comes wsX5_comes) := goodIn_app (goodIn_of _ (by decide +kernel)) ggX5_does_X5_comes
set_option maxRecDepth 20000 in
theorem ggX5_does_X5_mayRun : GoodIn wsX5_does wsX5_mayRun := goodIn_r _ [11, 2, 12, 52, 53, 54, 55, 56, 57, 58, 59, 60, 61, 62, 63, 64, 65] (by decide +kernel) (by decide +kernel)
set_option maxRecDepth 20000 in
theorem gX5_does_X5_mayRun : GoodIn wsX5_does (wsV RX5 113 RX5 yX5_mayRun wsX5_mayRun) := goodIn_app (goodIn_of _ (by decide +kernel)) ggX5_does_X5_mayRun
set_option maxRecDepth 20000 in
theorem ggX5_does_X5_steps : GoodIn wsX5_does wsX5_steps := goodIn_r _ [15, 16, 17, 6, 18, 19, 20, 21, 22, 23, 24, 25, 26, 27, 28, 29, 30, 31, 32, 33, 34, 35, 36, 37, 38, 39, 40] (by decide +kernel) (by decide +kernel)
set_option maxRecDepth 20000 in
theorem gX5_does_X5_steps : GoodIn wsX5_does (va_wsS RX5 116 yX5_steps wsX5_steps) := goodIn_app (goodIn_of _ (by decide +kernel)) ggX5_does_X5_steps
set_option maxRecDepth 20000 in
theorem ggX5_does_X5_isArm : GoodIn wsX5_does wsX5_isArm := goodIn_r _ [44, 2, 45, 46, 6, 47, 52, 53, 54, 55, 56, 57, 58, 59, 60, 61, 62, 63, 64, 65] (by decide +kernel) (by decide +kernel)
set_option maxRecDepth 20000 in
theorem gX5_does_X5_isArm : GoodIn wsX5_does (wsV RX5 101 RX5 yX5_isArm wsX5_isArm) := goodIn_app (goodIn_of _ (by decide +kernel)) ggX5_does_X5_isArm
set_option maxRecDepth 20000 in
theorem ggX5_does_X5_holds : GoodIn wsX5_does wsX5_holds := goodIn_r _ [51, 2, 52, 53, 54, 55, 56, 57, 58, 59, 60, 61, 62, 63, 64, 65] (by decide +kernel) (by decide +kernel)
set_option maxRecDepth 20000 in
theorem gX5_does_X5_holds : GoodIn wsX5_does (wsV RX5 109 RX5 yX5_holds wsX5_holds) := goodIn_app (goodIn_of _ (by decide +kernel)) ggX5_does_X5_holds
theorem dX5_does_0 : decode cX5_does 0 = .ok (.aload_n 0, 1) := by decide +kernel
theorem dX5_does_1 : decode cX5_does 1 = .ok (.getfield 29, 3) := by decide +kernel
theorem dX5_does_4 : decode cX5_does 4 = .ok (.iconst 4, 1) := by decide +kernel
theorem dX5_does_5 : decode cX5_does 5 = .ok (.iload_n 1, 1) := by decide +kernel
theorem dX5_does_6 : decode cX5_does 6 = .ok (.imul, 1) := by decide +kernel
theorem dX5_does_7 : decode cX5_does 7 = .ok (.iconst 1, 1) := by decide +kernel
theorem dX5_does_8 : decode cX5_does 8 = .ok (.iadd, 1) := by decide +kernel
theorem dX5_does_9 : decode cX5_does 9 = .ok (.iaload, 1) := by decide +kernel
theorem dX5_does_10 : decode cX5_does 10 = .ok (.istore_n 2, 1) := by decide +kernel
theorem dX5_does_11 : decode cX5_does 11 = .ok (.aload_n 0, 1) := by decide +kernel
theorem dX5_does_12 : decode cX5_does 12 = .ok (.getfield 29, 3) := by decide +kernel
theorem dX5_does_15 : decode cX5_does 15 = .ok (.iconst 4, 1) := by decide +kernel
theorem dX5_does_16 : decode cX5_does 16 = .ok (.iload_n 1, 1) := by decide +kernel
theorem dX5_does_17 : decode cX5_does 17 = .ok (.imul, 1) := by decide +kernel
theorem dX5_does_18 : decode cX5_does 18 = .ok (.iaload, 1) := by decide +kernel
theorem dX5_does_19 : decode cX5_does 19 = .ok (.lookupswitch 86 #[(109, 25), (115, 66)], 25) := by decide +kernel
theorem dX5_does_44 : decode cX5_does 44 = .ok (.aload_n 0, 1) := by decide +kernel
theorem dX5_does_45 : decode cX5_does 45 = .ok (.getfield 7, 3) := by decide +kernel
theorem dX5_does_48 : decode cX5_does 48 = .ok (.iconst 3, 1) := by decide +kernel
theorem dX5_does_49 : decode cX5_does 49 = .ok (.iaload, 1) := by decide +kernel
theorem dX5_does_50 : decode cX5_does 50 = .ok (.bipush 6, 2) := by decide +kernel
theorem dX5_does_52 : decode cX5_does 52 = .ok (.if_icmp .ne 5, 3) := by decide +kernel
theorem dX5_does_55 : decode cX5_does 55 = .ok (.iconst 0, 1) := by decide +kernel
theorem dX5_does_56 : decode cX5_does 56 = .ok (.ireturn, 1) := by decide +kernel
theorem dX5_does_57 : decode cX5_does 57 = .ok (.aload_n 0, 1) := by decide +kernel
theorem dX5_does_58 : decode cX5_does 58 = .ok (.iload_n 2, 1) := by decide +kernel
theorem dX5_does_59 : decode cX5_does 59 = .ok (.aload_n 0, 1) := by decide +kernel
theorem dX5_does_60 : decode cX5_does 60 = .ok (.getfield 29, 3) := by decide +kernel
theorem dX5_does_63 : decode cX5_does 63 = .ok (.iconst 4, 1) := by decide +kernel
theorem dX5_does_64 : decode cX5_does 64 = .ok (.iload_n 1, 1) := by decide +kernel
theorem dX5_does_65 : decode cX5_does 65 = .ok (.imul, 1) := by decide +kernel
theorem dX5_does_66 : decode cX5_does 66 = .ok (.iconst 2, 1) := by decide +kernel
theorem dX5_does_67 : decode cX5_does 67 = .ok (.iadd, 1) := by decide +kernel
theorem dX5_does_68 : decode cX5_does 68 = .ok (.iaload, 1) := by decide +kernel
theorem dX5_does_69 : decode cX5_does 69 = .ok (.aload_n 0, 1) := by decide +kernel
theorem dX5_does_70 : decode cX5_does 70 = .ok (.getfield 29, 3) := by decide +kernel
theorem dX5_does_73 : decode cX5_does 73 = .ok (.iconst 4, 1) := by decide +kernel
theorem dX5_does_74 : decode cX5_does 74 = .ok (.iload_n 1, 1) := by decide +kernel
theorem dX5_does_75 : decode cX5_does 75 = .ok (.imul, 1) := by decide +kernel
theorem dX5_does_76 : decode cX5_does 76 = .ok (.iconst 3, 1) := by decide +kernel
theorem dX5_does_77 : decode cX5_does 77 = .ok (.iadd, 1) := by decide +kernel
theorem dX5_does_78 : decode cX5_does 78 = .ok (.iaload, 1) := by decide +kernel
theorem dX5_does_79 : decode cX5_does 79 = .ok (.invokevirtual 97, 3) := by decide +kernel
theorem dX5_does_82 : decode cX5_does 82 = .ok (.pop, 1) := by decide +kernel
theorem dX5_does_83 : decode cX5_does 83 = .ok (.iconst 1, 1) := by decide +kernel
theorem dX5_does_84 : decode cX5_does 84 = .ok (.ireturn, 1) := by decide +kernel
theorem dX5_does_85 : decode cX5_does 85 = .ok (.aload_n 0, 1) := by decide +kernel
theorem dX5_does_86 : decode cX5_does 86 = .ok (.iload_n 2, 1) := by decide +kernel
theorem dX5_does_87 : decode cX5_does 87 = .ok (.invokevirtual 113, 3) := by decide +kernel
theorem dX5_does_90 : decode cX5_does 90 = .ok (.ifCond .ne 5, 3) := by decide +kernel
theorem dX5_does_93 : decode cX5_does 93 = .ok (.iconst 0, 1) := by decide +kernel
theorem dX5_does_94 : decode cX5_does 94 = .ok (.ireturn, 1) := by decide +kernel
theorem dX5_does_95 : decode cX5_does 95 = .ok (.aload_n 0, 1) := by decide +kernel
theorem dX5_does_96 : decode cX5_does 96 = .ok (.getfield 7, 3) := by decide +kernel
theorem dX5_does_99 : decode cX5_does 99 = .ok (.iload_n 2, 1) := by decide +kernel
theorem dX5_does_100 : decode cX5_does 100 = .ok (.invokestatic 116, 3) := by decide +kernel
theorem dX5_does_103 : decode cX5_does 103 = .ok (.iconst 1, 1) := by decide +kernel
theorem dX5_does_104 : decode cX5_does 104 = .ok (.ireturn, 1) := by decide +kernel
theorem dX5_does_105 : decode cX5_does 105 = .ok (.aload_n 0, 1) := by decide +kernel
theorem dX5_does_106 : decode cX5_does 106 = .ok (.iload_n 2, 1) := by decide +kernel
theorem dX5_does_107 : decode cX5_does 107 = .ok (.invokevirtual 101, 3) := by decide +kernel
theorem dX5_does_110 : decode cX5_does 110 = .ok (.ifCond .ne 5, 3) := by decide +kernel
theorem dX5_does_113 : decode cX5_does 113 = .ok (.iconst 0, 1) := by decide +kernel
theorem dX5_does_114 : decode cX5_does 114 = .ok (.ireturn, 1) := by decide +kernel
theorem dX5_does_115 : decode cX5_does 115 = .ok (.aload_n 0, 1) := by decide +kernel
theorem dX5_does_116 : decode cX5_does 116 = .ok (.iload_n 2, 1) := by decide +kernel
theorem dX5_does_117 : decode cX5_does 117 = .ok (.invokevirtual 109, 3) := by decide +kernel
theorem dX5_does_120 : decode cX5_does 120 = .ok (.pop, 1) := by decide +kernel
theorem dX5_does_121 : decode cX5_does 121 = .ok (.iconst 1, 1) := by decide +kernel
theorem dX5_does_122 : decode cX5_does 122 = .ok (.ireturn, 1) := by decide +kernel
set_option maxRecDepth 20000 in
theorem ggX5_play_X5_isText : GoodIn wsX5_play wsX5_isText := goodIn_r _ [8, 9, 3, 10, 2, 11, 12, 13, 7, 14, 15, 16, 17, 18, 19, 20, 21, 22, 23, 24, 25, 26, 27, 28, 29, 30, 31, 32, 33, 34, 35, 36, 37, 38, 39, 40, 41, 42, 43, 107, 108, 109, 110, 111, 112, 113, 114, 115, 116, 117, 118, 119, 120] (by decide +kernel) (by decide +kernel)
set_option maxRecDepth 20000 in
theorem gX5_play_X5_isText : GoodIn wsX5_play (wsV RX5 162 RX5 yX5_isText wsX5_isText) := goodIn_app (goodIn_of _ (by decide +kernel)) ggX5_play_X5_isText
set_option maxRecDepth 20000 in
theorem ggX5_play_X5_fails : GoodIn wsX5_play wsX5_fails := goodIn_r _ [47, 1, 107, 108, 109, 110, 111, 112, 113, 114, 115, 116, 117, 118, 119, 120] (by decide +kernel) (by decide +kernel)
set_option maxRecDepth 20000 in
theorem gX5_play_X5_fails : GoodIn wsX5_play (wsV RX5 51 RX5 yX5_fails wsX5_fails) := goodIn_app (goodIn_of _ (by decide +kernel)) ggX5_play_X5_fails
set_option maxRecDepth 20000 in
theorem ggX5_play_X5_saves : GoodIn wsX5_play wsX5_saves := goodIn_r _ [51, 52, 53, 54, 55, 56, 7, 57, 107, 108, 109, 110, 111, 112, 113, 114, 115, 116, 117, 118, 119, 120] (by decide +kernel) (by decide +kernel)
set_option maxRecDepth 20000 in
theorem gX5_play_X5_saves : GoodIn wsX5_play (wsV RX5 55 RX5 yX5_saves wsX5_saves) := goodIn_app (goodIn_of _ (by decide +kernel)) ggX5_play_X5_saves
set_option maxRecDepth 20000 in
theorem ggX5_play_X5_does : GoodIn wsX5_play wsX5_does := goodIn_r _ [61, 16, 54, 62, 63, 64, 7, 65, 66, 67, 68, 69, 70, 71, 72, 73, 74, 75, 76, 77, 78, 79, 80, 81, 82, 83, 84, 85, 86, 87, 88, 89, 90, 91, 92, 93, 94, 95, 96, 97, 98, 99, 100, 101, 102, 30, 31, 32, 103, 104, 105, 106, 107, 108, 109, 110, 111, 112, 113, 114, 115, 116, 117, 118, 119, 120] (by decide +kernel) (by decide +kernel)
set_option maxRecDepth 20000 in
theorem gX5_play_X5_does : GoodIn wsX5_play (wsV RX5 165 RX5 yX5_does wsX5_does) := goodIn_app (goodIn_of _ (by decide +kernel)) ggX5_play_X5_does
theorem dX5_play_0 : decode cX5_play 0 = .ok (.aload_n 0, 1) := by decide +kernel
theorem dX5_play_1 : decode cX5_play 1 = .ok (.iconst 0, 1) := by decide +kernel
theorem dX5_play_2 : decode cX5_play 2 = .ok (.putfield 32, 3) := by decide +kernel
theorem dX5_play_5 : decode cX5_play 5 = .ok (.aload_n 0, 1) := by decide +kernel
theorem dX5_play_6 : decode cX5_play 6 = .ok (.invokevirtual 162, 3) := by decide +kernel
theorem dX5_play_9 : decode cX5_play 9 = .ok (.ifCond .ne 9, 3) := by decide +kernel
theorem dX5_play_12 : decode cX5_play 12 = .ok (.aload_n 0, 1) := by decide +kernel
theorem dX5_play_13 : decode cX5_play 13 = .ok (.iconst 1, 1) := by decide +kernel
theorem dX5_play_14 : decode cX5_play 14 = .ok (.invokevirtual 51, 3) := by decide +kernel
theorem dX5_play_17 : decode cX5_play 17 = .ok (.ireturn, 1) := by decide +kernel
theorem dX5_play_18 : decode cX5_play 18 = .ok (.aload_n 0, 1) := by decide +kernel
theorem dX5_play_19 : decode cX5_play 19 = .ok (.invokevirtual 55, 3) := by decide +kernel
theorem dX5_play_22 : decode cX5_play 22 = .ok (.aload_n 0, 1) := by decide +kernel
theorem dX5_play_23 : decode cX5_play 23 = .ok (.iconst 0, 1) := by decide +kernel
theorem dX5_play_24 : decode cX5_play 24 = .ok (.putfield 123, 3) := by decide +kernel
theorem dX5_play_27 : decode cX5_play 27 = .ok (.iconst 0, 1) := by decide +kernel
theorem dX5_play_28 : decode cX5_play 28 = .ok (.istore_n 1, 1) := by decide +kernel
theorem dX5_play_29 : decode cX5_play 29 = .ok (.iload_n 1, 1) := by decide +kernel
theorem dX5_play_30 : decode cX5_play 30 = .ok (.aload_n 0, 1) := by decide +kernel
theorem dX5_play_31 : decode cX5_play 31 = .ok (.getfield 147, 3) := by decide +kernel
theorem dX5_play_34 : decode cX5_play 34 = .ok (.if_icmp .ge 17, 3) := by decide +kernel
theorem dX5_play_37 : decode cX5_play 37 = .ok (.aload_n 0, 1) := by decide +kernel
theorem dX5_play_38 : decode cX5_play 38 = .ok (.iload_n 1, 1) := by decide +kernel
theorem dX5_play_39 : decode cX5_play 39 = .ok (.invokevirtual 165, 3) := by decide +kernel
theorem dX5_play_42 : decode cX5_play 42 = .ok (.ifCond .eq 9, 3) := by decide +kernel
theorem dX5_play_45 : decode cX5_play 45 = .ok (.iinc 1 1, 3) := by decide +kernel
theorem dX5_play_48 : decode cX5_play 48 = .ok (.goto (-19), 3) := by decide +kernel
theorem dX5_play_51 : decode cX5_play 51 = .ok (.iload_n 1, 1) := by decide +kernel
theorem dX5_play_52 : decode cX5_play 52 = .ok (.ireturn, 1) := by decide +kernel
set_option maxRecDepth 20000 in
theorem ggX5_ofArm_X5_goes : GoodIn wsX5_ofArm wsX5_goes := goodIn_r _ [5, 6, 7, 4, 8] (by decide +kernel) (by decide +kernel)
set_option maxRecDepth 20000 in
theorem gX5_ofArm_X5_goes : GoodIn wsX5_ofArm (va_wsS RX5 65 yX5_goes wsX5_goes) := goodIn_app (goodIn_of _ (by decide +kernel)) ggX5_ofArm_X5_goes
set_option maxRecDepth 20000 in
theorem ggX5_ofArm_X5_of : GoodIn wsX5_ofArm wsX5_of := goodIn_r _ [8] (by decide +kernel) (by decide +kernel)
set_option maxRecDepth 20000 in
theorem gX5_ofArm_X5_of : GoodIn wsX5_ofArm (va_wsS RX5 40 yX5_of wsX5_of) := goodIn_app (goodIn_of _ (by decide +kernel)) ggX5_ofArm_X5_of
set_option maxRecDepth 20000 in
theorem ggX5_ofArm_X5_swing : GoodIn wsX5_ofArm wsX5_swing := goodIn_r _ [11] (by decide +kernel) (by decide +kernel)
set_option maxRecDepth 20000 in
theorem gX5_ofArm_X5_swing : GoodIn wsX5_ofArm (va_wsS RX5 58 yX5_swing wsX5_swing) := goodIn_app (goodIn_of _ (by decide +kernel)) ggX5_ofArm_X5_swing
set_option maxRecDepth 20000 in
theorem ggX5_ofArm_X5_turn : GoodIn wsX5_ofArm wsX5_turn := goodIn_r _ [14, 9, 10, 4, 11] (by decide +kernel) (by decide +kernel)
set_option maxRecDepth 20000 in
theorem gX5_ofArm_X5_turn : GoodIn wsX5_ofArm (va_wsS RX5 61 yX5_turn wsX5_turn) := goodIn_app (goodIn_of _ (by decide +kernel)) ggX5_ofArm_X5_turn
set_option maxRecDepth 20000 in
theorem ggX5_ofArm_X5_pull : GoodIn wsX5_ofArm wsX5_pull := goodIn_r _ [17, 18, 6, 7, 4, 8, 12, 13, 14, 9, 10, 11] (by decide +kernel) (by decide +kernel)
set_option maxRecDepth 20000 in
theorem gX5_ofArm_X5_pull : GoodIn wsX5_ofArm (va_wsS RX5 77 yX5_pull wsX5_pull) := goodIn_app (goodIn_of _ (by decide +kernel)) ggX5_ofArm_X5_pull
theorem dX5_ofArm_0 : decode cX5_ofArm 0 = .ok (.iload_n 2, 1) := by decide +kernel
theorem dX5_ofArm_1 : decode cX5_ofArm 1 = .ok (.tableswitch 109 4 8 #[35, 52, 62, 79, 96], 35) := by decide +kernel
theorem dX5_ofArm_36 : decode cX5_ofArm 36 = .ok (.aload_n 0, 1) := by decide +kernel
theorem dX5_ofArm_37 : decode cX5_ofArm 37 = .ok (.getfield 7, 3) := by decide +kernel
theorem dX5_ofArm_40 : decode cX5_ofArm 40 = .ok (.iload_n 1, 1) := by decide +kernel
theorem dX5_ofArm_41 : decode cX5_ofArm 41 = .ok (.invokestatic 65, 3) := by decide +kernel
theorem dX5_ofArm_44 : decode cX5_ofArm 44 = .ok (.ifCond .eq 7, 3) := by decide +kernel
theorem dX5_ofArm_47 : decode cX5_ofArm 47 = .ok (.iconst 1, 1) := by decide +kernel
theorem dX5_ofArm_48 : decode cX5_ofArm 48 = .ok (.goto 4, 3) := by decide +kernel
theorem dX5_ofArm_51 : decode cX5_ofArm 51 = .ok (.iconst 0, 1) := by decide +kernel
theorem dX5_ofArm_52 : decode cX5_ofArm 52 = .ok (.ireturn, 1) := by decide +kernel
theorem dX5_ofArm_53 : decode cX5_ofArm 53 = .ok (.aload_n 0, 1) := by decide +kernel
theorem dX5_ofArm_54 : decode cX5_ofArm 54 = .ok (.getfield 7, 3) := by decide +kernel
theorem dX5_ofArm_57 : decode cX5_ofArm 57 = .ok (.iload_n 1, 1) := by decide +kernel
theorem dX5_ofArm_58 : decode cX5_ofArm 58 = .ok (.iconst 4, 1) := by decide +kernel
theorem dX5_ofArm_59 : decode cX5_ofArm 59 = .ok (.invokestatic 40, 3) := by decide +kernel
theorem dX5_ofArm_62 : decode cX5_ofArm 62 = .ok (.ireturn, 1) := by decide +kernel
theorem dX5_ofArm_63 : decode cX5_ofArm 63 = .ok (.aload_n 0, 1) := by decide +kernel
theorem dX5_ofArm_64 : decode cX5_ofArm 64 = .ok (.getfield 7, 3) := by decide +kernel
theorem dX5_ofArm_67 : decode cX5_ofArm 67 = .ok (.iload_n 1, 1) := by decide +kernel
theorem dX5_ofArm_68 : decode cX5_ofArm 68 = .ok (.iconst 1, 1) := by decide +kernel
theorem dX5_ofArm_69 : decode cX5_ofArm 69 = .ok (.invokestatic 40, 3) := by decide +kernel
theorem dX5_ofArm_72 : decode cX5_ofArm 72 = .ok (.invokestatic 58, 3) := by decide +kernel
theorem dX5_ofArm_75 : decode cX5_ofArm 75 = .ok (.sipush 1000, 3) := by decide +kernel
theorem dX5_ofArm_78 : decode cX5_ofArm 78 = .ok (.iadd, 1) := by decide +kernel
theorem dX5_ofArm_79 : decode cX5_ofArm 79 = .ok (.ireturn, 1) := by decide +kernel
theorem dX5_ofArm_80 : decode cX5_ofArm 80 = .ok (.aload_n 0, 1) := by decide +kernel
theorem dX5_ofArm_81 : decode cX5_ofArm 81 = .ok (.getfield 7, 3) := by decide +kernel
theorem dX5_ofArm_84 : decode cX5_ofArm 84 = .ok (.iload_n 1, 1) := by decide +kernel
theorem dX5_ofArm_85 : decode cX5_ofArm 85 = .ok (.iconst 1, 1) := by decide +kernel
theorem dX5_ofArm_86 : decode cX5_ofArm 86 = .ok (.invokestatic 40, 3) := by decide +kernel
theorem dX5_ofArm_89 : decode cX5_ofArm 89 = .ok (.invokestatic 61, 3) := by decide +kernel
theorem dX5_ofArm_92 : decode cX5_ofArm 92 = .ok (.sipush 1000, 3) := by decide +kernel
theorem dX5_ofArm_95 : decode cX5_ofArm 95 = .ok (.iadd, 1) := by decide +kernel
theorem dX5_ofArm_96 : decode cX5_ofArm 96 = .ok (.ireturn, 1) := by decide +kernel
theorem dX5_ofArm_97 : decode cX5_ofArm 97 = .ok (.aload_n 0, 1) := by decide +kernel
theorem dX5_ofArm_98 : decode cX5_ofArm 98 = .ok (.getfield 7, 3) := by decide +kernel
theorem dX5_ofArm_101 : decode cX5_ofArm 101 = .ok (.iload_n 1, 1) := by decide +kernel
theorem dX5_ofArm_102 : decode cX5_ofArm 102 = .ok (.invokestatic 77, 3) := by decide +kernel
theorem dX5_ofArm_105 : decode cX5_ofArm 105 = .ok (.sipush 1000, 3) := by decide +kernel
theorem dX5_ofArm_108 : decode cX5_ofArm 108 = .ok (.iadd, 1) := by decide +kernel
theorem dX5_ofArm_109 : decode cX5_ofArm 109 = .ok (.ireturn, 1) := by decide +kernel
theorem dX5_ofArm_110 : decode cX5_ofArm 110 = .ok (.aload_n 0, 1) := by decide +kernel
theorem dX5_ofArm_111 : decode cX5_ofArm 111 = .ok (.getfield 7, 3) := by decide +kernel
theorem dX5_ofArm_114 : decode cX5_ofArm 114 = .ok (.iload_n 1, 1) := by decide +kernel
theorem dX5_ofArm_115 : decode cX5_ofArm 115 = .ok (.iload_n 2, 1) := by decide +kernel
theorem dX5_ofArm_116 : decode cX5_ofArm 116 = .ok (.invokestatic 40, 3) := by decide +kernel
theorem dX5_ofArm_119 : decode cX5_ofArm 119 = .ok (.ireturn, 1) := by decide +kernel
set_option maxRecDepth 20000 in
theorem ggX5_arm_X5_isArm : GoodIn wsX5_arm wsX5_isArm := goodIn_r _ [6, 7, 8, 9, 5, 10, 35, 36, 37, 38, 39, 40, 41, 42, 43, 44, 45, 46, 47, 48] (by decide +kernel) (by decide +kernel)
set_option maxRecDepth 20000 in
theorem gX5_arm_X5_isArm : GoodIn wsX5_arm (wsV RX5 101 RX5 yX5_isArm wsX5_isArm) := goodIn_app (goodIn_of _ (by decide +kernel)) ggX5_arm_X5_isArm
set_option maxRecDepth 20000 in
theorem ggX5_arm_X5_fails : GoodIn wsX5_arm wsX5_fails := goodIn_r _ [14, 1, 35, 36, 37, 38, 39, 40, 41, 42, 43, 44, 45, 46, 47, 48] (by decide +kernel) (by decide +kernel)
set_option maxRecDepth 20000 in
theorem gX5_arm_X5_fails : GoodIn wsX5_arm (wsV RX5 51 RX5 yX5_fails wsX5_fails) := goodIn_app (goodIn_of _ (by decide +kernel)) ggX5_arm_X5_fails
set_option maxRecDepth 20000 in
theorem ggX5_arm_X5_in : GoodIn wsX5_arm wsX5_in := goodIn_r _ [10] (by decide +kernel) (by decide +kernel)
set_option maxRecDepth 20000 in
theorem gX5_arm_X5_in : GoodIn wsX5_arm (va_wsS RX5 36 yX5_in wsX5_in) := goodIn_app (goodIn_of _ (by decide +kernel)) ggX5_arm_X5_in
set_option maxRecDepth 20000 in
theorem ggX5_arm_X5_ofArm : GoodIn wsX5_arm wsX5_ofArm := goodIn_r _ [18, 7, 19, 20, 5, 21, 22, 23, 24, 25, 26, 27, 28, 29, 30, 31, 32, 33, 34, 35, 36, 37, 38, 39, 40, 41, 42, 43, 44, 45, 46, 47, 48] (by decide +kernel) (by decide +kernel)
set_option maxRecDepth 20000 in
theorem gX5_arm_X5_ofArm : GoodIn wsX5_arm (wsV RX5 168 RX5 yX5_ofArm wsX5_ofArm) := goodIn_app (goodIn_of _ (by decide +kernel)) ggX5_arm_X5_ofArm
theorem dX5_arm_0 : decode cX5_arm 0 = .ok (.aload_n 0, 1) := by decide +kernel
theorem dX5_arm_1 : decode cX5_arm 1 = .ok (.iconst 0, 1) := by decide +kernel
theorem dX5_arm_2 : decode cX5_arm 2 = .ok (.putfield 32, 3) := by decide +kernel
theorem dX5_arm_5 : decode cX5_arm 5 = .ok (.aload_n 0, 1) := by decide +kernel
theorem dX5_arm_6 : decode cX5_arm 6 = .ok (.iload_n 1, 1) := by decide +kernel
theorem dX5_arm_7 : decode cX5_arm 7 = .ok (.invokevirtual 101, 3) := by decide +kernel
theorem dX5_arm_10 : decode cX5_arm 10 = .ok (.ifCond .ne 9, 3) := by decide +kernel
theorem dX5_arm_13 : decode cX5_arm 13 = .ok (.aload_n 0, 1) := by decide +kernel
theorem dX5_arm_14 : decode cX5_arm 14 = .ok (.iconst 1, 1) := by decide +kernel
theorem dX5_arm_15 : decode cX5_arm 15 = .ok (.invokevirtual 51, 3) := by decide +kernel
theorem dX5_arm_18 : decode cX5_arm 18 = .ok (.ireturn, 1) := by decide +kernel
theorem dX5_arm_19 : decode cX5_arm 19 = .ok (.iload_n 2, 1) := by decide +kernel
theorem dX5_arm_20 : decode cX5_arm 20 = .ok (.iconst 0, 1) := by decide +kernel
theorem dX5_arm_21 : decode cX5_arm 21 = .ok (.bipush 8, 2) := by decide +kernel
theorem dX5_arm_23 : decode cX5_arm 23 = .ok (.invokestatic 36, 3) := by decide +kernel
theorem dX5_arm_26 : decode cX5_arm 26 = .ok (.ifCond .eq 12, 3) := by decide +kernel
theorem dX5_arm_29 : decode cX5_arm 29 = .ok (.aload_n 0, 1) := by decide +kernel
theorem dX5_arm_30 : decode cX5_arm 30 = .ok (.iload_n 1, 1) := by decide +kernel
theorem dX5_arm_31 : decode cX5_arm 31 = .ok (.iload_n 2, 1) := by decide +kernel
theorem dX5_arm_32 : decode cX5_arm 32 = .ok (.invokevirtual 168, 3) := by decide +kernel
theorem dX5_arm_35 : decode cX5_arm 35 = .ok (.goto 8, 3) := by decide +kernel
