theorem dX5_arm_38 : decode cX5_arm 38 = .ok (.aload_n 0, 1) := by decide +kernel
theorem dX5_arm_39 : decode cX5_arm 39 = .ok (.iconst 2, 1) := by decide +kernel
theorem dX5_arm_40 : decode cX5_arm 40 = .ok (.invokevirtual 51, 3) := by decide +kernel
theorem dX5_arm_43 : decode cX5_arm 43 = .ok (.ireturn, 1) := by decide +kernel
set_option maxRecDepth 20000 in
theorem ggX5_apart_X5_isArm : GoodIn wsX5_apart wsX5_isArm := goodIn_r _ [7, 2, 8, 9, 6, 10, 21, 22, 23, 24, 25, 26, 27, 28, 29, 30, 31, 32, 33, 34] (by decide +kernel) (by decide +kernel)
set_option maxRecDepth 20000 in
theorem gX5_apart_X5_isArm : GoodIn wsX5_apart (wsV RX5 101 RX5 yX5_isArm wsX5_isArm) := goodIn_app (goodIn_of _ (by decide +kernel)) ggX5_apart_X5_isArm
set_option maxRecDepth 20000 in
theorem ggX5_apart_X5_fails : GoodIn wsX5_apart wsX5_fails := goodIn_r _ [14, 1, 21, 22, 23, 24, 25, 26, 27, 28, 29, 30, 31, 32, 33, 34] (by decide +kernel) (by decide +kernel)
set_option maxRecDepth 20000 in
theorem gX5_apart_X5_fails : GoodIn wsX5_apart (wsV RX5 51 RX5 yX5_fails wsX5_fails) := goodIn_app (goodIn_of _ (by decide +kernel)) ggX5_apart_X5_fails
set_option maxRecDepth 20000 in
theorem ggX5_apart_X5_apartBy : GoodIn wsX5_apart wsX5_apartBy := goodIn_r _ [17, 18, 19, 6, 20] (by decide +kernel) (by decide +kernel)
set_option maxRecDepth 20000 in
theorem gX5_apart_X5_apartBy : GoodIn wsX5_apart (va_wsS RX5 85 yX5_apartBy wsX5_apartBy) := goodIn_app (goodIn_of _ (by decide +kernel)) ggX5_apart_X5_apartBy
theorem dX5_apart_0 : decode cX5_apart 0 = .ok (.aload_n 0, 1) := by decide +kernel
theorem dX5_apart_1 : decode cX5_apart 1 = .ok (.iconst 0, 1) := by decide +kernel
theorem dX5_apart_2 : decode cX5_apart 2 = .ok (.putfield 32, 3) := by decide +kernel
theorem dX5_apart_5 : decode cX5_apart 5 = .ok (.aload_n 0, 1) := by decide +kernel
theorem dX5_apart_6 : decode cX5_apart 6 = .ok (.iload_n 1, 1) := by decide +kernel
theorem dX5_apart_7 : decode cX5_apart 7 = .ok (.invokevirtual 101, 3) := by decide +kernel
theorem dX5_apart_10 : decode cX5_apart 10 = .ok (.ifCond .eq 11, 3) := by decide +kernel
theorem dX5_apart_13 : decode cX5_apart 13 = .ok (.aload_n 0, 1) := by decide +kernel
theorem dX5_apart_14 : decode cX5_apart 14 = .ok (.iload_n 2, 1) := by decide +kernel
theorem dX5_apart_15 : decode cX5_apart 15 = .ok (.invokevirtual 101, 3) := by decide +kernel
theorem dX5_apart_18 : decode cX5_apart 18 = .ok (.ifCond .ne 9, 3) := by decide +kernel
theorem dX5_apart_21 : decode cX5_apart 21 = .ok (.aload_n 0, 1) := by decide +kernel
theorem dX5_apart_22 : decode cX5_apart 22 = .ok (.iconst 1, 1) := by decide +kernel
theorem dX5_apart_23 : decode cX5_apart 23 = .ok (.invokevirtual 51, 3) := by decide +kernel
theorem dX5_apart_26 : decode cX5_apart 26 = .ok (.ireturn, 1) := by decide +kernel
theorem dX5_apart_27 : decode cX5_apart 27 = .ok (.iload_n 1, 1) := by decide +kernel
theorem dX5_apart_28 : decode cX5_apart 28 = .ok (.iload_n 2, 1) := by decide +kernel
theorem dX5_apart_29 : decode cX5_apart 29 = .ok (.if_icmp .ne 11, 3) := by decide +kernel
theorem dX5_apart_32 : decode cX5_apart 32 = .ok (.aload_n 0, 1) := by decide +kernel
theorem dX5_apart_33 : decode cX5_apart 33 = .ok (.iconst 2, 1) := by decide +kernel
theorem dX5_apart_34 : decode cX5_apart 34 = .ok (.invokevirtual 51, 3) := by decide +kernel
theorem dX5_apart_37 : decode cX5_apart 37 = .ok (.goto 12, 3) := by decide +kernel
theorem dX5_apart_40 : decode cX5_apart 40 = .ok (.aload_n 0, 1) := by decide +kernel
theorem dX5_apart_41 : decode cX5_apart 41 = .ok (.getfield 7, 3) := by decide +kernel
theorem dX5_apart_44 : decode cX5_apart 44 = .ok (.iload_n 1, 1) := by decide +kernel
theorem dX5_apart_45 : decode cX5_apart 45 = .ok (.iload_n 2, 1) := by decide +kernel
theorem dX5_apart_46 : decode cX5_apart 46 = .ok (.invokestatic 85, 3) := by decide +kernel
theorem dX5_apart_49 : decode cX5_apart 49 = .ok (.ireturn, 1) := by decide +kernel
set_option maxRecDepth 20000 in
theorem ggX5_counted_X5_going : GoodIn wsX5_counted wsX5_going := goodIn_r _ [6, 7, 8, 5, 9, 10, 11, 12] (by decide +kernel) (by decide +kernel)
set_option maxRecDepth 20000 in
theorem gX5_counted_X5_going : GoodIn wsX5_counted (va_wsS RX5 69 yX5_going wsX5_going) := goodIn_app (goodIn_of _ (by decide +kernel)) ggX5_counted_X5_going
set_option maxRecDepth 20000 in
theorem ggX5_counted_X5_order : GoodIn wsX5_counted wsX5_order := goodIn_r _ [15, 3, 4, 5, 6, 7, 8, 9, 10, 11, 12, 16, 17, 18, 19, 20, 21, 22, 23, 24] (by decide +kernel) (by decide +kernel)
set_option maxRecDepth 20000 in
theorem gX5_counted_X5_order : GoodIn wsX5_counted (va_wsS RX5 171 yX5_order wsX5_order) := goodIn_app (goodIn_of _ (by decide +kernel)) ggX5_counted_X5_order
set_option maxRecDepth 20000 in
theorem ggX5_counted_X5_areInStep : GoodIn wsX5_counted wsX5_areInStep := goodIn_r _ [27, 28, 29, 5, 30, 7, 8, 9, 10, 11, 12, 31, 32, 33, 34, 35, 36] (by decide +kernel) (by decide +kernel)
set_option maxRecDepth 20000 in
theorem gX5_counted_X5_areInStep : GoodIn wsX5_counted (va_wsS RX5 174 yX5_areInStep wsX5_areInStep) := goodIn_app (goodIn_of _ (by decide +kernel)) ggX5_counted_X5_areInStep
set_option maxRecDepth 20000 in
theorem ggX5_counted_X5_greatest : GoodIn wsX5_counted wsX5_greatest := goodIn_r _ [36, 28, 29, 5, 30, 7, 8, 9, 10, 11, 12, 31, 32, 33] (by decide +kernel) (by decide +kernel)
set_option maxRecDepth 20000 in
theorem gX5_counted_X5_greatest : GoodIn wsX5_counted (va_wsS RX5 91 yX5_greatest wsX5_greatest) := goodIn_app (goodIn_of _ (by decide +kernel)) ggX5_counted_X5_greatest
theorem dX5_counted_0 : decode cX5_counted 0 = .ok (.iload_n 1, 1) := by decide +kernel
theorem dX5_counted_1 : decode cX5_counted 1 = .ok (.tableswitch 141 0 10 #[59, 66, 74, 74, 85, 85, 101, 101, 109, 125, 133], 59) := by decide +kernel
theorem dX5_counted_60 : decode cX5_counted 60 = .ok (.aload_n 0, 1) := by decide +kernel
theorem dX5_counted_61 : decode cX5_counted 61 = .ok (.getfield 7, 3) := by decide +kernel
theorem dX5_counted_64 : decode cX5_counted 64 = .ok (.iconst 3, 1) := by decide +kernel
theorem dX5_counted_65 : decode cX5_counted 65 = .ok (.iaload, 1) := by decide +kernel
theorem dX5_counted_66 : decode cX5_counted 66 = .ok (.ireturn, 1) := by decide +kernel
theorem dX5_counted_67 : decode cX5_counted 67 = .ok (.aload_n 0, 1) := by decide +kernel
theorem dX5_counted_68 : decode cX5_counted 68 = .ok (.getfield 7, 3) := by decide +kernel
theorem dX5_counted_71 : decode cX5_counted 71 = .ok (.invokestatic 69, 3) := by decide +kernel
theorem dX5_counted_74 : decode cX5_counted 74 = .ok (.ireturn, 1) := by decide +kernel
theorem dX5_counted_75 : decode cX5_counted 75 = .ok (.aload_n 0, 1) := by decide +kernel
theorem dX5_counted_76 : decode cX5_counted 76 = .ok (.getfield 7, 3) := by decide +kernel
theorem dX5_counted_79 : decode cX5_counted 79 = .ok (.iconst 4, 1) := by decide +kernel
theorem dX5_counted_80 : decode cX5_counted 80 = .ok (.iload_n 1, 1) := by decide +kernel
theorem dX5_counted_81 : decode cX5_counted 81 = .ok (.iadd, 1) := by decide +kernel
theorem dX5_counted_82 : decode cX5_counted 82 = .ok (.iconst 2, 1) := by decide +kernel
theorem dX5_counted_83 : decode cX5_counted 83 = .ok (.isub, 1) := by decide +kernel
theorem dX5_counted_84 : decode cX5_counted 84 = .ok (.iaload, 1) := by decide +kernel
theorem dX5_counted_85 : decode cX5_counted 85 = .ok (.ireturn, 1) := by decide +kernel
theorem dX5_counted_86 : decode cX5_counted 86 = .ok (.aload_n 0, 1) := by decide +kernel
theorem dX5_counted_87 : decode cX5_counted 87 = .ok (.getfield 7, 3) := by decide +kernel
theorem dX5_counted_90 : decode cX5_counted 90 = .ok (.bipush 7, 2) := by decide +kernel
theorem dX5_counted_92 : decode cX5_counted 92 = .ok (.iload_n 1, 1) := by decide +kernel
theorem dX5_counted_93 : decode cX5_counted 93 = .ok (.iadd, 1) := by decide +kernel
theorem dX5_counted_94 : decode cX5_counted 94 = .ok (.iconst 4, 1) := by decide +kernel
theorem dX5_counted_95 : decode cX5_counted 95 = .ok (.isub, 1) := by decide +kernel
theorem dX5_counted_96 : decode cX5_counted 96 = .ok (.iaload, 1) := by decide +kernel
theorem dX5_counted_97 : decode cX5_counted 97 = .ok (.sipush 1000, 3) := by decide +kernel
theorem dX5_counted_100 : decode cX5_counted 100 = .ok (.iadd, 1) := by decide +kernel
theorem dX5_counted_101 : decode cX5_counted 101 = .ok (.ireturn, 1) := by decide +kernel
theorem dX5_counted_102 : decode cX5_counted 102 = .ok (.aload_n 0, 1) := by decide +kernel
theorem dX5_counted_103 : decode cX5_counted 103 = .ok (.getfield 7, 3) := by decide +kernel
theorem dX5_counted_106 : decode cX5_counted 106 = .ok (.invokestatic 171, 3) := by decide +kernel
theorem dX5_counted_109 : decode cX5_counted 109 = .ok (.ireturn, 1) := by decide +kernel
theorem dX5_counted_110 : decode cX5_counted 110 = .ok (.aload_n 0, 1) := by decide +kernel
theorem dX5_counted_111 : decode cX5_counted 111 = .ok (.getfield 7, 3) := by decide +kernel
theorem dX5_counted_114 : decode cX5_counted 114 = .ok (.invokestatic 174, 3) := by decide +kernel
theorem dX5_counted_117 : decode cX5_counted 117 = .ok (.ifCond .eq 7, 3) := by decide +kernel
theorem dX5_counted_120 : decode cX5_counted 120 = .ok (.iconst 1, 1) := by decide +kernel
theorem dX5_counted_121 : decode cX5_counted 121 = .ok (.goto 4, 3) := by decide +kernel
theorem dX5_counted_124 : decode cX5_counted 124 = .ok (.iconst 0, 1) := by decide +kernel
theorem dX5_counted_125 : decode cX5_counted 125 = .ok (.ireturn, 1) := by decide +kernel
theorem dX5_counted_126 : decode cX5_counted 126 = .ok (.aload_n 0, 1) := by decide +kernel
theorem dX5_counted_127 : decode cX5_counted 127 = .ok (.getfield 7, 3) := by decide +kernel
theorem dX5_counted_130 : decode cX5_counted 130 = .ok (.invokestatic 91, 3) := by decide +kernel
theorem dX5_counted_133 : decode cX5_counted 133 = .ok (.ireturn, 1) := by decide +kernel
theorem dX5_counted_134 : decode cX5_counted 134 = .ok (.aload_n 0, 1) := by decide +kernel
theorem dX5_counted_135 : decode cX5_counted 135 = .ok (.getfield 7, 3) := by decide +kernel
theorem dX5_counted_138 : decode cX5_counted 138 = .ok (.bipush 6, 2) := by decide +kernel
theorem dX5_counted_140 : decode cX5_counted 140 = .ok (.iaload, 1) := by decide +kernel
theorem dX5_counted_141 : decode cX5_counted 141 = .ok (.ireturn, 1) := by decide +kernel
theorem dX5_counted_142 : decode cX5_counted 142 = .ok (.aload_n 0, 1) := by decide +kernel
theorem dX5_counted_143 : decode cX5_counted 143 = .ok (.getfield 44, 3) := by decide +kernel
theorem dX5_counted_146 : decode cX5_counted 146 = .ok (.ireturn, 1) := by decide +kernel
set_option maxRecDepth 20000 in
theorem ggX5_count_X5_in : GoodIn wsX5_count wsX5_in := goodIn_r _ [5] (by decide +kernel) (by decide +kernel)
set_option maxRecDepth 20000 in
theorem gX5_count_X5_in : GoodIn wsX5_count (va_wsS RX5 36 yX5_in wsX5_in) := goodIn_app (goodIn_of _ (by decide +kernel)) ggX5_count_X5_in
set_option maxRecDepth 20000 in
theorem ggX5_count_X5_counted : GoodIn wsX5_count wsX5_counted := goodIn_r _ [9, 10, 11, 12, 13, 4, 14, 15, 16, 17, 18, 19, 20, 21, 22, 23, 24, 25, 26, 27, 28, 29, 30, 31, 32, 33, 34, 35, 36, 37, 38, 39, 40, 41, 42, 43, 44, 49, 50, 51, 52, 53, 54, 55, 56, 57, 58, 59, 60, 61, 62] (by decide +kernel) (by decide +kernel)
set_option maxRecDepth 20000 in
theorem gX5_count_X5_counted : GoodIn wsX5_count (wsV RX5 178 RX5 yX5_counted wsX5_counted) := goodIn_app (goodIn_of _ (by decide +kernel)) ggX5_count_X5_counted
set_option maxRecDepth 20000 in
theorem ggX5_count_X5_fails : GoodIn wsX5_count wsX5_fails := goodIn_r _ [48, 1, 49, 50, 51, 52, 53, 54, 55, 56, 57, 58, 59, 60, 61, 62] (by decide +kernel) (by decide +kernel)
set_option maxRecDepth 20000 in
theorem gX5_count_X5_fails : GoodIn wsX5_count (wsV RX5 51 RX5 yX5_fails wsX5_fails) := goodIn_app (goodIn_of _ (by decide +kernel)) ggX5_count_X5_fails
theorem dX5_count_0 : decode cX5_count 0 = .ok (.aload_n 0, 1) := by decide +kernel
theorem dX5_count_1 : decode cX5_count 1 = .ok (.iconst 0, 1) := by decide +kernel
theorem dX5_count_2 : decode cX5_count 2 = .ok (.putfield 32, 3) := by decide +kernel
theorem dX5_count_5 : decode cX5_count 5 = .ok (.iload_n 1, 1) := by decide +kernel
theorem dX5_count_6 : decode cX5_count 6 = .ok (.iconst 0, 1) := by decide +kernel
theorem dX5_count_7 : decode cX5_count 7 = .ok (.bipush 11, 2) := by decide +kernel
theorem dX5_count_9 : decode cX5_count 9 = .ok (.invokestatic 36, 3) := by decide +kernel
theorem dX5_count_12 : decode cX5_count 12 = .ok (.ifCond .eq 11, 3) := by decide +kernel
theorem dX5_count_15 : decode cX5_count 15 = .ok (.aload_n 0, 1) := by decide +kernel
theorem dX5_count_16 : decode cX5_count 16 = .ok (.iload_n 1, 1) := by decide +kernel
theorem dX5_count_17 : decode cX5_count 17 = .ok (.invokevirtual 178, 3) := by decide +kernel
theorem dX5_count_20 : decode cX5_count 20 = .ok (.goto 8, 3) := by decide +kernel
theorem dX5_count_23 : decode cX5_count 23 = .ok (.aload_n 0, 1) := by decide +kernel
theorem dX5_count_24 : decode cX5_count 24 = .ok (.iconst 1, 1) := by decide +kernel
theorem dX5_count_25 : decode cX5_count 25 = .ok (.invokevirtual 51, 3) := by decide +kernel
theorem dX5_count_28 : decode cX5_count 28 = .ok (.ireturn, 1) := by decide +kernel
set_option maxRecDepth 20000 in
theorem ggX5_setting_X5_in : GoodIn wsX5_setting wsX5_in := goodIn_r _ [6] (by decide +kernel) (by decide +kernel)
set_option maxRecDepth 20000 in
theorem gX5_setting_X5_in : GoodIn wsX5_setting (va_wsS RX5 36 yX5_in wsX5_in) := goodIn_app (goodIn_of _ (by decide +kernel)) ggX5_setting_X5_in
set_option maxRecDepth 20000 in
theorem ggX5_setting_X5_fails : GoodIn wsX5_setting wsX5_fails := goodIn_r _ [10, 1, 11, 12, 13, 14, 15, 16, 17, 18, 19, 20, 21, 22, 23, 24] (by decide +kernel) (by decide +kernel)
set_option maxRecDepth 20000 in
theorem gX5_setting_X5_fails : GoodIn wsX5_setting (wsV RX5 51 RX5 yX5_fails wsX5_fails) := goodIn_app (goodIn_of _ (by decide +kernel)) ggX5_setting_X5_fails
theorem dX5_setting_0 : decode cX5_setting 0 = .ok (.aload_n 0, 1) := by decide +kernel
theorem dX5_setting_1 : decode cX5_setting 1 = .ok (.iconst 0, 1) := by decide +kernel
theorem dX5_setting_2 : decode cX5_setting 2 = .ok (.putfield 32, 3) := by decide +kernel
theorem dX5_setting_5 : decode cX5_setting 5 = .ok (.iload_n 1, 1) := by decide +kernel
theorem dX5_setting_6 : decode cX5_setting 6 = .ok (.iconst 0, 1) := by decide +kernel
theorem dX5_setting_7 : decode cX5_setting 7 = .ok (.iconst 2, 1) := by decide +kernel
theorem dX5_setting_8 : decode cX5_setting 8 = .ok (.invokestatic 36, 3) := by decide +kernel
theorem dX5_setting_11 : decode cX5_setting 11 = .ok (.ifCond .eq 12, 3) := by decide +kernel
theorem dX5_setting_14 : decode cX5_setting 14 = .ok (.aload_n 0, 1) := by decide +kernel
theorem dX5_setting_15 : decode cX5_setting 15 = .ok (.getfield 7, 3) := by decide +kernel
theorem dX5_setting_18 : decode cX5_setting 18 = .ok (.iload_n 1, 1) := by decide +kernel
theorem dX5_setting_19 : decode cX5_setting 19 = .ok (.iaload, 1) := by decide +kernel
theorem dX5_setting_20 : decode cX5_setting 20 = .ok (.goto 8, 3) := by decide +kernel
theorem dX5_setting_23 : decode cX5_setting 23 = .ok (.aload_n 0, 1) := by decide +kernel
theorem dX5_setting_24 : decode cX5_setting 24 = .ok (.iconst 1, 1) := by decide +kernel
theorem dX5_setting_25 : decode cX5_setting 25 = .ok (.invokevirtual 51, 3) := by decide +kernel
theorem dX5_setting_28 : decode cX5_setting 28 = .ok (.ireturn, 1) := by decide +kernel
set_option maxRecDepth 20000 in
theorem ggX5_tries_X5_copies : GoodIn wsX5_tries wsX5_copies := goodIn_r _ [6] (by decide +kernel) (by decide +kernel)
set_option maxRecDepth 20000 in
theorem gX5_tries_X5_copies : GoodIn wsX5_tries (va_wsS RX5 47 yX5_copies wsX5_copies) := goodIn_app (goodIn_of _ (by decide +kernel)) ggX5_tries_X5_copies
set_option maxRecDepth 20000 in
theorem ggX5_tries_X5_steps : GoodIn wsX5_tries wsX5_steps := goodIn_r _ [9, 10, 11, 5, 12, 13, 14, 15, 16, 17, 18, 19, 20, 21, 22, 23, 24, 25, 26, 27, 28, 29, 30, 31, 32, 33, 34] (by decide +kernel) (by decide +kernel)
set_option maxRecDepth 20000 in
theorem gX5_tries_X5_steps : GoodIn wsX5_tries (va_wsS RX5 116 yX5_steps wsX5_steps) := goodIn_app (goodIn_of _ (by decide +kernel)) ggX5_tries_X5_steps
theorem dX5_tries_0 : decode cX5_tries 0 = .ok (.aload_n 0, 1) := by decide +kernel
theorem dX5_tries_1 : decode cX5_tries 1 = .ok (.getfield 7, 3) := by decide +kernel
theorem dX5_tries_4 : decode cX5_tries 4 = .ok (.iconst 0, 1) := by decide +kernel
theorem dX5_tries_5 : decode cX5_tries 5 = .ok (.aload_n 0, 1) := by decide +kernel
theorem dX5_tries_6 : decode cX5_tries 6 = .ok (.getfield 13, 3) := by decide +kernel
theorem dX5_tries_9 : decode cX5_tries 9 = .ok (.iconst 0, 1) := by decide +kernel
theorem dX5_tries_10 : decode cX5_tries 10 = .ok (.invokestatic 47, 3) := by decide +kernel
theorem dX5_tries_13 : decode cX5_tries 13 = .ok (.aload_n 0, 1) := by decide +kernel
theorem dX5_tries_14 : decode cX5_tries 14 = .ok (.getfield 13, 3) := by decide +kernel
theorem dX5_tries_17 : decode cX5_tries 17 = .ok (.iconst 1, 1) := by decide +kernel
theorem dX5_tries_18 : decode cX5_tries 18 = .ok (.iload_n 2, 1) := by decide +kernel
theorem dX5_tries_19 : decode cX5_tries 19 = .ok (.iastore, 1) := by decide +kernel
theorem dX5_tries_20 : decode cX5_tries 20 = .ok (.aload_n 0, 1) := by decide +kernel
theorem dX5_tries_21 : decode cX5_tries 21 = .ok (.getfield 13, 3) := by decide +kernel
theorem dX5_tries_24 : decode cX5_tries 24 = .ok (.iload_n 1, 1) := by decide +kernel
theorem dX5_tries_25 : decode cX5_tries 25 = .ok (.invokestatic 116, 3) := by decide +kernel
theorem dX5_tries_28 : decode cX5_tries 28 = .ok (.return_, 1) := by decide +kernel
set_option maxRecDepth 20000 in
theorem ggX5_byRunning_X5_tries : GoodIn wsX5_byRunning wsX5_tries := goodIn_r _ [7, 2, 1, 8, 9, 6, 10, 11, 12, 13, 14, 15, 16, 17, 18, 19, 20, 21, 22, 23, 24, 25, 26, 27, 28, 29, 30, 31, 32, 33, 34, 35, 36, 37, 38, 51, 52, 53, 54, 55, 56, 57, 58, 59, 60, 61, 62, 63, 64] (by decide +kernel) (by decide +kernel)
set_option maxRecDepth 20000 in
theorem gX5_byRunning_X5_tries : GoodIn wsX5_byRunning (wsV RX5 181 RX5 yX5_tries wsX5_tries) := goodIn_app (goodIn_of _ (by decide +kernel)) ggX5_byRunning_X5_tries
set_option maxRecDepth 20000 in
theorem ggX5_byRunning_X5_order : GoodIn wsX5_byRunning wsX5_order := goodIn_r _ [41, 17, 18, 6, 19, 20, 21, 22, 23, 24, 25, 26, 27, 28, 29, 30, 31, 32, 33, 34] (by decide +kernel) (by decide +kernel)
set_option maxRecDepth 20000 in
theorem gX5_byRunning_X5_order : GoodIn wsX5_byRunning (va_wsS RX5 171 yX5_order wsX5_order) := goodIn_app (goodIn_of _ (by decide +kernel)) ggX5_byRunning_X5_order
set_option maxRecDepth 20000 in
theorem ggX5_byRunning_X5_greatest : GoodIn wsX5_byRunning wsX5_greatest := goodIn_r _ [44, 45, 46, 6, 47, 20, 21, 22, 23, 24, 25, 48, 49, 50] (by decide +kernel) (by decide +kernel)
set_option maxRecDepth 20000 in
theorem gX5_byRunning_X5_greatest : GoodIn wsX5_byRunning (va_wsS RX5 91 yX5_greatest wsX5_greatest) := goodIn_app (goodIn_of _ (by decide +kernel)) ggX5_byRunning_X5_greatest
set_option maxRecDepth 20000 in
theorem ggX5_byRunning_X5_going : GoodIn wsX5_byRunning wsX5_going := goodIn_r _ [19, 20, 21, 6, 22, 23, 24, 25] (by decide +kernel) (by decide +kernel)
set_option maxRecDepth 20000 in
theorem gX5_byRunning_X5_going : GoodIn wsX5_byRunning (va_wsS RX5 69 yX5_going wsX5_going) := goodIn_app (goodIn_of _ (by decide +kernel)) ggX5_byRunning_X5_going
theorem dX5_byRunning_0 : decode cX5_byRunning 0 = .ok (.aload_n 0, 1) := by decide +kernel
theorem dX5_byRunning_1 : decode cX5_byRunning 1 = .ok (.iload_n 1, 1) := by decide +kernel
theorem dX5_byRunning_2 : decode cX5_byRunning 2 = .ok (.iload_n 2, 1) := by decide +kernel
theorem dX5_byRunning_3 : decode cX5_byRunning 3 = .ok (.invokevirtual 181, 3) := by decide +kernel
theorem dX5_byRunning_6 : decode cX5_byRunning 6 = .ok (.iload_n 3, 1) := by decide +kernel
theorem dX5_byRunning_7 : decode cX5_byRunning 7 = .ok (.tableswitch 67 0 3 #[29, 43, 51, 59], 29) := by decide +kernel
theorem dX5_byRunning_36 : decode cX5_byRunning 36 = .ok (.aload_n 0, 1) := by decide +kernel
theorem dX5_byRunning_37 : decode cX5_byRunning 37 = .ok (.getfield 13, 3) := by decide +kernel
theorem dX5_byRunning_40 : decode cX5_byRunning 40 = .ok (.iconst 5, 1) := by decide +kernel
theorem dX5_byRunning_41 : decode cX5_byRunning 41 = .ok (.iaload, 1) := by decide +kernel
theorem dX5_byRunning_42 : decode cX5_byRunning 42 = .ok (.aload_n 0, 1) := by decide +kernel
theorem dX5_byRunning_43 : decode cX5_byRunning 43 = .ok (.getfield 7, 3) := by decide +kernel
theorem dX5_byRunning_46 : decode cX5_byRunning 46 = .ok (.iconst 5, 1) := by decide +kernel
theorem dX5_byRunning_47 : decode cX5_byRunning 47 = .ok (.iaload, 1) := by decide +kernel
theorem dX5_byRunning_48 : decode cX5_byRunning 48 = .ok (.isub, 1) := by decide +kernel
theorem dX5_byRunning_49 : decode cX5_byRunning 49 = .ok (.ireturn, 1) := by decide +kernel
theorem dX5_byRunning_50 : decode cX5_byRunning 50 = .ok (.aload_n 0, 1) := by decide +kernel
theorem dX5_byRunning_51 : decode cX5_byRunning 51 = .ok (.getfield 13, 3) := by decide +kernel
theorem dX5_byRunning_54 : decode cX5_byRunning 54 = .ok (.invokestatic 171, 3) := by decide +kernel
theorem dX5_byRunning_57 : decode cX5_byRunning 57 = .ok (.ireturn, 1) := by decide +kernel
theorem dX5_byRunning_58 : decode cX5_byRunning 58 = .ok (.aload_n 0, 1) := by decide +kernel
theorem dX5_byRunning_59 : decode cX5_byRunning 59 = .ok (.getfield 13, 3) := by decide +kernel
theorem dX5_byRunning_62 : decode cX5_byRunning 62 = .ok (.invokestatic 91, 3) := by decide +kernel
theorem dX5_byRunning_65 : decode cX5_byRunning 65 = .ok (.ireturn, 1) := by decide +kernel
theorem dX5_byRunning_66 : decode cX5_byRunning 66 = .ok (.aload_n 0, 1) := by decide +kernel
theorem dX5_byRunning_67 : decode cX5_byRunning 67 = .ok (.getfield 13, 3) := by decide +kernel
theorem dX5_byRunning_70 : decode cX5_byRunning 70 = .ok (.invokestatic 69, 3) := by decide +kernel
theorem dX5_byRunning_73 : decode cX5_byRunning 73 = .ok (.ireturn, 1) := by decide +kernel
theorem dX5_byRunning_74 : decode cX5_byRunning 74 = .ok (.aload_n 0, 1) := by decide +kernel
theorem dX5_byRunning_75 : decode cX5_byRunning 75 = .ok (.getfield 13, 3) := by decide +kernel
theorem dX5_byRunning_78 : decode cX5_byRunning 78 = .ok (.bipush 6, 2) := by decide +kernel
theorem dX5_byRunning_80 : decode cX5_byRunning 80 = .ok (.iaload, 1) := by decide +kernel
theorem dX5_byRunning_81 : decode cX5_byRunning 81 = .ok (.aload_n 0, 1) := by decide +kernel
theorem dX5_byRunning_82 : decode cX5_byRunning 82 = .ok (.getfield 7, 3) := by decide +kernel
theorem dX5_byRunning_85 : decode cX5_byRunning 85 = .ok (.bipush 6, 2) := by decide +kernel
theorem dX5_byRunning_87 : decode cX5_byRunning 87 = .ok (.iaload, 1) := by decide +kernel
theorem dX5_byRunning_88 : decode cX5_byRunning 88 = .ok (.isub, 1) := by decide +kernel
theorem dX5_byRunning_89 : decode cX5_byRunning 89 = .ok (.ireturn, 1) := by decide +kernel
set_option maxRecDepth 20000 in
theorem ggX5_ifRun_X5_in : GoodIn wsX5_ifRun wsX5_in := goodIn_r _ [5] (by decide +kernel) (by decide +kernel)
set_option maxRecDepth 20000 in
theorem gX5_ifRun_X5_in : GoodIn wsX5_ifRun (va_wsS RX5 36 yX5_in wsX5_in) := goodIn_app (goodIn_of _ (by decide +kernel)) ggX5_ifRun_X5_in
set_option maxRecDepth 20000 in
theorem ggX5_ifRun_X5_byRunning : GoodIn wsX5_ifRun wsX5_byRunning := goodIn_r _ [9, 10, 11, 12, 13, 14, 4, 15, 16, 17, 18, 19, 20, 21, 22, 23, 24, 25, 26, 27, 28, 29, 30, 31, 32, 33, 34, 35, 36, 37, 38, 39, 40, 41, 42, 43, 44, 45, 46, 47, 48, 49, 50, 51, 52, 53, 54, 55, 56, 57, 58, 63, 64, 65, 66, 67, 68, 69, 70, 71, 72, 73, 74, 75, 76] (by decide +kernel) (by decide +kernel)
set_option maxRecDepth 20000 in
theorem gX5_ifRun_X5_byRunning : GoodIn wsX5_ifRun (wsV RX5 185 RX5 yX5_byRunning wsX5_byRunning) := goodIn_app (goodIn_of _ (by decide +kernel)) ggX5_ifRun_X5_byRunning
set_option maxRecDepth 20000 in
theorem ggX5_ifRun_X5_fails : GoodIn wsX5_ifRun wsX5_fails := goodIn_r _ [62, 1, 63, 64, 65, 66, 67, 68, 69, 70, 71, 72, 73, 74, 75, 76] (by decide +kernel) (by decide +kernel)
set_option maxRecDepth 20000 in
theorem gX5_ifRun_X5_fails : GoodIn wsX5_ifRun (wsV RX5 51 RX5 yX5_fails wsX5_fails) := goodIn_app (goodIn_of _ (by decide +kernel)) ggX5_ifRun_X5_fails
theorem dX5_ifRun_0 : decode cX5_ifRun 0 = .ok (.aload_n 0, 1) := by decide +kernel
theorem dX5_ifRun_1 : decode cX5_ifRun 1 = .ok (.iconst 0, 1) := by decide +kernel
theorem dX5_ifRun_2 : decode cX5_ifRun 2 = .ok (.putfield 32, 3) := by decide +kernel
theorem dX5_ifRun_5 : decode cX5_ifRun 5 = .ok (.iload_n 1, 1) := by decide +kernel
theorem dX5_ifRun_6 : decode cX5_ifRun 6 = .ok (.iconst 1, 1) := by decide +kernel
theorem dX5_ifRun_7 : decode cX5_ifRun 7 = .ok (.sipush 500, 3) := by decide +kernel
theorem dX5_ifRun_10 : decode cX5_ifRun 10 = .ok (.invokestatic 36, 3) := by decide +kernel
theorem dX5_ifRun_13 : decode cX5_ifRun 13 = .ok (.ifCond .eq 32, 3) := by decide +kernel
theorem dX5_ifRun_16 : decode cX5_ifRun 16 = .ok (.iload_n 2, 1) := by decide +kernel
theorem dX5_ifRun_17 : decode cX5_ifRun 17 = .ok (.iconst 0, 1) := by decide +kernel
theorem dX5_ifRun_18 : decode cX5_ifRun 18 = .ok (.bipush 99, 2) := by decide +kernel
theorem dX5_ifRun_20 : decode cX5_ifRun 20 = .ok (.invokestatic 36, 3) := by decide +kernel
theorem dX5_ifRun_23 : decode cX5_ifRun 23 = .ok (.ifCond .eq 22, 3) := by decide +kernel
theorem dX5_ifRun_26 : decode cX5_ifRun 26 = .ok (.iload_n 3, 1) := by decide +kernel
theorem dX5_ifRun_27 : decode cX5_ifRun 27 = .ok (.iconst 0, 1) := by decide +kernel
theorem dX5_ifRun_28 : decode cX5_ifRun 28 = .ok (.iconst 4, 1) := by decide +kernel
theorem dX5_ifRun_29 : decode cX5_ifRun 29 = .ok (.invokestatic 36, 3) := by decide +kernel
theorem dX5_ifRun_32 : decode cX5_ifRun 32 = .ok (.ifCond .eq 13, 3) := by decide +kernel
theorem dX5_ifRun_35 : decode cX5_ifRun 35 = .ok (.aload_n 0, 1) := by decide +kernel
theorem dX5_ifRun_36 : decode cX5_ifRun 36 = .ok (.iload_n 1, 1) := by decide +kernel
theorem dX5_ifRun_37 : decode cX5_ifRun 37 = .ok (.iload_n 2, 1) := by decide +kernel
theorem dX5_ifRun_38 : decode cX5_ifRun 38 = .ok (.iload_n 3, 1) := by decide +kernel
theorem dX5_ifRun_39 : decode cX5_ifRun 39 = .ok (.invokevirtual 185, 3) := by decide +kernel
theorem dX5_ifRun_42 : decode cX5_ifRun 42 = .ok (.goto 8, 3) := by decide +kernel
theorem dX5_ifRun_45 : decode cX5_ifRun 45 = .ok (.aload_n 0, 1) := by decide +kernel
theorem dX5_ifRun_46 : decode cX5_ifRun 46 = .ok (.iconst 1, 1) := by decide +kernel
theorem dX5_ifRun_47 : decode cX5_ifRun 47 = .ok (.invokevirtual 51, 3) := by decide +kernel
theorem dX5_ifRun_50 : decode cX5_ifRun 50 = .ok (.ireturn, 1) := by decide +kernel
set_option maxRecDepth 20000 in
theorem ggX5_until_X5_copies : GoodIn wsX5_until wsX5_copies := goodIn_r _ [6] (by decide +kernel) (by decide +kernel)
set_option maxRecDepth 20000 in
theorem gX5_until_X5_copies : GoodIn wsX5_until (va_wsS RX5 47 yX5_copies wsX5_copies) := goodIn_app (goodIn_of _ (by decide +kernel)) ggX5_until_X5_copies
set_option maxRecDepth 20000 in
theorem ggX5_until_X5_areInStep : GoodIn wsX5_until wsX5_areInStep := goodIn_r _ [9, 10, 11, 5, 12, 13, 14, 15, 16, 17, 18, 19, 20, 21, 22, 23, 24] (by decide +kernel) (by decide +kernel)
set_option maxRecDepth 20000 in
theorem gX5_until_X5_areInStep : GoodIn wsX5_until (va_wsS RX5 174 yX5_areInStep wsX5_areInStep) := goodIn_app (goodIn_of _ (by decide +kernel)) ggX5_until_X5_areInStep
set_option maxRecDepth 20000 in
theorem ggX5_until_X5_goes : GoodIn wsX5_until wsX5_goes := goodIn_r _ [15, 16, 17, 5, 18] (by decide +kernel) (by decide +kernel)
set_option maxRecDepth 20000 in
theorem gX5_until_X5_goes : GoodIn wsX5_until (va_wsS RX5 65 yX5_goes wsX5_goes) := goodIn_app (goodIn_of _ (by decide +kernel)) ggX5_until_X5_goes
set_option maxRecDepth 20000 in
theorem ggX5_until_X5_step : GoodIn wsX5_until wsX5_step := goodIn_r _ [27, 28, 29, 5, 30, 13, 14, 15, 16, 17, 18, 31, 32, 33, 34, 35, 36, 37, 38, 39, 40, 41, 42, 43] (by decide +kernel) (by decide +kernel)
set_option maxRecDepth 20000 in
theorem gX5_until_X5_step : GoodIn wsX5_until (va_wsS RX5 81 yX5_step wsX5_step) := goodIn_app (goodIn_of _ (by decide +kernel)) ggX5_until_X5_step
theorem dX5_until_0 : decode cX5_until 0 = .ok (.aload_n 0, 1) := by decide +kernel
theorem dX5_until_1 : decode cX5_until 1 = .ok (.getfield 7, 3) := by decide +kernel
theorem dX5_until_4 : decode cX5_until 4 = .ok (.iconst 0, 1) := by decide +kernel
theorem dX5_until_5 : decode cX5_until 5 = .ok (.aload_n 0, 1) := by decide +kernel
theorem dX5_until_6 : decode cX5_until 6 = .ok (.getfield 13, 3) := by decide +kernel
theorem dX5_until_9 : decode cX5_until 9 = .ok (.iconst 0, 1) := by decide +kernel
theorem dX5_until_10 : decode cX5_until 10 = .ok (.invokestatic 47, 3) := by decide +kernel
theorem dX5_until_13 : decode cX5_until 13 = .ok (.iconst 0, 1) := by decide +kernel
theorem dX5_until_14 : decode cX5_until 14 = .ok (.istore_n 2, 1) := by decide +kernel
theorem dX5_until_15 : decode cX5_until 15 = .ok (.iload_n 2, 1) := by decide +kernel
theorem dX5_until_16 : decode cX5_until 16 = .ok (.sipush 500, 3) := by decide +kernel
theorem dX5_until_19 : decode cX5_until 19 = .ok (.if_icmp .gt 47, 3) := by decide +kernel
theorem dX5_until_22 : decode cX5_until 22 = .ok (.iload_n 1, 1) := by decide +kernel
theorem dX5_until_23 : decode cX5_until 23 = .ok (.iconst (-1), 1) := by decide +kernel
theorem dX5_until_24 : decode cX5_until 24 = .ok (.if_icmp .ne 16, 3) := by decide +kernel
theorem dX5_until_27 : decode cX5_until 27 = .ok (.aload_n 0, 1) := by decide +kernel
theorem dX5_until_28 : decode cX5_until 28 = .ok (.getfield 13, 3) := by decide +kernel
theorem dX5_until_31 : decode cX5_until 31 = .ok (.invokestatic 174, 3) := by decide +kernel
theorem dX5_until_34 : decode cX5_until 34 = .ok (.ifCond .eq 19, 3) := by decide +kernel
theorem dX5_until_37 : decode cX5_until 37 = .ok (.goto 14, 3) := by decide +kernel
theorem dX5_until_40 : decode cX5_until 40 = .ok (.aload_n 0, 1) := by decide +kernel
theorem dX5_until_41 : decode cX5_until 41 = .ok (.getfield 13, 3) := by decide +kernel
theorem dX5_until_44 : decode cX5_until 44 = .ok (.iload_n 1, 1) := by decide +kernel
theorem dX5_until_45 : decode cX5_until 45 = .ok (.invokestatic 65, 3) := by decide +kernel
theorem dX5_until_48 : decode cX5_until 48 = .ok (.ifCond .ne 5, 3) := by decide +kernel
theorem dX5_until_51 : decode cX5_until 51 = .ok (.iload_n 2, 1) := by decide +kernel
theorem dX5_until_52 : decode cX5_until 52 = .ok (.ireturn, 1) := by decide +kernel
theorem dX5_until_53 : decode cX5_until 53 = .ok (.aload_n 0, 1) := by decide +kernel
theorem dX5_until_54 : decode cX5_until 54 = .ok (.getfield 13, 3) := by decide +kernel
theorem dX5_until_57 : decode cX5_until 57 = .ok (.invokestatic 81, 3) := by decide +kernel
theorem dX5_until_60 : decode cX5_until 60 = .ok (.iinc 2 1, 3) := by decide +kernel
theorem dX5_until_63 : decode cX5_until 63 = .ok (.goto (-48), 3) := by decide +kernel
theorem dX5_until_66 : decode cX5_until 66 = .ok (.iconst (-1), 1) := by decide +kernel
theorem dX5_until_67 : decode cX5_until 67 = .ok (.ireturn, 1) := by decide +kernel
set_option maxRecDepth 20000 in
theorem ggX5_untilStep_X5_until : GoodIn wsX5_untilStep wsX5_until := goodIn_r _ [6, 7, 8, 9, 10, 5, 11, 12, 13, 14, 15, 16, 17, 18, 19, 20, 21, 22, 23, 24, 25, 26, 27, 28, 29, 30, 31, 32, 33, 34, 35, 36, 37, 38, 39, 40, 41, 42, 43, 44, 45, 46, 47, 48, 49, 50, 51, 52, 53, 54, 55, 56, 57, 58, 59, 60, 61, 62] (by decide +kernel) (by decide +kernel)
set_option maxRecDepth 20000 in
theorem gX5_untilStep_X5_until : GoodIn wsX5_untilStep (wsV RX5 188 RX5 yX5_until wsX5_until) := goodIn_app (goodIn_of _ (by decide +kernel)) ggX5_untilStep_X5_until
theorem dX5_untilStep_0 : decode cX5_untilStep 0 = .ok (.aload_n 0, 1) := by decide +kernel
theorem dX5_untilStep_1 : decode cX5_untilStep 1 = .ok (.iconst 0, 1) := by decide +kernel
theorem dX5_untilStep_2 : decode cX5_untilStep 2 = .ok (.putfield 32, 3) := by decide +kernel
theorem dX5_untilStep_5 : decode cX5_untilStep 5 = .ok (.aload_n 0, 1) := by decide +kernel
theorem dX5_untilStep_6 : decode cX5_untilStep 6 = .ok (.iconst (-1), 1) := by decide +kernel
theorem dX5_untilStep_7 : decode cX5_untilStep 7 = .ok (.invokevirtual 188, 3) := by decide +kernel
theorem dX5_untilStep_10 : decode cX5_untilStep 10 = .ok (.ireturn, 1) := by decide +kernel
set_option maxRecDepth 20000 in
theorem ggX5_stopsIn_X5_isArm : GoodIn wsX5_stopsIn wsX5_isArm := goodIn_r _ [6, 7, 8, 9, 5, 10, 60, 61, 62, 63, 64, 65, 66, 67, 68, 69, 70, 71, 72, 73] (by decide +kernel) (by decide +kernel)
set_option maxRecDepth 20000 in
theorem gX5_stopsIn_X5_isArm : GoodIn wsX5_stopsIn (wsV RX5 101 RX5 yX5_isArm wsX5_isArm) := goodIn_app (goodIn_of _ (by decide +kernel)) ggX5_stopsIn_X5_isArm
set_option maxRecDepth 20000 in
theorem ggX5_stopsIn_X5_until : GoodIn wsX5_stopsIn wsX5_until := goodIn_r _ [14, 7, 15, 16, 17, 5, 18, 19, 20, 21, 22, 23, 24, 25, 26, 27, 28, 29, 30, 31, 32, 33, 34, 35, 36, 37, 38, 39, 40, 41, 42, 43, 44, 45, 46, 47, 48, 49, 50, 51, 52, 53, 54, 55, 60, 61, 62, 63, 64, 65, 66, 67, 68, 69, 70, 71, 72, 73] (by decide +kernel) (by decide +kernel)
set_option maxRecDepth 20000 in
theorem gX5_stopsIn_X5_until : GoodIn wsX5_stopsIn (wsV RX5 188 RX5 yX5_until wsX5_until) := goodIn_app (goodIn_of _ (by decide +kernel)) ggX5_stopsIn_X5_until
set_option maxRecDepth 20000 in
theorem ggX5_stopsIn_X5_fails : GoodIn wsX5_stopsIn wsX5_fails := goodIn_r _ [59, 1, 60, 61, 62, 63, 64, 65, 66, 67, 68, 69, 70, 71, 72, 73] (by decide +kernel) (by decide +kernel)
set_option maxRecDepth 20000 in
theorem gX5_stopsIn_X5_fails : GoodIn wsX5_stopsIn (wsV RX5 51 RX5 yX5_fails wsX5_fails) := goodIn_app (goodIn_of _ (by decide +kernel)) ggX5_stopsIn_X5_fails
theorem dX5_stopsIn_0 : decode cX5_stopsIn 0 = .ok (.aload_n 0, 1) := by decide +kernel
theorem dX5_stopsIn_1 : decode cX5_stopsIn 1 = .ok (.iconst 0, 1) := by decide +kernel
theorem dX5_stopsIn_2 : decode cX5_stopsIn 2 = .ok (.putfield 32, 3) := by decide +kernel
theorem dX5_stopsIn_5 : decode cX5_stopsIn 5 = .ok (.aload_n 0, 1) := by decide +kernel
theorem dX5_stopsIn_6 : decode cX5_stopsIn 6 = .ok (.iload_n 1, 1) := by decide +kernel
theorem dX5_stopsIn_7 : decode cX5_stopsIn 7 = .ok (.invokevirtual 101, 3) := by decide +kernel
theorem dX5_stopsIn_10 : decode cX5_stopsIn 10 = .ok (.ifCond .eq 11, 3) := by decide +kernel
theorem dX5_stopsIn_13 : decode cX5_stopsIn 13 = .ok (.aload_n 0, 1) := by decide +kernel
theorem dX5_stopsIn_14 : decode cX5_stopsIn 14 = .ok (.iload_n 1, 1) := by decide +kernel
theorem dX5_stopsIn_15 : decode cX5_stopsIn 15 = .ok (.invokevirtual 188, 3) := by decide +kernel
theorem dX5_stopsIn_18 : decode cX5_stopsIn 18 = .ok (.goto 8, 3) := by decide +kernel
theorem dX5_stopsIn_21 : decode cX5_stopsIn 21 = .ok (.aload_n 0, 1) := by decide +kernel
theorem dX5_stopsIn_22 : decode cX5_stopsIn 22 = .ok (.iconst 1, 1) := by decide +kernel
theorem dX5_stopsIn_23 : decode cX5_stopsIn 23 = .ok (.invokevirtual 51, 3) := by decide +kernel
theorem dX5_stopsIn_26 : decode cX5_stopsIn 26 = .ok (.ireturn, 1) := by decide +kernel
set_option maxRecDepth 20000 in
theorem ggX5_best_X5_byRunning : GoodIn wsX5_best wsX5_byRunning := goodIn_r _ [5, 6, 7, 8, 9, 10, 4, 11, 12, 13, 14, 15, 16, 17, 18, 19, 20, 21, 22, 23, 24, 25, 26, 27, 28, 29, 30, 31, 32, 33, 34, 35, 36, 37, 38, 39, 40, 41, 42, 43, 44, 45, 46, 47, 48, 49, 50, 51, 52, 53, 54, 55, 56, 57, 58, 59, 60, 61, 62, 63, 64, 65, 66, 67, 68] (by decide +kernel) (by decide +kernel)
set_option maxRecDepth 20000 in
theorem gX5_best_X5_byRunning : GoodIn wsX5_best (wsV RX5 185 RX5 yX5_byRunning wsX5_byRunning) := goodIn_app (goodIn_of _ (by decide +kernel)) ggX5_best_X5_byRunning
theorem dX5_best_0 : decode cX5_best 0 = .ok (.iconst 0, 1) := by decide +kernel
theorem dX5_best_1 : decode cX5_best 1 = .ok (.istore_n 2, 1) := by decide +kernel
theorem dX5_best_2 : decode cX5_best 2 = .ok (.iconst (-1), 1) := by decide +kernel
theorem dX5_best_3 : decode cX5_best 3 = .ok (.istore_n 3, 1) := by decide +kernel
theorem dX5_best_4 : decode cX5_best 4 = .ok (.iconst 0, 1) := by decide +kernel
theorem dX5_best_5 : decode cX5_best 5 = .ok (.istore 4, 2) := by decide +kernel
theorem dX5_best_7 : decode cX5_best 7 = .ok (.iload 4, 2) := by decide +kernel
theorem dX5_best_9 : decode cX5_best 9 = .ok (.bipush 100, 2) := by decide +kernel
theorem dX5_best_11 : decode cX5_best 11 = .ok (.if_icmp .ge 45, 3) := by decide +kernel
theorem dX5_best_14 : decode cX5_best 14 = .ok (.aload_n 0, 1) := by decide +kernel
theorem dX5_best_15 : decode cX5_best 15 = .ok (.iload_n 1, 1) := by decide +kernel
theorem dX5_best_16 : decode cX5_best 16 = .ok (.iload 4, 2) := by decide +kernel
theorem dX5_best_18 : decode cX5_best 18 = .ok (.iconst 1, 1) := by decide +kernel
theorem dX5_best_19 : decode cX5_best 19 = .ok (.invokevirtual 185, 3) := by decide +kernel
theorem dX5_best_22 : decode cX5_best 22 = .ok (.istore 5, 2) := by decide +kernel
theorem dX5_best_24 : decode cX5_best 24 = .ok (.iload 5, 2) := by decide +kernel
theorem dX5_best_26 : decode cX5_best 26 = .ok (.iload_n 3, 1) := by decide +kernel
theorem dX5_best_27 : decode cX5_best 27 = .ok (.if_icmp .le 8, 3) := by decide +kernel
theorem dX5_best_30 : decode cX5_best 30 = .ok (.iload 4, 2) := by decide +kernel
theorem dX5_best_32 : decode cX5_best 32 = .ok (.goto 4, 3) := by decide +kernel
theorem dX5_best_35 : decode cX5_best 35 = .ok (.iload_n 2, 1) := by decide +kernel
theorem dX5_best_36 : decode cX5_best 36 = .ok (.istore_n 2, 1) := by decide +kernel
theorem dX5_best_37 : decode cX5_best 37 = .ok (.iload 5, 2) := by decide +kernel
theorem dX5_best_39 : decode cX5_best 39 = .ok (.iload_n 3, 1) := by decide +kernel
theorem dX5_best_40 : decode cX5_best 40 = .ok (.if_icmp .le 8, 3) := by decide +kernel
theorem dX5_best_43 : decode cX5_best 43 = .ok (.iload 5, 2) := by decide +kernel
theorem dX5_best_45 : decode cX5_best 45 = .ok (.goto 4, 3) := by decide +kernel
theorem dX5_best_48 : decode cX5_best 48 = .ok (.iload_n 3, 1) := by decide +kernel
theorem dX5_best_49 : decode cX5_best 49 = .ok (.istore_n 3, 1) := by decide +kernel
theorem dX5_best_50 : decode cX5_best 50 = .ok (.iinc 4 5, 3) := by decide +kernel
theorem dX5_best_53 : decode cX5_best 53 = .ok (.goto (-46), 3) := by decide +kernel
theorem dX5_best_56 : decode cX5_best 56 = .ok (.iload_n 2, 1) := by decide +kernel
theorem dX5_best_57 : decode cX5_best 57 = .ok (.ireturn, 1) := by decide +kernel
set_option maxRecDepth 20000 in
theorem ggX5_bestStrength_X5_in : GoodIn wsX5_bestStrength wsX5_in := goodIn_r _ [5] (by decide +kernel) (by decide +kernel)
set_option maxRecDepth 20000 in
theorem gX5_bestStrength_X5_in : GoodIn wsX5_bestStrength (va_wsS RX5 36 yX5_in wsX5_in) := goodIn_app (goodIn_of _ (by decide +kernel)) ggX5_bestStrength_X5_in
set_option maxRecDepth 20000 in
theorem ggX5_bestStrength_X5_best : GoodIn wsX5_bestStrength wsX5_best := goodIn_r _ [9, 10, 11, 12, 4, 13, 14, 15, 16, 17, 18, 19, 20, 21, 22, 23, 24, 25, 26, 27, 28, 29, 30, 31, 32, 33, 34, 35, 36, 37, 38, 39, 40, 41, 42, 43, 44, 45, 46, 47, 48, 49, 50, 51, 52, 53, 54, 55, 56, 57, 58, 59, 60, 61, 62, 67, 68, 69, 70, 71, 72, 73, 74, 75, 76, 77, 78, 79, 80] (by decide +kernel) (by decide +kernel)
set_option maxRecDepth 20000 in
theorem gX5_bestStrength_X5_best : GoodIn wsX5_bestStrength (wsV RX5 191 RX5 yX5_best wsX5_best) := goodIn_app (goodIn_of _ (by decide +kernel)) ggX5_bestStrength_X5_best
set_option maxRecDepth 20000 in
theorem ggX5_bestStrength_X5_fails : GoodIn wsX5_bestStrength wsX5_fails := goodIn_r _ [66, 1, 67, 68, 69, 70, 71, 72, 73, 74, 75, 76, 77, 78, 79, 80] (by decide +kernel) (by decide +kernel)
set_option maxRecDepth 20000 in
theorem gX5_bestStrength_X5_fails : GoodIn wsX5_bestStrength (wsV RX5 51 RX5 yX5_fails wsX5_fails) := goodIn_app (goodIn_of _ (by decide +kernel)) ggX5_bestStrength_X5_fails
theorem dX5_bestStrength_0 : decode cX5_bestStrength 0 = .ok (.aload_n 0, 1) := by decide +kernel
theorem dX5_bestStrength_1 : decode cX5_bestStrength 1 = .ok (.iconst 0, 1) := by decide +kernel
theorem dX5_bestStrength_2 : decode cX5_bestStrength 2 = .ok (.putfield 32, 3) := by decide +kernel
theorem dX5_bestStrength_5 : decode cX5_bestStrength 5 = .ok (.iload_n 1, 1) := by decide +kernel
theorem dX5_bestStrength_6 : decode cX5_bestStrength 6 = .ok (.iconst 1, 1) := by decide +kernel
theorem dX5_bestStrength_7 : decode cX5_bestStrength 7 = .ok (.sipush 300, 3) := by decide +kernel
theorem dX5_bestStrength_10 : decode cX5_bestStrength 10 = .ok (.invokestatic 36, 3) := by decide +kernel
theorem dX5_bestStrength_13 : decode cX5_bestStrength 13 = .ok (.ifCond .eq 11, 3) := by decide +kernel
theorem dX5_bestStrength_16 : decode cX5_bestStrength 16 = .ok (.aload_n 0, 1) := by decide +kernel
theorem dX5_bestStrength_17 : decode cX5_bestStrength 17 = .ok (.iload_n 1, 1) := by decide +kernel
theorem dX5_bestStrength_18 : decode cX5_bestStrength 18 = .ok (.invokevirtual 191, 3) := by decide +kernel
theorem dX5_bestStrength_21 : decode cX5_bestStrength 21 = .ok (.goto 8, 3) := by decide +kernel
theorem dX5_bestStrength_24 : decode cX5_bestStrength 24 = .ok (.aload_n 0, 1) := by decide +kernel
theorem dX5_bestStrength_25 : decode cX5_bestStrength 25 = .ok (.iconst 1, 1) := by decide +kernel
theorem dX5_bestStrength_26 : decode cX5_bestStrength 26 = .ok (.invokevirtual 51, 3) := by decide +kernel
theorem dX5_bestStrength_29 : decode cX5_bestStrength 29 = .ok (.ireturn, 1) := by decide +kernel
set_option maxRecDepth 20000 in
theorem ggX5_far_X5_most : GoodIn wsX5_far wsX5_most := goodIn_r _ [5, 6, 7, 4, 8, 9, 10, 11, 12, 13, 14] (by decide +kernel) (by decide +kernel)
set_option maxRecDepth 20000 in
theorem gX5_far_X5_most : GoodIn wsX5_far (va_wsS RX5 88 yX5_most wsX5_most) := goodIn_app (goodIn_of _ (by decide +kernel)) ggX5_far_X5_most
theorem dX5_far_0 : decode cX5_far 0 = .ok (.aload_n 0, 1) := by decide +kernel
theorem dX5_far_1 : decode cX5_far 1 = .ok (.getfield 7, 3) := by decide +kernel
theorem dX5_far_4 : decode cX5_far 4 = .ok (.invokestatic 88, 3) := by decide +kernel
theorem dX5_far_7 : decode cX5_far 7 = .ok (.istore_n 2, 1) := by decide +kernel
theorem dX5_far_8 : decode cX5_far 8 = .ok (.iload_n 2, 1) := by decide +kernel
theorem dX5_far_9 : decode cX5_far 9 = .ok (.iconst (-1), 1) := by decide +kernel
theorem dX5_far_10 : decode cX5_far 10 = .ok (.if_icmp .ne 7, 3) := by decide +kernel
theorem dX5_far_13 : decode cX5_far 13 = .ok (.iconst (-1), 1) := by decide +kernel
theorem dX5_far_14 : decode cX5_far 14 = .ok (.goto 18, 3) := by decide +kernel
theorem dX5_far_17 : decode cX5_far 17 = .ok (.iload_n 1, 1) := by decide +kernel
theorem dX5_far_18 : decode cX5_far 18 = .ok (.ifCond .eq 10, 3) := by decide +kernel
theorem dX5_far_21 : decode cX5_far 21 = .ok (.iload_n 2, 1) := by decide +kernel
theorem dX5_far_22 : decode cX5_far 22 = .ok (.bipush 8, 2) := by decide +kernel
theorem dX5_far_24 : decode cX5_far 24 = .ok (.irem, 1) := by decide +kernel
theorem dX5_far_25 : decode cX5_far 25 = .ok (.goto 7, 3) := by decide +kernel
theorem dX5_far_28 : decode cX5_far 28 = .ok (.iload_n 2, 1) := by decide +kernel
theorem dX5_far_29 : decode cX5_far 29 = .ok (.bipush 8, 2) := by decide +kernel
theorem dX5_far_31 : decode cX5_far 31 = .ok (.idiv, 1) := by decide +kernel
theorem dX5_far_32 : decode cX5_far 32 = .ok (.ireturn, 1) := by decide +kernel
set_option maxRecDepth 20000 in
theorem ggX5_farthest_X5_far : GoodIn wsX5_farthest wsX5_far := goodIn_r _ [6, 7, 8, 9, 5, 10, 11, 12, 13, 14, 15, 16, 17, 18, 19, 20, 21, 22, 23, 24, 25, 26, 27, 28, 29, 30, 31, 32, 33] (by decide +kernel) (by decide +kernel)
set_option maxRecDepth 20000 in
theorem gX5_farthest_X5_far : GoodIn wsX5_farthest (wsV RX5 194 RX5 yX5_far wsX5_far) := goodIn_app (goodIn_of _ (by decide +kernel)) ggX5_farthest_X5_far
theorem dX5_farthest_0 : decode cX5_farthest 0 = .ok (.aload_n 0, 1) := by decide +kernel
theorem dX5_farthest_1 : decode cX5_farthest 1 = .ok (.iconst 0, 1) := by decide +kernel
theorem dX5_farthest_2 : decode cX5_farthest 2 = .ok (.putfield 32, 3) := by decide +kernel
theorem dX5_farthest_5 : decode cX5_farthest 5 = .ok (.aload_n 0, 1) := by decide +kernel
theorem dX5_farthest_6 : decode cX5_farthest 6 = .ok (.iload_n 1, 1) := by decide +kernel
theorem dX5_farthest_7 : decode cX5_farthest 7 = .ok (.invokevirtual 194, 3) := by decide +kernel
theorem dX5_farthest_10 : decode cX5_farthest 10 = .ok (.ireturn, 1) := by decide +kernel
theorem dX5_share_0 : decode cX5_share 0 = .ok (.aload_n 0, 1) := by decide +kernel
theorem dX5_share_1 : decode cX5_share 1 = .ok (.getfield 7, 3) := by decide +kernel
theorem dX5_share_4 : decode cX5_share 4 = .ok (.iconst 4, 1) := by decide +kernel
theorem dX5_share_5 : decode cX5_share 5 = .ok (.iaload, 1) := by decide +kernel
theorem dX5_share_6 : decode cX5_share 6 = .ok (.ifCond .ne 7, 3) := by decide +kernel
theorem dX5_share_9 : decode cX5_share 9 = .ok (.dconst 0, 1) := by decide +kernel
theorem dX5_share_10 : decode cX5_share 10 = .ok (.goto 19, 3) := by decide +kernel
theorem dX5_share_13 : decode cX5_share 13 = .ok (.aload_n 0, 1) := by decide +kernel
theorem dX5_share_14 : decode cX5_share 14 = .ok (.getfield 7, 3) := by decide +kernel
theorem dX5_share_17 : decode cX5_share 17 = .ok (.bipush 6, 2) := by decide +kernel
theorem dX5_share_19 : decode cX5_share 19 = .ok (.iaload, 1) := by decide +kernel
theorem dX5_share_20 : decode cX5_share 20 = .ok (.i2d, 1) := by decide +kernel
theorem dX5_share_21 : decode cX5_share 21 = .ok (.aload_n 0, 1) := by decide +kernel
theorem dX5_share_22 : decode cX5_share 22 = .ok (.getfield 7, 3) := by decide +kernel
theorem dX5_share_25 : decode cX5_share 25 = .ok (.iconst 4, 1) := by decide +kernel
theorem dX5_share_26 : decode cX5_share 26 = .ok (.iaload, 1) := by decide +kernel
theorem dX5_share_27 : decode cX5_share 27 = .ok (.i2d, 1) := by decide +kernel
theorem dX5_share_28 : decode cX5_share 28 = .ok (.ddiv, 1) := by decide +kernel
theorem dX5_share_29 : decode cX5_share 29 = .ok (.dreturn, 1) := by decide +kernel
set_option maxRecDepth 20000 in
theorem ggX5_togetherShare_X5_share : GoodIn wsX5_togetherShare wsX5_share := goodIn_r _ [6, 7, 8, 9, 10, 11, 12, 13, 14, 15, 16, 17, 18, 19, 20, 21] (by decide +kernel) (by decide +kernel)
set_option maxRecDepth 20000 in
theorem gX5_togetherShare_X5_share : GoodIn wsX5_togetherShare (wsV RX5 198 RX5 yX5_share wsX5_share) := goodIn_app (goodIn_of _ (by decide +kernel)) ggX5_togetherShare_X5_share
theorem dX5_togetherShare_0 : decode cX5_togetherShare 0 = .ok (.aload_n 0, 1) := by decide +kernel
theorem dX5_togetherShare_1 : decode cX5_togetherShare 1 = .ok (.iconst 0, 1) := by decide +kernel
theorem dX5_togetherShare_2 : decode cX5_togetherShare 2 = .ok (.putfield 32, 3) := by decide +kernel
theorem dX5_togetherShare_5 : decode cX5_togetherShare 5 = .ok (.aload_n 0, 1) := by decide +kernel
theorem dX5_togetherShare_6 : decode cX5_togetherShare 6 = .ok (.invokevirtual 198, 3) := by decide +kernel
theorem dX5_togetherShare_9 : decode cX5_togetherShare 9 = .ok (.dreturn, 1) := by decide +kernel
set_option maxRecDepth 20000 in
theorem ggX5_digest_X5_counted : GoodIn wsX5_digest wsX5_counted := goodIn_r _ [12, 4, 13, 14, 15, 11, 16, 17, 18, 19, 20, 21, 22, 23, 24, 25, 26, 27, 28, 29, 30, 31, 32, 33, 34, 35, 36, 37, 38, 39, 40, 41, 42, 43, 44, 45, 46, 101, 102, 103, 104, 105, 106, 107, 108, 109, 110, 111, 112, 113, 114] (by decide +kernel) (by decide +kernel)
set_option maxRecDepth 20000 in
theorem gX5_digest_X5_counted : GoodIn wsX5_digest (wsV RX5 178 RX5 yX5_counted wsX5_counted) := goodIn_app (goodIn_of _ (by decide +kernel)) ggX5_digest_X5_counted
set_option maxRecDepth 20000 in
theorem ggX5_digest_X5_ofArm : GoodIn wsX5_digest wsX5_ofArm := goodIn_r _ [50, 4, 17, 18, 11, 19, 20, 21, 22, 32, 33, 34, 29, 30, 31, 51, 52, 53, 54, 101, 102, 103, 104, 105, 106, 107, 108, 109, 110, 111, 112, 113, 114] (by decide +kernel) (by decide +kernel)
set_option maxRecDepth 20000 in
theorem gX5_digest_X5_ofArm : GoodIn wsX5_digest (wsV RX5 168 RX5 yX5_ofArm wsX5_ofArm) := goodIn_app (goodIn_of _ (by decide +kernel)) ggX5_digest_X5_ofArm
set_option maxRecDepth 20000 in
theorem ggX5_digest_X5_until : GoodIn wsX5_digest wsX5_until := goodIn_r _ [58, 4, 59, 60, 61, 11, 62, 35, 36, 37, 38, 39, 40, 17, 18, 19, 20, 21, 22, 41, 42, 43, 44, 45, 46, 63, 64, 65, 14, 15, 16, 26, 27, 28, 29, 30, 31, 32, 33, 34, 51, 52, 53, 54, 101, 102, 103, 104, 105, 106, 107, 108, 109, 110, 111, 112, 113, 114] (by decide +kernel) (by decide +kernel)
set_option maxRecDepth 20000 in
theorem gX5_digest_X5_until : GoodIn wsX5_digest (wsV RX5 188 RX5 yX5_until wsX5_until) := goodIn_app (goodIn_of _ (by decide +kernel)) ggX5_digest_X5_until
set_option maxRecDepth 20000 in
theorem ggX5_digest_X5_apartBy : GoodIn wsX5_digest wsX5_apartBy := goodIn_r _ [43, 20, 21, 11, 22] (by decide +kernel) (by decide +kernel)
set_option maxRecDepth 20000 in
theorem gX5_digest_X5_apartBy : GoodIn wsX5_digest (va_wsS RX5 85 yX5_apartBy wsX5_apartBy) := goodIn_app (goodIn_of _ (by decide +kernel)) ggX5_digest_X5_apartBy
set_option maxRecDepth 20000 in
theorem ggX5_digest_X5_byRunning : GoodIn wsX5_digest wsX5_byRunning := goodIn_r _ [69, 59, 4, 70, 71, 72, 11, 73, 60, 61, 62, 74, 75, 76, 63, 64, 65, 14, 15, 16, 17, 18, 19, 20, 21, 22, 26, 27, 28, 29, 30, 31, 32, 33, 34, 51, 52, 53, 54, 23, 24, 25, 44, 45, 46, 38, 39, 40, 41, 42, 43, 101, 102, 103, 104, 105, 106, 107, 108, 109, 110, 111, 112, 113, 114] (by decide +kernel) (by decide +kernel)
set_option maxRecDepth 20000 in
theorem gX5_digest_X5_byRunning : GoodIn wsX5_digest (wsV RX5 185 RX5 yX5_byRunning wsX5_byRunning) := goodIn_app (goodIn_of _ (by decide +kernel)) ggX5_digest_X5_byRunning
set_option maxRecDepth 20000 in
theorem ggX5_digest_X5_best : GoodIn wsX5_digest wsX5_best := goodIn_r _ [80, 66, 67, 68, 11, 69, 59, 4, 70, 71, 72, 73, 60, 61, 62, 74, 75, 76, 63, 64, 65, 14, 15, 16, 17, 18, 19, 20, 21, 22, 26, 27, 28, 29, 30, 31, 32, 33, 34, 51, 52, 53, 54, 23, 24, 25, 44, 45, 46, 38, 39, 40, 41, 42, 43, 101, 102, 103, 104, 105, 106, 107, 108, 109, 110, 111, 112, 113, 114] (by decide +kernel) (by decide +kernel)
set_option maxRecDepth 20000 in
theorem gX5_digest_X5_best : GoodIn wsX5_digest (wsV RX5 191 RX5 yX5_best wsX5_best) := goodIn_app (goodIn_of _ (by decide +kernel)) ggX5_digest_X5_best
set_option maxRecDepth 20000 in
theorem ggX5_digest_X5_far : GoodIn wsX5_digest wsX5_far := goodIn_r _ [84, 4, 38, 39, 11, 40, 17, 18, 19, 20, 21, 22, 41, 42, 43, 101, 102, 103, 104, 105, 106, 107, 108, 109, 110, 111, 112, 113, 114] (by decide +kernel) (by decide +kernel)
set_option maxRecDepth 20000 in
theorem gX5_digest_X5_far : GoodIn wsX5_digest (wsV RX5 194 RX5 yX5_far wsX5_far) := goodIn_app (goodIn_of _ (by decide +kernel)) ggX5_digest_X5_far
set_option maxRecDepth 20000 in
theorem ggX5_digest_X5_share : GoodIn wsX5_digest wsX5_share := goodIn_r _ [88, 4, 101, 102, 103, 104, 105, 106, 107, 108, 109, 110, 111, 112, 113, 114] (by decide +kernel) (by decide +kernel)
set_option maxRecDepth 20000 in
theorem gX5_digest_X5_share : GoodIn wsX5_digest (wsV RX5 198 RX5 yX5_share wsX5_share) := goodIn_app (goodIn_of _ (by decide +kernel)) ggX5_digest_X5_share
set_option maxRecDepth 20000 in
theorem ggX5_digest_Jxe99ae_doubleToLongBits_ccdee : GoodIn wsX5_digest wsJxe99ae_doubleToLongBits_ccdee := goodIn_r _ [92, 93, 94, 95, 96, 97, 98, 99, 91, 100] (by decide +kernel) (by decide +kernel)
set_option maxRecDepth 20000 in
theorem gX5_digest_Jxe99ae_doubleToLongBits_ccdee : GoodIn wsX5_digest (va_wsS RX5 206 yJxe99ae_doubleToLongBits_ccdee wsJxe99ae_doubleToLongBits_ccdee) := goodIn_app (goodIn_of _ (by decide +kernel)) ggX5_digest_Jxe99ae_doubleToLongBits_ccdee
theorem dX5_digest_0 : decode cX5_digest 0 = .ok (.aload_n 0, 1) := by decide +kernel
theorem dX5_digest_1 : decode cX5_digest 1 = .ok (.iconst 0, 1) := by decide +kernel
theorem dX5_digest_2 : decode cX5_digest 2 = .ok (.putfield 32, 3) := by decide +kernel
theorem dX5_digest_5 : decode cX5_digest 5 = .ok (.ldc2_w 202, 3) := by decide +kernel
theorem dX5_digest_8 : decode cX5_digest 8 = .ok (.lstore_n 1, 1) := by decide +kernel
theorem dX5_digest_9 : decode cX5_digest 9 = .ok (.iconst 0, 1) := by decide +kernel
theorem dX5_digest_10 : decode cX5_digest 10 = .ok (.istore_n 3, 1) := by decide +kernel
theorem dX5_digest_11 : decode cX5_digest 11 = .ok (.iload_n 3, 1) := by decide +kernel
theorem dX5_digest_12 : decode cX5_digest 12 = .ok (.bipush 12, 2) := by decide +kernel
theorem dX5_digest_14 : decode cX5_digest 14 = .ok (.if_icmp .ge 22, 3) := by decide +kernel
theorem dX5_digest_17 : decode cX5_digest 17 = .ok (.ldc2_w 204, 3) := by decide +kernel
theorem dX5_digest_20 : decode cX5_digest 20 = .ok (.lload_n 1, 1) := by decide +kernel
theorem dX5_digest_21 : decode cX5_digest 21 = .ok (.lmul, 1) := by decide +kernel
theorem dX5_digest_22 : decode cX5_digest 22 = .ok (.aload_n 0, 1) := by decide +kernel
theorem dX5_digest_23 : decode cX5_digest 23 = .ok (.iload_n 3, 1) := by decide +kernel
theorem dX5_digest_24 : decode cX5_digest 24 = .ok (.invokevirtual 178, 3) := by decide +kernel
theorem dX5_digest_27 : decode cX5_digest 27 = .ok (.i2l, 1) := by decide +kernel
theorem dX5_digest_28 : decode cX5_digest 28 = .ok (.ladd, 1) := by decide +kernel
theorem dX5_digest_29 : decode cX5_digest 29 = .ok (.lstore_n 1, 1) := by decide +kernel
theorem dX5_digest_30 : decode cX5_digest 30 = .ok (.iinc 3 1, 3) := by decide +kernel
theorem dX5_digest_33 : decode cX5_digest 33 = .ok (.goto (-22), 3) := by decide +kernel
theorem dX5_digest_36 : decode cX5_digest 36 = .ok (.iconst 0, 1) := by decide +kernel
theorem dX5_digest_37 : decode cX5_digest 37 = .ok (.istore_n 3, 1) := by decide +kernel
theorem dX5_digest_38 : decode cX5_digest 38 = .ok (.iload_n 3, 1) := by decide +kernel
theorem dX5_digest_39 : decode cX5_digest 39 = .ok (.iconst 3, 1) := by decide +kernel
theorem dX5_digest_40 : decode cX5_digest 40 = .ok (.if_icmp .ge 23, 3) := by decide +kernel
theorem dX5_digest_43 : decode cX5_digest 43 = .ok (.ldc2_w 204, 3) := by decide +kernel
theorem dX5_digest_46 : decode cX5_digest 46 = .ok (.lload_n 1, 1) := by decide +kernel
theorem dX5_digest_47 : decode cX5_digest 47 = .ok (.lmul, 1) := by decide +kernel
theorem dX5_digest_48 : decode cX5_digest 48 = .ok (.aload_n 0, 1) := by decide +kernel
theorem dX5_digest_49 : decode cX5_digest 49 = .ok (.getfield 7, 3) := by decide +kernel
theorem dX5_digest_52 : decode cX5_digest 52 = .ok (.iload_n 3, 1) := by decide +kernel
theorem dX5_digest_53 : decode cX5_digest 53 = .ok (.iaload, 1) := by decide +kernel
theorem dX5_digest_54 : decode cX5_digest 54 = .ok (.i2l, 1) := by decide +kernel
theorem dX5_digest_55 : decode cX5_digest 55 = .ok (.ladd, 1) := by decide +kernel
theorem dX5_digest_56 : decode cX5_digest 56 = .ok (.lstore_n 1, 1) := by decide +kernel
theorem dX5_digest_57 : decode cX5_digest 57 = .ok (.iinc 3 1, 3) := by decide +kernel
theorem dX5_digest_60 : decode cX5_digest 60 = .ok (.goto (-22), 3) := by decide +kernel
theorem dX5_digest_63 : decode cX5_digest 63 = .ok (.iconst 0, 1) := by decide +kernel
theorem dX5_digest_64 : decode cX5_digest 64 = .ok (.istore_n 3, 1) := by decide +kernel
theorem dX5_digest_65 : decode cX5_digest 65 = .ok (.iload_n 3, 1) := by decide +kernel
theorem dX5_digest_66 : decode cX5_digest 66 = .ok (.aload_n 0, 1) := by decide +kernel
theorem dX5_digest_67 : decode cX5_digest 67 = .ok (.getfield 7, 3) := by decide +kernel
theorem dX5_digest_70 : decode cX5_digest 70 = .ok (.iconst 3, 1) := by decide +kernel
theorem dX5_digest_71 : decode cX5_digest 71 = .ok (.iaload, 1) := by decide +kernel
theorem dX5_digest_72 : decode cX5_digest 72 = .ok (.if_icmp .ge 53, 3) := by decide +kernel
theorem dX5_digest_75 : decode cX5_digest 75 = .ok (.iconst 0, 1) := by decide +kernel
theorem dX5_digest_76 : decode cX5_digest 76 = .ok (.istore 4, 2) := by decide +kernel
theorem dX5_digest_78 : decode cX5_digest 78 = .ok (.iload 4, 2) := by decide +kernel
theorem dX5_digest_80 : decode cX5_digest 80 = .ok (.bipush 9, 2) := by decide +kernel
theorem dX5_digest_82 : decode cX5_digest 82 = .ok (.if_icmp .ge 24, 3) := by decide +kernel
theorem dX5_digest_85 : decode cX5_digest 85 = .ok (.ldc2_w 204, 3) := by decide +kernel
theorem dX5_digest_88 : decode cX5_digest 88 = .ok (.lload_n 1, 1) := by decide +kernel
theorem dX5_digest_89 : decode cX5_digest 89 = .ok (.lmul, 1) := by decide +kernel
theorem dX5_digest_90 : decode cX5_digest 90 = .ok (.aload_n 0, 1) := by decide +kernel
theorem dX5_digest_91 : decode cX5_digest 91 = .ok (.iload_n 3, 1) := by decide +kernel
theorem dX5_digest_92 : decode cX5_digest 92 = .ok (.iload 4, 2) := by decide +kernel
theorem dX5_digest_94 : decode cX5_digest 94 = .ok (.invokevirtual 168, 3) := by decide +kernel
theorem dX5_digest_97 : decode cX5_digest 97 = .ok (.i2l, 1) := by decide +kernel
theorem dX5_digest_98 : decode cX5_digest 98 = .ok (.ladd, 1) := by decide +kernel
theorem dX5_digest_99 : decode cX5_digest 99 = .ok (.lstore_n 1, 1) := by decide +kernel
theorem dX5_digest_100 : decode cX5_digest 100 = .ok (.iinc 4 1, 3) := by decide +kernel
theorem dX5_digest_103 : decode cX5_digest 103 = .ok (.goto (-25), 3) := by decide +kernel
theorem dX5_digest_106 : decode cX5_digest 106 = .ok (.ldc2_w 204, 3) := by decide +kernel
theorem dX5_digest_109 : decode cX5_digest 109 = .ok (.lload_n 1, 1) := by decide +kernel
theorem dX5_digest_110 : decode cX5_digest 110 = .ok (.lmul, 1) := by decide +kernel
theorem dX5_digest_111 : decode cX5_digest 111 = .ok (.aload_n 0, 1) := by decide +kernel
theorem dX5_digest_112 : decode cX5_digest 112 = .ok (.iload_n 3, 1) := by decide +kernel
theorem dX5_digest_113 : decode cX5_digest 113 = .ok (.invokevirtual 188, 3) := by decide +kernel
theorem dX5_digest_116 : decode cX5_digest 116 = .ok (.i2l, 1) := by decide +kernel
theorem dX5_digest_117 : decode cX5_digest 117 = .ok (.ladd, 1) := by decide +kernel
theorem dX5_digest_118 : decode cX5_digest 118 = .ok (.lstore_n 1, 1) := by decide +kernel
theorem dX5_digest_119 : decode cX5_digest 119 = .ok (.iinc 3 1, 3) := by decide +kernel
theorem dX5_digest_122 : decode cX5_digest 122 = .ok (.goto (-57), 3) := by decide +kernel
theorem dX5_digest_125 : decode cX5_digest 125 = .ok (.iconst 0, 1) := by decide +kernel
theorem dX5_digest_126 : decode cX5_digest 126 = .ok (.istore_n 3, 1) := by decide +kernel
theorem dX5_digest_127 : decode cX5_digest 127 = .ok (.iload_n 3, 1) := by decide +kernel
theorem dX5_digest_128 : decode cX5_digest 128 = .ok (.aload_n 0, 1) := by decide +kernel
theorem dX5_digest_129 : decode cX5_digest 129 = .ok (.getfield 7, 3) := by decide +kernel
theorem dX5_digest_132 : decode cX5_digest 132 = .ok (.iconst 3, 1) := by decide +kernel
theorem dX5_digest_133 : decode cX5_digest 133 = .ok (.iaload, 1) := by decide +kernel
theorem dX5_digest_134 : decode cX5_digest 134 = .ok (.if_icmp .ge 49, 3) := by decide +kernel
theorem dX5_digest_137 : decode cX5_digest 137 = .ok (.iload_n 3, 1) := by decide +kernel
theorem dX5_digest_138 : decode cX5_digest 138 = .ok (.iconst 1, 1) := by decide +kernel
theorem dX5_digest_139 : decode cX5_digest 139 = .ok (.iadd, 1) := by decide +kernel
theorem dX5_digest_140 : decode cX5_digest 140 = .ok (.istore 4, 2) := by decide +kernel
theorem dX5_digest_142 : decode cX5_digest 142 = .ok (.iload 4, 2) := by decide +kernel
theorem dX5_digest_144 : decode cX5_digest 144 = .ok (.aload_n 0, 1) := by decide +kernel
theorem dX5_digest_145 : decode cX5_digest 145 = .ok (.getfield 7, 3) := by decide +kernel
theorem dX5_digest_148 : decode cX5_digest 148 = .ok (.iconst 3, 1) := by decide +kernel
theorem dX5_digest_149 : decode cX5_digest 149 = .ok (.iaload, 1) := by decide +kernel
theorem dX5_digest_150 : decode cX5_digest 150 = .ok (.if_icmp .ge 27, 3) := by decide +kernel
theorem dX5_digest_153 : decode cX5_digest 153 = .ok (.ldc2_w 204, 3) := by decide +kernel
theorem dX5_digest_156 : decode cX5_digest 156 = .ok (.lload_n 1, 1) := by decide +kernel
theorem dX5_digest_157 : decode cX5_digest 157 = .ok (.lmul, 1) := by decide +kernel
theorem dX5_digest_158 : decode cX5_digest 158 = .ok (.aload_n 0, 1) := by decide +kernel
theorem dX5_digest_159 : decode cX5_digest 159 = .ok (.getfield 7, 3) := by decide +kernel
theorem dX5_digest_162 : decode cX5_digest 162 = .ok (.iload_n 3, 1) := by decide +kernel
theorem dX5_digest_163 : decode cX5_digest 163 = .ok (.iload 4, 2) := by decide +kernel
theorem dX5_digest_165 : decode cX5_digest 165 = .ok (.invokestatic 85, 3) := by decide +kernel
theorem dX5_digest_168 : decode cX5_digest 168 = .ok (.i2l, 1) := by decide +kernel
theorem dX5_digest_169 : decode cX5_digest 169 = .ok (.ladd, 1) := by decide +kernel
theorem dX5_digest_170 : decode cX5_digest 170 = .ok (.lstore_n 1, 1) := by decide +kernel
theorem dX5_digest_171 : decode cX5_digest 171 = .ok (.iinc 4 1, 3) := by decide +kernel
theorem dX5_digest_174 : decode cX5_digest 174 = .ok (.goto (-32), 3) := by decide +kernel
theorem dX5_digest_177 : decode cX5_digest 177 = .ok (.iinc 3 1, 3) := by decide +kernel
theorem dX5_digest_180 : decode cX5_digest 180 = .ok (.goto (-53), 3) := by decide +kernel
theorem dX5_digest_183 : decode cX5_digest 183 = .ok (.iconst 0, 1) := by decide +kernel
theorem dX5_digest_184 : decode cX5_digest 184 = .ok (.istore_n 3, 1) := by decide +kernel
theorem dX5_digest_185 : decode cX5_digest 185 = .ok (.iload_n 3, 1) := by decide +kernel
theorem dX5_digest_186 : decode cX5_digest 186 = .ok (.iconst 5, 1) := by decide +kernel
theorem dX5_digest_187 : decode cX5_digest 187 = .ok (.if_icmp .ge 26, 3) := by decide +kernel
theorem dX5_digest_190 : decode cX5_digest 190 = .ok (.ldc2_w 204, 3) := by decide +kernel
theorem dX5_digest_193 : decode cX5_digest 193 = .ok (.lload_n 1, 1) := by decide +kernel
theorem dX5_digest_194 : decode cX5_digest 194 = .ok (.lmul, 1) := by decide +kernel
theorem dX5_digest_195 : decode cX5_digest 195 = .ok (.aload_n 0, 1) := by decide +kernel
theorem dX5_digest_196 : decode cX5_digest 196 = .ok (.bipush 40, 2) := by decide +kernel
theorem dX5_digest_198 : decode cX5_digest 198 = .ok (.bipush 20, 2) := by decide +kernel
theorem dX5_digest_200 : decode cX5_digest 200 = .ok (.iload_n 3, 1) := by decide +kernel
theorem dX5_digest_201 : decode cX5_digest 201 = .ok (.invokevirtual 185, 3) := by decide +kernel
theorem dX5_digest_204 : decode cX5_digest 204 = .ok (.i2l, 1) := by decide +kernel
theorem dX5_digest_205 : decode cX5_digest 205 = .ok (.ladd, 1) := by decide +kernel
theorem dX5_digest_206 : decode cX5_digest 206 = .ok (.lstore_n 1, 1) := by decide +kernel
theorem dX5_digest_207 : decode cX5_digest 207 = .ok (.iinc 3 1, 3) := by decide +kernel
theorem dX5_digest_210 : decode cX5_digest 210 = .ok (.goto (-25), 3) := by decide +kernel
theorem dX5_digest_213 : decode cX5_digest 213 = .ok (.ldc2_w 204, 3) := by decide +kernel
theorem dX5_digest_216 : decode cX5_digest 216 = .ok (.ldc2_w 204, 3) := by decide +kernel
theorem dX5_digest_219 : decode cX5_digest 219 = .ok (.lload_n 1, 1) := by decide +kernel
theorem dX5_digest_220 : decode cX5_digest 220 = .ok (.lmul, 1) := by decide +kernel
theorem dX5_digest_221 : decode cX5_digest 221 = .ok (.aload_n 0, 1) := by decide +kernel
theorem dX5_digest_222 : decode cX5_digest 222 = .ok (.iconst (-1), 1) := by decide +kernel
theorem dX5_digest_223 : decode cX5_digest 223 = .ok (.invokevirtual 188, 3) := by decide +kernel
theorem dX5_digest_226 : decode cX5_digest 226 = .ok (.i2l, 1) := by decide +kernel
theorem dX5_digest_227 : decode cX5_digest 227 = .ok (.ladd, 1) := by decide +kernel
theorem dX5_digest_228 : decode cX5_digest 228 = .ok (.lmul, 1) := by decide +kernel
theorem dX5_digest_229 : decode cX5_digest 229 = .ok (.aload_n 0, 1) := by decide +kernel
theorem dX5_digest_230 : decode cX5_digest 230 = .ok (.bipush 50, 2) := by decide +kernel
theorem dX5_digest_232 : decode cX5_digest 232 = .ok (.invokevirtual 191, 3) := by decide +kernel
theorem dX5_digest_235 : decode cX5_digest 235 = .ok (.i2l, 1) := by decide +kernel
theorem dX5_digest_236 : decode cX5_digest 236 = .ok (.ladd, 1) := by decide +kernel
theorem dX5_digest_237 : decode cX5_digest 237 = .ok (.lstore_n 1, 1) := by decide +kernel
theorem dX5_digest_238 : decode cX5_digest 238 = .ok (.ldc2_w 204, 3) := by decide +kernel
theorem dX5_digest_241 : decode cX5_digest 241 = .ok (.ldc2_w 204, 3) := by decide +kernel
theorem dX5_digest_244 : decode cX5_digest 244 = .ok (.lload_n 1, 1) := by decide +kernel
theorem dX5_digest_245 : decode cX5_digest 245 = .ok (.lmul, 1) := by decide +kernel
theorem dX5_digest_246 : decode cX5_digest 246 = .ok (.aload_n 0, 1) := by decide +kernel
theorem dX5_digest_247 : decode cX5_digest 247 = .ok (.iconst 0, 1) := by decide +kernel
theorem dX5_digest_248 : decode cX5_digest 248 = .ok (.invokevirtual 194, 3) := by decide +kernel
theorem dX5_digest_251 : decode cX5_digest 251 = .ok (.i2l, 1) := by decide +kernel
theorem dX5_digest_252 : decode cX5_digest 252 = .ok (.ladd, 1) := by decide +kernel
theorem dX5_digest_253 : decode cX5_digest 253 = .ok (.lmul, 1) := by decide +kernel
theorem dX5_digest_254 : decode cX5_digest 254 = .ok (.aload_n 0, 1) := by decide +kernel
theorem dX5_digest_255 : decode cX5_digest 255 = .ok (.iconst 1, 1) := by decide +kernel
theorem dX5_digest_256 : decode cX5_digest 256 = .ok (.invokevirtual 194, 3) := by decide +kernel
theorem dX5_digest_259 : decode cX5_digest 259 = .ok (.i2l, 1) := by decide +kernel
theorem dX5_digest_260 : decode cX5_digest 260 = .ok (.ladd, 1) := by decide +kernel
theorem dX5_digest_261 : decode cX5_digest 261 = .ok (.lstore_n 1, 1) := by decide +kernel
theorem dX5_digest_262 : decode cX5_digest 262 = .ok (.ldc2_w 204, 3) := by decide +kernel
theorem dX5_digest_265 : decode cX5_digest 265 = .ok (.lload_n 1, 1) := by decide +kernel
theorem dX5_digest_266 : decode cX5_digest 266 = .ok (.lmul, 1) := by decide +kernel
theorem dX5_digest_267 : decode cX5_digest 267 = .ok (.aload_n 0, 1) := by decide +kernel
theorem dX5_digest_268 : decode cX5_digest 268 = .ok (.invokevirtual 198, 3) := by decide +kernel
theorem dX5_digest_271 : decode cX5_digest 271 = .ok (.invokestatic 206, 3) := by decide +kernel
theorem dX5_digest_274 : decode cX5_digest 274 = .ok (.ladd, 1) := by decide +kernel
theorem dX5_digest_275 : decode cX5_digest 275 = .ok (.lstore_n 1, 1) := by decide +kernel
theorem dX5_digest_276 : decode cX5_digest 276 = .ok (.iconst 0, 1) := by decide +kernel
theorem dX5_digest_277 : decode cX5_digest 277 = .ok (.istore_n 3, 1) := by decide +kernel
theorem dX5_digest_278 : decode cX5_digest 278 = .ok (.iload_n 3, 1) := by decide +kernel
theorem dX5_digest_279 : decode cX5_digest 279 = .ok (.iconst 2, 1) := by decide +kernel
theorem dX5_digest_280 : decode cX5_digest 280 = .ok (.if_icmp .ge 31, 3) := by decide +kernel
theorem dX5_digest_283 : decode cX5_digest 283 = .ok (.ldc2_w 204, 3) := by decide +kernel
theorem dX5_digest_286 : decode cX5_digest 286 = .ok (.lload_n 1, 1) := by decide +kernel
theorem dX5_digest_287 : decode cX5_digest 287 = .ok (.lmul, 1) := by decide +kernel
theorem dX5_digest_288 : decode cX5_digest 288 = .ok (.aload_n 0, 1) := by decide +kernel
theorem dX5_digest_289 : decode cX5_digest 289 = .ok (.getfield 22, 3) := by decide +kernel
theorem dX5_digest_292 : decode cX5_digest 292 = .ok (.iload_n 3, 1) := by decide +kernel
theorem dX5_digest_293 : decode cX5_digest 293 = .ok (.baload, 1) := by decide +kernel
theorem dX5_digest_294 : decode cX5_digest 294 = .ok (.ifCond .eq 7, 3) := by decide +kernel
theorem dX5_digest_297 : decode cX5_digest 297 = .ok (.iconst 1, 1) := by decide +kernel
theorem dX5_digest_298 : decode cX5_digest 298 = .ok (.goto 4, 3) := by decide +kernel
theorem dX5_digest_301 : decode cX5_digest 301 = .ok (.iconst 0, 1) := by decide +kernel
theorem dX5_digest_302 : decode cX5_digest 302 = .ok (.i2l, 1) := by decide +kernel
theorem dX5_digest_303 : decode cX5_digest 303 = .ok (.ladd, 1) := by decide +kernel
theorem dX5_digest_304 : decode cX5_digest 304 = .ok (.lstore_n 1, 1) := by decide +kernel
theorem dX5_digest_305 : decode cX5_digest 305 = .ok (.iinc 3 1, 3) := by decide +kernel
theorem dX5_digest_308 : decode cX5_digest 308 = .ok (.goto (-30), 3) := by decide +kernel
theorem dX5_digest_311 : decode cX5_digest 311 = .ok (.ldc2_w 204, 3) := by decide +kernel
theorem dX5_digest_314 : decode cX5_digest 314 = .ok (.lload_n 1, 1) := by decide +kernel
theorem dX5_digest_315 : decode cX5_digest 315 = .ok (.lmul, 1) := by decide +kernel
theorem dX5_digest_316 : decode cX5_digest 316 = .ok (.aload_n 0, 1) := by decide +kernel
theorem dX5_digest_317 : decode cX5_digest 317 = .ok (.getfield 123, 3) := by decide +kernel
theorem dX5_digest_320 : decode cX5_digest 320 = .ok (.i2l, 1) := by decide +kernel
theorem dX5_digest_321 : decode cX5_digest 321 = .ok (.ladd, 1) := by decide +kernel
theorem dX5_digest_322 : decode cX5_digest 322 = .ok (.lstore_n 1, 1) := by decide +kernel
theorem dX5_digest_323 : decode cX5_digest 323 = .ok (.iconst 0, 1) := by decide +kernel
theorem dX5_digest_324 : decode cX5_digest 324 = .ok (.istore_n 3, 1) := by decide +kernel
theorem dX5_digest_325 : decode cX5_digest 325 = .ok (.iload_n 3, 1) := by decide +kernel
theorem dX5_digest_326 : decode cX5_digest 326 = .ok (.aload_n 0, 1) := by decide +kernel
theorem dX5_digest_327 : decode cX5_digest 327 = .ok (.getfield 123, 3) := by decide +kernel
theorem dX5_digest_330 : decode cX5_digest 330 = .ok (.if_icmp .ge 23, 3) := by decide +kernel
theorem dX5_digest_333 : decode cX5_digest 333 = .ok (.ldc2_w 204, 3) := by decide +kernel
theorem dX5_digest_336 : decode cX5_digest 336 = .ok (.lload_n 1, 1) := by decide +kernel
theorem dX5_digest_337 : decode cX5_digest 337 = .ok (.lmul, 1) := by decide +kernel
theorem dX5_digest_338 : decode cX5_digest 338 = .ok (.aload_n 0, 1) := by decide +kernel
theorem dX5_digest_339 : decode cX5_digest 339 = .ok (.getfield 26, 3) := by decide +kernel
theorem dX5_digest_342 : decode cX5_digest 342 = .ok (.iload_n 3, 1) := by decide +kernel
theorem dX5_digest_343 : decode cX5_digest 343 = .ok (.iaload, 1) := by decide +kernel
theorem dX5_digest_344 : decode cX5_digest 344 = .ok (.i2l, 1) := by decide +kernel
theorem dX5_digest_345 : decode cX5_digest 345 = .ok (.ladd, 1) := by decide +kernel
theorem dX5_digest_346 : decode cX5_digest 346 = .ok (.lstore_n 1, 1) := by decide +kernel
theorem dX5_digest_347 : decode cX5_digest 347 = .ok (.iinc 3 1, 3) := by decide +kernel
theorem dX5_digest_350 : decode cX5_digest 350 = .ok (.goto (-25), 3) := by decide +kernel
theorem dX5_digest_353 : decode cX5_digest 353 = .ok (.lload_n 1, 1) := by decide +kernel
theorem dX5_digest_354 : decode cX5_digest 354 = .ok (.lreturn, 1) := by decide +kernel
theorem dJxe99ae_isNaN_b9ae7_0 : decode cJxe99ae_isNaN_b9ae7 0 = .ok (.dload_n 0, 1) := by decide +kernel
theorem dJxe99ae_isNaN_b9ae7_1 : decode cJxe99ae_isNaN_b9ae7 1 = .ok (.dload_n 0, 1) := by decide +kernel
theorem dJxe99ae_isNaN_b9ae7_2 : decode cJxe99ae_isNaN_b9ae7 2 = .ok (.dcmp .l, 1) := by decide +kernel
theorem dJxe99ae_isNaN_b9ae7_3 : decode cJxe99ae_isNaN_b9ae7 3 = .ok (.ifCond .eq 7, 3) := by decide +kernel
theorem dJxe99ae_isNaN_b9ae7_6 : decode cJxe99ae_isNaN_b9ae7 6 = .ok (.iconst 1, 1) := by decide +kernel
theorem dJxe99ae_isNaN_b9ae7_7 : decode cJxe99ae_isNaN_b9ae7 7 = .ok (.goto 4, 3) := by decide +kernel
theorem dJxe99ae_isNaN_b9ae7_10 : decode cJxe99ae_isNaN_b9ae7 10 = .ok (.iconst 0, 1) := by decide +kernel
theorem dJxe99ae_isNaN_b9ae7_11 : decode cJxe99ae_isNaN_b9ae7 11 = .ok (.ireturn, 1) := by decide +kernel
set_option maxRecDepth 20000 in
theorem ggJxe99ae_doubleToLongBits_ccdee_Jxe99ae_isNaN_b9ae7 : GoodIn wsJxe99ae_doubleToLongBits_ccdee wsJxe99ae_isNaN_b9ae7 := goodIn_r _ [9] (by decide +kernel) (by decide +kernel)
set_option maxRecDepth 20000 in
theorem gJxe99ae_doubleToLongBits_ccdee_Jxe99ae_isNaN_b9ae7 : GoodIn wsJxe99ae_doubleToLongBits_ccdee (va_wsS RJxe99ae 122 yJxe99ae_isNaN_b9ae7 wsJxe99ae_isNaN_b9ae7) := goodIn_app (goodIn_of _ (by decide +kernel)) ggJxe99ae_doubleToLongBits_ccdee_Jxe99ae_isNaN_b9ae7
theorem dJxe99ae_doubleToLongBits_ccdee_0 : decode cJxe99ae_doubleToLongBits_ccdee 0 = .ok (.dload_n 0, 1) := by decide +kernel
theorem dJxe99ae_doubleToLongBits_ccdee_1 : decode cJxe99ae_doubleToLongBits_ccdee 1 = .ok (.invokestatic 122, 3) := by decide +kernel
theorem dJxe99ae_doubleToLongBits_ccdee_4 : decode cJxe99ae_doubleToLongBits_ccdee 4 = .ok (.ifCond .ne 8, 3) := by decide +kernel
theorem dJxe99ae_doubleToLongBits_ccdee_7 : decode cJxe99ae_doubleToLongBits_ccdee 7 = .ok (.dload_n 0, 1) := by decide +kernel
theorem dJxe99ae_doubleToLongBits_ccdee_8 : decode cJxe99ae_doubleToLongBits_ccdee 8 = .ok (.invokestatic 134, 3) := by decide +kernel
theorem dJxe99ae_doubleToLongBits_ccdee_11 : decode cJxe99ae_doubleToLongBits_ccdee 11 = .ok (.lreturn, 1) := by decide +kernel
theorem dJxe99ae_doubleToLongBits_ccdee_12 : decode cJxe99ae_doubleToLongBits_ccdee 12 = .ok (.ldc2_w 137, 3) := by decide +kernel
theorem dJxe99ae_doubleToLongBits_ccdee_15 : decode cJxe99ae_doubleToLongBits_ccdee 15 = .ok (.lreturn, 1) := by decide +kernel
theorem dJ9_abs_0f7a4_0 : decode cJ9_abs_0f7a4 0 = .ok (.iload_n 0, 1) := by decide +kernel
theorem dJ9_abs_0f7a4_1 : decode cJ9_abs_0f7a4 1 = .ok (.ifCond .ge 8, 3) := by decide +kernel
theorem dJ9_abs_0f7a4_4 : decode cJ9_abs_0f7a4 4 = .ok (.iload_n 0, 1) := by decide +kernel
theorem dJ9_abs_0f7a4_5 : decode cJ9_abs_0f7a4 5 = .ok (.ineg, 1) := by decide +kernel
theorem dJ9_abs_0f7a4_6 : decode cJ9_abs_0f7a4 6 = .ok (.goto 4, 3) := by decide +kernel
theorem dJ9_abs_0f7a4_9 : decode cJ9_abs_0f7a4 9 = .ok (.iload_n 0, 1) := by decide +kernel
theorem dJ9_abs_0f7a4_10 : decode cJ9_abs_0f7a4 10 = .ok (.ireturn, 1) := by decide +kernel
theorem dJ9_max_7cf53_0 : decode cJ9_max_7cf53 0 = .ok (.iload_n 0, 1) := by decide +kernel
theorem dJ9_max_7cf53_1 : decode cJ9_max_7cf53 1 = .ok (.iload_n 1, 1) := by decide +kernel
theorem dJ9_max_7cf53_2 : decode cJ9_max_7cf53 2 = .ok (.if_icmp .lt 7, 3) := by decide +kernel
theorem dJ9_max_7cf53_5 : decode cJ9_max_7cf53 5 = .ok (.iload_n 0, 1) := by decide +kernel
theorem dJ9_max_7cf53_6 : decode cJ9_max_7cf53 6 = .ok (.goto 4, 3) := by decide +kernel
theorem dJ9_max_7cf53_9 : decode cJ9_max_7cf53 9 = .ok (.iload_n 1, 1) := by decide +kernel
theorem dJ9_max_7cf53_10 : decode cJ9_max_7cf53 10 = .ok (.ireturn, 1) := by decide +kernel
theorem dJ9_min_7cf53_0 : decode cJ9_min_7cf53 0 = .ok (.iload_n 0, 1) := by decide +kernel
theorem dJ9_min_7cf53_1 : decode cJ9_min_7cf53 1 = .ok (.iload_n 1, 1) := by decide +kernel
theorem dJ9_min_7cf53_2 : decode cJ9_min_7cf53 2 = .ok (.if_icmp .gt 7, 3) := by decide +kernel
theorem dJ9_min_7cf53_5 : decode cJ9_min_7cf53 5 = .ok (.iload_n 0, 1) := by decide +kernel
theorem dJ9_min_7cf53_6 : decode cJ9_min_7cf53 6 = .ok (.goto 4, 3) := by decide +kernel
theorem dJ9_min_7cf53_9 : decode cJ9_min_7cf53 9 = .ok (.iload_n 1, 1) := by decide +kernel
theorem dJ9_min_7cf53_10 : decode cJ9_min_7cf53 10 = .ok (.ireturn, 1) := by decide +kernel
abbrev vwCl : List vw_C := [(RX0, TX0, 14), (RX1, TX1, 10), (RX2, TX2, 2), (RX3, TX3, 2), (RX4, TX4, 8), (RX5, TX5, 14)]
