set_option maxRecDepth 20000 in
theorem gX4_wind_X0_changeSpring : GoodIn wsX4_wind (wsV RX4 101 RX0 yX0_changeSpring wsX0_changeSpring) := goodIn_app (goodIn_of _ (by decide +kernel)) ggX4_wind_X0_changeSpring
theorem dX4_wind_0 : decode cX4_wind 0 = .ok (.aload_n 0, 1) := by decide +kernel
theorem dX4_wind_1 : decode cX4_wind 1 = .ok (.getfield 10, 3) := by decide +kernel
theorem dX4_wind_4 : decode cX4_wind 4 = .ok (.iload_n 1, 1) := by decide +kernel
theorem dX4_wind_5 : decode cX4_wind 5 = .ok (.invokevirtual 85, 3) := by decide +kernel
theorem dX4_wind_8 : decode cX4_wind 8 = .ok (.ifCond .ne 13, 3) := by decide +kernel
theorem dX4_wind_11 : decode cX4_wind 11 = .ok (.new 88, 3) := by decide +kernel
theorem dX4_wind_14 : decode cX4_wind 14 = .ok (.dup, 1) := by decide +kernel
theorem dX4_wind_15 : decode cX4_wind 15 = .ok (.ldc 90, 2) := by decide +kernel
theorem dX4_wind_17 : decode cX4_wind 17 = .ok (.invokespecial 92, 3) := by decide +kernel
theorem dX4_wind_20 : decode cX4_wind 20 = .ok (.athrow, 1) := by decide +kernel
theorem dX4_wind_21 : decode cX4_wind 21 = .ok (.iload_n 2, 1) := by decide +kernel
theorem dX4_wind_22 : decode cX4_wind 22 = .ok (.invokestatic 58, 3) := by decide +kernel
theorem dX4_wind_25 : decode cX4_wind 25 = .ok (.ifCond .ne 13, 3) := by decide +kernel
theorem dX4_wind_28 : decode cX4_wind 28 = .ok (.new 61, 3) := by decide +kernel
theorem dX4_wind_31 : decode cX4_wind 31 = .ok (.dup, 1) := by decide +kernel
theorem dX4_wind_32 : decode cX4_wind 32 = .ok (.ldc 99, 2) := by decide +kernel
theorem dX4_wind_34 : decode cX4_wind 34 = .ok (.invokespecial 65, 3) := by decide +kernel
theorem dX4_wind_37 : decode cX4_wind 37 = .ok (.athrow, 1) := by decide +kernel
theorem dX4_wind_38 : decode cX4_wind 38 = .ok (.aload_n 0, 1) := by decide +kernel
theorem dX4_wind_39 : decode cX4_wind 39 = .ok (.getfield 32, 3) := by decide +kernel
theorem dX4_wind_42 : decode cX4_wind 42 = .ok (.aload_n 0, 1) := by decide +kernel
theorem dX4_wind_43 : decode cX4_wind 43 = .ok (.getfield 10, 3) := by decide +kernel
theorem dX4_wind_46 : decode cX4_wind 46 = .ok (.invokevirtual 77, 3) := by decide +kernel
theorem dX4_wind_49 : decode cX4_wind 49 = .ok (.aload_n 0, 1) := by decide +kernel
theorem dX4_wind_50 : decode cX4_wind 50 = .ok (.getfield 10, 3) := by decide +kernel
theorem dX4_wind_53 : decode cX4_wind 53 = .ok (.iload_n 1, 1) := by decide +kernel
theorem dX4_wind_54 : decode cX4_wind 54 = .ok (.iload_n 2, 1) := by decide +kernel
theorem dX4_wind_55 : decode cX4_wind 55 = .ok (.invokevirtual 101, 3) := by decide +kernel
theorem dX4_wind_58 : decode cX4_wind 58 = .ok (.ireturn, 1) := by decide +kernel
set_option maxRecDepth 20000 in
theorem ggX4_hold_X0_has : GoodIn wsX4_hold wsX0_has := goodIn_r _ [9, 10, 52, 53, 54, 55, 56, 57, 58, 59, 60, 61, 62, 63, 64, 65] (by decide +kernel) (by decide +kernel)
set_option maxRecDepth 20000 in
theorem gX4_hold_X0_has : GoodIn wsX4_hold (wsV RX4 85 RX0 yX0_has wsX0_has) := goodIn_app (goodIn_of _ (by decide +kernel)) ggX4_hold_X0_has
set_option maxRecDepth 20000 in
theorem ggX4_hold_X2_push : GoodIn wsX4_hold wsX2_push := goodIn_r _ [15, 16, 17, 18, 19, 20, 14, 21, 22, 23, 24, 8, 25, 26, 27, 28, 29, 30, 10, 31, 32, 33, 34, 35, 36, 37, 38, 66, 67, 52, 53, 54, 55, 56, 57, 58, 59, 60, 61, 62, 63, 64, 65] (by decide +kernel) (by decide +kernel)
set_option maxRecDepth 20000 in
theorem gX4_hold_X2_push : GoodIn wsX4_hold (wsV RX4 77 RX2 yX2_push wsX2_push) := goodIn_app (goodIn_of _ (by decide +kernel)) ggX4_hold_X2_push
set_option maxRecDepth 20000 in
theorem ggX4_hold_X0_holdOrLetGo : GoodIn wsX4_hold wsX0_holdOrLetGo := goodIn_r _ [42, 29, 43, 6, 7, 8, 9, 10, 52, 53, 54, 55, 56, 57, 58, 59, 60, 61, 62, 63, 64, 65] (by decide +kernel) (by decide +kernel)
set_option maxRecDepth 20000 in
theorem gX4_hold_X0_holdOrLetGo : GoodIn wsX4_hold (wsV RX4 104 RX0 yX0_holdOrLetGo wsX0_holdOrLetGo) := goodIn_app (goodIn_of _ (by decide +kernel)) ggX4_hold_X0_holdOrLetGo
theorem dX4_hold_0 : decode cX4_hold 0 = .ok (.aload_n 0, 1) := by decide +kernel
theorem dX4_hold_1 : decode cX4_hold 1 = .ok (.getfield 10, 3) := by decide +kernel
theorem dX4_hold_4 : decode cX4_hold 4 = .ok (.iload_n 1, 1) := by decide +kernel
theorem dX4_hold_5 : decode cX4_hold 5 = .ok (.invokevirtual 85, 3) := by decide +kernel
theorem dX4_hold_8 : decode cX4_hold 8 = .ok (.ifCond .ne 13, 3) := by decide +kernel
theorem dX4_hold_11 : decode cX4_hold 11 = .ok (.new 88, 3) := by decide +kernel
theorem dX4_hold_14 : decode cX4_hold 14 = .ok (.dup, 1) := by decide +kernel
theorem dX4_hold_15 : decode cX4_hold 15 = .ok (.ldc 90, 2) := by decide +kernel
theorem dX4_hold_17 : decode cX4_hold 17 = .ok (.invokespecial 92, 3) := by decide +kernel
theorem dX4_hold_20 : decode cX4_hold 20 = .ok (.athrow, 1) := by decide +kernel
theorem dX4_hold_21 : decode cX4_hold 21 = .ok (.aload_n 0, 1) := by decide +kernel
theorem dX4_hold_22 : decode cX4_hold 22 = .ok (.getfield 32, 3) := by decide +kernel
theorem dX4_hold_25 : decode cX4_hold 25 = .ok (.aload_n 0, 1) := by decide +kernel
theorem dX4_hold_26 : decode cX4_hold 26 = .ok (.getfield 10, 3) := by decide +kernel
theorem dX4_hold_29 : decode cX4_hold 29 = .ok (.invokevirtual 77, 3) := by decide +kernel
theorem dX4_hold_32 : decode cX4_hold 32 = .ok (.aload_n 0, 1) := by decide +kernel
theorem dX4_hold_33 : decode cX4_hold 33 = .ok (.getfield 10, 3) := by decide +kernel
theorem dX4_hold_36 : decode cX4_hold 36 = .ok (.iload_n 1, 1) := by decide +kernel
theorem dX4_hold_37 : decode cX4_hold 37 = .ok (.invokevirtual 104, 3) := by decide +kernel
theorem dX4_hold_40 : decode cX4_hold 40 = .ok (.ireturn, 1) := by decide +kernel
set_option maxRecDepth 20000 in
theorem ggX4_take_X0_isEmpty : GoodIn wsX4_take wsX0_isEmpty := goodIn_r _ [9, 10, 51, 52, 53, 54, 55, 56, 57, 58, 59, 60, 61, 62, 63, 64] (by decide +kernel) (by decide +kernel)
set_option maxRecDepth 20000 in
theorem gX4_take_X0_isEmpty : GoodIn wsX4_take (wsV RX4 108 RX0 yX0_isEmpty wsX0_isEmpty) := goodIn_app (goodIn_of _ (by decide +kernel)) ggX4_take_X0_isEmpty
set_option maxRecDepth 20000 in
theorem ggX4_take_X2_push : GoodIn wsX4_take wsX2_push := goodIn_r _ [15, 16, 17, 18, 19, 20, 14, 21, 22, 23, 24, 8, 25, 26, 27, 28, 29, 30, 10, 31, 32, 33, 34, 35, 36, 37, 38, 65, 66, 51, 52, 53, 54, 55, 56, 57, 58, 59, 60, 61, 62, 63, 64] (by decide +kernel) (by decide +kernel)
set_option maxRecDepth 20000 in
theorem gX4_take_X2_push : GoodIn wsX4_take (wsV RX4 77 RX2 yX2_push wsX2_push) := goodIn_app (goodIn_of _ (by decide +kernel)) ggX4_take_X2_push
set_option maxRecDepth 20000 in
theorem ggX4_take_X0_removeLast : GoodIn wsX4_take wsX0_removeLast := goodIn_r _ [42, 10, 51, 52, 53, 54, 55, 56, 57, 58, 59, 60, 61, 62, 63, 64] (by decide +kernel) (by decide +kernel)
set_option maxRecDepth 20000 in
theorem gX4_take_X0_removeLast : GoodIn wsX4_take (wsV RX4 113 RX0 yX0_removeLast wsX0_removeLast) := goodIn_app (goodIn_of _ (by decide +kernel)) ggX4_take_X0_removeLast
theorem dX4_take_0 : decode cX4_take 0 = .ok (.aload_n 0, 1) := by decide +kernel
theorem dX4_take_1 : decode cX4_take 1 = .ok (.getfield 10, 3) := by decide +kernel
theorem dX4_take_4 : decode cX4_take 4 = .ok (.invokevirtual 108, 3) := by decide +kernel
theorem dX4_take_7 : decode cX4_take 7 = .ok (.ifCond .eq 13, 3) := by decide +kernel
theorem dX4_take_10 : decode cX4_take 10 = .ok (.new 72, 3) := by decide +kernel
theorem dX4_take_13 : decode cX4_take 13 = .ok (.dup, 1) := by decide +kernel
theorem dX4_take_14 : decode cX4_take 14 = .ok (.ldc 111, 2) := by decide +kernel
theorem dX4_take_16 : decode cX4_take 16 = .ok (.invokespecial 76, 3) := by decide +kernel
theorem dX4_take_19 : decode cX4_take 19 = .ok (.athrow, 1) := by decide +kernel
theorem dX4_take_20 : decode cX4_take 20 = .ok (.aload_n 0, 1) := by decide +kernel
theorem dX4_take_21 : decode cX4_take 21 = .ok (.getfield 32, 3) := by decide +kernel
theorem dX4_take_24 : decode cX4_take 24 = .ok (.aload_n 0, 1) := by decide +kernel
theorem dX4_take_25 : decode cX4_take 25 = .ok (.getfield 10, 3) := by decide +kernel
theorem dX4_take_28 : decode cX4_take 28 = .ok (.invokevirtual 77, 3) := by decide +kernel
theorem dX4_take_31 : decode cX4_take 31 = .ok (.aload_n 0, 1) := by decide +kernel
theorem dX4_take_32 : decode cX4_take 32 = .ok (.getfield 10, 3) := by decide +kernel
theorem dX4_take_35 : decode cX4_take 35 = .ok (.invokevirtual 113, 3) := by decide +kernel
theorem dX4_take_38 : decode cX4_take 38 = .ok (.ireturn, 1) := by decide +kernel
set_option maxRecDepth 20000 in
theorem ggX4_run_X4_isWithin : GoodIn wsX4_run wsX4_isWithin := goodIn_r _ [10] (by decide +kernel) (by decide +kernel)
set_option maxRecDepth 20000 in
theorem gX4_run_X4_isWithin : GoodIn wsX4_run (va_wsS RX4 54 yX4_isWithin wsX4_isWithin) := goodIn_app (goodIn_of _ (by decide +kernel)) ggX4_run_X4_isWithin
set_option maxRecDepth 20000 in
theorem ggX4_run_X0_hasTimeFor : GoodIn wsX4_run wsX0_hasTimeFor := goodIn_r _ [15, 16, 17, 101, 102, 103, 104, 105, 106, 107, 108, 109, 110, 111, 112, 113, 114] (by decide +kernel) (by decide +kernel)
set_option maxRecDepth 20000 in
theorem gX4_run_X0_hasTimeFor : GoodIn wsX4_run (wsV RX4 119 RX0 yX0_hasTimeFor wsX0_hasTimeFor) := goodIn_app (goodIn_of _ (by decide +kernel)) ggX4_run_X0_hasTimeFor
set_option maxRecDepth 20000 in
theorem ggX4_run_X2_push : GoodIn wsX4_run wsX2_push := goodIn_r _ [22, 23, 24, 25, 26, 27, 21, 28, 29, 30, 31, 14, 32, 33, 34, 35, 36, 37, 38, 39, 40, 41, 42, 43, 16, 44, 45, 115, 116, 101, 102, 103, 104, 105, 106, 107, 108, 109, 110, 111, 112, 113, 114] (by decide +kernel) (by decide +kernel)
set_option maxRecDepth 20000 in
theorem gX4_run_X2_push : GoodIn wsX4_run (wsV RX4 77 RX2 yX2_push wsX2_push) := goodIn_app (goodIn_of _ (by decide +kernel)) ggX4_run_X2_push
set_option maxRecDepth 20000 in
theorem ggX4_run_X0_letGoBy : GoodIn wsX4_run wsX0_letGoBy := goodIn_r _ [49, 44, 50, 51, 52, 14, 53, 16, 45, 54, 55, 56, 57, 39, 41, 40, 58, 59, 60, 61, 62, 63, 64, 65, 38, 36, 35, 66, 67, 68, 69, 34, 70, 71, 72, 73, 74, 75, 76, 77, 78, 79, 80, 81, 82, 83, 33, 37, 84, 85, 86, 87, 88, 89, 90, 91, 42, 92, 101, 102, 103, 104, 105, 106, 107, 108, 109, 110, 111, 112, 113, 114] (by decide +kernel) (by decide +kernel)
set_option maxRecDepth 20000 in
theorem gX4_run_X0_letGoBy : GoodIn wsX4_run (wsV RX4 124 RX0 yX0_letGoBy wsX0_letGoBy) := goodIn_app (goodIn_of _ (by decide +kernel)) ggX4_run_X0_letGoBy
theorem dX4_run_0 : decode cX4_run 0 = .ok (.iload_n 1, 1) := by decide +kernel
theorem dX4_run_1 : decode cX4_run 1 = .ok (.iconst 1, 1) := by decide +kernel
theorem dX4_run_2 : decode cX4_run 2 = .ok (.sipush 500, 3) := by decide +kernel
theorem dX4_run_5 : decode cX4_run 5 = .ok (.invokestatic 54, 3) := by decide +kernel
theorem dX4_run_8 : decode cX4_run 8 = .ok (.ifCond .ne 13, 3) := by decide +kernel
theorem dX4_run_11 : decode cX4_run 11 = .ok (.new 61, 3) := by decide +kernel
theorem dX4_run_14 : decode cX4_run 14 = .ok (.dup, 1) := by decide +kernel
theorem dX4_run_15 : decode cX4_run 15 = .ok (.ldc 117, 2) := by decide +kernel
theorem dX4_run_17 : decode cX4_run 17 = .ok (.invokespecial 65, 3) := by decide +kernel
theorem dX4_run_20 : decode cX4_run 20 = .ok (.athrow, 1) := by decide +kernel
theorem dX4_run_21 : decode cX4_run 21 = .ok (.aload_n 0, 1) := by decide +kernel
theorem dX4_run_22 : decode cX4_run 22 = .ok (.getfield 10, 3) := by decide +kernel
theorem dX4_run_25 : decode cX4_run 25 = .ok (.iload_n 1, 1) := by decide +kernel
theorem dX4_run_26 : decode cX4_run 26 = .ok (.invokevirtual 119, 3) := by decide +kernel
theorem dX4_run_29 : decode cX4_run 29 = .ok (.ifCond .ne 13, 3) := by decide +kernel
theorem dX4_run_32 : decode cX4_run 32 = .ok (.new 72, 3) := by decide +kernel
theorem dX4_run_35 : decode cX4_run 35 = .ok (.dup, 1) := by decide +kernel
theorem dX4_run_36 : decode cX4_run 36 = .ok (.ldc 122, 2) := by decide +kernel
theorem dX4_run_38 : decode cX4_run 38 = .ok (.invokespecial 76, 3) := by decide +kernel
theorem dX4_run_41 : decode cX4_run 41 = .ok (.athrow, 1) := by decide +kernel
theorem dX4_run_42 : decode cX4_run 42 = .ok (.aload_n 0, 1) := by decide +kernel
theorem dX4_run_43 : decode cX4_run 43 = .ok (.getfield 32, 3) := by decide +kernel
theorem dX4_run_46 : decode cX4_run 46 = .ok (.aload_n 0, 1) := by decide +kernel
theorem dX4_run_47 : decode cX4_run 47 = .ok (.getfield 10, 3) := by decide +kernel
theorem dX4_run_50 : decode cX4_run 50 = .ok (.invokevirtual 77, 3) := by decide +kernel
theorem dX4_run_53 : decode cX4_run 53 = .ok (.aload_n 0, 1) := by decide +kernel
theorem dX4_run_54 : decode cX4_run 54 = .ok (.getfield 10, 3) := by decide +kernel
theorem dX4_run_57 : decode cX4_run 57 = .ok (.iload_n 1, 1) := by decide +kernel
theorem dX4_run_58 : decode cX4_run 58 = .ok (.invokevirtual 124, 3) := by decide +kernel
theorem dX4_run_61 : decode cX4_run 61 = .ok (.ireturn, 1) := by decide +kernel
set_option maxRecDepth 20000 in
theorem ggX4_stop_X2_push : GoodIn wsX4_stop wsX2_push := goodIn_r _ [7, 8, 9, 10, 11, 12, 6, 13, 14, 15, 16, 17, 18, 19, 20, 21, 22, 23, 24, 25, 26, 27, 28, 29, 30, 31, 32, 49, 50, 51, 52, 53, 54, 55, 56, 57, 58, 59, 60, 61, 62, 63, 64] (by decide +kernel) (by decide +kernel)
set_option maxRecDepth 20000 in
theorem gX4_stop_X2_push : GoodIn wsX4_stop (wsV RX4 77 RX2 yX2_push wsX2_push) := goodIn_app (goodIn_of _ (by decide +kernel)) ggX4_stop_X2_push
set_option maxRecDepth 20000 in
theorem ggX4_stop_X0_stopBoard : GoodIn wsX4_stop wsX0_stopBoard := goodIn_r _ [36, 25, 37, 38, 39, 40, 26, 51, 52, 53, 54, 55, 56, 57, 58, 59, 60, 61, 62, 63, 64] (by decide +kernel) (by decide +kernel)
set_option maxRecDepth 20000 in
theorem gX4_stop_X0_stopBoard : GoodIn wsX4_stop (wsV RX4 127 RX0 yX0_stopBoard wsX0_stopBoard) := goodIn_app (goodIn_of _ (by decide +kernel)) ggX4_stop_X0_stopBoard
theorem dX4_stop_0 : decode cX4_stop 0 = .ok (.aload_n 0, 1) := by decide +kernel
theorem dX4_stop_1 : decode cX4_stop 1 = .ok (.getfield 32, 3) := by decide +kernel
theorem dX4_stop_4 : decode cX4_stop 4 = .ok (.aload_n 0, 1) := by decide +kernel
theorem dX4_stop_5 : decode cX4_stop 5 = .ok (.getfield 10, 3) := by decide +kernel
theorem dX4_stop_8 : decode cX4_stop 8 = .ok (.invokevirtual 77, 3) := by decide +kernel
theorem dX4_stop_11 : decode cX4_stop 11 = .ok (.aload_n 0, 1) := by decide +kernel
theorem dX4_stop_12 : decode cX4_stop 12 = .ok (.getfield 10, 3) := by decide +kernel
theorem dX4_stop_15 : decode cX4_stop 15 = .ok (.invokevirtual 127, 3) := by decide +kernel
theorem dX4_stop_18 : decode cX4_stop 18 = .ok (.ireturn, 1) := by decide +kernel
set_option maxRecDepth 20000 in
theorem ggX4_set_X4_isSetting : GoodIn wsX4_set wsX4_isSetting := goodIn_r _ [10, 11, 12, 9, 13] (by decide +kernel) (by decide +kernel)
set_option maxRecDepth 20000 in
theorem gX4_set_X4_isSetting : GoodIn wsX4_set (va_wsS RX4 130 yX4_isSetting wsX4_isSetting) := goodIn_app (goodIn_of _ (by decide +kernel)) ggX4_set_X4_isSetting
set_option maxRecDepth 20000 in
theorem ggX4_set_X4_highestOf : GoodIn wsX4_set wsX4_highestOf := goodIn_r _ [16] (by decide +kernel) (by decide +kernel)
set_option maxRecDepth 20000 in
theorem gX4_set_X4_highestOf : GoodIn wsX4_set (va_wsS RX4 135 yX4_highestOf wsX4_highestOf) := goodIn_app (goodIn_of _ (by decide +kernel)) ggX4_set_X4_highestOf
set_option maxRecDepth 20000 in
theorem ggX4_set_X4_isWithin : GoodIn wsX4_set wsX4_isWithin := goodIn_r _ [13] (by decide +kernel) (by decide +kernel)
set_option maxRecDepth 20000 in
theorem gX4_set_X4_isWithin : GoodIn wsX4_set (va_wsS RX4 54 yX4_isWithin wsX4_isWithin) := goodIn_app (goodIn_of _ (by decide +kernel)) ggX4_set_X4_isWithin
set_option maxRecDepth 20000 in
theorem ggX4_set_X2_push : GoodIn wsX4_set wsX2_push := goodIn_r _ [21, 22, 23, 24, 25, 26, 20, 27, 28, 29, 30, 31, 32, 33, 34, 35, 36, 37, 38, 39, 40, 41, 42, 43, 44, 45, 46, 63, 64, 65, 66, 67, 68, 69, 70, 71, 72, 73, 74, 75, 76, 77, 78] (by decide +kernel) (by decide +kernel)
set_option maxRecDepth 20000 in
theorem gX4_set_X2_push : GoodIn wsX4_set (wsV RX4 77 RX2 yX2_push wsX2_push) := goodIn_app (goodIn_of _ (by decide +kernel)) ggX4_set_X2_push
set_option maxRecDepth 20000 in
theorem ggX4_set_X0_changeSetting : GoodIn wsX4_set wsX0_changeSetting := goodIn_r _ [50, 41, 42, 43, 51, 52, 53, 31, 54, 65, 66, 67, 68, 69, 70, 71, 72, 73, 74, 75, 76, 77, 78] (by decide +kernel) (by decide +kernel)
set_option maxRecDepth 20000 in
theorem gX4_set_X0_changeSetting : GoodIn wsX4_set (wsV RX4 140 RX0 yX0_changeSetting wsX0_changeSetting) := goodIn_app (goodIn_of _ (by decide +kernel)) ggX4_set_X0_changeSetting
theorem dX4_set_0 : decode cX4_set 0 = .ok (.iload_n 1, 1) := by decide +kernel
theorem dX4_set_1 : decode cX4_set 1 = .ok (.invokestatic 130, 3) := by decide +kernel
theorem dX4_set_4 : decode cX4_set 4 = .ok (.ifCond .ne 13, 3) := by decide +kernel
theorem dX4_set_7 : decode cX4_set 7 = .ok (.new 88, 3) := by decide +kernel
theorem dX4_set_10 : decode cX4_set 10 = .ok (.dup, 1) := by decide +kernel
theorem dX4_set_11 : decode cX4_set 11 = .ok (.ldc 133, 2) := by decide +kernel
theorem dX4_set_13 : decode cX4_set 13 = .ok (.invokespecial 92, 3) := by decide +kernel
theorem dX4_set_16 : decode cX4_set 16 = .ok (.athrow, 1) := by decide +kernel
theorem dX4_set_17 : decode cX4_set 17 = .ok (.iload_n 2, 1) := by decide +kernel
theorem dX4_set_18 : decode cX4_set 18 = .ok (.iconst 0, 1) := by decide +kernel
theorem dX4_set_19 : decode cX4_set 19 = .ok (.iload_n 1, 1) := by decide +kernel
theorem dX4_set_20 : decode cX4_set 20 = .ok (.invokestatic 135, 3) := by decide +kernel
theorem dX4_set_23 : decode cX4_set 23 = .ok (.invokestatic 54, 3) := by decide +kernel
theorem dX4_set_26 : decode cX4_set 26 = .ok (.ifCond .ne 13, 3) := by decide +kernel
theorem dX4_set_29 : decode cX4_set 29 = .ok (.new 61, 3) := by decide +kernel
theorem dX4_set_32 : decode cX4_set 32 = .ok (.dup, 1) := by decide +kernel
theorem dX4_set_33 : decode cX4_set 33 = .ok (.ldc 138, 2) := by decide +kernel
theorem dX4_set_35 : decode cX4_set 35 = .ok (.invokespecial 65, 3) := by decide +kernel
theorem dX4_set_38 : decode cX4_set 38 = .ok (.athrow, 1) := by decide +kernel
theorem dX4_set_39 : decode cX4_set 39 = .ok (.aload_n 0, 1) := by decide +kernel
theorem dX4_set_40 : decode cX4_set 40 = .ok (.getfield 32, 3) := by decide +kernel
theorem dX4_set_43 : decode cX4_set 43 = .ok (.aload_n 0, 1) := by decide +kernel
theorem dX4_set_44 : decode cX4_set 44 = .ok (.getfield 10, 3) := by decide +kernel
theorem dX4_set_47 : decode cX4_set 47 = .ok (.invokevirtual 77, 3) := by decide +kernel
theorem dX4_set_50 : decode cX4_set 50 = .ok (.aload_n 0, 1) := by decide +kernel
theorem dX4_set_51 : decode cX4_set 51 = .ok (.getfield 10, 3) := by decide +kernel
theorem dX4_set_54 : decode cX4_set 54 = .ok (.iload_n 1, 1) := by decide +kernel
theorem dX4_set_55 : decode cX4_set 55 = .ok (.iload_n 2, 1) := by decide +kernel
theorem dX4_set_56 : decode cX4_set 56 = .ok (.invokevirtual 140, 3) := by decide +kernel
theorem dX4_set_59 : decode cX4_set 59 = .ok (.ireturn, 1) := by decide +kernel
set_option maxRecDepth 20000 in
theorem ggX4_append_X4_isWithin : GoodIn wsX4_append wsX4_isWithin := goodIn_r _ [9] (by decide +kernel) (by decide +kernel)
set_option maxRecDepth 20000 in
theorem gX4_append_X4_isWithin : GoodIn wsX4_append (va_wsS RX4 54 yX4_isWithin wsX4_isWithin) := goodIn_app (goodIn_of _ (by decide +kernel)) ggX4_append_X4_isWithin
set_option maxRecDepth 20000 in
theorem ggX4_append_X3_isFull : GoodIn wsX4_append wsX3_isFull := goodIn_r _ [14, 15, 29, 30] (by decide +kernel) (by decide +kernel)
set_option maxRecDepth 20000 in
theorem gX4_append_X3_isFull : GoodIn wsX4_append (wsV RX4 145 RX3 yX3_isFull wsX3_isFull) := goodIn_app (goodIn_of _ (by decide +kernel)) ggX4_append_X3_isFull
set_option maxRecDepth 20000 in
theorem ggX4_append_X3_add : GoodIn wsX4_append wsX3_add := goodIn_r _ [19, 15, 20, 29, 30] (by decide +kernel) (by decide +kernel)
set_option maxRecDepth 20000 in
theorem gX4_append_X3_add : GoodIn wsX4_append (wsV RX4 148 RX3 yX3_add wsX3_add) := goodIn_app (goodIn_of _ (by decide +kernel)) ggX4_append_X3_add
theorem dX4_append_0 : decode cX4_append 0 = .ok (.iload_n 1, 1) := by decide +kernel
theorem dX4_append_1 : decode cX4_append 1 = .ok (.bipush 33, 2) := by decide +kernel
theorem dX4_append_3 : decode cX4_append 3 = .ok (.bipush 126, 2) := by decide +kernel
theorem dX4_append_5 : decode cX4_append 5 = .ok (.invokestatic 54, 3) := by decide +kernel
theorem dX4_append_8 : decode cX4_append 8 = .ok (.ifCond .ne 13, 3) := by decide +kernel
theorem dX4_append_11 : decode cX4_append 11 = .ok (.new 61, 3) := by decide +kernel
theorem dX4_append_14 : decode cX4_append 14 = .ok (.dup, 1) := by decide +kernel
theorem dX4_append_15 : decode cX4_append 15 = .ok (.ldc 143, 2) := by decide +kernel
theorem dX4_append_17 : decode cX4_append 17 = .ok (.invokespecial 65, 3) := by decide +kernel
theorem dX4_append_20 : decode cX4_append 20 = .ok (.athrow, 1) := by decide +kernel
theorem dX4_append_21 : decode cX4_append 21 = .ok (.aload_n 0, 1) := by decide +kernel
theorem dX4_append_22 : decode cX4_append 22 = .ok (.getfield 39, 3) := by decide +kernel
theorem dX4_append_25 : decode cX4_append 25 = .ok (.invokevirtual 145, 3) := by decide +kernel
theorem dX4_append_28 : decode cX4_append 28 = .ok (.ifCond .eq 13, 3) := by decide +kernel
theorem dX4_append_31 : decode cX4_append 31 = .ok (.new 72, 3) := by decide +kernel
theorem dX4_append_34 : decode cX4_append 34 = .ok (.dup, 1) := by decide +kernel
theorem dX4_append_35 : decode cX4_append 35 = .ok (.ldc 146, 2) := by decide +kernel
theorem dX4_append_37 : decode cX4_append 37 = .ok (.invokespecial 76, 3) := by decide +kernel
theorem dX4_append_40 : decode cX4_append 40 = .ok (.athrow, 1) := by decide +kernel
theorem dX4_append_41 : decode cX4_append 41 = .ok (.aload_n 0, 1) := by decide +kernel
theorem dX4_append_42 : decode cX4_append 42 = .ok (.getfield 39, 3) := by decide +kernel
theorem dX4_append_45 : decode cX4_append 45 = .ok (.iload_n 1, 1) := by decide +kernel
theorem dX4_append_46 : decode cX4_append 46 = .ok (.invokevirtual 148, 3) := by decide +kernel
theorem dX4_append_49 : decode cX4_append 49 = .ok (.ireturn, 1) := by decide +kernel
set_option maxRecDepth 20000 in
theorem ggX4_clearBuffer_X3_empty : GoodIn wsX4_clearBuffer wsX3_empty := goodIn_r _ [6, 7, 16, 17] (by decide +kernel) (by decide +kernel)
set_option maxRecDepth 20000 in
theorem gX4_clearBuffer_X3_empty : GoodIn wsX4_clearBuffer (wsV RX4 150 RX3 yX3_empty wsX3_empty) := goodIn_app (goodIn_of _ (by decide +kernel)) ggX4_clearBuffer_X3_empty
theorem dX4_clearBuffer_0 : decode cX4_clearBuffer 0 = .ok (.aload_n 0, 1) := by decide +kernel
theorem dX4_clearBuffer_1 : decode cX4_clearBuffer 1 = .ok (.getfield 39, 3) := by decide +kernel
theorem dX4_clearBuffer_4 : decode cX4_clearBuffer 4 = .ok (.invokevirtual 150, 3) := by decide +kernel
theorem dX4_clearBuffer_7 : decode cX4_clearBuffer 7 = .ok (.ireturn, 1) := by decide +kernel
set_option maxRecDepth 20000 in
theorem ggX4_firstError_X4_readText : GoodIn wsX4_firstError wsX4_readText := goodIn_r _ [5, 6, 7, 8, 9, 10, 11, 12, 13, 14, 15, 16, 17, 18, 19, 20, 21, 22, 23, 24, 25, 26, 27, 28, 29, 30, 31, 32, 33, 34, 35, 36, 37, 38, 39, 40, 41, 42, 43, 44, 45, 46, 47, 48, 49, 50, 51, 52, 53, 54, 55, 56, 57, 58, 59, 60, 61, 62, 63, 64, 65, 66, 67, 68, 69, 70, 71, 72, 73, 74, 75, 76, 77] (by decide +kernel) (by decide +kernel)
set_option maxRecDepth 20000 in
theorem gX4_firstError_X4_readText : GoodIn wsX4_firstError (wsV RX4 153 RX4 yX4_readText wsX4_readText) := goodIn_app (goodIn_of _ (by decide +kernel)) ggX4_firstError_X4_readText
theorem dX4_firstError_0 : decode cX4_firstError 0 = .ok (.aload_n 0, 1) := by decide +kernel
theorem dX4_firstError_1 : decode cX4_firstError 1 = .ok (.invokevirtual 153, 3) := by decide +kernel
theorem dX4_firstError_4 : decode cX4_firstError 4 = .ok (.ireturn, 1) := by decide +kernel
set_option maxRecDepth 20000 in
theorem ggX4_play_X4_tellsBench : GoodIn wsX4_play wsX4_tellsBench := goodIn_r _ [11, 6, 5, 12, 13, 14, 10, 15, 16, 17, 18, 19, 20, 21, 22, 23, 24, 25, 26, 27, 28, 29, 30, 31, 32, 33, 34, 35, 36, 37, 38, 39, 40, 41, 42, 43, 44, 45, 46, 47, 48, 49, 50, 51, 52, 53, 54, 55, 56, 57, 58, 59, 60, 61, 62, 63, 64, 65, 193, 194, 195, 196, 197, 198, 199, 200, 201, 202, 203, 204, 205, 206, 207, 208, 209, 210, 211, 212] (by decide +kernel) (by decide +kernel)
set_option maxRecDepth 20000 in
theorem gX4_play_X4_tellsBench : GoodIn wsX4_play (wsV RX4 156 RX4 yX4_tellsBench wsX4_tellsBench) := goodIn_app (goodIn_of _ (by decide +kernel)) ggX4_play_X4_tellsBench
set_option maxRecDepth 20000 in
theorem ggX4_play_X2_push : GoodIn wsX4_play wsX2_push := goodIn_r _ [70, 71, 72, 73, 74, 75, 69, 76, 77, 78, 79, 80, 81, 82, 83, 84, 85, 86, 87, 88, 89, 90, 91, 92, 93, 94, 95, 213, 214, 215, 216, 217, 218, 219, 220, 221, 222, 223, 224, 225, 226, 227, 228] (by decide +kernel) (by decide +kernel)
set_option maxRecDepth 20000 in
theorem gX4_play_X2_push : GoodIn wsX4_play (wsV RX4 77 RX2 yX2_push wsX2_push) := goodIn_app (goodIn_of _ (by decide +kernel)) ggX4_play_X2_push
set_option maxRecDepth 20000 in
theorem ggX4_play_X1_beginText : GoodIn wsX4_play wsX1_beginText := goodIn_r _ [20, 21, 201, 202, 203, 204, 205, 206, 207, 208, 209, 210] (by decide +kernel) (by decide +kernel)
set_option maxRecDepth 20000 in
theorem gX4_play_X1_beginText : GoodIn wsX4_play (wsV RX4 161 RX1 yX1_beginText wsX1_beginText) := goodIn_app (goodIn_of _ (by decide +kernel)) ggX4_play_X1_beginText
set_option maxRecDepth 20000 in
theorem ggX4_play_X3_size : GoodIn wsX4_play wsX3_size := goodIn_r _ [26, 27, 211, 212] (by decide +kernel) (by decide +kernel)
set_option maxRecDepth 20000 in
theorem gX4_play_X3_size : GoodIn wsX4_play (wsV RX4 164 RX3 yX3_size wsX3_size) := goodIn_app (goodIn_of _ (by decide +kernel)) ggX4_play_X3_size
set_option maxRecDepth 20000 in
theorem ggX4_play_X4_readsEndOfOrder : GoodIn wsX4_play wsX4_readsEndOfOrder := goodIn_r _ [99, 6, 5, 22, 23, 24, 25, 26, 27, 28, 29, 30, 31, 32, 33, 34, 35, 19, 36, 21, 37, 38, 39, 40, 41, 42, 43, 44, 45, 46, 47, 48, 49, 50, 51, 52, 53, 54, 55, 56, 57, 58, 59, 60, 61, 62, 63, 64, 65, 193, 194, 195, 196, 197, 198, 199, 200, 211, 212, 201, 202, 203, 204, 205, 206, 207, 208, 209, 210] (by decide +kernel) (by decide +kernel)
set_option maxRecDepth 20000 in
theorem gX4_play_X4_readsEndOfOrder : GoodIn wsX4_play (wsV RX4 167 RX4 yX4_readsEndOfOrder wsX4_readsEndOfOrder) := goodIn_app (goodIn_of _ (by decide +kernel)) ggX4_play_X4_readsEndOfOrder
set_option maxRecDepth 20000 in
theorem ggX4_play_X4_doOrder : GoodIn wsX4_play wsX4_doOrder := goodIn_r _ [103, 5, 4, 104, 105, 106, 19, 107, 44, 108, 109, 110, 80, 111, 87, 112, 113, 114, 115, 62, 116, 117, 118, 119, 63, 120, 121, 122, 123, 64, 124, 125, 126, 127, 82, 83, 84, 85, 86, 128, 129, 130, 131, 65, 132, 133, 134, 135, 93, 136, 137, 138, 139, 140, 94, 141, 142, 143, 144, 95, 145, 146, 147, 148, 88, 90, 89, 149, 150, 151, 152, 153, 154, 155, 156, 157, 158, 159, 160, 161, 162, 163, 164, 165, 166, 167, 168, 169, 170, 171, 172, 173, 174, 175, 176, 177, 178, 179, 180, 181, 182, 91, 183, 184, 185, 186, 187, 188, 193, 194, 195, 196, 197, 198, 199, 200, 201, 202, 203, 204, 205, 206, 207, 208, 209, 210, 215, 216, 217, 218, 219, 220, 221, 222, 223, 224, 225, 226, 227, 228] (by decide +kernel) (by decide +kernel)
set_option maxRecDepth 20000 in
theorem gX4_play_X4_doOrder : GoodIn wsX4_play (wsV RX4 170 RX4 yX4_doOrder wsX4_doOrder) := goodIn_app (goodIn_of _ (by decide +kernel)) ggX4_play_X4_doOrder
set_option maxRecDepth 20000 in
theorem ggX4_play_X3_empty : GoodIn wsX4_play wsX3_empty := goodIn_r _ [192, 27, 211, 212] (by decide +kernel) (by decide +kernel)
set_option maxRecDepth 20000 in
theorem gX4_play_X3_empty : GoodIn wsX4_play (wsV RX4 150 RX3 yX3_empty wsX3_empty) := goodIn_app (goodIn_of _ (by decide +kernel)) ggX4_play_X3_empty
theorem dX4_play_0 : decode cX4_play 0 = .ok (.aload_n 0, 1) := by decide +kernel
theorem dX4_play_1 : decode cX4_play 1 = .ok (.invokevirtual 156, 3) := by decide +kernel
theorem dX4_play_4 : decode cX4_play 4 = .ok (.ifCond .ne 13, 3) := by decide +kernel
theorem dX4_play_7 : decode cX4_play 7 = .ok (.new 61, 3) := by decide +kernel
theorem dX4_play_10 : decode cX4_play 10 = .ok (.dup, 1) := by decide +kernel
theorem dX4_play_11 : decode cX4_play 11 = .ok (.ldc 159, 2) := by decide +kernel
theorem dX4_play_13 : decode cX4_play 13 = .ok (.invokespecial 65, 3) := by decide +kernel
theorem dX4_play_16 : decode cX4_play 16 = .ok (.athrow, 1) := by decide +kernel
theorem dX4_play_17 : decode cX4_play 17 = .ok (.aload_n 0, 1) := by decide +kernel
theorem dX4_play_18 : decode cX4_play 18 = .ok (.getfield 32, 3) := by decide +kernel
theorem dX4_play_21 : decode cX4_play 21 = .ok (.aload_n 0, 1) := by decide +kernel
theorem dX4_play_22 : decode cX4_play 22 = .ok (.getfield 10, 3) := by decide +kernel
theorem dX4_play_25 : decode cX4_play 25 = .ok (.invokevirtual 77, 3) := by decide +kernel
theorem dX4_play_28 : decode cX4_play 28 = .ok (.aload_n 0, 1) := by decide +kernel
theorem dX4_play_29 : decode cX4_play 29 = .ok (.getfield 46, 3) := by decide +kernel
theorem dX4_play_32 : decode cX4_play 32 = .ok (.invokevirtual 161, 3) := by decide +kernel
theorem dX4_play_35 : decode cX4_play 35 = .ok (.iconst 0, 1) := by decide +kernel
theorem dX4_play_36 : decode cX4_play 36 = .ok (.istore_n 1, 1) := by decide +kernel
theorem dX4_play_37 : decode cX4_play 37 = .ok (.iconst 1, 1) := by decide +kernel
theorem dX4_play_38 : decode cX4_play 38 = .ok (.istore_n 2, 1) := by decide +kernel
theorem dX4_play_39 : decode cX4_play 39 = .ok (.iconst 0, 1) := by decide +kernel
theorem dX4_play_40 : decode cX4_play 40 = .ok (.istore_n 3, 1) := by decide +kernel
theorem dX4_play_41 : decode cX4_play 41 = .ok (.iload_n 3, 1) := by decide +kernel
theorem dX4_play_42 : decode cX4_play 42 = .ok (.aload_n 0, 1) := by decide +kernel
theorem dX4_play_43 : decode cX4_play 43 = .ok (.getfield 39, 3) := by decide +kernel
theorem dX4_play_46 : decode cX4_play 46 = .ok (.invokevirtual 164, 3) := by decide +kernel
theorem dX4_play_49 : decode cX4_play 49 = .ok (.if_icmp .gt 38, 3) := by decide +kernel
theorem dX4_play_52 : decode cX4_play 52 = .ok (.iload_n 2, 1) := by decide +kernel
theorem dX4_play_53 : decode cX4_play 53 = .ok (.ifCond .eq 34, 3) := by decide +kernel
theorem dX4_play_56 : decode cX4_play 56 = .ok (.aload_n 0, 1) := by decide +kernel
theorem dX4_play_57 : decode cX4_play 57 = .ok (.iload_n 3, 1) := by decide +kernel
theorem dX4_play_58 : decode cX4_play 58 = .ok (.invokevirtual 167, 3) := by decide +kernel
theorem dX4_play_61 : decode cX4_play 61 = .ok (.ifCond .eq 20, 3) := by decide +kernel
theorem dX4_play_64 : decode cX4_play 64 = .ok (.aload_n 0, 1) := by decide +kernel
theorem dX4_play_65 : decode cX4_play 65 = .ok (.invokevirtual 170, 3) := by decide +kernel
theorem dX4_play_68 : decode cX4_play 68 = .ok (.istore_n 2, 1) := by decide +kernel
theorem dX4_play_69 : decode cX4_play 69 = .ok (.iload_n 1, 1) := by decide +kernel
theorem dX4_play_70 : decode cX4_play 70 = .ok (.iload_n 2, 1) := by decide +kernel
theorem dX4_play_71 : decode cX4_play 71 = .ok (.ifCond .eq 7, 3) := by decide +kernel
theorem dX4_play_74 : decode cX4_play 74 = .ok (.iconst 1, 1) := by decide +kernel
theorem dX4_play_75 : decode cX4_play 75 = .ok (.goto 4, 3) := by decide +kernel
theorem dX4_play_78 : decode cX4_play 78 = .ok (.iconst 0, 1) := by decide +kernel
theorem dX4_play_79 : decode cX4_play 79 = .ok (.iadd, 1) := by decide +kernel
theorem dX4_play_80 : decode cX4_play 80 = .ok (.istore_n 1, 1) := by decide +kernel
theorem dX4_play_81 : decode cX4_play 81 = .ok (.iinc 3 1, 3) := by decide +kernel
theorem dX4_play_84 : decode cX4_play 84 = .ok (.goto (-43), 3) := by decide +kernel
theorem dX4_play_87 : decode cX4_play 87 = .ok (.aload_n 0, 1) := by decide +kernel
theorem dX4_play_88 : decode cX4_play 88 = .ok (.getfield 39, 3) := by decide +kernel
theorem dX4_play_91 : decode cX4_play 91 = .ok (.invokevirtual 150, 3) := by decide +kernel
theorem dX4_play_94 : decode cX4_play 94 = .ok (.pop, 1) := by decide +kernel
theorem dX4_play_95 : decode cX4_play 95 = .ok (.iload_n 1, 1) := by decide +kernel
theorem dX4_play_96 : decode cX4_play 96 = .ok (.ireturn, 1) := by decide +kernel
set_option maxRecDepth 20000 in
theorem ggX4_keep_X4_isSlot : GoodIn wsX4_keep wsX4_isSlot := goodIn_r _ [8, 9, 10, 7, 11] (by decide +kernel) (by decide +kernel)
set_option maxRecDepth 20000 in
theorem gX4_keep_X4_isSlot : GoodIn wsX4_keep (va_wsS RX4 173 yX4_isSlot wsX4_isSlot) := goodIn_app (goodIn_of _ (by decide +kernel)) ggX4_keep_X4_isSlot
set_option maxRecDepth 20000 in
theorem ggX4_keep_X4_slotBench : GoodIn wsX4_keep wsX4_slotBench := goodIn_r _ [15, 16, 17, 41, 42, 43, 44, 45, 46, 47, 48] (by decide +kernel) (by decide +kernel)
set_option maxRecDepth 20000 in
theorem gX4_keep_X4_slotBench : GoodIn wsX4_keep (wsV RX4 178 RX4 yX4_slotBench wsX4_slotBench) := goodIn_app (goodIn_of _ (by decide +kernel)) ggX4_keep_X4_slotBench
set_option maxRecDepth 20000 in
theorem ggX4_keep_X0_copyFrom : GoodIn wsX4_keep wsX0_copyFrom := goodIn_r _ [22, 23, 24, 25, 26, 27, 28, 29, 30, 31, 32, 33, 34, 35, 36, 49, 50, 51, 52, 53, 54, 55, 56, 57, 58, 59, 60, 61, 62] (by decide +kernel) (by decide +kernel)
set_option maxRecDepth 20000 in
theorem gX4_keep_X0_copyFrom : GoodIn wsX4_keep (wsV RX4 182 RX0 yX0_copyFrom wsX0_copyFrom) := goodIn_app (goodIn_of _ (by decide +kernel)) ggX4_keep_X0_copyFrom
set_option maxRecDepth 20000 in
theorem ggX4_keep_X0_steps : GoodIn wsX4_keep wsX0_steps := goodIn_r _ [40, 34, 49, 50, 51, 52, 53, 54, 55, 56, 57, 58, 59, 60, 61, 62] (by decide +kernel) (by decide +kernel)
set_option maxRecDepth 20000 in
theorem gX4_keep_X0_steps : GoodIn wsX4_keep (wsV RX4 185 RX0 yX0_steps wsX0_steps) := goodIn_app (goodIn_of _ (by decide +kernel)) ggX4_keep_X0_steps
theorem dX4_keep_0 : decode cX4_keep 0 = .ok (.iload_n 1, 1) := by decide +kernel
theorem dX4_keep_1 : decode cX4_keep 1 = .ok (.invokestatic 173, 3) := by decide +kernel
theorem dX4_keep_4 : decode cX4_keep 4 = .ok (.ifCond .ne 13, 3) := by decide +kernel
theorem dX4_keep_7 : decode cX4_keep 7 = .ok (.new 61, 3) := by decide +kernel
theorem dX4_keep_10 : decode cX4_keep 10 = .ok (.dup, 1) := by decide +kernel
theorem dX4_keep_11 : decode cX4_keep 11 = .ok (.ldc 176, 2) := by decide +kernel
theorem dX4_keep_13 : decode cX4_keep 13 = .ok (.invokespecial 65, 3) := by decide +kernel
theorem dX4_keep_16 : decode cX4_keep 16 = .ok (.athrow, 1) := by decide +kernel
theorem dX4_keep_17 : decode cX4_keep 17 = .ok (.aload_n 0, 1) := by decide +kernel
theorem dX4_keep_18 : decode cX4_keep 18 = .ok (.iload_n 1, 1) := by decide +kernel
theorem dX4_keep_19 : decode cX4_keep 19 = .ok (.invokevirtual 178, 3) := by decide +kernel
theorem dX4_keep_22 : decode cX4_keep 22 = .ok (.aload_n 0, 1) := by decide +kernel
theorem dX4_keep_23 : decode cX4_keep 23 = .ok (.getfield 10, 3) := by decide +kernel
theorem dX4_keep_26 : decode cX4_keep 26 = .ok (.invokevirtual 182, 3) := by decide +kernel
theorem dX4_keep_29 : decode cX4_keep 29 = .ok (.aload_n 0, 1) := by decide +kernel
theorem dX4_keep_30 : decode cX4_keep 30 = .ok (.getfield 25, 3) := by decide +kernel
theorem dX4_keep_33 : decode cX4_keep 33 = .ok (.iload_n 1, 1) := by decide +kernel
theorem dX4_keep_34 : decode cX4_keep 34 = .ok (.iconst 1, 1) := by decide +kernel
theorem dX4_keep_35 : decode cX4_keep 35 = .ok (.bastore, 1) := by decide +kernel
theorem dX4_keep_36 : decode cX4_keep 36 = .ok (.aload_n 0, 1) := by decide +kernel
theorem dX4_keep_37 : decode cX4_keep 37 = .ok (.getfield 10, 3) := by decide +kernel
theorem dX4_keep_40 : decode cX4_keep 40 = .ok (.invokevirtual 185, 3) := by decide +kernel
theorem dX4_keep_43 : decode cX4_keep 43 = .ok (.ireturn, 1) := by decide +kernel
set_option maxRecDepth 20000 in
theorem ggX4_goBack_X4_isSlot : GoodIn wsX4_goBack wsX4_isSlot := goodIn_r _ [11, 12, 13, 10, 14] (by decide +kernel) (by decide +kernel)
set_option maxRecDepth 20000 in
theorem gX4_goBack_X4_isSlot : GoodIn wsX4_goBack (va_wsS RX4 173 yX4_isSlot wsX4_isSlot) := goodIn_app (goodIn_of _ (by decide +kernel)) ggX4_goBack_X4_isSlot
set_option maxRecDepth 20000 in
theorem ggX4_goBack_X2_push : GoodIn wsX4_goBack wsX2_push := goodIn_r _ [19, 20, 21, 22, 23, 24, 18, 25, 26, 27, 28, 29, 30, 31, 32, 33, 34, 35, 36, 37, 38, 39, 40, 41, 42, 43, 44, 64, 65, 66, 67, 68, 69, 70, 71, 72, 73, 74, 75, 76, 77, 78, 79] (by decide +kernel) (by decide +kernel)
set_option maxRecDepth 20000 in
theorem gX4_goBack_X2_push : GoodIn wsX4_goBack (wsV RX4 77 RX2 yX2_push wsX2_push) := goodIn_app (goodIn_of _ (by decide +kernel)) ggX4_goBack_X2_push
set_option maxRecDepth 20000 in
theorem ggX4_goBack_X4_slotBench : GoodIn wsX4_goBack wsX4_slotBench := goodIn_r _ [48, 49, 50, 56, 57, 58, 59, 60, 61, 62, 63] (by decide +kernel) (by decide +kernel)
set_option maxRecDepth 20000 in
theorem gX4_goBack_X4_slotBench : GoodIn wsX4_goBack (wsV RX4 178 RX4 yX4_slotBench wsX4_slotBench) := goodIn_app (goodIn_of _ (by decide +kernel)) ggX4_goBack_X4_slotBench
set_option maxRecDepth 20000 in
theorem ggX4_goBack_X0_copyFrom : GoodIn wsX4_goBack wsX0_copyFrom := goodIn_r _ [30, 31, 32, 33, 34, 35, 36, 37, 38, 39, 40, 41, 42, 43, 44, 66, 67, 68, 69, 70, 71, 72, 73, 74, 75, 76, 77, 78, 79] (by decide +kernel) (by decide +kernel)
set_option maxRecDepth 20000 in
theorem gX4_goBack_X0_copyFrom : GoodIn wsX4_goBack (wsV RX4 182 RX0 yX0_copyFrom wsX0_copyFrom) := goodIn_app (goodIn_of _ (by decide +kernel)) ggX4_goBack_X0_copyFrom
set_option maxRecDepth 20000 in
theorem ggX4_goBack_X0_steps : GoodIn wsX4_goBack wsX0_steps := goodIn_r _ [55, 42, 66, 67, 68, 69, 70, 71, 72, 73, 74, 75, 76, 77, 78, 79] (by decide +kernel) (by decide +kernel)
set_option maxRecDepth 20000 in
theorem gX4_goBack_X0_steps : GoodIn wsX4_goBack (wsV RX4 185 RX0 yX0_steps wsX0_steps) := goodIn_app (goodIn_of _ (by decide +kernel)) ggX4_goBack_X0_steps
theorem dX4_goBack_0 : decode cX4_goBack 0 = .ok (.iload_n 1, 1) := by decide +kernel
theorem dX4_goBack_1 : decode cX4_goBack 1 = .ok (.invokestatic 173, 3) := by decide +kernel
theorem dX4_goBack_4 : decode cX4_goBack 4 = .ok (.ifCond .ne 13, 3) := by decide +kernel
theorem dX4_goBack_7 : decode cX4_goBack 7 = .ok (.new 61, 3) := by decide +kernel
theorem dX4_goBack_10 : decode cX4_goBack 10 = .ok (.dup, 1) := by decide +kernel
theorem dX4_goBack_11 : decode cX4_goBack 11 = .ok (.ldc 176, 2) := by decide +kernel
theorem dX4_goBack_13 : decode cX4_goBack 13 = .ok (.invokespecial 65, 3) := by decide +kernel
theorem dX4_goBack_16 : decode cX4_goBack 16 = .ok (.athrow, 1) := by decide +kernel
theorem dX4_goBack_17 : decode cX4_goBack 17 = .ok (.aload_n 0, 1) := by decide +kernel
theorem dX4_goBack_18 : decode cX4_goBack 18 = .ok (.getfield 25, 3) := by decide +kernel
theorem dX4_goBack_21 : decode cX4_goBack 21 = .ok (.iload_n 1, 1) := by decide +kernel
theorem dX4_goBack_22 : decode cX4_goBack 22 = .ok (.baload, 1) := by decide +kernel
theorem dX4_goBack_23 : decode cX4_goBack 23 = .ok (.ifCond .ne 13, 3) := by decide +kernel
theorem dX4_goBack_26 : decode cX4_goBack 26 = .ok (.new 72, 3) := by decide +kernel
theorem dX4_goBack_29 : decode cX4_goBack 29 = .ok (.dup, 1) := by decide +kernel
theorem dX4_goBack_30 : decode cX4_goBack 30 = .ok (.ldc 188, 2) := by decide +kernel
theorem dX4_goBack_32 : decode cX4_goBack 32 = .ok (.invokespecial 76, 3) := by decide +kernel
theorem dX4_goBack_35 : decode cX4_goBack 35 = .ok (.athrow, 1) := by decide +kernel
theorem dX4_goBack_36 : decode cX4_goBack 36 = .ok (.aload_n 0, 1) := by decide +kernel
theorem dX4_goBack_37 : decode cX4_goBack 37 = .ok (.getfield 32, 3) := by decide +kernel
theorem dX4_goBack_40 : decode cX4_goBack 40 = .ok (.aload_n 0, 1) := by decide +kernel
theorem dX4_goBack_41 : decode cX4_goBack 41 = .ok (.getfield 10, 3) := by decide +kernel
theorem dX4_goBack_44 : decode cX4_goBack 44 = .ok (.invokevirtual 77, 3) := by decide +kernel
theorem dX4_goBack_47 : decode cX4_goBack 47 = .ok (.aload_n 0, 1) := by decide +kernel
theorem dX4_goBack_48 : decode cX4_goBack 48 = .ok (.getfield 10, 3) := by decide +kernel
theorem dX4_goBack_51 : decode cX4_goBack 51 = .ok (.aload_n 0, 1) := by decide +kernel
theorem dX4_goBack_52 : decode cX4_goBack 52 = .ok (.iload_n 1, 1) := by decide +kernel
theorem dX4_goBack_53 : decode cX4_goBack 53 = .ok (.invokevirtual 178, 3) := by decide +kernel
theorem dX4_goBack_56 : decode cX4_goBack 56 = .ok (.invokevirtual 182, 3) := by decide +kernel
theorem dX4_goBack_59 : decode cX4_goBack 59 = .ok (.aload_n 0, 1) := by decide +kernel
theorem dX4_goBack_60 : decode cX4_goBack 60 = .ok (.getfield 10, 3) := by decide +kernel
theorem dX4_goBack_63 : decode cX4_goBack 63 = .ok (.invokevirtual 185, 3) := by decide +kernel
theorem dX4_goBack_66 : decode cX4_goBack 66 = .ok (.ireturn, 1) := by decide +kernel
set_option maxRecDepth 20000 in
theorem ggX4_undo_X2_size : GoodIn wsX4_undo wsX2_size := goodIn_r _ [9, 10, 43, 44] (by decide +kernel) (by decide +kernel)
set_option maxRecDepth 20000 in
theorem gX4_undo_X2_size : GoodIn wsX4_undo (wsV RX4 190 RX2 yX2_size wsX2_size) := goodIn_app (goodIn_of _ (by decide +kernel)) ggX4_undo_X2_size
set_option maxRecDepth 20000 in
theorem ggX4_undo_X2_popInto : GoodIn wsX4_undo wsX2_popInto := goodIn_r _ [14, 10, 15, 16, 17, 18, 19, 20, 21, 22, 23, 24, 25, 26, 27, 28, 29, 30, 31, 32, 33, 34, 43, 44, 45, 46, 47, 48, 49, 50, 51, 52, 53, 54, 55, 56, 57, 58] (by decide +kernel) (by decide +kernel)
set_option maxRecDepth 20000 in
theorem gX4_undo_X2_popInto : GoodIn wsX4_undo (wsV RX4 193 RX2 yX2_popInto wsX2_popInto) := goodIn_app (goodIn_of _ (by decide +kernel)) ggX4_undo_X2_popInto
theorem dX4_undo_0 : decode cX4_undo 0 = .ok (.aload_n 0, 1) := by decide +kernel
theorem dX4_undo_1 : decode cX4_undo 1 = .ok (.getfield 32, 3) := by decide +kernel
theorem dX4_undo_4 : decode cX4_undo 4 = .ok (.invokevirtual 190, 3) := by decide +kernel
theorem dX4_undo_7 : decode cX4_undo 7 = .ok (.ifCond .ne 13, 3) := by decide +kernel
theorem dX4_undo_10 : decode cX4_undo 10 = .ok (.new 72, 3) := by decide +kernel
theorem dX4_undo_13 : decode cX4_undo 13 = .ok (.dup, 1) := by decide +kernel
theorem dX4_undo_14 : decode cX4_undo 14 = .ok (.ldc 191, 2) := by decide +kernel
theorem dX4_undo_16 : decode cX4_undo 16 = .ok (.invokespecial 76, 3) := by decide +kernel
theorem dX4_undo_19 : decode cX4_undo 19 = .ok (.athrow, 1) := by decide +kernel
theorem dX4_undo_20 : decode cX4_undo 20 = .ok (.aload_n 0, 1) := by decide +kernel
theorem dX4_undo_21 : decode cX4_undo 21 = .ok (.getfield 32, 3) := by decide +kernel
theorem dX4_undo_24 : decode cX4_undo 24 = .ok (.aload_n 0, 1) := by decide +kernel
theorem dX4_undo_25 : decode cX4_undo 25 = .ok (.getfield 10, 3) := by decide +kernel
theorem dX4_undo_28 : decode cX4_undo 28 = .ok (.invokevirtual 193, 3) := by decide +kernel
theorem dX4_undo_31 : decode cX4_undo 31 = .ok (.ireturn, 1) := by decide +kernel
set_option maxRecDepth 20000 in
theorem ggX4_arm_X0_has : GoodIn wsX4_arm wsX0_has := goodIn_r _ [10, 11, 52, 53, 54, 55, 56, 57, 58, 59, 60, 61, 62, 63, 64, 65] (by decide +kernel) (by decide +kernel)
set_option maxRecDepth 20000 in
theorem gX4_arm_X0_has : GoodIn wsX4_arm (wsV RX4 85 RX0 yX0_has wsX0_has) := goodIn_app (goodIn_of _ (by decide +kernel)) ggX4_arm_X0_has
set_option maxRecDepth 20000 in
theorem ggX4_arm_X4_isWithin : GoodIn wsX4_arm wsX4_isWithin := goodIn_r _ [15] (by decide +kernel) (by decide +kernel)
set_option maxRecDepth 20000 in
theorem gX4_arm_X4_isWithin : GoodIn wsX4_arm (va_wsS RX4 54 yX4_isWithin wsX4_isWithin) := goodIn_app (goodIn_of _ (by decide +kernel)) ggX4_arm_X4_isWithin
set_option maxRecDepth 20000 in
theorem ggX4_arm_X0_property : GoodIn wsX4_arm wsX0_property := goodIn_r _ [19, 20, 21, 22, 23, 24, 25, 7, 8, 9, 10, 11, 26, 27, 28, 29, 30, 31, 32, 33, 34, 35, 36, 37, 38, 39, 40, 41, 42, 43, 52, 53, 54, 55, 56, 57, 58, 59, 60, 61, 62, 63, 64, 65] (by decide +kernel) (by decide +kernel)
set_option maxRecDepth 20000 in
theorem gX4_arm_X0_property : GoodIn wsX4_arm (wsV RX4 199 RX0 yX0_property wsX0_property) := goodIn_app (goodIn_of _ (by decide +kernel)) ggX4_arm_X0_property
theorem dX4_arm_0 : decode cX4_arm 0 = .ok (.aload_n 0, 1) := by decide +kernel
theorem dX4_arm_1 : decode cX4_arm 1 = .ok (.getfield 10, 3) := by decide +kernel
theorem dX4_arm_4 : decode cX4_arm 4 = .ok (.iload_n 1, 1) := by decide +kernel
theorem dX4_arm_5 : decode cX4_arm 5 = .ok (.invokevirtual 85, 3) := by decide +kernel
theorem dX4_arm_8 : decode cX4_arm 8 = .ok (.ifCond .ne 13, 3) := by decide +kernel
theorem dX4_arm_11 : decode cX4_arm 11 = .ok (.new 88, 3) := by decide +kernel
theorem dX4_arm_14 : decode cX4_arm 14 = .ok (.dup, 1) := by decide +kernel
theorem dX4_arm_15 : decode cX4_arm 15 = .ok (.ldc 90, 2) := by decide +kernel
theorem dX4_arm_17 : decode cX4_arm 17 = .ok (.invokespecial 92, 3) := by decide +kernel
theorem dX4_arm_20 : decode cX4_arm 20 = .ok (.athrow, 1) := by decide +kernel
theorem dX4_arm_21 : decode cX4_arm 21 = .ok (.iload_n 2, 1) := by decide +kernel
theorem dX4_arm_22 : decode cX4_arm 22 = .ok (.iconst 0, 1) := by decide +kernel
theorem dX4_arm_23 : decode cX4_arm 23 = .ok (.bipush 8, 2) := by decide +kernel
theorem dX4_arm_25 : decode cX4_arm 25 = .ok (.invokestatic 54, 3) := by decide +kernel
theorem dX4_arm_28 : decode cX4_arm 28 = .ok (.ifCond .ne 13, 3) := by decide +kernel
theorem dX4_arm_31 : decode cX4_arm 31 = .ok (.new 61, 3) := by decide +kernel
theorem dX4_arm_34 : decode cX4_arm 34 = .ok (.dup, 1) := by decide +kernel
theorem dX4_arm_35 : decode cX4_arm 35 = .ok (.ldc 197, 2) := by decide +kernel
theorem dX4_arm_37 : decode cX4_arm 37 = .ok (.invokespecial 65, 3) := by decide +kernel
theorem dX4_arm_40 : decode cX4_arm 40 = .ok (.athrow, 1) := by decide +kernel
theorem dX4_arm_41 : decode cX4_arm 41 = .ok (.aload_n 0, 1) := by decide +kernel
theorem dX4_arm_42 : decode cX4_arm 42 = .ok (.getfield 10, 3) := by decide +kernel
theorem dX4_arm_45 : decode cX4_arm 45 = .ok (.iload_n 1, 1) := by decide +kernel
theorem dX4_arm_46 : decode cX4_arm 46 = .ok (.iload_n 2, 1) := by decide +kernel
theorem dX4_arm_47 : decode cX4_arm 47 = .ok (.invokevirtual 199, 3) := by decide +kernel
theorem dX4_arm_50 : decode cX4_arm 50 = .ok (.ireturn, 1) := by decide +kernel
set_option maxRecDepth 20000 in
theorem ggX4_apart_X0_has : GoodIn wsX4_apart wsX0_has := goodIn_r _ [10, 11, 33, 34, 35, 36, 37, 38, 39, 40, 41, 42, 43, 44, 45, 46] (by decide +kernel) (by decide +kernel)
set_option maxRecDepth 20000 in
theorem gX4_apart_X0_has : GoodIn wsX4_apart (wsV RX4 85 RX0 yX0_has wsX0_has) := goodIn_app (goodIn_of _ (by decide +kernel)) ggX4_apart_X0_has
set_option maxRecDepth 20000 in
theorem ggX4_apart_X0_distance : GoodIn wsX4_apart wsX0_distance := goodIn_r _ [15, 16, 17, 18, 19, 20, 21, 22, 23, 24, 7, 8, 9, 10, 11, 33, 34, 35, 36, 37, 38, 39, 40, 41, 42, 43, 44, 45, 46] (by decide +kernel) (by decide +kernel)
set_option maxRecDepth 20000 in
theorem gX4_apart_X0_distance : GoodIn wsX4_apart (wsV RX4 204 RX0 yX0_distance wsX0_distance) := goodIn_app (goodIn_of _ (by decide +kernel)) ggX4_apart_X0_distance
theorem dX4_apart_0 : decode cX4_apart 0 = .ok (.aload_n 0, 1) := by decide +kernel
theorem dX4_apart_1 : decode cX4_apart 1 = .ok (.getfield 10, 3) := by decide +kernel
theorem dX4_apart_4 : decode cX4_apart 4 = .ok (.iload_n 1, 1) := by decide +kernel
theorem dX4_apart_5 : decode cX4_apart 5 = .ok (.invokevirtual 85, 3) := by decide +kernel
theorem dX4_apart_8 : decode cX4_apart 8 = .ok (.ifCond .eq 14, 3) := by decide +kernel
theorem dX4_apart_11 : decode cX4_apart 11 = .ok (.aload_n 0, 1) := by decide +kernel
theorem dX4_apart_12 : decode cX4_apart 12 = .ok (.getfield 10, 3) := by decide +kernel
theorem dX4_apart_15 : decode cX4_apart 15 = .ok (.iload_n 2, 1) := by decide +kernel
theorem dX4_apart_16 : decode cX4_apart 16 = .ok (.invokevirtual 85, 3) := by decide +kernel
theorem dX4_apart_19 : decode cX4_apart 19 = .ok (.ifCond .ne 13, 3) := by decide +kernel
theorem dX4_apart_22 : decode cX4_apart 22 = .ok (.new 88, 3) := by decide +kernel
theorem dX4_apart_25 : decode cX4_apart 25 = .ok (.dup, 1) := by decide +kernel
theorem dX4_apart_26 : decode cX4_apart 26 = .ok (.ldc 90, 2) := by decide +kernel
theorem dX4_apart_28 : decode cX4_apart 28 = .ok (.invokespecial 92, 3) := by decide +kernel
theorem dX4_apart_31 : decode cX4_apart 31 = .ok (.athrow, 1) := by decide +kernel
theorem dX4_apart_32 : decode cX4_apart 32 = .ok (.iload_n 1, 1) := by decide +kernel
theorem dX4_apart_33 : decode cX4_apart 33 = .ok (.iload_n 2, 1) := by decide +kernel
theorem dX4_apart_34 : decode cX4_apart 34 = .ok (.if_icmp .ne 13, 3) := by decide +kernel
theorem dX4_apart_37 : decode cX4_apart 37 = .ok (.new 61, 3) := by decide +kernel
theorem dX4_apart_40 : decode cX4_apart 40 = .ok (.dup, 1) := by decide +kernel
theorem dX4_apart_41 : decode cX4_apart 41 = .ok (.ldc 202, 2) := by decide +kernel
theorem dX4_apart_43 : decode cX4_apart 43 = .ok (.invokespecial 65, 3) := by decide +kernel
theorem dX4_apart_46 : decode cX4_apart 46 = .ok (.athrow, 1) := by decide +kernel
theorem dX4_apart_47 : decode cX4_apart 47 = .ok (.aload_n 0, 1) := by decide +kernel
theorem dX4_apart_48 : decode cX4_apart 48 = .ok (.getfield 10, 3) := by decide +kernel
theorem dX4_apart_51 : decode cX4_apart 51 = .ok (.iload_n 1, 1) := by decide +kernel
theorem dX4_apart_52 : decode cX4_apart 52 = .ok (.iload_n 2, 1) := by decide +kernel
theorem dX4_apart_53 : decode cX4_apart 53 = .ok (.invokevirtual 204, 3) := by decide +kernel
theorem dX4_apart_56 : decode cX4_apart 56 = .ok (.ireturn, 1) := by decide +kernel
set_option maxRecDepth 20000 in
theorem ggX4_count_X4_isWithin : GoodIn wsX4_count wsX4_isWithin := goodIn_r _ [6] (by decide +kernel) (by decide +kernel)
set_option maxRecDepth 20000 in
theorem gX4_count_X4_isWithin : GoodIn wsX4_count (va_wsS RX4 54 yX4_isWithin wsX4_isWithin) := goodIn_app (goodIn_of _ (by decide +kernel)) ggX4_count_X4_isWithin
set_option maxRecDepth 20000 in
theorem ggX4_count_X4_figure : GoodIn wsX4_count wsX4_figure := goodIn_r _ [10, 11, 12, 13, 14, 15, 16, 17, 18, 19, 20, 21, 22, 23, 24, 25, 26, 27, 28, 29, 30, 31, 32, 33, 34, 35, 36, 37, 38, 39, 40, 41, 42, 43, 44, 45, 46, 47, 48, 49, 50, 51, 52, 53, 54, 55, 56, 57, 58, 59, 60, 61, 62, 63, 64, 65, 66, 67, 68, 69, 70, 71, 72, 73, 74, 75, 76, 77, 78, 79, 80, 81, 82, 83, 84, 85, 86, 87, 88, 89, 90, 91, 92, 93, 94, 95, 96, 97, 98, 99, 100, 101, 102, 103, 104, 105, 106, 107, 108, 109, 110, 111, 112, 113, 114, 115, 116, 117] (by decide +kernel) (by decide +kernel)
set_option maxRecDepth 20000 in
theorem gX4_count_X4_figure : GoodIn wsX4_count (wsV RX4 209 RX4 yX4_figure wsX4_figure) := goodIn_app (goodIn_of _ (by decide +kernel)) ggX4_count_X4_figure
theorem dX4_count_0 : decode cX4_count 0 = .ok (.iload_n 1, 1) := by decide +kernel
theorem dX4_count_1 : decode cX4_count 1 = .ok (.iconst 0, 1) := by decide +kernel
theorem dX4_count_2 : decode cX4_count 2 = .ok (.bipush 11, 2) := by decide +kernel
theorem dX4_count_4 : decode cX4_count 4 = .ok (.invokestatic 54, 3) := by decide +kernel
theorem dX4_count_7 : decode cX4_count 7 = .ok (.ifCond .ne 13, 3) := by decide +kernel
theorem dX4_count_10 : decode cX4_count 10 = .ok (.new 61, 3) := by decide +kernel
theorem dX4_count_13 : decode cX4_count 13 = .ok (.dup, 1) := by decide +kernel
theorem dX4_count_14 : decode cX4_count 14 = .ok (.ldc 207, 2) := by decide +kernel
theorem dX4_count_16 : decode cX4_count 16 = .ok (.invokespecial 65, 3) := by decide +kernel
theorem dX4_count_19 : decode cX4_count 19 = .ok (.athrow, 1) := by decide +kernel
theorem dX4_count_20 : decode cX4_count 20 = .ok (.aload_n 0, 1) := by decide +kernel
theorem dX4_count_21 : decode cX4_count 21 = .ok (.iload_n 1, 1) := by decide +kernel
theorem dX4_count_22 : decode cX4_count 22 = .ok (.invokevirtual 209, 3) := by decide +kernel
theorem dX4_count_25 : decode cX4_count 25 = .ok (.ireturn, 1) := by decide +kernel
set_option maxRecDepth 20000 in
theorem ggX4_setting_X4_isSetting : GoodIn wsX4_setting wsX4_isSetting := goodIn_r _ [7, 8, 9, 6, 10] (by decide +kernel) (by decide +kernel)
set_option maxRecDepth 20000 in
theorem gX4_setting_X4_isSetting : GoodIn wsX4_setting (va_wsS RX4 130 yX4_isSetting wsX4_isSetting) := goodIn_app (goodIn_of _ (by decide +kernel)) ggX4_setting_X4_isSetting
set_option maxRecDepth 20000 in
theorem ggX4_setting_X0_settingValue : GoodIn wsX4_setting wsX0_settingValue := goodIn_r _ [15, 16, 17, 18, 27, 28, 29, 30, 31, 32, 33, 34, 35, 36, 37, 38, 39, 40] (by decide +kernel) (by decide +kernel)
set_option maxRecDepth 20000 in
theorem gX4_setting_X0_settingValue : GoodIn wsX4_setting (wsV RX4 212 RX0 yX0_settingValue wsX0_settingValue) := goodIn_app (goodIn_of _ (by decide +kernel)) ggX4_setting_X0_settingValue
theorem dX4_setting_0 : decode cX4_setting 0 = .ok (.iload_n 1, 1) := by decide +kernel
theorem dX4_setting_1 : decode cX4_setting 1 = .ok (.invokestatic 130, 3) := by decide +kernel
theorem dX4_setting_4 : decode cX4_setting 4 = .ok (.ifCond .ne 13, 3) := by decide +kernel
theorem dX4_setting_7 : decode cX4_setting 7 = .ok (.new 88, 3) := by decide +kernel
theorem dX4_setting_10 : decode cX4_setting 10 = .ok (.dup, 1) := by decide +kernel
theorem dX4_setting_11 : decode cX4_setting 11 = .ok (.ldc 133, 2) := by decide +kernel
theorem dX4_setting_13 : decode cX4_setting 13 = .ok (.invokespecial 92, 3) := by decide +kernel
theorem dX4_setting_16 : decode cX4_setting 16 = .ok (.athrow, 1) := by decide +kernel
theorem dX4_setting_17 : decode cX4_setting 17 = .ok (.aload_n 0, 1) := by decide +kernel
theorem dX4_setting_18 : decode cX4_setting 18 = .ok (.getfield 10, 3) := by decide +kernel
theorem dX4_setting_21 : decode cX4_setting 21 = .ok (.iload_n 1, 1) := by decide +kernel
theorem dX4_setting_22 : decode cX4_setting 22 = .ok (.invokevirtual 212, 3) := by decide +kernel
theorem dX4_setting_25 : decode cX4_setting 25 = .ok (.ireturn, 1) := by decide +kernel
set_option maxRecDepth 20000 in
theorem ggX4_ifRun_X4_isWithin : GoodIn wsX4_ifRun wsX4_isWithin := goodIn_r _ [6] (by decide +kernel) (by decide +kernel)
set_option maxRecDepth 20000 in
theorem gX4_ifRun_X4_isWithin : GoodIn wsX4_ifRun (va_wsS RX4 54 yX4_isWithin wsX4_isWithin) := goodIn_app (goodIn_of _ (by decide +kernel)) ggX4_ifRun_X4_isWithin
set_option maxRecDepth 20000 in
theorem ggX4_ifRun_X4_tryOut : GoodIn wsX4_ifRun wsX4_tryOut := goodIn_r _ [10, 11, 12, 13, 14, 15, 16, 17, 18, 19, 20, 21, 22, 23, 24, 25, 26, 27, 28, 29, 30, 31, 32, 33, 34, 35, 36, 37, 38, 39, 40, 41, 42, 43, 44, 45, 46, 47, 48, 49, 50, 51, 52, 53, 54, 55, 56, 57, 58, 59, 60, 61, 62, 63, 64, 65, 66, 67, 68, 69, 70, 71, 72, 73, 74, 75, 76, 77, 78, 79, 80, 81, 82, 122, 123, 124, 125, 126, 127, 128, 129, 130, 131, 132, 133, 134, 135, 136, 137, 138, 139, 140, 141, 142, 143] (by decide +kernel) (by decide +kernel)
set_option maxRecDepth 20000 in
theorem gX4_ifRun_X4_tryOut : GoodIn wsX4_ifRun (wsV RX4 217 RX4 yX4_tryOut wsX4_tryOut) := goodIn_app (goodIn_of _ (by decide +kernel)) ggX4_ifRun_X4_tryOut
set_option maxRecDepth 20000 in
theorem ggX4_ifRun_X4_outcome : GoodIn wsX4_ifRun wsX4_outcome := goodIn_r _ [86, 11, 12, 87, 88, 89, 16, 90, 30, 91, 92, 93, 94, 56, 57, 58, 59, 19, 52, 53, 54, 55, 23, 21, 20, 60, 61, 62, 63, 64, 65, 66, 67, 68, 69, 95, 96, 97, 98, 48, 49, 50, 51, 99, 100, 101, 102, 103, 104, 105, 106, 107, 108, 109, 110, 111, 112, 113, 114, 115, 116, 74, 75, 76, 77, 117, 118, 119, 120, 121, 31, 122, 123, 124, 125, 126, 127, 128, 129, 130, 131, 132, 133, 134, 135, 136, 137, 138, 139, 140, 141, 142, 143] (by decide +kernel) (by decide +kernel)
set_option maxRecDepth 20000 in
theorem gX4_ifRun_X4_outcome : GoodIn wsX4_ifRun (wsV RX4 221 RX4 yX4_outcome wsX4_outcome) := goodIn_app (goodIn_of _ (by decide +kernel)) ggX4_ifRun_X4_outcome
theorem dX4_ifRun_0 : decode cX4_ifRun 0 = .ok (.iload_n 1, 1) := by decide +kernel
theorem dX4_ifRun_1 : decode cX4_ifRun 1 = .ok (.iconst 1, 1) := by decide +kernel
theorem dX4_ifRun_2 : decode cX4_ifRun 2 = .ok (.sipush 500, 3) := by decide +kernel
theorem dX4_ifRun_5 : decode cX4_ifRun 5 = .ok (.invokestatic 54, 3) := by decide +kernel
theorem dX4_ifRun_8 : decode cX4_ifRun 8 = .ok (.ifCond .eq 22, 3) := by decide +kernel
theorem dX4_ifRun_11 : decode cX4_ifRun 11 = .ok (.iload_n 2, 1) := by decide +kernel
theorem dX4_ifRun_12 : decode cX4_ifRun 12 = .ok (.iconst 0, 1) := by decide +kernel
theorem dX4_ifRun_13 : decode cX4_ifRun 13 = .ok (.bipush 99, 2) := by decide +kernel
theorem dX4_ifRun_15 : decode cX4_ifRun 15 = .ok (.invokestatic 54, 3) := by decide +kernel
theorem dX4_ifRun_18 : decode cX4_ifRun 18 = .ok (.ifCond .eq 12, 3) := by decide +kernel
theorem dX4_ifRun_21 : decode cX4_ifRun 21 = .ok (.iload_n 3, 1) := by decide +kernel
theorem dX4_ifRun_22 : decode cX4_ifRun 22 = .ok (.iconst 0, 1) := by decide +kernel
theorem dX4_ifRun_23 : decode cX4_ifRun 23 = .ok (.iconst 4, 1) := by decide +kernel
theorem dX4_ifRun_24 : decode cX4_ifRun 24 = .ok (.invokestatic 54, 3) := by decide +kernel
theorem dX4_ifRun_27 : decode cX4_ifRun 27 = .ok (.ifCond .ne 13, 3) := by decide +kernel
theorem dX4_ifRun_30 : decode cX4_ifRun 30 = .ok (.new 61, 3) := by decide +kernel
theorem dX4_ifRun_33 : decode cX4_ifRun 33 = .ok (.dup, 1) := by decide +kernel
theorem dX4_ifRun_34 : decode cX4_ifRun 34 = .ok (.ldc 215, 2) := by decide +kernel
theorem dX4_ifRun_36 : decode cX4_ifRun 36 = .ok (.invokespecial 65, 3) := by decide +kernel
theorem dX4_ifRun_39 : decode cX4_ifRun 39 = .ok (.athrow, 1) := by decide +kernel
theorem dX4_ifRun_40 : decode cX4_ifRun 40 = .ok (.aload_n 0, 1) := by decide +kernel
theorem dX4_ifRun_41 : decode cX4_ifRun 41 = .ok (.iload_n 1, 1) := by decide +kernel
theorem dX4_ifRun_42 : decode cX4_ifRun 42 = .ok (.iload_n 2, 1) := by decide +kernel
theorem dX4_ifRun_43 : decode cX4_ifRun 43 = .ok (.invokevirtual 217, 3) := by decide +kernel
theorem dX4_ifRun_46 : decode cX4_ifRun 46 = .ok (.aload_n 0, 1) := by decide +kernel
theorem dX4_ifRun_47 : decode cX4_ifRun 47 = .ok (.iload_n 3, 1) := by decide +kernel
theorem dX4_ifRun_48 : decode cX4_ifRun 48 = .ok (.invokevirtual 221, 3) := by decide +kernel
theorem dX4_ifRun_51 : decode cX4_ifRun 51 = .ok (.ireturn, 1) := by decide +kernel
set_option maxRecDepth 20000 in
theorem ggX4_untilStep_X0_copyFrom : GoodIn wsX4_untilStep wsX0_copyFrom := goodIn_r _ [7, 8, 9, 10, 11, 12, 13, 14, 15, 16, 17, 18, 19, 20, 21, 95, 96, 97, 98, 99, 100, 101, 102, 103, 104, 105, 106, 107, 108] (by decide +kernel) (by decide +kernel)
set_option maxRecDepth 20000 in
theorem gX4_untilStep_X0_copyFrom : GoodIn wsX4_untilStep (wsV RX4 182 RX0 yX0_copyFrom wsX0_copyFrom) := goodIn_app (goodIn_of _ (by decide +kernel)) ggX4_untilStep_X0_copyFrom
set_option maxRecDepth 20000 in
theorem ggX4_untilStep_X0_isInStep : GoodIn wsX4_untilStep wsX0_isInStep := goodIn_r _ [25, 18, 26, 27, 28, 6, 29, 30, 31, 32, 33, 13, 11, 10, 34, 35, 36, 37, 38, 39, 40, 41, 42, 43, 44, 45, 9, 46, 47, 48, 49, 50, 51, 52, 53, 54, 55, 95, 96, 97, 98, 99, 100, 101, 102, 103, 104, 105, 106, 107, 108] (by decide +kernel) (by decide +kernel)
set_option maxRecDepth 20000 in
theorem gX4_untilStep_X0_isInStep : GoodIn wsX4_untilStep (wsV RX4 224 RX0 yX0_isInStep wsX0_isInStep) := goodIn_app (goodIn_of _ (by decide +kernel)) ggX4_untilStep_X0_isInStep
set_option maxRecDepth 20000 in
theorem ggX4_untilStep_X0_step : GoodIn wsX4_untilStep wsX0_step := goodIn_r _ [59, 19, 20, 21, 60, 61, 62, 6, 63, 14, 16, 15, 26, 27, 28, 29, 30, 31, 32, 33, 13, 11, 10, 64, 65, 66, 67, 9, 68, 69, 70, 71, 72, 73, 74, 75, 76, 77, 78, 79, 80, 81, 8, 12, 52, 53, 54, 55, 82, 83, 84, 85, 17, 86, 95, 96, 97, 98, 99, 100, 101, 102, 103, 104, 105, 106, 107, 108] (by decide +kernel) (by decide +kernel)
set_option maxRecDepth 20000 in
theorem gX4_untilStep_X0_step : GoodIn wsX4_untilStep (wsV RX4 227 RX0 yX0_step wsX0_step) := goodIn_app (goodIn_of _ (by decide +kernel)) ggX4_untilStep_X0_step
theorem dX4_untilStep_0 : decode cX4_untilStep 0 = .ok (.aload_n 0, 1) := by decide +kernel
theorem dX4_untilStep_1 : decode cX4_untilStep 1 = .ok (.getfield 16, 3) := by decide +kernel
theorem dX4_untilStep_4 : decode cX4_untilStep 4 = .ok (.aload_n 0, 1) := by decide +kernel
theorem dX4_untilStep_5 : decode cX4_untilStep 5 = .ok (.getfield 10, 3) := by decide +kernel
theorem dX4_untilStep_8 : decode cX4_untilStep 8 = .ok (.invokevirtual 182, 3) := by decide +kernel
theorem dX4_untilStep_11 : decode cX4_untilStep 11 = .ok (.iconst 0, 1) := by decide +kernel
theorem dX4_untilStep_12 : decode cX4_untilStep 12 = .ok (.istore_n 1, 1) := by decide +kernel
theorem dX4_untilStep_13 : decode cX4_untilStep 13 = .ok (.iload_n 1, 1) := by decide +kernel
theorem dX4_untilStep_14 : decode cX4_untilStep 14 = .ok (.sipush 500, 3) := by decide +kernel
theorem dX4_untilStep_17 : decode cX4_untilStep 17 = .ok (.if_icmp .gt 28, 3) := by decide +kernel
theorem dX4_untilStep_20 : decode cX4_untilStep 20 = .ok (.aload_n 0, 1) := by decide +kernel
theorem dX4_untilStep_21 : decode cX4_untilStep 21 = .ok (.getfield 16, 3) := by decide +kernel
theorem dX4_untilStep_24 : decode cX4_untilStep 24 = .ok (.invokevirtual 224, 3) := by decide +kernel
theorem dX4_untilStep_27 : decode cX4_untilStep 27 = .ok (.ifCond .eq 5, 3) := by decide +kernel
theorem dX4_untilStep_30 : decode cX4_untilStep 30 = .ok (.iload_n 1, 1) := by decide +kernel
theorem dX4_untilStep_31 : decode cX4_untilStep 31 = .ok (.ireturn, 1) := by decide +kernel
theorem dX4_untilStep_32 : decode cX4_untilStep 32 = .ok (.aload_n 0, 1) := by decide +kernel
theorem dX4_untilStep_33 : decode cX4_untilStep 33 = .ok (.getfield 16, 3) := by decide +kernel
theorem dX4_untilStep_36 : decode cX4_untilStep 36 = .ok (.invokevirtual 227, 3) := by decide +kernel
theorem dX4_untilStep_39 : decode cX4_untilStep 39 = .ok (.iinc 1 1, 3) := by decide +kernel
theorem dX4_untilStep_42 : decode cX4_untilStep 42 = .ok (.goto (-29), 3) := by decide +kernel
theorem dX4_untilStep_45 : decode cX4_untilStep 45 = .ok (.iconst (-1), 1) := by decide +kernel
theorem dX4_untilStep_46 : decode cX4_untilStep 46 = .ok (.ireturn, 1) := by decide +kernel
set_option maxRecDepth 20000 in
theorem ggX4_bestStrength_X4_isWithin : GoodIn wsX4_bestStrength wsX4_isWithin := goodIn_r _ [6] (by decide +kernel) (by decide +kernel)
set_option maxRecDepth 20000 in
theorem gX4_bestStrength_X4_isWithin : GoodIn wsX4_bestStrength (va_wsS RX4 54 yX4_isWithin wsX4_isWithin) := goodIn_app (goodIn_of _ (by decide +kernel)) ggX4_bestStrength_X4_isWithin
set_option maxRecDepth 20000 in
theorem ggX4_bestStrength_X4_strengthOfGreatestOrder : GoodIn wsX4_bestStrength wsX4_strengthOfGreatestOrder := goodIn_r _ [10, 11, 12, 13, 14, 5, 15, 16, 17, 18, 19, 20, 21, 22, 23, 24, 25, 26, 27, 28, 29, 30, 31, 32, 33, 34, 35, 36, 37, 38, 39, 40, 41, 42, 43, 44, 45, 46, 47, 48, 49, 50, 51, 52, 53, 54, 55, 56, 57, 58, 59, 60, 61, 62, 63, 64, 65, 66, 67, 68, 69, 70, 71, 72, 73, 74, 75, 76, 77, 78, 79, 80, 81, 82, 83, 84, 85, 86, 87, 88, 89, 90, 91, 92, 93, 94, 95, 96, 97, 98, 99, 100, 101, 102, 103, 104, 105, 106, 107, 108, 109, 110, 111, 112, 113, 114, 115, 116] (by decide +kernel) (by decide +kernel)
set_option maxRecDepth 20000 in
theorem gX4_bestStrength_X4_strengthOfGreatestOrder : GoodIn wsX4_bestStrength (wsV RX4 230 RX4 yX4_strengthOfGreatestOrder wsX4_strengthOfGreatestOrder) := goodIn_app (goodIn_of _ (by decide +kernel)) ggX4_bestStrength_X4_strengthOfGreatestOrder
theorem dX4_bestStrength_0 : decode cX4_bestStrength 0 = .ok (.iload_n 1, 1) := by decide +kernel
theorem dX4_bestStrength_1 : decode cX4_bestStrength 1 = .ok (.iconst 1, 1) := by decide +kernel
theorem dX4_bestStrength_2 : decode cX4_bestStrength 2 = .ok (.sipush 300, 3) := by decide +kernel
theorem dX4_bestStrength_5 : decode cX4_bestStrength 5 = .ok (.invokestatic 54, 3) := by decide +kernel
theorem dX4_bestStrength_8 : decode cX4_bestStrength 8 = .ok (.ifCond .ne 13, 3) := by decide +kernel
theorem dX4_bestStrength_11 : decode cX4_bestStrength 11 = .ok (.new 61, 3) := by decide +kernel
theorem dX4_bestStrength_14 : decode cX4_bestStrength 14 = .ok (.dup, 1) := by decide +kernel
theorem dX4_bestStrength_15 : decode cX4_bestStrength 15 = .ok (.ldc 117, 2) := by decide +kernel
theorem dX4_bestStrength_17 : decode cX4_bestStrength 17 = .ok (.invokespecial 65, 3) := by decide +kernel
theorem dX4_bestStrength_20 : decode cX4_bestStrength 20 = .ok (.athrow, 1) := by decide +kernel
theorem dX4_bestStrength_21 : decode cX4_bestStrength 21 = .ok (.aload_n 0, 1) := by decide +kernel
theorem dX4_bestStrength_22 : decode cX4_bestStrength 22 = .ok (.iload_n 1, 1) := by decide +kernel
theorem dX4_bestStrength_23 : decode cX4_bestStrength 23 = .ok (.invokevirtual 230, 3) := by decide +kernel
theorem dX4_bestStrength_26 : decode cX4_bestStrength 26 = .ok (.ireturn, 1) := by decide +kernel
set_option maxRecDepth 20000 in
theorem ggX4_stopsIn_X0_has : GoodIn wsX4_stopsIn wsX0_has := goodIn_r _ [8, 9, 82, 83, 84, 85, 86, 87, 88, 89, 90, 91, 92, 93, 94, 95] (by decide +kernel) (by decide +kernel)
set_option maxRecDepth 20000 in
theorem gX4_stopsIn_X0_has : GoodIn wsX4_stopsIn (wsV RX4 85 RX0 yX0_has wsX0_has) := goodIn_app (goodIn_of _ (by decide +kernel)) ggX4_stopsIn_X0_has
set_option maxRecDepth 20000 in
theorem ggX4_stopsIn_X4_stepsUntilStopped : GoodIn wsX4_stopsIn wsX4_stepsUntilStopped := goodIn_r _ [14, 15, 3, 16, 17, 18, 7, 19, 20, 21, 22, 23, 24, 9, 25, 26, 27, 28, 29, 30, 31, 32, 33, 34, 35, 36, 37, 38, 39, 40, 41, 42, 43, 44, 45, 46, 47, 48, 49, 50, 51, 52, 53, 54, 55, 56, 57, 58, 59, 60, 61, 62, 63, 64, 65, 66, 67, 68, 5, 6, 8, 69, 70, 71, 72, 73, 74, 75, 76, 77, 78, 79, 80, 81, 82, 83, 84, 85, 86, 87, 88, 89, 90, 91, 92, 93, 94, 95] (by decide +kernel) (by decide +kernel)
set_option maxRecDepth 20000 in
theorem gX4_stopsIn_X4_stepsUntilStopped : GoodIn wsX4_stopsIn (wsV RX4 233 RX4 yX4_stepsUntilStopped wsX4_stepsUntilStopped) := goodIn_app (goodIn_of _ (by decide +kernel)) ggX4_stopsIn_X4_stepsUntilStopped
theorem dX4_stopsIn_0 : decode cX4_stopsIn 0 = .ok (.aload_n 0, 1) := by decide +kernel
theorem dX4_stopsIn_1 : decode cX4_stopsIn 1 = .ok (.getfield 10, 3) := by decide +kernel
theorem dX4_stopsIn_4 : decode cX4_stopsIn 4 = .ok (.iload_n 1, 1) := by decide +kernel
theorem dX4_stopsIn_5 : decode cX4_stopsIn 5 = .ok (.invokevirtual 85, 3) := by decide +kernel
theorem dX4_stopsIn_8 : decode cX4_stopsIn 8 = .ok (.ifCond .ne 13, 3) := by decide +kernel
theorem dX4_stopsIn_11 : decode cX4_stopsIn 11 = .ok (.new 88, 3) := by decide +kernel
theorem dX4_stopsIn_14 : decode cX4_stopsIn 14 = .ok (.dup, 1) := by decide +kernel
theorem dX4_stopsIn_15 : decode cX4_stopsIn 15 = .ok (.ldc 90, 2) := by decide +kernel
theorem dX4_stopsIn_17 : decode cX4_stopsIn 17 = .ok (.invokespecial 92, 3) := by decide +kernel
theorem dX4_stopsIn_20 : decode cX4_stopsIn 20 = .ok (.athrow, 1) := by decide +kernel
theorem dX4_stopsIn_21 : decode cX4_stopsIn 21 = .ok (.aload_n 0, 1) := by decide +kernel
theorem dX4_stopsIn_22 : decode cX4_stopsIn 22 = .ok (.iload_n 1, 1) := by decide +kernel
theorem dX4_stopsIn_23 : decode cX4_stopsIn 23 = .ok (.invokevirtual 233, 3) := by decide +kernel
theorem dX4_stopsIn_26 : decode cX4_stopsIn 26 = .ok (.ireturn, 1) := by decide +kernel
set_option maxRecDepth 20000 in
theorem ggX4_farthest_X0_farthestOfGoing : GoodIn wsX4_farthest wsX0_farthestOfGoing := goodIn_r _ [6, 7, 8, 9, 5, 10, 11, 12, 13, 14, 15, 16, 17, 18, 19, 20, 21, 22, 23, 24, 25, 26, 27, 28, 29, 38, 39, 40, 41, 42, 43, 44, 45, 46, 47, 48, 49, 50, 51] (by decide +kernel) (by decide +kernel)
set_option maxRecDepth 20000 in
theorem gX4_farthest_X0_farthestOfGoing : GoodIn wsX4_farthest (wsV RX4 236 RX0 yX0_farthestOfGoing wsX0_farthestOfGoing) := goodIn_app (goodIn_of _ (by decide +kernel)) ggX4_farthest_X0_farthestOfGoing
theorem dX4_farthest_0 : decode cX4_farthest 0 = .ok (.aload_n 0, 1) := by decide +kernel
theorem dX4_farthest_1 : decode cX4_farthest 1 = .ok (.getfield 10, 3) := by decide +kernel
theorem dX4_farthest_4 : decode cX4_farthest 4 = .ok (.iload_n 1, 1) := by decide +kernel
theorem dX4_farthest_5 : decode cX4_farthest 5 = .ok (.invokevirtual 236, 3) := by decide +kernel
theorem dX4_farthest_8 : decode cX4_farthest 8 = .ok (.ireturn, 1) := by decide +kernel
set_option maxRecDepth 20000 in
theorem ggX4_togetherShare_X0_shareTogether : GoodIn wsX4_togetherShare wsX0_shareTogether := goodIn_r _ [6, 7, 8, 17, 18, 19, 20, 21, 22, 23, 24, 25, 26, 27, 28, 29, 30] (by decide +kernel) (by decide +kernel)
set_option maxRecDepth 20000 in
theorem gX4_togetherShare_X0_shareTogether : GoodIn wsX4_togetherShare (wsV RX4 240 RX0 yX0_shareTogether wsX0_shareTogether) := goodIn_app (goodIn_of _ (by decide +kernel)) ggX4_togetherShare_X0_shareTogether
theorem dX4_togetherShare_0 : decode cX4_togetherShare 0 = .ok (.aload_n 0, 1) := by decide +kernel
theorem dX4_togetherShare_1 : decode cX4_togetherShare 1 = .ok (.getfield 10, 3) := by decide +kernel
theorem dX4_togetherShare_4 : decode cX4_togetherShare 4 = .ok (.invokevirtual 240, 3) := by decide +kernel
theorem dX4_togetherShare_7 : decode cX4_togetherShare 7 = .ok (.dreturn, 1) := by decide +kernel
set_option maxRecDepth 20000 in
theorem ggX4_digest_X4_figure : GoodIn wsX4_digest wsX4_figure := goodIn_r _ [8, 9, 3, 10, 11, 12, 13, 14, 15, 16, 17, 18, 19, 20, 21, 22, 23, 24, 25, 26, 27, 28, 29, 30, 31, 32, 33, 34, 35, 36, 37, 38, 39, 40, 41, 42, 43, 44, 45, 46, 47, 48, 49, 50, 51, 52, 53, 54, 55, 56, 57, 58, 59, 60, 61, 62, 63, 64, 65, 66, 67, 68, 69, 70, 71, 72, 73, 74, 75, 76, 77, 78, 79, 80, 81, 82, 83, 84, 85, 86, 87, 88, 89, 90, 207, 208, 209, 210, 211, 212, 213, 214, 215, 216, 217, 218, 219, 220, 221, 222, 223, 224, 225, 226, 227, 228, 229, 230] (by decide +kernel) (by decide +kernel)
set_option maxRecDepth 20000 in
theorem gX4_digest_X4_figure : GoodIn wsX4_digest (wsV RX4 209 RX4 yX4_figure wsX4_figure) := goodIn_app (goodIn_of _ (by decide +kernel)) ggX4_digest_X4_figure
set_option maxRecDepth 20000 in
theorem ggX4_digest_X0_settingValue : GoodIn wsX4_digest wsX0_settingValue := goodIn_r _ [94, 95, 96, 68, 217, 218, 219, 220, 221, 222, 223, 224, 225, 226, 227, 228, 229, 230] (by decide +kernel) (by decide +kernel)
set_option maxRecDepth 20000 in
theorem gX4_digest_X0_settingValue : GoodIn wsX4_digest (wsV RX4 212 RX0 yX0_settingValue wsX0_settingValue) := goodIn_app (goodIn_of _ (by decide +kernel)) ggX4_digest_X0_settingValue
set_option maxRecDepth 20000 in
theorem ggX4_digest_X4_withArms : GoodIn wsX4_digest wsX4_withArms := goodIn_r _ [100, 3, 2, 101, 102, 103, 19, 104, 21, 105, 106, 107, 108, 109, 45, 36, 35, 110, 87, 88, 89, 90, 31, 32, 33, 34, 46, 47, 48, 53, 54, 55, 111, 112, 113, 114, 96, 24, 25, 115, 116, 117, 118, 7, 119, 120, 121, 122, 123, 124, 95, 68, 22, 23, 26, 125, 126, 127, 128, 129, 130, 131, 132, 133, 27, 28, 29, 30, 41, 42, 43, 44, 49, 50, 51, 52, 134, 135, 136, 137, 207, 208, 209, 210, 211, 212, 213, 214, 217, 218, 219, 220, 221, 222, 223, 224, 225, 226, 227, 228, 229, 230] (by decide +kernel) (by decide +kernel)
set_option maxRecDepth 20000 in
theorem gX4_digest_X4_withArms : GoodIn wsX4_digest (wsV RX4 248 RX4 yX4_withArms wsX4_withArms) := goodIn_app (goodIn_of _ (by decide +kernel)) ggX4_digest_X4_withArms
set_option maxRecDepth 20000 in
theorem ggX4_digest_X4_withDistances : GoodIn wsX4_digest wsX4_withDistances := goodIn_r _ [141, 3, 2, 101, 102, 103, 19, 104, 21, 142, 78, 79, 80, 45, 81, 82, 75, 83, 84, 85, 86, 87, 88, 89, 90, 207, 208, 209, 210, 211, 212, 213, 214, 217, 218, 219, 220, 221, 222, 223, 224, 225, 226, 227, 228, 229, 230] (by decide +kernel) (by decide +kernel)
set_option maxRecDepth 20000 in
theorem gX4_digest_X4_withDistances : GoodIn wsX4_digest (wsV RX4 252 RX4 yX4_withDistances wsX4_withDistances) := goodIn_app (goodIn_of _ (by decide +kernel)) ggX4_digest_X4_withDistances
set_option maxRecDepth 20000 in
theorem ggX4_digest_X4_tryOut : GoodIn wsX4_digest wsX4_tryOut := goodIn_r _ [146, 120, 3, 121, 122, 123, 19, 124, 109, 45, 36, 35, 110, 21, 24, 25, 95, 96, 68, 22, 23, 26, 147, 148, 149, 150, 151, 92, 93, 94, 126, 127, 128, 129, 130, 131, 132, 133, 27, 28, 29, 30, 31, 32, 33, 34, 41, 42, 43, 44, 46, 47, 48, 49, 50, 51, 52, 53, 54, 55, 134, 135, 136, 137, 87, 88, 89, 90, 111, 112, 113, 114, 115, 207, 208, 209, 210, 211, 212, 213, 214, 217, 218, 219, 220, 221, 222, 223, 224, 225, 226, 227, 228, 229, 230] (by decide +kernel) (by decide +kernel)
set_option maxRecDepth 20000 in
theorem gX4_digest_X4_tryOut : GoodIn wsX4_digest (wsV RX4 217 RX4 yX4_tryOut wsX4_tryOut) := goodIn_app (goodIn_of _ (by decide +kernel)) ggX4_digest_X4_tryOut
set_option maxRecDepth 20000 in
theorem ggX4_digest_X4_outcome : GoodIn wsX4_digest wsX4_outcome := goodIn_r _ [155, 120, 3, 156, 157, 158, 19, 159, 23, 160, 38, 39, 40, 41, 42, 43, 44, 45, 31, 32, 33, 34, 21, 35, 36, 46, 47, 48, 49, 50, 51, 52, 53, 54, 55, 56, 57, 58, 59, 27, 28, 29, 30, 161, 70, 71, 72, 73, 74, 75, 76, 77, 78, 79, 80, 81, 82, 83, 84, 85, 86, 87, 88, 89, 90, 162, 163, 164, 165, 166, 26, 207, 208, 209, 210, 211, 212, 213, 214, 217, 218, 219, 220, 221, 222, 223, 224, 225, 226, 227, 228, 229, 230] (by decide +kernel) (by decide +kernel)
set_option maxRecDepth 20000 in
theorem gX4_digest_X4_outcome : GoodIn wsX4_digest (wsV RX4 221 RX4 yX4_outcome wsX4_outcome) := goodIn_app (goodIn_of _ (by decide +kernel)) ggX4_digest_X4_outcome
set_option maxRecDepth 20000 in
theorem ggX4_digest_X4_untilStep : GoodIn wsX4_digest wsX4_untilStep := goodIn_r _ [170, 120, 3, 121, 122, 123, 19, 124, 109, 45, 36, 35, 110, 21, 24, 25, 95, 96, 68, 22, 23, 26, 171, 65, 66, 67, 27, 28, 29, 30, 31, 32, 33, 34, 69, 70, 71, 72, 73, 74, 75, 76, 77, 78, 79, 80, 81, 82, 83, 84, 85, 86, 87, 88, 89, 90, 126, 127, 128, 129, 130, 131, 132, 133, 41, 42, 43, 44, 46, 47, 48, 49, 50, 51, 52, 53, 54, 55, 134, 135, 136, 137, 111, 112, 113, 114, 115, 207, 208, 209, 210, 211, 212, 213, 214, 217, 218, 219, 220, 221, 222, 223, 224, 225, 226, 227, 228, 229, 230] (by decide +kernel) (by decide +kernel)
set_option maxRecDepth 20000 in
theorem gX4_digest_X4_untilStep : GoodIn wsX4_digest (wsV RX4 255 RX4 yX4_untilStep wsX4_untilStep) := goodIn_app (goodIn_of _ (by decide +kernel)) ggX4_digest_X4_untilStep
set_option maxRecDepth 20000 in
theorem ggX4_digest_X4_strengthOfGreatestOrder : GoodIn wsX4_digest wsX4_strengthOfGreatestOrder := goodIn_r _ [175, 120, 143, 144, 145, 7, 146, 3, 121, 122, 123, 19, 124, 109, 45, 36, 35, 110, 21, 24, 25, 95, 96, 68, 22, 23, 26, 147, 148, 149, 150, 151, 92, 93, 94, 126, 127, 128, 129, 130, 131, 132, 133, 27, 28, 29, 30, 31, 32, 33, 34, 41, 42, 43, 44, 46, 47, 48, 49, 50, 51, 52, 53, 54, 55, 134, 135, 136, 137, 87, 88, 89, 90, 111, 112, 113, 114, 115, 160, 38, 39, 40, 56, 57, 58, 59, 207, 208, 209, 210, 211, 212, 213, 214, 217, 218, 219, 220, 221, 222, 223, 224, 225, 226, 227, 228, 229, 230] (by decide +kernel) (by decide +kernel)
set_option maxRecDepth 20000 in
theorem gX4_digest_X4_strengthOfGreatestOrder : GoodIn wsX4_digest (wsV RX4 230 RX4 yX4_strengthOfGreatestOrder wsX4_strengthOfGreatestOrder) := goodIn_app (goodIn_of _ (by decide +kernel)) ggX4_digest_X4_strengthOfGreatestOrder
set_option maxRecDepth 20000 in
theorem ggX4_digest_X0_farthestOfGoing : GoodIn wsX4_digest wsX0_farthestOfGoing := goodIn_r _ [179, 31, 32, 33, 19, 34, 21, 35, 36, 77, 78, 79, 80, 45, 81, 82, 75, 83, 84, 85, 86, 87, 88, 89, 90, 217, 218, 219, 220, 221, 222, 223, 224, 225, 226, 227, 228, 229, 230] (by decide +kernel) (by decide +kernel)
set_option maxRecDepth 20000 in
theorem gX4_digest_X0_farthestOfGoing : GoodIn wsX4_digest (wsV RX4 236 RX0 yX0_farthestOfGoing wsX0_farthestOfGoing) := goodIn_app (goodIn_of _ (by decide +kernel)) ggX4_digest_X0_farthestOfGoing
set_option maxRecDepth 20000 in
theorem ggX4_digest_X0_shareTogether : GoodIn wsX4_digest wsX0_shareTogether := goodIn_r _ [183, 22, 26, 217, 218, 219, 220, 221, 222, 223, 224, 225, 226, 227, 228, 229, 230] (by decide +kernel) (by decide +kernel)
set_option maxRecDepth 20000 in
theorem gX4_digest_X0_shareTogether : GoodIn wsX4_digest (wsV RX4 240 RX0 yX0_shareTogether wsX0_shareTogether) := goodIn_app (goodIn_of _ (by decide +kernel)) ggX4_digest_X0_shareTogether
set_option maxRecDepth 20000 in
theorem ggX4_digest_X4_bitsOfShare : GoodIn wsX4_digest wsX4_bitsOfShare := goodIn_r _ [186, 187, 188, 189] (by decide +kernel) (by decide +kernel)
set_option maxRecDepth 20000 in
theorem gX4_digest_X4_bitsOfShare : GoodIn wsX4_digest (va_wsS RX4 258 yX4_bitsOfShare wsX4_bitsOfShare) := goodIn_app (goodIn_of _ (by decide +kernel)) ggX4_digest_X4_bitsOfShare
set_option maxRecDepth 20000 in
theorem ggX4_digest_X4_withSlotsAndText : GoodIn wsX4_digest wsX4_withSlotsAndText := goodIn_r _ [193, 2, 194, 195, 196, 197, 198, 199, 200, 201, 202, 203, 204, 205, 206, 207, 208, 209, 210, 211, 212, 213, 214, 231, 232] (by decide +kernel) (by decide +kernel)
set_option maxRecDepth 20000 in
theorem gX4_digest_X4_withSlotsAndText : GoodIn wsX4_digest (wsV RX4 262 RX4 yX4_withSlotsAndText wsX4_withSlotsAndText) := goodIn_app (goodIn_of _ (by decide +kernel)) ggX4_digest_X4_withSlotsAndText
theorem dX4_digest_0 : decode cX4_digest 0 = .ok (.ldc2_w 244, 3) := by decide +kernel
theorem dX4_digest_3 : decode cX4_digest 3 = .ok (.lstore_n 1, 1) := by decide +kernel
theorem dX4_digest_4 : decode cX4_digest 4 = .ok (.iconst 0, 1) := by decide +kernel
theorem dX4_digest_5 : decode cX4_digest 5 = .ok (.istore_n 3, 1) := by decide +kernel
theorem dX4_digest_6 : decode cX4_digest 6 = .ok (.iload_n 3, 1) := by decide +kernel
theorem dX4_digest_7 : decode cX4_digest 7 = .ok (.bipush 12, 2) := by decide +kernel
theorem dX4_digest_9 : decode cX4_digest 9 = .ok (.if_icmp .ge 22, 3) := by decide +kernel
theorem dX4_digest_12 : decode cX4_digest 12 = .ok (.ldc2_w 246, 3) := by decide +kernel
theorem dX4_digest_15 : decode cX4_digest 15 = .ok (.lload_n 1, 1) := by decide +kernel
theorem dX4_digest_16 : decode cX4_digest 16 = .ok (.lmul, 1) := by decide +kernel
theorem dX4_digest_17 : decode cX4_digest 17 = .ok (.aload_n 0, 1) := by decide +kernel
theorem dX4_digest_18 : decode cX4_digest 18 = .ok (.iload_n 3, 1) := by decide +kernel
theorem dX4_digest_19 : decode cX4_digest 19 = .ok (.invokevirtual 209, 3) := by decide +kernel
theorem dX4_digest_22 : decode cX4_digest 22 = .ok (.i2l, 1) := by decide +kernel
theorem dX4_digest_23 : decode cX4_digest 23 = .ok (.ladd, 1) := by decide +kernel
theorem dX4_digest_24 : decode cX4_digest 24 = .ok (.lstore_n 1, 1) := by decide +kernel
theorem dX4_digest_25 : decode cX4_digest 25 = .ok (.iinc 3 1, 3) := by decide +kernel
theorem dX4_digest_28 : decode cX4_digest 28 = .ok (.goto (-22), 3) := by decide +kernel
theorem dX4_digest_31 : decode cX4_digest 31 = .ok (.iconst 0, 1) := by decide +kernel
theorem dX4_digest_32 : decode cX4_digest 32 = .ok (.istore_n 3, 1) := by decide +kernel
theorem dX4_digest_33 : decode cX4_digest 33 = .ok (.iload_n 3, 1) := by decide +kernel
theorem dX4_digest_34 : decode cX4_digest 34 = .ok (.iconst 3, 1) := by decide +kernel
theorem dX4_digest_35 : decode cX4_digest 35 = .ok (.if_icmp .ge 25, 3) := by decide +kernel
theorem dX4_digest_38 : decode cX4_digest 38 = .ok (.ldc2_w 246, 3) := by decide +kernel
theorem dX4_digest_41 : decode cX4_digest 41 = .ok (.lload_n 1, 1) := by decide +kernel
theorem dX4_digest_42 : decode cX4_digest 42 = .ok (.lmul, 1) := by decide +kernel
theorem dX4_digest_43 : decode cX4_digest 43 = .ok (.aload_n 0, 1) := by decide +kernel
theorem dX4_digest_44 : decode cX4_digest 44 = .ok (.getfield 10, 3) := by decide +kernel
theorem dX4_digest_47 : decode cX4_digest 47 = .ok (.iload_n 3, 1) := by decide +kernel
theorem dX4_digest_48 : decode cX4_digest 48 = .ok (.invokevirtual 212, 3) := by decide +kernel
theorem dX4_digest_51 : decode cX4_digest 51 = .ok (.i2l, 1) := by decide +kernel
theorem dX4_digest_52 : decode cX4_digest 52 = .ok (.ladd, 1) := by decide +kernel
theorem dX4_digest_53 : decode cX4_digest 53 = .ok (.lstore_n 1, 1) := by decide +kernel
theorem dX4_digest_54 : decode cX4_digest 54 = .ok (.iinc 3 1, 3) := by decide +kernel
theorem dX4_digest_57 : decode cX4_digest 57 = .ok (.goto (-24), 3) := by decide +kernel
theorem dX4_digest_60 : decode cX4_digest 60 = .ok (.aload_n 0, 1) := by decide +kernel
theorem dX4_digest_61 : decode cX4_digest 61 = .ok (.lload_n 1, 1) := by decide +kernel
theorem dX4_digest_62 : decode cX4_digest 62 = .ok (.invokevirtual 248, 3) := by decide +kernel
theorem dX4_digest_65 : decode cX4_digest 65 = .ok (.lstore_n 1, 1) := by decide +kernel
theorem dX4_digest_66 : decode cX4_digest 66 = .ok (.aload_n 0, 1) := by decide +kernel
theorem dX4_digest_67 : decode cX4_digest 67 = .ok (.lload_n 1, 1) := by decide +kernel
theorem dX4_digest_68 : decode cX4_digest 68 = .ok (.invokevirtual 252, 3) := by decide +kernel
theorem dX4_digest_71 : decode cX4_digest 71 = .ok (.lstore_n 1, 1) := by decide +kernel
theorem dX4_digest_72 : decode cX4_digest 72 = .ok (.aload_n 0, 1) := by decide +kernel
theorem dX4_digest_73 : decode cX4_digest 73 = .ok (.bipush 40, 2) := by decide +kernel
theorem dX4_digest_75 : decode cX4_digest 75 = .ok (.bipush 20, 2) := by decide +kernel
theorem dX4_digest_77 : decode cX4_digest 77 = .ok (.invokevirtual 217, 3) := by decide +kernel
theorem dX4_digest_80 : decode cX4_digest 80 = .ok (.iconst 0, 1) := by decide +kernel
theorem dX4_digest_81 : decode cX4_digest 81 = .ok (.istore_n 3, 1) := by decide +kernel
theorem dX4_digest_82 : decode cX4_digest 82 = .ok (.iload_n 3, 1) := by decide +kernel
theorem dX4_digest_83 : decode cX4_digest 83 = .ok (.iconst 5, 1) := by decide +kernel
theorem dX4_digest_84 : decode cX4_digest 84 = .ok (.if_icmp .ge 22, 3) := by decide +kernel
theorem dX4_digest_87 : decode cX4_digest 87 = .ok (.ldc2_w 246, 3) := by decide +kernel
theorem dX4_digest_90 : decode cX4_digest 90 = .ok (.lload_n 1, 1) := by decide +kernel
theorem dX4_digest_91 : decode cX4_digest 91 = .ok (.lmul, 1) := by decide +kernel
theorem dX4_digest_92 : decode cX4_digest 92 = .ok (.aload_n 0, 1) := by decide +kernel
theorem dX4_digest_93 : decode cX4_digest 93 = .ok (.iload_n 3, 1) := by decide +kernel
theorem dX4_digest_94 : decode cX4_digest 94 = .ok (.invokevirtual 221, 3) := by decide +kernel
theorem dX4_digest_97 : decode cX4_digest 97 = .ok (.i2l, 1) := by decide +kernel
theorem dX4_digest_98 : decode cX4_digest 98 = .ok (.ladd, 1) := by decide +kernel
theorem dX4_digest_99 : decode cX4_digest 99 = .ok (.lstore_n 1, 1) := by decide +kernel
theorem dX4_digest_100 : decode cX4_digest 100 = .ok (.iinc 3 1, 3) := by decide +kernel
theorem dX4_digest_103 : decode cX4_digest 103 = .ok (.goto (-21), 3) := by decide +kernel
theorem dX4_digest_106 : decode cX4_digest 106 = .ok (.ldc2_w 246, 3) := by decide +kernel
theorem dX4_digest_109 : decode cX4_digest 109 = .ok (.lload_n 1, 1) := by decide +kernel
theorem dX4_digest_110 : decode cX4_digest 110 = .ok (.lmul, 1) := by decide +kernel
theorem dX4_digest_111 : decode cX4_digest 111 = .ok (.aload_n 0, 1) := by decide +kernel
theorem dX4_digest_112 : decode cX4_digest 112 = .ok (.invokevirtual 255, 3) := by decide +kernel
theorem dX4_digest_115 : decode cX4_digest 115 = .ok (.i2l, 1) := by decide +kernel
theorem dX4_digest_116 : decode cX4_digest 116 = .ok (.ladd, 1) := by decide +kernel
theorem dX4_digest_117 : decode cX4_digest 117 = .ok (.lstore_n 1, 1) := by decide +kernel
theorem dX4_digest_118 : decode cX4_digest 118 = .ok (.ldc2_w 246, 3) := by decide +kernel
theorem dX4_digest_121 : decode cX4_digest 121 = .ok (.lload_n 1, 1) := by decide +kernel
theorem dX4_digest_122 : decode cX4_digest 122 = .ok (.lmul, 1) := by decide +kernel
theorem dX4_digest_123 : decode cX4_digest 123 = .ok (.aload_n 0, 1) := by decide +kernel
theorem dX4_digest_124 : decode cX4_digest 124 = .ok (.bipush 50, 2) := by decide +kernel
theorem dX4_digest_126 : decode cX4_digest 126 = .ok (.invokevirtual 230, 3) := by decide +kernel
theorem dX4_digest_129 : decode cX4_digest 129 = .ok (.i2l, 1) := by decide +kernel
theorem dX4_digest_130 : decode cX4_digest 130 = .ok (.ladd, 1) := by decide +kernel
theorem dX4_digest_131 : decode cX4_digest 131 = .ok (.lstore_n 1, 1) := by decide +kernel
theorem dX4_digest_132 : decode cX4_digest 132 = .ok (.ldc2_w 246, 3) := by decide +kernel
theorem dX4_digest_135 : decode cX4_digest 135 = .ok (.lload_n 1, 1) := by decide +kernel
theorem dX4_digest_136 : decode cX4_digest 136 = .ok (.lmul, 1) := by decide +kernel
theorem dX4_digest_137 : decode cX4_digest 137 = .ok (.aload_n 0, 1) := by decide +kernel
theorem dX4_digest_138 : decode cX4_digest 138 = .ok (.getfield 10, 3) := by decide +kernel
theorem dX4_digest_141 : decode cX4_digest 141 = .ok (.iconst 0, 1) := by decide +kernel
theorem dX4_digest_142 : decode cX4_digest 142 = .ok (.invokevirtual 236, 3) := by decide +kernel
theorem dX4_digest_145 : decode cX4_digest 145 = .ok (.i2l, 1) := by decide +kernel
theorem dX4_digest_146 : decode cX4_digest 146 = .ok (.ladd, 1) := by decide +kernel
theorem dX4_digest_147 : decode cX4_digest 147 = .ok (.lstore_n 1, 1) := by decide +kernel
theorem dX4_digest_148 : decode cX4_digest 148 = .ok (.ldc2_w 246, 3) := by decide +kernel
theorem dX4_digest_151 : decode cX4_digest 151 = .ok (.lload_n 1, 1) := by decide +kernel
theorem dX4_digest_152 : decode cX4_digest 152 = .ok (.lmul, 1) := by decide +kernel
theorem dX4_digest_153 : decode cX4_digest 153 = .ok (.aload_n 0, 1) := by decide +kernel
theorem dX4_digest_154 : decode cX4_digest 154 = .ok (.getfield 10, 3) := by decide +kernel
theorem dX4_digest_157 : decode cX4_digest 157 = .ok (.iconst 1, 1) := by decide +kernel
theorem dX4_digest_158 : decode cX4_digest 158 = .ok (.invokevirtual 236, 3) := by decide +kernel
theorem dX4_digest_161 : decode cX4_digest 161 = .ok (.i2l, 1) := by decide +kernel
theorem dX4_digest_162 : decode cX4_digest 162 = .ok (.ladd, 1) := by decide +kernel
theorem dX4_digest_163 : decode cX4_digest 163 = .ok (.lstore_n 1, 1) := by decide +kernel
theorem dX4_digest_164 : decode cX4_digest 164 = .ok (.ldc2_w 246, 3) := by decide +kernel
theorem dX4_digest_167 : decode cX4_digest 167 = .ok (.lload_n 1, 1) := by decide +kernel
theorem dX4_digest_168 : decode cX4_digest 168 = .ok (.lmul, 1) := by decide +kernel
theorem dX4_digest_169 : decode cX4_digest 169 = .ok (.aload_n 0, 1) := by decide +kernel
theorem dX4_digest_170 : decode cX4_digest 170 = .ok (.getfield 10, 3) := by decide +kernel
theorem dX4_digest_173 : decode cX4_digest 173 = .ok (.invokevirtual 240, 3) := by decide +kernel
theorem dX4_digest_176 : decode cX4_digest 176 = .ok (.invokestatic 258, 3) := by decide +kernel
theorem dX4_digest_179 : decode cX4_digest 179 = .ok (.ladd, 1) := by decide +kernel
theorem dX4_digest_180 : decode cX4_digest 180 = .ok (.lstore_n 1, 1) := by decide +kernel
theorem dX4_digest_181 : decode cX4_digest 181 = .ok (.aload_n 0, 1) := by decide +kernel
theorem dX4_digest_182 : decode cX4_digest 182 = .ok (.lload_n 1, 1) := by decide +kernel
theorem dX4_digest_183 : decode cX4_digest 183 = .ok (.invokevirtual 262, 3) := by decide +kernel
theorem dX4_digest_186 : decode cX4_digest 186 = .ok (.lreturn, 1) := by decide +kernel
theorem dX4_isWithin_0 : decode cX4_isWithin 0 = .ok (.iload_n 0, 1) := by decide +kernel
theorem dX4_isWithin_1 : decode cX4_isWithin 1 = .ok (.iload_n 1, 1) := by decide +kernel
theorem dX4_isWithin_2 : decode cX4_isWithin 2 = .ok (.if_icmp .lt 12, 3) := by decide +kernel
theorem dX4_isWithin_5 : decode cX4_isWithin 5 = .ok (.iload_n 0, 1) := by decide +kernel
theorem dX4_isWithin_6 : decode cX4_isWithin 6 = .ok (.iload_n 2, 1) := by decide +kernel
theorem dX4_isWithin_7 : decode cX4_isWithin 7 = .ok (.if_icmp .gt 7, 3) := by decide +kernel
theorem dX4_isWithin_10 : decode cX4_isWithin 10 = .ok (.iconst 1, 1) := by decide +kernel
theorem dX4_isWithin_11 : decode cX4_isWithin 11 = .ok (.goto 4, 3) := by decide +kernel
theorem dX4_isWithin_14 : decode cX4_isWithin 14 = .ok (.iconst 0, 1) := by decide +kernel
theorem dX4_isWithin_15 : decode cX4_isWithin 15 = .ok (.ireturn, 1) := by decide +kernel
set_option maxRecDepth 20000 in
theorem ggX4_isBeat_X4_isWithin : GoodIn wsX4_isBeat wsX4_isWithin := goodIn_r _ [4] (by decide +kernel) (by decide +kernel)
set_option maxRecDepth 20000 in
theorem gX4_isBeat_X4_isWithin : GoodIn wsX4_isBeat (va_wsS RX4 54 yX4_isWithin wsX4_isWithin) := goodIn_app (goodIn_of _ (by decide +kernel)) ggX4_isBeat_X4_isWithin
theorem dX4_isBeat_0 : decode cX4_isBeat 0 = .ok (.iload_n 0, 1) := by decide +kernel
theorem dX4_isBeat_1 : decode cX4_isBeat 1 = .ok (.bipush 40, 2) := by decide +kernel
theorem dX4_isBeat_3 : decode cX4_isBeat 3 = .ok (.sipush 208, 3) := by decide +kernel
theorem dX4_isBeat_6 : decode cX4_isBeat 6 = .ok (.invokestatic 54, 3) := by decide +kernel
theorem dX4_isBeat_9 : decode cX4_isBeat 9 = .ok (.ireturn, 1) := by decide +kernel
set_option maxRecDepth 20000 in
theorem ggX4_isSpring_X4_isWithin : GoodIn wsX4_isSpring wsX4_isWithin := goodIn_r _ [4] (by decide +kernel) (by decide +kernel)
set_option maxRecDepth 20000 in
theorem gX4_isSpring_X4_isWithin : GoodIn wsX4_isSpring (va_wsS RX4 54 yX4_isWithin wsX4_isWithin) := goodIn_app (goodIn_of _ (by decide +kernel)) ggX4_isSpring_X4_isWithin
theorem dX4_isSpring_0 : decode cX4_isSpring 0 = .ok (.iload_n 0, 1) := by decide +kernel
theorem dX4_isSpring_1 : decode cX4_isSpring 1 = .ok (.iconst 0, 1) := by decide +kernel
theorem dX4_isSpring_2 : decode cX4_isSpring 2 = .ok (.sipush 999, 3) := by decide +kernel
theorem dX4_isSpring_5 : decode cX4_isSpring 5 = .ok (.invokestatic 54, 3) := by decide +kernel
theorem dX4_isSpring_8 : decode cX4_isSpring 8 = .ok (.ireturn, 1) := by decide +kernel
set_option maxRecDepth 20000 in
theorem ggX4_isSetting_X4_isWithin : GoodIn wsX4_isSetting wsX4_isWithin := goodIn_r _ [4] (by decide +kernel) (by decide +kernel)
set_option maxRecDepth 20000 in
theorem gX4_isSetting_X4_isWithin : GoodIn wsX4_isSetting (va_wsS RX4 54 yX4_isWithin wsX4_isWithin) := goodIn_app (goodIn_of _ (by decide +kernel)) ggX4_isSetting_X4_isWithin
theorem dX4_isSetting_0 : decode cX4_isSetting 0 = .ok (.iload_n 0, 1) := by decide +kernel
theorem dX4_isSetting_1 : decode cX4_isSetting 1 = .ok (.iconst 0, 1) := by decide +kernel
theorem dX4_isSetting_2 : decode cX4_isSetting 2 = .ok (.iconst 2, 1) := by decide +kernel
theorem dX4_isSetting_3 : decode cX4_isSetting 3 = .ok (.invokestatic 54, 3) := by decide +kernel
theorem dX4_isSetting_6 : decode cX4_isSetting 6 = .ok (.ireturn, 1) := by decide +kernel
set_option maxRecDepth 20000 in
theorem ggX4_isSlot_X4_isWithin : GoodIn wsX4_isSlot wsX4_isWithin := goodIn_r _ [4] (by decide +kernel) (by decide +kernel)
set_option maxRecDepth 20000 in
theorem gX4_isSlot_X4_isWithin : GoodIn wsX4_isSlot (va_wsS RX4 54 yX4_isWithin wsX4_isWithin) := goodIn_app (goodIn_of _ (by decide +kernel)) ggX4_isSlot_X4_isWithin
theorem dX4_isSlot_0 : decode cX4_isSlot 0 = .ok (.iload_n 0, 1) := by decide +kernel
theorem dX4_isSlot_1 : decode cX4_isSlot 1 = .ok (.iconst 0, 1) := by decide +kernel
theorem dX4_isSlot_2 : decode cX4_isSlot 2 = .ok (.iconst 1, 1) := by decide +kernel
theorem dX4_isSlot_3 : decode cX4_isSlot 3 = .ok (.invokestatic 54, 3) := by decide +kernel
theorem dX4_isSlot_6 : decode cX4_isSlot 6 = .ok (.ireturn, 1) := by decide +kernel
theorem dX4_highestOf_0 : decode cX4_highestOf 0 = .ok (.iload_n 0, 1) := by decide +kernel
theorem dX4_highestOf_1 : decode cX4_highestOf 1 = .ok (.lookupswitch 33 #[(0, 27), (1, 30)], 27) := by decide +kernel
theorem dX4_highestOf_28 : decode cX4_highestOf 28 = .ok (.bipush 95, 2) := by decide +kernel
theorem dX4_highestOf_30 : decode cX4_highestOf 30 = .ok (.ireturn, 1) := by decide +kernel
theorem dX4_highestOf_31 : decode cX4_highestOf 31 = .ok (.bipush 99, 2) := by decide +kernel
theorem dX4_highestOf_33 : decode cX4_highestOf 33 = .ok (.ireturn, 1) := by decide +kernel
theorem dX4_highestOf_34 : decode cX4_highestOf 34 = .ok (.sipush 900, 3) := by decide +kernel
theorem dX4_highestOf_37 : decode cX4_highestOf 37 = .ok (.ireturn, 1) := by decide +kernel
theorem dX4_slotBench_0 : decode cX4_slotBench 0 = .ok (.iload_n 1, 1) := by decide +kernel
theorem dX4_slotBench_1 : decode cX4_slotBench 1 = .ok (.ifCond .ne 10, 3) := by decide +kernel
theorem dX4_slotBench_4 : decode cX4_slotBench 4 = .ok (.aload_n 0, 1) := by decide +kernel
theorem dX4_slotBench_5 : decode cX4_slotBench 5 = .ok (.getfield 19, 3) := by decide +kernel
theorem dX4_slotBench_8 : decode cX4_slotBench 8 = .ok (.goto 7, 3) := by decide +kernel
theorem dX4_slotBench_11 : decode cX4_slotBench 11 = .ok (.aload_n 0, 1) := by decide +kernel
theorem dX4_slotBench_12 : decode cX4_slotBench 12 = .ok (.getfield 22, 3) := by decide +kernel
theorem dX4_slotBench_15 : decode cX4_slotBench 15 = .ok (.areturn, 1) := by decide +kernel
set_option maxRecDepth 20000 in
theorem ggX4_figure_X2_size : GoodIn wsX4_figure wsX2_size := goodIn_r _ [7, 8, 92, 93] (by decide +kernel) (by decide +kernel)
set_option maxRecDepth 20000 in
theorem gX4_figure_X2_size : GoodIn wsX4_figure (wsV RX4 190 RX2 yX2_size wsX2_size) := goodIn_app (goodIn_of _ (by decide +kernel)) ggX4_figure_X2_size
set_option maxRecDepth 20000 in
theorem ggX4_figure_X0_figureOf : GoodIn wsX4_figure wsX0_figureOf := goodIn_r _ [13, 14, 15, 16, 17, 18, 19, 20, 21, 22, 12, 23, 24, 25, 26, 27, 28, 29, 30, 31, 32, 33, 34, 35, 36, 37, 38, 39, 40, 41, 42, 43, 44, 45, 46, 47, 48, 49, 50, 51, 52, 53, 54, 55, 56, 57, 58, 59, 60, 61, 62, 63, 64, 65, 66, 67, 68, 69, 70, 71, 72, 73, 74, 75, 76, 77, 78, 79, 80, 81, 82, 83, 94, 95, 96, 97, 98, 99, 100, 101, 102, 103, 104, 105, 106, 107] (by decide +kernel) (by decide +kernel)
set_option maxRecDepth 20000 in
theorem gX4_figure_X0_figureOf : GoodIn wsX4_figure (wsV RX4 265 RX0 yX0_figureOf wsX0_figureOf) := goodIn_app (goodIn_of _ (by decide +kernel)) ggX4_figure_X0_figureOf
theorem dX4_figure_0 : decode cX4_figure 0 = .ok (.iload_n 1, 1) := by decide +kernel
theorem dX4_figure_1 : decode cX4_figure 1 = .ok (.bipush 11, 2) := by decide +kernel
theorem dX4_figure_3 : decode cX4_figure 3 = .ok (.if_icmp .ne 13, 3) := by decide +kernel
theorem dX4_figure_6 : decode cX4_figure 6 = .ok (.aload_n 0, 1) := by decide +kernel
theorem dX4_figure_7 : decode cX4_figure 7 = .ok (.getfield 32, 3) := by decide +kernel
theorem dX4_figure_10 : decode cX4_figure 10 = .ok (.invokevirtual 190, 3) := by decide +kernel
theorem dX4_figure_13 : decode cX4_figure 13 = .ok (.goto 11, 3) := by decide +kernel
theorem dX4_figure_16 : decode cX4_figure 16 = .ok (.aload_n 0, 1) := by decide +kernel
theorem dX4_figure_17 : decode cX4_figure 17 = .ok (.getfield 10, 3) := by decide +kernel
theorem dX4_figure_20 : decode cX4_figure 20 = .ok (.iload_n 1, 1) := by decide +kernel
theorem dX4_figure_21 : decode cX4_figure 21 = .ok (.invokevirtual 265, 3) := by decide +kernel
theorem dX4_figure_24 : decode cX4_figure 24 = .ok (.ireturn, 1) := by decide +kernel
set_option maxRecDepth 20000 in
theorem ggX4_readText_X1_beginText : GoodIn wsX4_readText wsX1_beginText := goodIn_r _ [7, 8, 61, 62, 63, 64, 65, 66, 67, 68, 69, 70] (by decide +kernel) (by decide +kernel)
set_option maxRecDepth 20000 in
theorem gX4_readText_X1_beginText : GoodIn wsX4_readText (wsV RX4 161 RX1 yX1_beginText wsX1_beginText) := goodIn_app (goodIn_of _ (by decide +kernel)) ggX4_readText_X1_beginText
set_option maxRecDepth 20000 in
theorem ggX4_readText_X3_size : GoodIn wsX4_readText wsX3_size := goodIn_r _ [13, 14, 71, 72] (by decide +kernel) (by decide +kernel)
set_option maxRecDepth 20000 in
theorem gX4_readText_X3_size : GoodIn wsX4_readText (wsV RX4 164 RX3 yX3_size wsX3_size) := goodIn_app (goodIn_of _ (by decide +kernel)) ggX4_readText_X3_size
set_option maxRecDepth 20000 in
theorem ggX4_readText_X3_signAt : GoodIn wsX4_readText wsX3_signAt := goodIn_r _ [18, 14, 19, 71, 72] (by decide +kernel) (by decide +kernel)
set_option maxRecDepth 20000 in
theorem gX4_readText_X3_signAt : GoodIn wsX4_readText (wsV RX4 268 RX3 yX3_signAt wsX3_signAt) := goodIn_app (goodIn_of _ (by decide +kernel)) ggX4_readText_X3_signAt
set_option maxRecDepth 20000 in
theorem ggX4_readText_X1_reads : GoodIn wsX4_readText wsX1_reads := goodIn_r _ [23, 8, 24, 25, 26, 27, 28, 29, 6, 30, 31, 32, 33, 34, 35, 36, 37, 38, 39, 40, 41, 42, 43, 44, 45, 46, 47, 48, 49, 50, 51, 52, 61, 62, 63, 64, 65, 66, 67, 68, 69, 70] (by decide +kernel) (by decide +kernel)
set_option maxRecDepth 20000 in
theorem gX4_readText_X1_reads : GoodIn wsX4_readText (wsV RX4 271 RX1 yX1_reads wsX1_reads) := goodIn_app (goodIn_of _ (by decide +kernel)) ggX4_readText_X1_reads
theorem dX4_readText_0 : decode cX4_readText 0 = .ok (.aload_n 0, 1) := by decide +kernel
theorem dX4_readText_1 : decode cX4_readText 1 = .ok (.getfield 46, 3) := by decide +kernel
theorem dX4_readText_4 : decode cX4_readText 4 = .ok (.invokevirtual 161, 3) := by decide +kernel
theorem dX4_readText_7 : decode cX4_readText 7 = .ok (.iconst 0, 1) := by decide +kernel
theorem dX4_readText_8 : decode cX4_readText 8 = .ok (.istore_n 1, 1) := by decide +kernel
theorem dX4_readText_9 : decode cX4_readText 9 = .ok (.iload_n 1, 1) := by decide +kernel
theorem dX4_readText_10 : decode cX4_readText 10 = .ok (.aload_n 0, 1) := by decide +kernel
theorem dX4_readText_11 : decode cX4_readText 11 = .ok (.getfield 39, 3) := by decide +kernel
theorem dX4_readText_14 : decode cX4_readText 14 = .ok (.invokevirtual 164, 3) := by decide +kernel
theorem dX4_readText_17 : decode cX4_readText 17 = .ok (.if_icmp .ge 29, 3) := by decide +kernel
theorem dX4_readText_20 : decode cX4_readText 20 = .ok (.aload_n 0, 1) := by decide +kernel
theorem dX4_readText_21 : decode cX4_readText 21 = .ok (.getfield 46, 3) := by decide +kernel
theorem dX4_readText_24 : decode cX4_readText 24 = .ok (.aload_n 0, 1) := by decide +kernel
theorem dX4_readText_25 : decode cX4_readText 25 = .ok (.getfield 39, 3) := by decide +kernel
theorem dX4_readText_28 : decode cX4_readText 28 = .ok (.iload_n 1, 1) := by decide +kernel
theorem dX4_readText_29 : decode cX4_readText 29 = .ok (.invokevirtual 268, 3) := by decide +kernel
theorem dX4_readText_32 : decode cX4_readText 32 = .ok (.invokevirtual 271, 3) := by decide +kernel
theorem dX4_readText_35 : decode cX4_readText 35 = .ok (.ifCond .ne 5, 3) := by decide +kernel
theorem dX4_readText_38 : decode cX4_readText 38 = .ok (.iload_n 1, 1) := by decide +kernel
theorem dX4_readText_39 : decode cX4_readText 39 = .ok (.ireturn, 1) := by decide +kernel
theorem dX4_readText_40 : decode cX4_readText 40 = .ok (.iinc 1 1, 3) := by decide +kernel
theorem dX4_readText_43 : decode cX4_readText 43 = .ok (.goto (-34), 3) := by decide +kernel
theorem dX4_readText_46 : decode cX4_readText 46 = .ok (.aload_n 0, 1) := by decide +kernel
theorem dX4_readText_47 : decode cX4_readText 47 = .ok (.getfield 39, 3) := by decide +kernel
theorem dX4_readText_50 : decode cX4_readText 50 = .ok (.invokevirtual 164, 3) := by decide +kernel
theorem dX4_readText_53 : decode cX4_readText 53 = .ok (.ireturn, 1) := by decide +kernel
set_option maxRecDepth 20000 in
theorem ggX4_tellsBench_X4_readText : GoodIn wsX4_tellsBench wsX4_readText := goodIn_r _ [7, 2, 1, 8, 9, 10, 11, 12, 13, 14, 15, 16, 17, 18, 19, 20, 21, 22, 23, 24, 25, 26, 27, 28, 29, 30, 31, 32, 33, 34, 35, 36, 37, 38, 39, 40, 41, 42, 43, 44, 45, 46, 47, 48, 49, 50, 51, 52, 53, 54, 55, 56, 57, 58, 59, 60, 61, 62, 63, 64, 65, 66, 67, 68, 69, 70, 71, 72, 73, 74, 75, 76, 77] (by decide +kernel) (by decide +kernel)
set_option maxRecDepth 20000 in
theorem gX4_tellsBench_X4_readText : GoodIn wsX4_tellsBench (wsV RX4 153 RX4 yX4_readText wsX4_readText) := goodIn_app (goodIn_of _ (by decide +kernel)) ggX4_tellsBench_X4_readText
set_option maxRecDepth 20000 in
theorem ggX4_tellsBench_X3_size : GoodIn wsX4_tellsBench wsX3_size := goodIn_r _ [18, 19, 76, 77] (by decide +kernel) (by decide +kernel)
set_option maxRecDepth 20000 in
theorem gX4_tellsBench_X3_size : GoodIn wsX4_tellsBench (wsV RX4 164 RX3 yX3_size wsX3_size) := goodIn_app (goodIn_of _ (by decide +kernel)) ggX4_tellsBench_X3_size
set_option maxRecDepth 20000 in
theorem ggX4_tellsBench_X1_reads : GoodIn wsX4_tellsBench wsX1_reads := goodIn_r _ [28, 13, 29, 30, 31, 32, 33, 34, 11, 35, 36, 37, 38, 39, 40, 41, 42, 43, 44, 45, 46, 47, 48, 49, 50, 51, 52, 53, 54, 55, 56, 57, 66, 67, 68, 69, 70, 71, 72, 73, 74, 75] (by decide +kernel) (by decide +kernel)
set_option maxRecDepth 20000 in
theorem gX4_tellsBench_X1_reads : GoodIn wsX4_tellsBench (wsV RX4 271 RX1 yX1_reads wsX1_reads) := goodIn_app (goodIn_of _ (by decide +kernel)) ggX4_tellsBench_X1_reads
theorem dX4_tellsBench_0 : decode cX4_tellsBench 0 = .ok (.aload_n 0, 1) := by decide +kernel
theorem dX4_tellsBench_1 : decode cX4_tellsBench 1 = .ok (.invokevirtual 153, 3) := by decide +kernel
theorem dX4_tellsBench_4 : decode cX4_tellsBench 4 = .ok (.aload_n 0, 1) := by decide +kernel
theorem dX4_tellsBench_5 : decode cX4_tellsBench 5 = .ok (.getfield 39, 3) := by decide +kernel
theorem dX4_tellsBench_8 : decode cX4_tellsBench 8 = .ok (.invokevirtual 164, 3) := by decide +kernel
theorem dX4_tellsBench_11 : decode cX4_tellsBench 11 = .ok (.if_icmp .ne 19, 3) := by decide +kernel
theorem dX4_tellsBench_14 : decode cX4_tellsBench 14 = .ok (.aload_n 0, 1) := by decide +kernel
theorem dX4_tellsBench_15 : decode cX4_tellsBench 15 = .ok (.getfield 46, 3) := by decide +kernel
theorem dX4_tellsBench_18 : decode cX4_tellsBench 18 = .ok (.bipush 59, 2) := by decide +kernel
theorem dX4_tellsBench_20 : decode cX4_tellsBench 20 = .ok (.invokevirtual 271, 3) := by decide +kernel
theorem dX4_tellsBench_23 : decode cX4_tellsBench 23 = .ok (.ifCond .eq 7, 3) := by decide +kernel
theorem dX4_tellsBench_26 : decode cX4_tellsBench 26 = .ok (.iconst 1, 1) := by decide +kernel
theorem dX4_tellsBench_27 : decode cX4_tellsBench 27 = .ok (.goto 4, 3) := by decide +kernel
theorem dX4_tellsBench_30 : decode cX4_tellsBench 30 = .ok (.iconst 0, 1) := by decide +kernel
theorem dX4_tellsBench_31 : decode cX4_tellsBench 31 = .ok (.ireturn, 1) := by decide +kernel
set_option maxRecDepth 20000 in
theorem ggX4_readsEndOfOrder_X3_size : GoodIn wsX4_readsEndOfOrder wsX3_size := goodIn_r _ [7, 8, 57, 58] (by decide +kernel) (by decide +kernel)
set_option maxRecDepth 20000 in
theorem gX4_readsEndOfOrder_X3_size : GoodIn wsX4_readsEndOfOrder (wsV RX4 164 RX3 yX3_size wsX3_size) := goodIn_app (goodIn_of _ (by decide +kernel)) ggX4_readsEndOfOrder_X3_size
set_option maxRecDepth 20000 in
theorem ggX4_readsEndOfOrder_X3_signAt : GoodIn wsX4_readsEndOfOrder wsX3_signAt := goodIn_r _ [12, 8, 13, 57, 58] (by decide +kernel) (by decide +kernel)
set_option maxRecDepth 20000 in
theorem gX4_readsEndOfOrder_X3_signAt : GoodIn wsX4_readsEndOfOrder (wsV RX4 268 RX3 yX3_signAt wsX3_signAt) := goodIn_app (goodIn_of _ (by decide +kernel)) ggX4_readsEndOfOrder_X3_signAt
set_option maxRecDepth 20000 in
theorem ggX4_readsEndOfOrder_X1_reads : GoodIn wsX4_readsEndOfOrder wsX1_reads := goodIn_r _ [18, 19, 20, 21, 22, 23, 24, 25, 17, 26, 27, 28, 29, 30, 31, 32, 33, 34, 35, 36, 37, 38, 39, 40, 41, 42, 43, 44, 45, 46, 47, 48, 59, 60, 61, 62, 63, 64, 65, 66, 67, 68] (by decide +kernel) (by decide +kernel)
set_option maxRecDepth 20000 in
theorem gX4_readsEndOfOrder_X1_reads : GoodIn wsX4_readsEndOfOrder (wsV RX4 271 RX1 yX1_reads wsX1_reads) := goodIn_app (goodIn_of _ (by decide +kernel)) ggX4_readsEndOfOrder_X1_reads
theorem dX4_readsEndOfOrder_0 : decode cX4_readsEndOfOrder 0 = .ok (.iload_n 1, 1) := by decide +kernel
theorem dX4_readsEndOfOrder_1 : decode cX4_readsEndOfOrder 1 = .ok (.aload_n 0, 1) := by decide +kernel
theorem dX4_readsEndOfOrder_2 : decode cX4_readsEndOfOrder 2 = .ok (.getfield 39, 3) := by decide +kernel
theorem dX4_readsEndOfOrder_5 : decode cX4_readsEndOfOrder 5 = .ok (.invokevirtual 164, 3) := by decide +kernel
theorem dX4_readsEndOfOrder_8 : decode cX4_readsEndOfOrder 8 = .ok (.if_icmp .ge 14, 3) := by decide +kernel
theorem dX4_readsEndOfOrder_11 : decode cX4_readsEndOfOrder 11 = .ok (.aload_n 0, 1) := by decide +kernel
theorem dX4_readsEndOfOrder_12 : decode cX4_readsEndOfOrder 12 = .ok (.getfield 39, 3) := by decide +kernel
theorem dX4_readsEndOfOrder_15 : decode cX4_readsEndOfOrder 15 = .ok (.iload_n 1, 1) := by decide +kernel
theorem dX4_readsEndOfOrder_16 : decode cX4_readsEndOfOrder 16 = .ok (.invokevirtual 268, 3) := by decide +kernel
theorem dX4_readsEndOfOrder_19 : decode cX4_readsEndOfOrder 19 = .ok (.goto 5, 3) := by decide +kernel
theorem dX4_readsEndOfOrder_22 : decode cX4_readsEndOfOrder 22 = .ok (.bipush 59, 2) := by decide +kernel
theorem dX4_readsEndOfOrder_24 : decode cX4_readsEndOfOrder 24 = .ok (.istore_n 2, 1) := by decide +kernel
theorem dX4_readsEndOfOrder_25 : decode cX4_readsEndOfOrder 25 = .ok (.aload_n 0, 1) := by decide +kernel
theorem dX4_readsEndOfOrder_26 : decode cX4_readsEndOfOrder 26 = .ok (.getfield 46, 3) := by decide +kernel
theorem dX4_readsEndOfOrder_29 : decode cX4_readsEndOfOrder 29 = .ok (.iload_n 2, 1) := by decide +kernel
theorem dX4_readsEndOfOrder_30 : decode cX4_readsEndOfOrder 30 = .ok (.invokevirtual 271, 3) := by decide +kernel
theorem dX4_readsEndOfOrder_33 : decode cX4_readsEndOfOrder 33 = .ok (.ifCond .eq 13, 3) := by decide +kernel
theorem dX4_readsEndOfOrder_36 : decode cX4_readsEndOfOrder 36 = .ok (.iload_n 2, 1) := by decide +kernel
theorem dX4_readsEndOfOrder_37 : decode cX4_readsEndOfOrder 37 = .ok (.bipush 59, 2) := by decide +kernel
theorem dX4_readsEndOfOrder_39 : decode cX4_readsEndOfOrder 39 = .ok (.if_icmp .ne 7, 3) := by decide +kernel
theorem dX4_readsEndOfOrder_42 : decode cX4_readsEndOfOrder 42 = .ok (.iconst 1, 1) := by decide +kernel
theorem dX4_readsEndOfOrder_43 : decode cX4_readsEndOfOrder 43 = .ok (.goto 4, 3) := by decide +kernel
theorem dX4_readsEndOfOrder_46 : decode cX4_readsEndOfOrder 46 = .ok (.iconst 0, 1) := by decide +kernel
theorem dX4_readsEndOfOrder_47 : decode cX4_readsEndOfOrder 47 = .ok (.ireturn, 1) := by decide +kernel
set_option maxRecDepth 20000 in
theorem ggX4_doOrder_X1_kind : GoodIn wsX4_doOrder wsX1_kind := goodIn_r _ [7, 8, 116, 117, 118, 119, 120, 121, 122, 123, 124, 125] (by decide +kernel) (by decide +kernel)
set_option maxRecDepth 20000 in
theorem gX4_doOrder_X1_kind : GoodIn wsX4_doOrder (wsV RX4 274 RX1 yX1_kind wsX1_kind) := goodIn_app (goodIn_of _ (by decide +kernel)) ggX4_doOrder_X1_kind
set_option maxRecDepth 20000 in
theorem ggX4_doOrder_X0_isFull : GoodIn wsX4_doOrder wsX0_isFull := goodIn_r _ [13, 14, 126, 127, 128, 129, 130, 131, 132, 133, 134, 135, 136, 137, 138, 139] (by decide +kernel) (by decide +kernel)
set_option maxRecDepth 20000 in
theorem gX4_doOrder_X0_isFull : GoodIn wsX4_doOrder (wsV RX4 68 RX0 yX0_isFull wsX0_isFull) := goodIn_app (goodIn_of _ (by decide +kernel)) ggX4_doOrder_X0_isFull
set_option maxRecDepth 20000 in
theorem ggX4_doOrder_X1_beat : GoodIn wsX4_doOrder wsX1_beat := goodIn_r _ [18, 19, 116, 117, 118, 119, 120, 121, 122, 123, 124, 125] (by decide +kernel) (by decide +kernel)
set_option maxRecDepth 20000 in
theorem gX4_doOrder_X1_beat : GoodIn wsX4_doOrder (wsV RX4 277 RX1 yX1_beat wsX1_beat) := goodIn_app (goodIn_of _ (by decide +kernel)) ggX4_doOrder_X1_beat
set_option maxRecDepth 20000 in
theorem ggX4_doOrder_X1_phase : GoodIn wsX4_doOrder wsX1_phase := goodIn_r _ [23, 24, 116, 117, 118, 119, 120, 121, 122, 123, 124, 125] (by decide +kernel) (by decide +kernel)
set_option maxRecDepth 20000 in
theorem gX4_doOrder_X1_phase : GoodIn wsX4_doOrder (wsV RX4 280 RX1 yX1_phase wsX1_phase) := goodIn_app (goodIn_of _ (by decide +kernel)) ggX4_doOrder_X1_phase
set_option maxRecDepth 20000 in
theorem ggX4_doOrder_X1_spring : GoodIn wsX4_doOrder wsX1_spring := goodIn_r _ [28, 29, 116, 117, 118, 119, 120, 121, 122, 123, 124, 125] (by decide +kernel) (by decide +kernel)
set_option maxRecDepth 20000 in
theorem gX4_doOrder_X1_spring : GoodIn wsX4_doOrder (wsV RX4 283 RX1 yX1_spring wsX1_spring) := goodIn_app (goodIn_of _ (by decide +kernel)) ggX4_doOrder_X1_spring
set_option maxRecDepth 20000 in
theorem ggX4_doOrder_X0_add : GoodIn wsX4_doOrder wsX0_add := goodIn_r _ [33, 14, 34, 35, 36, 37, 38, 126, 127, 128, 129, 130, 131, 132, 133, 134, 135, 136, 137, 138, 139] (by decide +kernel) (by decide +kernel)
set_option maxRecDepth 20000 in
theorem gX4_doOrder_X0_add : GoodIn wsX4_doOrder (wsV RX4 81 RX0 yX0_add wsX0_add) := goodIn_app (goodIn_of _ (by decide +kernel)) ggX4_doOrder_X0_add
set_option maxRecDepth 20000 in
theorem ggX4_doOrder_X1_number : GoodIn wsX4_doOrder wsX1_number := goodIn_r _ [42, 43, 116, 117, 118, 119, 120, 121, 122, 123, 124, 125] (by decide +kernel) (by decide +kernel)
set_option maxRecDepth 20000 in
theorem gX4_doOrder_X1_number : GoodIn wsX4_doOrder (wsV RX4 286 RX1 yX1_number wsX1_number) := goodIn_app (goodIn_of _ (by decide +kernel)) ggX4_doOrder_X1_number
set_option maxRecDepth 20000 in
theorem ggX4_doOrder_X0_hasTimeFor : GoodIn wsX4_doOrder wsX0_hasTimeFor := goodIn_r _ [47, 48, 49, 126, 127, 128, 129, 130, 131, 132, 133, 134, 135, 136, 137, 138, 139] (by decide +kernel) (by decide +kernel)
set_option maxRecDepth 20000 in
theorem gX4_doOrder_X0_hasTimeFor : GoodIn wsX4_doOrder (wsV RX4 119 RX0 yX0_hasTimeFor wsX0_hasTimeFor) := goodIn_app (goodIn_of _ (by decide +kernel)) ggX4_doOrder_X0_hasTimeFor
set_option maxRecDepth 20000 in
theorem ggX4_doOrder_X0_letGoBy : GoodIn wsX4_doOrder wsX0_letGoBy := goodIn_r _ [53, 54, 55, 56, 57, 12, 58, 48, 59, 60, 61, 62, 63, 64, 65, 66, 67, 68, 69, 70, 71, 72, 73, 74, 14, 37, 36, 75, 76, 77, 78, 35, 79, 80, 81, 82, 83, 84, 85, 86, 87, 88, 89, 90, 91, 92, 34, 38, 93, 94, 95, 96, 97, 98, 99, 100, 101, 102, 126, 127, 128, 129, 130, 131, 132, 133, 134, 135, 136, 137, 138, 139] (by decide +kernel) (by decide +kernel)
set_option maxRecDepth 20000 in
theorem gX4_doOrder_X0_letGoBy : GoodIn wsX4_doOrder (wsV RX4 124 RX0 yX0_letGoBy wsX0_letGoBy) := goodIn_app (goodIn_of _ (by decide +kernel)) ggX4_doOrder_X0_letGoBy
set_option maxRecDepth 20000 in
theorem ggX4_doOrder_X0_has : GoodIn wsX4_doOrder wsX0_has := goodIn_r _ [96, 14, 126, 127, 128, 129, 130, 131, 132, 133, 134, 135, 136, 137, 138, 139] (by decide +kernel) (by decide +kernel)
set_option maxRecDepth 20000 in
theorem gX4_doOrder_X0_has : GoodIn wsX4_doOrder (wsV RX4 85 RX0 yX0_has wsX0_has) := goodIn_app (goodIn_of _ (by decide +kernel)) ggX4_doOrder_X0_has
set_option maxRecDepth 20000 in
theorem ggX4_doOrder_X0_holdOrLetGo : GoodIn wsX4_doOrder wsX0_holdOrLetGo := goodIn_r _ [107, 37, 93, 94, 95, 12, 96, 14, 126, 127, 128, 129, 130, 131, 132, 133, 134, 135, 136, 137, 138, 139] (by decide +kernel) (by decide +kernel)
set_option maxRecDepth 20000 in
theorem gX4_doOrder_X0_holdOrLetGo : GoodIn wsX4_doOrder (wsV RX4 104 RX0 yX0_holdOrLetGo wsX0_holdOrLetGo) := goodIn_app (goodIn_of _ (by decide +kernel)) ggX4_doOrder_X0_holdOrLetGo
theorem dX4_doOrder_0 : decode cX4_doOrder 0 = .ok (.aload_n 0, 1) := by decide +kernel
theorem dX4_doOrder_1 : decode cX4_doOrder 1 = .ok (.getfield 46, 3) := by decide +kernel
theorem dX4_doOrder_4 : decode cX4_doOrder 4 = .ok (.invokevirtual 274, 3) := by decide +kernel
theorem dX4_doOrder_7 : decode cX4_doOrder 7 = .ok (.lookupswitch 104 #[(109, 25), (115, 68)], 25) := by decide +kernel
theorem dX4_doOrder_32 : decode cX4_doOrder 32 = .ok (.aload_n 0, 1) := by decide +kernel
theorem dX4_doOrder_33 : decode cX4_doOrder 33 = .ok (.getfield 10, 3) := by decide +kernel
theorem dX4_doOrder_36 : decode cX4_doOrder 36 = .ok (.invokevirtual 68, 3) := by decide +kernel
theorem dX4_doOrder_39 : decode cX4_doOrder 39 = .ok (.ifCond .eq 5, 3) := by decide +kernel
theorem dX4_doOrder_42 : decode cX4_doOrder 42 = .ok (.iconst 0, 1) := by decide +kernel
theorem dX4_doOrder_43 : decode cX4_doOrder 43 = .ok (.ireturn, 1) := by decide +kernel
theorem dX4_doOrder_44 : decode cX4_doOrder 44 = .ok (.aload_n 0, 1) := by decide +kernel
theorem dX4_doOrder_45 : decode cX4_doOrder 45 = .ok (.getfield 10, 3) := by decide +kernel
theorem dX4_doOrder_48 : decode cX4_doOrder 48 = .ok (.aload_n 0, 1) := by decide +kernel
theorem dX4_doOrder_49 : decode cX4_doOrder 49 = .ok (.getfield 46, 3) := by decide +kernel
theorem dX4_doOrder_52 : decode cX4_doOrder 52 = .ok (.invokevirtual 277, 3) := by decide +kernel
theorem dX4_doOrder_55 : decode cX4_doOrder 55 = .ok (.aload_n 0, 1) := by decide +kernel
theorem dX4_doOrder_56 : decode cX4_doOrder 56 = .ok (.getfield 46, 3) := by decide +kernel
theorem dX4_doOrder_59 : decode cX4_doOrder 59 = .ok (.invokevirtual 280, 3) := by decide +kernel
theorem dX4_doOrder_62 : decode cX4_doOrder 62 = .ok (.aload_n 0, 1) := by decide +kernel
theorem dX4_doOrder_63 : decode cX4_doOrder 63 = .ok (.getfield 46, 3) := by decide +kernel
theorem dX4_doOrder_66 : decode cX4_doOrder 66 = .ok (.invokevirtual 283, 3) := by decide +kernel
theorem dX4_doOrder_69 : decode cX4_doOrder 69 = .ok (.invokevirtual 81, 3) := by decide +kernel
theorem dX4_doOrder_72 : decode cX4_doOrder 72 = .ok (.pop, 1) := by decide +kernel
theorem dX4_doOrder_73 : decode cX4_doOrder 73 = .ok (.iconst 1, 1) := by decide +kernel
theorem dX4_doOrder_74 : decode cX4_doOrder 74 = .ok (.ireturn, 1) := by decide +kernel
theorem dX4_doOrder_75 : decode cX4_doOrder 75 = .ok (.aload_n 0, 1) := by decide +kernel
theorem dX4_doOrder_76 : decode cX4_doOrder 76 = .ok (.getfield 10, 3) := by decide +kernel
theorem dX4_doOrder_79 : decode cX4_doOrder 79 = .ok (.aload_n 0, 1) := by decide +kernel
theorem dX4_doOrder_80 : decode cX4_doOrder 80 = .ok (.getfield 46, 3) := by decide +kernel
theorem dX4_doOrder_83 : decode cX4_doOrder 83 = .ok (.invokevirtual 286, 3) := by decide +kernel
theorem dX4_doOrder_86 : decode cX4_doOrder 86 = .ok (.invokevirtual 119, 3) := by decide +kernel
theorem dX4_doOrder_89 : decode cX4_doOrder 89 = .ok (.ifCond .ne 5, 3) := by decide +kernel
theorem dX4_doOrder_92 : decode cX4_doOrder 92 = .ok (.iconst 0, 1) := by decide +kernel
theorem dX4_doOrder_93 : decode cX4_doOrder 93 = .ok (.ireturn, 1) := by decide +kernel
theorem dX4_doOrder_94 : decode cX4_doOrder 94 = .ok (.aload_n 0, 1) := by decide +kernel
theorem dX4_doOrder_95 : decode cX4_doOrder 95 = .ok (.getfield 10, 3) := by decide +kernel
theorem dX4_doOrder_98 : decode cX4_doOrder 98 = .ok (.aload_n 0, 1) := by decide +kernel
theorem dX4_doOrder_99 : decode cX4_doOrder 99 = .ok (.getfield 46, 3) := by decide +kernel
theorem dX4_doOrder_102 : decode cX4_doOrder 102 = .ok (.invokevirtual 286, 3) := by decide +kernel
theorem dX4_doOrder_105 : decode cX4_doOrder 105 = .ok (.invokevirtual 124, 3) := by decide +kernel
theorem dX4_doOrder_108 : decode cX4_doOrder 108 = .ok (.pop, 1) := by decide +kernel
theorem dX4_doOrder_109 : decode cX4_doOrder 109 = .ok (.iconst 1, 1) := by decide +kernel
theorem dX4_doOrder_110 : decode cX4_doOrder 110 = .ok (.ireturn, 1) := by decide +kernel
theorem dX4_doOrder_111 : decode cX4_doOrder 111 = .ok (.aload_n 0, 1) := by decide +kernel
theorem dX4_doOrder_112 : decode cX4_doOrder 112 = .ok (.getfield 10, 3) := by decide +kernel
theorem dX4_doOrder_115 : decode cX4_doOrder 115 = .ok (.aload_n 0, 1) := by decide +kernel
theorem dX4_doOrder_116 : decode cX4_doOrder 116 = .ok (.getfield 46, 3) := by decide +kernel
theorem dX4_doOrder_119 : decode cX4_doOrder 119 = .ok (.invokevirtual 286, 3) := by decide +kernel
theorem dX4_doOrder_122 : decode cX4_doOrder 122 = .ok (.invokevirtual 85, 3) := by decide +kernel
theorem dX4_doOrder_125 : decode cX4_doOrder 125 = .ok (.ifCond .ne 5, 3) := by decide +kernel
theorem dX4_doOrder_128 : decode cX4_doOrder 128 = .ok (.iconst 0, 1) := by decide +kernel
theorem dX4_doOrder_129 : decode cX4_doOrder 129 = .ok (.ireturn, 1) := by decide +kernel
theorem dX4_doOrder_130 : decode cX4_doOrder 130 = .ok (.aload_n 0, 1) := by decide +kernel
theorem dX4_doOrder_131 : decode cX4_doOrder 131 = .ok (.getfield 10, 3) := by decide +kernel
theorem dX4_doOrder_134 : decode cX4_doOrder 134 = .ok (.aload_n 0, 1) := by decide +kernel
theorem dX4_doOrder_135 : decode cX4_doOrder 135 = .ok (.getfield 46, 3) := by decide +kernel
theorem dX4_doOrder_138 : decode cX4_doOrder 138 = .ok (.invokevirtual 286, 3) := by decide +kernel
theorem dX4_doOrder_141 : decode cX4_doOrder 141 = .ok (.invokevirtual 104, 3) := by decide +kernel
theorem dX4_doOrder_144 : decode cX4_doOrder 144 = .ok (.pop, 1) := by decide +kernel
theorem dX4_doOrder_145 : decode cX4_doOrder 145 = .ok (.iconst 1, 1) := by decide +kernel
theorem dX4_doOrder_146 : decode cX4_doOrder 146 = .ok (.ireturn, 1) := by decide +kernel
set_option maxRecDepth 20000 in
theorem ggX4_tryOut_X0_copyFrom : GoodIn wsX4_tryOut wsX0_copyFrom := goodIn_r _ [7, 8, 9, 10, 11, 12, 13, 14, 15, 16, 17, 18, 19, 20, 21, 81, 82, 83, 84, 85, 86, 87, 88, 89, 90, 91, 92, 93, 94] (by decide +kernel) (by decide +kernel)
set_option maxRecDepth 20000 in
theorem gX4_tryOut_X0_copyFrom : GoodIn wsX4_tryOut (wsV RX4 182 RX0 yX0_copyFrom wsX0_copyFrom) := goodIn_app (goodIn_of _ (by decide +kernel)) ggX4_tryOut_X0_copyFrom
set_option maxRecDepth 20000 in
theorem ggX4_tryOut_X0_changeSetting : GoodIn wsX4_tryOut wsX0_changeSetting := goodIn_r _ [25, 16, 17, 18, 26, 27, 28, 6, 29, 81, 82, 83, 84, 85, 86, 87, 88, 89, 90, 91, 92, 93, 94] (by decide +kernel) (by decide +kernel)
set_option maxRecDepth 20000 in
theorem gX4_tryOut_X0_changeSetting : GoodIn wsX4_tryOut (wsV RX4 140 RX0 yX0_changeSetting wsX0_changeSetting) := goodIn_app (goodIn_of _ (by decide +kernel)) ggX4_tryOut_X0_changeSetting
set_option maxRecDepth 20000 in
theorem ggX4_tryOut_X0_step : GoodIn wsX4_tryOut wsX0_step := goodIn_r _ [33, 19, 20, 21, 34, 35, 36, 6, 37, 14, 16, 15, 38, 39, 40, 41, 42, 43, 44, 45, 13, 11, 10, 46, 47, 48, 49, 9, 50, 51, 52, 53, 54, 55, 56, 57, 58, 59, 60, 61, 62, 63, 8, 12, 64, 65, 66, 67, 68, 69, 70, 71, 17, 72, 81, 82, 83, 84, 85, 86, 87, 88, 89, 90, 91, 92, 93, 94] (by decide +kernel) (by decide +kernel)
set_option maxRecDepth 20000 in
theorem gX4_tryOut_X0_step : GoodIn wsX4_tryOut (wsV RX4 227 RX0 yX0_step wsX0_step) := goodIn_app (goodIn_of _ (by decide +kernel)) ggX4_tryOut_X0_step
theorem dX4_tryOut_0 : decode cX4_tryOut 0 = .ok (.aload_n 0, 1) := by decide +kernel
theorem dX4_tryOut_1 : decode cX4_tryOut 1 = .ok (.getfield 16, 3) := by decide +kernel
theorem dX4_tryOut_4 : decode cX4_tryOut 4 = .ok (.aload_n 0, 1) := by decide +kernel
theorem dX4_tryOut_5 : decode cX4_tryOut 5 = .ok (.getfield 10, 3) := by decide +kernel
theorem dX4_tryOut_8 : decode cX4_tryOut 8 = .ok (.invokevirtual 182, 3) := by decide +kernel
theorem dX4_tryOut_11 : decode cX4_tryOut 11 = .ok (.aload_n 0, 1) := by decide +kernel
theorem dX4_tryOut_12 : decode cX4_tryOut 12 = .ok (.getfield 16, 3) := by decide +kernel
theorem dX4_tryOut_15 : decode cX4_tryOut 15 = .ok (.iconst 1, 1) := by decide +kernel
theorem dX4_tryOut_16 : decode cX4_tryOut 16 = .ok (.iload_n 2, 1) := by decide +kernel
theorem dX4_tryOut_17 : decode cX4_tryOut 17 = .ok (.invokevirtual 140, 3) := by decide +kernel
theorem dX4_tryOut_20 : decode cX4_tryOut 20 = .ok (.pop, 1) := by decide +kernel
theorem dX4_tryOut_21 : decode cX4_tryOut 21 = .ok (.iconst 0, 1) := by decide +kernel
theorem dX4_tryOut_22 : decode cX4_tryOut 22 = .ok (.istore_n 3, 1) := by decide +kernel
theorem dX4_tryOut_23 : decode cX4_tryOut 23 = .ok (.iload_n 3, 1) := by decide +kernel
theorem dX4_tryOut_24 : decode cX4_tryOut 24 = .ok (.iload_n 1, 1) := by decide +kernel
theorem dX4_tryOut_25 : decode cX4_tryOut 25 = .ok (.if_icmp .ge 16, 3) := by decide +kernel
theorem dX4_tryOut_28 : decode cX4_tryOut 28 = .ok (.aload_n 0, 1) := by decide +kernel
theorem dX4_tryOut_29 : decode cX4_tryOut 29 = .ok (.getfield 16, 3) := by decide +kernel
theorem dX4_tryOut_32 : decode cX4_tryOut 32 = .ok (.invokevirtual 227, 3) := by decide +kernel
theorem dX4_tryOut_35 : decode cX4_tryOut 35 = .ok (.iinc 3 1, 3) := by decide +kernel
theorem dX4_tryOut_38 : decode cX4_tryOut 38 = .ok (.goto (-15), 3) := by decide +kernel
theorem dX4_tryOut_41 : decode cX4_tryOut 41 = .ok (.return_, 1) := by decide +kernel
set_option maxRecDepth 20000 in
theorem ggX4_outcome_X0_allTicks : GoodIn wsX4_outcome wsX0_allTicks := goodIn_r _ [7, 8, 79, 80, 81, 82, 83, 84, 85, 86, 87, 88, 89, 90, 91, 92] (by decide +kernel) (by decide +kernel)
set_option maxRecDepth 20000 in
theorem gX4_outcome_X0_allTicks : GoodIn wsX4_outcome (wsV RX4 289 RX0 yX0_allTicks wsX0_allTicks) := goodIn_app (goodIn_of _ (by decide +kernel)) ggX4_outcome_X0_allTicks
set_option maxRecDepth 20000 in
theorem ggX4_outcome_X0_order : GoodIn wsX4_outcome wsX0_order := goodIn_r _ [12, 13, 14, 15, 6, 16, 17, 18, 19, 20, 21, 22, 23, 24, 25, 26, 27, 28, 29, 30, 31, 32, 33, 34, 35, 36, 37, 38, 39, 40, 41, 42, 79, 80, 81, 82, 83, 84, 85, 86, 87, 88, 89, 90, 91, 92] (by decide +kernel) (by decide +kernel)
set_option maxRecDepth 20000 in
theorem gX4_outcome_X0_order : GoodIn wsX4_outcome (wsV RX4 292 RX0 yX0_order wsX0_order) := goodIn_app (goodIn_of _ (by decide +kernel)) ggX4_outcome_X0_order
set_option maxRecDepth 20000 in
theorem ggX4_outcome_X0_greatestDistance : GoodIn wsX4_outcome wsX0_greatestDistance := goodIn_r _ [46, 47, 48, 49, 50, 18, 19, 20, 6, 21, 22, 23, 24, 51, 52, 53, 54, 17, 55, 56, 57, 58, 59, 60, 61, 62, 63, 64, 79, 80, 81, 82, 83, 84, 85, 86, 87, 88, 89, 90, 91, 92] (by decide +kernel) (by decide +kernel)
set_option maxRecDepth 20000 in
theorem gX4_outcome_X0_greatestDistance : GoodIn wsX4_outcome (wsV RX4 295 RX0 yX0_greatestDistance wsX0_greatestDistance) := goodIn_app (goodIn_of _ (by decide +kernel)) ggX4_outcome_X0_greatestDistance
set_option maxRecDepth 20000 in
theorem ggX4_outcome_X0_going : GoodIn wsX4_outcome wsX0_going := goodIn_r _ [42, 18, 19, 20, 6, 21, 22, 23, 24, 79, 80, 81, 82, 83, 84, 85, 86, 87, 88, 89, 90, 91, 92] (by decide +kernel) (by decide +kernel)
set_option maxRecDepth 20000 in
theorem gX4_outcome_X0_going : GoodIn wsX4_outcome (wsV RX4 298 RX0 yX0_going wsX0_going) := goodIn_app (goodIn_of _ (by decide +kernel)) ggX4_outcome_X0_going
set_option maxRecDepth 20000 in
theorem ggX4_outcome_X0_stepsTogether : GoodIn wsX4_outcome wsX0_stepsTogether := goodIn_r _ [69, 70, 79, 80, 81, 82, 83, 84, 85, 86, 87, 88, 89, 90, 91, 92] (by decide +kernel) (by decide +kernel)
set_option maxRecDepth 20000 in
theorem gX4_outcome_X0_stepsTogether : GoodIn wsX4_outcome (wsV RX4 301 RX0 yX0_stepsTogether wsX0_stepsTogether) := goodIn_app (goodIn_of _ (by decide +kernel)) ggX4_outcome_X0_stepsTogether
theorem dX4_outcome_0 : decode cX4_outcome 0 = .ok (.iload_n 1, 1) := by decide +kernel
theorem dX4_outcome_1 : decode cX4_outcome 1 = .ok (.tableswitch 71 0 3 #[31, 47, 55, 63], 31) := by decide +kernel
theorem dX4_outcome_32 : decode cX4_outcome 32 = .ok (.aload_n 0, 1) := by decide +kernel
theorem dX4_outcome_33 : decode cX4_outcome 33 = .ok (.getfield 16, 3) := by decide +kernel
theorem dX4_outcome_36 : decode cX4_outcome 36 = .ok (.invokevirtual 289, 3) := by decide +kernel
theorem dX4_outcome_39 : decode cX4_outcome 39 = .ok (.aload_n 0, 1) := by decide +kernel
theorem dX4_outcome_40 : decode cX4_outcome 40 = .ok (.getfield 10, 3) := by decide +kernel
theorem dX4_outcome_43 : decode cX4_outcome 43 = .ok (.invokevirtual 289, 3) := by decide +kernel
theorem dX4_outcome_46 : decode cX4_outcome 46 = .ok (.isub, 1) := by decide +kernel
theorem dX4_outcome_47 : decode cX4_outcome 47 = .ok (.ireturn, 1) := by decide +kernel
theorem dX4_outcome_48 : decode cX4_outcome 48 = .ok (.aload_n 0, 1) := by decide +kernel
theorem dX4_outcome_49 : decode cX4_outcome 49 = .ok (.getfield 16, 3) := by decide +kernel
theorem dX4_outcome_52 : decode cX4_outcome 52 = .ok (.invokevirtual 292, 3) := by decide +kernel
theorem dX4_outcome_55 : decode cX4_outcome 55 = .ok (.ireturn, 1) := by decide +kernel
theorem dX4_outcome_56 : decode cX4_outcome 56 = .ok (.aload_n 0, 1) := by decide +kernel
theorem dX4_outcome_57 : decode cX4_outcome 57 = .ok (.getfield 16, 3) := by decide +kernel
theorem dX4_outcome_60 : decode cX4_outcome 60 = .ok (.invokevirtual 295, 3) := by decide +kernel
theorem dX4_outcome_63 : decode cX4_outcome 63 = .ok (.ireturn, 1) := by decide +kernel
theorem dX4_outcome_64 : decode cX4_outcome 64 = .ok (.aload_n 0, 1) := by decide +kernel
theorem dX4_outcome_65 : decode cX4_outcome 65 = .ok (.getfield 16, 3) := by decide +kernel
theorem dX4_outcome_68 : decode cX4_outcome 68 = .ok (.invokevirtual 298, 3) := by decide +kernel
theorem dX4_outcome_71 : decode cX4_outcome 71 = .ok (.ireturn, 1) := by decide +kernel
theorem dX4_outcome_72 : decode cX4_outcome 72 = .ok (.aload_n 0, 1) := by decide +kernel
theorem dX4_outcome_73 : decode cX4_outcome 73 = .ok (.getfield 16, 3) := by decide +kernel
theorem dX4_outcome_76 : decode cX4_outcome 76 = .ok (.invokevirtual 301, 3) := by decide +kernel
theorem dX4_outcome_79 : decode cX4_outcome 79 = .ok (.aload_n 0, 1) := by decide +kernel
theorem dX4_outcome_80 : decode cX4_outcome 80 = .ok (.getfield 10, 3) := by decide +kernel
theorem dX4_outcome_83 : decode cX4_outcome 83 = .ok (.invokevirtual 301, 3) := by decide +kernel
theorem dX4_outcome_86 : decode cX4_outcome 86 = .ok (.isub, 1) := by decide +kernel
theorem dX4_outcome_87 : decode cX4_outcome 87 = .ok (.ireturn, 1) := by decide +kernel
set_option maxRecDepth 20000 in
theorem ggX4_strengthOfGreatestOrder_X4_tryOut : GoodIn wsX4_strengthOfGreatestOrder wsX4_tryOut := goodIn_r _ [6, 1, 7, 8, 9, 10, 11, 12, 13, 14, 15, 16, 17, 18, 19, 20, 21, 22, 23, 24, 25, 26, 27, 28, 29, 30, 31, 32, 33, 34, 35, 36, 37, 38, 39, 40, 41, 42, 43, 44, 45, 46, 47, 48, 49, 50, 51, 52, 53, 54, 55, 56, 57, 58, 59, 60, 61, 62, 63, 64, 65, 66, 67, 68, 69, 70, 71, 72, 73, 74, 75, 76, 77, 86, 87, 88, 89, 90, 91, 92, 93, 94, 95, 96, 97, 98, 99, 100, 101, 102, 103, 104, 105, 106, 107] (by decide +kernel) (by decide +kernel)
set_option maxRecDepth 20000 in
theorem gX4_strengthOfGreatestOrder_X4_tryOut : GoodIn wsX4_strengthOfGreatestOrder (wsV RX4 217 RX4 yX4_tryOut wsX4_tryOut) := goodIn_app (goodIn_of _ (by decide +kernel)) ggX4_strengthOfGreatestOrder_X4_tryOut
set_option maxRecDepth 20000 in
theorem ggX4_strengthOfGreatestOrder_X0_order : GoodIn wsX4_strengthOfGreatestOrder wsX0_order := goodIn_r _ [81, 51, 52, 53, 11, 54, 14, 47, 48, 49, 50, 18, 16, 15, 55, 56, 57, 58, 59, 60, 61, 62, 63, 64, 82, 83, 84, 85, 43, 44, 45, 46, 94, 95, 96, 97, 98, 99, 100, 101, 102, 103, 104, 105, 106, 107] (by decide +kernel) (by decide +kernel)
set_option maxRecDepth 20000 in
theorem gX4_strengthOfGreatestOrder_X0_order : GoodIn wsX4_strengthOfGreatestOrder (wsV RX4 292 RX0 yX0_order wsX0_order) := goodIn_app (goodIn_of _ (by decide +kernel)) ggX4_strengthOfGreatestOrder_X0_order
theorem dX4_strengthOfGreatestOrder_0 : decode cX4_strengthOfGreatestOrder 0 = .ok (.iconst 0, 1) := by decide +kernel
theorem dX4_strengthOfGreatestOrder_1 : decode cX4_strengthOfGreatestOrder 1 = .ok (.istore_n 2, 1) := by decide +kernel
theorem dX4_strengthOfGreatestOrder_2 : decode cX4_strengthOfGreatestOrder 2 = .ok (.iconst (-1), 1) := by decide +kernel
theorem dX4_strengthOfGreatestOrder_3 : decode cX4_strengthOfGreatestOrder 3 = .ok (.istore_n 3, 1) := by decide +kernel
theorem dX4_strengthOfGreatestOrder_4 : decode cX4_strengthOfGreatestOrder 4 = .ok (.iconst 0, 1) := by decide +kernel
theorem dX4_strengthOfGreatestOrder_5 : decode cX4_strengthOfGreatestOrder 5 = .ok (.istore 4, 2) := by decide +kernel
theorem dX4_strengthOfGreatestOrder_7 : decode cX4_strengthOfGreatestOrder 7 = .ok (.iload 4, 2) := by decide +kernel
theorem dX4_strengthOfGreatestOrder_9 : decode cX4_strengthOfGreatestOrder 9 = .ok (.bipush 95, 2) := by decide +kernel
theorem dX4_strengthOfGreatestOrder_11 : decode cX4_strengthOfGreatestOrder 11 = .ok (.if_icmp .gt 37, 3) := by decide +kernel
theorem dX4_strengthOfGreatestOrder_14 : decode cX4_strengthOfGreatestOrder 14 = .ok (.aload_n 0, 1) := by decide +kernel
theorem dX4_strengthOfGreatestOrder_15 : decode cX4_strengthOfGreatestOrder 15 = .ok (.iload_n 1, 1) := by decide +kernel
theorem dX4_strengthOfGreatestOrder_16 : decode cX4_strengthOfGreatestOrder 16 = .ok (.iload 4, 2) := by decide +kernel
theorem dX4_strengthOfGreatestOrder_18 : decode cX4_strengthOfGreatestOrder 18 = .ok (.invokevirtual 217, 3) := by decide +kernel
theorem dX4_strengthOfGreatestOrder_21 : decode cX4_strengthOfGreatestOrder 21 = .ok (.aload_n 0, 1) := by decide +kernel
theorem dX4_strengthOfGreatestOrder_22 : decode cX4_strengthOfGreatestOrder 22 = .ok (.getfield 16, 3) := by decide +kernel
theorem dX4_strengthOfGreatestOrder_25 : decode cX4_strengthOfGreatestOrder 25 = .ok (.invokevirtual 292, 3) := by decide +kernel
theorem dX4_strengthOfGreatestOrder_28 : decode cX4_strengthOfGreatestOrder 28 = .ok (.istore 5, 2) := by decide +kernel
theorem dX4_strengthOfGreatestOrder_30 : decode cX4_strengthOfGreatestOrder 30 = .ok (.iload 5, 2) := by decide +kernel
theorem dX4_strengthOfGreatestOrder_32 : decode cX4_strengthOfGreatestOrder 32 = .ok (.iload_n 3, 1) := by decide +kernel
theorem dX4_strengthOfGreatestOrder_33 : decode cX4_strengthOfGreatestOrder 33 = .ok (.if_icmp .le 9, 3) := by decide +kernel
theorem dX4_strengthOfGreatestOrder_36 : decode cX4_strengthOfGreatestOrder 36 = .ok (.iload 5, 2) := by decide +kernel
theorem dX4_strengthOfGreatestOrder_38 : decode cX4_strengthOfGreatestOrder 38 = .ok (.istore_n 3, 1) := by decide +kernel
theorem dX4_strengthOfGreatestOrder_39 : decode cX4_strengthOfGreatestOrder 39 = .ok (.iload 4, 2) := by decide +kernel
theorem dX4_strengthOfGreatestOrder_41 : decode cX4_strengthOfGreatestOrder 41 = .ok (.istore_n 2, 1) := by decide +kernel
theorem dX4_strengthOfGreatestOrder_42 : decode cX4_strengthOfGreatestOrder 42 = .ok (.iinc 4 5, 3) := by decide +kernel
theorem dX4_strengthOfGreatestOrder_45 : decode cX4_strengthOfGreatestOrder 45 = .ok (.goto (-38), 3) := by decide +kernel
theorem dX4_strengthOfGreatestOrder_48 : decode cX4_strengthOfGreatestOrder 48 = .ok (.iload_n 2, 1) := by decide +kernel
theorem dX4_strengthOfGreatestOrder_49 : decode cX4_strengthOfGreatestOrder 49 = .ok (.ireturn, 1) := by decide +kernel
set_option maxRecDepth 20000 in
theorem ggX4_stepsUntilStopped_X0_copyFrom : GoodIn wsX4_stepsUntilStopped wsX0_copyFrom := goodIn_r _ [7, 8, 9, 10, 11, 12, 13, 14, 15, 16, 17, 18, 19, 20, 21, 74, 75, 76, 77, 78, 79, 80, 81, 82, 83, 84, 85, 86, 87] (by decide +kernel) (by decide +kernel)
set_option maxRecDepth 20000 in
theorem gX4_stepsUntilStopped_X0_copyFrom : GoodIn wsX4_stepsUntilStopped (wsV RX4 182 RX0 yX0_copyFrom wsX0_copyFrom) := goodIn_app (goodIn_of _ (by decide +kernel)) ggX4_stepsUntilStopped_X0_copyFrom
set_option maxRecDepth 20000 in
theorem ggX4_stepsUntilStopped_X0_goes : GoodIn wsX4_stepsUntilStopped wsX0_goes := goodIn_r _ [25, 13, 11, 10, 74, 75, 76, 77, 78, 79, 80, 81, 82, 83, 84, 85, 86, 87] (by decide +kernel) (by decide +kernel)
set_option maxRecDepth 20000 in
theorem gX4_stepsUntilStopped_X0_goes : GoodIn wsX4_stepsUntilStopped (wsV RX4 304 RX0 yX0_goes wsX0_goes) := goodIn_app (goodIn_of _ (by decide +kernel)) ggX4_stepsUntilStopped_X0_goes
set_option maxRecDepth 20000 in
theorem ggX4_stepsUntilStopped_X0_step : GoodIn wsX4_stepsUntilStopped wsX0_step := goodIn_r _ [29, 19, 20, 21, 30, 31, 32, 6, 33, 14, 16, 15, 34, 35, 36, 37, 38, 23, 24, 25, 13, 11, 10, 39, 40, 41, 42, 9, 43, 44, 45, 46, 47, 48, 49, 50, 51, 52, 53, 54, 55, 56, 8, 12, 57, 58, 59, 60, 61, 62, 63, 64, 17, 65, 74, 75, 76, 77, 78, 79, 80, 81, 82, 83, 84, 85, 86, 87] (by decide +kernel) (by decide +kernel)
set_option maxRecDepth 20000 in
theorem gX4_stepsUntilStopped_X0_step : GoodIn wsX4_stepsUntilStopped (wsV RX4 227 RX0 yX0_step wsX0_step) := goodIn_app (goodIn_of _ (by decide +kernel)) ggX4_stepsUntilStopped_X0_step
theorem dX4_stepsUntilStopped_0 : decode cX4_stepsUntilStopped 0 = .ok (.aload_n 0, 1) := by decide +kernel
theorem dX4_stepsUntilStopped_1 : decode cX4_stepsUntilStopped 1 = .ok (.getfield 16, 3) := by decide +kernel
theorem dX4_stepsUntilStopped_4 : decode cX4_stepsUntilStopped 4 = .ok (.aload_n 0, 1) := by decide +kernel
theorem dX4_stepsUntilStopped_5 : decode cX4_stepsUntilStopped 5 = .ok (.getfield 10, 3) := by decide +kernel
theorem dX4_stepsUntilStopped_8 : decode cX4_stepsUntilStopped 8 = .ok (.invokevirtual 182, 3) := by decide +kernel
theorem dX4_stepsUntilStopped_11 : decode cX4_stepsUntilStopped 11 = .ok (.iconst 0, 1) := by decide +kernel
theorem dX4_stepsUntilStopped_12 : decode cX4_stepsUntilStopped 12 = .ok (.istore_n 2, 1) := by decide +kernel
theorem dX4_stepsUntilStopped_13 : decode cX4_stepsUntilStopped 13 = .ok (.iload_n 2, 1) := by decide +kernel
theorem dX4_stepsUntilStopped_14 : decode cX4_stepsUntilStopped 14 = .ok (.sipush 500, 3) := by decide +kernel
theorem dX4_stepsUntilStopped_17 : decode cX4_stepsUntilStopped 17 = .ok (.if_icmp .gt 29, 3) := by decide +kernel
theorem dX4_stepsUntilStopped_20 : decode cX4_stepsUntilStopped 20 = .ok (.aload_n 0, 1) := by decide +kernel
theorem dX4_stepsUntilStopped_21 : decode cX4_stepsUntilStopped 21 = .ok (.getfield 16, 3) := by decide +kernel
theorem dX4_stepsUntilStopped_24 : decode cX4_stepsUntilStopped 24 = .ok (.iload_n 1, 1) := by decide +kernel
theorem dX4_stepsUntilStopped_25 : decode cX4_stepsUntilStopped 25 = .ok (.invokevirtual 304, 3) := by decide +kernel
theorem dX4_stepsUntilStopped_28 : decode cX4_stepsUntilStopped 28 = .ok (.ifCond .ne 5, 3) := by decide +kernel
theorem dX4_stepsUntilStopped_31 : decode cX4_stepsUntilStopped 31 = .ok (.iload_n 2, 1) := by decide +kernel
theorem dX4_stepsUntilStopped_32 : decode cX4_stepsUntilStopped 32 = .ok (.ireturn, 1) := by decide +kernel
theorem dX4_stepsUntilStopped_33 : decode cX4_stepsUntilStopped 33 = .ok (.aload_n 0, 1) := by decide +kernel
theorem dX4_stepsUntilStopped_34 : decode cX4_stepsUntilStopped 34 = .ok (.getfield 16, 3) := by decide +kernel
theorem dX4_stepsUntilStopped_37 : decode cX4_stepsUntilStopped 37 = .ok (.invokevirtual 227, 3) := by decide +kernel
theorem dX4_stepsUntilStopped_40 : decode cX4_stepsUntilStopped 40 = .ok (.iinc 2 1, 3) := by decide +kernel
theorem dX4_stepsUntilStopped_43 : decode cX4_stepsUntilStopped 43 = .ok (.goto (-30), 3) := by decide +kernel
theorem dX4_stepsUntilStopped_46 : decode cX4_stepsUntilStopped 46 = .ok (.iconst (-1), 1) := by decide +kernel
theorem dX4_stepsUntilStopped_47 : decode cX4_stepsUntilStopped 47 = .ok (.ireturn, 1) := by decide +kernel
set_option maxRecDepth 20000 in
theorem ggX4_withArms_X0_size : GoodIn wsX4_withArms wsX0_size := goodIn_r _ [7, 8, 88, 89, 90, 91, 92, 93, 94, 95, 96, 97, 98, 99, 100, 101] (by decide +kernel) (by decide +kernel)
set_option maxRecDepth 20000 in
theorem gX4_withArms_X0_size : GoodIn wsX4_withArms (wsV RX4 307 RX0 yX0_size wsX0_size) := goodIn_app (goodIn_of _ (by decide +kernel)) ggX4_withArms_X0_size
set_option maxRecDepth 20000 in
theorem ggX4_withArms_X0_property : GoodIn wsX4_withArms wsX0_property := goodIn_r _ [12, 13, 14, 15, 16, 17, 18, 19, 20, 6, 21, 8, 22, 23, 24, 25, 26, 27, 28, 29, 30, 31, 32, 33, 34, 35, 36, 37, 38, 39, 88, 89, 90, 91, 92, 93, 94, 95, 96, 97, 98, 99, 100, 101] (by decide +kernel) (by decide +kernel)
set_option maxRecDepth 20000 in
theorem gX4_withArms_X0_property : GoodIn wsX4_withArms (wsV RX4 199 RX0 yX0_property wsX0_property) := goodIn_app (goodIn_of _ (by decide +kernel)) ggX4_withArms_X0_property
set_option maxRecDepth 20000 in
theorem ggX4_withArms_X4_stepsUntilStopped : GoodIn wsX4_withArms wsX4_stepsUntilStopped := goodIn_r _ [44, 45, 1, 46, 47, 48, 6, 49, 13, 14, 15, 16, 17, 8, 37, 38, 50, 36, 51, 52, 53, 54, 55, 23, 24, 25, 56, 57, 58, 59, 60, 61, 62, 63, 64, 65, 66, 67, 22, 68, 69, 70, 71, 26, 27, 28, 72, 73, 74, 75, 29, 30, 31, 76, 77, 78, 79, 18, 19, 20, 21, 32, 33, 34, 35, 39, 80, 81, 82, 83, 84, 85, 86, 87, 88, 89, 90, 91, 92, 93, 94, 95, 96, 97, 98, 99, 100, 101] (by decide +kernel) (by decide +kernel)
set_option maxRecDepth 20000 in
theorem gX4_withArms_X4_stepsUntilStopped : GoodIn wsX4_withArms (wsV RX4 233 RX4 yX4_stepsUntilStopped wsX4_stepsUntilStopped) := goodIn_app (goodIn_of _ (by decide +kernel)) ggX4_withArms_X4_stepsUntilStopped
theorem dX4_withArms_0 : decode cX4_withArms 0 = .ok (.lload_n 1, 1) := by decide +kernel
theorem dX4_withArms_1 : decode cX4_withArms 1 = .ok (.lstore_n 3, 1) := by decide +kernel
theorem dX4_withArms_2 : decode cX4_withArms 2 = .ok (.iconst 0, 1) := by decide +kernel
theorem dX4_withArms_3 : decode cX4_withArms 3 = .ok (.istore 5, 2) := by decide +kernel
theorem dX4_withArms_5 : decode cX4_withArms 5 = .ok (.iload 5, 2) := by decide +kernel
theorem dX4_withArms_7 : decode cX4_withArms 7 = .ok (.aload_n 0, 1) := by decide +kernel
theorem dX4_withArms_8 : decode cX4_withArms 8 = .ok (.getfield 10, 3) := by decide +kernel
theorem dX4_withArms_11 : decode cX4_withArms 11 = .ok (.invokevirtual 307, 3) := by decide +kernel
theorem dX4_withArms_14 : decode cX4_withArms 14 = .ok (.if_icmp .ge 58, 3) := by decide +kernel
theorem dX4_withArms_17 : decode cX4_withArms 17 = .ok (.iconst 0, 1) := by decide +kernel
theorem dX4_withArms_18 : decode cX4_withArms 18 = .ok (.istore 6, 2) := by decide +kernel
theorem dX4_withArms_20 : decode cX4_withArms 20 = .ok (.iload 6, 2) := by decide +kernel
theorem dX4_withArms_22 : decode cX4_withArms 22 = .ok (.bipush 9, 2) := by decide +kernel
theorem dX4_withArms_24 : decode cX4_withArms 24 = .ok (.if_icmp .ge 28, 3) := by decide +kernel
theorem dX4_withArms_27 : decode cX4_withArms 27 = .ok (.ldc2_w 246, 3) := by decide +kernel
theorem dX4_withArms_30 : decode cX4_withArms 30 = .ok (.lload_n 3, 1) := by decide +kernel
theorem dX4_withArms_31 : decode cX4_withArms 31 = .ok (.lmul, 1) := by decide +kernel
theorem dX4_withArms_32 : decode cX4_withArms 32 = .ok (.aload_n 0, 1) := by decide +kernel
theorem dX4_withArms_33 : decode cX4_withArms 33 = .ok (.getfield 10, 3) := by decide +kernel
theorem dX4_withArms_36 : decode cX4_withArms 36 = .ok (.iload 5, 2) := by decide +kernel
theorem dX4_withArms_38 : decode cX4_withArms 38 = .ok (.iload 6, 2) := by decide +kernel
theorem dX4_withArms_40 : decode cX4_withArms 40 = .ok (.invokevirtual 199, 3) := by decide +kernel
theorem dX4_withArms_43 : decode cX4_withArms 43 = .ok (.i2l, 1) := by decide +kernel
theorem dX4_withArms_44 : decode cX4_withArms 44 = .ok (.ladd, 1) := by decide +kernel
theorem dX4_withArms_45 : decode cX4_withArms 45 = .ok (.lstore_n 3, 1) := by decide +kernel
theorem dX4_withArms_46 : decode cX4_withArms 46 = .ok (.iinc 6 1, 3) := by decide +kernel
theorem dX4_withArms_49 : decode cX4_withArms 49 = .ok (.goto (-29), 3) := by decide +kernel
theorem dX4_withArms_52 : decode cX4_withArms 52 = .ok (.ldc2_w 246, 3) := by decide +kernel
theorem dX4_withArms_55 : decode cX4_withArms 55 = .ok (.lload_n 3, 1) := by decide +kernel
theorem dX4_withArms_56 : decode cX4_withArms 56 = .ok (.lmul, 1) := by decide +kernel
theorem dX4_withArms_57 : decode cX4_withArms 57 = .ok (.aload_n 0, 1) := by decide +kernel
theorem dX4_withArms_58 : decode cX4_withArms 58 = .ok (.iload 5, 2) := by decide +kernel
theorem dX4_withArms_60 : decode cX4_withArms 60 = .ok (.invokevirtual 233, 3) := by decide +kernel
theorem dX4_withArms_63 : decode cX4_withArms 63 = .ok (.i2l, 1) := by decide +kernel
theorem dX4_withArms_64 : decode cX4_withArms 64 = .ok (.ladd, 1) := by decide +kernel
theorem dX4_withArms_65 : decode cX4_withArms 65 = .ok (.lstore_n 3, 1) := by decide +kernel
theorem dX4_withArms_66 : decode cX4_withArms 66 = .ok (.iinc 5 1, 3) := by decide +kernel
theorem dX4_withArms_69 : decode cX4_withArms 69 = .ok (.goto (-64), 3) := by decide +kernel
theorem dX4_withArms_72 : decode cX4_withArms 72 = .ok (.lload_n 3, 1) := by decide +kernel
theorem dX4_withArms_73 : decode cX4_withArms 73 = .ok (.lreturn, 1) := by decide +kernel
set_option maxRecDepth 20000 in
theorem ggX4_withDistances_X0_size : GoodIn wsX4_withDistances wsX0_size := goodIn_r _ [7, 8, 33, 34, 35, 36, 37, 38, 39, 40, 41, 42, 43, 44, 45, 46] (by decide +kernel) (by decide +kernel)
set_option maxRecDepth 20000 in
theorem gX4_withDistances_X0_size : GoodIn wsX4_withDistances (wsV RX4 307 RX0 yX0_size wsX0_size) := goodIn_app (goodIn_of _ (by decide +kernel)) ggX4_withDistances_X0_size
set_option maxRecDepth 20000 in
theorem ggX4_withDistances_X0_distance : GoodIn wsX4_withDistances wsX0_distance := goodIn_r _ [12, 13, 14, 15, 16, 17, 18, 19, 20, 21, 22, 23, 6, 24, 8, 33, 34, 35, 36, 37, 38, 39, 40, 41, 42, 43, 44, 45, 46] (by decide +kernel) (by decide +kernel)
set_option maxRecDepth 20000 in
theorem gX4_withDistances_X0_distance : GoodIn wsX4_withDistances (wsV RX4 204 RX0 yX0_distance wsX0_distance) := goodIn_app (goodIn_of _ (by decide +kernel)) ggX4_withDistances_X0_distance
theorem dX4_withDistances_0 : decode cX4_withDistances 0 = .ok (.lload_n 1, 1) := by decide +kernel
theorem dX4_withDistances_1 : decode cX4_withDistances 1 = .ok (.lstore_n 3, 1) := by decide +kernel
theorem dX4_withDistances_2 : decode cX4_withDistances 2 = .ok (.iconst 0, 1) := by decide +kernel
theorem dX4_withDistances_3 : decode cX4_withDistances 3 = .ok (.istore 5, 2) := by decide +kernel
theorem dX4_withDistances_5 : decode cX4_withDistances 5 = .ok (.iload 5, 2) := by decide +kernel
theorem dX4_withDistances_7 : decode cX4_withDistances 7 = .ok (.aload_n 0, 1) := by decide +kernel
theorem dX4_withDistances_8 : decode cX4_withDistances 8 = .ok (.getfield 10, 3) := by decide +kernel
theorem dX4_withDistances_11 : decode cX4_withDistances 11 = .ok (.invokevirtual 307, 3) := by decide +kernel
theorem dX4_withDistances_14 : decode cX4_withDistances 14 = .ok (.if_icmp .ge 52, 3) := by decide +kernel
theorem dX4_withDistances_17 : decode cX4_withDistances 17 = .ok (.iload 5, 2) := by decide +kernel
theorem dX4_withDistances_19 : decode cX4_withDistances 19 = .ok (.iconst 1, 1) := by decide +kernel
theorem dX4_withDistances_20 : decode cX4_withDistances 20 = .ok (.iadd, 1) := by decide +kernel
theorem dX4_withDistances_21 : decode cX4_withDistances 21 = .ok (.istore 6, 2) := by decide +kernel
theorem dX4_withDistances_23 : decode cX4_withDistances 23 = .ok (.iload 6, 2) := by decide +kernel
theorem dX4_withDistances_25 : decode cX4_withDistances 25 = .ok (.aload_n 0, 1) := by decide +kernel
theorem dX4_withDistances_26 : decode cX4_withDistances 26 = .ok (.getfield 10, 3) := by decide +kernel
theorem dX4_withDistances_29 : decode cX4_withDistances 29 = .ok (.invokevirtual 307, 3) := by decide +kernel
theorem dX4_withDistances_32 : decode cX4_withDistances 32 = .ok (.if_icmp .ge 28, 3) := by decide +kernel
theorem dX4_withDistances_35 : decode cX4_withDistances 35 = .ok (.ldc2_w 246, 3) := by decide +kernel
theorem dX4_withDistances_38 : decode cX4_withDistances 38 = .ok (.lload_n 3, 1) := by decide +kernel
theorem dX4_withDistances_39 : decode cX4_withDistances 39 = .ok (.lmul, 1) := by decide +kernel
theorem dX4_withDistances_40 : decode cX4_withDistances 40 = .ok (.aload_n 0, 1) := by decide +kernel
theorem dX4_withDistances_41 : decode cX4_withDistances 41 = .ok (.getfield 10, 3) := by decide +kernel
theorem dX4_withDistances_44 : decode cX4_withDistances 44 = .ok (.iload 5, 2) := by decide +kernel
theorem dX4_withDistances_46 : decode cX4_withDistances 46 = .ok (.iload 6, 2) := by decide +kernel
theorem dX4_withDistances_48 : decode cX4_withDistances 48 = .ok (.invokevirtual 204, 3) := by decide +kernel
theorem dX4_withDistances_51 : decode cX4_withDistances 51 = .ok (.i2l, 1) := by decide +kernel
theorem dX4_withDistances_52 : decode cX4_withDistances 52 = .ok (.ladd, 1) := by decide +kernel
theorem dX4_withDistances_53 : decode cX4_withDistances 53 = .ok (.lstore_n 3, 1) := by decide +kernel
theorem dX4_withDistances_54 : decode cX4_withDistances 54 = .ok (.iinc 6 1, 3) := by decide +kernel
theorem dX4_withDistances_57 : decode cX4_withDistances 57 = .ok (.goto (-34), 3) := by decide +kernel
theorem dX4_withDistances_60 : decode cX4_withDistances 60 = .ok (.iinc 5 1, 3) := by decide +kernel
theorem dX4_withDistances_63 : decode cX4_withDistances 63 = .ok (.goto (-58), 3) := by decide +kernel
theorem dX4_withDistances_66 : decode cX4_withDistances 66 = .ok (.lload_n 3, 1) := by decide +kernel
theorem dX4_withDistances_67 : decode cX4_withDistances 67 = .ok (.lreturn, 1) := by decide +kernel
set_option maxRecDepth 20000 in
theorem ggX4_withSlotsAndText_X3_size : GoodIn wsX4_withSlotsAndText wsX3_size := goodIn_r _ [8, 9, 23, 24] (by decide +kernel) (by decide +kernel)
set_option maxRecDepth 20000 in
theorem gX4_withSlotsAndText_X3_size : GoodIn wsX4_withSlotsAndText (wsV RX4 164 RX3 yX3_size wsX3_size) := goodIn_app (goodIn_of _ (by decide +kernel)) ggX4_withSlotsAndText_X3_size
set_option maxRecDepth 20000 in
theorem ggX4_withSlotsAndText_X3_signAt : GoodIn wsX4_withSlotsAndText wsX3_signAt := goodIn_r _ [13, 9, 14, 23, 24] (by decide +kernel) (by decide +kernel)
set_option maxRecDepth 20000 in
theorem gX4_withSlotsAndText_X3_signAt : GoodIn wsX4_withSlotsAndText (wsV RX4 268 RX3 yX3_signAt wsX3_signAt) := goodIn_app (goodIn_of _ (by decide +kernel)) ggX4_withSlotsAndText_X3_signAt
theorem dX4_withSlotsAndText_0 : decode cX4_withSlotsAndText 0 = .ok (.lload_n 1, 1) := by decide +kernel
theorem dX4_withSlotsAndText_1 : decode cX4_withSlotsAndText 1 = .ok (.lstore_n 3, 1) := by decide +kernel
theorem dX4_withSlotsAndText_2 : decode cX4_withSlotsAndText 2 = .ok (.iconst 0, 1) := by decide +kernel
theorem dX4_withSlotsAndText_3 : decode cX4_withSlotsAndText 3 = .ok (.istore 5, 2) := by decide +kernel
theorem dX4_withSlotsAndText_5 : decode cX4_withSlotsAndText 5 = .ok (.iload 5, 2) := by decide +kernel
theorem dX4_withSlotsAndText_7 : decode cX4_withSlotsAndText 7 = .ok (.iconst 2, 1) := by decide +kernel
theorem dX4_withSlotsAndText_8 : decode cX4_withSlotsAndText 8 = .ok (.if_icmp .ge 32, 3) := by decide +kernel
theorem dX4_withSlotsAndText_11 : decode cX4_withSlotsAndText 11 = .ok (.ldc2_w 246, 3) := by decide +kernel
theorem dX4_withSlotsAndText_14 : decode cX4_withSlotsAndText 14 = .ok (.lload_n 3, 1) := by decide +kernel
theorem dX4_withSlotsAndText_15 : decode cX4_withSlotsAndText 15 = .ok (.lmul, 1) := by decide +kernel
theorem dX4_withSlotsAndText_16 : decode cX4_withSlotsAndText 16 = .ok (.aload_n 0, 1) := by decide +kernel
theorem dX4_withSlotsAndText_17 : decode cX4_withSlotsAndText 17 = .ok (.getfield 25, 3) := by decide +kernel
theorem dX4_withSlotsAndText_20 : decode cX4_withSlotsAndText 20 = .ok (.iload 5, 2) := by decide +kernel
theorem dX4_withSlotsAndText_22 : decode cX4_withSlotsAndText 22 = .ok (.baload, 1) := by decide +kernel
theorem dX4_withSlotsAndText_23 : decode cX4_withSlotsAndText 23 = .ok (.ifCond .eq 7, 3) := by decide +kernel
theorem dX4_withSlotsAndText_26 : decode cX4_withSlotsAndText 26 = .ok (.iconst 1, 1) := by decide +kernel
theorem dX4_withSlotsAndText_27 : decode cX4_withSlotsAndText 27 = .ok (.goto 4, 3) := by decide +kernel
theorem dX4_withSlotsAndText_30 : decode cX4_withSlotsAndText 30 = .ok (.iconst 0, 1) := by decide +kernel
theorem dX4_withSlotsAndText_31 : decode cX4_withSlotsAndText 31 = .ok (.i2l, 1) := by decide +kernel
theorem dX4_withSlotsAndText_32 : decode cX4_withSlotsAndText 32 = .ok (.ladd, 1) := by decide +kernel
theorem dX4_withSlotsAndText_33 : decode cX4_withSlotsAndText 33 = .ok (.lstore_n 3, 1) := by decide +kernel
theorem dX4_withSlotsAndText_34 : decode cX4_withSlotsAndText 34 = .ok (.iinc 5 1, 3) := by decide +kernel
theorem dX4_withSlotsAndText_37 : decode cX4_withSlotsAndText 37 = .ok (.goto (-32), 3) := by decide +kernel
theorem dX4_withSlotsAndText_40 : decode cX4_withSlotsAndText 40 = .ok (.ldc2_w 246, 3) := by decide +kernel
theorem dX4_withSlotsAndText_43 : decode cX4_withSlotsAndText 43 = .ok (.lload_n 3, 1) := by decide +kernel
theorem dX4_withSlotsAndText_44 : decode cX4_withSlotsAndText 44 = .ok (.lmul, 1) := by decide +kernel
theorem dX4_withSlotsAndText_45 : decode cX4_withSlotsAndText 45 = .ok (.aload_n 0, 1) := by decide +kernel
theorem dX4_withSlotsAndText_46 : decode cX4_withSlotsAndText 46 = .ok (.getfield 39, 3) := by decide +kernel
theorem dX4_withSlotsAndText_49 : decode cX4_withSlotsAndText 49 = .ok (.invokevirtual 164, 3) := by decide +kernel
theorem dX4_withSlotsAndText_52 : decode cX4_withSlotsAndText 52 = .ok (.i2l, 1) := by decide +kernel
theorem dX4_withSlotsAndText_53 : decode cX4_withSlotsAndText 53 = .ok (.ladd, 1) := by decide +kernel
theorem dX4_withSlotsAndText_54 : decode cX4_withSlotsAndText 54 = .ok (.lstore_n 3, 1) := by decide +kernel
theorem dX4_withSlotsAndText_55 : decode cX4_withSlotsAndText 55 = .ok (.iconst 0, 1) := by decide +kernel
theorem dX4_withSlotsAndText_56 : decode cX4_withSlotsAndText 56 = .ok (.istore 5, 2) := by decide +kernel
theorem dX4_withSlotsAndText_58 : decode cX4_withSlotsAndText 58 = .ok (.iload 5, 2) := by decide +kernel
theorem dX4_withSlotsAndText_60 : decode cX4_withSlotsAndText 60 = .ok (.aload_n 0, 1) := by decide +kernel
theorem dX4_withSlotsAndText_61 : decode cX4_withSlotsAndText 61 = .ok (.getfield 39, 3) := by decide +kernel
theorem dX4_withSlotsAndText_64 : decode cX4_withSlotsAndText 64 = .ok (.invokevirtual 164, 3) := by decide +kernel
theorem dX4_withSlotsAndText_67 : decode cX4_withSlotsAndText 67 = .ok (.if_icmp .ge 26, 3) := by decide +kernel
theorem dX4_withSlotsAndText_70 : decode cX4_withSlotsAndText 70 = .ok (.ldc2_w 246, 3) := by decide +kernel
theorem dX4_withSlotsAndText_73 : decode cX4_withSlotsAndText 73 = .ok (.lload_n 3, 1) := by decide +kernel
theorem dX4_withSlotsAndText_74 : decode cX4_withSlotsAndText 74 = .ok (.lmul, 1) := by decide +kernel
theorem dX4_withSlotsAndText_75 : decode cX4_withSlotsAndText 75 = .ok (.aload_n 0, 1) := by decide +kernel
theorem dX4_withSlotsAndText_76 : decode cX4_withSlotsAndText 76 = .ok (.getfield 39, 3) := by decide +kernel
theorem dX4_withSlotsAndText_79 : decode cX4_withSlotsAndText 79 = .ok (.iload 5, 2) := by decide +kernel
theorem dX4_withSlotsAndText_81 : decode cX4_withSlotsAndText 81 = .ok (.invokevirtual 268, 3) := by decide +kernel
theorem dX4_withSlotsAndText_84 : decode cX4_withSlotsAndText 84 = .ok (.i2l, 1) := by decide +kernel
theorem dX4_withSlotsAndText_85 : decode cX4_withSlotsAndText 85 = .ok (.ladd, 1) := by decide +kernel
theorem dX4_withSlotsAndText_86 : decode cX4_withSlotsAndText 86 = .ok (.lstore_n 3, 1) := by decide +kernel
theorem dX4_withSlotsAndText_87 : decode cX4_withSlotsAndText 87 = .ok (.iinc 5 1, 3) := by decide +kernel
theorem dX4_withSlotsAndText_90 : decode cX4_withSlotsAndText 90 = .ok (.goto (-32), 3) := by decide +kernel
theorem dX4_withSlotsAndText_93 : decode cX4_withSlotsAndText 93 = .ok (.lload_n 3, 1) := by decide +kernel
theorem dX4_withSlotsAndText_94 : decode cX4_withSlotsAndText 94 = .ok (.lreturn, 1) := by decide +kernel
theorem dX4_bitsOfShare_0 : decode cX4_bitsOfShare 0 = .ok (.dload_n 0, 1) := by decide +kernel
theorem dX4_bitsOfShare_1 : decode cX4_bitsOfShare 1 = .ok (.dconst 0, 1) := by decide +kernel
theorem dX4_bitsOfShare_2 : decode cX4_bitsOfShare 2 = .ok (.dcmp .g, 1) := by decide +kernel
theorem dX4_bitsOfShare_3 : decode cX4_bitsOfShare 3 = .ok (.ifCond .gt 5, 3) := by decide +kernel
theorem dX4_bitsOfShare_6 : decode cX4_bitsOfShare 6 = .ok (.lconst 0, 1) := by decide +kernel
theorem dX4_bitsOfShare_7 : decode cX4_bitsOfShare 7 = .ok (.lreturn, 1) := by decide +kernel
theorem dX4_bitsOfShare_8 : decode cX4_bitsOfShare 8 = .ok (.dload_n 0, 1) := by decide +kernel
theorem dX4_bitsOfShare_9 : decode cX4_bitsOfShare 9 = .ok (.dstore_n 2, 1) := by decide +kernel
theorem dX4_bitsOfShare_10 : decode cX4_bitsOfShare 10 = .ok (.ldc2_w 308, 3) := by decide +kernel
theorem dX4_bitsOfShare_13 : decode cX4_bitsOfShare 13 = .ok (.lstore 4, 2) := by decide +kernel
theorem dX4_bitsOfShare_15 : decode cX4_bitsOfShare 15 = .ok (.iconst 0, 1) := by decide +kernel
theorem dX4_bitsOfShare_16 : decode cX4_bitsOfShare 16 = .ok (.istore 6, 2) := by decide +kernel
theorem dX4_bitsOfShare_18 : decode cX4_bitsOfShare 18 = .ok (.iload 6, 2) := by decide +kernel
theorem dX4_bitsOfShare_20 : decode cX4_bitsOfShare 20 = .ok (.sipush 1022, 3) := by decide +kernel
theorem dX4_bitsOfShare_23 : decode cX4_bitsOfShare 23 = .ok (.if_icmp .ge 27, 3) := by decide +kernel
theorem dX4_bitsOfShare_26 : decode cX4_bitsOfShare 26 = .ok (.dload_n 2, 1) := by decide +kernel
theorem dX4_bitsOfShare_27 : decode cX4_bitsOfShare 27 = .ok (.dconst 1, 1) := by decide +kernel
theorem dX4_bitsOfShare_28 : decode cX4_bitsOfShare 28 = .ok (.dcmp .g, 1) := by decide +kernel
theorem dX4_bitsOfShare_29 : decode cX4_bitsOfShare 29 = .ok (.ifCond .ge 21, 3) := by decide +kernel
theorem dX4_bitsOfShare_32 : decode cX4_bitsOfShare 32 = .ok (.dload_n 2, 1) := by decide +kernel
theorem dX4_bitsOfShare_33 : decode cX4_bitsOfShare 33 = .ok (.ldc2_w 310, 3) := by decide +kernel
theorem dX4_bitsOfShare_36 : decode cX4_bitsOfShare 36 = .ok (.dmul, 1) := by decide +kernel
theorem dX4_bitsOfShare_37 : decode cX4_bitsOfShare 37 = .ok (.dstore_n 2, 1) := by decide +kernel
theorem dX4_bitsOfShare_38 : decode cX4_bitsOfShare 38 = .ok (.lload 4, 2) := by decide +kernel
theorem dX4_bitsOfShare_40 : decode cX4_bitsOfShare 40 = .ok (.lconst 1, 1) := by decide +kernel
theorem dX4_bitsOfShare_41 : decode cX4_bitsOfShare 41 = .ok (.lsub, 1) := by decide +kernel
theorem dX4_bitsOfShare_42 : decode cX4_bitsOfShare 42 = .ok (.lstore 4, 2) := by decide +kernel
theorem dX4_bitsOfShare_44 : decode cX4_bitsOfShare 44 = .ok (.iinc 6 1, 3) := by decide +kernel
theorem dX4_bitsOfShare_47 : decode cX4_bitsOfShare 47 = .ok (.goto (-29), 3) := by decide +kernel
theorem dX4_bitsOfShare_50 : decode cX4_bitsOfShare 50 = .ok (.dload_n 2, 1) := by decide +kernel
theorem dX4_bitsOfShare_51 : decode cX4_bitsOfShare 51 = .ok (.dconst 1, 1) := by decide +kernel
theorem dX4_bitsOfShare_52 : decode cX4_bitsOfShare 52 = .ok (.dsub, 1) := by decide +kernel
theorem dX4_bitsOfShare_53 : decode cX4_bitsOfShare 53 = .ok (.ldc2_w 312, 3) := by decide +kernel
theorem dX4_bitsOfShare_56 : decode cX4_bitsOfShare 56 = .ok (.dmul, 1) := by decide +kernel
theorem dX4_bitsOfShare_57 : decode cX4_bitsOfShare 57 = .ok (.d2l, 1) := by decide +kernel
theorem dX4_bitsOfShare_58 : decode cX4_bitsOfShare 58 = .ok (.lstore 6, 2) := by decide +kernel
theorem dX4_bitsOfShare_60 : decode cX4_bitsOfShare 60 = .ok (.lload 4, 2) := by decide +kernel
theorem dX4_bitsOfShare_62 : decode cX4_bitsOfShare 62 = .ok (.bipush 52, 2) := by decide +kernel
theorem dX4_bitsOfShare_64 : decode cX4_bitsOfShare 64 = .ok (.lshl, 1) := by decide +kernel
theorem dX4_bitsOfShare_65 : decode cX4_bitsOfShare 65 = .ok (.lload 6, 2) := by decide +kernel
theorem dX4_bitsOfShare_67 : decode cX4_bitsOfShare 67 = .ok (.ladd, 1) := by decide +kernel
theorem dX4_bitsOfShare_68 : decode cX4_bitsOfShare 68 = .ok (.lreturn, 1) := by decide +kernel
theorem dX5_init_0 : decode cX5_init 0 = .ok (.aload_n 0, 1) := by decide +kernel
theorem dX5_init_1 : decode cX5_init 1 = .ok (.invokespecial 1, 3) := by decide +kernel
theorem dX5_init_4 : decode cX5_init 4 = .ok (.aload_n 0, 1) := by decide +kernel
theorem dX5_init_5 : decode cX5_init 5 = .ok (.bipush 39, 2) := by decide +kernel
theorem dX5_init_7 : decode cX5_init 7 = .ok (.newarray .int, 2) := by decide +kernel
theorem dX5_init_9 : decode cX5_init 9 = .ok (.putfield 7, 3) := by decide +kernel
theorem dX5_init_12 : decode cX5_init 12 = .ok (.aload_n 0, 1) := by decide +kernel
theorem dX5_init_13 : decode cX5_init 13 = .ok (.bipush 39, 2) := by decide +kernel
theorem dX5_init_15 : decode cX5_init 15 = .ok (.newarray .int, 2) := by decide +kernel
theorem dX5_init_17 : decode cX5_init 17 = .ok (.putfield 13, 3) := by decide +kernel
theorem dX5_init_20 : decode cX5_init 20 = .ok (.aload_n 0, 1) := by decide +kernel
theorem dX5_init_21 : decode cX5_init 21 = .ok (.sipush 234, 3) := by decide +kernel
theorem dX5_init_24 : decode cX5_init 24 = .ok (.newarray .int, 2) := by decide +kernel
theorem dX5_init_26 : decode cX5_init 26 = .ok (.putfield 16, 3) := by decide +kernel
theorem dX5_init_29 : decode cX5_init 29 = .ok (.aload_n 0, 1) := by decide +kernel
theorem dX5_init_30 : decode cX5_init 30 = .ok (.bipush 78, 2) := by decide +kernel
theorem dX5_init_32 : decode cX5_init 32 = .ok (.newarray .int, 2) := by decide +kernel
theorem dX5_init_34 : decode cX5_init 34 = .ok (.putfield 19, 3) := by decide +kernel
theorem dX5_init_37 : decode cX5_init 37 = .ok (.aload_n 0, 1) := by decide +kernel
theorem dX5_init_38 : decode cX5_init 38 = .ok (.iconst 2, 1) := by decide +kernel
theorem dX5_init_39 : decode cX5_init 39 = .ok (.newarray .boolean, 2) := by decide +kernel
theorem dX5_init_41 : decode cX5_init 41 = .ok (.putfield 22, 3) := by decide +kernel
theorem dX5_init_44 : decode cX5_init 44 = .ok (.aload_n 0, 1) := by decide +kernel
theorem dX5_init_45 : decode cX5_init 45 = .ok (.bipush 60, 2) := by decide +kernel
theorem dX5_init_47 : decode cX5_init 47 = .ok (.newarray .int, 2) := by decide +kernel
theorem dX5_init_49 : decode cX5_init 49 = .ok (.putfield 26, 3) := by decide +kernel
theorem dX5_init_52 : decode cX5_init 52 = .ok (.aload_n 0, 1) := by decide +kernel
theorem dX5_init_53 : decode cX5_init 53 = .ok (.bipush 124, 2) := by decide +kernel
theorem dX5_init_55 : decode cX5_init 55 = .ok (.newarray .int, 2) := by decide +kernel
theorem dX5_init_57 : decode cX5_init 57 = .ok (.putfield 29, 3) := by decide +kernel
theorem dX5_init_60 : decode cX5_init 60 = .ok (.aload_n 0, 1) := by decide +kernel
theorem dX5_init_61 : decode cX5_init 61 = .ok (.getfield 7, 3) := by decide +kernel
theorem dX5_init_64 : decode cX5_init 64 = .ok (.iconst 0, 1) := by decide +kernel
theorem dX5_init_65 : decode cX5_init 65 = .ok (.bipush 50, 2) := by decide +kernel
theorem dX5_init_67 : decode cX5_init 67 = .ok (.iastore, 1) := by decide +kernel
theorem dX5_init_68 : decode cX5_init 68 = .ok (.aload_n 0, 1) := by decide +kernel
theorem dX5_init_69 : decode cX5_init 69 = .ok (.getfield 7, 3) := by decide +kernel
theorem dX5_init_72 : decode cX5_init 72 = .ok (.iconst 1, 1) := by decide +kernel
theorem dX5_init_73 : decode cX5_init 73 = .ok (.bipush 10, 2) := by decide +kernel
theorem dX5_init_75 : decode cX5_init 75 = .ok (.iastore, 1) := by decide +kernel
theorem dX5_init_76 : decode cX5_init 76 = .ok (.aload_n 0, 1) := by decide +kernel
theorem dX5_init_77 : decode cX5_init 77 = .ok (.getfield 7, 3) := by decide +kernel
theorem dX5_init_80 : decode cX5_init 80 = .ok (.iconst 2, 1) := by decide +kernel
theorem dX5_init_81 : decode cX5_init 81 = .ok (.bipush 50, 2) := by decide +kernel
theorem dX5_init_83 : decode cX5_init 83 = .ok (.iastore, 1) := by decide +kernel
theorem dX5_init_84 : decode cX5_init 84 = .ok (.return_, 1) := by decide +kernel
theorem dX5_thrown_0 : decode cX5_thrown 0 = .ok (.aload_n 0, 1) := by decide +kernel
theorem dX5_thrown_1 : decode cX5_thrown 1 = .ok (.getfield 32, 3) := by decide +kernel
theorem dX5_thrown_4 : decode cX5_thrown 4 = .ok (.ireturn, 1) := by decide +kernel
theorem dX5_fails_0 : decode cX5_fails 0 = .ok (.aload_n 0, 1) := by decide +kernel
theorem dX5_fails_1 : decode cX5_fails 1 = .ok (.iload_n 1, 1) := by decide +kernel
theorem dX5_fails_2 : decode cX5_fails 2 = .ok (.putfield 32, 3) := by decide +kernel
theorem dX5_fails_5 : decode cX5_fails 5 = .ok (.iconst 0, 1) := by decide +kernel
theorem dX5_fails_6 : decode cX5_fails 6 = .ok (.ireturn, 1) := by decide +kernel
theorem dX5_in_0 : decode cX5_in 0 = .ok (.iload_n 0, 1) := by decide +kernel
theorem dX5_in_1 : decode cX5_in 1 = .ok (.iload_n 1, 1) := by decide +kernel
theorem dX5_in_2 : decode cX5_in 2 = .ok (.if_icmp .lt 12, 3) := by decide +kernel
theorem dX5_in_5 : decode cX5_in 5 = .ok (.iload_n 0, 1) := by decide +kernel
theorem dX5_in_6 : decode cX5_in 6 = .ok (.iload_n 2, 1) := by decide +kernel
theorem dX5_in_7 : decode cX5_in 7 = .ok (.if_icmp .gt 7, 3) := by decide +kernel
theorem dX5_in_10 : decode cX5_in 10 = .ok (.iconst 1, 1) := by decide +kernel
theorem dX5_in_11 : decode cX5_in 11 = .ok (.goto 4, 3) := by decide +kernel
theorem dX5_in_14 : decode cX5_in 14 = .ok (.iconst 0, 1) := by decide +kernel
theorem dX5_in_15 : decode cX5_in 15 = .ok (.ireturn, 1) := by decide +kernel
set_option maxRecDepth 20000 in
theorem ggX5_isArm_X5_in : GoodIn wsX5_isArm wsX5_in := goodIn_r _ [5] (by decide +kernel) (by decide +kernel)
set_option maxRecDepth 20000 in
theorem gX5_isArm_X5_in : GoodIn wsX5_isArm (va_wsS RX5 36 yX5_in wsX5_in) := goodIn_app (goodIn_of _ (by decide +kernel)) ggX5_isArm_X5_in
theorem dX5_isArm_0 : decode cX5_isArm 0 = .ok (.iload_n 1, 1) := by decide +kernel
theorem dX5_isArm_1 : decode cX5_isArm 1 = .ok (.iconst 0, 1) := by decide +kernel
theorem dX5_isArm_2 : decode cX5_isArm 2 = .ok (.aload_n 0, 1) := by decide +kernel
theorem dX5_isArm_3 : decode cX5_isArm 3 = .ok (.getfield 7, 3) := by decide +kernel
theorem dX5_isArm_6 : decode cX5_isArm 6 = .ok (.iconst 3, 1) := by decide +kernel
theorem dX5_isArm_7 : decode cX5_isArm 7 = .ok (.iaload, 1) := by decide +kernel
theorem dX5_isArm_8 : decode cX5_isArm 8 = .ok (.iconst 1, 1) := by decide +kernel
theorem dX5_isArm_9 : decode cX5_isArm 9 = .ok (.isub, 1) := by decide +kernel
theorem dX5_isArm_10 : decode cX5_isArm 10 = .ok (.invokestatic 36, 3) := by decide +kernel
theorem dX5_isArm_13 : decode cX5_isArm 13 = .ok (.ireturn, 1) := by decide +kernel
theorem dX5_of_0 : decode cX5_of 0 = .ok (.aload_n 0, 1) := by decide +kernel
theorem dX5_of_1 : decode cX5_of 1 = .ok (.bipush 9, 2) := by decide +kernel
theorem dX5_of_3 : decode cX5_of 3 = .ok (.iconst 5, 1) := by decide +kernel
theorem dX5_of_4 : decode cX5_of 4 = .ok (.iload_n 1, 1) := by decide +kernel
theorem dX5_of_5 : decode cX5_of 5 = .ok (.imul, 1) := by decide +kernel
theorem dX5_of_6 : decode cX5_of 6 = .ok (.iadd, 1) := by decide +kernel
theorem dX5_of_7 : decode cX5_of 7 = .ok (.iload_n 2, 1) := by decide +kernel
theorem dX5_of_8 : decode cX5_of 8 = .ok (.iadd, 1) := by decide +kernel
theorem dX5_of_9 : decode cX5_of 9 = .ok (.iaload, 1) := by decide +kernel
theorem dX5_of_10 : decode cX5_of 10 = .ok (.ireturn, 1) := by decide +kernel
set_option maxRecDepth 20000 in
theorem ggX5_goes_X5_of : GoodIn wsX5_goes wsX5_of := goodIn_r _ [4] (by decide +kernel) (by decide +kernel)
set_option maxRecDepth 20000 in
theorem gX5_goes_X5_of : GoodIn wsX5_goes (va_wsS RX5 40 yX5_of wsX5_of) := goodIn_app (goodIn_of _ (by decide +kernel)) ggX5_goes_X5_of
theorem dX5_goes_0 : decode cX5_goes 0 = .ok (.aload_n 0, 1) := by decide +kernel
theorem dX5_goes_1 : decode cX5_goes 1 = .ok (.iload_n 1, 1) := by decide +kernel
theorem dX5_goes_2 : decode cX5_goes 2 = .ok (.iconst 3, 1) := by decide +kernel
theorem dX5_goes_3 : decode cX5_goes 3 = .ok (.invokestatic 40, 3) := by decide +kernel
theorem dX5_goes_6 : decode cX5_goes 6 = .ok (.ifCond .ne 16, 3) := by decide +kernel
theorem dX5_goes_9 : decode cX5_goes 9 = .ok (.aload_n 0, 1) := by decide +kernel
theorem dX5_goes_10 : decode cX5_goes 10 = .ok (.iload_n 1, 1) := by decide +kernel
theorem dX5_goes_11 : decode cX5_goes 11 = .ok (.iconst 2, 1) := by decide +kernel
theorem dX5_goes_12 : decode cX5_goes 12 = .ok (.invokestatic 40, 3) := by decide +kernel
theorem dX5_goes_15 : decode cX5_goes 15 = .ok (.ifCond .le 7, 3) := by decide +kernel
theorem dX5_goes_18 : decode cX5_goes 18 = .ok (.iconst 1, 1) := by decide +kernel
theorem dX5_goes_19 : decode cX5_goes 19 = .ok (.goto 4, 3) := by decide +kernel
theorem dX5_goes_22 : decode cX5_goes 22 = .ok (.iconst 0, 1) := by decide +kernel
theorem dX5_goes_23 : decode cX5_goes 23 = .ok (.ireturn, 1) := by decide +kernel
theorem dX5_copies_0 : decode cX5_copies 0 = .ok (.iconst 0, 1) := by decide +kernel
theorem dX5_copies_1 : decode cX5_copies 1 = .ok (.istore 4, 2) := by decide +kernel
theorem dX5_copies_3 : decode cX5_copies 3 = .ok (.iload 4, 2) := by decide +kernel
theorem dX5_copies_5 : decode cX5_copies 5 = .ok (.bipush 39, 2) := by decide +kernel
theorem dX5_copies_7 : decode cX5_copies 7 = .ok (.if_icmp .ge 21, 3) := by decide +kernel
theorem dX5_copies_10 : decode cX5_copies 10 = .ok (.aload_n 2, 1) := by decide +kernel
theorem dX5_copies_11 : decode cX5_copies 11 = .ok (.iload_n 3, 1) := by decide +kernel
theorem dX5_copies_12 : decode cX5_copies 12 = .ok (.iload 4, 2) := by decide +kernel
theorem dX5_copies_14 : decode cX5_copies 14 = .ok (.iadd, 1) := by decide +kernel
theorem dX5_copies_15 : decode cX5_copies 15 = .ok (.aload_n 0, 1) := by decide +kernel
theorem dX5_copies_16 : decode cX5_copies 16 = .ok (.iload_n 1, 1) := by decide +kernel
theorem dX5_copies_17 : decode cX5_copies 17 = .ok (.iload 4, 2) := by decide +kernel
theorem dX5_copies_19 : decode cX5_copies 19 = .ok (.iadd, 1) := by decide +kernel
theorem dX5_copies_20 : decode cX5_copies 20 = .ok (.iaload, 1) := by decide +kernel
theorem dX5_copies_21 : decode cX5_copies 21 = .ok (.iastore, 1) := by decide +kernel
theorem dX5_copies_22 : decode cX5_copies 22 = .ok (.iinc 4 1, 3) := by decide +kernel
theorem dX5_copies_25 : decode cX5_copies 25 = .ok (.goto (-22), 3) := by decide +kernel
theorem dX5_copies_28 : decode cX5_copies 28 = .ok (.return_, 1) := by decide +kernel
set_option maxRecDepth 20000 in
theorem ggX5_saves_X5_copies : GoodIn wsX5_saves wsX5_copies := goodIn_r _ [7] (by decide +kernel) (by decide +kernel)
set_option maxRecDepth 20000 in
theorem gX5_saves_X5_copies : GoodIn wsX5_saves (va_wsS RX5 47 yX5_copies wsX5_copies) := goodIn_app (goodIn_of _ (by decide +kernel)) ggX5_saves_X5_copies
theorem dX5_saves_0 : decode cX5_saves 0 = .ok (.aload_n 0, 1) := by decide +kernel
theorem dX5_saves_1 : decode cX5_saves 1 = .ok (.getfield 44, 3) := by decide +kernel
theorem dX5_saves_4 : decode cX5_saves 4 = .ok (.bipush 6, 2) := by decide +kernel
theorem dX5_saves_6 : decode cX5_saves 6 = .ok (.if_icmp .ne 43, 3) := by decide +kernel
theorem dX5_saves_9 : decode cX5_saves 9 = .ok (.iconst 0, 1) := by decide +kernel
theorem dX5_saves_10 : decode cX5_saves 10 = .ok (.istore_n 1, 1) := by decide +kernel
theorem dX5_saves_11 : decode cX5_saves 11 = .ok (.iload_n 1, 1) := by decide +kernel
theorem dX5_saves_12 : decode cX5_saves 12 = .ok (.sipush 195, 3) := by decide +kernel
theorem dX5_saves_15 : decode cX5_saves 15 = .ok (.if_icmp .ge 24, 3) := by decide +kernel
theorem dX5_saves_18 : decode cX5_saves 18 = .ok (.aload_n 0, 1) := by decide +kernel
theorem dX5_saves_19 : decode cX5_saves 19 = .ok (.getfield 16, 3) := by decide +kernel
theorem dX5_saves_22 : decode cX5_saves 22 = .ok (.iload_n 1, 1) := by decide +kernel
theorem dX5_saves_23 : decode cX5_saves 23 = .ok (.aload_n 0, 1) := by decide +kernel
theorem dX5_saves_24 : decode cX5_saves 24 = .ok (.getfield 16, 3) := by decide +kernel
theorem dX5_saves_27 : decode cX5_saves 27 = .ok (.iload_n 1, 1) := by decide +kernel
theorem dX5_saves_28 : decode cX5_saves 28 = .ok (.bipush 39, 2) := by decide +kernel
theorem dX5_saves_30 : decode cX5_saves 30 = .ok (.iadd, 1) := by decide +kernel
theorem dX5_saves_31 : decode cX5_saves 31 = .ok (.iaload, 1) := by decide +kernel
theorem dX5_saves_32 : decode cX5_saves 32 = .ok (.iastore, 1) := by decide +kernel
theorem dX5_saves_33 : decode cX5_saves 33 = .ok (.iinc 1 1, 3) := by decide +kernel
theorem dX5_saves_36 : decode cX5_saves 36 = .ok (.goto (-25), 3) := by decide +kernel
theorem dX5_saves_39 : decode cX5_saves 39 = .ok (.aload_n 0, 1) := by decide +kernel
theorem dX5_saves_40 : decode cX5_saves 40 = .ok (.dup, 1) := by decide +kernel
theorem dX5_saves_41 : decode cX5_saves 41 = .ok (.getfield 44, 3) := by decide +kernel
theorem dX5_saves_44 : decode cX5_saves 44 = .ok (.iconst 1, 1) := by decide +kernel
theorem dX5_saves_45 : decode cX5_saves 45 = .ok (.isub, 1) := by decide +kernel
theorem dX5_saves_46 : decode cX5_saves 46 = .ok (.putfield 44, 3) := by decide +kernel
theorem dX5_saves_49 : decode cX5_saves 49 = .ok (.aload_n 0, 1) := by decide +kernel
theorem dX5_saves_50 : decode cX5_saves 50 = .ok (.getfield 7, 3) := by decide +kernel
theorem dX5_saves_53 : decode cX5_saves 53 = .ok (.iconst 0, 1) := by decide +kernel
theorem dX5_saves_54 : decode cX5_saves 54 = .ok (.aload_n 0, 1) := by decide +kernel
theorem dX5_saves_55 : decode cX5_saves 55 = .ok (.getfield 16, 3) := by decide +kernel
theorem dX5_saves_58 : decode cX5_saves 58 = .ok (.bipush 39, 2) := by decide +kernel
theorem dX5_saves_60 : decode cX5_saves 60 = .ok (.aload_n 0, 1) := by decide +kernel
theorem dX5_saves_61 : decode cX5_saves 61 = .ok (.getfield 44, 3) := by decide +kernel
theorem dX5_saves_64 : decode cX5_saves 64 = .ok (.imul, 1) := by decide +kernel
theorem dX5_saves_65 : decode cX5_saves 65 = .ok (.invokestatic 47, 3) := by decide +kernel
theorem dX5_saves_68 : decode cX5_saves 68 = .ok (.aload_n 0, 1) := by decide +kernel
theorem dX5_saves_69 : decode cX5_saves 69 = .ok (.dup, 1) := by decide +kernel
theorem dX5_saves_70 : decode cX5_saves 70 = .ok (.getfield 44, 3) := by decide +kernel
theorem dX5_saves_73 : decode cX5_saves 73 = .ok (.iconst 1, 1) := by decide +kernel
theorem dX5_saves_74 : decode cX5_saves 74 = .ok (.iadd, 1) := by decide +kernel
theorem dX5_saves_75 : decode cX5_saves 75 = .ok (.putfield 44, 3) := by decide +kernel
theorem dX5_saves_78 : decode cX5_saves 78 = .ok (.return_, 1) := by decide +kernel
set_option maxRecDepth 20000 in
theorem ggX5_undo_X5_fails : GoodIn wsX5_undo wsX5_fails := goodIn_r _ [9, 1, 13, 14, 15, 16, 17, 18, 19, 20, 21, 22, 23, 24, 25, 26] (by decide +kernel) (by decide +kernel)
set_option maxRecDepth 20000 in
theorem gX5_undo_X5_fails : GoodIn wsX5_undo (wsV RX5 51 RX5 yX5_fails wsX5_fails) := goodIn_app (goodIn_of _ (by decide +kernel)) ggX5_undo_X5_fails
set_option maxRecDepth 20000 in
theorem ggX5_undo_X5_copies : GoodIn wsX5_undo wsX5_copies := goodIn_r _ [12] (by decide +kernel) (by decide +kernel)
set_option maxRecDepth 20000 in
theorem gX5_undo_X5_copies : GoodIn wsX5_undo (va_wsS RX5 47 yX5_copies wsX5_copies) := goodIn_app (goodIn_of _ (by decide +kernel)) ggX5_undo_X5_copies
theorem dX5_undo_0 : decode cX5_undo 0 = .ok (.aload_n 0, 1) := by decide +kernel
theorem dX5_undo_1 : decode cX5_undo 1 = .ok (.iconst 0, 1) := by decide +kernel
theorem dX5_undo_2 : decode cX5_undo 2 = .ok (.putfield 32, 3) := by decide +kernel
theorem dX5_undo_5 : decode cX5_undo 5 = .ok (.aload_n 0, 1) := by decide +kernel
theorem dX5_undo_6 : decode cX5_undo 6 = .ok (.getfield 44, 3) := by decide +kernel
theorem dX5_undo_9 : decode cX5_undo 9 = .ok (.ifCond .ne 9, 3) := by decide +kernel
theorem dX5_undo_12 : decode cX5_undo 12 = .ok (.aload_n 0, 1) := by decide +kernel
theorem dX5_undo_13 : decode cX5_undo 13 = .ok (.iconst 1, 1) := by decide +kernel
theorem dX5_undo_14 : decode cX5_undo 14 = .ok (.invokevirtual 51, 3) := by decide +kernel
theorem dX5_undo_17 : decode cX5_undo 17 = .ok (.ireturn, 1) := by decide +kernel
theorem dX5_undo_18 : decode cX5_undo 18 = .ok (.aload_n 0, 1) := by decide +kernel
theorem dX5_undo_19 : decode cX5_undo 19 = .ok (.dup, 1) := by decide +kernel
theorem dX5_undo_20 : decode cX5_undo 20 = .ok (.getfield 44, 3) := by decide +kernel
theorem dX5_undo_23 : decode cX5_undo 23 = .ok (.iconst 1, 1) := by decide +kernel
theorem dX5_undo_24 : decode cX5_undo 24 = .ok (.isub, 1) := by decide +kernel
theorem dX5_undo_25 : decode cX5_undo 25 = .ok (.putfield 44, 3) := by decide +kernel
theorem dX5_undo_28 : decode cX5_undo 28 = .ok (.aload_n 0, 1) := by decide +kernel
theorem dX5_undo_29 : decode cX5_undo 29 = .ok (.getfield 16, 3) := by decide +kernel
theorem dX5_undo_32 : decode cX5_undo 32 = .ok (.bipush 39, 2) := by decide +kernel
theorem dX5_undo_34 : decode cX5_undo 34 = .ok (.aload_n 0, 1) := by decide +kernel
theorem dX5_undo_35 : decode cX5_undo 35 = .ok (.getfield 44, 3) := by decide +kernel
theorem dX5_undo_38 : decode cX5_undo 38 = .ok (.imul, 1) := by decide +kernel
theorem dX5_undo_39 : decode cX5_undo 39 = .ok (.aload_n 0, 1) := by decide +kernel
theorem dX5_undo_40 : decode cX5_undo 40 = .ok (.getfield 7, 3) := by decide +kernel
theorem dX5_undo_43 : decode cX5_undo 43 = .ok (.iconst 0, 1) := by decide +kernel
theorem dX5_undo_44 : decode cX5_undo 44 = .ok (.invokestatic 47, 3) := by decide +kernel
theorem dX5_undo_47 : decode cX5_undo 47 = .ok (.aload_n 0, 1) := by decide +kernel
theorem dX5_undo_48 : decode cX5_undo 48 = .ok (.getfield 44, 3) := by decide +kernel
theorem dX5_undo_51 : decode cX5_undo 51 = .ok (.ireturn, 1) := by decide +kernel
set_option maxRecDepth 20000 in
theorem ggX5_keep_X5_in : GoodIn wsX5_keep wsX5_in := goodIn_r _ [8] (by decide +kernel) (by decide +kernel)
set_option maxRecDepth 20000 in
theorem gX5_keep_X5_in : GoodIn wsX5_keep (va_wsS RX5 36 yX5_in wsX5_in) := goodIn_app (goodIn_of _ (by decide +kernel)) ggX5_keep_X5_in
set_option maxRecDepth 20000 in
theorem ggX5_keep_X5_fails : GoodIn wsX5_keep wsX5_fails := goodIn_r _ [12, 1, 16, 17, 18, 19, 20, 21, 22, 23, 24, 25, 26, 27, 28, 29] (by decide +kernel) (by decide +kernel)
set_option maxRecDepth 20000 in
theorem gX5_keep_X5_fails : GoodIn wsX5_keep (wsV RX5 51 RX5 yX5_fails wsX5_fails) := goodIn_app (goodIn_of _ (by decide +kernel)) ggX5_keep_X5_fails
set_option maxRecDepth 20000 in
theorem ggX5_keep_X5_copies : GoodIn wsX5_keep wsX5_copies := goodIn_r _ [15] (by decide +kernel) (by decide +kernel)
set_option maxRecDepth 20000 in
theorem gX5_keep_X5_copies : GoodIn wsX5_keep (va_wsS RX5 47 yX5_copies wsX5_copies) := goodIn_app (goodIn_of _ (by decide +kernel)) ggX5_keep_X5_copies
theorem dX5_keep_0 : decode cX5_keep 0 = .ok (.aload_n 0, 1) := by decide +kernel
theorem dX5_keep_1 : decode cX5_keep 1 = .ok (.iconst 0, 1) := by decide +kernel
theorem dX5_keep_2 : decode cX5_keep 2 = .ok (.putfield 32, 3) := by decide +kernel
theorem dX5_keep_5 : decode cX5_keep 5 = .ok (.iload_n 1, 1) := by decide +kernel
theorem dX5_keep_6 : decode cX5_keep 6 = .ok (.iconst 0, 1) := by decide +kernel
theorem dX5_keep_7 : decode cX5_keep 7 = .ok (.iconst 1, 1) := by decide +kernel
theorem dX5_keep_8 : decode cX5_keep 8 = .ok (.invokestatic 36, 3) := by decide +kernel
theorem dX5_keep_11 : decode cX5_keep 11 = .ok (.ifCond .ne 9, 3) := by decide +kernel
theorem dX5_keep_14 : decode cX5_keep 14 = .ok (.aload_n 0, 1) := by decide +kernel
theorem dX5_keep_15 : decode cX5_keep 15 = .ok (.iconst 1, 1) := by decide +kernel
theorem dX5_keep_16 : decode cX5_keep 16 = .ok (.invokevirtual 51, 3) := by decide +kernel
theorem dX5_keep_19 : decode cX5_keep 19 = .ok (.ireturn, 1) := by decide +kernel
theorem dX5_keep_20 : decode cX5_keep 20 = .ok (.aload_n 0, 1) := by decide +kernel
theorem dX5_keep_21 : decode cX5_keep 21 = .ok (.getfield 7, 3) := by decide +kernel
theorem dX5_keep_24 : decode cX5_keep 24 = .ok (.iconst 0, 1) := by decide +kernel
theorem dX5_keep_25 : decode cX5_keep 25 = .ok (.aload_n 0, 1) := by decide +kernel
theorem dX5_keep_26 : decode cX5_keep 26 = .ok (.getfield 19, 3) := by decide +kernel
theorem dX5_keep_29 : decode cX5_keep 29 = .ok (.bipush 39, 2) := by decide +kernel
theorem dX5_keep_31 : decode cX5_keep 31 = .ok (.iload_n 1, 1) := by decide +kernel
theorem dX5_keep_32 : decode cX5_keep 32 = .ok (.imul, 1) := by decide +kernel
theorem dX5_keep_33 : decode cX5_keep 33 = .ok (.invokestatic 47, 3) := by decide +kernel
theorem dX5_keep_36 : decode cX5_keep 36 = .ok (.aload_n 0, 1) := by decide +kernel
theorem dX5_keep_37 : decode cX5_keep 37 = .ok (.getfield 22, 3) := by decide +kernel
theorem dX5_keep_40 : decode cX5_keep 40 = .ok (.iload_n 1, 1) := by decide +kernel
theorem dX5_keep_41 : decode cX5_keep 41 = .ok (.iconst 1, 1) := by decide +kernel
theorem dX5_keep_42 : decode cX5_keep 42 = .ok (.bastore, 1) := by decide +kernel
theorem dX5_keep_43 : decode cX5_keep 43 = .ok (.aload_n 0, 1) := by decide +kernel
theorem dX5_keep_44 : decode cX5_keep 44 = .ok (.getfield 7, 3) := by decide +kernel
theorem dX5_keep_47 : decode cX5_keep 47 = .ok (.iconst 4, 1) := by decide +kernel
theorem dX5_keep_48 : decode cX5_keep 48 = .ok (.iaload, 1) := by decide +kernel
theorem dX5_keep_49 : decode cX5_keep 49 = .ok (.ireturn, 1) := by decide +kernel
set_option maxRecDepth 20000 in
theorem ggX5_goBack_X5_in : GoodIn wsX5_goBack wsX5_in := goodIn_r _ [8] (by decide +kernel) (by decide +kernel)
set_option maxRecDepth 20000 in
theorem gX5_goBack_X5_in : GoodIn wsX5_goBack (va_wsS RX5 36 yX5_in wsX5_in) := goodIn_app (goodIn_of _ (by decide +kernel)) ggX5_goBack_X5_in
set_option maxRecDepth 20000 in
theorem ggX5_goBack_X5_fails : GoodIn wsX5_goBack wsX5_fails := goodIn_r _ [12, 1, 22, 23, 24, 25, 26, 27, 28, 29, 30, 31, 32, 33, 34, 35] (by decide +kernel) (by decide +kernel)
set_option maxRecDepth 20000 in
theorem gX5_goBack_X5_fails : GoodIn wsX5_goBack (wsV RX5 51 RX5 yX5_fails wsX5_fails) := goodIn_app (goodIn_of _ (by decide +kernel)) ggX5_goBack_X5_fails
set_option maxRecDepth 20000 in
theorem ggX5_goBack_X5_saves : GoodIn wsX5_goBack wsX5_saves := goodIn_r _ [16, 17, 18, 4, 19, 20, 7, 21, 22, 23, 24, 25, 26, 27, 28, 29, 30, 31, 32, 33, 34, 35] (by decide +kernel) (by decide +kernel)
set_option maxRecDepth 20000 in
theorem gX5_goBack_X5_saves : GoodIn wsX5_goBack (wsV RX5 55 RX5 yX5_saves wsX5_saves) := goodIn_app (goodIn_of _ (by decide +kernel)) ggX5_goBack_X5_saves
set_option maxRecDepth 20000 in
theorem ggX5_goBack_X5_copies : GoodIn wsX5_goBack wsX5_copies := goodIn_r _ [21] (by decide +kernel) (by decide +kernel)
set_option maxRecDepth 20000 in
theorem gX5_goBack_X5_copies : GoodIn wsX5_goBack (va_wsS RX5 47 yX5_copies wsX5_copies) := goodIn_app (goodIn_of _ (by decide +kernel)) ggX5_goBack_X5_copies
theorem dX5_goBack_0 : decode cX5_goBack 0 = .ok (.aload_n 0, 1) := by decide +kernel
theorem dX5_goBack_1 : decode cX5_goBack 1 = .ok (.iconst 0, 1) := by decide +kernel
theorem dX5_goBack_2 : decode cX5_goBack 2 = .ok (.putfield 32, 3) := by decide +kernel
theorem dX5_goBack_5 : decode cX5_goBack 5 = .ok (.iload_n 1, 1) := by decide +kernel
theorem dX5_goBack_6 : decode cX5_goBack 6 = .ok (.iconst 0, 1) := by decide +kernel
theorem dX5_goBack_7 : decode cX5_goBack 7 = .ok (.iconst 1, 1) := by decide +kernel
theorem dX5_goBack_8 : decode cX5_goBack 8 = .ok (.invokestatic 36, 3) := by decide +kernel
theorem dX5_goBack_11 : decode cX5_goBack 11 = .ok (.ifCond .ne 9, 3) := by decide +kernel
theorem dX5_goBack_14 : decode cX5_goBack 14 = .ok (.aload_n 0, 1) := by decide +kernel
theorem dX5_goBack_15 : decode cX5_goBack 15 = .ok (.iconst 1, 1) := by decide +kernel
theorem dX5_goBack_16 : decode cX5_goBack 16 = .ok (.invokevirtual 51, 3) := by decide +kernel
theorem dX5_goBack_19 : decode cX5_goBack 19 = .ok (.ireturn, 1) := by decide +kernel
theorem dX5_goBack_20 : decode cX5_goBack 20 = .ok (.aload_n 0, 1) := by decide +kernel
theorem dX5_goBack_21 : decode cX5_goBack 21 = .ok (.getfield 22, 3) := by decide +kernel
theorem dX5_goBack_24 : decode cX5_goBack 24 = .ok (.iload_n 1, 1) := by decide +kernel
theorem dX5_goBack_25 : decode cX5_goBack 25 = .ok (.baload, 1) := by decide +kernel
theorem dX5_goBack_26 : decode cX5_goBack 26 = .ok (.ifCond .ne 9, 3) := by decide +kernel
theorem dX5_goBack_29 : decode cX5_goBack 29 = .ok (.aload_n 0, 1) := by decide +kernel
theorem dX5_goBack_30 : decode cX5_goBack 30 = .ok (.iconst 2, 1) := by decide +kernel
