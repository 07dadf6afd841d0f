theorem dX0_property_143 : decode cX0_property 143 = .ok (.ireturn, 1) := by decide +kernel
theorem dX0_property_144 : decode cX0_property 144 = .ok (.aload_n 0, 1) := by decide +kernel
theorem dX0_property_145 : decode cX0_property 145 = .ok (.aload_n 0, 1) := by decide +kernel
theorem dX0_property_146 : decode cX0_property 146 = .ok (.getfield 15, 3) := by decide +kernel
theorem dX0_property_149 : decode cX0_property 149 = .ok (.iload_n 1, 1) := by decide +kernel
theorem dX0_property_150 : decode cX0_property 150 = .ok (.iaload, 1) := by decide +kernel
theorem dX0_property_151 : decode cX0_property 151 = .ok (.invokevirtual 92, 3) := by decide +kernel
theorem dX0_property_154 : decode cX0_property 154 = .ok (.sipush 1000, 3) := by decide +kernel
theorem dX0_property_157 : decode cX0_property 157 = .ok (.iadd, 1) := by decide +kernel
theorem dX0_property_158 : decode cX0_property 158 = .ok (.ireturn, 1) := by decide +kernel
set_option maxRecDepth 20000 in
theorem ggX0_figureOf_X0_going : GoodIn wsX0_figureOf wsX0_going := goodIn_r _ [11, 12, 13, 14, 10, 15, 1, 16, 17, 72, 73, 74, 75, 76, 77, 78, 79, 80, 81, 82, 83, 84, 85] (by decide +kernel) (by decide +kernel)
set_option maxRecDepth 20000 in
theorem gX0_figureOf_X0_going : GoodIn wsX0_figureOf (wsV RX0 82 RX0 yX0_going wsX0_going) := goodIn_app (goodIn_of _ (by decide +kernel)) ggX0_figureOf_X0_going
set_option maxRecDepth 20000 in
theorem ggX0_figureOf_X0_order : GoodIn wsX0_figureOf wsX0_order := goodIn_r _ [21, 22, 23, 24, 10, 25, 26, 12, 13, 14, 15, 1, 16, 17, 27, 28, 29, 30, 31, 32, 33, 34, 35, 36, 37, 38, 39, 40, 7, 8, 9, 11, 72, 73, 74, 75, 76, 77, 78, 79, 80, 81, 82, 83, 84, 85] (by decide +kernel) (by decide +kernel)
set_option maxRecDepth 20000 in
theorem gX0_figureOf_X0_order : GoodIn wsX0_figureOf (wsV RX0 118 RX0 yX0_order wsX0_order) := goodIn_app (goodIn_of _ (by decide +kernel)) ggX0_figureOf_X0_order
set_option maxRecDepth 20000 in
theorem ggX0_figureOf_X0_orderByPairs : GoodIn wsX0_figureOf wsX0_orderByPairs := goodIn_r _ [44, 26, 12, 13, 14, 10, 15, 1, 16, 17, 27, 28, 29, 34, 35, 36, 37, 38, 39, 40, 7, 8, 9, 11, 72, 73, 74, 75, 76, 77, 78, 79, 80, 81, 82, 83, 84, 85] (by decide +kernel) (by decide +kernel)
set_option maxRecDepth 20000 in
theorem gX0_figureOf_X0_orderByPairs : GoodIn wsX0_figureOf (wsV RX0 121 RX0 yX0_orderByPairs wsX0_orderByPairs) := goodIn_app (goodIn_of _ (by decide +kernel)) ggX0_figureOf_X0_orderByPairs
set_option maxRecDepth 20000 in
theorem ggX0_figureOf_X0_isInStep : GoodIn wsX0_figureOf wsX0_isInStep := goodIn_r _ [48, 49, 7, 8, 9, 10, 11, 12, 13, 14, 15, 1, 16, 17, 50, 51, 52, 53, 54, 55, 56, 57, 58, 59, 60, 61, 26, 62, 63, 64, 65, 66, 67, 68, 69, 70, 71, 72, 73, 74, 75, 76, 77, 78, 79, 80, 81, 82, 83, 84, 85] (by decide +kernel) (by decide +kernel)
set_option maxRecDepth 20000 in
theorem gX0_figureOf_X0_isInStep : GoodIn wsX0_figureOf (wsV RX0 124 RX0 yX0_isInStep wsX0_isInStep) := goodIn_app (goodIn_of _ (by decide +kernel)) ggX0_figureOf_X0_isInStep
set_option maxRecDepth 20000 in
theorem ggX0_figureOf_X0_greatestDistance : GoodIn wsX0_figureOf wsX0_greatestDistance := goodIn_r _ [53, 54, 55, 56, 57, 12, 13, 14, 10, 15, 1, 16, 17, 58, 59, 60, 61, 26, 62, 63, 64, 65, 66, 67, 68, 69, 70, 71, 72, 73, 74, 75, 76, 77, 78, 79, 80, 81, 82, 83, 84, 85] (by decide +kernel) (by decide +kernel)
set_option maxRecDepth 20000 in
theorem gX0_figureOf_X0_greatestDistance : GoodIn wsX0_figureOf (wsV RX0 115 RX0 yX0_greatestDistance wsX0_greatestDistance) := goodIn_app (goodIn_of _ (by decide +kernel)) ggX0_figureOf_X0_greatestDistance
theorem dX0_figureOf_0 : decode cX0_figureOf 0 = .ok (.iload_n 1, 1) := by decide +kernel
theorem dX0_figureOf_1 : decode cX0_figureOf 1 = .ok (.tableswitch 121 0 9 #[55, 60, 65, 70, 75, 84, 93, 98, 103, 116], 55) := by decide +kernel
theorem dX0_figureOf_56 : decode cX0_figureOf 56 = .ok (.aload_n 0, 1) := by decide +kernel
theorem dX0_figureOf_57 : decode cX0_figureOf 57 = .ok (.getfield 38, 3) := by decide +kernel
theorem dX0_figureOf_60 : decode cX0_figureOf 60 = .ok (.ireturn, 1) := by decide +kernel
theorem dX0_figureOf_61 : decode cX0_figureOf 61 = .ok (.aload_n 0, 1) := by decide +kernel
theorem dX0_figureOf_62 : decode cX0_figureOf 62 = .ok (.invokevirtual 82, 3) := by decide +kernel
theorem dX0_figureOf_65 : decode cX0_figureOf 65 = .ok (.ireturn, 1) := by decide +kernel
theorem dX0_figureOf_66 : decode cX0_figureOf 66 = .ok (.aload_n 0, 1) := by decide +kernel
theorem dX0_figureOf_67 : decode cX0_figureOf 67 = .ok (.getfield 47, 3) := by decide +kernel
theorem dX0_figureOf_70 : decode cX0_figureOf 70 = .ok (.ireturn, 1) := by decide +kernel
theorem dX0_figureOf_71 : decode cX0_figureOf 71 = .ok (.aload_n 0, 1) := by decide +kernel
theorem dX0_figureOf_72 : decode cX0_figureOf 72 = .ok (.getfield 50, 3) := by decide +kernel
theorem dX0_figureOf_75 : decode cX0_figureOf 75 = .ok (.ireturn, 1) := by decide +kernel
theorem dX0_figureOf_76 : decode cX0_figureOf 76 = .ok (.aload_n 0, 1) := by decide +kernel
theorem dX0_figureOf_77 : decode cX0_figureOf 77 = .ok (.getfield 41, 3) := by decide +kernel
theorem dX0_figureOf_80 : decode cX0_figureOf 80 = .ok (.sipush 1000, 3) := by decide +kernel
theorem dX0_figureOf_83 : decode cX0_figureOf 83 = .ok (.iadd, 1) := by decide +kernel
theorem dX0_figureOf_84 : decode cX0_figureOf 84 = .ok (.ireturn, 1) := by decide +kernel
theorem dX0_figureOf_85 : decode cX0_figureOf 85 = .ok (.aload_n 0, 1) := by decide +kernel
theorem dX0_figureOf_86 : decode cX0_figureOf 86 = .ok (.getfield 44, 3) := by decide +kernel
theorem dX0_figureOf_89 : decode cX0_figureOf 89 = .ok (.sipush 1000, 3) := by decide +kernel
theorem dX0_figureOf_92 : decode cX0_figureOf 92 = .ok (.iadd, 1) := by decide +kernel
theorem dX0_figureOf_93 : decode cX0_figureOf 93 = .ok (.ireturn, 1) := by decide +kernel
theorem dX0_figureOf_94 : decode cX0_figureOf 94 = .ok (.aload_n 0, 1) := by decide +kernel
theorem dX0_figureOf_95 : decode cX0_figureOf 95 = .ok (.invokevirtual 118, 3) := by decide +kernel
theorem dX0_figureOf_98 : decode cX0_figureOf 98 = .ok (.ireturn, 1) := by decide +kernel
theorem dX0_figureOf_99 : decode cX0_figureOf 99 = .ok (.aload_n 0, 1) := by decide +kernel
theorem dX0_figureOf_100 : decode cX0_figureOf 100 = .ok (.invokevirtual 121, 3) := by decide +kernel
theorem dX0_figureOf_103 : decode cX0_figureOf 103 = .ok (.ireturn, 1) := by decide +kernel
theorem dX0_figureOf_104 : decode cX0_figureOf 104 = .ok (.aload_n 0, 1) := by decide +kernel
theorem dX0_figureOf_105 : decode cX0_figureOf 105 = .ok (.invokevirtual 124, 3) := by decide +kernel
theorem dX0_figureOf_108 : decode cX0_figureOf 108 = .ok (.ifCond .eq 7, 3) := by decide +kernel
theorem dX0_figureOf_111 : decode cX0_figureOf 111 = .ok (.iconst 1, 1) := by decide +kernel
theorem dX0_figureOf_112 : decode cX0_figureOf 112 = .ok (.goto 4, 3) := by decide +kernel
theorem dX0_figureOf_115 : decode cX0_figureOf 115 = .ok (.iconst 0, 1) := by decide +kernel
theorem dX0_figureOf_116 : decode cX0_figureOf 116 = .ok (.ireturn, 1) := by decide +kernel
theorem dX0_figureOf_117 : decode cX0_figureOf 117 = .ok (.aload_n 0, 1) := by decide +kernel
theorem dX0_figureOf_118 : decode cX0_figureOf 118 = .ok (.invokevirtual 115, 3) := by decide +kernel
theorem dX0_figureOf_121 : decode cX0_figureOf 121 = .ok (.ireturn, 1) := by decide +kernel
theorem dX0_figureOf_122 : decode cX0_figureOf 122 = .ok (.aload_n 0, 1) := by decide +kernel
theorem dX0_figureOf_123 : decode cX0_figureOf 123 = .ok (.getfield 53, 3) := by decide +kernel
theorem dX0_figureOf_126 : decode cX0_figureOf 126 = .ok (.ireturn, 1) := by decide +kernel
theorem dX1_init_0 : decode cX1_init 0 = .ok (.aload_n 0, 1) := by decide +kernel
theorem dX1_init_1 : decode cX1_init 1 = .ok (.invokespecial 3, 3) := by decide +kernel
theorem dX1_init_4 : decode cX1_init 4 = .ok (.aload_n 0, 1) := by decide +kernel
theorem dX1_init_5 : decode cX1_init 5 = .ok (.iconst 0, 1) := by decide +kernel
theorem dX1_init_6 : decode cX1_init 6 = .ok (.putfield 11, 3) := by decide +kernel
theorem dX1_init_9 : decode cX1_init 9 = .ok (.return_, 1) := by decide +kernel
set_option maxRecDepth 20000 in
theorem ggX2_init_X0_init : GoodIn wsX2_init wsX0_init := goodIn_r _ [10, 11, 2, 3, 12, 13, 14, 15, 16, 17, 18, 19, 20, 21, 24, 25, 26, 27, 28, 29, 30, 31, 32, 33, 34, 35, 36, 37] (by decide +kernel) (by decide +kernel)
set_option maxRecDepth 20000 in
theorem gX2_init_X0_init : GoodIn wsX2_init (wsX0_init) := ggX2_init_X0_init
theorem dX2_init_0 : decode cX2_init 0 = .ok (.aload_n 0, 1) := by decide +kernel
theorem dX2_init_1 : decode cX2_init 1 = .ok (.invokespecial 3, 3) := by decide +kernel
theorem dX2_init_4 : decode cX2_init 4 = .ok (.aload_n 0, 1) := by decide +kernel
theorem dX2_init_5 : decode cX2_init 5 = .ok (.bipush 6, 2) := by decide +kernel
theorem dX2_init_7 : decode cX2_init 7 = .ok (.anewarray 9, 3) := by decide +kernel
theorem dX2_init_10 : decode cX2_init 10 = .ok (.putfield 11, 3) := by decide +kernel
theorem dX2_init_13 : decode cX2_init 13 = .ok (.iconst 0, 1) := by decide +kernel
theorem dX2_init_14 : decode cX2_init 14 = .ok (.istore_n 1, 1) := by decide +kernel
theorem dX2_init_15 : decode cX2_init 15 = .ok (.iload_n 1, 1) := by decide +kernel
theorem dX2_init_16 : decode cX2_init 16 = .ok (.bipush 6, 2) := by decide +kernel
theorem dX2_init_18 : decode cX2_init 18 = .ok (.if_icmp .ge 22, 3) := by decide +kernel
theorem dX2_init_21 : decode cX2_init 21 = .ok (.aload_n 0, 1) := by decide +kernel
theorem dX2_init_22 : decode cX2_init 22 = .ok (.getfield 11, 3) := by decide +kernel
theorem dX2_init_25 : decode cX2_init 25 = .ok (.iload_n 1, 1) := by decide +kernel
theorem dX2_init_26 : decode cX2_init 26 = .ok (.new 9, 3) := by decide +kernel
theorem dX2_init_29 : decode cX2_init 29 = .ok (.dup, 1) := by decide +kernel
theorem dX2_init_30 : decode cX2_init 30 = .ok (.invokespecial 17, 3) := by decide +kernel
theorem dX2_init_33 : decode cX2_init 33 = .ok (.aastore, 1) := by decide +kernel
theorem dX2_init_34 : decode cX2_init 34 = .ok (.iinc 1 1, 3) := by decide +kernel
theorem dX2_init_37 : decode cX2_init 37 = .ok (.goto (-22), 3) := by decide +kernel
theorem dX2_init_40 : decode cX2_init 40 = .ok (.return_, 1) := by decide +kernel
theorem dX2_size_0 : decode cX2_size 0 = .ok (.aload_n 0, 1) := by decide +kernel
theorem dX2_size_1 : decode cX2_size 1 = .ok (.getfield 18, 3) := by decide +kernel
theorem dX2_size_4 : decode cX2_size 4 = .ok (.ireturn, 1) := by decide +kernel
set_option maxRecDepth 20000 in
theorem ggX2_push_X2_dropOldest : GoodIn wsX2_push wsX2_dropOldest := goodIn_r _ [7, 2, 1, 27, 28] (by decide +kernel) (by decide +kernel)
set_option maxRecDepth 20000 in
theorem gX2_push_X2_dropOldest : GoodIn wsX2_push (wsV RX2 22 RX2 yX2_dropOldest wsX2_dropOldest) := goodIn_app (goodIn_of _ (by decide +kernel)) ggX2_push_X2_dropOldest
set_option maxRecDepth 20000 in
theorem ggX2_push_X0_copyFrom : GoodIn wsX2_push wsX0_copyFrom := goodIn_r _ [12, 13, 14, 15, 16, 17, 18, 19, 20, 21, 22, 23, 24, 25, 26, 29, 30, 31, 32, 33, 34, 35, 36, 37, 38, 39, 40, 41, 42] (by decide +kernel) (by decide +kernel)
set_option maxRecDepth 20000 in
theorem gX2_push_X0_copyFrom : GoodIn wsX2_push (wsV RX2 25 RX0 yX0_copyFrom wsX0_copyFrom) := goodIn_app (goodIn_of _ (by decide +kernel)) ggX2_push_X0_copyFrom
theorem dX2_push_0 : decode cX2_push 0 = .ok (.aload_n 0, 1) := by decide +kernel
theorem dX2_push_1 : decode cX2_push 1 = .ok (.getfield 18, 3) := by decide +kernel
theorem dX2_push_4 : decode cX2_push 4 = .ok (.bipush 6, 2) := by decide +kernel
theorem dX2_push_6 : decode cX2_push 6 = .ok (.if_icmp .lt 7, 3) := by decide +kernel
theorem dX2_push_9 : decode cX2_push 9 = .ok (.aload_n 0, 1) := by decide +kernel
theorem dX2_push_10 : decode cX2_push 10 = .ok (.invokevirtual 22, 3) := by decide +kernel
theorem dX2_push_13 : decode cX2_push 13 = .ok (.aload_n 0, 1) := by decide +kernel
theorem dX2_push_14 : decode cX2_push 14 = .ok (.getfield 18, 3) := by decide +kernel
theorem dX2_push_17 : decode cX2_push 17 = .ok (.ifCond .lt 24, 3) := by decide +kernel
theorem dX2_push_20 : decode cX2_push 20 = .ok (.aload_n 0, 1) := by decide +kernel
theorem dX2_push_21 : decode cX2_push 21 = .ok (.getfield 18, 3) := by decide +kernel
theorem dX2_push_24 : decode cX2_push 24 = .ok (.bipush 6, 2) := by decide +kernel
theorem dX2_push_26 : decode cX2_push 26 = .ok (.if_icmp .ge 15, 3) := by decide +kernel
theorem dX2_push_29 : decode cX2_push 29 = .ok (.aload_n 0, 1) := by decide +kernel
theorem dX2_push_30 : decode cX2_push 30 = .ok (.getfield 11, 3) := by decide +kernel
theorem dX2_push_33 : decode cX2_push 33 = .ok (.aload_n 0, 1) := by decide +kernel
theorem dX2_push_34 : decode cX2_push 34 = .ok (.getfield 18, 3) := by decide +kernel
theorem dX2_push_37 : decode cX2_push 37 = .ok (.aaload, 1) := by decide +kernel
theorem dX2_push_38 : decode cX2_push 38 = .ok (.ifnonnull 4, 3) := by decide +kernel
theorem dX2_push_41 : decode cX2_push 41 = .ok (.return_, 1) := by decide +kernel
theorem dX2_push_42 : decode cX2_push 42 = .ok (.aload_n 0, 1) := by decide +kernel
theorem dX2_push_43 : decode cX2_push 43 = .ok (.getfield 11, 3) := by decide +kernel
theorem dX2_push_46 : decode cX2_push 46 = .ok (.aload_n 0, 1) := by decide +kernel
theorem dX2_push_47 : decode cX2_push 47 = .ok (.getfield 18, 3) := by decide +kernel
theorem dX2_push_50 : decode cX2_push 50 = .ok (.aaload, 1) := by decide +kernel
theorem dX2_push_51 : decode cX2_push 51 = .ok (.aload_n 1, 1) := by decide +kernel
theorem dX2_push_52 : decode cX2_push 52 = .ok (.invokevirtual 25, 3) := by decide +kernel
theorem dX2_push_55 : decode cX2_push 55 = .ok (.aload_n 0, 1) := by decide +kernel
theorem dX2_push_56 : decode cX2_push 56 = .ok (.dup, 1) := by decide +kernel
theorem dX2_push_57 : decode cX2_push 57 = .ok (.getfield 18, 3) := by decide +kernel
theorem dX2_push_60 : decode cX2_push 60 = .ok (.iconst 1, 1) := by decide +kernel
theorem dX2_push_61 : decode cX2_push 61 = .ok (.iadd, 1) := by decide +kernel
theorem dX2_push_62 : decode cX2_push 62 = .ok (.putfield 18, 3) := by decide +kernel
theorem dX2_push_65 : decode cX2_push 65 = .ok (.return_, 1) := by decide +kernel
theorem dX2_dropOldest_0 : decode cX2_dropOldest 0 = .ok (.aload_n 0, 1) := by decide +kernel
theorem dX2_dropOldest_1 : decode cX2_dropOldest 1 = .ok (.getfield 11, 3) := by decide +kernel
theorem dX2_dropOldest_4 : decode cX2_dropOldest 4 = .ok (.iconst 0, 1) := by decide +kernel
theorem dX2_dropOldest_5 : decode cX2_dropOldest 5 = .ok (.aaload, 1) := by decide +kernel
theorem dX2_dropOldest_6 : decode cX2_dropOldest 6 = .ok (.astore_n 1, 1) := by decide +kernel
theorem dX2_dropOldest_7 : decode cX2_dropOldest 7 = .ok (.iconst 1, 1) := by decide +kernel
theorem dX2_dropOldest_8 : decode cX2_dropOldest 8 = .ok (.istore_n 2, 1) := by decide +kernel
theorem dX2_dropOldest_9 : decode cX2_dropOldest 9 = .ok (.iload_n 2, 1) := by decide +kernel
theorem dX2_dropOldest_10 : decode cX2_dropOldest 10 = .ok (.bipush 6, 2) := by decide +kernel
theorem dX2_dropOldest_12 : decode cX2_dropOldest 12 = .ok (.if_icmp .ge 23, 3) := by decide +kernel
theorem dX2_dropOldest_15 : decode cX2_dropOldest 15 = .ok (.aload_n 0, 1) := by decide +kernel
theorem dX2_dropOldest_16 : decode cX2_dropOldest 16 = .ok (.getfield 11, 3) := by decide +kernel
theorem dX2_dropOldest_19 : decode cX2_dropOldest 19 = .ok (.iload_n 2, 1) := by decide +kernel
theorem dX2_dropOldest_20 : decode cX2_dropOldest 20 = .ok (.iconst 1, 1) := by decide +kernel
theorem dX2_dropOldest_21 : decode cX2_dropOldest 21 = .ok (.isub, 1) := by decide +kernel
theorem dX2_dropOldest_22 : decode cX2_dropOldest 22 = .ok (.aload_n 0, 1) := by decide +kernel
theorem dX2_dropOldest_23 : decode cX2_dropOldest 23 = .ok (.getfield 11, 3) := by decide +kernel
theorem dX2_dropOldest_26 : decode cX2_dropOldest 26 = .ok (.iload_n 2, 1) := by decide +kernel
theorem dX2_dropOldest_27 : decode cX2_dropOldest 27 = .ok (.aaload, 1) := by decide +kernel
theorem dX2_dropOldest_28 : decode cX2_dropOldest 28 = .ok (.aastore, 1) := by decide +kernel
theorem dX2_dropOldest_29 : decode cX2_dropOldest 29 = .ok (.iinc 2 1, 3) := by decide +kernel
theorem dX2_dropOldest_32 : decode cX2_dropOldest 32 = .ok (.goto (-23), 3) := by decide +kernel
theorem dX2_dropOldest_35 : decode cX2_dropOldest 35 = .ok (.aload_n 0, 1) := by decide +kernel
theorem dX2_dropOldest_36 : decode cX2_dropOldest 36 = .ok (.getfield 11, 3) := by decide +kernel
theorem dX2_dropOldest_39 : decode cX2_dropOldest 39 = .ok (.iconst 5, 1) := by decide +kernel
theorem dX2_dropOldest_40 : decode cX2_dropOldest 40 = .ok (.aload_n 1, 1) := by decide +kernel
theorem dX2_dropOldest_41 : decode cX2_dropOldest 41 = .ok (.aastore, 1) := by decide +kernel
theorem dX2_dropOldest_42 : decode cX2_dropOldest 42 = .ok (.aload_n 0, 1) := by decide +kernel
theorem dX2_dropOldest_43 : decode cX2_dropOldest 43 = .ok (.iconst 5, 1) := by decide +kernel
theorem dX2_dropOldest_44 : decode cX2_dropOldest 44 = .ok (.putfield 18, 3) := by decide +kernel
theorem dX2_dropOldest_47 : decode cX2_dropOldest 47 = .ok (.return_, 1) := by decide +kernel
set_option maxRecDepth 20000 in
theorem ggX2_popInto_X0_copyFrom : GoodIn wsX2_popInto wsX0_copyFrom := goodIn_r _ [7, 8, 9, 10, 11, 12, 13, 14, 15, 16, 17, 18, 19, 20, 21, 24, 25, 26, 27, 28, 29, 30, 31, 32, 33, 34, 35, 36, 37] (by decide +kernel) (by decide +kernel)
set_option maxRecDepth 20000 in
theorem gX2_popInto_X0_copyFrom : GoodIn wsX2_popInto (wsV RX2 25 RX0 yX0_copyFrom wsX0_copyFrom) := goodIn_app (goodIn_of _ (by decide +kernel)) ggX2_popInto_X0_copyFrom
theorem dX2_popInto_0 : decode cX2_popInto 0 = .ok (.aload_n 1, 1) := by decide +kernel
theorem dX2_popInto_1 : decode cX2_popInto 1 = .ok (.ifnull 42, 3) := by decide +kernel
theorem dX2_popInto_4 : decode cX2_popInto 4 = .ok (.aload_n 0, 1) := by decide +kernel
theorem dX2_popInto_5 : decode cX2_popInto 5 = .ok (.getfield 18, 3) := by decide +kernel
theorem dX2_popInto_8 : decode cX2_popInto 8 = .ok (.ifCond .le 35, 3) := by decide +kernel
theorem dX2_popInto_11 : decode cX2_popInto 11 = .ok (.aload_n 0, 1) := by decide +kernel
theorem dX2_popInto_12 : decode cX2_popInto 12 = .ok (.getfield 18, 3) := by decide +kernel
theorem dX2_popInto_15 : decode cX2_popInto 15 = .ok (.bipush 6, 2) := by decide +kernel
theorem dX2_popInto_17 : decode cX2_popInto 17 = .ok (.if_icmp .gt 26, 3) := by decide +kernel
theorem dX2_popInto_20 : decode cX2_popInto 20 = .ok (.aload_n 0, 1) := by decide +kernel
theorem dX2_popInto_21 : decode cX2_popInto 21 = .ok (.dup, 1) := by decide +kernel
theorem dX2_popInto_22 : decode cX2_popInto 22 = .ok (.getfield 18, 3) := by decide +kernel
theorem dX2_popInto_25 : decode cX2_popInto 25 = .ok (.iconst 1, 1) := by decide +kernel
theorem dX2_popInto_26 : decode cX2_popInto 26 = .ok (.isub, 1) := by decide +kernel
theorem dX2_popInto_27 : decode cX2_popInto 27 = .ok (.putfield 18, 3) := by decide +kernel
theorem dX2_popInto_30 : decode cX2_popInto 30 = .ok (.aload_n 1, 1) := by decide +kernel
theorem dX2_popInto_31 : decode cX2_popInto 31 = .ok (.aload_n 0, 1) := by decide +kernel
theorem dX2_popInto_32 : decode cX2_popInto 32 = .ok (.getfield 11, 3) := by decide +kernel
theorem dX2_popInto_35 : decode cX2_popInto 35 = .ok (.aload_n 0, 1) := by decide +kernel
theorem dX2_popInto_36 : decode cX2_popInto 36 = .ok (.getfield 18, 3) := by decide +kernel
theorem dX2_popInto_39 : decode cX2_popInto 39 = .ok (.aaload, 1) := by decide +kernel
theorem dX2_popInto_40 : decode cX2_popInto 40 = .ok (.invokevirtual 25, 3) := by decide +kernel
theorem dX2_popInto_43 : decode cX2_popInto 43 = .ok (.aload_n 0, 1) := by decide +kernel
theorem dX2_popInto_44 : decode cX2_popInto 44 = .ok (.getfield 18, 3) := by decide +kernel
theorem dX2_popInto_47 : decode cX2_popInto 47 = .ok (.ireturn, 1) := by decide +kernel
theorem dX3_init_0 : decode cX3_init 0 = .ok (.aload_n 0, 1) := by decide +kernel
theorem dX3_init_1 : decode cX3_init 1 = .ok (.invokespecial 3, 3) := by decide +kernel
theorem dX3_init_4 : decode cX3_init 4 = .ok (.aload_n 0, 1) := by decide +kernel
theorem dX3_init_5 : decode cX3_init 5 = .ok (.bipush 60, 2) := by decide +kernel
theorem dX3_init_7 : decode cX3_init 7 = .ok (.newarray .int, 2) := by decide +kernel
theorem dX3_init_9 : decode cX3_init 9 = .ok (.putfield 9, 3) := by decide +kernel
theorem dX3_init_12 : decode cX3_init 12 = .ok (.return_, 1) := by decide +kernel
set_option maxRecDepth 20000 in
theorem ggX4_init_X0_init : GoodIn wsX4_init wsX0_init := goodIn_r _ [27, 28, 2, 3, 29, 30, 31, 32, 11, 33, 34, 35, 36, 37, 55, 56, 57, 58, 59, 60, 61, 62, 63, 64, 65, 66, 67, 68] (by decide +kernel) (by decide +kernel)
set_option maxRecDepth 20000 in
theorem gX4_init_X0_init : GoodIn wsX4_init (wsX0_init) := ggX4_init_X0_init
set_option maxRecDepth 20000 in
theorem ggX4_init_X2_init : GoodIn wsX4_init wsX2_init := goodIn_r _ [40, 41, 2, 3, 42, 43, 5, 6, 44, 26, 27, 28, 29, 30, 31, 32, 11, 33, 34, 35, 36, 37, 77, 78, 55, 56, 57, 58, 59, 60, 61, 62, 63, 64, 65, 66, 67, 68] (by decide +kernel) (by decide +kernel)
set_option maxRecDepth 20000 in
theorem gX4_init_X2_init : GoodIn wsX4_init (wsX2_init) := ggX4_init_X2_init
set_option maxRecDepth 20000 in
theorem ggX4_init_X3_init : GoodIn wsX4_init wsX3_init := goodIn_r _ [47, 48, 2, 3, 29, 49, 79, 80] (by decide +kernel) (by decide +kernel)
set_option maxRecDepth 20000 in
theorem gX4_init_X3_init : GoodIn wsX4_init (wsX3_init) := ggX4_init_X3_init
set_option maxRecDepth 20000 in
theorem ggX4_init_X1_init : GoodIn wsX4_init wsX1_init := goodIn_r _ [52, 53, 2, 3, 54, 81, 82, 83, 84, 85, 86, 87, 88, 89, 90] (by decide +kernel) (by decide +kernel)
set_option maxRecDepth 20000 in
theorem gX4_init_X1_init : GoodIn wsX4_init (wsX1_init) := ggX4_init_X1_init
theorem dX4_init_0 : decode cX4_init 0 = .ok (.aload_n 0, 1) := by decide +kernel
theorem dX4_init_1 : decode cX4_init 1 = .ok (.invokespecial 1, 3) := by decide +kernel
theorem dX4_init_4 : decode cX4_init 4 = .ok (.aload_n 0, 1) := by decide +kernel
theorem dX4_init_5 : decode cX4_init 5 = .ok (.new 7, 3) := by decide +kernel
theorem dX4_init_8 : decode cX4_init 8 = .ok (.dup, 1) := by decide +kernel
theorem dX4_init_9 : decode cX4_init 9 = .ok (.invokespecial 9, 3) := by decide +kernel
theorem dX4_init_12 : decode cX4_init 12 = .ok (.putfield 10, 3) := by decide +kernel
theorem dX4_init_15 : decode cX4_init 15 = .ok (.aload_n 0, 1) := by decide +kernel
theorem dX4_init_16 : decode cX4_init 16 = .ok (.new 7, 3) := by decide +kernel
theorem dX4_init_19 : decode cX4_init 19 = .ok (.dup, 1) := by decide +kernel
theorem dX4_init_20 : decode cX4_init 20 = .ok (.invokespecial 9, 3) := by decide +kernel
theorem dX4_init_23 : decode cX4_init 23 = .ok (.putfield 16, 3) := by decide +kernel
theorem dX4_init_26 : decode cX4_init 26 = .ok (.aload_n 0, 1) := by decide +kernel
theorem dX4_init_27 : decode cX4_init 27 = .ok (.new 7, 3) := by decide +kernel
theorem dX4_init_30 : decode cX4_init 30 = .ok (.dup, 1) := by decide +kernel
theorem dX4_init_31 : decode cX4_init 31 = .ok (.invokespecial 9, 3) := by decide +kernel
theorem dX4_init_34 : decode cX4_init 34 = .ok (.putfield 19, 3) := by decide +kernel
theorem dX4_init_37 : decode cX4_init 37 = .ok (.aload_n 0, 1) := by decide +kernel
theorem dX4_init_38 : decode cX4_init 38 = .ok (.new 7, 3) := by decide +kernel
theorem dX4_init_41 : decode cX4_init 41 = .ok (.dup, 1) := by decide +kernel
theorem dX4_init_42 : decode cX4_init 42 = .ok (.invokespecial 9, 3) := by decide +kernel
theorem dX4_init_45 : decode cX4_init 45 = .ok (.putfield 22, 3) := by decide +kernel
theorem dX4_init_48 : decode cX4_init 48 = .ok (.aload_n 0, 1) := by decide +kernel
theorem dX4_init_49 : decode cX4_init 49 = .ok (.iconst 2, 1) := by decide +kernel
theorem dX4_init_50 : decode cX4_init 50 = .ok (.newarray .boolean, 2) := by decide +kernel
theorem dX4_init_52 : decode cX4_init 52 = .ok (.putfield 25, 3) := by decide +kernel
theorem dX4_init_55 : decode cX4_init 55 = .ok (.aload_n 0, 1) := by decide +kernel
theorem dX4_init_56 : decode cX4_init 56 = .ok (.new 29, 3) := by decide +kernel
theorem dX4_init_59 : decode cX4_init 59 = .ok (.dup, 1) := by decide +kernel
theorem dX4_init_60 : decode cX4_init 60 = .ok (.invokespecial 31, 3) := by decide +kernel
theorem dX4_init_63 : decode cX4_init 63 = .ok (.putfield 32, 3) := by decide +kernel
theorem dX4_init_66 : decode cX4_init 66 = .ok (.aload_n 0, 1) := by decide +kernel
theorem dX4_init_67 : decode cX4_init 67 = .ok (.new 36, 3) := by decide +kernel
theorem dX4_init_70 : decode cX4_init 70 = .ok (.dup, 1) := by decide +kernel
theorem dX4_init_71 : decode cX4_init 71 = .ok (.invokespecial 38, 3) := by decide +kernel
theorem dX4_init_74 : decode cX4_init 74 = .ok (.putfield 39, 3) := by decide +kernel
theorem dX4_init_77 : decode cX4_init 77 = .ok (.aload_n 0, 1) := by decide +kernel
theorem dX4_init_78 : decode cX4_init 78 = .ok (.new 43, 3) := by decide +kernel
theorem dX4_init_81 : decode cX4_init 81 = .ok (.dup, 1) := by decide +kernel
theorem dX4_init_82 : decode cX4_init 82 = .ok (.invokespecial 45, 3) := by decide +kernel
theorem dX4_init_85 : decode cX4_init 85 = .ok (.putfield 46, 3) := by decide +kernel
theorem dX4_init_88 : decode cX4_init 88 = .ok (.return_, 1) := by decide +kernel
set_option maxRecDepth 20000 in
theorem ggX4_metronome_X4_isBeat : GoodIn wsX4_metronome wsX4_isBeat := goodIn_r _ [10, 11, 12, 9, 13] (by decide +kernel) (by decide +kernel)
set_option maxRecDepth 20000 in
theorem gX4_metronome_X4_isBeat : GoodIn wsX4_metronome (va_wsS RX4 50 yX4_isBeat wsX4_isBeat) := goodIn_app (goodIn_of _ (by decide +kernel)) ggX4_metronome_X4_isBeat
set_option maxRecDepth 20000 in
theorem ggX4_metronome_X4_isWithin : GoodIn wsX4_metronome wsX4_isWithin := goodIn_r _ [13] (by decide +kernel) (by decide +kernel)
set_option maxRecDepth 20000 in
theorem gX4_metronome_X4_isWithin : GoodIn wsX4_metronome (va_wsS RX4 54 yX4_isWithin wsX4_isWithin) := goodIn_app (goodIn_of _ (by decide +kernel)) ggX4_metronome_X4_isWithin
set_option maxRecDepth 20000 in
theorem ggX4_metronome_X4_isSpring : GoodIn wsX4_metronome wsX4_isSpring := goodIn_r _ [16, 11, 12, 9, 13] (by decide +kernel) (by decide +kernel)
set_option maxRecDepth 20000 in
theorem gX4_metronome_X4_isSpring : GoodIn wsX4_metronome (va_wsS RX4 58 yX4_isSpring wsX4_isSpring) := goodIn_app (goodIn_of _ (by decide +kernel)) ggX4_metronome_X4_isSpring
set_option maxRecDepth 20000 in
theorem ggX4_metronome_X0_isFull : GoodIn wsX4_metronome wsX0_isFull := goodIn_r _ [21, 22, 63, 64, 65, 66, 67, 68, 69, 70, 71, 72, 73, 74, 75, 76] (by decide +kernel) (by decide +kernel)
set_option maxRecDepth 20000 in
theorem gX4_metronome_X0_isFull : GoodIn wsX4_metronome (wsV RX4 68 RX0 yX0_isFull wsX0_isFull) := goodIn_app (goodIn_of _ (by decide +kernel)) ggX4_metronome_X0_isFull
set_option maxRecDepth 20000 in
theorem ggX4_metronome_X2_push : GoodIn wsX4_metronome wsX2_push := goodIn_r _ [27, 28, 29, 30, 31, 32, 26, 33, 34, 35, 36, 20, 37, 38, 39, 40, 41, 42, 22, 43, 44, 45, 46, 47, 48, 49, 50, 77, 78, 63, 64, 65, 66, 67, 68, 69, 70, 71, 72, 73, 74, 75, 76] (by decide +kernel) (by decide +kernel)
set_option maxRecDepth 20000 in
theorem gX4_metronome_X2_push : GoodIn wsX4_metronome (wsV RX4 77 RX2 yX2_push wsX2_push) := goodIn_app (goodIn_of _ (by decide +kernel)) ggX4_metronome_X2_push
set_option maxRecDepth 20000 in
theorem ggX4_metronome_X0_add : GoodIn wsX4_metronome wsX0_add := goodIn_r _ [54, 22, 38, 39, 40, 41, 42, 63, 64, 65, 66, 67, 68, 69, 70, 71, 72, 73, 74, 75, 76] (by decide +kernel) (by decide +kernel)
set_option maxRecDepth 20000 in
theorem gX4_metronome_X0_add : GoodIn wsX4_metronome (wsV RX4 81 RX0 yX0_add wsX0_add) := goodIn_app (goodIn_of _ (by decide +kernel)) ggX4_metronome_X0_add
theorem dX4_metronome_0 : decode cX4_metronome 0 = .ok (.iload_n 1, 1) := by decide +kernel
theorem dX4_metronome_1 : decode cX4_metronome 1 = .ok (.invokestatic 50, 3) := by decide +kernel
theorem dX4_metronome_4 : decode cX4_metronome 4 = .ok (.ifCond .eq 21, 3) := by decide +kernel
theorem dX4_metronome_7 : decode cX4_metronome 7 = .ok (.iload_n 2, 1) := by decide +kernel
theorem dX4_metronome_8 : decode cX4_metronome 8 = .ok (.iconst 0, 1) := by decide +kernel
theorem dX4_metronome_9 : decode cX4_metronome 9 = .ok (.sipush 3599, 3) := by decide +kernel
theorem dX4_metronome_12 : decode cX4_metronome 12 = .ok (.invokestatic 54, 3) := by decide +kernel
theorem dX4_metronome_15 : decode cX4_metronome 15 = .ok (.ifCond .eq 10, 3) := by decide +kernel
theorem dX4_metronome_18 : decode cX4_metronome 18 = .ok (.iload_n 3, 1) := by decide +kernel
theorem dX4_metronome_19 : decode cX4_metronome 19 = .ok (.invokestatic 58, 3) := by decide +kernel
theorem dX4_metronome_22 : decode cX4_metronome 22 = .ok (.ifCond .ne 13, 3) := by decide +kernel
theorem dX4_metronome_25 : decode cX4_metronome 25 = .ok (.new 61, 3) := by decide +kernel
theorem dX4_metronome_28 : decode cX4_metronome 28 = .ok (.dup, 1) := by decide +kernel
theorem dX4_metronome_29 : decode cX4_metronome 29 = .ok (.ldc 63, 2) := by decide +kernel
theorem dX4_metronome_31 : decode cX4_metronome 31 = .ok (.invokespecial 65, 3) := by decide +kernel
theorem dX4_metronome_34 : decode cX4_metronome 34 = .ok (.athrow, 1) := by decide +kernel
theorem dX4_metronome_35 : decode cX4_metronome 35 = .ok (.aload_n 0, 1) := by decide +kernel
theorem dX4_metronome_36 : decode cX4_metronome 36 = .ok (.getfield 10, 3) := by decide +kernel
theorem dX4_metronome_39 : decode cX4_metronome 39 = .ok (.invokevirtual 68, 3) := by decide +kernel
theorem dX4_metronome_42 : decode cX4_metronome 42 = .ok (.ifCond .eq 13, 3) := by decide +kernel
theorem dX4_metronome_45 : decode cX4_metronome 45 = .ok (.new 72, 3) := by decide +kernel
theorem dX4_metronome_48 : decode cX4_metronome 48 = .ok (.dup, 1) := by decide +kernel
theorem dX4_metronome_49 : decode cX4_metronome 49 = .ok (.ldc 74, 2) := by decide +kernel
theorem dX4_metronome_51 : decode cX4_metronome 51 = .ok (.invokespecial 76, 3) := by decide +kernel
theorem dX4_metronome_54 : decode cX4_metronome 54 = .ok (.athrow, 1) := by decide +kernel
theorem dX4_metronome_55 : decode cX4_metronome 55 = .ok (.aload_n 0, 1) := by decide +kernel
theorem dX4_metronome_56 : decode cX4_metronome 56 = .ok (.getfield 32, 3) := by decide +kernel
theorem dX4_metronome_59 : decode cX4_metronome 59 = .ok (.aload_n 0, 1) := by decide +kernel
theorem dX4_metronome_60 : decode cX4_metronome 60 = .ok (.getfield 10, 3) := by decide +kernel
theorem dX4_metronome_63 : decode cX4_metronome 63 = .ok (.invokevirtual 77, 3) := by decide +kernel
theorem dX4_metronome_66 : decode cX4_metronome 66 = .ok (.aload_n 0, 1) := by decide +kernel
theorem dX4_metronome_67 : decode cX4_metronome 67 = .ok (.getfield 10, 3) := by decide +kernel
theorem dX4_metronome_70 : decode cX4_metronome 70 = .ok (.iload_n 1, 1) := by decide +kernel
theorem dX4_metronome_71 : decode cX4_metronome 71 = .ok (.iload_n 2, 1) := by decide +kernel
theorem dX4_metronome_72 : decode cX4_metronome 72 = .ok (.iload_n 3, 1) := by decide +kernel
theorem dX4_metronome_73 : decode cX4_metronome 73 = .ok (.invokevirtual 81, 3) := by decide +kernel
theorem dX4_metronome_76 : decode cX4_metronome 76 = .ok (.ireturn, 1) := by decide +kernel
set_option maxRecDepth 20000 in
theorem ggX4_weigh_X0_has : GoodIn wsX4_weigh wsX0_has := goodIn_r _ [11, 12, 61, 62, 63, 64, 65, 66, 67, 68, 69, 70, 71, 72, 73, 74] (by decide +kernel) (by decide +kernel)
set_option maxRecDepth 20000 in
theorem gX4_weigh_X0_has : GoodIn wsX4_weigh (wsV RX4 85 RX0 yX0_has wsX0_has) := goodIn_app (goodIn_of _ (by decide +kernel)) ggX4_weigh_X0_has
set_option maxRecDepth 20000 in
theorem ggX4_weigh_X4_isBeat : GoodIn wsX4_weigh wsX4_isBeat := goodIn_r _ [16, 17, 18, 15, 19] (by decide +kernel) (by decide +kernel)
set_option maxRecDepth 20000 in
theorem gX4_weigh_X4_isBeat : GoodIn wsX4_weigh (va_wsS RX4 50 yX4_isBeat wsX4_isBeat) := goodIn_app (goodIn_of _ (by decide +kernel)) ggX4_weigh_X4_isBeat
set_option maxRecDepth 20000 in
theorem ggX4_weigh_X2_push : GoodIn wsX4_weigh wsX2_push := goodIn_r _ [24, 25, 26, 27, 28, 29, 23, 30, 31, 32, 33, 10, 34, 35, 36, 37, 38, 39, 12, 40, 41, 42, 43, 44, 45, 46, 47, 75, 76, 61, 62, 63, 64, 65, 66, 67, 68, 69, 70, 71, 72, 73, 74] (by decide +kernel) (by decide +kernel)
set_option maxRecDepth 20000 in
theorem gX4_weigh_X2_push : GoodIn wsX4_weigh (wsV RX4 77 RX2 yX2_push wsX2_push) := goodIn_app (goodIn_of _ (by decide +kernel)) ggX4_weigh_X2_push
set_option maxRecDepth 20000 in
theorem ggX4_weigh_X0_changeBeat : GoodIn wsX4_weigh wsX0_changeBeat := goodIn_r _ [51, 35, 52, 8, 9, 10, 11, 12, 61, 62, 63, 64, 65, 66, 67, 68, 69, 70, 71, 72, 73, 74] (by decide +kernel) (by decide +kernel)
set_option maxRecDepth 20000 in
theorem gX4_weigh_X0_changeBeat : GoodIn wsX4_weigh (wsV RX4 95 RX0 yX0_changeBeat wsX0_changeBeat) := goodIn_app (goodIn_of _ (by decide +kernel)) ggX4_weigh_X0_changeBeat
theorem dX4_weigh_0 : decode cX4_weigh 0 = .ok (.aload_n 0, 1) := by decide +kernel
theorem dX4_weigh_1 : decode cX4_weigh 1 = .ok (.getfield 10, 3) := by decide +kernel
theorem dX4_weigh_4 : decode cX4_weigh 4 = .ok (.iload_n 1, 1) := by decide +kernel
theorem dX4_weigh_5 : decode cX4_weigh 5 = .ok (.invokevirtual 85, 3) := by decide +kernel
theorem dX4_weigh_8 : decode cX4_weigh 8 = .ok (.ifCond .ne 13, 3) := by decide +kernel
theorem dX4_weigh_11 : decode cX4_weigh 11 = .ok (.new 88, 3) := by decide +kernel
theorem dX4_weigh_14 : decode cX4_weigh 14 = .ok (.dup, 1) := by decide +kernel
theorem dX4_weigh_15 : decode cX4_weigh 15 = .ok (.ldc 90, 2) := by decide +kernel
theorem dX4_weigh_17 : decode cX4_weigh 17 = .ok (.invokespecial 92, 3) := by decide +kernel
theorem dX4_weigh_20 : decode cX4_weigh 20 = .ok (.athrow, 1) := by decide +kernel
theorem dX4_weigh_21 : decode cX4_weigh 21 = .ok (.iload_n 2, 1) := by decide +kernel
theorem dX4_weigh_22 : decode cX4_weigh 22 = .ok (.invokestatic 50, 3) := by decide +kernel
theorem dX4_weigh_25 : decode cX4_weigh 25 = .ok (.ifCond .ne 13, 3) := by decide +kernel
theorem dX4_weigh_28 : decode cX4_weigh 28 = .ok (.new 61, 3) := by decide +kernel
theorem dX4_weigh_31 : decode cX4_weigh 31 = .ok (.dup, 1) := by decide +kernel
theorem dX4_weigh_32 : decode cX4_weigh 32 = .ok (.ldc 93, 2) := by decide +kernel
theorem dX4_weigh_34 : decode cX4_weigh 34 = .ok (.invokespecial 65, 3) := by decide +kernel
theorem dX4_weigh_37 : decode cX4_weigh 37 = .ok (.athrow, 1) := by decide +kernel
theorem dX4_weigh_38 : decode cX4_weigh 38 = .ok (.aload_n 0, 1) := by decide +kernel
theorem dX4_weigh_39 : decode cX4_weigh 39 = .ok (.getfield 32, 3) := by decide +kernel
theorem dX4_weigh_42 : decode cX4_weigh 42 = .ok (.aload_n 0, 1) := by decide +kernel
theorem dX4_weigh_43 : decode cX4_weigh 43 = .ok (.getfield 10, 3) := by decide +kernel
theorem dX4_weigh_46 : decode cX4_weigh 46 = .ok (.invokevirtual 77, 3) := by decide +kernel
theorem dX4_weigh_49 : decode cX4_weigh 49 = .ok (.aload_n 0, 1) := by decide +kernel
theorem dX4_weigh_50 : decode cX4_weigh 50 = .ok (.getfield 10, 3) := by decide +kernel
theorem dX4_weigh_53 : decode cX4_weigh 53 = .ok (.iload_n 1, 1) := by decide +kernel
theorem dX4_weigh_54 : decode cX4_weigh 54 = .ok (.iload_n 2, 1) := by decide +kernel
theorem dX4_weigh_55 : decode cX4_weigh 55 = .ok (.invokevirtual 95, 3) := by decide +kernel
theorem dX4_weigh_58 : decode cX4_weigh 58 = .ok (.ireturn, 1) := by decide +kernel
set_option maxRecDepth 20000 in
theorem ggX4_wind_X0_has : GoodIn wsX4_wind wsX0_has := goodIn_r _ [11, 12, 61, 62, 63, 64, 65, 66, 67, 68, 69, 70, 71, 72, 73, 74] (by decide +kernel) (by decide +kernel)
set_option maxRecDepth 20000 in
theorem gX4_wind_X0_has : GoodIn wsX4_wind (wsV RX4 85 RX0 yX0_has wsX0_has) := goodIn_app (goodIn_of _ (by decide +kernel)) ggX4_wind_X0_has
set_option maxRecDepth 20000 in
theorem ggX4_wind_X4_isSpring : GoodIn wsX4_wind wsX4_isSpring := goodIn_r _ [16, 17, 18, 15, 19] (by decide +kernel) (by decide +kernel)
set_option maxRecDepth 20000 in
theorem gX4_wind_X4_isSpring : GoodIn wsX4_wind (va_wsS RX4 58 yX4_isSpring wsX4_isSpring) := goodIn_app (goodIn_of _ (by decide +kernel)) ggX4_wind_X4_isSpring
set_option maxRecDepth 20000 in
theorem ggX4_wind_X2_push : GoodIn wsX4_wind wsX2_push := goodIn_r _ [24, 25, 26, 27, 28, 29, 23, 30, 31, 32, 33, 10, 34, 35, 36, 37, 38, 39, 12, 40, 41, 42, 43, 44, 45, 46, 47, 75, 76, 61, 62, 63, 64, 65, 66, 67, 68, 69, 70, 71, 72, 73, 74] (by decide +kernel) (by decide +kernel)
set_option maxRecDepth 20000 in
theorem gX4_wind_X2_push : GoodIn wsX4_wind (wsV RX4 77 RX2 yX2_push wsX2_push) := goodIn_app (goodIn_of _ (by decide +kernel)) ggX4_wind_X2_push
set_option maxRecDepth 20000 in
theorem ggX4_wind_X0_changeSpring : GoodIn wsX4_wind wsX0_changeSpring := goodIn_r _ [51, 37, 52, 8, 9, 10, 11, 12, 61, 62, 63, 64, 65, 66, 67, 68, 69, 70, 71, 72, 73, 74] (by decide +kernel) (by decide +kernel)
set_option maxRecDepth 20000 in
theorem gX4_wind_X0_changeSpring : GoodIn wsX4_wind (wsV RX4 101 RX0 yX0_changeSpring wsX0_changeSpring) := goodIn_app (goodIn_of _ (by decide +kernel)) ggX4_wind_X0_changeSpring
theorem dX4_wind_0 : decode cX4_wind 0 = .ok (.aload_n 0, 1) := by decide +kernel
theorem dX4_wind_1 : decode cX4_wind 1 = .ok (.getfield 10, 3) := by decide +kernel
theorem dX4_wind_4 : decode cX4_wind 4 = .ok (.iload_n 1, 1) := by decide +kernel
theorem dX4_wind_5 : decode cX4_wind 5 = .ok (.invokevirtual 85, 3) := by decide +kernel
theorem dX4_wind_8 : decode cX4_wind 8 = .ok (.ifCond .ne 13, 3) := by decide +kernel
theorem dX4_wind_11 : decode cX4_wind 11 = .ok (.new 88, 3) := by decide +kernel
theorem dX4_wind_14 : decode cX4_wind 14 = .ok (.dup, 1) := by decide +kernel
theorem dX4_wind_15 : decode cX4_wind 15 = .ok (.ldc 90, 2) := by decide +kernel
theorem dX4_wind_17 : decode cX4_wind 17 = .ok (.invokespecial 92, 3) := by decide +kernel
theorem dX4_wind_20 : decode cX4_wind 20 = .ok (.athrow, 1) := by decide +kernel
theorem dX4_wind_21 : decode cX4_wind 21 = .ok (.iload_n 2, 1) := by decide +kernel
theorem dX4_wind_22 : decode cX4_wind 22 = .ok (.invokestatic 58, 3) := by decide +kernel
theorem dX4_wind_25 : decode cX4_wind 25 = .ok (.ifCond .ne 13, 3) := by decide +kernel
theorem dX4_wind_28 : decode cX4_wind 28 = .ok (.new 61, 3) := by decide +kernel
theorem dX4_wind_31 : decode cX4_wind 31 = .ok (.dup, 1) := by decide +kernel
theorem dX4_wind_32 : decode cX4_wind 32 = .ok (.ldc 99, 2) := by decide +kernel
theorem dX4_wind_34 : decode cX4_wind 34 = .ok (.invokespecial 65, 3) := by decide +kernel
theorem dX4_wind_37 : decode cX4_wind 37 = .ok (.athrow, 1) := by decide +kernel
theorem dX4_wind_38 : decode cX4_wind 38 = .ok (.aload_n 0, 1) := by decide +kernel
theorem dX4_wind_39 : decode cX4_wind 39 = .ok (.getfield 32, 3) := by decide +kernel
theorem dX4_wind_42 : decode cX4_wind 42 = .ok (.aload_n 0, 1) := by decide +kernel
theorem dX4_wind_43 : decode cX4_wind 43 = .ok (.getfield 10, 3) := by decide +kernel
theorem dX4_wind_46 : decode cX4_wind 46 = .ok (.invokevirtual 77, 3) := by decide +kernel
theorem dX4_wind_49 : decode cX4_wind 49 = .ok (.aload_n 0, 1) := by decide +kernel
theorem dX4_wind_50 : decode cX4_wind 50 = .ok (.getfield 10, 3) := by decide +kernel
theorem dX4_wind_53 : decode cX4_wind 53 = .ok (.iload_n 1, 1) := by decide +kernel
theorem dX4_wind_54 : decode cX4_wind 54 = .ok (.iload_n 2, 1) := by decide +kernel
theorem dX4_wind_55 : decode cX4_wind 55 = .ok (.invokevirtual 101, 3) := by decide +kernel
theorem dX4_wind_58 : decode cX4_wind 58 = .ok (.ireturn, 1) := by decide +kernel
set_option maxRecDepth 20000 in
theorem ggX4_hold_X0_has : GoodIn wsX4_hold wsX0_has := goodIn_r _ [9, 10, 52, 53, 54, 55, 56, 57, 58, 59, 60, 61, 62, 63, 64, 65] (by decide +kernel) (by decide +kernel)
set_option maxRecDepth 20000 in
theorem gX4_hold_X0_has : GoodIn wsX4_hold (wsV RX4 85 RX0 yX0_has wsX0_has) := goodIn_app (goodIn_of _ (by decide +kernel)) ggX4_hold_X0_has
set_option maxRecDepth 20000 in
theorem ggX4_hold_X2_push : GoodIn wsX4_hold wsX2_push := goodIn_r _ [15, 16, 17, 18, 19, 20, 14, 21, 22, 23, 24, 8, 25, 26, 27, 28, 29, 30, 10, 31, 32, 33, 34, 35, 36, 37, 38, 66, 67, 52, 53, 54, 55, 56, 57, 58, 59, 60, 61, 62, 63, 64, 65] (by decide +kernel) (by decide +kernel)
set_option maxRecDepth 20000 in
theorem gX4_hold_X2_push : GoodIn wsX4_hold (wsV RX4 77 RX2 yX2_push wsX2_push) := goodIn_app (goodIn_of _ (by decide +kernel)) ggX4_hold_X2_push
set_option maxRecDepth 20000 in
theorem ggX4_hold_X0_holdOrLetGo : GoodIn wsX4_hold wsX0_holdOrLetGo := goodIn_r _ [42, 29, 43, 6, 7, 8, 9, 10, 52, 53, 54, 55, 56, 57, 58, 59, 60, 61, 62, 63, 64, 65] (by decide +kernel) (by decide +kernel)
set_option maxRecDepth 20000 in
theorem gX4_hold_X0_holdOrLetGo : GoodIn wsX4_hold (wsV RX4 104 RX0 yX0_holdOrLetGo wsX0_holdOrLetGo) := goodIn_app (goodIn_of _ (by decide +kernel)) ggX4_hold_X0_holdOrLetGo
theorem dX4_hold_0 : decode cX4_hold 0 = .ok (.aload_n 0, 1) := by decide +kernel
theorem dX4_hold_1 : decode cX4_hold 1 = .ok (.getfield 10, 3) := by decide +kernel
theorem dX4_hold_4 : decode cX4_hold 4 = .ok (.iload_n 1, 1) := by decide +kernel
theorem dX4_hold_5 : decode cX4_hold 5 = .ok (.invokevirtual 85, 3) := by decide +kernel
theorem dX4_hold_8 : decode cX4_hold 8 = .ok (.ifCond .ne 13, 3) := by decide +kernel
theorem dX4_hold_11 : decode cX4_hold 11 = .ok (.new 88, 3) := by decide +kernel
theorem dX4_hold_14 : decode cX4_hold 14 = .ok (.dup, 1) := by decide +kernel
theorem dX4_hold_15 : decode cX4_hold 15 = .ok (.ldc 90, 2) := by decide +kernel
theorem dX4_hold_17 : decode cX4_hold 17 = .ok (.invokespecial 92, 3) := by decide +kernel
theorem dX4_hold_20 : decode cX4_hold 20 = .ok (.athrow, 1) := by decide +kernel
theorem dX4_hold_21 : decode cX4_hold 21 = .ok (.aload_n 0, 1) := by decide +kernel
theorem dX4_hold_22 : decode cX4_hold 22 = .ok (.getfield 32, 3) := by decide +kernel
theorem dX4_hold_25 : decode cX4_hold 25 = .ok (.aload_n 0, 1) := by decide +kernel
theorem dX4_hold_26 : decode cX4_hold 26 = .ok (.getfield 10, 3) := by decide +kernel
theorem dX4_hold_29 : decode cX4_hold 29 = .ok (.invokevirtual 77, 3) := by decide +kernel
theorem dX4_hold_32 : decode cX4_hold 32 = .ok (.aload_n 0, 1) := by decide +kernel
theorem dX4_hold_33 : decode cX4_hold 33 = .ok (.getfield 10, 3) := by decide +kernel
theorem dX4_hold_36 : decode cX4_hold 36 = .ok (.iload_n 1, 1) := by decide +kernel
theorem dX4_hold_37 : decode cX4_hold 37 = .ok (.invokevirtual 104, 3) := by decide +kernel
theorem dX4_hold_40 : decode cX4_hold 40 = .ok (.ireturn, 1) := by decide +kernel
set_option maxRecDepth 20000 in
theorem ggX4_take_X0_isEmpty : GoodIn wsX4_take wsX0_isEmpty := goodIn_r _ [9, 10, 51, 52, 53, 54, 55, 56, 57, 58, 59, 60, 61, 62, 63, 64] (by decide +kernel) (by decide +kernel)
set_option maxRecDepth 20000 in
theorem gX4_take_X0_isEmpty : GoodIn wsX4_take (wsV RX4 108 RX0 yX0_isEmpty wsX0_isEmpty) := goodIn_app (goodIn_of _ (by decide +kernel)) ggX4_take_X0_isEmpty
set_option maxRecDepth 20000 in
theorem ggX4_take_X2_push : GoodIn wsX4_take wsX2_push := goodIn_r _ [15, 16, 17, 18, 19, 20, 14, 21, 22, 23, 24, 8, 25, 26, 27, 28, 29, 30, 10, 31, 32, 33, 34, 35, 36, 37, 38, 65, 66, 51, 52, 53, 54, 55, 56, 57, 58, 59, 60, 61, 62, 63, 64] (by decide +kernel) (by decide +kernel)
set_option maxRecDepth 20000 in
theorem gX4_take_X2_push : GoodIn wsX4_take (wsV RX4 77 RX2 yX2_push wsX2_push) := goodIn_app (goodIn_of _ (by decide +kernel)) ggX4_take_X2_push
set_option maxRecDepth 20000 in
theorem ggX4_take_X0_removeLast : GoodIn wsX4_take wsX0_removeLast := goodIn_r _ [42, 10, 51, 52, 53, 54, 55, 56, 57, 58, 59, 60, 61, 62, 63, 64] (by decide +kernel) (by decide +kernel)
set_option maxRecDepth 20000 in
theorem gX4_take_X0_removeLast : GoodIn wsX4_take (wsV RX4 113 RX0 yX0_removeLast wsX0_removeLast) := goodIn_app (goodIn_of _ (by decide +kernel)) ggX4_take_X0_removeLast
theorem dX4_take_0 : decode cX4_take 0 = .ok (.aload_n 0, 1) := by decide +kernel
theorem dX4_take_1 : decode cX4_take 1 = .ok (.getfield 10, 3) := by decide +kernel
theorem dX4_take_4 : decode cX4_take 4 = .ok (.invokevirtual 108, 3) := by decide +kernel
theorem dX4_take_7 : decode cX4_take 7 = .ok (.ifCond .eq 13, 3) := by decide +kernel
theorem dX4_take_10 : decode cX4_take 10 = .ok (.new 72, 3) := by decide +kernel
theorem dX4_take_13 : decode cX4_take 13 = .ok (.dup, 1) := by decide +kernel
theorem dX4_take_14 : decode cX4_take 14 = .ok (.ldc 111, 2) := by decide +kernel
theorem dX4_take_16 : decode cX4_take 16 = .ok (.invokespecial 76, 3) := by decide +kernel
theorem dX4_take_19 : decode cX4_take 19 = .ok (.athrow, 1) := by decide +kernel
theorem dX4_take_20 : decode cX4_take 20 = .ok (.aload_n 0, 1) := by decide +kernel
theorem dX4_take_21 : decode cX4_take 21 = .ok (.getfield 32, 3) := by decide +kernel
theorem dX4_take_24 : decode cX4_take 24 = .ok (.aload_n 0, 1) := by decide +kernel
theorem dX4_take_25 : decode cX4_take 25 = .ok (.getfield 10, 3) := by decide +kernel
theorem dX4_take_28 : decode cX4_take 28 = .ok (.invokevirtual 77, 3) := by decide +kernel
theorem dX4_take_31 : decode cX4_take 31 = .ok (.aload_n 0, 1) := by decide +kernel
theorem dX4_take_32 : decode cX4_take 32 = .ok (.getfield 10, 3) := by decide +kernel
theorem dX4_take_35 : decode cX4_take 35 = .ok (.invokevirtual 113, 3) := by decide +kernel
theorem dX4_take_38 : decode cX4_take 38 = .ok (.ireturn, 1) := by decide +kernel
set_option maxRecDepth 20000 in
theorem ggX4_run_X4_isWithin : GoodIn wsX4_run wsX4_isWithin := goodIn_r _ [10] (by decide +kernel) (by decide +kernel)
set_option maxRecDepth 20000 in
theorem gX4_run_X4_isWithin : GoodIn wsX4_run (va_wsS RX4 54 yX4_isWithin wsX4_isWithin) := goodIn_app (goodIn_of _ (by decide +kernel)) ggX4_run_X4_isWithin
set_option maxRecDepth 20000 in
theorem ggX4_run_X0_hasTimeFor : GoodIn wsX4_run wsX0_hasTimeFor := goodIn_r _ [15, 16, 17, 101, 102, 103, 104, 105, 106, 107, 108, 109, 110, 111, 112, 113, 114] (by decide +kernel) (by decide +kernel)
set_option maxRecDepth 20000 in
theorem gX4_run_X0_hasTimeFor : GoodIn wsX4_run (wsV RX4 119 RX0 yX0_hasTimeFor wsX0_hasTimeFor) := goodIn_app (goodIn_of _ (by decide +kernel)) ggX4_run_X0_hasTimeFor
set_option maxRecDepth 20000 in
theorem ggX4_run_X2_push : GoodIn wsX4_run wsX2_push := goodIn_r _ [22, 23, 24, 25, 26, 27, 21, 28, 29, 30, 31, 14, 32, 33, 34, 35, 36, 37, 38, 39, 40, 41, 42, 43, 16, 44, 45, 115, 116, 101, 102, 103, 104, 105, 106, 107, 108, 109, 110, 111, 112, 113, 114] (by decide +kernel) (by decide +kernel)
set_option maxRecDepth 20000 in
theorem gX4_run_X2_push : GoodIn wsX4_run (wsV RX4 77 RX2 yX2_push wsX2_push) := goodIn_app (goodIn_of _ (by decide +kernel)) ggX4_run_X2_push
set_option maxRecDepth 20000 in
theorem ggX4_run_X0_letGoBy : GoodIn wsX4_run wsX0_letGoBy := goodIn_r _ [49, 44, 50, 51, 52, 14, 53, 16, 45, 54, 55, 56, 57, 39, 41, 40, 58, 59, 60, 61, 62, 63, 64, 65, 38, 36, 35, 66, 67, 68, 69, 34, 70, 71, 72, 73, 74, 75, 76, 77, 78, 79, 80, 81, 82, 83, 33, 37, 84, 85, 86, 87, 88, 89, 90, 91, 42, 92, 101, 102, 103, 104, 105, 106, 107, 108, 109, 110, 111, 112, 113, 114] (by decide +kernel) (by decide +kernel)
set_option maxRecDepth 20000 in
theorem gX4_run_X0_letGoBy : GoodIn wsX4_run (wsV RX4 124 RX0 yX0_letGoBy wsX0_letGoBy) := goodIn_app (goodIn_of _ (by decide +kernel)) ggX4_run_X0_letGoBy
theorem dX4_run_0 : decode cX4_run 0 = .ok (.iload_n 1, 1) := by decide +kernel
theorem dX4_run_1 : decode cX4_run 1 = .ok (.iconst 1, 1) := by decide +kernel
theorem dX4_run_2 : decode cX4_run 2 = .ok (.sipush 500, 3) := by decide +kernel
theorem dX4_run_5 : decode cX4_run 5 = .ok (.invokestatic 54, 3) := by decide +kernel
theorem dX4_run_8 : decode cX4_run 8 = .ok (.ifCond .ne 13, 3) := by decide +kernel
theorem dX4_run_11 : decode cX4_run 11 = .ok (.new 61, 3) := by decide +kernel
theorem dX4_run_14 : decode cX4_run 14 = .ok (.dup, 1) := by decide +kernel
theorem dX4_run_15 : decode cX4_run 15 = .ok (.ldc 117, 2) := by decide +kernel
theorem dX4_run_17 : decode cX4_run 17 = .ok (.invokespecial 65, 3) := by decide +kernel
theorem dX4_run_20 : decode cX4_run 20 = .ok (.athrow, 1) := by decide +kernel
theorem dX4_run_21 : decode cX4_run 21 = .ok (.aload_n 0, 1) := by decide +kernel
theorem dX4_run_22 : decode cX4_run 22 = .ok (.getfield 10, 3) := by decide +kernel
theorem dX4_run_25 : decode cX4_run 25 = .ok (.iload_n 1, 1) := by decide +kernel
theorem dX4_run_26 : decode cX4_run 26 = .ok (.invokevirtual 119, 3) := by decide +kernel
theorem dX4_run_29 : decode cX4_run 29 = .ok (.ifCond .ne 13, 3) := by decide +kernel
theorem dX4_run_32 : decode cX4_run 32 = .ok (.new 72, 3) := by decide +kernel
theorem dX4_run_35 : decode cX4_run 35 = .ok (.dup, 1) := by decide +kernel
theorem dX4_run_36 : decode cX4_run 36 = .ok (.ldc 122, 2) := by decide +kernel
theorem dX4_run_38 : decode cX4_run 38 = .ok (.invokespecial 76, 3) := by decide +kernel
theorem dX4_run_41 : decode cX4_run 41 = .ok (.athrow, 1) := by decide +kernel
theorem dX4_run_42 : decode cX4_run 42 = .ok (.aload_n 0, 1) := by decide +kernel
theorem dX4_run_43 : decode cX4_run 43 = .ok (.getfield 32, 3) := by decide +kernel
theorem dX4_run_46 : decode cX4_run 46 = .ok (.aload_n 0, 1) := by decide +kernel
theorem dX4_run_47 : decode cX4_run 47 = .ok (.getfield 10, 3) := by decide +kernel
theorem dX4_run_50 : decode cX4_run 50 = .ok (.invokevirtual 77, 3) := by decide +kernel
theorem dX4_run_53 : decode cX4_run 53 = .ok (.aload_n 0, 1) := by decide +kernel
theorem dX4_run_54 : decode cX4_run 54 = .ok (.getfield 10, 3) := by decide +kernel
theorem dX4_run_57 : decode cX4_run 57 = .ok (.iload_n 1, 1) := by decide +kernel
theorem dX4_run_58 : decode cX4_run 58 = .ok (.invokevirtual 124, 3) := by decide +kernel
theorem dX4_run_61 : decode cX4_run 61 = .ok (.ireturn, 1) := by decide +kernel
set_option maxRecDepth 20000 in
theorem ggX4_stop_X2_push : GoodIn wsX4_stop wsX2_push := goodIn_r _ [7, 8, 9, 10, 11, 12, 6, 13, 14, 15, 16, 17, 18, 19, 20, 21, 22, 23, 24, 25, 26, 27, 28, 29, 30, 31, 32, 49, 50, 51, 52, 53, 54, 55, 56, 57, 58, 59, 60, 61, 62, 63, 64] (by decide +kernel) (by decide +kernel)
set_option maxRecDepth 20000 in
theorem gX4_stop_X2_push : GoodIn wsX4_stop (wsV RX4 77 RX2 yX2_push wsX2_push) := goodIn_app (goodIn_of _ (by decide +kernel)) ggX4_stop_X2_push
set_option maxRecDepth 20000 in
theorem ggX4_stop_X0_stopBoard : GoodIn wsX4_stop wsX0_stopBoard := goodIn_r _ [36, 25, 37, 38, 39, 40, 26, 51, 52, 53, 54, 55, 56, 57, 58, 59, 60, 61, 62, 63, 64] (by decide +kernel) (by decide +kernel)
set_option maxRecDepth 20000 in
theorem gX4_stop_X0_stopBoard : GoodIn wsX4_stop (wsV RX4 127 RX0 yX0_stopBoard wsX0_stopBoard) := goodIn_app (goodIn_of _ (by decide +kernel)) ggX4_stop_X0_stopBoard
theorem dX4_stop_0 : decode cX4_stop 0 = .ok (.aload_n 0, 1) := by decide +kernel
theorem dX4_stop_1 : decode cX4_stop 1 = .ok (.getfield 32, 3) := by decide +kernel
theorem dX4_stop_4 : decode cX4_stop 4 = .ok (.aload_n 0, 1) := by decide +kernel
theorem dX4_stop_5 : decode cX4_stop 5 = .ok (.getfield 10, 3) := by decide +kernel
theorem dX4_stop_8 : decode cX4_stop 8 = .ok (.invokevirtual 77, 3) := by decide +kernel
theorem dX4_stop_11 : decode cX4_stop 11 = .ok (.aload_n 0, 1) := by decide +kernel
theorem dX4_stop_12 : decode cX4_stop 12 = .ok (.getfield 10, 3) := by decide +kernel
theorem dX4_stop_15 : decode cX4_stop 15 = .ok (.invokevirtual 127, 3) := by decide +kernel
theorem dX4_stop_18 : decode cX4_stop 18 = .ok (.ireturn, 1) := by decide +kernel
set_option maxRecDepth 20000 in
theorem ggX4_set_X4_isSetting : GoodIn wsX4_set wsX4_isSetting := goodIn_r _ [10, 11, 12, 9, 13] (by decide +kernel) (by decide +kernel)
set_option maxRecDepth 20000 in
theorem gX4_set_X4_isSetting : GoodIn wsX4_set (va_wsS RX4 130 yX4_isSetting wsX4_isSetting) := goodIn_app (goodIn_of _ (by decide +kernel)) ggX4_set_X4_isSetting
set_option maxRecDepth 20000 in
theorem ggX4_set_X4_highestOf : GoodIn wsX4_set wsX4_highestOf := goodIn_r _ [16] (by decide +kernel) (by decide +kernel)
set_option maxRecDepth 20000 in
theorem gX4_set_X4_highestOf : GoodIn wsX4_set (va_wsS RX4 135 yX4_highestOf wsX4_highestOf) := goodIn_app (goodIn_of _ (by decide +kernel)) ggX4_set_X4_highestOf
set_option maxRecDepth 20000 in
theorem ggX4_set_X4_isWithin : GoodIn wsX4_set wsX4_isWithin := goodIn_r _ [13] (by decide +kernel) (by decide +kernel)
set_option maxRecDepth 20000 in
theorem gX4_set_X4_isWithin : GoodIn wsX4_set (va_wsS RX4 54 yX4_isWithin wsX4_isWithin) := goodIn_app (goodIn_of _ (by decide +kernel)) ggX4_set_X4_isWithin
set_option maxRecDepth 20000 in
theorem ggX4_set_X2_push : GoodIn wsX4_set wsX2_push := goodIn_r _ [21, 22, 23, 24, 25, 26, 20, 27, 28, 29, 30, 31, 32, 33, 34, 35, 36, 37, 38, 39, 40, 41, 42, 43, 44, 45, 46, 63, 64, 65, 66, 67, 68, 69, 70, 71, 72, 73, 74, 75, 76, 77, 78] (by decide +kernel) (by decide +kernel)
set_option maxRecDepth 20000 in
theorem gX4_set_X2_push : GoodIn wsX4_set (wsV RX4 77 RX2 yX2_push wsX2_push) := goodIn_app (goodIn_of _ (by decide +kernel)) ggX4_set_X2_push
set_option maxRecDepth 20000 in
theorem ggX4_set_X0_changeSetting : GoodIn wsX4_set wsX0_changeSetting := goodIn_r _ [50, 41, 42, 43, 51, 52, 53, 31, 54, 65, 66, 67, 68, 69, 70, 71, 72, 73, 74, 75, 76, 77, 78] (by decide +kernel) (by decide +kernel)
set_option maxRecDepth 20000 in
theorem gX4_set_X0_changeSetting : GoodIn wsX4_set (wsV RX4 140 RX0 yX0_changeSetting wsX0_changeSetting) := goodIn_app (goodIn_of _ (by decide +kernel)) ggX4_set_X0_changeSetting
theorem dX4_set_0 : decode cX4_set 0 = .ok (.iload_n 1, 1) := by decide +kernel
theorem dX4_set_1 : decode cX4_set 1 = .ok (.invokestatic 130, 3) := by decide +kernel
theorem dX4_set_4 : decode cX4_set 4 = .ok (.ifCond .ne 13, 3) := by decide +kernel
theorem dX4_set_7 : decode cX4_set 7 = .ok (.new 88, 3) := by decide +kernel
theorem dX4_set_10 : decode cX4_set 10 = .ok (.dup, 1) := by decide +kernel
theorem dX4_set_11 : decode cX4_set 11 = .ok (.ldc 133, 2) := by decide +kernel
theorem dX4_set_13 : decode cX4_set 13 = .ok (.invokespecial 92, 3) := by decide +kernel
theorem dX4_set_16 : decode cX4_set 16 = .ok (.athrow, 1) := by decide +kernel
theorem dX4_set_17 : decode cX4_set 17 = .ok (.iload_n 2, 1) := by decide +kernel
theorem dX4_set_18 : decode cX4_set 18 = .ok (.iconst 0, 1) := by decide +kernel
theorem dX4_set_19 : decode cX4_set 19 = .ok (.iload_n 1, 1) := by decide +kernel
theorem dX4_set_20 : decode cX4_set 20 = .ok (.invokestatic 135, 3) := by decide +kernel
theorem dX4_set_23 : decode cX4_set 23 = .ok (.invokestatic 54, 3) := by decide +kernel
theorem dX4_set_26 : decode cX4_set 26 = .ok (.ifCond .ne 13, 3) := by decide +kernel
theorem dX4_set_29 : decode cX4_set 29 = .ok (.new 61, 3) := by decide +kernel
theorem dX4_set_32 : decode cX4_set 32 = .ok (.dup, 1) := by decide +kernel
theorem dX4_set_33 : decode cX4_set 33 = .ok (.ldc 138, 2) := by decide +kernel
theorem dX4_set_35 : decode cX4_set 35 = .ok (.invokespecial 65, 3) := by decide +kernel
theorem dX4_set_38 : decode cX4_set 38 = .ok (.athrow, 1) := by decide +kernel
theorem dX4_set_39 : decode cX4_set 39 = .ok (.aload_n 0, 1) := by decide +kernel
theorem dX4_set_40 : decode cX4_set 40 = .ok (.getfield 32, 3) := by decide +kernel
theorem dX4_set_43 : decode cX4_set 43 = .ok (.aload_n 0, 1) := by decide +kernel
theorem dX4_set_44 : decode cX4_set 44 = .ok (.getfield 10, 3) := by decide +kernel
theorem dX4_set_47 : decode cX4_set 47 = .ok (.invokevirtual 77, 3) := by decide +kernel
theorem dX4_set_50 : decode cX4_set 50 = .ok (.aload_n 0, 1) := by decide +kernel
theorem dX4_set_51 : decode cX4_set 51 = .ok (.getfield 10, 3) := by decide +kernel
theorem dX4_set_54 : decode cX4_set 54 = .ok (.iload_n 1, 1) := by decide +kernel
theorem dX4_set_55 : decode cX4_set 55 = .ok (.iload_n 2, 1) := by decide +kernel
theorem dX4_set_56 : decode cX4_set 56 = .ok (.invokevirtual 140, 3) := by decide +kernel
theorem dX4_set_59 : decode cX4_set 59 = .ok (.ireturn, 1) := by decide +kernel
set_option maxRecDepth 20000 in
theorem ggX4_undo_X2_size : GoodIn wsX4_undo wsX2_size := goodIn_r _ [9, 10, 43, 44] (by decide +kernel) (by decide +kernel)
set_option maxRecDepth 20000 in
theorem gX4_undo_X2_size : GoodIn wsX4_undo (wsV RX4 190 RX2 yX2_size wsX2_size) := goodIn_app (goodIn_of _ (by decide +kernel)) ggX4_undo_X2_size
set_option maxRecDepth 20000 in
theorem ggX4_undo_X2_popInto : GoodIn wsX4_undo wsX2_popInto := goodIn_r _ [14, 10, 15, 16, 17, 18, 19, 20, 21, 22, 23, 24, 25, 26, 27, 28, 29, 30, 31, 32, 33, 34, 43, 44, 45, 46, 47, 48, 49, 50, 51, 52, 53, 54, 55, 56, 57, 58] (by decide +kernel) (by decide +kernel)
set_option maxRecDepth 20000 in
theorem gX4_undo_X2_popInto : GoodIn wsX4_undo (wsV RX4 193 RX2 yX2_popInto wsX2_popInto) := goodIn_app (goodIn_of _ (by decide +kernel)) ggX4_undo_X2_popInto
theorem dX4_undo_0 : decode cX4_undo 0 = .ok (.aload_n 0, 1) := by decide +kernel
theorem dX4_undo_1 : decode cX4_undo 1 = .ok (.getfield 32, 3) := by decide +kernel
theorem dX4_undo_4 : decode cX4_undo 4 = .ok (.invokevirtual 190, 3) := by decide +kernel
theorem dX4_undo_7 : decode cX4_undo 7 = .ok (.ifCond .ne 13, 3) := by decide +kernel
theorem dX4_undo_10 : decode cX4_undo 10 = .ok (.new 72, 3) := by decide +kernel
theorem dX4_undo_13 : decode cX4_undo 13 = .ok (.dup, 1) := by decide +kernel
theorem dX4_undo_14 : decode cX4_undo 14 = .ok (.ldc 191, 2) := by decide +kernel
theorem dX4_undo_16 : decode cX4_undo 16 = .ok (.invokespecial 76, 3) := by decide +kernel
theorem dX4_undo_19 : decode cX4_undo 19 = .ok (.athrow, 1) := by decide +kernel
theorem dX4_undo_20 : decode cX4_undo 20 = .ok (.aload_n 0, 1) := by decide +kernel
theorem dX4_undo_21 : decode cX4_undo 21 = .ok (.getfield 32, 3) := by decide +kernel
theorem dX4_undo_24 : decode cX4_undo 24 = .ok (.aload_n 0, 1) := by decide +kernel
theorem dX4_undo_25 : decode cX4_undo 25 = .ok (.getfield 10, 3) := by decide +kernel
theorem dX4_undo_28 : decode cX4_undo 28 = .ok (.invokevirtual 193, 3) := by decide +kernel
theorem dX4_undo_31 : decode cX4_undo 31 = .ok (.ireturn, 1) := by decide +kernel
set_option maxRecDepth 20000 in
theorem ggX4_arm_X0_has : GoodIn wsX4_arm wsX0_has := goodIn_r _ [10, 11, 52, 53, 54, 55, 56, 57, 58, 59, 60, 61, 62, 63, 64, 65] (by decide +kernel) (by decide +kernel)
set_option maxRecDepth 20000 in
theorem gX4_arm_X0_has : GoodIn wsX4_arm (wsV RX4 85 RX0 yX0_has wsX0_has) := goodIn_app (goodIn_of _ (by decide +kernel)) ggX4_arm_X0_has
set_option maxRecDepth 20000 in
theorem ggX4_arm_X4_isWithin : GoodIn wsX4_arm wsX4_isWithin := goodIn_r _ [15] (by decide +kernel) (by decide +kernel)
set_option maxRecDepth 20000 in
theorem gX4_arm_X4_isWithin : GoodIn wsX4_arm (va_wsS RX4 54 yX4_isWithin wsX4_isWithin) := goodIn_app (goodIn_of _ (by decide +kernel)) ggX4_arm_X4_isWithin
set_option maxRecDepth 20000 in
theorem ggX4_arm_X0_property : GoodIn wsX4_arm wsX0_property := goodIn_r _ [19, 20, 21, 22, 23, 24, 25, 7, 8, 9, 10, 11, 26, 27, 28, 29, 30, 31, 32, 33, 34, 35, 36, 37, 38, 39, 40, 41, 42, 43, 52, 53, 54, 55, 56, 57, 58, 59, 60, 61, 62, 63, 64, 65] (by decide +kernel) (by decide +kernel)
set_option maxRecDepth 20000 in
theorem gX4_arm_X0_property : GoodIn wsX4_arm (wsV RX4 199 RX0 yX0_property wsX0_property) := goodIn_app (goodIn_of _ (by decide +kernel)) ggX4_arm_X0_property
theorem dX4_arm_0 : decode cX4_arm 0 = .ok (.aload_n 0, 1) := by decide +kernel
theorem dX4_arm_1 : decode cX4_arm 1 = .ok (.getfield 10, 3) := by decide +kernel
theorem dX4_arm_4 : decode cX4_arm 4 = .ok (.iload_n 1, 1) := by decide +kernel
theorem dX4_arm_5 : decode cX4_arm 5 = .ok (.invokevirtual 85, 3) := by decide +kernel
theorem dX4_arm_8 : decode cX4_arm 8 = .ok (.ifCond .ne 13, 3) := by decide +kernel
theorem dX4_arm_11 : decode cX4_arm 11 = .ok (.new 88, 3) := by decide +kernel
theorem dX4_arm_14 : decode cX4_arm 14 = .ok (.dup, 1) := by decide +kernel
theorem dX4_arm_15 : decode cX4_arm 15 = .ok (.ldc 90, 2) := by decide +kernel
theorem dX4_arm_17 : decode cX4_arm 17 = .ok (.invokespecial 92, 3) := by decide +kernel
theorem dX4_arm_20 : decode cX4_arm 20 = .ok (.athrow, 1) := by decide +kernel
theorem dX4_arm_21 : decode cX4_arm 21 = .ok (.iload_n 2, 1) := by decide +kernel
theorem dX4_arm_22 : decode cX4_arm 22 = .ok (.iconst 0, 1) := by decide +kernel
theorem dX4_arm_23 : decode cX4_arm 23 = .ok (.bipush 8, 2) := by decide +kernel
theorem dX4_arm_25 : decode cX4_arm 25 = .ok (.invokestatic 54, 3) := by decide +kernel
theorem dX4_arm_28 : decode cX4_arm 28 = .ok (.ifCond .ne 13, 3) := by decide +kernel
theorem dX4_arm_31 : decode cX4_arm 31 = .ok (.new 61, 3) := by decide +kernel
theorem dX4_arm_34 : decode cX4_arm 34 = .ok (.dup, 1) := by decide +kernel
theorem dX4_arm_35 : decode cX4_arm 35 = .ok (.ldc 197, 2) := by decide +kernel
theorem dX4_arm_37 : decode cX4_arm 37 = .ok (.invokespecial 65, 3) := by decide +kernel
theorem dX4_arm_40 : decode cX4_arm 40 = .ok (.athrow, 1) := by decide +kernel
theorem dX4_arm_41 : decode cX4_arm 41 = .ok (.aload_n 0, 1) := by decide +kernel
theorem dX4_arm_42 : decode cX4_arm 42 = .ok (.getfield 10, 3) := by decide +kernel
theorem dX4_arm_45 : decode cX4_arm 45 = .ok (.iload_n 1, 1) := by decide +kernel
theorem dX4_arm_46 : decode cX4_arm 46 = .ok (.iload_n 2, 1) := by decide +kernel
theorem dX4_arm_47 : decode cX4_arm 47 = .ok (.invokevirtual 199, 3) := by decide +kernel
theorem dX4_arm_50 : decode cX4_arm 50 = .ok (.ireturn, 1) := by decide +kernel
set_option maxRecDepth 20000 in
theorem ggX4_apart_X0_has : GoodIn wsX4_apart wsX0_has := goodIn_r _ [10, 11, 33, 34, 35, 36, 37, 38, 39, 40, 41, 42, 43, 44, 45, 46] (by decide +kernel) (by decide +kernel)
set_option maxRecDepth 20000 in
theorem gX4_apart_X0_has : GoodIn wsX4_apart (wsV RX4 85 RX0 yX0_has wsX0_has) := goodIn_app (goodIn_of _ (by decide +kernel)) ggX4_apart_X0_has
set_option maxRecDepth 20000 in
theorem ggX4_apart_X0_distance : GoodIn wsX4_apart wsX0_distance := goodIn_r _ [15, 16, 17, 18, 19, 20, 21, 22, 23, 24, 7, 8, 9, 10, 11, 33, 34, 35, 36, 37, 38, 39, 40, 41, 42, 43, 44, 45, 46] (by decide +kernel) (by decide +kernel)
set_option maxRecDepth 20000 in
theorem gX4_apart_X0_distance : GoodIn wsX4_apart (wsV RX4 204 RX0 yX0_distance wsX0_distance) := goodIn_app (goodIn_of _ (by decide +kernel)) ggX4_apart_X0_distance
theorem dX4_apart_0 : decode cX4_apart 0 = .ok (.aload_n 0, 1) := by decide +kernel
theorem dX4_apart_1 : decode cX4_apart 1 = .ok (.getfield 10, 3) := by decide +kernel
theorem dX4_apart_4 : decode cX4_apart 4 = .ok (.iload_n 1, 1) := by decide +kernel
theorem dX4_apart_5 : decode cX4_apart 5 = .ok (.invokevirtual 85, 3) := by decide +kernel
theorem dX4_apart_8 : decode cX4_apart 8 = .ok (.ifCond .eq 14, 3) := by decide +kernel
theorem dX4_apart_11 : decode cX4_apart 11 = .ok (.aload_n 0, 1) := by decide +kernel
theorem dX4_apart_12 : decode cX4_apart 12 = .ok (.getfield 10, 3) := by decide +kernel
theorem dX4_apart_15 : decode cX4_apart 15 = .ok (.iload_n 2, 1) := by decide +kernel
theorem dX4_apart_16 : decode cX4_apart 16 = .ok (.invokevirtual 85, 3) := by decide +kernel
theorem dX4_apart_19 : decode cX4_apart 19 = .ok (.ifCond .ne 13, 3) := by decide +kernel
theorem dX4_apart_22 : decode cX4_apart 22 = .ok (.new 88, 3) := by decide +kernel
theorem dX4_apart_25 : decode cX4_apart 25 = .ok (.dup, 1) := by decide +kernel
theorem dX4_apart_26 : decode cX4_apart 26 = .ok (.ldc 90, 2) := by decide +kernel
theorem dX4_apart_28 : decode cX4_apart 28 = .ok (.invokespecial 92, 3) := by decide +kernel
theorem dX4_apart_31 : decode cX4_apart 31 = .ok (.athrow, 1) := by decide +kernel
theorem dX4_apart_32 : decode cX4_apart 32 = .ok (.iload_n 1, 1) := by decide +kernel
theorem dX4_apart_33 : decode cX4_apart 33 = .ok (.iload_n 2, 1) := by decide +kernel
theorem dX4_apart_34 : decode cX4_apart 34 = .ok (.if_icmp .ne 13, 3) := by decide +kernel
theorem dX4_apart_37 : decode cX4_apart 37 = .ok (.new 61, 3) := by decide +kernel
theorem dX4_apart_40 : decode cX4_apart 40 = .ok (.dup, 1) := by decide +kernel
theorem dX4_apart_41 : decode cX4_apart 41 = .ok (.ldc 202, 2) := by decide +kernel
theorem dX4_apart_43 : decode cX4_apart 43 = .ok (.invokespecial 65, 3) := by decide +kernel
theorem dX4_apart_46 : decode cX4_apart 46 = .ok (.athrow, 1) := by decide +kernel
theorem dX4_apart_47 : decode cX4_apart 47 = .ok (.aload_n 0, 1) := by decide +kernel
theorem dX4_apart_48 : decode cX4_apart 48 = .ok (.getfield 10, 3) := by decide +kernel
theorem dX4_apart_51 : decode cX4_apart 51 = .ok (.iload_n 1, 1) := by decide +kernel
theorem dX4_apart_52 : decode cX4_apart 52 = .ok (.iload_n 2, 1) := by decide +kernel
theorem dX4_apart_53 : decode cX4_apart 53 = .ok (.invokevirtual 204, 3) := by decide +kernel
theorem dX4_apart_56 : decode cX4_apart 56 = .ok (.ireturn, 1) := by decide +kernel
set_option maxRecDepth 20000 in
theorem ggX4_count_X4_isWithin : GoodIn wsX4_count wsX4_isWithin := goodIn_r _ [6] (by decide +kernel) (by decide +kernel)
set_option maxRecDepth 20000 in
theorem gX4_count_X4_isWithin : GoodIn wsX4_count (va_wsS RX4 54 yX4_isWithin wsX4_isWithin) := goodIn_app (goodIn_of _ (by decide +kernel)) ggX4_count_X4_isWithin
set_option maxRecDepth 20000 in
theorem ggX4_count_X4_figure : GoodIn wsX4_count wsX4_figure := goodIn_r _ [10, 11, 12, 13, 14, 15, 16, 17, 18, 19, 20, 21, 22, 23, 24, 25, 26, 27, 28, 29, 30, 31, 32, 33, 34, 35, 36, 37, 38, 39, 40, 41, 42, 43, 44, 45, 46, 47, 48, 49, 50, 51, 52, 53, 54, 55, 56, 57, 58, 59, 60, 61, 62, 63, 64, 65, 66, 67, 68, 69, 70, 71, 72, 73, 74, 75, 76, 77, 78, 79, 80, 81, 82, 83, 84, 85, 86, 87, 88, 89, 90, 91, 92, 93, 94, 95, 96, 97, 98, 99, 100, 101, 102, 103, 104, 105, 106, 107, 108, 109, 110, 111, 112, 113, 114, 115, 116, 117] (by decide +kernel) (by decide +kernel)
set_option maxRecDepth 20000 in
theorem gX4_count_X4_figure : GoodIn wsX4_count (wsV RX4 209 RX4 yX4_figure wsX4_figure) := goodIn_app (goodIn_of _ (by decide +kernel)) ggX4_count_X4_figure
theorem dX4_count_0 : decode cX4_count 0 = .ok (.iload_n 1, 1) := by decide +kernel
theorem dX4_count_1 : decode cX4_count 1 = .ok (.iconst 0, 1) := by decide +kernel
theorem dX4_count_2 : decode cX4_count 2 = .ok (.bipush 11, 2) := by decide +kernel
theorem dX4_count_4 : decode cX4_count 4 = .ok (.invokestatic 54, 3) := by decide +kernel
theorem dX4_count_7 : decode cX4_count 7 = .ok (.ifCond .ne 13, 3) := by decide +kernel
theorem dX4_count_10 : decode cX4_count 10 = .ok (.new 61, 3) := by decide +kernel
theorem dX4_count_13 : decode cX4_count 13 = .ok (.dup, 1) := by decide +kernel
theorem dX4_count_14 : decode cX4_count 14 = .ok (.ldc 207, 2) := by decide +kernel
theorem dX4_count_16 : decode cX4_count 16 = .ok (.invokespecial 65, 3) := by decide +kernel
theorem dX4_count_19 : decode cX4_count 19 = .ok (.athrow, 1) := by decide +kernel
theorem dX4_count_20 : decode cX4_count 20 = .ok (.aload_n 0, 1) := by decide +kernel
theorem dX4_count_21 : decode cX4_count 21 = .ok (.iload_n 1, 1) := by decide +kernel
theorem dX4_count_22 : decode cX4_count 22 = .ok (.invokevirtual 209, 3) := by decide +kernel
theorem dX4_count_25 : decode cX4_count 25 = .ok (.ireturn, 1) := by decide +kernel
set_option maxRecDepth 20000 in
theorem ggX4_setting_X4_isSetting : GoodIn wsX4_setting wsX4_isSetting := goodIn_r _ [7, 8, 9, 6, 10] (by decide +kernel) (by decide +kernel)
set_option maxRecDepth 20000 in
theorem gX4_setting_X4_isSetting : GoodIn wsX4_setting (va_wsS RX4 130 yX4_isSetting wsX4_isSetting) := goodIn_app (goodIn_of _ (by decide +kernel)) ggX4_setting_X4_isSetting
set_option maxRecDepth 20000 in
theorem ggX4_setting_X0_settingValue : GoodIn wsX4_setting wsX0_settingValue := goodIn_r _ [15, 16, 17, 18, 27, 28, 29, 30, 31, 32, 33, 34, 35, 36, 37, 38, 39, 40] (by decide +kernel) (by decide +kernel)
set_option maxRecDepth 20000 in
theorem gX4_setting_X0_settingValue : GoodIn wsX4_setting (wsV RX4 212 RX0 yX0_settingValue wsX0_settingValue) := goodIn_app (goodIn_of _ (by decide +kernel)) ggX4_setting_X0_settingValue
theorem dX4_setting_0 : decode cX4_setting 0 = .ok (.iload_n 1, 1) := by decide +kernel
theorem dX4_setting_1 : decode cX4_setting 1 = .ok (.invokestatic 130, 3) := by decide +kernel
theorem dX4_setting_4 : decode cX4_setting 4 = .ok (.ifCond .ne 13, 3) := by decide +kernel
theorem dX4_setting_7 : decode cX4_setting 7 = .ok (.new 88, 3) := by decide +kernel
theorem dX4_setting_10 : decode cX4_setting 10 = .ok (.dup, 1) := by decide +kernel
theorem dX4_setting_11 : decode cX4_setting 11 = .ok (.ldc 133, 2) := by decide +kernel
theorem dX4_setting_13 : decode cX4_setting 13 = .ok (.invokespecial 92, 3) := by decide +kernel
theorem dX4_setting_16 : decode cX4_setting 16 = .ok (.athrow, 1) := by decide +kernel
theorem dX4_setting_17 : decode cX4_setting 17 = .ok (.aload_n 0, 1) := by decide +kernel
theorem dX4_setting_18 : decode cX4_setting 18 = .ok (.getfield 10, 3) := by decide +kernel
theorem dX4_setting_21 : decode cX4_setting 21 = .ok (.iload_n 1, 1) := by decide +kernel
theorem dX4_setting_22 : decode cX4_setting 22 = .ok (.invokevirtual 212, 3) := by decide +kernel
theorem dX4_setting_25 : decode cX4_setting 25 = .ok (.ireturn, 1) := by decide +kernel
set_option maxRecDepth 20000 in
theorem ggX4_ifRun_X4_isWithin : GoodIn wsX4_ifRun wsX4_isWithin := goodIn_r _ [6] (by decide +kernel) (by decide +kernel)
set_option maxRecDepth 20000 in
theorem gX4_ifRun_X4_isWithin : GoodIn wsX4_ifRun (va_wsS RX4 54 yX4_isWithin wsX4_isWithin) := goodIn_app (goodIn_of _ (by decide +kernel)) ggX4_ifRun_X4_isWithin
set_option maxRecDepth 20000 in
theorem ggX4_ifRun_X4_tryOut : GoodIn wsX4_ifRun wsX4_tryOut := goodIn_r _ [10, 11, 12, 13, 14, 15, 16, 17, 18, 19, 20, 21, 22, 23, 24, 25, 26, 27, 28, 29, 30, 31, 32, 33, 34, 35, 36, 37, 38, 39, 40, 41, 42, 43, 44, 45, 46, 47, 48, 49, 50, 51, 52, 53, 54, 55, 56, 57, 58, 59, 60, 61, 62, 63, 64, 65, 66, 67, 68, 69, 70, 71, 72, 73, 74, 75, 76, 77, 78, 79, 80, 81, 82, 122, 123, 124, 125, 126, 127, 128, 129, 130, 131, 132, 133, 134, 135, 136, 137, 138, 139, 140, 141, 142, 143] (by decide +kernel) (by decide +kernel)
set_option maxRecDepth 20000 in
theorem gX4_ifRun_X4_tryOut : GoodIn wsX4_ifRun (wsV RX4 217 RX4 yX4_tryOut wsX4_tryOut) := goodIn_app (goodIn_of _ (by decide +kernel)) ggX4_ifRun_X4_tryOut
set_option maxRecDepth 20000 in
theorem ggX4_ifRun_X4_outcome : GoodIn wsX4_ifRun wsX4_outcome := goodIn_r _ [86, 11, 12, 87, 88, 89, 16, 90, 30, 91, 92, 93, 94, 56, 57, 58, 59, 19, 52, 53, 54, 55, 23, 21, 20, 60, 61, 62, 63, 64, 65, 66, 67, 68, 69, 95, 96, 97, 98, 48, 49, 50, 51, 99, 100, 101, 102, 103, 104, 105, 106, 107, 108, 109, 110, 111, 112, 113, 114, 115, 116, 74, 75, 76, 77, 117, 118, 119, 120, 121, 31, 122, 123, 124, 125, 126, 127, 128, 129, 130, 131, 132, 133, 134, 135, 136, 137, 138, 139, 140, 141, 142, 143] (by decide +kernel) (by decide +kernel)
set_option maxRecDepth 20000 in
theorem gX4_ifRun_X4_outcome : GoodIn wsX4_ifRun (wsV RX4 221 RX4 yX4_outcome wsX4_outcome) := goodIn_app (goodIn_of _ (by decide +kernel)) ggX4_ifRun_X4_outcome
theorem dX4_ifRun_0 : decode cX4_ifRun 0 = .ok (.iload_n 1, 1) := by decide +kernel
theorem dX4_ifRun_1 : decode cX4_ifRun 1 = .ok (.iconst 1, 1) := by decide +kernel
theorem dX4_ifRun_2 : decode cX4_ifRun 2 = .ok (.sipush 500, 3) := by decide +kernel
theorem dX4_ifRun_5 : decode cX4_ifRun 5 = .ok (.invokestatic 54, 3) := by decide +kernel
theorem dX4_ifRun_8 : decode cX4_ifRun 8 = .ok (.ifCond .eq 22, 3) := by decide +kernel
theorem dX4_ifRun_11 : decode cX4_ifRun 11 = .ok (.iload_n 2, 1) := by decide +kernel
theorem dX4_ifRun_12 : decode cX4_ifRun 12 = .ok (.iconst 0, 1) := by decide +kernel
theorem dX4_ifRun_13 : decode cX4_ifRun 13 = .ok (.bipush 99, 2) := by decide +kernel
theorem dX4_ifRun_15 : decode cX4_ifRun 15 = .ok (.invokestatic 54, 3) := by decide +kernel
theorem dX4_ifRun_18 : decode cX4_ifRun 18 = .ok (.ifCond .eq 12, 3) := by decide +kernel
theorem dX4_ifRun_21 : decode cX4_ifRun 21 = .ok (.iload_n 3, 1) := by decide +kernel
theorem dX4_ifRun_22 : decode cX4_ifRun 22 = .ok (.iconst 0, 1) := by decide +kernel
theorem dX4_ifRun_23 : decode cX4_ifRun 23 = .ok (.iconst 4, 1) := by decide +kernel
theorem dX4_ifRun_24 : decode cX4_ifRun 24 = .ok (.invokestatic 54, 3) := by decide +kernel
theorem dX4_ifRun_27 : decode cX4_ifRun 27 = .ok (.ifCond .ne 13, 3) := by decide +kernel
theorem dX4_ifRun_30 : decode cX4_ifRun 30 = .ok (.new 61, 3) := by decide +kernel
theorem dX4_ifRun_33 : decode cX4_ifRun 33 = .ok (.dup, 1) := by decide +kernel
theorem dX4_ifRun_34 : decode cX4_ifRun 34 = .ok (.ldc 215, 2) := by decide +kernel
theorem dX4_ifRun_36 : decode cX4_ifRun 36 = .ok (.invokespecial 65, 3) := by decide +kernel
theorem dX4_ifRun_39 : decode cX4_ifRun 39 = .ok (.athrow, 1) := by decide +kernel
theorem dX4_ifRun_40 : decode cX4_ifRun 40 = .ok (.aload_n 0, 1) := by decide +kernel
theorem dX4_ifRun_41 : decode cX4_ifRun 41 = .ok (.iload_n 1, 1) := by decide +kernel
theorem dX4_ifRun_42 : decode cX4_ifRun 42 = .ok (.iload_n 2, 1) := by decide +kernel
theorem dX4_ifRun_43 : decode cX4_ifRun 43 = .ok (.invokevirtual 217, 3) := by decide +kernel
theorem dX4_ifRun_46 : decode cX4_ifRun 46 = .ok (.aload_n 0, 1) := by decide +kernel
theorem dX4_ifRun_47 : decode cX4_ifRun 47 = .ok (.iload_n 3, 1) := by decide +kernel
theorem dX4_ifRun_48 : decode cX4_ifRun 48 = .ok (.invokevirtual 221, 3) := by decide +kernel
theorem dX4_ifRun_51 : decode cX4_ifRun 51 = .ok (.ireturn, 1) := by decide +kernel
set_option maxRecDepth 20000 in
theorem ggX4_farthest_X0_farthestOfGoing : GoodIn wsX4_farthest wsX0_farthestOfGoing := goodIn_r _ [6, 7, 8, 9, 5, 10, 11, 12, 13, 14, 15, 16, 17, 18, 19, 20, 21, 22, 23, 24, 25, 26, 27, 28, 29, 38, 39, 40, 41, 42, 43, 44, 45, 46, 47, 48, 49, 50, 51] (by decide +kernel) (by decide +kernel)
set_option maxRecDepth 20000 in
theorem gX4_farthest_X0_farthestOfGoing : GoodIn wsX4_farthest (wsV RX4 236 RX0 yX0_farthestOfGoing wsX0_farthestOfGoing) := goodIn_app (goodIn_of _ (by decide +kernel)) ggX4_farthest_X0_farthestOfGoing
theorem dX4_farthest_0 : decode cX4_farthest 0 = .ok (.aload_n 0, 1) := by decide +kernel
theorem dX4_farthest_1 : decode cX4_farthest 1 = .ok (.getfield 10, 3) := by decide +kernel
theorem dX4_farthest_4 : decode cX4_farthest 4 = .ok (.iload_n 1, 1) := by decide +kernel
theorem dX4_farthest_5 : decode cX4_farthest 5 = .ok (.invokevirtual 236, 3) := by decide +kernel
theorem dX4_farthest_8 : decode cX4_farthest 8 = .ok (.ireturn, 1) := by decide +kernel
set_option maxRecDepth 20000 in
theorem ggX4_togetherShare_X0_shareTogether : GoodIn wsX4_togetherShare wsX0_shareTogether := goodIn_r _ [6, 7, 8, 17, 18, 19, 20, 21, 22, 23, 24, 25, 26, 27, 28, 29, 30] (by decide +kernel) (by decide +kernel)
set_option maxRecDepth 20000 in
theorem gX4_togetherShare_X0_shareTogether : GoodIn wsX4_togetherShare (wsV RX4 240 RX0 yX0_shareTogether wsX0_shareTogether) := goodIn_app (goodIn_of _ (by decide +kernel)) ggX4_togetherShare_X0_shareTogether
theorem dX4_togetherShare_0 : decode cX4_togetherShare 0 = .ok (.aload_n 0, 1) := by decide +kernel
theorem dX4_togetherShare_1 : decode cX4_togetherShare 1 = .ok (.getfield 10, 3) := by decide +kernel
theorem dX4_togetherShare_4 : decode cX4_togetherShare 4 = .ok (.invokevirtual 240, 3) := by decide +kernel
theorem dX4_togetherShare_7 : decode cX4_togetherShare 7 = .ok (.dreturn, 1) := by decide +kernel
theorem dX4_isWithin_0 : decode cX4_isWithin 0 = .ok (.iload_n 0, 1) := by decide +kernel
theorem dX4_isWithin_1 : decode cX4_isWithin 1 = .ok (.iload_n 1, 1) := by decide +kernel
theorem dX4_isWithin_2 : decode cX4_isWithin 2 = .ok (.if_icmp .lt 12, 3) := by decide +kernel
theorem dX4_isWithin_5 : decode cX4_isWithin 5 = .ok (.iload_n 0, 1) := by decide +kernel
theorem dX4_isWithin_6 : decode cX4_isWithin 6 = .ok (.iload_n 2, 1) := by decide +kernel
theorem dX4_isWithin_7 : decode cX4_isWithin 7 = .ok (.if_icmp .gt 7, 3) := by decide +kernel
theorem dX4_isWithin_10 : decode cX4_isWithin 10 = .ok (.iconst 1, 1) := by decide +kernel
theorem dX4_isWithin_11 : decode cX4_isWithin 11 = .ok (.goto 4, 3) := by decide +kernel
theorem dX4_isWithin_14 : decode cX4_isWithin 14 = .ok (.iconst 0, 1) := by decide +kernel
theorem dX4_isWithin_15 : decode cX4_isWithin 15 = .ok (.ireturn, 1) := by decide +kernel
set_option maxRecDepth 20000 in
theorem ggX4_isBeat_X4_isWithin : GoodIn wsX4_isBeat wsX4_isWithin := goodIn_r _ [4] (by decide +kernel) (by decide +kernel)
set_option maxRecDepth 20000 in
theorem gX4_isBeat_X4_isWithin : GoodIn wsX4_isBeat (va_wsS RX4 54 yX4_isWithin wsX4_isWithin) := goodIn_app (goodIn_of _ (by decide +kernel)) ggX4_isBeat_X4_isWithin
theorem dX4_isBeat_0 : decode cX4_isBeat 0 = .ok (.iload_n 0, 1) := by decide +kernel
theorem dX4_isBeat_1 : decode cX4_isBeat 1 = .ok (.bipush 40, 2) := by decide +kernel
theorem dX4_isBeat_3 : decode cX4_isBeat 3 = .ok (.sipush 208, 3) := by decide +kernel
theorem dX4_isBeat_6 : decode cX4_isBeat 6 = .ok (.invokestatic 54, 3) := by decide +kernel
theorem dX4_isBeat_9 : decode cX4_isBeat 9 = .ok (.ireturn, 1) := by decide +kernel
set_option maxRecDepth 20000 in
theorem ggX4_isSpring_X4_isWithin : GoodIn wsX4_isSpring wsX4_isWithin := goodIn_r _ [4] (by decide +kernel) (by decide +kernel)
set_option maxRecDepth 20000 in
theorem gX4_isSpring_X4_isWithin : GoodIn wsX4_isSpring (va_wsS RX4 54 yX4_isWithin wsX4_isWithin) := goodIn_app (goodIn_of _ (by decide +kernel)) ggX4_isSpring_X4_isWithin
theorem dX4_isSpring_0 : decode cX4_isSpring 0 = .ok (.iload_n 0, 1) := by decide +kernel
theorem dX4_isSpring_1 : decode cX4_isSpring 1 = .ok (.iconst 0, 1) := by decide +kernel
theorem dX4_isSpring_2 : decode cX4_isSpring 2 = .ok (.sipush 999, 3) := by decide +kernel
theorem dX4_isSpring_5 : decode cX4_isSpring 5 = .ok (.invokestatic 54, 3) := by decide +kernel
theorem dX4_isSpring_8 : decode cX4_isSpring 8 = .ok (.ireturn, 1) := by decide +kernel
set_option maxRecDepth 20000 in
theorem ggX4_isSetting_X4_isWithin : GoodIn wsX4_isSetting wsX4_isWithin := goodIn_r _ [4] (by decide +kernel) (by decide +kernel)
set_option maxRecDepth 20000 in
theorem gX4_isSetting_X4_isWithin : GoodIn wsX4_isSetting (va_wsS RX4 54 yX4_isWithin wsX4_isWithin) := goodIn_app (goodIn_of _ (by decide +kernel)) ggX4_isSetting_X4_isWithin
theorem dX4_isSetting_0 : decode cX4_isSetting 0 = .ok (.iload_n 0, 1) := by decide +kernel
theorem dX4_isSetting_1 : decode cX4_isSetting 1 = .ok (.iconst 0, 1) := by decide +kernel
theorem dX4_isSetting_2 : decode cX4_isSetting 2 = .ok (.iconst 2, 1) := by decide +kernel
theorem dX4_isSetting_3 : decode cX4_isSetting 3 = .ok (.invokestatic 54, 3) := by decide +kernel
theorem dX4_isSetting_6 : decode cX4_isSetting 6 = .ok (.ireturn, 1) := by decide +kernel
theorem dX4_highestOf_0 : decode cX4_highestOf 0 = .ok (.iload_n 0, 1) := by decide +kernel
theorem dX4_highestOf_1 : decode cX4_highestOf 1 = .ok (.lookupswitch 33 #[(0, 27), (1, 30)], 27) := by decide +kernel
theorem dX4_highestOf_28 : decode cX4_highestOf 28 = .ok (.bipush 95, 2) := by decide +kernel
theorem dX4_highestOf_30 : decode cX4_highestOf 30 = .ok (.ireturn, 1) := by decide +kernel
theorem dX4_highestOf_31 : decode cX4_highestOf 31 = .ok (.bipush 99, 2) := by decide +kernel
theorem dX4_highestOf_33 : decode cX4_highestOf 33 = .ok (.ireturn, 1) := by decide +kernel
theorem dX4_highestOf_34 : decode cX4_highestOf 34 = .ok (.sipush 900, 3) := by decide +kernel
theorem dX4_highestOf_37 : decode cX4_highestOf 37 = .ok (.ireturn, 1) := by decide +kernel
set_option maxRecDepth 20000 in
theorem ggX4_figure_X2_size : GoodIn wsX4_figure wsX2_size := goodIn_r _ [7, 8, 92, 93] (by decide +kernel) (by decide +kernel)
set_option maxRecDepth 20000 in
theorem gX4_figure_X2_size : GoodIn wsX4_figure (wsV RX4 190 RX2 yX2_size wsX2_size) := goodIn_app (goodIn_of _ (by decide +kernel)) ggX4_figure_X2_size
set_option maxRecDepth 20000 in
theorem ggX4_figure_X0_figureOf : GoodIn wsX4_figure wsX0_figureOf := goodIn_r _ [13, 14, 15, 16, 17, 18, 19, 20, 21, 22, 12, 23, 24, 25, 26, 27, 28, 29, 30, 31, 32, 33, 34, 35, 36, 37, 38, 39, 40, 41, 42, 43, 44, 45, 46, 47, 48, 49, 50, 51, 52, 53, 54, 55, 56, 57, 58, 59, 60, 61, 62, 63, 64, 65, 66, 67, 68, 69, 70, 71, 72, 73, 74, 75, 76, 77, 78, 79, 80, 81, 82, 83, 94, 95, 96, 97, 98, 99, 100, 101, 102, 103, 104, 105, 106, 107] (by decide +kernel) (by decide +kernel)
set_option maxRecDepth 20000 in
theorem gX4_figure_X0_figureOf : GoodIn wsX4_figure (wsV RX4 265 RX0 yX0_figureOf wsX0_figureOf) := goodIn_app (goodIn_of _ (by decide +kernel)) ggX4_figure_X0_figureOf
theorem dX4_figure_0 : decode cX4_figure 0 = .ok (.iload_n 1, 1) := by decide +kernel
theorem dX4_figure_1 : decode cX4_figure 1 = .ok (.bipush 11, 2) := by decide +kernel
theorem dX4_figure_3 : decode cX4_figure 3 = .ok (.if_icmp .ne 13, 3) := by decide +kernel
theorem dX4_figure_6 : decode cX4_figure 6 = .ok (.aload_n 0, 1) := by decide +kernel
theorem dX4_figure_7 : decode cX4_figure 7 = .ok (.getfield 32, 3) := by decide +kernel
theorem dX4_figure_10 : decode cX4_figure 10 = .ok (.invokevirtual 190, 3) := by decide +kernel
theorem dX4_figure_13 : decode cX4_figure 13 = .ok (.goto 11, 3) := by decide +kernel
theorem dX4_figure_16 : decode cX4_figure 16 = .ok (.aload_n 0, 1) := by decide +kernel
theorem dX4_figure_17 : decode cX4_figure 17 = .ok (.getfield 10, 3) := by decide +kernel
theorem dX4_figure_20 : decode cX4_figure 20 = .ok (.iload_n 1, 1) := by decide +kernel
theorem dX4_figure_21 : decode cX4_figure 21 = .ok (.invokevirtual 265, 3) := by decide +kernel
theorem dX4_figure_24 : decode cX4_figure 24 = .ok (.ireturn, 1) := by decide +kernel
set_option maxRecDepth 20000 in
theorem ggX4_tryOut_X0_copyFrom : GoodIn wsX4_tryOut wsX0_copyFrom := goodIn_r _ [7, 8, 9, 10, 11, 12, 13, 14, 15, 16, 17, 18, 19, 20, 21, 81, 82, 83, 84, 85, 86, 87, 88, 89, 90, 91, 92, 93, 94] (by decide +kernel) (by decide +kernel)
set_option maxRecDepth 20000 in
theorem gX4_tryOut_X0_copyFrom : GoodIn wsX4_tryOut (wsV RX4 182 RX0 yX0_copyFrom wsX0_copyFrom) := goodIn_app (goodIn_of _ (by decide +kernel)) ggX4_tryOut_X0_copyFrom
set_option maxRecDepth 20000 in
theorem ggX4_tryOut_X0_changeSetting : GoodIn wsX4_tryOut wsX0_changeSetting := goodIn_r _ [25, 16, 17, 18, 26, 27, 28, 6, 29, 81, 82, 83, 84, 85, 86, 87, 88, 89, 90, 91, 92, 93, 94] (by decide +kernel) (by decide +kernel)
set_option maxRecDepth 20000 in
theorem gX4_tryOut_X0_changeSetting : GoodIn wsX4_tryOut (wsV RX4 140 RX0 yX0_changeSetting wsX0_changeSetting) := goodIn_app (goodIn_of _ (by decide +kernel)) ggX4_tryOut_X0_changeSetting
set_option maxRecDepth 20000 in
theorem ggX4_tryOut_X0_step : GoodIn wsX4_tryOut wsX0_step := goodIn_r _ [33, 19, 20, 21, 34, 35, 36, 6, 37, 14, 16, 15, 38, 39, 40, 41, 42, 43, 44, 45, 13, 11, 10, 46, 47, 48, 49, 9, 50, 51, 52, 53, 54, 55, 56, 57, 58, 59, 60, 61, 62, 63, 8, 12, 64, 65, 66, 67, 68, 69, 70, 71, 17, 72, 81, 82, 83, 84, 85, 86, 87, 88, 89, 90, 91, 92, 93, 94] (by decide +kernel) (by decide +kernel)
set_option maxRecDepth 20000 in
theorem gX4_tryOut_X0_step : GoodIn wsX4_tryOut (wsV RX4 227 RX0 yX0_step wsX0_step) := goodIn_app (goodIn_of _ (by decide +kernel)) ggX4_tryOut_X0_step
theorem dX4_tryOut_0 : decode cX4_tryOut 0 = .ok (.aload_n 0, 1) := by decide +kernel
theorem dX4_tryOut_1 : decode cX4_tryOut 1 = .ok (.getfield 16, 3) := by decide +kernel
theorem dX4_tryOut_4 : decode cX4_tryOut 4 = .ok (.aload_n 0, 1) := by decide +kernel
theorem dX4_tryOut_5 : decode cX4_tryOut 5 = .ok (.getfield 10, 3) := by decide +kernel
theorem dX4_tryOut_8 : decode cX4_tryOut 8 = .ok (.invokevirtual 182, 3) := by decide +kernel
theorem dX4_tryOut_11 : decode cX4_tryOut 11 = .ok (.aload_n 0, 1) := by decide +kernel
theorem dX4_tryOut_12 : decode cX4_tryOut 12 = .ok (.getfield 16, 3) := by decide +kernel
theorem dX4_tryOut_15 : decode cX4_tryOut 15 = .ok (.iconst 1, 1) := by decide +kernel
theorem dX4_tryOut_16 : decode cX4_tryOut 16 = .ok (.iload_n 2, 1) := by decide +kernel
theorem dX4_tryOut_17 : decode cX4_tryOut 17 = .ok (.invokevirtual 140, 3) := by decide +kernel
theorem dX4_tryOut_20 : decode cX4_tryOut 20 = .ok (.pop, 1) := by decide +kernel
theorem dX4_tryOut_21 : decode cX4_tryOut 21 = .ok (.iconst 0, 1) := by decide +kernel
theorem dX4_tryOut_22 : decode cX4_tryOut 22 = .ok (.istore_n 3, 1) := by decide +kernel
theorem dX4_tryOut_23 : decode cX4_tryOut 23 = .ok (.iload_n 3, 1) := by decide +kernel
theorem dX4_tryOut_24 : decode cX4_tryOut 24 = .ok (.iload_n 1, 1) := by decide +kernel
theorem dX4_tryOut_25 : decode cX4_tryOut 25 = .ok (.if_icmp .ge 16, 3) := by decide +kernel
theorem dX4_tryOut_28 : decode cX4_tryOut 28 = .ok (.aload_n 0, 1) := by decide +kernel
theorem dX4_tryOut_29 : decode cX4_tryOut 29 = .ok (.getfield 16, 3) := by decide +kernel
theorem dX4_tryOut_32 : decode cX4_tryOut 32 = .ok (.invokevirtual 227, 3) := by decide +kernel
theorem dX4_tryOut_35 : decode cX4_tryOut 35 = .ok (.iinc 3 1, 3) := by decide +kernel
theorem dX4_tryOut_38 : decode cX4_tryOut 38 = .ok (.goto (-15), 3) := by decide +kernel
theorem dX4_tryOut_41 : decode cX4_tryOut 41 = .ok (.return_, 1) := by decide +kernel
set_option maxRecDepth 20000 in
theorem ggX4_outcome_X0_allTicks : GoodIn wsX4_outcome wsX0_allTicks := goodIn_r _ [7, 8, 79, 80, 81, 82, 83, 84, 85, 86, 87, 88, 89, 90, 91, 92] (by decide +kernel) (by decide +kernel)
set_option maxRecDepth 20000 in
theorem gX4_outcome_X0_allTicks : GoodIn wsX4_outcome (wsV RX4 289 RX0 yX0_allTicks wsX0_allTicks) := goodIn_app (goodIn_of _ (by decide +kernel)) ggX4_outcome_X0_allTicks
set_option maxRecDepth 20000 in
theorem ggX4_outcome_X0_order : GoodIn wsX4_outcome wsX0_order := goodIn_r _ [12, 13, 14, 15, 6, 16, 17, 18, 19, 20, 21, 22, 23, 24, 25, 26, 27, 28, 29, 30, 31, 32, 33, 34, 35, 36, 37, 38, 39, 40, 41, 42, 79, 80, 81, 82, 83, 84, 85, 86, 87, 88, 89, 90, 91, 92] (by decide +kernel) (by decide +kernel)
set_option maxRecDepth 20000 in
theorem gX4_outcome_X0_order : GoodIn wsX4_outcome (wsV RX4 292 RX0 yX0_order wsX0_order) := goodIn_app (goodIn_of _ (by decide +kernel)) ggX4_outcome_X0_order
set_option maxRecDepth 20000 in
theorem ggX4_outcome_X0_greatestDistance : GoodIn wsX4_outcome wsX0_greatestDistance := goodIn_r _ [46, 47, 48, 49, 50, 18, 19, 20, 6, 21, 22, 23, 24, 51, 52, 53, 54, 17, 55, 56, 57, 58, 59, 60, 61, 62, 63, 64, 79, 80, 81, 82, 83, 84, 85, 86, 87, 88, 89, 90, 91, 92] (by decide +kernel) (by decide +kernel)
set_option maxRecDepth 20000 in
theorem gX4_outcome_X0_greatestDistance : GoodIn wsX4_outcome (wsV RX4 295 RX0 yX0_greatestDistance wsX0_greatestDistance) := goodIn_app (goodIn_of _ (by decide +kernel)) ggX4_outcome_X0_greatestDistance
set_option maxRecDepth 20000 in
theorem ggX4_outcome_X0_going : GoodIn wsX4_outcome wsX0_going := goodIn_r _ [42, 18, 19, 20, 6, 21, 22, 23, 24, 79, 80, 81, 82, 83, 84, 85, 86, 87, 88, 89, 90, 91, 92] (by decide +kernel) (by decide +kernel)
set_option maxRecDepth 20000 in
theorem gX4_outcome_X0_going : GoodIn wsX4_outcome (wsV RX4 298 RX0 yX0_going wsX0_going) := goodIn_app (goodIn_of _ (by decide +kernel)) ggX4_outcome_X0_going
set_option maxRecDepth 20000 in
theorem ggX4_outcome_X0_stepsTogether : GoodIn wsX4_outcome wsX0_stepsTogether := goodIn_r _ [69, 70, 79, 80, 81, 82, 83, 84, 85, 86, 87, 88, 89, 90, 91, 92] (by decide +kernel) (by decide +kernel)
set_option maxRecDepth 20000 in
theorem gX4_outcome_X0_stepsTogether : GoodIn wsX4_outcome (wsV RX4 301 RX0 yX0_stepsTogether wsX0_stepsTogether) := goodIn_app (goodIn_of _ (by decide +kernel)) ggX4_outcome_X0_stepsTogether
theorem dX4_outcome_0 : decode cX4_outcome 0 = .ok (.iload_n 1, 1) := by decide +kernel
theorem dX4_outcome_1 : decode cX4_outcome 1 = .ok (.tableswitch 71 0 3 #[31, 47, 55, 63], 31) := by decide +kernel
theorem dX4_outcome_32 : decode cX4_outcome 32 = .ok (.aload_n 0, 1) := by decide +kernel
theorem dX4_outcome_33 : decode cX4_outcome 33 = .ok (.getfield 16, 3) := by decide +kernel
theorem dX4_outcome_36 : decode cX4_outcome 36 = .ok (.invokevirtual 289, 3) := by decide +kernel
theorem dX4_outcome_39 : decode cX4_outcome 39 = .ok (.aload_n 0, 1) := by decide +kernel
theorem dX4_outcome_40 : decode cX4_outcome 40 = .ok (.getfield 10, 3) := by decide +kernel
theorem dX4_outcome_43 : decode cX4_outcome 43 = .ok (.invokevirtual 289, 3) := by decide +kernel
theorem dX4_outcome_46 : decode cX4_outcome 46 = .ok (.isub, 1) := by decide +kernel
theorem dX4_outcome_47 : decode cX4_outcome 47 = .ok (.ireturn, 1) := by decide +kernel
theorem dX4_outcome_48 : decode cX4_outcome 48 = .ok (.aload_n 0, 1) := by decide +kernel
theorem dX4_outcome_49 : decode cX4_outcome 49 = .ok (.getfield 16, 3) := by decide +kernel
theorem dX4_outcome_52 : decode cX4_outcome 52 = .ok (.invokevirtual 292, 3) := by decide +kernel
theorem dX4_outcome_55 : decode cX4_outcome 55 = .ok (.ireturn, 1) := by decide +kernel
theorem dX4_outcome_56 : decode cX4_outcome 56 = .ok (.aload_n 0, 1) := by decide +kernel
theorem dX4_outcome_57 : decode cX4_outcome 57 = .ok (.getfield 16, 3) := by decide +kernel
theorem dX4_outcome_60 : decode cX4_outcome 60 = .ok (.invokevirtual 295, 3) := by decide +kernel
theorem dX4_outcome_63 : decode cX4_outcome 63 = .ok (.ireturn, 1) := by decide +kernel
theorem dX4_outcome_64 : decode cX4_outcome 64 = .ok (.aload_n 0, 1) := by decide +kernel
theorem dX4_outcome_65 : decode cX4_outcome 65 = .ok (.getfield 16, 3) := by decide +kernel
theorem dX4_outcome_68 : decode cX4_outcome 68 = .ok (.invokevirtual 298, 3) := by decide +kernel
theorem dX4_outcome_71 : decode cX4_outcome 71 = .ok (.ireturn, 1) := by decide +kernel
theorem dX4_outcome_72 : decode cX4_outcome 72 = .ok (.aload_n 0, 1) := by decide +kernel
theorem dX4_outcome_73 : decode cX4_outcome 73 = .ok (.getfield 16, 3) := by decide +kernel
theorem dX4_outcome_76 : decode cX4_outcome 76 = .ok (.invokevirtual 301, 3) := by decide +kernel
theorem dX4_outcome_79 : decode cX4_outcome 79 = .ok (.aload_n 0, 1) := by decide +kernel
theorem dX4_outcome_80 : decode cX4_outcome 80 = .ok (.getfield 10, 3) := by decide +kernel
theorem dX4_outcome_83 : decode cX4_outcome 83 = .ok (.invokevirtual 301, 3) := by decide +kernel
theorem dX4_outcome_86 : decode cX4_outcome 86 = .ok (.isub, 1) := by decide +kernel
theorem dX4_outcome_87 : decode cX4_outcome 87 = .ok (.ireturn, 1) := by decide +kernel
theorem dJ9_abs_0f7a4_0 : decode cJ9_abs_0f7a4 0 = .ok (.iload_n 0, 1) := by decide +kernel
theorem dJ9_abs_0f7a4_1 : decode cJ9_abs_0f7a4 1 = .ok (.ifCond .ge 8, 3) := by decide +kernel
theorem dJ9_abs_0f7a4_4 : decode cJ9_abs_0f7a4 4 = .ok (.iload_n 0, 1) := by decide +kernel
theorem dJ9_abs_0f7a4_5 : decode cJ9_abs_0f7a4 5 = .ok (.ineg, 1) := by decide +kernel
theorem dJ9_abs_0f7a4_6 : decode cJ9_abs_0f7a4 6 = .ok (.goto 4, 3) := by decide +kernel
theorem dJ9_abs_0f7a4_9 : decode cJ9_abs_0f7a4 9 = .ok (.iload_n 0, 1) := by decide +kernel
theorem dJ9_abs_0f7a4_10 : decode cJ9_abs_0f7a4 10 = .ok (.ireturn, 1) := by decide +kernel
theorem dJ9_max_7cf53_0 : decode cJ9_max_7cf53 0 = .ok (.iload_n 0, 1) := by decide +kernel
theorem dJ9_max_7cf53_1 : decode cJ9_max_7cf53 1 = .ok (.iload_n 1, 1) := by decide +kernel
theorem dJ9_max_7cf53_2 : decode cJ9_max_7cf53 2 = .ok (.if_icmp .lt 7, 3) := by decide +kernel
theorem dJ9_max_7cf53_5 : decode cJ9_max_7cf53 5 = .ok (.iload_n 0, 1) := by decide +kernel
theorem dJ9_max_7cf53_6 : decode cJ9_max_7cf53 6 = .ok (.goto 4, 3) := by decide +kernel
theorem dJ9_max_7cf53_9 : decode cJ9_max_7cf53 9 = .ok (.iload_n 1, 1) := by decide +kernel
theorem dJ9_max_7cf53_10 : decode cJ9_max_7cf53 10 = .ok (.ireturn, 1) := by decide +kernel
theorem dJ9_min_7cf53_0 : decode cJ9_min_7cf53 0 = .ok (.iload_n 0, 1) := by decide +kernel
theorem dJ9_min_7cf53_1 : decode cJ9_min_7cf53 1 = .ok (.iload_n 1, 1) := by decide +kernel
theorem dJ9_min_7cf53_2 : decode cJ9_min_7cf53 2 = .ok (.if_icmp .gt 7, 3) := by decide +kernel
theorem dJ9_min_7cf53_5 : decode cJ9_min_7cf53 5 = .ok (.iload_n 0, 1) := by decide +kernel
theorem dJ9_min_7cf53_6 : decode cJ9_min_7cf53 6 = .ok (.goto 4, 3) := by decide +kernel
theorem dJ9_min_7cf53_9 : decode cJ9_min_7cf53 9 = .ok (.iload_n 1, 1) := by decide +kernel
theorem dJ9_min_7cf53_10 : decode cJ9_min_7cf53 10 = .ok (.ireturn, 1) := by decide +kernel
abbrev vwCl : List vw_C := [(RX0, TX0, 14), (RX1, TX1, 10), (RX2, TX2, 2), (RX3, TX3, 2), (RX4, TX4, 8)]
