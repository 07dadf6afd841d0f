theorem dX0_init_0 : decode cX0_init 0 = .ok (.aload_n 0, 1) := by decide +kernel
theorem dX0_init_1 : decode cX0_init 1 = .ok (.invokespecial 3, 3) := by decide +kernel
theorem dX0_init_4 : decode cX0_init 4 = .ok (.aload_n 0, 1) := by decide +kernel
theorem dX0_init_5 : decode cX0_init 5 = .ok (.bipush 6, 2) := by decide +kernel
theorem dX0_init_7 : decode cX0_init 7 = .ok (.newarray .int, 2) := by decide +kernel
theorem dX0_init_9 : decode cX0_init 9 = .ok (.putfield 9, 3) := by decide +kernel
theorem dX0_init_12 : decode cX0_init 12 = .ok (.aload_n 0, 1) := by decide +kernel
theorem dX0_init_13 : decode cX0_init 13 = .ok (.bipush 6, 2) := by decide +kernel
theorem dX0_init_15 : decode cX0_init 15 = .ok (.newarray .int, 2) := by decide +kernel
theorem dX0_init_17 : decode cX0_init 17 = .ok (.putfield 15, 3) := by decide +kernel
theorem dX0_init_20 : decode cX0_init 20 = .ok (.aload_n 0, 1) := by decide +kernel
theorem dX0_init_21 : decode cX0_init 21 = .ok (.bipush 6, 2) := by decide +kernel
theorem dX0_init_23 : decode cX0_init 23 = .ok (.newarray .int, 2) := by decide +kernel
theorem dX0_init_25 : decode cX0_init 25 = .ok (.putfield 18, 3) := by decide +kernel
theorem dX0_init_28 : decode cX0_init 28 = .ok (.aload_n 0, 1) := by decide +kernel
theorem dX0_init_29 : decode cX0_init 29 = .ok (.bipush 6, 2) := by decide +kernel
theorem dX0_init_31 : decode cX0_init 31 = .ok (.newarray .boolean, 2) := by decide +kernel
theorem dX0_init_33 : decode cX0_init 33 = .ok (.putfield 21, 3) := by decide +kernel
theorem dX0_init_36 : decode cX0_init 36 = .ok (.aload_n 0, 1) := by decide +kernel
theorem dX0_init_37 : decode cX0_init 37 = .ok (.bipush 6, 2) := by decide +kernel
theorem dX0_init_39 : decode cX0_init 39 = .ok (.newarray .int, 2) := by decide +kernel
theorem dX0_init_41 : decode cX0_init 41 = .ok (.putfield 25, 3) := by decide +kernel
theorem dX0_init_44 : decode cX0_init 44 = .ok (.aload_n 0, 1) := by decide +kernel
theorem dX0_init_45 : decode cX0_init 45 = .ok (.bipush 50, 2) := by decide +kernel
theorem dX0_init_47 : decode cX0_init 47 = .ok (.putfield 28, 3) := by decide +kernel
theorem dX0_init_50 : decode cX0_init 50 = .ok (.aload_n 0, 1) := by decide +kernel
theorem dX0_init_51 : decode cX0_init 51 = .ok (.bipush 10, 2) := by decide +kernel
theorem dX0_init_53 : decode cX0_init 53 = .ok (.putfield 32, 3) := by decide +kernel
theorem dX0_init_56 : decode cX0_init 56 = .ok (.aload_n 0, 1) := by decide +kernel
theorem dX0_init_57 : decode cX0_init 57 = .ok (.bipush 50, 2) := by decide +kernel
theorem dX0_init_59 : decode cX0_init 59 = .ok (.putfield 35, 3) := by decide +kernel
theorem dX0_init_62 : decode cX0_init 62 = .ok (.return_, 1) := by decide +kernel
theorem dX0_copyFrom_0 : decode cX0_copyFrom 0 = .ok (.aload_n 1, 1) := by decide +kernel
theorem dX0_copyFrom_1 : decode cX0_copyFrom 1 = .ok (.ifnonnull 4, 3) := by decide +kernel
theorem dX0_copyFrom_4 : decode cX0_copyFrom 4 = .ok (.return_, 1) := by decide +kernel
theorem dX0_copyFrom_5 : decode cX0_copyFrom 5 = .ok (.iconst 0, 1) := by decide +kernel
theorem dX0_copyFrom_6 : decode cX0_copyFrom 6 = .ok (.istore_n 2, 1) := by decide +kernel
theorem dX0_copyFrom_7 : decode cX0_copyFrom 7 = .ok (.iload_n 2, 1) := by decide +kernel
theorem dX0_copyFrom_8 : decode cX0_copyFrom 8 = .ok (.bipush 6, 2) := by decide +kernel
theorem dX0_copyFrom_10 : decode cX0_copyFrom 10 = .ok (.if_icmp .ge 69, 3) := by decide +kernel
theorem dX0_copyFrom_13 : decode cX0_copyFrom 13 = .ok (.aload_n 0, 1) := by decide +kernel
theorem dX0_copyFrom_14 : decode cX0_copyFrom 14 = .ok (.getfield 9, 3) := by decide +kernel
theorem dX0_copyFrom_17 : decode cX0_copyFrom 17 = .ok (.iload_n 2, 1) := by decide +kernel
theorem dX0_copyFrom_18 : decode cX0_copyFrom 18 = .ok (.aload_n 1, 1) := by decide +kernel
theorem dX0_copyFrom_19 : decode cX0_copyFrom 19 = .ok (.getfield 9, 3) := by decide +kernel
theorem dX0_copyFrom_22 : decode cX0_copyFrom 22 = .ok (.iload_n 2, 1) := by decide +kernel
theorem dX0_copyFrom_23 : decode cX0_copyFrom 23 = .ok (.iaload, 1) := by decide +kernel
theorem dX0_copyFrom_24 : decode cX0_copyFrom 24 = .ok (.iastore, 1) := by decide +kernel
theorem dX0_copyFrom_25 : decode cX0_copyFrom 25 = .ok (.aload_n 0, 1) := by decide +kernel
theorem dX0_copyFrom_26 : decode cX0_copyFrom 26 = .ok (.getfield 15, 3) := by decide +kernel
theorem dX0_copyFrom_29 : decode cX0_copyFrom 29 = .ok (.iload_n 2, 1) := by decide +kernel
theorem dX0_copyFrom_30 : decode cX0_copyFrom 30 = .ok (.aload_n 1, 1) := by decide +kernel
theorem dX0_copyFrom_31 : decode cX0_copyFrom 31 = .ok (.getfield 15, 3) := by decide +kernel
theorem dX0_copyFrom_34 : decode cX0_copyFrom 34 = .ok (.iload_n 2, 1) := by decide +kernel
theorem dX0_copyFrom_35 : decode cX0_copyFrom 35 = .ok (.iaload, 1) := by decide +kernel
theorem dX0_copyFrom_36 : decode cX0_copyFrom 36 = .ok (.iastore, 1) := by decide +kernel
theorem dX0_copyFrom_37 : decode cX0_copyFrom 37 = .ok (.aload_n 0, 1) := by decide +kernel
theorem dX0_copyFrom_38 : decode cX0_copyFrom 38 = .ok (.getfield 18, 3) := by decide +kernel
theorem dX0_copyFrom_41 : decode cX0_copyFrom 41 = .ok (.iload_n 2, 1) := by decide +kernel
theorem dX0_copyFrom_42 : decode cX0_copyFrom 42 = .ok (.aload_n 1, 1) := by decide +kernel
theorem dX0_copyFrom_43 : decode cX0_copyFrom 43 = .ok (.getfield 18, 3) := by decide +kernel
theorem dX0_copyFrom_46 : decode cX0_copyFrom 46 = .ok (.iload_n 2, 1) := by decide +kernel
theorem dX0_copyFrom_47 : decode cX0_copyFrom 47 = .ok (.iaload, 1) := by decide +kernel
theorem dX0_copyFrom_48 : decode cX0_copyFrom 48 = .ok (.iastore, 1) := by decide +kernel
theorem dX0_copyFrom_49 : decode cX0_copyFrom 49 = .ok (.aload_n 0, 1) := by decide +kernel
theorem dX0_copyFrom_50 : decode cX0_copyFrom 50 = .ok (.getfield 21, 3) := by decide +kernel
theorem dX0_copyFrom_53 : decode cX0_copyFrom 53 = .ok (.iload_n 2, 1) := by decide +kernel
theorem dX0_copyFrom_54 : decode cX0_copyFrom 54 = .ok (.aload_n 1, 1) := by decide +kernel
theorem dX0_copyFrom_55 : decode cX0_copyFrom 55 = .ok (.getfield 21, 3) := by decide +kernel
theorem dX0_copyFrom_58 : decode cX0_copyFrom 58 = .ok (.iload_n 2, 1) := by decide +kernel
theorem dX0_copyFrom_59 : decode cX0_copyFrom 59 = .ok (.baload, 1) := by decide +kernel
theorem dX0_copyFrom_60 : decode cX0_copyFrom 60 = .ok (.bastore, 1) := by decide +kernel
theorem dX0_copyFrom_61 : decode cX0_copyFrom 61 = .ok (.aload_n 0, 1) := by decide +kernel
theorem dX0_copyFrom_62 : decode cX0_copyFrom 62 = .ok (.getfield 25, 3) := by decide +kernel
theorem dX0_copyFrom_65 : decode cX0_copyFrom 65 = .ok (.iload_n 2, 1) := by decide +kernel
theorem dX0_copyFrom_66 : decode cX0_copyFrom 66 = .ok (.aload_n 1, 1) := by decide +kernel
theorem dX0_copyFrom_67 : decode cX0_copyFrom 67 = .ok (.getfield 25, 3) := by decide +kernel
theorem dX0_copyFrom_70 : decode cX0_copyFrom 70 = .ok (.iload_n 2, 1) := by decide +kernel
theorem dX0_copyFrom_71 : decode cX0_copyFrom 71 = .ok (.iaload, 1) := by decide +kernel
theorem dX0_copyFrom_72 : decode cX0_copyFrom 72 = .ok (.iastore, 1) := by decide +kernel
theorem dX0_copyFrom_73 : decode cX0_copyFrom 73 = .ok (.iinc 2 1, 3) := by decide +kernel
theorem dX0_copyFrom_76 : decode cX0_copyFrom 76 = .ok (.goto (-69), 3) := by decide +kernel
theorem dX0_copyFrom_79 : decode cX0_copyFrom 79 = .ok (.aload_n 0, 1) := by decide +kernel
theorem dX0_copyFrom_80 : decode cX0_copyFrom 80 = .ok (.aload_n 1, 1) := by decide +kernel
theorem dX0_copyFrom_81 : decode cX0_copyFrom 81 = .ok (.getfield 38, 3) := by decide +kernel
theorem dX0_copyFrom_84 : decode cX0_copyFrom 84 = .ok (.putfield 38, 3) := by decide +kernel
theorem dX0_copyFrom_87 : decode cX0_copyFrom 87 = .ok (.aload_n 0, 1) := by decide +kernel
theorem dX0_copyFrom_88 : decode cX0_copyFrom 88 = .ok (.aload_n 1, 1) := by decide +kernel
theorem dX0_copyFrom_89 : decode cX0_copyFrom 89 = .ok (.getfield 41, 3) := by decide +kernel
theorem dX0_copyFrom_92 : decode cX0_copyFrom 92 = .ok (.putfield 41, 3) := by decide +kernel
theorem dX0_copyFrom_95 : decode cX0_copyFrom 95 = .ok (.aload_n 0, 1) := by decide +kernel
theorem dX0_copyFrom_96 : decode cX0_copyFrom 96 = .ok (.aload_n 1, 1) := by decide +kernel
theorem dX0_copyFrom_97 : decode cX0_copyFrom 97 = .ok (.getfield 44, 3) := by decide +kernel
theorem dX0_copyFrom_100 : decode cX0_copyFrom 100 = .ok (.putfield 44, 3) := by decide +kernel
theorem dX0_copyFrom_103 : decode cX0_copyFrom 103 = .ok (.aload_n 0, 1) := by decide +kernel
theorem dX0_copyFrom_104 : decode cX0_copyFrom 104 = .ok (.aload_n 1, 1) := by decide +kernel
theorem dX0_copyFrom_105 : decode cX0_copyFrom 105 = .ok (.getfield 28, 3) := by decide +kernel
theorem dX0_copyFrom_108 : decode cX0_copyFrom 108 = .ok (.putfield 28, 3) := by decide +kernel
theorem dX0_copyFrom_111 : decode cX0_copyFrom 111 = .ok (.aload_n 0, 1) := by decide +kernel
theorem dX0_copyFrom_112 : decode cX0_copyFrom 112 = .ok (.aload_n 1, 1) := by decide +kernel
theorem dX0_copyFrom_113 : decode cX0_copyFrom 113 = .ok (.getfield 32, 3) := by decide +kernel
theorem dX0_copyFrom_116 : decode cX0_copyFrom 116 = .ok (.putfield 32, 3) := by decide +kernel
theorem dX0_copyFrom_119 : decode cX0_copyFrom 119 = .ok (.aload_n 0, 1) := by decide +kernel
theorem dX0_copyFrom_120 : decode cX0_copyFrom 120 = .ok (.aload_n 1, 1) := by decide +kernel
theorem dX0_copyFrom_121 : decode cX0_copyFrom 121 = .ok (.getfield 35, 3) := by decide +kernel
theorem dX0_copyFrom_124 : decode cX0_copyFrom 124 = .ok (.putfield 35, 3) := by decide +kernel
theorem dX0_copyFrom_127 : decode cX0_copyFrom 127 = .ok (.aload_n 0, 1) := by decide +kernel
theorem dX0_copyFrom_128 : decode cX0_copyFrom 128 = .ok (.aload_n 1, 1) := by decide +kernel
theorem dX0_copyFrom_129 : decode cX0_copyFrom 129 = .ok (.getfield 47, 3) := by decide +kernel
theorem dX0_copyFrom_132 : decode cX0_copyFrom 132 = .ok (.putfield 47, 3) := by decide +kernel
theorem dX0_copyFrom_135 : decode cX0_copyFrom 135 = .ok (.aload_n 0, 1) := by decide +kernel
theorem dX0_copyFrom_136 : decode cX0_copyFrom 136 = .ok (.aload_n 1, 1) := by decide +kernel
theorem dX0_copyFrom_137 : decode cX0_copyFrom 137 = .ok (.getfield 50, 3) := by decide +kernel
theorem dX0_copyFrom_140 : decode cX0_copyFrom 140 = .ok (.putfield 50, 3) := by decide +kernel
theorem dX0_copyFrom_143 : decode cX0_copyFrom 143 = .ok (.aload_n 0, 1) := by decide +kernel
theorem dX0_copyFrom_144 : decode cX0_copyFrom 144 = .ok (.aload_n 1, 1) := by decide +kernel
theorem dX0_copyFrom_145 : decode cX0_copyFrom 145 = .ok (.getfield 53, 3) := by decide +kernel
theorem dX0_copyFrom_148 : decode cX0_copyFrom 148 = .ok (.putfield 53, 3) := by decide +kernel
theorem dX0_copyFrom_151 : decode cX0_copyFrom 151 = .ok (.return_, 1) := by decide +kernel
theorem dX0_isFull_0 : decode cX0_isFull 0 = .ok (.aload_n 0, 1) := by decide +kernel
theorem dX0_isFull_1 : decode cX0_isFull 1 = .ok (.getfield 38, 3) := by decide +kernel
theorem dX0_isFull_4 : decode cX0_isFull 4 = .ok (.bipush 6, 2) := by decide +kernel
theorem dX0_isFull_6 : decode cX0_isFull 6 = .ok (.if_icmp .lt 7, 3) := by decide +kernel
theorem dX0_isFull_9 : decode cX0_isFull 9 = .ok (.iconst 1, 1) := by decide +kernel
theorem dX0_isFull_10 : decode cX0_isFull 10 = .ok (.goto 4, 3) := by decide +kernel
theorem dX0_isFull_13 : decode cX0_isFull 13 = .ok (.iconst 0, 1) := by decide +kernel
theorem dX0_isFull_14 : decode cX0_isFull 14 = .ok (.ireturn, 1) := by decide +kernel
theorem dX0_isEmpty_0 : decode cX0_isEmpty 0 = .ok (.aload_n 0, 1) := by decide +kernel
theorem dX0_isEmpty_1 : decode cX0_isEmpty 1 = .ok (.getfield 38, 3) := by decide +kernel
theorem dX0_isEmpty_4 : decode cX0_isEmpty 4 = .ok (.ifCond .gt 7, 3) := by decide +kernel
theorem dX0_isEmpty_7 : decode cX0_isEmpty 7 = .ok (.iconst 1, 1) := by decide +kernel
theorem dX0_isEmpty_8 : decode cX0_isEmpty 8 = .ok (.goto 4, 3) := by decide +kernel
theorem dX0_isEmpty_11 : decode cX0_isEmpty 11 = .ok (.iconst 0, 1) := by decide +kernel
theorem dX0_isEmpty_12 : decode cX0_isEmpty 12 = .ok (.ireturn, 1) := by decide +kernel
theorem dX0_has_0 : decode cX0_has 0 = .ok (.iload_n 1, 1) := by decide +kernel
theorem dX0_has_1 : decode cX0_has 1 = .ok (.ifCond .lt 21, 3) := by decide +kernel
theorem dX0_has_4 : decode cX0_has 4 = .ok (.iload_n 1, 1) := by decide +kernel
theorem dX0_has_5 : decode cX0_has 5 = .ok (.bipush 6, 2) := by decide +kernel
theorem dX0_has_7 : decode cX0_has 7 = .ok (.if_icmp .ge 15, 3) := by decide +kernel
theorem dX0_has_10 : decode cX0_has 10 = .ok (.iload_n 1, 1) := by decide +kernel
theorem dX0_has_11 : decode cX0_has 11 = .ok (.aload_n 0, 1) := by decide +kernel
theorem dX0_has_12 : decode cX0_has 12 = .ok (.getfield 38, 3) := by decide +kernel
theorem dX0_has_15 : decode cX0_has 15 = .ok (.if_icmp .ge 7, 3) := by decide +kernel
theorem dX0_has_18 : decode cX0_has 18 = .ok (.iconst 1, 1) := by decide +kernel
theorem dX0_has_19 : decode cX0_has 19 = .ok (.goto 4, 3) := by decide +kernel
theorem dX0_has_22 : decode cX0_has 22 = .ok (.iconst 0, 1) := by decide +kernel
theorem dX0_has_23 : decode cX0_has 23 = .ok (.ireturn, 1) := by decide +kernel
theorem dX0_goes_0 : decode cX0_goes 0 = .ok (.iload_n 1, 1) := by decide +kernel
theorem dX0_goes_1 : decode cX0_goes 1 = .ok (.ifCond .lt 39, 3) := by decide +kernel
theorem dX0_goes_4 : decode cX0_goes 4 = .ok (.iload_n 1, 1) := by decide +kernel
theorem dX0_goes_5 : decode cX0_goes 5 = .ok (.bipush 6, 2) := by decide +kernel
theorem dX0_goes_7 : decode cX0_goes 7 = .ok (.if_icmp .ge 33, 3) := by decide +kernel
theorem dX0_goes_10 : decode cX0_goes 10 = .ok (.iload_n 1, 1) := by decide +kernel
theorem dX0_goes_11 : decode cX0_goes 11 = .ok (.aload_n 0, 1) := by decide +kernel
theorem dX0_goes_12 : decode cX0_goes 12 = .ok (.getfield 38, 3) := by decide +kernel
theorem dX0_goes_15 : decode cX0_goes 15 = .ok (.if_icmp .ge 25, 3) := by decide +kernel
theorem dX0_goes_18 : decode cX0_goes 18 = .ok (.aload_n 0, 1) := by decide +kernel
theorem dX0_goes_19 : decode cX0_goes 19 = .ok (.getfield 21, 3) := by decide +kernel
theorem dX0_goes_22 : decode cX0_goes 22 = .ok (.iload_n 1, 1) := by decide +kernel
theorem dX0_goes_23 : decode cX0_goes 23 = .ok (.baload, 1) := by decide +kernel
theorem dX0_goes_24 : decode cX0_goes 24 = .ok (.ifCond .ne 16, 3) := by decide +kernel
theorem dX0_goes_27 : decode cX0_goes 27 = .ok (.aload_n 0, 1) := by decide +kernel
theorem dX0_goes_28 : decode cX0_goes 28 = .ok (.getfield 18, 3) := by decide +kernel
theorem dX0_goes_31 : decode cX0_goes 31 = .ok (.iload_n 1, 1) := by decide +kernel
theorem dX0_goes_32 : decode cX0_goes 32 = .ok (.iaload, 1) := by decide +kernel
theorem dX0_goes_33 : decode cX0_goes 33 = .ok (.ifCond .le 7, 3) := by decide +kernel
theorem dX0_goes_36 : decode cX0_goes 36 = .ok (.iconst 1, 1) := by decide +kernel
theorem dX0_goes_37 : decode cX0_goes 37 = .ok (.goto 4, 3) := by decide +kernel
theorem dX0_goes_40 : decode cX0_goes 40 = .ok (.iconst 0, 1) := by decide +kernel
theorem dX0_goes_41 : decode cX0_goes 41 = .ok (.ireturn, 1) := by decide +kernel
set_option maxRecDepth 20000 in
theorem ggX0_going_X0_goes : GoodIn wsX0_going wsX0_goes := goodIn_r _ [5, 6, 7, 8, 9, 10, 11, 12, 13, 14, 15, 16, 17, 18, 19, 20, 21, 22] (by decide +kernel) (by decide +kernel)
set_option maxRecDepth 20000 in
theorem gX0_going_X0_goes : GoodIn wsX0_going (wsV RX0 56 RX0 yX0_goes wsX0_goes) := goodIn_app (goodIn_of _ (by decide +kernel)) ggX0_going_X0_goes
theorem dX0_going_0 : decode cX0_going 0 = .ok (.iconst 0, 1) := by decide +kernel
theorem dX0_going_1 : decode cX0_going 1 = .ok (.istore_n 1, 1) := by decide +kernel
theorem dX0_going_2 : decode cX0_going 2 = .ok (.iconst 0, 1) := by decide +kernel
theorem dX0_going_3 : decode cX0_going 3 = .ok (.istore_n 2, 1) := by decide +kernel
theorem dX0_going_4 : decode cX0_going 4 = .ok (.iload_n 2, 1) := by decide +kernel
theorem dX0_going_5 : decode cX0_going 5 = .ok (.bipush 6, 2) := by decide +kernel
theorem dX0_going_7 : decode cX0_going 7 = .ok (.if_icmp .ge 20, 3) := by decide +kernel
theorem dX0_going_10 : decode cX0_going 10 = .ok (.aload_n 0, 1) := by decide +kernel
theorem dX0_going_11 : decode cX0_going 11 = .ok (.iload_n 2, 1) := by decide +kernel
theorem dX0_going_12 : decode cX0_going 12 = .ok (.invokevirtual 56, 3) := by decide +kernel
theorem dX0_going_15 : decode cX0_going 15 = .ok (.ifCond .eq 6, 3) := by decide +kernel
theorem dX0_going_18 : decode cX0_going 18 = .ok (.iinc 1 1, 3) := by decide +kernel
theorem dX0_going_21 : decode cX0_going 21 = .ok (.iinc 2 1, 3) := by decide +kernel
theorem dX0_going_24 : decode cX0_going 24 = .ok (.goto (-20), 3) := by decide +kernel
theorem dX0_going_27 : decode cX0_going 27 = .ok (.iload_n 1, 1) := by decide +kernel
theorem dX0_going_28 : decode cX0_going 28 = .ok (.ireturn, 1) := by decide +kernel
theorem dX0_add_0 : decode cX0_add 0 = .ok (.aload_n 0, 1) := by decide +kernel
theorem dX0_add_1 : decode cX0_add 1 = .ok (.getfield 38, 3) := by decide +kernel
theorem dX0_add_4 : decode cX0_add 4 = .ok (.istore 4, 2) := by decide +kernel
theorem dX0_add_6 : decode cX0_add 6 = .ok (.iload 4, 2) := by decide +kernel
theorem dX0_add_8 : decode cX0_add 8 = .ok (.ifCond .lt 10, 3) := by decide +kernel
theorem dX0_add_11 : decode cX0_add 11 = .ok (.iload 4, 2) := by decide +kernel
theorem dX0_add_13 : decode cX0_add 13 = .ok (.bipush 6, 2) := by decide +kernel
theorem dX0_add_15 : decode cX0_add 15 = .ok (.if_icmp .lt 5, 3) := by decide +kernel
theorem dX0_add_18 : decode cX0_add 18 = .ok (.iconst (-1), 1) := by decide +kernel
theorem dX0_add_19 : decode cX0_add 19 = .ok (.ireturn, 1) := by decide +kernel
theorem dX0_add_20 : decode cX0_add 20 = .ok (.aload_n 0, 1) := by decide +kernel
theorem dX0_add_21 : decode cX0_add 21 = .ok (.getfield 9, 3) := by decide +kernel
theorem dX0_add_24 : decode cX0_add 24 = .ok (.iload 4, 2) := by decide +kernel
theorem dX0_add_26 : decode cX0_add 26 = .ok (.iload_n 1, 1) := by decide +kernel
theorem dX0_add_27 : decode cX0_add 27 = .ok (.iastore, 1) := by decide +kernel
theorem dX0_add_28 : decode cX0_add 28 = .ok (.aload_n 0, 1) := by decide +kernel
theorem dX0_add_29 : decode cX0_add 29 = .ok (.getfield 15, 3) := by decide +kernel
theorem dX0_add_32 : decode cX0_add 32 = .ok (.iload 4, 2) := by decide +kernel
theorem dX0_add_34 : decode cX0_add 34 = .ok (.iload_n 2, 1) := by decide +kernel
theorem dX0_add_35 : decode cX0_add 35 = .ok (.iastore, 1) := by decide +kernel
theorem dX0_add_36 : decode cX0_add 36 = .ok (.aload_n 0, 1) := by decide +kernel
theorem dX0_add_37 : decode cX0_add 37 = .ok (.getfield 18, 3) := by decide +kernel
theorem dX0_add_40 : decode cX0_add 40 = .ok (.iload 4, 2) := by decide +kernel
theorem dX0_add_42 : decode cX0_add 42 = .ok (.iload_n 3, 1) := by decide +kernel
theorem dX0_add_43 : decode cX0_add 43 = .ok (.iastore, 1) := by decide +kernel
theorem dX0_add_44 : decode cX0_add 44 = .ok (.aload_n 0, 1) := by decide +kernel
theorem dX0_add_45 : decode cX0_add 45 = .ok (.getfield 21, 3) := by decide +kernel
theorem dX0_add_48 : decode cX0_add 48 = .ok (.iload 4, 2) := by decide +kernel
theorem dX0_add_50 : decode cX0_add 50 = .ok (.iconst 0, 1) := by decide +kernel
theorem dX0_add_51 : decode cX0_add 51 = .ok (.bastore, 1) := by decide +kernel
theorem dX0_add_52 : decode cX0_add 52 = .ok (.aload_n 0, 1) := by decide +kernel
theorem dX0_add_53 : decode cX0_add 53 = .ok (.getfield 25, 3) := by decide +kernel
theorem dX0_add_56 : decode cX0_add 56 = .ok (.iload 4, 2) := by decide +kernel
theorem dX0_add_58 : decode cX0_add 58 = .ok (.iconst 0, 1) := by decide +kernel
theorem dX0_add_59 : decode cX0_add 59 = .ok (.iastore, 1) := by decide +kernel
theorem dX0_add_60 : decode cX0_add 60 = .ok (.aload_n 0, 1) := by decide +kernel
theorem dX0_add_61 : decode cX0_add 61 = .ok (.dup, 1) := by decide +kernel
theorem dX0_add_62 : decode cX0_add 62 = .ok (.getfield 38, 3) := by decide +kernel
theorem dX0_add_65 : decode cX0_add 65 = .ok (.iconst 1, 1) := by decide +kernel
theorem dX0_add_66 : decode cX0_add 66 = .ok (.iadd, 1) := by decide +kernel
theorem dX0_add_67 : decode cX0_add 67 = .ok (.putfield 38, 3) := by decide +kernel
theorem dX0_add_70 : decode cX0_add 70 = .ok (.iload 4, 2) := by decide +kernel
theorem dX0_add_72 : decode cX0_add 72 = .ok (.ireturn, 1) := by decide +kernel
theorem dX0_removeLast_0 : decode cX0_removeLast 0 = .ok (.aload_n 0, 1) := by decide +kernel
theorem dX0_removeLast_1 : decode cX0_removeLast 1 = .ok (.getfield 38, 3) := by decide +kernel
theorem dX0_removeLast_4 : decode cX0_removeLast 4 = .ok (.ifCond .le 13, 3) := by decide +kernel
theorem dX0_removeLast_7 : decode cX0_removeLast 7 = .ok (.aload_n 0, 1) := by decide +kernel
theorem dX0_removeLast_8 : decode cX0_removeLast 8 = .ok (.dup, 1) := by decide +kernel
theorem dX0_removeLast_9 : decode cX0_removeLast 9 = .ok (.getfield 38, 3) := by decide +kernel
theorem dX0_removeLast_12 : decode cX0_removeLast 12 = .ok (.iconst 1, 1) := by decide +kernel
theorem dX0_removeLast_13 : decode cX0_removeLast 13 = .ok (.isub, 1) := by decide +kernel
theorem dX0_removeLast_14 : decode cX0_removeLast 14 = .ok (.putfield 38, 3) := by decide +kernel
theorem dX0_removeLast_17 : decode cX0_removeLast 17 = .ok (.aload_n 0, 1) := by decide +kernel
theorem dX0_removeLast_18 : decode cX0_removeLast 18 = .ok (.getfield 38, 3) := by decide +kernel
theorem dX0_removeLast_21 : decode cX0_removeLast 21 = .ok (.ireturn, 1) := by decide +kernel
set_option maxRecDepth 20000 in
theorem ggX0_changeBeat_X0_has : GoodIn wsX0_changeBeat wsX0_has := goodIn_r _ [6, 7, 8, 9, 10, 11, 12, 13, 14, 15, 16, 17, 18, 19, 20, 21] (by decide +kernel) (by decide +kernel)
set_option maxRecDepth 20000 in
theorem gX0_changeBeat_X0_has : GoodIn wsX0_changeBeat (wsV RX0 60 RX0 yX0_has wsX0_has) := goodIn_app (goodIn_of _ (by decide +kernel)) ggX0_changeBeat_X0_has
theorem dX0_changeBeat_0 : decode cX0_changeBeat 0 = .ok (.aload_n 0, 1) := by decide +kernel
theorem dX0_changeBeat_1 : decode cX0_changeBeat 1 = .ok (.iload_n 1, 1) := by decide +kernel
theorem dX0_changeBeat_2 : decode cX0_changeBeat 2 = .ok (.invokevirtual 60, 3) := by decide +kernel
theorem dX0_changeBeat_5 : decode cX0_changeBeat 5 = .ok (.ifCond .ne 5, 3) := by decide +kernel
theorem dX0_changeBeat_8 : decode cX0_changeBeat 8 = .ok (.iconst (-1), 1) := by decide +kernel
theorem dX0_changeBeat_9 : decode cX0_changeBeat 9 = .ok (.ireturn, 1) := by decide +kernel
theorem dX0_changeBeat_10 : decode cX0_changeBeat 10 = .ok (.aload_n 0, 1) := by decide +kernel
theorem dX0_changeBeat_11 : decode cX0_changeBeat 11 = .ok (.getfield 9, 3) := by decide +kernel
theorem dX0_changeBeat_14 : decode cX0_changeBeat 14 = .ok (.iload_n 1, 1) := by decide +kernel
theorem dX0_changeBeat_15 : decode cX0_changeBeat 15 = .ok (.iaload, 1) := by decide +kernel
theorem dX0_changeBeat_16 : decode cX0_changeBeat 16 = .ok (.istore_n 3, 1) := by decide +kernel
theorem dX0_changeBeat_17 : decode cX0_changeBeat 17 = .ok (.aload_n 0, 1) := by decide +kernel
theorem dX0_changeBeat_18 : decode cX0_changeBeat 18 = .ok (.getfield 9, 3) := by decide +kernel
theorem dX0_changeBeat_21 : decode cX0_changeBeat 21 = .ok (.iload_n 1, 1) := by decide +kernel
theorem dX0_changeBeat_22 : decode cX0_changeBeat 22 = .ok (.iload_n 2, 1) := by decide +kernel
theorem dX0_changeBeat_23 : decode cX0_changeBeat 23 = .ok (.iastore, 1) := by decide +kernel
theorem dX0_changeBeat_24 : decode cX0_changeBeat 24 = .ok (.iload_n 3, 1) := by decide +kernel
theorem dX0_changeBeat_25 : decode cX0_changeBeat 25 = .ok (.ireturn, 1) := by decide +kernel
set_option maxRecDepth 20000 in
theorem ggX0_changeSpring_X0_has : GoodIn wsX0_changeSpring wsX0_has := goodIn_r _ [6, 7, 8, 9, 10, 11, 12, 13, 14, 15, 16, 17, 18, 19, 20, 21] (by decide +kernel) (by decide +kernel)
set_option maxRecDepth 20000 in
theorem gX0_changeSpring_X0_has : GoodIn wsX0_changeSpring (wsV RX0 60 RX0 yX0_has wsX0_has) := goodIn_app (goodIn_of _ (by decide +kernel)) ggX0_changeSpring_X0_has
theorem dX0_changeSpring_0 : decode cX0_changeSpring 0 = .ok (.aload_n 0, 1) := by decide +kernel
theorem dX0_changeSpring_1 : decode cX0_changeSpring 1 = .ok (.iload_n 1, 1) := by decide +kernel
theorem dX0_changeSpring_2 : decode cX0_changeSpring 2 = .ok (.invokevirtual 60, 3) := by decide +kernel
theorem dX0_changeSpring_5 : decode cX0_changeSpring 5 = .ok (.ifCond .ne 5, 3) := by decide +kernel
theorem dX0_changeSpring_8 : decode cX0_changeSpring 8 = .ok (.iconst (-1), 1) := by decide +kernel
theorem dX0_changeSpring_9 : decode cX0_changeSpring 9 = .ok (.ireturn, 1) := by decide +kernel
theorem dX0_changeSpring_10 : decode cX0_changeSpring 10 = .ok (.aload_n 0, 1) := by decide +kernel
theorem dX0_changeSpring_11 : decode cX0_changeSpring 11 = .ok (.getfield 18, 3) := by decide +kernel
theorem dX0_changeSpring_14 : decode cX0_changeSpring 14 = .ok (.iload_n 1, 1) := by decide +kernel
theorem dX0_changeSpring_15 : decode cX0_changeSpring 15 = .ok (.iaload, 1) := by decide +kernel
theorem dX0_changeSpring_16 : decode cX0_changeSpring 16 = .ok (.istore_n 3, 1) := by decide +kernel
theorem dX0_changeSpring_17 : decode cX0_changeSpring 17 = .ok (.aload_n 0, 1) := by decide +kernel
theorem dX0_changeSpring_18 : decode cX0_changeSpring 18 = .ok (.getfield 18, 3) := by decide +kernel
theorem dX0_changeSpring_21 : decode cX0_changeSpring 21 = .ok (.iload_n 1, 1) := by decide +kernel
theorem dX0_changeSpring_22 : decode cX0_changeSpring 22 = .ok (.iload_n 2, 1) := by decide +kernel
theorem dX0_changeSpring_23 : decode cX0_changeSpring 23 = .ok (.iastore, 1) := by decide +kernel
theorem dX0_changeSpring_24 : decode cX0_changeSpring 24 = .ok (.iload_n 3, 1) := by decide +kernel
theorem dX0_changeSpring_25 : decode cX0_changeSpring 25 = .ok (.ireturn, 1) := by decide +kernel
set_option maxRecDepth 20000 in
theorem ggX0_holdOrLetGo_X0_has : GoodIn wsX0_holdOrLetGo wsX0_has := goodIn_r _ [6, 7, 8, 9, 10, 11, 12, 13, 14, 15, 16, 17, 18, 19, 20, 21] (by decide +kernel) (by decide +kernel)
set_option maxRecDepth 20000 in
theorem gX0_holdOrLetGo_X0_has : GoodIn wsX0_holdOrLetGo (wsV RX0 60 RX0 yX0_has wsX0_has) := goodIn_app (goodIn_of _ (by decide +kernel)) ggX0_holdOrLetGo_X0_has
theorem dX0_holdOrLetGo_0 : decode cX0_holdOrLetGo 0 = .ok (.aload_n 0, 1) := by decide +kernel
theorem dX0_holdOrLetGo_1 : decode cX0_holdOrLetGo 1 = .ok (.iload_n 1, 1) := by decide +kernel
theorem dX0_holdOrLetGo_2 : decode cX0_holdOrLetGo 2 = .ok (.invokevirtual 60, 3) := by decide +kernel
theorem dX0_holdOrLetGo_5 : decode cX0_holdOrLetGo 5 = .ok (.ifCond .ne 5, 3) := by decide +kernel
theorem dX0_holdOrLetGo_8 : decode cX0_holdOrLetGo 8 = .ok (.iconst (-1), 1) := by decide +kernel
theorem dX0_holdOrLetGo_9 : decode cX0_holdOrLetGo 9 = .ok (.ireturn, 1) := by decide +kernel
theorem dX0_holdOrLetGo_10 : decode cX0_holdOrLetGo 10 = .ok (.aload_n 0, 1) := by decide +kernel
theorem dX0_holdOrLetGo_11 : decode cX0_holdOrLetGo 11 = .ok (.getfield 21, 3) := by decide +kernel
theorem dX0_holdOrLetGo_14 : decode cX0_holdOrLetGo 14 = .ok (.iload_n 1, 1) := by decide +kernel
theorem dX0_holdOrLetGo_15 : decode cX0_holdOrLetGo 15 = .ok (.aload_n 0, 1) := by decide +kernel
theorem dX0_holdOrLetGo_16 : decode cX0_holdOrLetGo 16 = .ok (.getfield 21, 3) := by decide +kernel
theorem dX0_holdOrLetGo_19 : decode cX0_holdOrLetGo 19 = .ok (.iload_n 1, 1) := by decide +kernel
theorem dX0_holdOrLetGo_20 : decode cX0_holdOrLetGo 20 = .ok (.baload, 1) := by decide +kernel
theorem dX0_holdOrLetGo_21 : decode cX0_holdOrLetGo 21 = .ok (.ifCond .ne 7, 3) := by decide +kernel
theorem dX0_holdOrLetGo_24 : decode cX0_holdOrLetGo 24 = .ok (.iconst 1, 1) := by decide +kernel
theorem dX0_holdOrLetGo_25 : decode cX0_holdOrLetGo 25 = .ok (.goto 4, 3) := by decide +kernel
theorem dX0_holdOrLetGo_28 : decode cX0_holdOrLetGo 28 = .ok (.iconst 0, 1) := by decide +kernel
theorem dX0_holdOrLetGo_29 : decode cX0_holdOrLetGo 29 = .ok (.bastore, 1) := by decide +kernel
theorem dX0_holdOrLetGo_30 : decode cX0_holdOrLetGo 30 = .ok (.aload_n 0, 1) := by decide +kernel
theorem dX0_holdOrLetGo_31 : decode cX0_holdOrLetGo 31 = .ok (.getfield 21, 3) := by decide +kernel
theorem dX0_holdOrLetGo_34 : decode cX0_holdOrLetGo 34 = .ok (.iload_n 1, 1) := by decide +kernel
theorem dX0_holdOrLetGo_35 : decode cX0_holdOrLetGo 35 = .ok (.baload, 1) := by decide +kernel
theorem dX0_holdOrLetGo_36 : decode cX0_holdOrLetGo 36 = .ok (.ifCond .eq 7, 3) := by decide +kernel
theorem dX0_holdOrLetGo_39 : decode cX0_holdOrLetGo 39 = .ok (.iconst 1, 1) := by decide +kernel
theorem dX0_holdOrLetGo_40 : decode cX0_holdOrLetGo 40 = .ok (.goto 4, 3) := by decide +kernel
theorem dX0_holdOrLetGo_43 : decode cX0_holdOrLetGo 43 = .ok (.iconst 0, 1) := by decide +kernel
theorem dX0_holdOrLetGo_44 : decode cX0_holdOrLetGo 44 = .ok (.ireturn, 1) := by decide +kernel
set_option maxRecDepth 20000 in
theorem ggX0_changeSetting_X0_settingValue : GoodIn wsX0_changeSetting wsX0_settingValue := goodIn_r _ [8, 1, 2, 3, 9, 10, 11, 12, 13, 14, 15, 16, 17, 18, 19, 20, 21, 22] (by decide +kernel) (by decide +kernel)
set_option maxRecDepth 20000 in
theorem gX0_changeSetting_X0_settingValue : GoodIn wsX0_changeSetting (wsV RX0 63 RX0 yX0_settingValue wsX0_settingValue) := goodIn_app (goodIn_of _ (by decide +kernel)) ggX0_changeSetting_X0_settingValue
theorem dX0_changeSetting_0 : decode cX0_changeSetting 0 = .ok (.aload_n 0, 1) := by decide +kernel
theorem dX0_changeSetting_1 : decode cX0_changeSetting 1 = .ok (.iload_n 1, 1) := by decide +kernel
theorem dX0_changeSetting_2 : decode cX0_changeSetting 2 = .ok (.invokevirtual 63, 3) := by decide +kernel
theorem dX0_changeSetting_5 : decode cX0_changeSetting 5 = .ok (.istore_n 3, 1) := by decide +kernel
theorem dX0_changeSetting_6 : decode cX0_changeSetting 6 = .ok (.iload_n 1, 1) := by decide +kernel
theorem dX0_changeSetting_7 : decode cX0_changeSetting 7 = .ok (.lookupswitch 41 #[(0, 25), (1, 33)], 25) := by decide +kernel
theorem dX0_changeSetting_32 : decode cX0_changeSetting 32 = .ok (.aload_n 0, 1) := by decide +kernel
theorem dX0_changeSetting_33 : decode cX0_changeSetting 33 = .ok (.iload_n 2, 1) := by decide +kernel
theorem dX0_changeSetting_34 : decode cX0_changeSetting 34 = .ok (.putfield 28, 3) := by decide +kernel
theorem dX0_changeSetting_37 : decode cX0_changeSetting 37 = .ok (.goto 16, 3) := by decide +kernel
theorem dX0_changeSetting_40 : decode cX0_changeSetting 40 = .ok (.aload_n 0, 1) := by decide +kernel
theorem dX0_changeSetting_41 : decode cX0_changeSetting 41 = .ok (.iload_n 2, 1) := by decide +kernel
theorem dX0_changeSetting_42 : decode cX0_changeSetting 42 = .ok (.putfield 32, 3) := by decide +kernel
theorem dX0_changeSetting_45 : decode cX0_changeSetting 45 = .ok (.goto 8, 3) := by decide +kernel
theorem dX0_changeSetting_48 : decode cX0_changeSetting 48 = .ok (.aload_n 0, 1) := by decide +kernel
theorem dX0_changeSetting_49 : decode cX0_changeSetting 49 = .ok (.iload_n 2, 1) := by decide +kernel
theorem dX0_changeSetting_50 : decode cX0_changeSetting 50 = .ok (.putfield 35, 3) := by decide +kernel
theorem dX0_changeSetting_53 : decode cX0_changeSetting 53 = .ok (.iload_n 3, 1) := by decide +kernel
theorem dX0_changeSetting_54 : decode cX0_changeSetting 54 = .ok (.ireturn, 1) := by decide +kernel
theorem dX0_settingValue_0 : decode cX0_settingValue 0 = .ok (.iload_n 1, 1) := by decide +kernel
theorem dX0_settingValue_1 : decode cX0_settingValue 1 = .ok (.lookupswitch 37 #[(0, 27), (1, 32)], 27) := by decide +kernel
theorem dX0_settingValue_28 : decode cX0_settingValue 28 = .ok (.aload_n 0, 1) := by decide +kernel
theorem dX0_settingValue_29 : decode cX0_settingValue 29 = .ok (.getfield 28, 3) := by decide +kernel
theorem dX0_settingValue_32 : decode cX0_settingValue 32 = .ok (.ireturn, 1) := by decide +kernel
theorem dX0_settingValue_33 : decode cX0_settingValue 33 = .ok (.aload_n 0, 1) := by decide +kernel
theorem dX0_settingValue_34 : decode cX0_settingValue 34 = .ok (.getfield 32, 3) := by decide +kernel
theorem dX0_settingValue_37 : decode cX0_settingValue 37 = .ok (.ireturn, 1) := by decide +kernel
theorem dX0_settingValue_38 : decode cX0_settingValue 38 = .ok (.aload_n 0, 1) := by decide +kernel
theorem dX0_settingValue_39 : decode cX0_settingValue 39 = .ok (.getfield 35, 3) := by decide +kernel
theorem dX0_settingValue_42 : decode cX0_settingValue 42 = .ok (.ireturn, 1) := by decide +kernel
theorem dX0_hasTimeFor_0 : decode cX0_hasTimeFor 0 = .ok (.aload_n 0, 1) := by decide +kernel
theorem dX0_hasTimeFor_1 : decode cX0_hasTimeFor 1 = .ok (.getfield 47, 3) := by decide +kernel
theorem dX0_hasTimeFor_4 : decode cX0_hasTimeFor 4 = .ok (.iload_n 1, 1) := by decide +kernel
theorem dX0_hasTimeFor_5 : decode cX0_hasTimeFor 5 = .ok (.iadd, 1) := by decide +kernel
theorem dX0_hasTimeFor_6 : decode cX0_hasTimeFor 6 = .ok (.ldc 67, 2) := by decide +kernel
theorem dX0_hasTimeFor_8 : decode cX0_hasTimeFor 8 = .ok (.if_icmp .gt 7, 3) := by decide +kernel
theorem dX0_hasTimeFor_11 : decode cX0_hasTimeFor 11 = .ok (.iconst 1, 1) := by decide +kernel
theorem dX0_hasTimeFor_12 : decode cX0_hasTimeFor 12 = .ok (.goto 4, 3) := by decide +kernel
theorem dX0_hasTimeFor_15 : decode cX0_hasTimeFor 15 = .ok (.iconst 0, 1) := by decide +kernel
theorem dX0_hasTimeFor_16 : decode cX0_hasTimeFor 16 = .ok (.ireturn, 1) := by decide +kernel
theorem dX0_allTicks_0 : decode cX0_allTicks 0 = .ok (.aload_n 0, 1) := by decide +kernel
theorem dX0_allTicks_1 : decode cX0_allTicks 1 = .ok (.getfield 50, 3) := by decide +kernel
theorem dX0_allTicks_4 : decode cX0_allTicks 4 = .ok (.ireturn, 1) := by decide +kernel
theorem dX0_stepsTogether_0 : decode cX0_stepsTogether 0 = .ok (.aload_n 0, 1) := by decide +kernel
theorem dX0_stepsTogether_1 : decode cX0_stepsTogether 1 = .ok (.getfield 53, 3) := by decide +kernel
theorem dX0_stepsTogether_4 : decode cX0_stepsTogether 4 = .ok (.ireturn, 1) := by decide +kernel
theorem dX0_stopBoard_0 : decode cX0_stopBoard 0 = .ok (.aload_n 0, 1) := by decide +kernel
theorem dX0_stopBoard_1 : decode cX0_stopBoard 1 = .ok (.getfield 41, 3) := by decide +kernel
theorem dX0_stopBoard_4 : decode cX0_stopBoard 4 = .ok (.invokestatic 68, 3) := by decide +kernel
theorem dX0_stopBoard_7 : decode cX0_stopBoard 7 = .ok (.aload_n 0, 1) := by decide +kernel
theorem dX0_stopBoard_8 : decode cX0_stopBoard 8 = .ok (.getfield 44, 3) := by decide +kernel
theorem dX0_stopBoard_11 : decode cX0_stopBoard 11 = .ok (.invokestatic 68, 3) := by decide +kernel
theorem dX0_stopBoard_14 : decode cX0_stopBoard 14 = .ok (.iadd, 1) := by decide +kernel
theorem dX0_stopBoard_15 : decode cX0_stopBoard 15 = .ok (.istore_n 1, 1) := by decide +kernel
theorem dX0_stopBoard_16 : decode cX0_stopBoard 16 = .ok (.aload_n 0, 1) := by decide +kernel
theorem dX0_stopBoard_17 : decode cX0_stopBoard 17 = .ok (.iconst 0, 1) := by decide +kernel
theorem dX0_stopBoard_18 : decode cX0_stopBoard 18 = .ok (.putfield 41, 3) := by decide +kernel
theorem dX0_stopBoard_21 : decode cX0_stopBoard 21 = .ok (.aload_n 0, 1) := by decide +kernel
theorem dX0_stopBoard_22 : decode cX0_stopBoard 22 = .ok (.iconst 0, 1) := by decide +kernel
theorem dX0_stopBoard_23 : decode cX0_stopBoard 23 = .ok (.putfield 44, 3) := by decide +kernel
theorem dX0_stopBoard_26 : decode cX0_stopBoard 26 = .ok (.iload_n 1, 1) := by decide +kernel
theorem dX0_stopBoard_27 : decode cX0_stopBoard 27 = .ok (.ireturn, 1) := by decide +kernel
set_option maxRecDepth 20000 in
theorem ggX0_letGoBy_X0_step : GoodIn wsX0_letGoBy wsX0_step := goodIn_r _ [6, 7, 1, 8, 9, 10, 11, 5, 12, 13, 14, 15, 16, 17, 18, 19, 20, 21, 22, 23, 24, 25, 26, 27, 28, 29, 30, 31, 32, 33, 34, 35, 36, 37, 38, 39, 40, 41, 42, 43, 44, 45, 46, 47, 48, 49, 50, 51, 52, 53, 54, 55, 56, 57, 58, 59, 60, 61, 62, 63, 64, 65, 66, 67, 68, 69, 70, 71] (by decide +kernel) (by decide +kernel)
set_option maxRecDepth 20000 in
theorem gX0_letGoBy_X0_step : GoodIn wsX0_letGoBy (wsV RX0 73 RX0 yX0_step wsX0_step) := goodIn_app (goodIn_of _ (by decide +kernel)) ggX0_letGoBy_X0_step
theorem dX0_letGoBy_0 : decode cX0_letGoBy 0 = .ok (.aload_n 0, 1) := by decide +kernel
theorem dX0_letGoBy_1 : decode cX0_letGoBy 1 = .ok (.getfield 50, 3) := by decide +kernel
theorem dX0_letGoBy_4 : decode cX0_letGoBy 4 = .ok (.istore_n 2, 1) := by decide +kernel
theorem dX0_letGoBy_5 : decode cX0_letGoBy 5 = .ok (.iconst 0, 1) := by decide +kernel
theorem dX0_letGoBy_6 : decode cX0_letGoBy 6 = .ok (.istore_n 3, 1) := by decide +kernel
theorem dX0_letGoBy_7 : decode cX0_letGoBy 7 = .ok (.iload_n 3, 1) := by decide +kernel
theorem dX0_letGoBy_8 : decode cX0_letGoBy 8 = .ok (.iload_n 1, 1) := by decide +kernel
theorem dX0_letGoBy_9 : decode cX0_letGoBy 9 = .ok (.if_icmp .ge 13, 3) := by decide +kernel
theorem dX0_letGoBy_12 : decode cX0_letGoBy 12 = .ok (.aload_n 0, 1) := by decide +kernel
theorem dX0_letGoBy_13 : decode cX0_letGoBy 13 = .ok (.invokevirtual 73, 3) := by decide +kernel
theorem dX0_letGoBy_16 : decode cX0_letGoBy 16 = .ok (.iinc 3 1, 3) := by decide +kernel
theorem dX0_letGoBy_19 : decode cX0_letGoBy 19 = .ok (.goto (-12), 3) := by decide +kernel
theorem dX0_letGoBy_22 : decode cX0_letGoBy 22 = .ok (.aload_n 0, 1) := by decide +kernel
theorem dX0_letGoBy_23 : decode cX0_letGoBy 23 = .ok (.getfield 50, 3) := by decide +kernel
theorem dX0_letGoBy_26 : decode cX0_letGoBy 26 = .ok (.iload_n 2, 1) := by decide +kernel
theorem dX0_letGoBy_27 : decode cX0_letGoBy 27 = .ok (.isub, 1) := by decide +kernel
theorem dX0_letGoBy_28 : decode cX0_letGoBy 28 = .ok (.ireturn, 1) := by decide +kernel
set_option maxRecDepth 20000 in
theorem ggX0_step_X0_pushBoard : GoodIn wsX0_step wsX0_pushBoard := goodIn_r _ [8, 9, 10, 11, 12, 13, 14, 7, 15, 16, 17, 18, 19, 20, 21, 22, 23, 24, 25, 26, 27, 28, 29, 30, 31, 32, 33, 34, 35, 36, 37, 54, 55, 56, 57, 58, 59, 60, 61, 62, 63, 64, 65, 66, 67] (by decide +kernel) (by decide +kernel)
set_option maxRecDepth 20000 in
theorem gX0_step_X0_pushBoard : GoodIn wsX0_step (wsV RX0 76 RX0 yX0_pushBoard wsX0_pushBoard) := goodIn_app (goodIn_of _ (by decide +kernel)) ggX0_step_X0_pushBoard
set_option maxRecDepth 20000 in
theorem ggX0_step_X0_goes : GoodIn wsX0_step wsX0_goes := goodIn_r _ [19, 20, 21, 22, 54, 55, 56, 57, 58, 59, 60, 61, 62, 63, 64, 65, 66, 67] (by decide +kernel) (by decide +kernel)
set_option maxRecDepth 20000 in
theorem gX0_step_X0_goes : GoodIn wsX0_step (wsV RX0 56 RX0 yX0_goes wsX0_goes) := goodIn_app (goodIn_of _ (by decide +kernel)) ggX0_step_X0_goes
set_option maxRecDepth 20000 in
theorem ggX0_step_X0_ticksGoingForward : GoodIn wsX0_step wsX0_ticksGoingForward := goodIn_r _ [41, 27, 42, 22, 43, 44, 45, 46, 7, 47, 20, 48, 49, 50, 51, 52, 9, 11, 53, 35, 36, 37, 28, 29, 30, 54, 55, 56, 57, 58, 59, 60, 61, 62, 63, 64, 65, 66, 67] (by decide +kernel) (by decide +kernel)
set_option maxRecDepth 20000 in
theorem gX0_step_X0_ticksGoingForward : GoodIn wsX0_step (wsV RX0 79 RX0 yX0_ticksGoingForward wsX0_ticksGoingForward) := goodIn_app (goodIn_of _ (by decide +kernel)) ggX0_step_X0_ticksGoingForward
theorem dX0_step_0 : decode cX0_step 0 = .ok (.aload_n 0, 1) := by decide +kernel
theorem dX0_step_1 : decode cX0_step 1 = .ok (.invokevirtual 76, 3) := by decide +kernel
theorem dX0_step_4 : decode cX0_step 4 = .ok (.iconst 0, 1) := by decide +kernel
theorem dX0_step_5 : decode cX0_step 5 = .ok (.istore_n 1, 1) := by decide +kernel
theorem dX0_step_6 : decode cX0_step 6 = .ok (.iconst 0, 1) := by decide +kernel
theorem dX0_step_7 : decode cX0_step 7 = .ok (.istore_n 2, 1) := by decide +kernel
theorem dX0_step_8 : decode cX0_step 8 = .ok (.iload_n 2, 1) := by decide +kernel
theorem dX0_step_9 : decode cX0_step 9 = .ok (.bipush 6, 2) := by decide +kernel
theorem dX0_step_11 : decode cX0_step 11 = .ok (.if_icmp .ge 28, 3) := by decide +kernel
theorem dX0_step_14 : decode cX0_step 14 = .ok (.aload_n 0, 1) := by decide +kernel
theorem dX0_step_15 : decode cX0_step 15 = .ok (.iload_n 2, 1) := by decide +kernel
theorem dX0_step_16 : decode cX0_step 16 = .ok (.invokevirtual 56, 3) := by decide +kernel
theorem dX0_step_19 : decode cX0_step 19 = .ok (.ifCond .eq 14, 3) := by decide +kernel
theorem dX0_step_22 : decode cX0_step 22 = .ok (.aload_n 0, 1) := by decide +kernel
theorem dX0_step_23 : decode cX0_step 23 = .ok (.iload_n 2, 1) := by decide +kernel
theorem dX0_step_24 : decode cX0_step 24 = .ok (.invokevirtual 79, 3) := by decide +kernel
theorem dX0_step_27 : decode cX0_step 27 = .ok (.ifCond .eq 6, 3) := by decide +kernel
theorem dX0_step_30 : decode cX0_step 30 = .ok (.iinc 1 1, 3) := by decide +kernel
theorem dX0_step_33 : decode cX0_step 33 = .ok (.iinc 2 1, 3) := by decide +kernel
theorem dX0_step_36 : decode cX0_step 36 = .ok (.goto (-28), 3) := by decide +kernel
theorem dX0_step_39 : decode cX0_step 39 = .ok (.aload_n 0, 1) := by decide +kernel
theorem dX0_step_40 : decode cX0_step 40 = .ok (.dup, 1) := by decide +kernel
theorem dX0_step_41 : decode cX0_step 41 = .ok (.getfield 47, 3) := by decide +kernel
theorem dX0_step_44 : decode cX0_step 44 = .ok (.iconst 1, 1) := by decide +kernel
theorem dX0_step_45 : decode cX0_step 45 = .ok (.iadd, 1) := by decide +kernel
theorem dX0_step_46 : decode cX0_step 46 = .ok (.putfield 47, 3) := by decide +kernel
theorem dX0_step_49 : decode cX0_step 49 = .ok (.aload_n 0, 1) := by decide +kernel
theorem dX0_step_50 : decode cX0_step 50 = .ok (.dup, 1) := by decide +kernel
theorem dX0_step_51 : decode cX0_step 51 = .ok (.getfield 50, 3) := by decide +kernel
theorem dX0_step_54 : decode cX0_step 54 = .ok (.iload_n 1, 1) := by decide +kernel
theorem dX0_step_55 : decode cX0_step 55 = .ok (.iadd, 1) := by decide +kernel
theorem dX0_step_56 : decode cX0_step 56 = .ok (.putfield 50, 3) := by decide +kernel
theorem dX0_step_59 : decode cX0_step 59 = .ok (.iload_n 1, 1) := by decide +kernel
theorem dX0_step_60 : decode cX0_step 60 = .ok (.iconst 2, 1) := by decide +kernel
theorem dX0_step_61 : decode cX0_step 61 = .ok (.if_icmp .lt 13, 3) := by decide +kernel
theorem dX0_step_64 : decode cX0_step 64 = .ok (.aload_n 0, 1) := by decide +kernel
theorem dX0_step_65 : decode cX0_step 65 = .ok (.dup, 1) := by decide +kernel
theorem dX0_step_66 : decode cX0_step 66 = .ok (.getfield 53, 3) := by decide +kernel
theorem dX0_step_69 : decode cX0_step 69 = .ok (.iconst 1, 1) := by decide +kernel
theorem dX0_step_70 : decode cX0_step 70 = .ok (.iadd, 1) := by decide +kernel
theorem dX0_step_71 : decode cX0_step 71 = .ok (.putfield 53, 3) := by decide +kernel
theorem dX0_step_74 : decode cX0_step 74 = .ok (.return_, 1) := by decide +kernel
set_option maxRecDepth 20000 in
theorem ggX0_pushBoard_X0_going : GoodIn wsX0_pushBoard wsX0_going := goodIn_r _ [8, 9, 10, 11, 7, 12, 13, 14, 15, 31, 32, 33, 34, 35, 36, 37, 38, 39, 40, 41, 42, 43, 44] (by decide +kernel) (by decide +kernel)
set_option maxRecDepth 20000 in
theorem gX0_pushBoard_X0_going : GoodIn wsX0_pushBoard (wsV RX0 82 RX0 yX0_going wsX0_going) := goodIn_app (goodIn_of _ (by decide +kernel)) ggX0_pushBoard_X0_going
set_option maxRecDepth 20000 in
theorem ggX0_pushBoard_X0_sumOfSwings : GoodIn wsX0_pushBoard wsX0_sumOfSwings := goodIn_r _ [19, 20, 9, 10, 11, 7, 12, 13, 14, 15, 21, 22, 23, 31, 32, 33, 34, 35, 36, 37, 38, 39, 40, 41, 42, 43, 44] (by decide +kernel) (by decide +kernel)
set_option maxRecDepth 20000 in
theorem gX0_pushBoard_X0_sumOfSwings : GoodIn wsX0_pushBoard (wsV RX0 86 RX0 yX0_sumOfSwings wsX0_sumOfSwings) := goodIn_app (goodIn_of _ (by decide +kernel)) ggX0_pushBoard_X0_sumOfSwings
set_option maxRecDepth 20000 in
theorem ggX0_pushBoard_X0_sumOfTurns : GoodIn wsX0_pushBoard wsX0_sumOfTurns := goodIn_r _ [27, 20, 9, 10, 11, 7, 12, 13, 14, 15, 28, 29, 30, 21, 22, 23, 31, 32, 33, 34, 35, 36, 37, 38, 39, 40, 41, 42, 43, 44] (by decide +kernel) (by decide +kernel)
set_option maxRecDepth 20000 in
theorem gX0_pushBoard_X0_sumOfTurns : GoodIn wsX0_pushBoard (wsV RX0 89 RX0 yX0_sumOfTurns wsX0_sumOfTurns) := goodIn_app (goodIn_of _ (by decide +kernel)) ggX0_pushBoard_X0_sumOfTurns
theorem dX0_pushBoard_0 : decode cX0_pushBoard 0 = .ok (.aload_n 0, 1) := by decide +kernel
theorem dX0_pushBoard_1 : decode cX0_pushBoard 1 = .ok (.invokevirtual 82, 3) := by decide +kernel
theorem dX0_pushBoard_4 : decode cX0_pushBoard 4 = .ok (.istore_n 1, 1) := by decide +kernel
theorem dX0_pushBoard_5 : decode cX0_pushBoard 5 = .ok (.iload_n 1, 1) := by decide +kernel
theorem dX0_pushBoard_6 : decode cX0_pushBoard 6 = .ok (.ifCond .le 12, 3) := by decide +kernel
theorem dX0_pushBoard_9 : decode cX0_pushBoard 9 = .ok (.aload_n 0, 1) := by decide +kernel
theorem dX0_pushBoard_10 : decode cX0_pushBoard 10 = .ok (.invokevirtual 86, 3) := by decide +kernel
theorem dX0_pushBoard_13 : decode cX0_pushBoard 13 = .ok (.iload_n 1, 1) := by decide +kernel
theorem dX0_pushBoard_14 : decode cX0_pushBoard 14 = .ok (.idiv, 1) := by decide +kernel
theorem dX0_pushBoard_15 : decode cX0_pushBoard 15 = .ok (.goto 4, 3) := by decide +kernel
theorem dX0_pushBoard_18 : decode cX0_pushBoard 18 = .ok (.iconst 0, 1) := by decide +kernel
theorem dX0_pushBoard_19 : decode cX0_pushBoard 19 = .ok (.istore_n 2, 1) := by decide +kernel
theorem dX0_pushBoard_20 : decode cX0_pushBoard 20 = .ok (.iload_n 1, 1) := by decide +kernel
theorem dX0_pushBoard_21 : decode cX0_pushBoard 21 = .ok (.ifCond .le 12, 3) := by decide +kernel
theorem dX0_pushBoard_24 : decode cX0_pushBoard 24 = .ok (.aload_n 0, 1) := by decide +kernel
theorem dX0_pushBoard_25 : decode cX0_pushBoard 25 = .ok (.invokevirtual 89, 3) := by decide +kernel
theorem dX0_pushBoard_28 : decode cX0_pushBoard 28 = .ok (.iload_n 1, 1) := by decide +kernel
theorem dX0_pushBoard_29 : decode cX0_pushBoard 29 = .ok (.idiv, 1) := by decide +kernel
theorem dX0_pushBoard_30 : decode cX0_pushBoard 30 = .ok (.goto 4, 3) := by decide +kernel
theorem dX0_pushBoard_33 : decode cX0_pushBoard 33 = .ok (.iconst 0, 1) := by decide +kernel
theorem dX0_pushBoard_34 : decode cX0_pushBoard 34 = .ok (.istore_n 3, 1) := by decide +kernel
theorem dX0_pushBoard_35 : decode cX0_pushBoard 35 = .ok (.aload_n 0, 1) := by decide +kernel
theorem dX0_pushBoard_36 : decode cX0_pushBoard 36 = .ok (.aload_n 0, 1) := by decide +kernel
theorem dX0_pushBoard_37 : decode cX0_pushBoard 37 = .ok (.getfield 41, 3) := by decide +kernel
theorem dX0_pushBoard_40 : decode cX0_pushBoard 40 = .ok (.aload_n 0, 1) := by decide +kernel
theorem dX0_pushBoard_41 : decode cX0_pushBoard 41 = .ok (.getfield 28, 3) := by decide +kernel
theorem dX0_pushBoard_44 : decode cX0_pushBoard 44 = .ok (.imul, 1) := by decide +kernel
theorem dX0_pushBoard_45 : decode cX0_pushBoard 45 = .ok (.iload_n 2, 1) := by decide +kernel
theorem dX0_pushBoard_46 : decode cX0_pushBoard 46 = .ok (.bipush 100, 2) := by decide +kernel
theorem dX0_pushBoard_48 : decode cX0_pushBoard 48 = .ok (.aload_n 0, 1) := by decide +kernel
theorem dX0_pushBoard_49 : decode cX0_pushBoard 49 = .ok (.getfield 28, 3) := by decide +kernel
theorem dX0_pushBoard_52 : decode cX0_pushBoard 52 = .ok (.isub, 1) := by decide +kernel
theorem dX0_pushBoard_53 : decode cX0_pushBoard 53 = .ok (.imul, 1) := by decide +kernel
theorem dX0_pushBoard_54 : decode cX0_pushBoard 54 = .ok (.iadd, 1) := by decide +kernel
theorem dX0_pushBoard_55 : decode cX0_pushBoard 55 = .ok (.bipush 100, 2) := by decide +kernel
theorem dX0_pushBoard_57 : decode cX0_pushBoard 57 = .ok (.idiv, 1) := by decide +kernel
theorem dX0_pushBoard_58 : decode cX0_pushBoard 58 = .ok (.putfield 41, 3) := by decide +kernel
theorem dX0_pushBoard_61 : decode cX0_pushBoard 61 = .ok (.aload_n 0, 1) := by decide +kernel
theorem dX0_pushBoard_62 : decode cX0_pushBoard 62 = .ok (.aload_n 0, 1) := by decide +kernel
theorem dX0_pushBoard_63 : decode cX0_pushBoard 63 = .ok (.getfield 44, 3) := by decide +kernel
theorem dX0_pushBoard_66 : decode cX0_pushBoard 66 = .ok (.aload_n 0, 1) := by decide +kernel
theorem dX0_pushBoard_67 : decode cX0_pushBoard 67 = .ok (.getfield 28, 3) := by decide +kernel
theorem dX0_pushBoard_70 : decode cX0_pushBoard 70 = .ok (.imul, 1) := by decide +kernel
theorem dX0_pushBoard_71 : decode cX0_pushBoard 71 = .ok (.iload_n 3, 1) := by decide +kernel
theorem dX0_pushBoard_72 : decode cX0_pushBoard 72 = .ok (.bipush 100, 2) := by decide +kernel
theorem dX0_pushBoard_74 : decode cX0_pushBoard 74 = .ok (.aload_n 0, 1) := by decide +kernel
theorem dX0_pushBoard_75 : decode cX0_pushBoard 75 = .ok (.getfield 28, 3) := by decide +kernel
theorem dX0_pushBoard_78 : decode cX0_pushBoard 78 = .ok (.isub, 1) := by decide +kernel
theorem dX0_pushBoard_79 : decode cX0_pushBoard 79 = .ok (.imul, 1) := by decide +kernel
theorem dX0_pushBoard_80 : decode cX0_pushBoard 80 = .ok (.iadd, 1) := by decide +kernel
theorem dX0_pushBoard_81 : decode cX0_pushBoard 81 = .ok (.bipush 100, 2) := by decide +kernel
theorem dX0_pushBoard_83 : decode cX0_pushBoard 83 = .ok (.idiv, 1) := by decide +kernel
theorem dX0_pushBoard_84 : decode cX0_pushBoard 84 = .ok (.putfield 44, 3) := by decide +kernel
theorem dX0_pushBoard_87 : decode cX0_pushBoard 87 = .ok (.return_, 1) := by decide +kernel
set_option maxRecDepth 20000 in
theorem ggX0_ticksGoingForward_X0_has : GoodIn wsX0_ticksGoingForward wsX0_has := goodIn_r _ [9, 10, 25, 26, 27, 28, 29, 30, 31, 32, 33, 34, 35, 36, 37, 38] (by decide +kernel) (by decide +kernel)
set_option maxRecDepth 20000 in
theorem gX0_ticksGoingForward_X0_has : GoodIn wsX0_ticksGoingForward (wsV RX0 60 RX0 yX0_has wsX0_has) := goodIn_app (goodIn_of _ (by decide +kernel)) ggX0_ticksGoingForward_X0_has
set_option maxRecDepth 20000 in
theorem ggX0_ticksGoingForward_X0_pull : GoodIn wsX0_ticksGoingForward wsX0_pull := goodIn_r _ [14, 15, 16, 17, 18, 19, 20, 8, 21, 22, 23, 24, 25, 26, 27, 28, 29, 30, 31, 32, 33, 34, 35, 36, 37, 38] (by decide +kernel) (by decide +kernel)
set_option maxRecDepth 20000 in
theorem gX0_ticksGoingForward_X0_pull : GoodIn wsX0_ticksGoingForward (wsV RX0 92 RX0 yX0_pull wsX0_pull) := goodIn_app (goodIn_of _ (by decide +kernel)) ggX0_ticksGoingForward_X0_pull
theorem dX0_ticksGoingForward_0 : decode cX0_ticksGoingForward 0 = .ok (.aload_n 0, 1) := by decide +kernel
theorem dX0_ticksGoingForward_1 : decode cX0_ticksGoingForward 1 = .ok (.iload_n 1, 1) := by decide +kernel
theorem dX0_ticksGoingForward_2 : decode cX0_ticksGoingForward 2 = .ok (.invokevirtual 60, 3) := by decide +kernel
theorem dX0_ticksGoingForward_5 : decode cX0_ticksGoingForward 5 = .ok (.ifCond .ne 5, 3) := by decide +kernel
theorem dX0_ticksGoingForward_8 : decode cX0_ticksGoingForward 8 = .ok (.iconst 0, 1) := by decide +kernel
theorem dX0_ticksGoingForward_9 : decode cX0_ticksGoingForward 9 = .ok (.ireturn, 1) := by decide +kernel
theorem dX0_ticksGoingForward_10 : decode cX0_ticksGoingForward 10 = .ok (.aload_n 0, 1) := by decide +kernel
theorem dX0_ticksGoingForward_11 : decode cX0_ticksGoingForward 11 = .ok (.getfield 15, 3) := by decide +kernel
theorem dX0_ticksGoingForward_14 : decode cX0_ticksGoingForward 14 = .ok (.iload_n 1, 1) := by decide +kernel
theorem dX0_ticksGoingForward_15 : decode cX0_ticksGoingForward 15 = .ok (.iaload, 1) := by decide +kernel
theorem dX0_ticksGoingForward_16 : decode cX0_ticksGoingForward 16 = .ok (.aload_n 0, 1) := by decide +kernel
theorem dX0_ticksGoingForward_17 : decode cX0_ticksGoingForward 17 = .ok (.getfield 9, 3) := by decide +kernel
theorem dX0_ticksGoingForward_20 : decode cX0_ticksGoingForward 20 = .ok (.iload_n 1, 1) := by decide +kernel
theorem dX0_ticksGoingForward_21 : decode cX0_ticksGoingForward 21 = .ok (.iaload, 1) := by decide +kernel
theorem dX0_ticksGoingForward_22 : decode cX0_ticksGoingForward 22 = .ok (.iadd, 1) := by decide +kernel
theorem dX0_ticksGoingForward_23 : decode cX0_ticksGoingForward 23 = .ok (.aload_n 0, 1) := by decide +kernel
theorem dX0_ticksGoingForward_24 : decode cX0_ticksGoingForward 24 = .ok (.aload_n 0, 1) := by decide +kernel
theorem dX0_ticksGoingForward_25 : decode cX0_ticksGoingForward 25 = .ok (.getfield 15, 3) := by decide +kernel
theorem dX0_ticksGoingForward_28 : decode cX0_ticksGoingForward 28 = .ok (.iload_n 1, 1) := by decide +kernel
theorem dX0_ticksGoingForward_29 : decode cX0_ticksGoingForward 29 = .ok (.iaload, 1) := by decide +kernel
theorem dX0_ticksGoingForward_30 : decode cX0_ticksGoingForward 30 = .ok (.invokevirtual 92, 3) := by decide +kernel
theorem dX0_ticksGoingForward_33 : decode cX0_ticksGoingForward 33 = .ok (.iadd, 1) := by decide +kernel
theorem dX0_ticksGoingForward_34 : decode cX0_ticksGoingForward 34 = .ok (.istore_n 2, 1) := by decide +kernel
theorem dX0_ticksGoingForward_35 : decode cX0_ticksGoingForward 35 = .ok (.iload_n 2, 1) := by decide +kernel
theorem dX0_ticksGoingForward_36 : decode cX0_ticksGoingForward 36 = .ok (.ifCond .ge 16, 3) := by decide +kernel
theorem dX0_ticksGoingForward_39 : decode cX0_ticksGoingForward 39 = .ok (.aload_n 0, 1) := by decide +kernel
theorem dX0_ticksGoingForward_40 : decode cX0_ticksGoingForward 40 = .ok (.getfield 15, 3) := by decide +kernel
theorem dX0_ticksGoingForward_43 : decode cX0_ticksGoingForward 43 = .ok (.iload_n 1, 1) := by decide +kernel
theorem dX0_ticksGoingForward_44 : decode cX0_ticksGoingForward 44 = .ok (.iload_n 2, 1) := by decide +kernel
theorem dX0_ticksGoingForward_45 : decode cX0_ticksGoingForward 45 = .ok (.sipush 3600, 3) := by decide +kernel
theorem dX0_ticksGoingForward_48 : decode cX0_ticksGoingForward 48 = .ok (.iadd, 1) := by decide +kernel
theorem dX0_ticksGoingForward_49 : decode cX0_ticksGoingForward 49 = .ok (.iastore, 1) := by decide +kernel
theorem dX0_ticksGoingForward_50 : decode cX0_ticksGoingForward 50 = .ok (.iconst 0, 1) := by decide +kernel
theorem dX0_ticksGoingForward_51 : decode cX0_ticksGoingForward 51 = .ok (.ireturn, 1) := by decide +kernel
theorem dX0_ticksGoingForward_52 : decode cX0_ticksGoingForward 52 = .ok (.iload_n 2, 1) := by decide +kernel
theorem dX0_ticksGoingForward_53 : decode cX0_ticksGoingForward 53 = .ok (.sipush 3600, 3) := by decide +kernel
theorem dX0_ticksGoingForward_56 : decode cX0_ticksGoingForward 56 = .ok (.if_icmp .ge 12, 3) := by decide +kernel
theorem dX0_ticksGoingForward_59 : decode cX0_ticksGoingForward 59 = .ok (.aload_n 0, 1) := by decide +kernel
theorem dX0_ticksGoingForward_60 : decode cX0_ticksGoingForward 60 = .ok (.getfield 15, 3) := by decide +kernel
theorem dX0_ticksGoingForward_63 : decode cX0_ticksGoingForward 63 = .ok (.iload_n 1, 1) := by decide +kernel
theorem dX0_ticksGoingForward_64 : decode cX0_ticksGoingForward 64 = .ok (.iload_n 2, 1) := by decide +kernel
theorem dX0_ticksGoingForward_65 : decode cX0_ticksGoingForward 65 = .ok (.iastore, 1) := by decide +kernel
theorem dX0_ticksGoingForward_66 : decode cX0_ticksGoingForward 66 = .ok (.iconst 0, 1) := by decide +kernel
theorem dX0_ticksGoingForward_67 : decode cX0_ticksGoingForward 67 = .ok (.ireturn, 1) := by decide +kernel
theorem dX0_ticksGoingForward_68 : decode cX0_ticksGoingForward 68 = .ok (.aload_n 0, 1) := by decide +kernel
theorem dX0_ticksGoingForward_69 : decode cX0_ticksGoingForward 69 = .ok (.getfield 15, 3) := by decide +kernel
theorem dX0_ticksGoingForward_72 : decode cX0_ticksGoingForward 72 = .ok (.iload_n 1, 1) := by decide +kernel
theorem dX0_ticksGoingForward_73 : decode cX0_ticksGoingForward 73 = .ok (.iload_n 2, 1) := by decide +kernel
theorem dX0_ticksGoingForward_74 : decode cX0_ticksGoingForward 74 = .ok (.sipush 3600, 3) := by decide +kernel
theorem dX0_ticksGoingForward_77 : decode cX0_ticksGoingForward 77 = .ok (.isub, 1) := by decide +kernel
theorem dX0_ticksGoingForward_78 : decode cX0_ticksGoingForward 78 = .ok (.iastore, 1) := by decide +kernel
theorem dX0_ticksGoingForward_79 : decode cX0_ticksGoingForward 79 = .ok (.aload_n 0, 1) := by decide +kernel
theorem dX0_ticksGoingForward_80 : decode cX0_ticksGoingForward 80 = .ok (.getfield 18, 3) := by decide +kernel
theorem dX0_ticksGoingForward_83 : decode cX0_ticksGoingForward 83 = .ok (.iload_n 1, 1) := by decide +kernel
theorem dX0_ticksGoingForward_84 : decode cX0_ticksGoingForward 84 = .ok (.dup2, 1) := by decide +kernel
theorem dX0_ticksGoingForward_85 : decode cX0_ticksGoingForward 85 = .ok (.iaload, 1) := by decide +kernel
theorem dX0_ticksGoingForward_86 : decode cX0_ticksGoingForward 86 = .ok (.iconst 1, 1) := by decide +kernel
theorem dX0_ticksGoingForward_87 : decode cX0_ticksGoingForward 87 = .ok (.isub, 1) := by decide +kernel
theorem dX0_ticksGoingForward_88 : decode cX0_ticksGoingForward 88 = .ok (.iastore, 1) := by decide +kernel
theorem dX0_ticksGoingForward_89 : decode cX0_ticksGoingForward 89 = .ok (.aload_n 0, 1) := by decide +kernel
theorem dX0_ticksGoingForward_90 : decode cX0_ticksGoingForward 90 = .ok (.getfield 25, 3) := by decide +kernel
theorem dX0_ticksGoingForward_93 : decode cX0_ticksGoingForward 93 = .ok (.iload_n 1, 1) := by decide +kernel
theorem dX0_ticksGoingForward_94 : decode cX0_ticksGoingForward 94 = .ok (.dup2, 1) := by decide +kernel
theorem dX0_ticksGoingForward_95 : decode cX0_ticksGoingForward 95 = .ok (.iaload, 1) := by decide +kernel
theorem dX0_ticksGoingForward_96 : decode cX0_ticksGoingForward 96 = .ok (.iconst 1, 1) := by decide +kernel
theorem dX0_ticksGoingForward_97 : decode cX0_ticksGoingForward 97 = .ok (.iadd, 1) := by decide +kernel
theorem dX0_ticksGoingForward_98 : decode cX0_ticksGoingForward 98 = .ok (.iastore, 1) := by decide +kernel
theorem dX0_ticksGoingForward_99 : decode cX0_ticksGoingForward 99 = .ok (.iconst 1, 1) := by decide +kernel
theorem dX0_ticksGoingForward_100 : decode cX0_ticksGoingForward 100 = .ok (.ireturn, 1) := by decide +kernel
set_option maxRecDepth 20000 in
theorem ggX0_pull_X0_quarterOn : GoodIn wsX0_pull wsX0_quarterOn := goodIn_r _ [8] (by decide +kernel) (by decide +kernel)
set_option maxRecDepth 20000 in
theorem gX0_pull_X0_quarterOn : GoodIn wsX0_pull (va_wsS RX0 95 yX0_quarterOn wsX0_quarterOn) := goodIn_app (goodIn_of _ (by decide +kernel)) ggX0_pull_X0_quarterOn
set_option maxRecDepth 20000 in
theorem ggX0_pull_X0_swing : GoodIn wsX0_pull wsX0_swing := goodIn_r _ [11] (by decide +kernel) (by decide +kernel)
set_option maxRecDepth 20000 in
theorem gX0_pull_X0_swing : GoodIn wsX0_pull (va_wsS RX0 98 yX0_swing wsX0_swing) := goodIn_app (goodIn_of _ (by decide +kernel)) ggX0_pull_X0_swing
theorem dX0_pull_0 : decode cX0_pull 0 = .ok (.aload_n 0, 1) := by decide +kernel
theorem dX0_pull_1 : decode cX0_pull 1 = .ok (.getfield 32, 3) := by decide +kernel
theorem dX0_pull_4 : decode cX0_pull 4 = .ok (.aload_n 0, 1) := by decide +kernel
theorem dX0_pull_5 : decode cX0_pull 5 = .ok (.getfield 41, 3) := by decide +kernel
theorem dX0_pull_8 : decode cX0_pull 8 = .ok (.iload_n 1, 1) := by decide +kernel
theorem dX0_pull_9 : decode cX0_pull 9 = .ok (.invokestatic 95, 3) := by decide +kernel
theorem dX0_pull_12 : decode cX0_pull 12 = .ok (.invokestatic 98, 3) := by decide +kernel
theorem dX0_pull_15 : decode cX0_pull 15 = .ok (.imul, 1) := by decide +kernel
theorem dX0_pull_16 : decode cX0_pull 16 = .ok (.aload_n 0, 1) := by decide +kernel
theorem dX0_pull_17 : decode cX0_pull 17 = .ok (.getfield 44, 3) := by decide +kernel
theorem dX0_pull_20 : decode cX0_pull 20 = .ok (.iload_n 1, 1) := by decide +kernel
theorem dX0_pull_21 : decode cX0_pull 21 = .ok (.invokestatic 98, 3) := by decide +kernel
theorem dX0_pull_24 : decode cX0_pull 24 = .ok (.imul, 1) := by decide +kernel
theorem dX0_pull_25 : decode cX0_pull 25 = .ok (.isub, 1) := by decide +kernel
theorem dX0_pull_26 : decode cX0_pull 26 = .ok (.imul, 1) := by decide +kernel
theorem dX0_pull_27 : decode cX0_pull 27 = .ok (.ldc 101, 2) := by decide +kernel
theorem dX0_pull_29 : decode cX0_pull 29 = .ok (.idiv, 1) := by decide +kernel
theorem dX0_pull_30 : decode cX0_pull 30 = .ok (.ireturn, 1) := by decide +kernel
theorem dX0_swing_0 : decode cX0_swing 0 = .ok (.iload_n 0, 1) := by decide +kernel
theorem dX0_swing_1 : decode cX0_swing 1 = .ok (.sipush 1800, 3) := by decide +kernel
theorem dX0_swing_4 : decode cX0_swing 4 = .ok (.if_icmp .ge 15, 3) := by decide +kernel
theorem dX0_swing_7 : decode cX0_swing 7 = .ok (.iload_n 0, 1) := by decide +kernel
theorem dX0_swing_8 : decode cX0_swing 8 = .ok (.sipush 1800, 3) := by decide +kernel
theorem dX0_swing_11 : decode cX0_swing 11 = .ok (.iload_n 0, 1) := by decide +kernel
theorem dX0_swing_12 : decode cX0_swing 12 = .ok (.isub, 1) := by decide +kernel
theorem dX0_swing_13 : decode cX0_swing 13 = .ok (.imul, 1) := by decide +kernel
theorem dX0_swing_14 : decode cX0_swing 14 = .ok (.sipush 810, 3) := by decide +kernel
theorem dX0_swing_17 : decode cX0_swing 17 = .ok (.idiv, 1) := by decide +kernel
theorem dX0_swing_18 : decode cX0_swing 18 = .ok (.ireturn, 1) := by decide +kernel
theorem dX0_swing_19 : decode cX0_swing 19 = .ok (.iload_n 0, 1) := by decide +kernel
theorem dX0_swing_20 : decode cX0_swing 20 = .ok (.sipush 1800, 3) := by decide +kernel
theorem dX0_swing_23 : decode cX0_swing 23 = .ok (.isub, 1) := by decide +kernel
theorem dX0_swing_24 : decode cX0_swing 24 = .ok (.istore_n 1, 1) := by decide +kernel
theorem dX0_swing_25 : decode cX0_swing 25 = .ok (.iload_n 1, 1) := by decide +kernel
theorem dX0_swing_26 : decode cX0_swing 26 = .ok (.sipush 1800, 3) := by decide +kernel
theorem dX0_swing_29 : decode cX0_swing 29 = .ok (.iload_n 1, 1) := by decide +kernel
theorem dX0_swing_30 : decode cX0_swing 30 = .ok (.isub, 1) := by decide +kernel
theorem dX0_swing_31 : decode cX0_swing 31 = .ok (.imul, 1) := by decide +kernel
theorem dX0_swing_32 : decode cX0_swing 32 = .ok (.sipush 810, 3) := by decide +kernel
theorem dX0_swing_35 : decode cX0_swing 35 = .ok (.idiv, 1) := by decide +kernel
theorem dX0_swing_36 : decode cX0_swing 36 = .ok (.ineg, 1) := by decide +kernel
theorem dX0_swing_37 : decode cX0_swing 37 = .ok (.ireturn, 1) := by decide +kernel
theorem dX0_quarterOn_0 : decode cX0_quarterOn 0 = .ok (.iload_n 0, 1) := by decide +kernel
theorem dX0_quarterOn_1 : decode cX0_quarterOn 1 = .ok (.sipush 900, 3) := by decide +kernel
theorem dX0_quarterOn_4 : decode cX0_quarterOn 4 = .ok (.iadd, 1) := by decide +kernel
theorem dX0_quarterOn_5 : decode cX0_quarterOn 5 = .ok (.sipush 3600, 3) := by decide +kernel
theorem dX0_quarterOn_8 : decode cX0_quarterOn 8 = .ok (.irem, 1) := by decide +kernel
theorem dX0_quarterOn_9 : decode cX0_quarterOn 9 = .ok (.ireturn, 1) := by decide +kernel
set_option maxRecDepth 20000 in
theorem ggX0_sumOfSwings_X0_goes : GoodIn wsX0_sumOfSwings wsX0_goes := goodIn_r _ [6, 7, 8, 9, 13, 14, 15, 16, 17, 18, 19, 20, 21, 22, 23, 24, 25, 26] (by decide +kernel) (by decide +kernel)
set_option maxRecDepth 20000 in
theorem gX0_sumOfSwings_X0_goes : GoodIn wsX0_sumOfSwings (wsV RX0 56 RX0 yX0_goes wsX0_goes) := goodIn_app (goodIn_of _ (by decide +kernel)) ggX0_sumOfSwings_X0_goes
set_option maxRecDepth 20000 in
theorem ggX0_sumOfSwings_X0_swing : GoodIn wsX0_sumOfSwings wsX0_swing := goodIn_r _ [12] (by decide +kernel) (by decide +kernel)
set_option maxRecDepth 20000 in
theorem gX0_sumOfSwings_X0_swing : GoodIn wsX0_sumOfSwings (va_wsS RX0 98 yX0_swing wsX0_swing) := goodIn_app (goodIn_of _ (by decide +kernel)) ggX0_sumOfSwings_X0_swing
theorem dX0_sumOfSwings_0 : decode cX0_sumOfSwings 0 = .ok (.iconst 0, 1) := by decide +kernel
theorem dX0_sumOfSwings_1 : decode cX0_sumOfSwings 1 = .ok (.istore_n 1, 1) := by decide +kernel
theorem dX0_sumOfSwings_2 : decode cX0_sumOfSwings 2 = .ok (.iconst 0, 1) := by decide +kernel
theorem dX0_sumOfSwings_3 : decode cX0_sumOfSwings 3 = .ok (.istore_n 2, 1) := by decide +kernel
theorem dX0_sumOfSwings_4 : decode cX0_sumOfSwings 4 = .ok (.iload_n 2, 1) := by decide +kernel
theorem dX0_sumOfSwings_5 : decode cX0_sumOfSwings 5 = .ok (.bipush 6, 2) := by decide +kernel
theorem dX0_sumOfSwings_7 : decode cX0_sumOfSwings 7 = .ok (.if_icmp .ge 29, 3) := by decide +kernel
theorem dX0_sumOfSwings_10 : decode cX0_sumOfSwings 10 = .ok (.aload_n 0, 1) := by decide +kernel
theorem dX0_sumOfSwings_11 : decode cX0_sumOfSwings 11 = .ok (.iload_n 2, 1) := by decide +kernel
theorem dX0_sumOfSwings_12 : decode cX0_sumOfSwings 12 = .ok (.invokevirtual 56, 3) := by decide +kernel
theorem dX0_sumOfSwings_15 : decode cX0_sumOfSwings 15 = .ok (.ifCond .eq 15, 3) := by decide +kernel
theorem dX0_sumOfSwings_18 : decode cX0_sumOfSwings 18 = .ok (.iload_n 1, 1) := by decide +kernel
theorem dX0_sumOfSwings_19 : decode cX0_sumOfSwings 19 = .ok (.aload_n 0, 1) := by decide +kernel
theorem dX0_sumOfSwings_20 : decode cX0_sumOfSwings 20 = .ok (.getfield 15, 3) := by decide +kernel
theorem dX0_sumOfSwings_23 : decode cX0_sumOfSwings 23 = .ok (.iload_n 2, 1) := by decide +kernel
theorem dX0_sumOfSwings_24 : decode cX0_sumOfSwings 24 = .ok (.iaload, 1) := by decide +kernel
theorem dX0_sumOfSwings_25 : decode cX0_sumOfSwings 25 = .ok (.invokestatic 98, 3) := by decide +kernel
theorem dX0_sumOfSwings_28 : decode cX0_sumOfSwings 28 = .ok (.iadd, 1) := by decide +kernel
theorem dX0_sumOfSwings_29 : decode cX0_sumOfSwings 29 = .ok (.istore_n 1, 1) := by decide +kernel
theorem dX0_sumOfSwings_30 : decode cX0_sumOfSwings 30 = .ok (.iinc 2 1, 3) := by decide +kernel
theorem dX0_sumOfSwings_33 : decode cX0_sumOfSwings 33 = .ok (.goto (-29), 3) := by decide +kernel
theorem dX0_sumOfSwings_36 : decode cX0_sumOfSwings 36 = .ok (.iload_n 1, 1) := by decide +kernel
theorem dX0_sumOfSwings_37 : decode cX0_sumOfSwings 37 = .ok (.ireturn, 1) := by decide +kernel
set_option maxRecDepth 20000 in
theorem ggX0_sumOfTurns_X0_goes : GoodIn wsX0_sumOfTurns wsX0_goes := goodIn_r _ [6, 7, 8, 9, 16, 17, 18, 19, 20, 21, 22, 23, 24, 25, 26, 27, 28, 29] (by decide +kernel) (by decide +kernel)
set_option maxRecDepth 20000 in
theorem gX0_sumOfTurns_X0_goes : GoodIn wsX0_sumOfTurns (wsV RX0 56 RX0 yX0_goes wsX0_goes) := goodIn_app (goodIn_of _ (by decide +kernel)) ggX0_sumOfTurns_X0_goes
set_option maxRecDepth 20000 in
theorem ggX0_sumOfTurns_X0_quarterOn : GoodIn wsX0_sumOfTurns wsX0_quarterOn := goodIn_r _ [12] (by decide +kernel) (by decide +kernel)
set_option maxRecDepth 20000 in
theorem gX0_sumOfTurns_X0_quarterOn : GoodIn wsX0_sumOfTurns (va_wsS RX0 95 yX0_quarterOn wsX0_quarterOn) := goodIn_app (goodIn_of _ (by decide +kernel)) ggX0_sumOfTurns_X0_quarterOn
set_option maxRecDepth 20000 in
theorem ggX0_sumOfTurns_X0_swing : GoodIn wsX0_sumOfTurns wsX0_swing := goodIn_r _ [15] (by decide +kernel) (by decide +kernel)
set_option maxRecDepth 20000 in
theorem gX0_sumOfTurns_X0_swing : GoodIn wsX0_sumOfTurns (va_wsS RX0 98 yX0_swing wsX0_swing) := goodIn_app (goodIn_of _ (by decide +kernel)) ggX0_sumOfTurns_X0_swing
theorem dX0_sumOfTurns_0 : decode cX0_sumOfTurns 0 = .ok (.iconst 0, 1) := by decide +kernel
theorem dX0_sumOfTurns_1 : decode cX0_sumOfTurns 1 = .ok (.istore_n 1, 1) := by decide +kernel
theorem dX0_sumOfTurns_2 : decode cX0_sumOfTurns 2 = .ok (.iconst 0, 1) := by decide +kernel
theorem dX0_sumOfTurns_3 : decode cX0_sumOfTurns 3 = .ok (.istore_n 2, 1) := by decide +kernel
theorem dX0_sumOfTurns_4 : decode cX0_sumOfTurns 4 = .ok (.iload_n 2, 1) := by decide +kernel
theorem dX0_sumOfTurns_5 : decode cX0_sumOfTurns 5 = .ok (.bipush 6, 2) := by decide +kernel
theorem dX0_sumOfTurns_7 : decode cX0_sumOfTurns 7 = .ok (.if_icmp .ge 32, 3) := by decide +kernel
theorem dX0_sumOfTurns_10 : decode cX0_sumOfTurns 10 = .ok (.aload_n 0, 1) := by decide +kernel
theorem dX0_sumOfTurns_11 : decode cX0_sumOfTurns 11 = .ok (.iload_n 2, 1) := by decide +kernel
theorem dX0_sumOfTurns_12 : decode cX0_sumOfTurns 12 = .ok (.invokevirtual 56, 3) := by decide +kernel
theorem dX0_sumOfTurns_15 : decode cX0_sumOfTurns 15 = .ok (.ifCond .eq 18, 3) := by decide +kernel
theorem dX0_sumOfTurns_18 : decode cX0_sumOfTurns 18 = .ok (.iload_n 1, 1) := by decide +kernel
theorem dX0_sumOfTurns_19 : decode cX0_sumOfTurns 19 = .ok (.aload_n 0, 1) := by decide +kernel
theorem dX0_sumOfTurns_20 : decode cX0_sumOfTurns 20 = .ok (.getfield 15, 3) := by decide +kernel
theorem dX0_sumOfTurns_23 : decode cX0_sumOfTurns 23 = .ok (.iload_n 2, 1) := by decide +kernel
theorem dX0_sumOfTurns_24 : decode cX0_sumOfTurns 24 = .ok (.iaload, 1) := by decide +kernel
theorem dX0_sumOfTurns_25 : decode cX0_sumOfTurns 25 = .ok (.invokestatic 95, 3) := by decide +kernel
theorem dX0_sumOfTurns_28 : decode cX0_sumOfTurns 28 = .ok (.invokestatic 98, 3) := by decide +kernel
theorem dX0_sumOfTurns_31 : decode cX0_sumOfTurns 31 = .ok (.iadd, 1) := by decide +kernel
theorem dX0_sumOfTurns_32 : decode cX0_sumOfTurns 32 = .ok (.istore_n 1, 1) := by decide +kernel
theorem dX0_sumOfTurns_33 : decode cX0_sumOfTurns 33 = .ok (.iinc 2 1, 3) := by decide +kernel
theorem dX0_sumOfTurns_36 : decode cX0_sumOfTurns 36 = .ok (.goto (-32), 3) := by decide +kernel
theorem dX0_sumOfTurns_39 : decode cX0_sumOfTurns 39 = .ok (.iload_n 1, 1) := by decide +kernel
theorem dX0_sumOfTurns_40 : decode cX0_sumOfTurns 40 = .ok (.ireturn, 1) := by decide +kernel
set_option maxRecDepth 20000 in
theorem ggX0_order_X0_sumOfSwings : GoodIn wsX0_order wsX0_sumOfSwings := goodIn_r _ [5, 6, 7, 8, 9, 4, 10, 11, 12, 13, 14, 15, 16, 32, 33, 34, 35, 36, 37, 38, 39, 40, 41, 42, 43, 44, 45] (by decide +kernel) (by decide +kernel)
set_option maxRecDepth 20000 in
theorem gX0_order_X0_sumOfSwings : GoodIn wsX0_order (wsV RX0 86 RX0 yX0_sumOfSwings wsX0_sumOfSwings) := goodIn_app (goodIn_of _ (by decide +kernel)) ggX0_order_X0_sumOfSwings
set_option maxRecDepth 20000 in
theorem ggX0_order_X0_sumOfTurns : GoodIn wsX0_order wsX0_sumOfTurns := goodIn_r _ [20, 6, 7, 8, 9, 4, 10, 11, 12, 13, 21, 22, 23, 14, 15, 16, 32, 33, 34, 35, 36, 37, 38, 39, 40, 41, 42, 43, 44, 45] (by decide +kernel) (by decide +kernel)
set_option maxRecDepth 20000 in
theorem gX0_order_X0_sumOfTurns : GoodIn wsX0_order (wsV RX0 89 RX0 yX0_sumOfTurns wsX0_sumOfTurns) := goodIn_app (goodIn_of _ (by decide +kernel)) ggX0_order_X0_sumOfTurns
set_option maxRecDepth 20000 in
theorem ggX0_order_X0_dividedForOrder : GoodIn wsX0_order wsX0_dividedForOrder := goodIn_r _ [27, 28, 29, 30, 4, 31, 7, 8, 9, 10, 11, 12, 13, 32, 33, 34, 35, 36, 37, 38, 39, 40, 41, 42, 43, 44, 45] (by decide +kernel) (by decide +kernel)
set_option maxRecDepth 20000 in
theorem gX0_order_X0_dividedForOrder : GoodIn wsX0_order (wsV RX0 102 RX0 yX0_dividedForOrder wsX0_dividedForOrder) := goodIn_app (goodIn_of _ (by decide +kernel)) ggX0_order_X0_dividedForOrder
theorem dX0_order_0 : decode cX0_order 0 = .ok (.aload_n 0, 1) := by decide +kernel
theorem dX0_order_1 : decode cX0_order 1 = .ok (.invokevirtual 86, 3) := by decide +kernel
theorem dX0_order_4 : decode cX0_order 4 = .ok (.istore_n 1, 1) := by decide +kernel
theorem dX0_order_5 : decode cX0_order 5 = .ok (.aload_n 0, 1) := by decide +kernel
theorem dX0_order_6 : decode cX0_order 6 = .ok (.invokevirtual 89, 3) := by decide +kernel
theorem dX0_order_9 : decode cX0_order 9 = .ok (.istore_n 2, 1) := by decide +kernel
theorem dX0_order_10 : decode cX0_order 10 = .ok (.aload_n 0, 1) := by decide +kernel
theorem dX0_order_11 : decode cX0_order 11 = .ok (.iload_n 1, 1) := by decide +kernel
theorem dX0_order_12 : decode cX0_order 12 = .ok (.iload_n 1, 1) := by decide +kernel
theorem dX0_order_13 : decode cX0_order 13 = .ok (.imul, 1) := by decide +kernel
theorem dX0_order_14 : decode cX0_order 14 = .ok (.iload_n 2, 1) := by decide +kernel
theorem dX0_order_15 : decode cX0_order 15 = .ok (.iload_n 2, 1) := by decide +kernel
theorem dX0_order_16 : decode cX0_order 16 = .ok (.imul, 1) := by decide +kernel
theorem dX0_order_17 : decode cX0_order 17 = .ok (.iadd, 1) := by decide +kernel
theorem dX0_order_18 : decode cX0_order 18 = .ok (.invokevirtual 102, 3) := by decide +kernel
theorem dX0_order_21 : decode cX0_order 21 = .ok (.ireturn, 1) := by decide +kernel
set_option maxRecDepth 20000 in
theorem ggX0_orderByPairs_X0_goes : GoodIn wsX0_orderByPairs wsX0_goes := goodIn_r _ [6, 7, 8, 9, 24, 25, 26, 27, 28, 29, 30, 31, 32, 33, 34, 35, 36, 37] (by decide +kernel) (by decide +kernel)
set_option maxRecDepth 20000 in
theorem gX0_orderByPairs_X0_goes : GoodIn wsX0_orderByPairs (wsV RX0 56 RX0 yX0_goes wsX0_goes) := goodIn_app (goodIn_of _ (by decide +kernel)) ggX0_orderByPairs_X0_goes
set_option maxRecDepth 20000 in
theorem ggX0_orderByPairs_X0_swing : GoodIn wsX0_orderByPairs wsX0_swing := goodIn_r _ [12] (by decide +kernel) (by decide +kernel)
set_option maxRecDepth 20000 in
theorem gX0_orderByPairs_X0_swing : GoodIn wsX0_orderByPairs (va_wsS RX0 98 yX0_swing wsX0_swing) := goodIn_app (goodIn_of _ (by decide +kernel)) ggX0_orderByPairs_X0_swing
set_option maxRecDepth 20000 in
theorem ggX0_orderByPairs_X0_quarterOn : GoodIn wsX0_orderByPairs wsX0_quarterOn := goodIn_r _ [15] (by decide +kernel) (by decide +kernel)
set_option maxRecDepth 20000 in
theorem gX0_orderByPairs_X0_quarterOn : GoodIn wsX0_orderByPairs (va_wsS RX0 95 yX0_quarterOn wsX0_quarterOn) := goodIn_app (goodIn_of _ (by decide +kernel)) ggX0_orderByPairs_X0_quarterOn
set_option maxRecDepth 20000 in
theorem ggX0_orderByPairs_X0_dividedForOrder : GoodIn wsX0_orderByPairs wsX0_dividedForOrder := goodIn_r _ [19, 20, 21, 22, 5, 23, 2, 3, 4, 6, 7, 8, 9, 24, 25, 26, 27, 28, 29, 30, 31, 32, 33, 34, 35, 36, 37] (by decide +kernel) (by decide +kernel)
set_option maxRecDepth 20000 in
theorem gX0_orderByPairs_X0_dividedForOrder : GoodIn wsX0_orderByPairs (wsV RX0 102 RX0 yX0_dividedForOrder wsX0_dividedForOrder) := goodIn_app (goodIn_of _ (by decide +kernel)) ggX0_orderByPairs_X0_dividedForOrder
theorem dX0_orderByPairs_0 : decode cX0_orderByPairs 0 = .ok (.iconst 0, 1) := by decide +kernel
theorem dX0_orderByPairs_1 : decode cX0_orderByPairs 1 = .ok (.istore_n 1, 1) := by decide +kernel
theorem dX0_orderByPairs_2 : decode cX0_orderByPairs 2 = .ok (.iconst 0, 1) := by decide +kernel
theorem dX0_orderByPairs_3 : decode cX0_orderByPairs 3 = .ok (.istore_n 2, 1) := by decide +kernel
theorem dX0_orderByPairs_4 : decode cX0_orderByPairs 4 = .ok (.iload_n 2, 1) := by decide +kernel
theorem dX0_orderByPairs_5 : decode cX0_orderByPairs 5 = .ok (.bipush 6, 2) := by decide +kernel
theorem dX0_orderByPairs_7 : decode cX0_orderByPairs 7 = .ok (.if_icmp .ge 87, 3) := by decide +kernel
theorem dX0_orderByPairs_10 : decode cX0_orderByPairs 10 = .ok (.iconst 0, 1) := by decide +kernel
theorem dX0_orderByPairs_11 : decode cX0_orderByPairs 11 = .ok (.istore_n 3, 1) := by decide +kernel
theorem dX0_orderByPairs_12 : decode cX0_orderByPairs 12 = .ok (.iload_n 3, 1) := by decide +kernel
theorem dX0_orderByPairs_13 : decode cX0_orderByPairs 13 = .ok (.bipush 6, 2) := by decide +kernel
theorem dX0_orderByPairs_15 : decode cX0_orderByPairs 15 = .ok (.if_icmp .ge 73, 3) := by decide +kernel
theorem dX0_orderByPairs_18 : decode cX0_orderByPairs 18 = .ok (.aload_n 0, 1) := by decide +kernel
theorem dX0_orderByPairs_19 : decode cX0_orderByPairs 19 = .ok (.iload_n 2, 1) := by decide +kernel
theorem dX0_orderByPairs_20 : decode cX0_orderByPairs 20 = .ok (.invokevirtual 56, 3) := by decide +kernel
theorem dX0_orderByPairs_23 : decode cX0_orderByPairs 23 = .ok (.ifCond .eq 59, 3) := by decide +kernel
theorem dX0_orderByPairs_26 : decode cX0_orderByPairs 26 = .ok (.aload_n 0, 1) := by decide +kernel
theorem dX0_orderByPairs_27 : decode cX0_orderByPairs 27 = .ok (.iload_n 3, 1) := by decide +kernel
theorem dX0_orderByPairs_28 : decode cX0_orderByPairs 28 = .ok (.invokevirtual 56, 3) := by decide +kernel
theorem dX0_orderByPairs_31 : decode cX0_orderByPairs 31 = .ok (.ifCond .eq 51, 3) := by decide +kernel
theorem dX0_orderByPairs_34 : decode cX0_orderByPairs 34 = .ok (.iload_n 1, 1) := by decide +kernel
theorem dX0_orderByPairs_35 : decode cX0_orderByPairs 35 = .ok (.aload_n 0, 1) := by decide +kernel
theorem dX0_orderByPairs_36 : decode cX0_orderByPairs 36 = .ok (.getfield 15, 3) := by decide +kernel
theorem dX0_orderByPairs_39 : decode cX0_orderByPairs 39 = .ok (.iload_n 2, 1) := by decide +kernel
theorem dX0_orderByPairs_40 : decode cX0_orderByPairs 40 = .ok (.iaload, 1) := by decide +kernel
theorem dX0_orderByPairs_41 : decode cX0_orderByPairs 41 = .ok (.invokestatic 98, 3) := by decide +kernel
theorem dX0_orderByPairs_44 : decode cX0_orderByPairs 44 = .ok (.aload_n 0, 1) := by decide +kernel
theorem dX0_orderByPairs_45 : decode cX0_orderByPairs 45 = .ok (.getfield 15, 3) := by decide +kernel
theorem dX0_orderByPairs_48 : decode cX0_orderByPairs 48 = .ok (.iload_n 3, 1) := by decide +kernel
theorem dX0_orderByPairs_49 : decode cX0_orderByPairs 49 = .ok (.iaload, 1) := by decide +kernel
theorem dX0_orderByPairs_50 : decode cX0_orderByPairs 50 = .ok (.invokestatic 98, 3) := by decide +kernel
theorem dX0_orderByPairs_53 : decode cX0_orderByPairs 53 = .ok (.imul, 1) := by decide +kernel
theorem dX0_orderByPairs_54 : decode cX0_orderByPairs 54 = .ok (.aload_n 0, 1) := by decide +kernel
theorem dX0_orderByPairs_55 : decode cX0_orderByPairs 55 = .ok (.getfield 15, 3) := by decide +kernel
theorem dX0_orderByPairs_58 : decode cX0_orderByPairs 58 = .ok (.iload_n 2, 1) := by decide +kernel
theorem dX0_orderByPairs_59 : decode cX0_orderByPairs 59 = .ok (.iaload, 1) := by decide +kernel
theorem dX0_orderByPairs_60 : decode cX0_orderByPairs 60 = .ok (.invokestatic 95, 3) := by decide +kernel
theorem dX0_orderByPairs_63 : decode cX0_orderByPairs 63 = .ok (.invokestatic 98, 3) := by decide +kernel
theorem dX0_orderByPairs_66 : decode cX0_orderByPairs 66 = .ok (.aload_n 0, 1) := by decide +kernel
theorem dX0_orderByPairs_67 : decode cX0_orderByPairs 67 = .ok (.getfield 15, 3) := by decide +kernel
theorem dX0_orderByPairs_70 : decode cX0_orderByPairs 70 = .ok (.iload_n 3, 1) := by decide +kernel
theorem dX0_orderByPairs_71 : decode cX0_orderByPairs 71 = .ok (.iaload, 1) := by decide +kernel
theorem dX0_orderByPairs_72 : decode cX0_orderByPairs 72 = .ok (.invokestatic 95, 3) := by decide +kernel
theorem dX0_orderByPairs_75 : decode cX0_orderByPairs 75 = .ok (.invokestatic 98, 3) := by decide +kernel
theorem dX0_orderByPairs_78 : decode cX0_orderByPairs 78 = .ok (.imul, 1) := by decide +kernel
theorem dX0_orderByPairs_79 : decode cX0_orderByPairs 79 = .ok (.iadd, 1) := by decide +kernel
theorem dX0_orderByPairs_80 : decode cX0_orderByPairs 80 = .ok (.iadd, 1) := by decide +kernel
theorem dX0_orderByPairs_81 : decode cX0_orderByPairs 81 = .ok (.istore_n 1, 1) := by decide +kernel
theorem dX0_orderByPairs_82 : decode cX0_orderByPairs 82 = .ok (.iinc 3 1, 3) := by decide +kernel
theorem dX0_orderByPairs_85 : decode cX0_orderByPairs 85 = .ok (.goto (-73), 3) := by decide +kernel
theorem dX0_orderByPairs_88 : decode cX0_orderByPairs 88 = .ok (.iinc 2 1, 3) := by decide +kernel
theorem dX0_orderByPairs_91 : decode cX0_orderByPairs 91 = .ok (.goto (-87), 3) := by decide +kernel
theorem dX0_orderByPairs_94 : decode cX0_orderByPairs 94 = .ok (.aload_n 0, 1) := by decide +kernel
theorem dX0_orderByPairs_95 : decode cX0_orderByPairs 95 = .ok (.iload_n 1, 1) := by decide +kernel
theorem dX0_orderByPairs_96 : decode cX0_orderByPairs 96 = .ok (.invokevirtual 102, 3) := by decide +kernel
theorem dX0_orderByPairs_99 : decode cX0_orderByPairs 99 = .ok (.ireturn, 1) := by decide +kernel
set_option maxRecDepth 20000 in
theorem ggX0_dividedForOrder_X0_going : GoodIn wsX0_dividedForOrder wsX0_going := goodIn_r _ [5, 6, 7, 8, 4, 9, 10, 11, 12, 13, 14, 15, 16, 17, 18, 19, 20, 21, 22, 23, 24, 25, 26] (by decide +kernel) (by decide +kernel)
set_option maxRecDepth 20000 in
theorem gX0_dividedForOrder_X0_going : GoodIn wsX0_dividedForOrder (wsV RX0 82 RX0 yX0_going wsX0_going) := goodIn_app (goodIn_of _ (by decide +kernel)) ggX0_dividedForOrder_X0_going
theorem dX0_dividedForOrder_0 : decode cX0_dividedForOrder 0 = .ok (.sipush 1000, 3) := by decide +kernel
theorem dX0_dividedForOrder_3 : decode cX0_dividedForOrder 3 = .ok (.aload_n 0, 1) := by decide +kernel
theorem dX0_dividedForOrder_4 : decode cX0_dividedForOrder 4 = .ok (.invokevirtual 82, 3) := by decide +kernel
theorem dX0_dividedForOrder_7 : decode cX0_dividedForOrder 7 = .ok (.imul, 1) := by decide +kernel
theorem dX0_dividedForOrder_8 : decode cX0_dividedForOrder 8 = .ok (.aload_n 0, 1) := by decide +kernel
theorem dX0_dividedForOrder_9 : decode cX0_dividedForOrder 9 = .ok (.invokevirtual 82, 3) := by decide +kernel
theorem dX0_dividedForOrder_12 : decode cX0_dividedForOrder 12 = .ok (.imul, 1) := by decide +kernel
theorem dX0_dividedForOrder_13 : decode cX0_dividedForOrder 13 = .ok (.istore_n 2, 1) := by decide +kernel
theorem dX0_dividedForOrder_14 : decode cX0_dividedForOrder 14 = .ok (.iload_n 2, 1) := by decide +kernel
theorem dX0_dividedForOrder_15 : decode cX0_dividedForOrder 15 = .ok (.ifCond .le 9, 3) := by decide +kernel
theorem dX0_dividedForOrder_18 : decode cX0_dividedForOrder 18 = .ok (.iload_n 1, 1) := by decide +kernel
theorem dX0_dividedForOrder_19 : decode cX0_dividedForOrder 19 = .ok (.iload_n 2, 1) := by decide +kernel
theorem dX0_dividedForOrder_20 : decode cX0_dividedForOrder 20 = .ok (.idiv, 1) := by decide +kernel
theorem dX0_dividedForOrder_21 : decode cX0_dividedForOrder 21 = .ok (.goto 4, 3) := by decide +kernel
theorem dX0_dividedForOrder_24 : decode cX0_dividedForOrder 24 = .ok (.iconst 0, 1) := by decide +kernel
theorem dX0_dividedForOrder_25 : decode cX0_dividedForOrder 25 = .ok (.ireturn, 1) := by decide +kernel
set_option maxRecDepth 20000 in
theorem ggX0_distance_X0_has : GoodIn wsX0_distance wsX0_has := goodIn_r _ [13, 14, 15, 16, 17, 18, 19, 20, 21, 22, 23, 24, 25, 26, 27, 28] (by decide +kernel) (by decide +kernel)
set_option maxRecDepth 20000 in
theorem gX0_distance_X0_has : GoodIn wsX0_distance (wsV RX0 60 RX0 yX0_has wsX0_has) := goodIn_app (goodIn_of _ (by decide +kernel)) ggX0_distance_X0_has
theorem dX0_distance_0 : decode cX0_distance 0 = .ok (.aload_n 0, 1) := by decide +kernel
theorem dX0_distance_1 : decode cX0_distance 1 = .ok (.iload_n 1, 1) := by decide +kernel
theorem dX0_distance_2 : decode cX0_distance 2 = .ok (.invokevirtual 60, 3) := by decide +kernel
theorem dX0_distance_5 : decode cX0_distance 5 = .ok (.ifCond .eq 11, 3) := by decide +kernel
theorem dX0_distance_8 : decode cX0_distance 8 = .ok (.aload_n 0, 1) := by decide +kernel
theorem dX0_distance_9 : decode cX0_distance 9 = .ok (.iload_n 2, 1) := by decide +kernel
theorem dX0_distance_10 : decode cX0_distance 10 = .ok (.invokevirtual 60, 3) := by decide +kernel
theorem dX0_distance_13 : decode cX0_distance 13 = .ok (.ifCond .ne 5, 3) := by decide +kernel
theorem dX0_distance_16 : decode cX0_distance 16 = .ok (.iconst 0, 1) := by decide +kernel
theorem dX0_distance_17 : decode cX0_distance 17 = .ok (.ireturn, 1) := by decide +kernel
theorem dX0_distance_18 : decode cX0_distance 18 = .ok (.aload_n 0, 1) := by decide +kernel
theorem dX0_distance_19 : decode cX0_distance 19 = .ok (.getfield 15, 3) := by decide +kernel
theorem dX0_distance_22 : decode cX0_distance 22 = .ok (.iload_n 1, 1) := by decide +kernel
theorem dX0_distance_23 : decode cX0_distance 23 = .ok (.iaload, 1) := by decide +kernel
theorem dX0_distance_24 : decode cX0_distance 24 = .ok (.aload_n 0, 1) := by decide +kernel
theorem dX0_distance_25 : decode cX0_distance 25 = .ok (.getfield 15, 3) := by decide +kernel
theorem dX0_distance_28 : decode cX0_distance 28 = .ok (.iload_n 2, 1) := by decide +kernel
theorem dX0_distance_29 : decode cX0_distance 29 = .ok (.iaload, 1) := by decide +kernel
theorem dX0_distance_30 : decode cX0_distance 30 = .ok (.isub, 1) := by decide +kernel
theorem dX0_distance_31 : decode cX0_distance 31 = .ok (.invokestatic 68, 3) := by decide +kernel
theorem dX0_distance_34 : decode cX0_distance 34 = .ok (.istore_n 3, 1) := by decide +kernel
theorem dX0_distance_35 : decode cX0_distance 35 = .ok (.iload_n 3, 1) := by decide +kernel
theorem dX0_distance_36 : decode cX0_distance 36 = .ok (.sipush 3600, 3) := by decide +kernel
theorem dX0_distance_39 : decode cX0_distance 39 = .ok (.iload_n 3, 1) := by decide +kernel
theorem dX0_distance_40 : decode cX0_distance 40 = .ok (.isub, 1) := by decide +kernel
theorem dX0_distance_41 : decode cX0_distance 41 = .ok (.invokestatic 105, 3) := by decide +kernel
theorem dX0_distance_44 : decode cX0_distance 44 = .ok (.ireturn, 1) := by decide +kernel
set_option maxRecDepth 20000 in
theorem ggX0_greatestDistance_X0_goes : GoodIn wsX0_greatestDistance wsX0_goes := goodIn_r _ [9, 10, 11, 12, 28, 29, 30, 31, 32, 33, 34, 35, 36, 37, 38, 39, 40, 41] (by decide +kernel) (by decide +kernel)
set_option maxRecDepth 20000 in
theorem gX0_greatestDistance_X0_goes : GoodIn wsX0_greatestDistance (wsV RX0 56 RX0 yX0_goes wsX0_goes) := goodIn_app (goodIn_of _ (by decide +kernel)) ggX0_greatestDistance_X0_goes
set_option maxRecDepth 20000 in
theorem ggX0_greatestDistance_X0_distance : GoodIn wsX0_greatestDistance wsX0_distance := goodIn_r _ [16, 17, 18, 19, 3, 20, 21, 22, 23, 24, 25, 26, 8, 27, 10, 28, 29, 30, 31, 32, 33, 34, 35, 36, 37, 38, 39, 40, 41] (by decide +kernel) (by decide +kernel)
set_option maxRecDepth 20000 in
theorem gX0_greatestDistance_X0_distance : GoodIn wsX0_greatestDistance (wsV RX0 109 RX0 yX0_distance wsX0_distance) := goodIn_app (goodIn_of _ (by decide +kernel)) ggX0_greatestDistance_X0_distance
theorem dX0_greatestDistance_0 : decode cX0_greatestDistance 0 = .ok (.iconst 0, 1) := by decide +kernel
theorem dX0_greatestDistance_1 : decode cX0_greatestDistance 1 = .ok (.istore_n 1, 1) := by decide +kernel
theorem dX0_greatestDistance_2 : decode cX0_greatestDistance 2 = .ok (.iconst 0, 1) := by decide +kernel
theorem dX0_greatestDistance_3 : decode cX0_greatestDistance 3 = .ok (.istore_n 2, 1) := by decide +kernel
theorem dX0_greatestDistance_4 : decode cX0_greatestDistance 4 = .ok (.iload_n 2, 1) := by decide +kernel
theorem dX0_greatestDistance_5 : decode cX0_greatestDistance 5 = .ok (.bipush 6, 2) := by decide +kernel
theorem dX0_greatestDistance_7 : decode cX0_greatestDistance 7 = .ok (.if_icmp .ge 52, 3) := by decide +kernel
theorem dX0_greatestDistance_10 : decode cX0_greatestDistance 10 = .ok (.iload_n 2, 1) := by decide +kernel
theorem dX0_greatestDistance_11 : decode cX0_greatestDistance 11 = .ok (.iconst 1, 1) := by decide +kernel
theorem dX0_greatestDistance_12 : decode cX0_greatestDistance 12 = .ok (.iadd, 1) := by decide +kernel
theorem dX0_greatestDistance_13 : decode cX0_greatestDistance 13 = .ok (.istore_n 3, 1) := by decide +kernel
theorem dX0_greatestDistance_14 : decode cX0_greatestDistance 14 = .ok (.iload_n 3, 1) := by decide +kernel
theorem dX0_greatestDistance_15 : decode cX0_greatestDistance 15 = .ok (.bipush 6, 2) := by decide +kernel
theorem dX0_greatestDistance_17 : decode cX0_greatestDistance 17 = .ok (.if_icmp .ge 36, 3) := by decide +kernel
theorem dX0_greatestDistance_20 : decode cX0_greatestDistance 20 = .ok (.aload_n 0, 1) := by decide +kernel
theorem dX0_greatestDistance_21 : decode cX0_greatestDistance 21 = .ok (.iload_n 2, 1) := by decide +kernel
theorem dX0_greatestDistance_22 : decode cX0_greatestDistance 22 = .ok (.invokevirtual 56, 3) := by decide +kernel
theorem dX0_greatestDistance_25 : decode cX0_greatestDistance 25 = .ok (.ifCond .eq 22, 3) := by decide +kernel
theorem dX0_greatestDistance_28 : decode cX0_greatestDistance 28 = .ok (.aload_n 0, 1) := by decide +kernel
theorem dX0_greatestDistance_29 : decode cX0_greatestDistance 29 = .ok (.iload_n 3, 1) := by decide +kernel
theorem dX0_greatestDistance_30 : decode cX0_greatestDistance 30 = .ok (.invokevirtual 56, 3) := by decide +kernel
theorem dX0_greatestDistance_33 : decode cX0_greatestDistance 33 = .ok (.ifCond .eq 14, 3) := by decide +kernel
theorem dX0_greatestDistance_36 : decode cX0_greatestDistance 36 = .ok (.iload_n 1, 1) := by decide +kernel
theorem dX0_greatestDistance_37 : decode cX0_greatestDistance 37 = .ok (.aload_n 0, 1) := by decide +kernel
theorem dX0_greatestDistance_38 : decode cX0_greatestDistance 38 = .ok (.iload_n 2, 1) := by decide +kernel
theorem dX0_greatestDistance_39 : decode cX0_greatestDistance 39 = .ok (.iload_n 3, 1) := by decide +kernel
theorem dX0_greatestDistance_40 : decode cX0_greatestDistance 40 = .ok (.invokevirtual 109, 3) := by decide +kernel
theorem dX0_greatestDistance_43 : decode cX0_greatestDistance 43 = .ok (.invokestatic 112, 3) := by decide +kernel
theorem dX0_greatestDistance_46 : decode cX0_greatestDistance 46 = .ok (.istore_n 1, 1) := by decide +kernel
theorem dX0_greatestDistance_47 : decode cX0_greatestDistance 47 = .ok (.iinc 3 1, 3) := by decide +kernel
theorem dX0_greatestDistance_50 : decode cX0_greatestDistance 50 = .ok (.goto (-36), 3) := by decide +kernel
theorem dX0_greatestDistance_53 : decode cX0_greatestDistance 53 = .ok (.iinc 2 1, 3) := by decide +kernel
theorem dX0_greatestDistance_56 : decode cX0_greatestDistance 56 = .ok (.goto (-52), 3) := by decide +kernel
theorem dX0_greatestDistance_59 : decode cX0_greatestDistance 59 = .ok (.iload_n 1, 1) := by decide +kernel
theorem dX0_greatestDistance_60 : decode cX0_greatestDistance 60 = .ok (.ireturn, 1) := by decide +kernel
set_option maxRecDepth 20000 in
theorem ggX0_farthestOfGoing_X0_goes : GoodIn wsX0_farthestOfGoing wsX0_goes := goodIn_r _ [5, 6, 7, 8, 25, 26, 27, 28, 29, 30, 31, 32, 33, 34, 35, 36, 37, 38] (by decide +kernel) (by decide +kernel)
set_option maxRecDepth 20000 in
theorem gX0_farthestOfGoing_X0_goes : GoodIn wsX0_farthestOfGoing (wsV RX0 56 RX0 yX0_goes wsX0_goes) := goodIn_app (goodIn_of _ (by decide +kernel)) ggX0_farthestOfGoing_X0_goes
set_option maxRecDepth 20000 in
theorem ggX0_farthestOfGoing_X0_distance : GoodIn wsX0_farthestOfGoing wsX0_distance := goodIn_r _ [12, 13, 14, 15, 16, 17, 18, 19, 20, 21, 22, 23, 4, 24, 6, 25, 26, 27, 28, 29, 30, 31, 32, 33, 34, 35, 36, 37, 38] (by decide +kernel) (by decide +kernel)
set_option maxRecDepth 20000 in
theorem gX0_farthestOfGoing_X0_distance : GoodIn wsX0_farthestOfGoing (wsV RX0 109 RX0 yX0_distance wsX0_distance) := goodIn_app (goodIn_of _ (by decide +kernel)) ggX0_farthestOfGoing_X0_distance
theorem dX0_farthestOfGoing_0 : decode cX0_farthestOfGoing 0 = .ok (.iconst (-1), 1) := by decide +kernel
theorem dX0_farthestOfGoing_1 : decode cX0_farthestOfGoing 1 = .ok (.istore_n 2, 1) := by decide +kernel
theorem dX0_farthestOfGoing_2 : decode cX0_farthestOfGoing 2 = .ok (.iconst (-1), 1) := by decide +kernel
theorem dX0_farthestOfGoing_3 : decode cX0_farthestOfGoing 3 = .ok (.istore_n 3, 1) := by decide +kernel
theorem dX0_farthestOfGoing_4 : decode cX0_farthestOfGoing 4 = .ok (.iconst 0, 1) := by decide +kernel
theorem dX0_farthestOfGoing_5 : decode cX0_farthestOfGoing 5 = .ok (.istore 4, 2) := by decide +kernel
theorem dX0_farthestOfGoing_7 : decode cX0_farthestOfGoing 7 = .ok (.iload 4, 2) := by decide +kernel
theorem dX0_farthestOfGoing_9 : decode cX0_farthestOfGoing 9 = .ok (.bipush 6, 2) := by decide +kernel
theorem dX0_farthestOfGoing_11 : decode cX0_farthestOfGoing 11 = .ok (.if_icmp .ge 79, 3) := by decide +kernel
theorem dX0_farthestOfGoing_14 : decode cX0_farthestOfGoing 14 = .ok (.iload 4, 2) := by decide +kernel
theorem dX0_farthestOfGoing_16 : decode cX0_farthestOfGoing 16 = .ok (.iconst 1, 1) := by decide +kernel
theorem dX0_farthestOfGoing_17 : decode cX0_farthestOfGoing 17 = .ok (.iadd, 1) := by decide +kernel
theorem dX0_farthestOfGoing_18 : decode cX0_farthestOfGoing 18 = .ok (.istore 5, 2) := by decide +kernel
theorem dX0_farthestOfGoing_20 : decode cX0_farthestOfGoing 20 = .ok (.iload 5, 2) := by decide +kernel
theorem dX0_farthestOfGoing_22 : decode cX0_farthestOfGoing 22 = .ok (.bipush 6, 2) := by decide +kernel
theorem dX0_farthestOfGoing_24 : decode cX0_farthestOfGoing 24 = .ok (.if_icmp .ge 60, 3) := by decide +kernel
theorem dX0_farthestOfGoing_27 : decode cX0_farthestOfGoing 27 = .ok (.aload_n 0, 1) := by decide +kernel
theorem dX0_farthestOfGoing_28 : decode cX0_farthestOfGoing 28 = .ok (.iload 4, 2) := by decide +kernel
theorem dX0_farthestOfGoing_30 : decode cX0_farthestOfGoing 30 = .ok (.invokevirtual 56, 3) := by decide +kernel
theorem dX0_farthestOfGoing_33 : decode cX0_farthestOfGoing 33 = .ok (.ifCond .eq 45, 3) := by decide +kernel
theorem dX0_farthestOfGoing_36 : decode cX0_farthestOfGoing 36 = .ok (.aload_n 0, 1) := by decide +kernel
theorem dX0_farthestOfGoing_37 : decode cX0_farthestOfGoing 37 = .ok (.iload 5, 2) := by decide +kernel
theorem dX0_farthestOfGoing_39 : decode cX0_farthestOfGoing 39 = .ok (.invokevirtual 56, 3) := by decide +kernel
theorem dX0_farthestOfGoing_42 : decode cX0_farthestOfGoing 42 = .ok (.ifCond .eq 36, 3) := by decide +kernel
theorem dX0_farthestOfGoing_45 : decode cX0_farthestOfGoing 45 = .ok (.aload_n 0, 1) := by decide +kernel
theorem dX0_farthestOfGoing_46 : decode cX0_farthestOfGoing 46 = .ok (.iload 4, 2) := by decide +kernel
theorem dX0_farthestOfGoing_48 : decode cX0_farthestOfGoing 48 = .ok (.iload 5, 2) := by decide +kernel
theorem dX0_farthestOfGoing_50 : decode cX0_farthestOfGoing 50 = .ok (.invokevirtual 109, 3) := by decide +kernel
theorem dX0_farthestOfGoing_53 : decode cX0_farthestOfGoing 53 = .ok (.iload_n 2, 1) := by decide +kernel
theorem dX0_farthestOfGoing_54 : decode cX0_farthestOfGoing 54 = .ok (.if_icmp .le 24, 3) := by decide +kernel
theorem dX0_farthestOfGoing_57 : decode cX0_farthestOfGoing 57 = .ok (.aload_n 0, 1) := by decide +kernel
theorem dX0_farthestOfGoing_58 : decode cX0_farthestOfGoing 58 = .ok (.iload 4, 2) := by decide +kernel
theorem dX0_farthestOfGoing_60 : decode cX0_farthestOfGoing 60 = .ok (.iload 5, 2) := by decide +kernel
theorem dX0_farthestOfGoing_62 : decode cX0_farthestOfGoing 62 = .ok (.invokevirtual 109, 3) := by decide +kernel
theorem dX0_farthestOfGoing_65 : decode cX0_farthestOfGoing 65 = .ok (.istore_n 2, 1) := by decide +kernel
theorem dX0_farthestOfGoing_66 : decode cX0_farthestOfGoing 66 = .ok (.iload_n 1, 1) := by decide +kernel
theorem dX0_farthestOfGoing_67 : decode cX0_farthestOfGoing 67 = .ok (.ifCond .eq 8, 3) := by decide +kernel
theorem dX0_farthestOfGoing_70 : decode cX0_farthestOfGoing 70 = .ok (.iload 5, 2) := by decide +kernel
theorem dX0_farthestOfGoing_72 : decode cX0_farthestOfGoing 72 = .ok (.goto 5, 3) := by decide +kernel
theorem dX0_farthestOfGoing_75 : decode cX0_farthestOfGoing 75 = .ok (.iload 4, 2) := by decide +kernel
theorem dX0_farthestOfGoing_77 : decode cX0_farthestOfGoing 77 = .ok (.istore_n 3, 1) := by decide +kernel
theorem dX0_farthestOfGoing_78 : decode cX0_farthestOfGoing 78 = .ok (.iinc 5 1, 3) := by decide +kernel
theorem dX0_farthestOfGoing_81 : decode cX0_farthestOfGoing 81 = .ok (.goto (-61), 3) := by decide +kernel
theorem dX0_farthestOfGoing_84 : decode cX0_farthestOfGoing 84 = .ok (.iinc 4 1, 3) := by decide +kernel
theorem dX0_farthestOfGoing_87 : decode cX0_farthestOfGoing 87 = .ok (.goto (-80), 3) := by decide +kernel
theorem dX0_farthestOfGoing_90 : decode cX0_farthestOfGoing 90 = .ok (.iload_n 3, 1) := by decide +kernel
theorem dX0_farthestOfGoing_91 : decode cX0_farthestOfGoing 91 = .ok (.ireturn, 1) := by decide +kernel
set_option maxRecDepth 20000 in
theorem ggX0_isInStep_X0_going : GoodIn wsX0_isInStep wsX0_going := goodIn_r _ [6, 7, 8, 9, 5, 10, 11, 12, 13, 37, 38, 39, 40, 41, 42, 43, 44, 45, 46, 47, 48, 49, 50] (by decide +kernel) (by decide +kernel)
set_option maxRecDepth 20000 in
theorem gX0_isInStep_X0_going : GoodIn wsX0_isInStep (wsV RX0 82 RX0 yX0_going wsX0_going) := goodIn_app (goodIn_of _ (by decide +kernel)) ggX0_isInStep_X0_going
set_option maxRecDepth 20000 in
theorem ggX0_isInStep_X0_greatestDistance : GoodIn wsX0_isInStep wsX0_greatestDistance := goodIn_r _ [17, 18, 19, 20, 21, 7, 8, 9, 5, 10, 11, 12, 13, 22, 23, 24, 25, 26, 27, 28, 29, 30, 31, 32, 33, 34, 35, 36, 37, 38, 39, 40, 41, 42, 43, 44, 45, 46, 47, 48, 49, 50] (by decide +kernel) (by decide +kernel)
set_option maxRecDepth 20000 in
theorem gX0_isInStep_X0_greatestDistance : GoodIn wsX0_isInStep (wsV RX0 115 RX0 yX0_greatestDistance wsX0_greatestDistance) := goodIn_app (goodIn_of _ (by decide +kernel)) ggX0_isInStep_X0_greatestDistance
theorem dX0_isInStep_0 : decode cX0_isInStep 0 = .ok (.aload_n 0, 1) := by decide +kernel
theorem dX0_isInStep_1 : decode cX0_isInStep 1 = .ok (.invokevirtual 82, 3) := by decide +kernel
theorem dX0_isInStep_4 : decode cX0_isInStep 4 = .ok (.iconst 2, 1) := by decide +kernel
theorem dX0_isInStep_5 : decode cX0_isInStep 5 = .ok (.if_icmp .lt 18, 3) := by decide +kernel
theorem dX0_isInStep_8 : decode cX0_isInStep 8 = .ok (.aload_n 0, 1) := by decide +kernel
theorem dX0_isInStep_9 : decode cX0_isInStep 9 = .ok (.invokevirtual 115, 3) := by decide +kernel
theorem dX0_isInStep_12 : decode cX0_isInStep 12 = .ok (.aload_n 0, 1) := by decide +kernel
theorem dX0_isInStep_13 : decode cX0_isInStep 13 = .ok (.getfield 35, 3) := by decide +kernel
theorem dX0_isInStep_16 : decode cX0_isInStep 16 = .ok (.if_icmp .gt 7, 3) := by decide +kernel
theorem dX0_isInStep_19 : decode cX0_isInStep 19 = .ok (.iconst 1, 1) := by decide +kernel
theorem dX0_isInStep_20 : decode cX0_isInStep 20 = .ok (.goto 4, 3) := by decide +kernel
theorem dX0_isInStep_23 : decode cX0_isInStep 23 = .ok (.iconst 0, 1) := by decide +kernel
theorem dX0_isInStep_24 : decode cX0_isInStep 24 = .ok (.ireturn, 1) := by decide +kernel
theorem dX0_shareTogether_0 : decode cX0_shareTogether 0 = .ok (.aload_n 0, 1) := by decide +kernel
theorem dX0_shareTogether_1 : decode cX0_shareTogether 1 = .ok (.getfield 47, 3) := by decide +kernel
theorem dX0_shareTogether_4 : decode cX0_shareTogether 4 = .ok (.ifCond .le 17, 3) := by decide +kernel
theorem dX0_shareTogether_7 : decode cX0_shareTogether 7 = .ok (.aload_n 0, 1) := by decide +kernel
theorem dX0_shareTogether_8 : decode cX0_shareTogether 8 = .ok (.getfield 53, 3) := by decide +kernel
theorem dX0_shareTogether_11 : decode cX0_shareTogether 11 = .ok (.i2d, 1) := by decide +kernel
theorem dX0_shareTogether_12 : decode cX0_shareTogether 12 = .ok (.aload_n 0, 1) := by decide +kernel
theorem dX0_shareTogether_13 : decode cX0_shareTogether 13 = .ok (.getfield 47, 3) := by decide +kernel
theorem dX0_shareTogether_16 : decode cX0_shareTogether 16 = .ok (.i2d, 1) := by decide +kernel
theorem dX0_shareTogether_17 : decode cX0_shareTogether 17 = .ok (.ddiv, 1) := by decide +kernel
theorem dX0_shareTogether_18 : decode cX0_shareTogether 18 = .ok (.goto 4, 3) := by decide +kernel
theorem dX0_shareTogether_21 : decode cX0_shareTogether 21 = .ok (.dconst 0, 1) := by decide +kernel
theorem dX0_shareTogether_22 : decode cX0_shareTogether 22 = .ok (.dreturn, 1) := by decide +kernel
set_option maxRecDepth 20000 in
theorem ggX0_property_X0_has : GoodIn wsX0_property wsX0_has := goodIn_r _ [10, 11, 30, 31, 32, 33, 34, 35, 36, 37, 38, 39, 40, 41, 42, 43] (by decide +kernel) (by decide +kernel)
set_option maxRecDepth 20000 in
theorem gX0_property_X0_has : GoodIn wsX0_property (wsV RX0 60 RX0 yX0_has wsX0_has) := goodIn_app (goodIn_of _ (by decide +kernel)) ggX0_property_X0_has
set_option maxRecDepth 20000 in
theorem ggX0_property_X0_goes : GoodIn wsX0_property wsX0_goes := goodIn_r _ [15, 11, 4, 3, 30, 31, 32, 33, 34, 35, 36, 37, 38, 39, 40, 41, 42, 43] (by decide +kernel) (by decide +kernel)
set_option maxRecDepth 20000 in
theorem gX0_property_X0_goes : GoodIn wsX0_property (wsV RX0 56 RX0 yX0_goes wsX0_goes) := goodIn_app (goodIn_of _ (by decide +kernel)) ggX0_property_X0_goes
set_option maxRecDepth 20000 in
theorem ggX0_property_X0_swing : GoodIn wsX0_property wsX0_swing := goodIn_r _ [18] (by decide +kernel) (by decide +kernel)
set_option maxRecDepth 20000 in
theorem gX0_property_X0_swing : GoodIn wsX0_property (va_wsS RX0 98 yX0_swing wsX0_swing) := goodIn_app (goodIn_of _ (by decide +kernel)) ggX0_property_X0_swing
set_option maxRecDepth 20000 in
theorem ggX0_property_X0_quarterOn : GoodIn wsX0_property wsX0_quarterOn := goodIn_r _ [21] (by decide +kernel) (by decide +kernel)
set_option maxRecDepth 20000 in
theorem gX0_property_X0_quarterOn : GoodIn wsX0_property (va_wsS RX0 95 yX0_quarterOn wsX0_quarterOn) := goodIn_app (goodIn_of _ (by decide +kernel)) ggX0_property_X0_quarterOn
set_option maxRecDepth 20000 in
theorem ggX0_property_X0_pull : GoodIn wsX0_property wsX0_pull := goodIn_r _ [25, 26, 27, 28, 29, 19, 20, 9, 21, 16, 17, 18, 30, 31, 32, 33, 34, 35, 36, 37, 38, 39, 40, 41, 42, 43] (by decide +kernel) (by decide +kernel)
set_option maxRecDepth 20000 in
theorem gX0_property_X0_pull : GoodIn wsX0_property (wsV RX0 92 RX0 yX0_pull wsX0_pull) := goodIn_app (goodIn_of _ (by decide +kernel)) ggX0_property_X0_pull
theorem dX0_property_0 : decode cX0_property 0 = .ok (.aload_n 0, 1) := by decide +kernel
theorem dX0_property_1 : decode cX0_property 1 = .ok (.iload_n 1, 1) := by decide +kernel
theorem dX0_property_2 : decode cX0_property 2 = .ok (.invokevirtual 60, 3) := by decide +kernel
theorem dX0_property_5 : decode cX0_property 5 = .ok (.ifCond .ne 5, 3) := by decide +kernel
theorem dX0_property_8 : decode cX0_property 8 = .ok (.iconst (-1), 1) := by decide +kernel
theorem dX0_property_9 : decode cX0_property 9 = .ok (.ireturn, 1) := by decide +kernel
theorem dX0_property_10 : decode cX0_property 10 = .ok (.iload_n 2, 1) := by decide +kernel
theorem dX0_property_11 : decode cX0_property 11 = .ok (.tableswitch 133 0 7 #[45, 52, 59, 66, 81, 95, 102, 116], 45) := by decide +kernel
theorem dX0_property_56 : decode cX0_property 56 = .ok (.aload_n 0, 1) := by decide +kernel
theorem dX0_property_57 : decode cX0_property 57 = .ok (.getfield 9, 3) := by decide +kernel
theorem dX0_property_60 : decode cX0_property 60 = .ok (.iload_n 1, 1) := by decide +kernel
theorem dX0_property_61 : decode cX0_property 61 = .ok (.iaload, 1) := by decide +kernel
theorem dX0_property_62 : decode cX0_property 62 = .ok (.ireturn, 1) := by decide +kernel
theorem dX0_property_63 : decode cX0_property 63 = .ok (.aload_n 0, 1) := by decide +kernel
theorem dX0_property_64 : decode cX0_property 64 = .ok (.getfield 15, 3) := by decide +kernel
theorem dX0_property_67 : decode cX0_property 67 = .ok (.iload_n 1, 1) := by decide +kernel
theorem dX0_property_68 : decode cX0_property 68 = .ok (.iaload, 1) := by decide +kernel
theorem dX0_property_69 : decode cX0_property 69 = .ok (.ireturn, 1) := by decide +kernel
theorem dX0_property_70 : decode cX0_property 70 = .ok (.aload_n 0, 1) := by decide +kernel
theorem dX0_property_71 : decode cX0_property 71 = .ok (.getfield 18, 3) := by decide +kernel
theorem dX0_property_74 : decode cX0_property 74 = .ok (.iload_n 1, 1) := by decide +kernel
theorem dX0_property_75 : decode cX0_property 75 = .ok (.iaload, 1) := by decide +kernel
theorem dX0_property_76 : decode cX0_property 76 = .ok (.ireturn, 1) := by decide +kernel
theorem dX0_property_77 : decode cX0_property 77 = .ok (.aload_n 0, 1) := by decide +kernel
theorem dX0_property_78 : decode cX0_property 78 = .ok (.getfield 21, 3) := by decide +kernel
theorem dX0_property_81 : decode cX0_property 81 = .ok (.iload_n 1, 1) := by decide +kernel
theorem dX0_property_82 : decode cX0_property 82 = .ok (.baload, 1) := by decide +kernel
theorem dX0_property_83 : decode cX0_property 83 = .ok (.ifCond .eq 7, 3) := by decide +kernel
theorem dX0_property_86 : decode cX0_property 86 = .ok (.iconst 1, 1) := by decide +kernel
theorem dX0_property_87 : decode cX0_property 87 = .ok (.goto 4, 3) := by decide +kernel
theorem dX0_property_90 : decode cX0_property 90 = .ok (.iconst 0, 1) := by decide +kernel
theorem dX0_property_91 : decode cX0_property 91 = .ok (.ireturn, 1) := by decide +kernel
theorem dX0_property_92 : decode cX0_property 92 = .ok (.aload_n 0, 1) := by decide +kernel
theorem dX0_property_93 : decode cX0_property 93 = .ok (.iload_n 1, 1) := by decide +kernel
theorem dX0_property_94 : decode cX0_property 94 = .ok (.invokevirtual 56, 3) := by decide +kernel
theorem dX0_property_97 : decode cX0_property 97 = .ok (.ifCond .eq 7, 3) := by decide +kernel
theorem dX0_property_100 : decode cX0_property 100 = .ok (.iconst 1, 1) := by decide +kernel
theorem dX0_property_101 : decode cX0_property 101 = .ok (.goto 4, 3) := by decide +kernel
theorem dX0_property_104 : decode cX0_property 104 = .ok (.iconst 0, 1) := by decide +kernel
theorem dX0_property_105 : decode cX0_property 105 = .ok (.ireturn, 1) := by decide +kernel
theorem dX0_property_106 : decode cX0_property 106 = .ok (.aload_n 0, 1) := by decide +kernel
theorem dX0_property_107 : decode cX0_property 107 = .ok (.getfield 25, 3) := by decide +kernel
theorem dX0_property_110 : decode cX0_property 110 = .ok (.iload_n 1, 1) := by decide +kernel
theorem dX0_property_111 : decode cX0_property 111 = .ok (.iaload, 1) := by decide +kernel
theorem dX0_property_112 : decode cX0_property 112 = .ok (.ireturn, 1) := by decide +kernel
theorem dX0_property_113 : decode cX0_property 113 = .ok (.aload_n 0, 1) := by decide +kernel
theorem dX0_property_114 : decode cX0_property 114 = .ok (.getfield 15, 3) := by decide +kernel
theorem dX0_property_117 : decode cX0_property 117 = .ok (.iload_n 1, 1) := by decide +kernel
theorem dX0_property_118 : decode cX0_property 118 = .ok (.iaload, 1) := by decide +kernel
theorem dX0_property_119 : decode cX0_property 119 = .ok (.invokestatic 98, 3) := by decide +kernel
theorem dX0_property_122 : decode cX0_property 122 = .ok (.sipush 1000, 3) := by decide +kernel
theorem dX0_property_125 : decode cX0_property 125 = .ok (.iadd, 1) := by decide +kernel
theorem dX0_property_126 : decode cX0_property 126 = .ok (.ireturn, 1) := by decide +kernel
theorem dX0_property_127 : decode cX0_property 127 = .ok (.aload_n 0, 1) := by decide +kernel
theorem dX0_property_128 : decode cX0_property 128 = .ok (.getfield 15, 3) := by decide +kernel
theorem dX0_property_131 : decode cX0_property 131 = .ok (.iload_n 1, 1) := by decide +kernel
theorem dX0_property_132 : decode cX0_property 132 = .ok (.iaload, 1) := by decide +kernel
theorem dX0_property_133 : decode cX0_property 133 = .ok (.invokestatic 95, 3) := by decide +kernel
theorem dX0_property_136 : decode cX0_property 136 = .ok (.invokestatic 98, 3) := by decide +kernel
theorem dX0_property_139 : decode cX0_property 139 = .ok (.sipush 1000, 3) := by decide +kernel
theorem dX0_property_142 : decode cX0_property 142 = .ok (.iadd, 1) := by decide +kernel
