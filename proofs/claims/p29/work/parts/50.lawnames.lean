theorem dL_low_0 : decode cL_low 0 = .ok (.iload_n 0, 1) := by decide +kernel
theorem dL_low_1 : decode cL_low 1 = .ok (.ldc 7, 2) := by decide +kernel
theorem dL_low_3 : decode cL_low 3 = .ok (.iand, 1) := by decide +kernel
theorem dL_low_4 : decode cL_low 4 = .ok (.iload_n 1, 1) := by decide +kernel
theorem dL_low_5 : decode cL_low 5 = .ok (.irem, 1) := by decide +kernel
theorem dL_low_6 : decode cL_low 6 = .ok (.ireturn, 1) := by decide +kernel
theorem dL_cell_0 : decode cL_cell 0 = .ok (.iload_n 1, 1) := by decide +kernel
theorem dL_cell_1 : decode cL_cell 1 = .ok (.aload_n 0, 1) := by decide +kernel
theorem dL_cell_2 : decode cL_cell 2 = .ok (.arraylength, 1) := by decide +kernel
theorem dL_cell_3 : decode cL_cell 3 = .ok (.if_icmp .ge 9, 3) := by decide +kernel
theorem dL_cell_6 : decode cL_cell 6 = .ok (.aload_n 0, 1) := by decide +kernel
theorem dL_cell_7 : decode cL_cell 7 = .ok (.iload_n 1, 1) := by decide +kernel
theorem dL_cell_8 : decode cL_cell 8 = .ok (.iaload, 1) := by decide +kernel
theorem dL_cell_9 : decode cL_cell 9 = .ok (.goto 11, 3) := by decide +kernel
theorem dL_cell_12 : decode cL_cell 12 = .ok (.ldc 8, 2) := by decide +kernel
theorem dL_cell_14 : decode cL_cell 14 = .ok (.iload_n 1, 1) := by decide +kernel
theorem dL_cell_15 : decode cL_cell 15 = .ok (.imul, 1) := by decide +kernel
theorem dL_cell_16 : decode cL_cell 16 = .ok (.sipush 977, 3) := by decide +kernel
theorem dL_cell_19 : decode cL_cell 19 = .ok (.iadd, 1) := by decide +kernel
theorem dL_cell_20 : decode cL_cell 20 = .ok (.ireturn, 1) := by decide +kernel
set_option maxRecDepth 20000 in
theorem ggL_metronome_X4_metronome : GoodIn wsL_metronome wsX4_metronome := goodIn_ca (goodIn_ca (goodIn_r _ [6, 7, 8, 9, 10, 11, 12, 13, 14, 5, 15, 16, 17, 18, 19, 20, 21, 22, 23, 24, 25, 26, 27, 28, 29, 30, 31, 32, 33, 34, 35, 36, 37, 38, 39, 40, 41, 42, 43, 44, 45, 46, 47, 48, 49, 50, 51, 52, 53, 54, 55, 56, 57, 58, 59, 60, 61, 62, 63, 64, 65, 66, 67, 68, 69, 70, 71, 72, 73, 74, 75, 76, 77, 78, 79, 80, 81, 82, 83] rfl (by decide +kernel)) (goodIn_sub (fun _ h => List.mem_cons_of_mem _ (List.mem_append_left _ (List.mem_append_right _ h))) (by decide +kernel))) (goodIn_sub (fun _ h => List.mem_cons_of_mem _ (List.mem_append_right _ h)) (by decide +kernel))
set_option maxRecDepth 20000 in
theorem gL_metronome_X4_metronome : GoodIn wsL_metronome (wsV RL 9 RX4 yX4_metronome wsX4_metronome) := goodIn_app (goodIn_of _ (by decide +kernel)) ggL_metronome_X4_metronome
theorem dL_metronome_0 : decode cL_metronome 0 = .ok (.aload_n 0, 1) := by decide +kernel
theorem dL_metronome_1 : decode cL_metronome 1 = .ok (.iload_n 1, 1) := by decide +kernel
theorem dL_metronome_2 : decode cL_metronome 2 = .ok (.iload_n 2, 1) := by decide +kernel
theorem dL_metronome_3 : decode cL_metronome 3 = .ok (.iload_n 3, 1) := by decide +kernel
theorem dL_metronome_4 : decode cL_metronome 4 = .ok (.invokevirtual 9, 3) := by decide +kernel
theorem dL_metronome_7 : decode cL_metronome 7 = .ok (.ireturn, 1) := by decide +kernel
theorem dL_metronome_8 : decode cL_metronome 8 = .ok (.astore 4, 2) := by decide +kernel
theorem dL_metronome_10 : decode cL_metronome 10 = .ok (.bipush (-3), 2) := by decide +kernel
theorem dL_metronome_12 : decode cL_metronome 12 = .ok (.ireturn, 1) := by decide +kernel
set_option maxRecDepth 20000 in
theorem ggL_undo_X4_undo : GoodIn wsL_undo wsX4_undo := goodIn_ca (goodIn_r _ [6, 7, 8, 9, 10, 11, 12, 13, 14, 15, 16, 17, 18, 19, 20, 21, 22, 23, 24, 25, 26, 27, 28, 29, 30, 31, 32, 33, 34, 35, 36, 37, 38, 39, 40, 41, 42, 43, 44, 45, 46, 47, 48, 49, 50, 51, 52, 53, 54, 55, 56, 57, 58, 59, 60, 61, 62, 63, 64] rfl (by decide +kernel)) (goodIn_sub (fun _ h => List.mem_cons_of_mem _ (List.mem_append_right _ h)) (by decide +kernel))
set_option maxRecDepth 20000 in
theorem gL_undo_X4_undo : GoodIn wsL_undo (wsV RL 17 RX4 yX4_undo wsX4_undo) := goodIn_app (goodIn_of _ (by decide +kernel)) ggL_undo_X4_undo
theorem dL_undo_0 : decode cL_undo 0 = .ok (.aload_n 0, 1) := by decide +kernel
theorem dL_undo_1 : decode cL_undo 1 = .ok (.invokevirtual 17, 3) := by decide +kernel
theorem dL_undo_4 : decode cL_undo 4 = .ok (.ireturn, 1) := by decide +kernel
theorem dL_undo_5 : decode cL_undo 5 = .ok (.astore_n 1, 1) := by decide +kernel
theorem dL_undo_6 : decode cL_undo 6 = .ok (.bipush (-3), 2) := by decide +kernel
theorem dL_undo_8 : decode cL_undo 8 = .ok (.ireturn, 1) := by decide +kernel
set_option maxRecDepth 20000 in
theorem ggL_take_X4_take : GoodIn wsL_take wsX4_take := goodIn_ca (goodIn_r _ [6, 7, 8, 9, 10, 11, 12, 13, 14, 15, 16, 17, 18, 19, 20, 21, 22, 23, 24, 25, 26, 27, 28, 29, 30, 31, 32, 33, 34, 35, 36, 37, 38, 39, 40, 41, 42, 43, 44, 45, 46, 47, 48, 49, 50, 51, 52, 53, 54, 55, 56, 57, 58, 59, 60, 61, 62, 63, 64, 65, 66, 67, 68, 69, 70, 71, 72] rfl (by decide +kernel)) (goodIn_sub (fun _ h => List.mem_cons_of_mem _ (List.mem_append_right _ h)) (by decide +kernel))
set_option maxRecDepth 20000 in
theorem gL_take_X4_take : GoodIn wsL_take (wsV RL 21 RX4 yX4_take wsX4_take) := goodIn_app (goodIn_of _ (by decide +kernel)) ggL_take_X4_take
theorem dL_take_0 : decode cL_take 0 = .ok (.aload_n 0, 1) := by decide +kernel
theorem dL_take_1 : decode cL_take 1 = .ok (.invokevirtual 21, 3) := by decide +kernel
theorem dL_take_4 : decode cL_take 4 = .ok (.ireturn, 1) := by decide +kernel
theorem dL_take_5 : decode cL_take 5 = .ok (.astore_n 1, 1) := by decide +kernel
theorem dL_take_6 : decode cL_take 6 = .ok (.bipush (-3), 2) := by decide +kernel
theorem dL_take_8 : decode cL_take 8 = .ok (.ireturn, 1) := by decide +kernel
set_option maxRecDepth 20000 in
theorem ggL_bench_X4_count : GoodIn wsL_bench wsX4_count := goodIn_ca (goodIn_r _ [5, 6, 7, 8, 9, 4, 10, 11, 12, 13, 14, 15, 16, 17, 18, 19, 20, 21, 22, 23, 24, 25, 26, 27, 28, 29, 30, 31, 32, 33, 34, 35, 36, 37, 38, 39, 40, 41, 42, 43, 44, 45, 46, 47, 48, 49, 50, 51, 52, 53, 54, 55, 56, 57, 58, 59, 60, 61, 62, 63, 64, 65, 66, 67, 68, 69, 70, 71, 72, 73, 74, 75, 76, 77, 78, 79, 80, 81, 82, 83, 84, 85, 86, 87, 88, 89, 90, 91, 92, 93, 94, 95, 96, 97, 150, 151, 152, 153, 154, 155, 156, 157, 158, 159, 160, 161, 162, 163, 164, 165, 166, 167, 168, 169, 170, 171, 172, 173] rfl (by decide +kernel)) (goodIn_sub (fun _ h => List.mem_cons_of_mem _ (List.mem_append_left _ (List.mem_append_right _ h))) (by decide +kernel))
set_option maxRecDepth 20000 in
theorem gL_bench_X4_count : GoodIn wsL_bench (wsV RL 24 RX4 yX4_count wsX4_count) := goodIn_app (goodIn_of _ (by decide +kernel)) ggL_bench_X4_count
set_option maxRecDepth 20000 in
theorem ggL_bench_X4_arm : GoodIn wsL_bench wsX4_arm := goodIn_ca (goodIn_ca (goodIn_r _ [101, 102, 103, 6, 7, 16, 104, 95, 96, 26, 97, 28, 8, 9, 4, 10, 105, 106, 107, 108, 109, 52, 43, 42, 110, 94, 38, 39, 40, 41, 53, 54, 55, 60, 61, 62, 111, 112, 113, 114, 115, 31, 32, 116, 150, 151, 152, 153, 154, 155, 156, 157, 160, 161, 162, 163, 164, 165, 166, 167, 168, 169, 170, 171, 172, 173] rfl (by decide +kernel)) (goodIn_sub (fun _ h => List.mem_cons_of_mem _ (List.mem_append_right _ h)) (by decide +kernel))) (goodIn_sub (fun _ h => List.mem_cons_of_mem _ (List.mem_append_left _ (List.mem_append_right _ h))) (by decide +kernel))
set_option maxRecDepth 20000 in
theorem gL_bench_X4_arm : GoodIn wsL_bench (wsV RL 28 RX4 yX4_arm wsX4_arm) := goodIn_app (goodIn_of _ (by decide +kernel)) ggL_bench_X4_arm
set_option maxRecDepth 20000 in
theorem ggL_bench_X4_apart : GoodIn wsL_bench wsX4_apart := goodIn_ca (goodIn_ca (goodIn_r _ [120, 102, 103, 6, 7, 16, 104, 95, 96, 26, 97, 28, 121, 85, 86, 87, 52, 88, 89, 82, 90, 91, 92, 93, 94, 150, 151, 152, 153, 154, 155, 156, 157, 160, 161, 162, 163, 164, 165, 166, 167, 168, 169, 170, 171, 172, 173] rfl (by decide +kernel)) (goodIn_sub (fun _ h => List.mem_cons_of_mem _ (List.mem_append_right _ h)) (by decide +kernel))) (goodIn_sub (fun _ h => List.mem_cons_of_mem _ (List.mem_append_left _ (List.mem_append_right _ h))) (by decide +kernel))
set_option maxRecDepth 20000 in
theorem gL_bench_X4_apart : GoodIn wsL_bench (wsV RL 32 RX4 yX4_apart wsX4_apart) := goodIn_app (goodIn_of _ (by decide +kernel)) ggL_bench_X4_apart
set_option maxRecDepth 20000 in
theorem ggL_bench_X4_farthest : GoodIn wsL_bench wsX4_farthest := goodIn_r _ [125, 16, 126, 127, 128, 26, 129, 38, 39, 40, 41, 28, 42, 43, 84, 85, 86, 87, 52, 88, 89, 82, 90, 91, 92, 93, 94, 95, 96, 97, 150, 151, 152, 153, 154, 155, 156, 157, 160, 161, 162, 163, 164, 165, 166, 167, 168, 169, 170, 171, 172, 173] rfl (by decide +kernel)
set_option maxRecDepth 20000 in
theorem gL_bench_X4_farthest : GoodIn wsL_bench (wsV RL 35 RX4 yX4_farthest wsX4_farthest) := goodIn_app (goodIn_of _ (by decide +kernel)) ggL_bench_X4_farthest
set_option maxRecDepth 20000 in
theorem ggL_bench_X4_setting : GoodIn wsL_bench wsX4_setting := goodIn_ca (goodIn_r _ [133, 102, 103, 16, 134, 135, 4, 136, 8, 9, 10, 137, 138, 139, 26, 140, 141, 115, 75, 150, 151, 152, 153, 154, 155, 156, 157, 160, 161, 162, 163, 164, 165, 166, 167, 168, 169, 170, 171, 172, 173] rfl (by decide +kernel)) (goodIn_sub (fun _ h => List.mem_cons_of_mem _ (List.mem_append_right _ h)) (by decide +kernel))
set_option maxRecDepth 20000 in
theorem gL_bench_X4_setting : GoodIn wsL_bench (wsV RL 39 RX4 yX4_setting wsX4_setting) := goodIn_app (goodIn_of _ (by decide +kernel)) ggL_bench_X4_setting
set_option maxRecDepth 20000 in
theorem ggL_bench_X4_togetherShare : GoodIn wsL_bench wsX4_togetherShare := goodIn_r _ [145, 16, 146, 147, 148, 26, 149, 29, 33, 150, 151, 152, 153, 154, 155, 156, 157, 160, 161, 162, 163, 164, 165, 166, 167, 168, 169, 170, 171, 172, 173] rfl (by decide +kernel)
set_option maxRecDepth 20000 in
theorem gL_bench_X4_togetherShare : GoodIn wsL_bench (wsV RL 42 RX4 yX4_togetherShare wsX4_togetherShare) := goodIn_app (goodIn_of _ (by decide +kernel)) ggL_bench_X4_togetherShare
theorem dL_bench_0 : decode cL_bench 0 = .ok (.aload_n 0, 1) := by decide +kernel
theorem dL_bench_1 : decode cL_bench 1 = .ok (.iconst 0, 1) := by decide +kernel
theorem dL_bench_2 : decode cL_bench 2 = .ok (.invokevirtual 24, 3) := by decide +kernel
theorem dL_bench_5 : decode cL_bench 5 = .ok (.istore_n 1, 1) := by decide +kernel
theorem dL_bench_6 : decode cL_bench 6 = .ok (.iconst 0, 1) := by decide +kernel
theorem dL_bench_7 : decode cL_bench 7 = .ok (.istore_n 2, 1) := by decide +kernel
theorem dL_bench_8 : decode cL_bench 8 = .ok (.iconst 0, 1) := by decide +kernel
theorem dL_bench_9 : decode cL_bench 9 = .ok (.istore_n 3, 1) := by decide +kernel
theorem dL_bench_10 : decode cL_bench 10 = .ok (.iconst 0, 1) := by decide +kernel
theorem dL_bench_11 : decode cL_bench 11 = .ok (.istore 4, 2) := by decide +kernel
theorem dL_bench_13 : decode cL_bench 13 = .ok (.iload_n 1, 1) := by decide +kernel
theorem dL_bench_14 : decode cL_bench 14 = .ok (.bipush 6, 2) := by decide +kernel
theorem dL_bench_16 : decode cL_bench 16 = .ok (.if_icmp .gt 74, 3) := by decide +kernel
theorem dL_bench_19 : decode cL_bench 19 = .ok (.aload_n 0, 1) := by decide +kernel
theorem dL_bench_20 : decode cL_bench 20 = .ok (.bipush 6, 2) := by decide +kernel
theorem dL_bench_22 : decode cL_bench 22 = .ok (.invokevirtual 24, 3) := by decide +kernel
theorem dL_bench_25 : decode cL_bench 25 = .ok (.aload_n 0, 1) := by decide +kernel
theorem dL_bench_26 : decode cL_bench 26 = .ok (.bipush 7, 2) := by decide +kernel
theorem dL_bench_28 : decode cL_bench 28 = .ok (.invokevirtual 24, 3) := by decide +kernel
theorem dL_bench_31 : decode cL_bench 31 = .ok (.if_icmp .ne 59, 3) := by decide +kernel
theorem dL_bench_34 : decode cL_bench 34 = .ok (.aload_n 0, 1) := by decide +kernel
theorem dL_bench_35 : decode cL_bench 35 = .ok (.bipush 10, 2) := by decide +kernel
theorem dL_bench_37 : decode cL_bench 37 = .ok (.invokevirtual 24, 3) := by decide +kernel
theorem dL_bench_40 : decode cL_bench 40 = .ok (.aload_n 0, 1) := by decide +kernel
theorem dL_bench_41 : decode cL_bench 41 = .ok (.iconst 2, 1) := by decide +kernel
theorem dL_bench_42 : decode cL_bench 42 = .ok (.invokevirtual 24, 3) := by decide +kernel
theorem dL_bench_45 : decode cL_bench 45 = .ok (.if_icmp .gt 45, 3) := by decide +kernel
theorem dL_bench_48 : decode cL_bench 48 = .ok (.aload_n 0, 1) := by decide +kernel
theorem dL_bench_49 : decode cL_bench 49 = .ok (.iconst 4, 1) := by decide +kernel
theorem dL_bench_50 : decode cL_bench 50 = .ok (.invokevirtual 24, 3) := by decide +kernel
theorem dL_bench_53 : decode cL_bench 53 = .ok (.ifCond .lt 37, 3) := by decide +kernel
theorem dL_bench_56 : decode cL_bench 56 = .ok (.aload_n 0, 1) := by decide +kernel
theorem dL_bench_57 : decode cL_bench 57 = .ok (.iconst 4, 1) := by decide +kernel
theorem dL_bench_58 : decode cL_bench 58 = .ok (.invokevirtual 24, 3) := by decide +kernel
theorem dL_bench_61 : decode cL_bench 61 = .ok (.sipush 2000, 3) := by decide +kernel
theorem dL_bench_64 : decode cL_bench 64 = .ok (.if_icmp .gt 26, 3) := by decide +kernel
theorem dL_bench_67 : decode cL_bench 67 = .ok (.aload_n 0, 1) := by decide +kernel
theorem dL_bench_68 : decode cL_bench 68 = .ok (.iconst 5, 1) := by decide +kernel
theorem dL_bench_69 : decode cL_bench 69 = .ok (.invokevirtual 24, 3) := by decide +kernel
theorem dL_bench_72 : decode cL_bench 72 = .ok (.ifCond .lt 18, 3) := by decide +kernel
theorem dL_bench_75 : decode cL_bench 75 = .ok (.aload_n 0, 1) := by decide +kernel
theorem dL_bench_76 : decode cL_bench 76 = .ok (.iconst 5, 1) := by decide +kernel
theorem dL_bench_77 : decode cL_bench 77 = .ok (.invokevirtual 24, 3) := by decide +kernel
theorem dL_bench_80 : decode cL_bench 80 = .ok (.sipush 2000, 3) := by decide +kernel
theorem dL_bench_83 : decode cL_bench 83 = .ok (.if_icmp .gt 7, 3) := by decide +kernel
theorem dL_bench_86 : decode cL_bench 86 = .ok (.iconst 1, 1) := by decide +kernel
theorem dL_bench_87 : decode cL_bench 87 = .ok (.goto 4, 3) := by decide +kernel
theorem dL_bench_90 : decode cL_bench 90 = .ok (.iconst 0, 1) := by decide +kernel
theorem dL_bench_91 : decode cL_bench 91 = .ok (.istore 5, 2) := by decide +kernel
theorem dL_bench_93 : decode cL_bench 93 = .ok (.iconst 0, 1) := by decide +kernel
theorem dL_bench_94 : decode cL_bench 94 = .ok (.istore 6, 2) := by decide +kernel
theorem dL_bench_96 : decode cL_bench 96 = .ok (.iload 6, 2) := by decide +kernel
theorem dL_bench_98 : decode cL_bench 98 = .ok (.iload_n 1, 1) := by decide +kernel
theorem dL_bench_99 : decode cL_bench 99 = .ok (.if_icmp .ge 345, 3) := by decide +kernel
theorem dL_bench_102 : decode cL_bench 102 = .ok (.iload 5, 2) := by decide +kernel
theorem dL_bench_104 : decode cL_bench 104 = .ok (.ifCond .eq 340, 3) := by decide +kernel
theorem dL_bench_107 : decode cL_bench 107 = .ok (.iload_n 2, 1) := by decide +kernel
theorem dL_bench_108 : decode cL_bench 108 = .ok (.aload_n 0, 1) := by decide +kernel
theorem dL_bench_109 : decode cL_bench 109 = .ok (.iload 6, 2) := by decide +kernel
theorem dL_bench_111 : decode cL_bench 111 = .ok (.iconst 4, 1) := by decide +kernel
theorem dL_bench_112 : decode cL_bench 112 = .ok (.invokevirtual 28, 3) := by decide +kernel
theorem dL_bench_115 : decode cL_bench 115 = .ok (.iadd, 1) := by decide +kernel
theorem dL_bench_116 : decode cL_bench 116 = .ok (.istore_n 2, 1) := by decide +kernel
theorem dL_bench_117 : decode cL_bench 117 = .ok (.iload_n 3, 1) := by decide +kernel
theorem dL_bench_118 : decode cL_bench 118 = .ok (.aload_n 0, 1) := by decide +kernel
theorem dL_bench_119 : decode cL_bench 119 = .ok (.iload 6, 2) := by decide +kernel
theorem dL_bench_121 : decode cL_bench 121 = .ok (.iconst 5, 1) := by decide +kernel
theorem dL_bench_122 : decode cL_bench 122 = .ok (.invokevirtual 28, 3) := by decide +kernel
theorem dL_bench_125 : decode cL_bench 125 = .ok (.iadd, 1) := by decide +kernel
theorem dL_bench_126 : decode cL_bench 126 = .ok (.istore_n 3, 1) := by decide +kernel
theorem dL_bench_127 : decode cL_bench 127 = .ok (.iload 4, 2) := by decide +kernel
theorem dL_bench_129 : decode cL_bench 129 = .ok (.aload_n 0, 1) := by decide +kernel
theorem dL_bench_130 : decode cL_bench 130 = .ok (.iload 6, 2) := by decide +kernel
theorem dL_bench_132 : decode cL_bench 132 = .ok (.iconst 2, 1) := by decide +kernel
theorem dL_bench_133 : decode cL_bench 133 = .ok (.invokevirtual 28, 3) := by decide +kernel
theorem dL_bench_136 : decode cL_bench 136 = .ok (.iadd, 1) := by decide +kernel
theorem dL_bench_137 : decode cL_bench 137 = .ok (.istore 4, 2) := by decide +kernel
theorem dL_bench_139 : decode cL_bench 139 = .ok (.aload_n 0, 1) := by decide +kernel
theorem dL_bench_140 : decode cL_bench 140 = .ok (.iload 6, 2) := by decide +kernel
theorem dL_bench_142 : decode cL_bench 142 = .ok (.iconst 0, 1) := by decide +kernel
theorem dL_bench_143 : decode cL_bench 143 = .ok (.invokevirtual 28, 3) := by decide +kernel
theorem dL_bench_146 : decode cL_bench 146 = .ok (.bipush 40, 2) := by decide +kernel
theorem dL_bench_148 : decode cL_bench 148 = .ok (.if_icmp .lt 137, 3) := by decide +kernel
theorem dL_bench_151 : decode cL_bench 151 = .ok (.aload_n 0, 1) := by decide +kernel
theorem dL_bench_152 : decode cL_bench 152 = .ok (.iload 6, 2) := by decide +kernel
theorem dL_bench_154 : decode cL_bench 154 = .ok (.iconst 0, 1) := by decide +kernel
theorem dL_bench_155 : decode cL_bench 155 = .ok (.invokevirtual 28, 3) := by decide +kernel
theorem dL_bench_158 : decode cL_bench 158 = .ok (.sipush 208, 3) := by decide +kernel
theorem dL_bench_161 : decode cL_bench 161 = .ok (.if_icmp .gt 124, 3) := by decide +kernel
theorem dL_bench_164 : decode cL_bench 164 = .ok (.aload_n 0, 1) := by decide +kernel
theorem dL_bench_165 : decode cL_bench 165 = .ok (.iload 6, 2) := by decide +kernel
theorem dL_bench_167 : decode cL_bench 167 = .ok (.iconst 1, 1) := by decide +kernel
theorem dL_bench_168 : decode cL_bench 168 = .ok (.invokevirtual 28, 3) := by decide +kernel
theorem dL_bench_171 : decode cL_bench 171 = .ok (.ifCond .lt 114, 3) := by decide +kernel
theorem dL_bench_174 : decode cL_bench 174 = .ok (.aload_n 0, 1) := by decide +kernel
theorem dL_bench_175 : decode cL_bench 175 = .ok (.iload 6, 2) := by decide +kernel
theorem dL_bench_177 : decode cL_bench 177 = .ok (.iconst 1, 1) := by decide +kernel
theorem dL_bench_178 : decode cL_bench 178 = .ok (.invokevirtual 28, 3) := by decide +kernel
theorem dL_bench_181 : decode cL_bench 181 = .ok (.sipush 3600, 3) := by decide +kernel
theorem dL_bench_184 : decode cL_bench 184 = .ok (.if_icmp .ge 101, 3) := by decide +kernel
theorem dL_bench_187 : decode cL_bench 187 = .ok (.aload_n 0, 1) := by decide +kernel
theorem dL_bench_188 : decode cL_bench 188 = .ok (.iload 6, 2) := by decide +kernel
theorem dL_bench_190 : decode cL_bench 190 = .ok (.iconst 4, 1) := by decide +kernel
theorem dL_bench_191 : decode cL_bench 191 = .ok (.invokevirtual 28, 3) := by decide +kernel
theorem dL_bench_194 : decode cL_bench 194 = .ok (.iconst 1, 1) := by decide +kernel
theorem dL_bench_195 : decode cL_bench 195 = .ok (.if_icmp .ne 7, 3) := by decide +kernel
theorem dL_bench_198 : decode cL_bench 198 = .ok (.iconst 1, 1) := by decide +kernel
theorem dL_bench_199 : decode cL_bench 199 = .ok (.goto 4, 3) := by decide +kernel
theorem dL_bench_202 : decode cL_bench 202 = .ok (.iconst 0, 1) := by decide +kernel
theorem dL_bench_203 : decode cL_bench 203 = .ok (.aload_n 0, 1) := by decide +kernel
theorem dL_bench_204 : decode cL_bench 204 = .ok (.iload 6, 2) := by decide +kernel
theorem dL_bench_206 : decode cL_bench 206 = .ok (.iconst 3, 1) := by decide +kernel
theorem dL_bench_207 : decode cL_bench 207 = .ok (.invokevirtual 28, 3) := by decide +kernel
theorem dL_bench_210 : decode cL_bench 210 = .ok (.ifCond .ne 17, 3) := by decide +kernel
theorem dL_bench_213 : decode cL_bench 213 = .ok (.aload_n 0, 1) := by decide +kernel
theorem dL_bench_214 : decode cL_bench 214 = .ok (.iload 6, 2) := by decide +kernel
theorem dL_bench_216 : decode cL_bench 216 = .ok (.iconst 2, 1) := by decide +kernel
theorem dL_bench_217 : decode cL_bench 217 = .ok (.invokevirtual 28, 3) := by decide +kernel
theorem dL_bench_220 : decode cL_bench 220 = .ok (.ifCond .le 7, 3) := by decide +kernel
theorem dL_bench_223 : decode cL_bench 223 = .ok (.iconst 1, 1) := by decide +kernel
theorem dL_bench_224 : decode cL_bench 224 = .ok (.goto 4, 3) := by decide +kernel
theorem dL_bench_227 : decode cL_bench 227 = .ok (.iconst 0, 1) := by decide +kernel
theorem dL_bench_228 : decode cL_bench 228 = .ok (.if_icmp .ne 57, 3) := by decide +kernel
theorem dL_bench_231 : decode cL_bench 231 = .ok (.aload_n 0, 1) := by decide +kernel
theorem dL_bench_232 : decode cL_bench 232 = .ok (.iload 6, 2) := by decide +kernel
theorem dL_bench_234 : decode cL_bench 234 = .ok (.bipush 6, 2) := by decide +kernel
theorem dL_bench_236 : decode cL_bench 236 = .ok (.invokevirtual 28, 3) := by decide +kernel
theorem dL_bench_239 : decode cL_bench 239 = .ok (.ifCond .lt 46, 3) := by decide +kernel
theorem dL_bench_242 : decode cL_bench 242 = .ok (.aload_n 0, 1) := by decide +kernel
theorem dL_bench_243 : decode cL_bench 243 = .ok (.iload 6, 2) := by decide +kernel
theorem dL_bench_245 : decode cL_bench 245 = .ok (.bipush 6, 2) := by decide +kernel
theorem dL_bench_247 : decode cL_bench 247 = .ok (.invokevirtual 28, 3) := by decide +kernel
theorem dL_bench_250 : decode cL_bench 250 = .ok (.sipush 2000, 3) := by decide +kernel
theorem dL_bench_253 : decode cL_bench 253 = .ok (.if_icmp .gt 32, 3) := by decide +kernel
theorem dL_bench_256 : decode cL_bench 256 = .ok (.aload_n 0, 1) := by decide +kernel
theorem dL_bench_257 : decode cL_bench 257 = .ok (.iload 6, 2) := by decide +kernel
theorem dL_bench_259 : decode cL_bench 259 = .ok (.bipush 7, 2) := by decide +kernel
theorem dL_bench_261 : decode cL_bench 261 = .ok (.invokevirtual 28, 3) := by decide +kernel
theorem dL_bench_264 : decode cL_bench 264 = .ok (.ifCond .lt 21, 3) := by decide +kernel
theorem dL_bench_267 : decode cL_bench 267 = .ok (.aload_n 0, 1) := by decide +kernel
theorem dL_bench_268 : decode cL_bench 268 = .ok (.iload 6, 2) := by decide +kernel
theorem dL_bench_270 : decode cL_bench 270 = .ok (.bipush 7, 2) := by decide +kernel
theorem dL_bench_272 : decode cL_bench 272 = .ok (.invokevirtual 28, 3) := by decide +kernel
theorem dL_bench_275 : decode cL_bench 275 = .ok (.sipush 2000, 3) := by decide +kernel
theorem dL_bench_278 : decode cL_bench 278 = .ok (.if_icmp .gt 7, 3) := by decide +kernel
theorem dL_bench_281 : decode cL_bench 281 = .ok (.iconst 1, 1) := by decide +kernel
theorem dL_bench_282 : decode cL_bench 282 = .ok (.goto 4, 3) := by decide +kernel
theorem dL_bench_285 : decode cL_bench 285 = .ok (.iconst 0, 1) := by decide +kernel
theorem dL_bench_286 : decode cL_bench 286 = .ok (.istore 5, 2) := by decide +kernel
theorem dL_bench_288 : decode cL_bench 288 = .ok (.iconst 0, 1) := by decide +kernel
theorem dL_bench_289 : decode cL_bench 289 = .ok (.istore 7, 2) := by decide +kernel
theorem dL_bench_291 : decode cL_bench 291 = .ok (.iload 7, 2) := by decide +kernel
theorem dL_bench_293 : decode cL_bench 293 = .ok (.iload 6, 2) := by decide +kernel
theorem dL_bench_295 : decode cL_bench 295 = .ok (.if_icmp .ge 143, 3) := by decide +kernel
theorem dL_bench_298 : decode cL_bench 298 = .ok (.iload 5, 2) := by decide +kernel
theorem dL_bench_300 : decode cL_bench 300 = .ok (.ifCond .eq 138, 3) := by decide +kernel
theorem dL_bench_303 : decode cL_bench 303 = .ok (.aload_n 0, 1) := by decide +kernel
theorem dL_bench_304 : decode cL_bench 304 = .ok (.iload 7, 2) := by decide +kernel
theorem dL_bench_306 : decode cL_bench 306 = .ok (.iload 6, 2) := by decide +kernel
theorem dL_bench_308 : decode cL_bench 308 = .ok (.invokevirtual 32, 3) := by decide +kernel
theorem dL_bench_311 : decode cL_bench 311 = .ok (.aload_n 0, 1) := by decide +kernel
theorem dL_bench_312 : decode cL_bench 312 = .ok (.iload 6, 2) := by decide +kernel
theorem dL_bench_314 : decode cL_bench 314 = .ok (.iload 7, 2) := by decide +kernel
theorem dL_bench_316 : decode cL_bench 316 = .ok (.invokevirtual 32, 3) := by decide +kernel
theorem dL_bench_319 : decode cL_bench 319 = .ok (.if_icmp .ne 110, 3) := by decide +kernel
theorem dL_bench_322 : decode cL_bench 322 = .ok (.aload_n 0, 1) := by decide +kernel
theorem dL_bench_323 : decode cL_bench 323 = .ok (.iload 7, 2) := by decide +kernel
theorem dL_bench_325 : decode cL_bench 325 = .ok (.iload 6, 2) := by decide +kernel
theorem dL_bench_327 : decode cL_bench 327 = .ok (.invokevirtual 32, 3) := by decide +kernel
theorem dL_bench_330 : decode cL_bench 330 = .ok (.ifCond .lt 99, 3) := by decide +kernel
theorem dL_bench_333 : decode cL_bench 333 = .ok (.aload_n 0, 1) := by decide +kernel
theorem dL_bench_334 : decode cL_bench 334 = .ok (.iload 7, 2) := by decide +kernel
theorem dL_bench_336 : decode cL_bench 336 = .ok (.iload 6, 2) := by decide +kernel
theorem dL_bench_338 : decode cL_bench 338 = .ok (.invokevirtual 32, 3) := by decide +kernel
theorem dL_bench_341 : decode cL_bench 341 = .ok (.sipush 1800, 3) := by decide +kernel
theorem dL_bench_344 : decode cL_bench 344 = .ok (.if_icmp .gt 85, 3) := by decide +kernel
theorem dL_bench_347 : decode cL_bench 347 = .ok (.aload_n 0, 1) := by decide +kernel
theorem dL_bench_348 : decode cL_bench 348 = .ok (.iload 7, 2) := by decide +kernel
theorem dL_bench_350 : decode cL_bench 350 = .ok (.iconst 4, 1) := by decide +kernel
theorem dL_bench_351 : decode cL_bench 351 = .ok (.invokevirtual 28, 3) := by decide +kernel
theorem dL_bench_354 : decode cL_bench 354 = .ok (.ifCond .eq 30, 3) := by decide +kernel
theorem dL_bench_357 : decode cL_bench 357 = .ok (.aload_n 0, 1) := by decide +kernel
theorem dL_bench_358 : decode cL_bench 358 = .ok (.iload 6, 2) := by decide +kernel
theorem dL_bench_360 : decode cL_bench 360 = .ok (.iconst 4, 1) := by decide +kernel
theorem dL_bench_361 : decode cL_bench 361 = .ok (.invokevirtual 28, 3) := by decide +kernel
theorem dL_bench_364 : decode cL_bench 364 = .ok (.ifCond .eq 20, 3) := by decide +kernel
theorem dL_bench_367 : decode cL_bench 367 = .ok (.aload_n 0, 1) := by decide +kernel
theorem dL_bench_368 : decode cL_bench 368 = .ok (.iload 7, 2) := by decide +kernel
theorem dL_bench_370 : decode cL_bench 370 = .ok (.iload 6, 2) := by decide +kernel
theorem dL_bench_372 : decode cL_bench 372 = .ok (.invokevirtual 32, 3) := by decide +kernel
theorem dL_bench_375 : decode cL_bench 375 = .ok (.aload_n 0, 1) := by decide +kernel
theorem dL_bench_376 : decode cL_bench 376 = .ok (.bipush 9, 2) := by decide +kernel
theorem dL_bench_378 : decode cL_bench 378 = .ok (.invokevirtual 24, 3) := by decide +kernel
theorem dL_bench_381 : decode cL_bench 381 = .ok (.if_icmp .gt 48, 3) := by decide +kernel
theorem dL_bench_384 : decode cL_bench 384 = .ok (.aload_n 0, 1) := by decide +kernel
theorem dL_bench_385 : decode cL_bench 385 = .ok (.iload 7, 2) := by decide +kernel
theorem dL_bench_387 : decode cL_bench 387 = .ok (.iconst 1, 1) := by decide +kernel
theorem dL_bench_388 : decode cL_bench 388 = .ok (.invokevirtual 28, 3) := by decide +kernel
theorem dL_bench_391 : decode cL_bench 391 = .ok (.aload_n 0, 1) := by decide +kernel
theorem dL_bench_392 : decode cL_bench 392 = .ok (.iload 6, 2) := by decide +kernel
theorem dL_bench_394 : decode cL_bench 394 = .ok (.iconst 1, 1) := by decide +kernel
theorem dL_bench_395 : decode cL_bench 395 = .ok (.invokevirtual 28, 3) := by decide +kernel
theorem dL_bench_398 : decode cL_bench 398 = .ok (.if_icmp .ne 7, 3) := by decide +kernel
theorem dL_bench_401 : decode cL_bench 401 = .ok (.iconst 1, 1) := by decide +kernel
theorem dL_bench_402 : decode cL_bench 402 = .ok (.goto 4, 3) := by decide +kernel
theorem dL_bench_405 : decode cL_bench 405 = .ok (.iconst 0, 1) := by decide +kernel
theorem dL_bench_406 : decode cL_bench 406 = .ok (.aload_n 0, 1) := by decide +kernel
theorem dL_bench_407 : decode cL_bench 407 = .ok (.iload 7, 2) := by decide +kernel
theorem dL_bench_409 : decode cL_bench 409 = .ok (.iload 6, 2) := by decide +kernel
theorem dL_bench_411 : decode cL_bench 411 = .ok (.invokevirtual 32, 3) := by decide +kernel
theorem dL_bench_414 : decode cL_bench 414 = .ok (.ifCond .ne 7, 3) := by decide +kernel
theorem dL_bench_417 : decode cL_bench 417 = .ok (.iconst 1, 1) := by decide +kernel
theorem dL_bench_418 : decode cL_bench 418 = .ok (.goto 4, 3) := by decide +kernel
theorem dL_bench_421 : decode cL_bench 421 = .ok (.iconst 0, 1) := by decide +kernel
theorem dL_bench_422 : decode cL_bench 422 = .ok (.if_icmp .ne 7, 3) := by decide +kernel
theorem dL_bench_425 : decode cL_bench 425 = .ok (.iconst 1, 1) := by decide +kernel
theorem dL_bench_426 : decode cL_bench 426 = .ok (.goto 4, 3) := by decide +kernel
theorem dL_bench_429 : decode cL_bench 429 = .ok (.iconst 0, 1) := by decide +kernel
theorem dL_bench_430 : decode cL_bench 430 = .ok (.istore 5, 2) := by decide +kernel
theorem dL_bench_432 : decode cL_bench 432 = .ok (.iinc 7 1, 3) := by decide +kernel
theorem dL_bench_435 : decode cL_bench 435 = .ok (.goto (-144), 3) := by decide +kernel
theorem dL_bench_438 : decode cL_bench 438 = .ok (.iinc 6 1, 3) := by decide +kernel
theorem dL_bench_441 : decode cL_bench 441 = .ok (.goto (-345), 3) := by decide +kernel
theorem dL_bench_444 : decode cL_bench 444 = .ok (.aload_n 0, 1) := by decide +kernel
theorem dL_bench_445 : decode cL_bench 445 = .ok (.iconst 0, 1) := by decide +kernel
theorem dL_bench_446 : decode cL_bench 446 = .ok (.invokevirtual 35, 3) := by decide +kernel
theorem dL_bench_449 : decode cL_bench 449 = .ok (.istore 6, 2) := by decide +kernel
theorem dL_bench_451 : decode cL_bench 451 = .ok (.aload_n 0, 1) := by decide +kernel
theorem dL_bench_452 : decode cL_bench 452 = .ok (.iconst 1, 1) := by decide +kernel
theorem dL_bench_453 : decode cL_bench 453 = .ok (.invokevirtual 35, 3) := by decide +kernel
theorem dL_bench_456 : decode cL_bench 456 = .ok (.istore 7, 2) := by decide +kernel
theorem dL_bench_458 : decode cL_bench 458 = .ok (.iload 5, 2) := by decide +kernel
theorem dL_bench_460 : decode cL_bench 460 = .ok (.ifCond .eq 87, 3) := by decide +kernel
theorem dL_bench_463 : decode cL_bench 463 = .ok (.iload_n 2, 1) := by decide +kernel
theorem dL_bench_464 : decode cL_bench 464 = .ok (.aload_n 0, 1) := by decide +kernel
theorem dL_bench_465 : decode cL_bench 465 = .ok (.iconst 1, 1) := by decide +kernel
theorem dL_bench_466 : decode cL_bench 466 = .ok (.invokevirtual 24, 3) := by decide +kernel
theorem dL_bench_469 : decode cL_bench 469 = .ok (.if_icmp .ne 78, 3) := by decide +kernel
theorem dL_bench_472 : decode cL_bench 472 = .ok (.iload_n 3, 1) := by decide +kernel
theorem dL_bench_473 : decode cL_bench 473 = .ok (.aload_n 0, 1) := by decide +kernel
theorem dL_bench_474 : decode cL_bench 474 = .ok (.iconst 3, 1) := by decide +kernel
theorem dL_bench_475 : decode cL_bench 475 = .ok (.invokevirtual 24, 3) := by decide +kernel
theorem dL_bench_478 : decode cL_bench 478 = .ok (.if_icmp .gt 69, 3) := by decide +kernel
theorem dL_bench_481 : decode cL_bench 481 = .ok (.iload_n 2, 1) := by decide +kernel
theorem dL_bench_482 : decode cL_bench 482 = .ok (.iconst 2, 1) := by decide +kernel
theorem dL_bench_483 : decode cL_bench 483 = .ok (.if_icmp .ge 36, 3) := by decide +kernel
theorem dL_bench_486 : decode cL_bench 486 = .ok (.iload 6, 2) := by decide +kernel
theorem dL_bench_488 : decode cL_bench 488 = .ok (.iconst (-1), 1) := by decide +kernel
theorem dL_bench_489 : decode cL_bench 489 = .ok (.if_icmp .ne 58, 3) := by decide +kernel
theorem dL_bench_492 : decode cL_bench 492 = .ok (.iload 7, 2) := by decide +kernel
theorem dL_bench_494 : decode cL_bench 494 = .ok (.iconst (-1), 1) := by decide +kernel
theorem dL_bench_495 : decode cL_bench 495 = .ok (.if_icmp .ne 52, 3) := by decide +kernel
theorem dL_bench_498 : decode cL_bench 498 = .ok (.aload_n 0, 1) := by decide +kernel
theorem dL_bench_499 : decode cL_bench 499 = .ok (.bipush 9, 2) := by decide +kernel
theorem dL_bench_501 : decode cL_bench 501 = .ok (.invokevirtual 24, 3) := by decide +kernel
theorem dL_bench_504 : decode cL_bench 504 = .ok (.ifCond .ne 43, 3) := by decide +kernel
theorem dL_bench_507 : decode cL_bench 507 = .ok (.aload_n 0, 1) := by decide +kernel
theorem dL_bench_508 : decode cL_bench 508 = .ok (.bipush 8, 2) := by decide +kernel
theorem dL_bench_510 : decode cL_bench 510 = .ok (.invokevirtual 24, 3) := by decide +kernel
theorem dL_bench_513 : decode cL_bench 513 = .ok (.ifCond .ne 34, 3) := by decide +kernel
theorem dL_bench_516 : decode cL_bench 516 = .ok (.goto 27, 3) := by decide +kernel
theorem dL_bench_519 : decode cL_bench 519 = .ok (.iload 6, 2) := by decide +kernel
theorem dL_bench_521 : decode cL_bench 521 = .ok (.iload 7, 2) := by decide +kernel
theorem dL_bench_523 : decode cL_bench 523 = .ok (.if_icmp .ge 24, 3) := by decide +kernel
theorem dL_bench_526 : decode cL_bench 526 = .ok (.aload_n 0, 1) := by decide +kernel
theorem dL_bench_527 : decode cL_bench 527 = .ok (.iload 6, 2) := by decide +kernel
theorem dL_bench_529 : decode cL_bench 529 = .ok (.iload 7, 2) := by decide +kernel
theorem dL_bench_531 : decode cL_bench 531 = .ok (.invokevirtual 32, 3) := by decide +kernel
theorem dL_bench_534 : decode cL_bench 534 = .ok (.aload_n 0, 1) := by decide +kernel
theorem dL_bench_535 : decode cL_bench 535 = .ok (.bipush 9, 2) := by decide +kernel
theorem dL_bench_537 : decode cL_bench 537 = .ok (.invokevirtual 24, 3) := by decide +kernel
theorem dL_bench_540 : decode cL_bench 540 = .ok (.if_icmp .ne 7, 3) := by decide +kernel
theorem dL_bench_543 : decode cL_bench 543 = .ok (.iconst 1, 1) := by decide +kernel
theorem dL_bench_544 : decode cL_bench 544 = .ok (.goto 4, 3) := by decide +kernel
theorem dL_bench_547 : decode cL_bench 547 = .ok (.iconst 0, 1) := by decide +kernel
theorem dL_bench_548 : decode cL_bench 548 = .ok (.istore 5, 2) := by decide +kernel
theorem dL_bench_550 : decode cL_bench 550 = .ok (.iload 5, 2) := by decide +kernel
theorem dL_bench_552 : decode cL_bench 552 = .ok (.ifCond .eq 96, 3) := by decide +kernel
theorem dL_bench_555 : decode cL_bench 555 = .ok (.aload_n 0, 1) := by decide +kernel
theorem dL_bench_556 : decode cL_bench 556 = .ok (.bipush 8, 2) := by decide +kernel
theorem dL_bench_558 : decode cL_bench 558 = .ok (.invokevirtual 24, 3) := by decide +kernel
theorem dL_bench_561 : decode cL_bench 561 = .ok (.iconst 1, 1) := by decide +kernel
theorem dL_bench_562 : decode cL_bench 562 = .ok (.if_icmp .ne 7, 3) := by decide +kernel
theorem dL_bench_565 : decode cL_bench 565 = .ok (.iconst 1, 1) := by decide +kernel
theorem dL_bench_566 : decode cL_bench 566 = .ok (.goto 4, 3) := by decide +kernel
theorem dL_bench_569 : decode cL_bench 569 = .ok (.iconst 0, 1) := by decide +kernel
theorem dL_bench_570 : decode cL_bench 570 = .ok (.iload_n 2, 1) := by decide +kernel
theorem dL_bench_571 : decode cL_bench 571 = .ok (.iconst 1, 1) := by decide +kernel
theorem dL_bench_572 : decode cL_bench 572 = .ok (.if_icmp .le 21, 3) := by decide +kernel
theorem dL_bench_575 : decode cL_bench 575 = .ok (.aload_n 0, 1) := by decide +kernel
theorem dL_bench_576 : decode cL_bench 576 = .ok (.bipush 9, 2) := by decide +kernel
theorem dL_bench_578 : decode cL_bench 578 = .ok (.invokevirtual 24, 3) := by decide +kernel
theorem dL_bench_581 : decode cL_bench 581 = .ok (.aload_n 0, 1) := by decide +kernel
theorem dL_bench_582 : decode cL_bench 582 = .ok (.iconst 2, 1) := by decide +kernel
theorem dL_bench_583 : decode cL_bench 583 = .ok (.invokevirtual 39, 3) := by decide +kernel
theorem dL_bench_586 : decode cL_bench 586 = .ok (.if_icmp .gt 7, 3) := by decide +kernel
theorem dL_bench_589 : decode cL_bench 589 = .ok (.iconst 1, 1) := by decide +kernel
theorem dL_bench_590 : decode cL_bench 590 = .ok (.goto 4, 3) := by decide +kernel
theorem dL_bench_593 : decode cL_bench 593 = .ok (.iconst 0, 1) := by decide +kernel
theorem dL_bench_594 : decode cL_bench 594 = .ok (.if_icmp .ne 54, 3) := by decide +kernel
theorem dL_bench_597 : decode cL_bench 597 = .ok (.aload_n 0, 1) := by decide +kernel
theorem dL_bench_598 : decode cL_bench 598 = .ok (.iconst 2, 1) := by decide +kernel
theorem dL_bench_599 : decode cL_bench 599 = .ok (.invokevirtual 24, 3) := by decide +kernel
theorem dL_bench_602 : decode cL_bench 602 = .ok (.ifCond .ne 15, 3) := by decide +kernel
theorem dL_bench_605 : decode cL_bench 605 = .ok (.aload_n 0, 1) := by decide +kernel
theorem dL_bench_606 : decode cL_bench 606 = .ok (.invokevirtual 42, 3) := by decide +kernel
theorem dL_bench_609 : decode cL_bench 609 = .ok (.dconst 0, 1) := by decide +kernel
theorem dL_bench_610 : decode cL_bench 610 = .ok (.dcmp .l, 1) := by decide +kernel
theorem dL_bench_611 : decode cL_bench 611 = .ok (.ifCond .ne 37, 3) := by decide +kernel
theorem dL_bench_614 : decode cL_bench 614 = .ok (.goto 25, 3) := by decide +kernel
theorem dL_bench_617 : decode cL_bench 617 = .ok (.aload_n 0, 1) := by decide +kernel
theorem dL_bench_618 : decode cL_bench 618 = .ok (.invokevirtual 42, 3) := by decide +kernel
theorem dL_bench_621 : decode cL_bench 621 = .ok (.aload_n 0, 1) := by decide +kernel
theorem dL_bench_622 : decode cL_bench 622 = .ok (.bipush 10, 2) := by decide +kernel
theorem dL_bench_624 : decode cL_bench 624 = .ok (.invokevirtual 24, 3) := by decide +kernel
theorem dL_bench_627 : decode cL_bench 627 = .ok (.i2d, 1) := by decide +kernel
theorem dL_bench_628 : decode cL_bench 628 = .ok (.aload_n 0, 1) := by decide +kernel
theorem dL_bench_629 : decode cL_bench 629 = .ok (.iconst 2, 1) := by decide +kernel
theorem dL_bench_630 : decode cL_bench 630 = .ok (.invokevirtual 24, 3) := by decide +kernel
theorem dL_bench_633 : decode cL_bench 633 = .ok (.i2d, 1) := by decide +kernel
theorem dL_bench_634 : decode cL_bench 634 = .ok (.ddiv, 1) := by decide +kernel
theorem dL_bench_635 : decode cL_bench 635 = .ok (.dcmp .l, 1) := by decide +kernel
theorem dL_bench_636 : decode cL_bench 636 = .ok (.ifCond .ne 12, 3) := by decide +kernel
theorem dL_bench_639 : decode cL_bench 639 = .ok (.iload 4, 2) := by decide +kernel
theorem dL_bench_641 : decode cL_bench 641 = .ok (.ifCond .lt 7, 3) := by decide +kernel
theorem dL_bench_644 : decode cL_bench 644 = .ok (.iconst 1, 1) := by decide +kernel
theorem dL_bench_645 : decode cL_bench 645 = .ok (.goto 4, 3) := by decide +kernel
theorem dL_bench_648 : decode cL_bench 648 = .ok (.iconst 0, 1) := by decide +kernel
theorem dL_bench_649 : decode cL_bench 649 = .ok (.ireturn, 1) := by decide +kernel
set_option maxRecDepth 20000 in
theorem ggL_act_L_cell : GoodIn wsL_act wsL_cell := goodIn_r _ [4, 5] rfl (by decide +kernel)
set_option maxRecDepth 20000 in
theorem gL_act_L_cell : GoodIn wsL_act (va_wsS RL 46 yL_cell wsL_cell) := goodIn_app (goodIn_of _ (by decide +kernel)) ggL_act_L_cell
set_option maxRecDepth 20000 in
theorem ggL_act_X4_count : GoodIn wsL_act wsX4_count := goodIn_ca (goodIn_r _ [10, 11, 12, 13, 14, 9, 15, 16, 17, 18, 19, 20, 21, 22, 23, 24, 25, 26, 27, 28, 29, 30, 31, 32, 33, 34, 35, 36, 37, 38, 39, 40, 41, 42, 43, 44, 45, 46, 47, 48, 49, 50, 51, 52, 53, 54, 55, 56, 57, 58, 59, 60, 61, 62, 63, 64, 65, 66, 67, 68, 69, 70, 71, 72, 73, 74, 75, 76, 77, 78, 79, 80, 81, 82, 83, 84, 85, 86, 87, 88, 89, 90, 91, 92, 93, 94, 95, 96, 97, 98, 99, 100, 101, 102, 257, 258, 259, 260, 261, 262, 263, 264, 265, 266, 267, 268, 269, 270, 271, 272, 273, 274, 275, 276, 277, 278, 279, 280] rfl (by decide +kernel)) (goodIn_sub (fun _ h => List.mem_cons_of_mem _ (List.mem_append_left _ (List.mem_append_left _ (List.mem_append_right _ h)))) (by decide +kernel))
set_option maxRecDepth 20000 in
theorem gL_act_X4_count : GoodIn wsL_act (wsV RL 24 RX4 yX4_count wsX4_count) := goodIn_app (goodIn_of _ (by decide +kernel)) ggL_act_X4_count
set_option maxRecDepth 20000 in
theorem ggL_act_L_low : GoodIn wsL_act wsL_low := goodIn_r _ [105, 106] rfl (by decide +kernel)
set_option maxRecDepth 20000 in
theorem gL_act_L_low : GoodIn wsL_act (va_wsS RL 52 yL_low wsL_low) := goodIn_app (goodIn_of _ (by decide +kernel)) ggL_act_L_low
set_option maxRecDepth 20000 in
theorem ggL_act_L_metronome : GoodIn wsL_act wsL_metronome := goodIn_ca (goodIn_ca (goodIn_r _ [109, 110, 111, 112, 113, 9, 114, 11, 12, 115, 116, 21, 20, 117, 118, 119, 13, 14, 15, 120, 121, 122, 123, 124, 125, 31, 126, 33, 127, 128, 129, 25, 130, 27, 131, 132, 133, 134, 135, 136, 137, 138, 139, 140, 57, 48, 47, 141, 36, 37, 142, 143, 80, 34, 35, 38, 144, 145, 146, 147, 257, 258, 259, 260, 261, 262, 263, 264, 267, 268, 269, 270, 271, 272, 273, 274, 275, 276, 277, 278, 279, 280, 265, 266] rfl (by decide +kernel)) (goodIn_sub (fun _ h => List.mem_cons_of_mem _ (List.mem_append_left _ (List.mem_append_left _ (List.mem_append_right _ h)))) (by decide +kernel))) (goodIn_sub (fun _ h => List.mem_cons_of_mem _ (List.mem_append_left _ (List.mem_append_right _ h))) (by decide +kernel))
set_option maxRecDepth 20000 in
theorem gL_act_L_metronome : GoodIn wsL_act (va_wsS RL 55 yL_metronome wsL_metronome) := goodIn_app (goodIn_of _ (by decide +kernel)) ggL_act_L_metronome
set_option maxRecDepth 20000 in
theorem ggL_act_X4_weigh : GoodIn wsL_act wsX4_weigh := goodIn_ca (goodIn_ca (goodIn_r _ [151, 152, 153, 11, 12, 21, 20, 154, 100, 101, 31, 102, 33, 117, 118, 9, 119, 13, 14, 15, 127, 128, 129, 25, 130, 27, 131, 132, 133, 134, 135, 136, 137, 138, 139, 140, 57, 48, 47, 141, 36, 37, 142, 143, 80, 34, 35, 38, 155, 156, 157, 158, 99, 257, 258, 259, 260, 261, 262, 263, 264, 267, 268, 269, 270, 271, 272, 273, 274, 275, 276, 277, 278, 279, 280, 265, 266] rfl (by decide +kernel)) (goodIn_sub (fun _ h => List.mem_cons_of_mem _ (List.mem_append_right _ h)) (by decide +kernel))) (goodIn_sub (fun _ h => List.mem_cons_of_mem _ (List.mem_append_left _ (List.mem_append_left _ (List.mem_append_right _ h)))) (by decide +kernel))
set_option maxRecDepth 20000 in
theorem gL_act_X4_weigh : GoodIn wsL_act (wsV RL 58 RX4 yX4_weigh wsX4_weigh) := goodIn_app (goodIn_of _ (by decide +kernel)) ggL_act_X4_weigh
set_option maxRecDepth 20000 in
theorem ggL_act_X4_wind : GoodIn wsL_act wsX4_wind := goodIn_ca (goodIn_ca (goodIn_r _ [162, 152, 153, 11, 12, 21, 20, 154, 100, 101, 31, 102, 33, 120, 121, 9, 122, 13, 14, 15, 127, 128, 129, 25, 130, 27, 131, 132, 133, 134, 135, 136, 137, 138, 139, 140, 57, 48, 47, 141, 36, 37, 142, 143, 80, 34, 35, 38, 163, 164, 165, 166, 99, 257, 258, 259, 260, 261, 262, 263, 264, 267, 268, 269, 270, 271, 272, 273, 274, 275, 276, 277, 278, 279, 280, 265, 266] rfl (by decide +kernel)) (goodIn_sub (fun _ h => List.mem_cons_of_mem _ (List.mem_append_right _ h)) (by decide +kernel))) (goodIn_sub (fun _ h => List.mem_cons_of_mem _ (List.mem_append_left _ (List.mem_append_left _ (List.mem_append_right _ h)))) (by decide +kernel))
set_option maxRecDepth 20000 in
theorem gL_act_X4_wind : GoodIn wsL_act (wsV RL 61 RX4 yX4_wind wsX4_wind) := goodIn_app (goodIn_of _ (by decide +kernel)) ggL_act_X4_wind
set_option maxRecDepth 20000 in
theorem ggL_act_X4_hold : GoodIn wsL_act wsX4_hold := goodIn_ca (goodIn_r _ [170, 152, 153, 21, 20, 154, 100, 101, 31, 102, 33, 127, 128, 129, 25, 130, 27, 131, 132, 133, 134, 135, 136, 137, 138, 139, 140, 57, 48, 47, 141, 36, 37, 142, 143, 80, 34, 35, 38, 171, 172, 173, 174, 99, 257, 258, 259, 260, 261, 262, 263, 264, 267, 268, 269, 270, 271, 272, 273, 274, 275, 276, 277, 278, 279, 280, 265, 266] rfl (by decide +kernel)) (goodIn_sub (fun _ h => List.mem_cons_of_mem _ (List.mem_append_right _ h)) (by decide +kernel))
set_option maxRecDepth 20000 in
theorem gL_act_X4_hold : GoodIn wsL_act (wsV RL 64 RX4 yX4_hold wsX4_hold) := goodIn_app (goodIn_of _ (by decide +kernel)) ggL_act_X4_hold
set_option maxRecDepth 20000 in
theorem ggL_act_L_take : GoodIn wsL_act wsL_take := goodIn_ca (goodIn_r _ [177, 110, 178, 179, 180, 9, 181, 115, 116, 21, 20, 182, 183, 184, 31, 185, 33, 127, 128, 129, 25, 130, 27, 131, 132, 133, 134, 135, 136, 137, 138, 139, 140, 57, 48, 47, 141, 36, 37, 142, 143, 80, 34, 35, 38, 186, 187, 188, 189, 257, 258, 259, 260, 261, 262, 263, 264, 267, 268, 269, 270, 271, 272, 273, 274, 275, 276, 277, 278, 279, 280, 265, 266] rfl (by decide +kernel)) (goodIn_sub (fun _ h => List.mem_cons_of_mem _ (List.mem_append_left _ (List.mem_append_right _ h))) (by decide +kernel))
set_option maxRecDepth 20000 in
theorem gL_act_L_take : GoodIn wsL_act (va_wsS RL 67 yL_take wsL_take) := goodIn_app (goodIn_of _ (by decide +kernel)) ggL_act_L_take
set_option maxRecDepth 20000 in
theorem ggL_act_X4_stop : GoodIn wsL_act wsX4_stop := goodIn_r _ [193, 20, 21, 127, 128, 129, 25, 130, 27, 131, 132, 133, 134, 135, 136, 137, 138, 31, 139, 140, 57, 48, 47, 141, 33, 36, 37, 142, 143, 80, 34, 35, 38, 194, 195, 196, 197, 93, 94, 87, 95, 257, 258, 259, 260, 261, 262, 263, 264, 265, 266, 267, 268, 269, 270, 271, 272, 273, 274, 275, 276, 277, 278, 279, 280] rfl (by decide +kernel)
set_option maxRecDepth 20000 in
theorem gL_act_X4_stop : GoodIn wsL_act (wsV RL 70 RX4 yX4_stop wsX4_stop) := goodIn_app (goodIn_of _ (by decide +kernel)) ggL_act_X4_stop
set_option maxRecDepth 20000 in
theorem ggL_act_X4_run : GoodIn wsL_act wsX4_run := goodIn_ca (goodIn_ca (goodIn_r _ [201, 11, 12, 115, 116, 21, 20, 13, 14, 9, 15, 202, 203, 204, 31, 205, 34, 206, 127, 128, 129, 25, 130, 27, 131, 132, 133, 134, 135, 136, 137, 138, 139, 140, 57, 48, 47, 141, 33, 36, 37, 142, 143, 80, 35, 38, 207, 208, 209, 210, 211, 212, 213, 214, 215, 216, 217, 218, 39, 40, 41, 42, 43, 44, 45, 46, 53, 54, 55, 56, 58, 59, 60, 61, 62, 63, 64, 65, 66, 67, 219, 220, 221, 222, 99, 100, 101, 102, 223, 224, 225, 226, 227, 257, 258, 259, 260, 261, 262, 263, 264, 267, 268, 269, 270, 271, 272, 273, 274, 275, 276, 277, 278, 279, 280, 265, 266] rfl (by decide +kernel)) (goodIn_sub (fun _ h => List.mem_cons_of_mem _ (List.mem_append_left _ (List.mem_append_left _ (List.mem_append_right _ h)))) (by decide +kernel))) (goodIn_sub (fun _ h => List.mem_cons_of_mem _ (List.mem_append_left _ (List.mem_append_right _ h))) (by decide +kernel))
set_option maxRecDepth 20000 in
theorem gL_act_X4_run : GoodIn wsL_act (wsV RL 73 RX4 yX4_run wsX4_run) := goodIn_app (goodIn_of _ (by decide +kernel)) ggL_act_X4_run
set_option maxRecDepth 20000 in
theorem ggL_act_X4_set : GoodIn wsL_act wsX4_set := goodIn_ca (goodIn_ca (goodIn_r _ [231, 152, 153, 11, 12, 20, 21, 232, 233, 9, 234, 13, 14, 15, 235, 236, 237, 127, 128, 129, 25, 130, 27, 131, 132, 133, 134, 135, 136, 137, 138, 31, 139, 140, 57, 48, 47, 141, 33, 36, 37, 142, 143, 80, 34, 35, 38, 238, 239, 240, 241, 242, 243, 244, 245, 257, 258, 259, 260, 261, 262, 263, 264, 265, 266, 267, 268, 269, 270, 271, 272, 273, 274, 275, 276, 277, 278, 279, 280] rfl (by decide +kernel)) (goodIn_sub (fun _ h => List.mem_cons_of_mem _ (List.mem_append_right _ h)) (by decide +kernel))) (goodIn_sub (fun _ h => List.mem_cons_of_mem _ (List.mem_append_left _ (List.mem_append_left _ (List.mem_append_right _ h)))) (by decide +kernel))
set_option maxRecDepth 20000 in
theorem gL_act_X4_set : GoodIn wsL_act (wsV RL 76 RX4 yX4_set wsX4_set) := goodIn_app (goodIn_of _ (by decide +kernel)) ggL_act_X4_set
set_option maxRecDepth 20000 in
theorem ggL_act_L_undo : GoodIn wsL_act wsL_undo := goodIn_ca (goodIn_r _ [248, 110, 249, 250, 251, 9, 252, 115, 116, 20, 21, 22, 23, 24, 25, 26, 27, 253, 254, 255, 256, 131, 136, 137, 138, 31, 139, 140, 57, 48, 47, 141, 33, 36, 37, 142, 143, 80, 34, 35, 38, 257, 258, 259, 260, 261, 262, 263, 264, 265, 266, 267, 268, 269, 270, 271, 272, 273, 274, 275, 276, 277, 278, 279, 280] rfl (by decide +kernel)) (goodIn_sub (fun _ h => List.mem_cons_of_mem _ (List.mem_append_left _ (List.mem_append_right _ h))) (by decide +kernel))
set_option maxRecDepth 20000 in
theorem gL_act_L_undo : GoodIn wsL_act (va_wsS RL 79 yL_undo wsL_undo) := goodIn_app (goodIn_of _ (by decide +kernel)) ggL_act_L_undo
theorem dL_act_0 : decode cL_act 0 = .ok (.aload_n 1, 1) := by decide +kernel
theorem dL_act_1 : decode cL_act 1 = .ok (.iload_n 2, 1) := by decide +kernel
theorem dL_act_2 : decode cL_act 2 = .ok (.iconst 1, 1) := by decide +kernel
theorem dL_act_3 : decode cL_act 3 = .ok (.iadd, 1) := by decide +kernel
theorem dL_act_4 : decode cL_act 4 = .ok (.invokestatic 46, 3) := by decide +kernel
theorem dL_act_7 : decode cL_act 7 = .ok (.istore_n 3, 1) := by decide +kernel
theorem dL_act_8 : decode cL_act 8 = .ok (.aload_n 1, 1) := by decide +kernel
theorem dL_act_9 : decode cL_act 9 = .ok (.iload_n 2, 1) := by decide +kernel
theorem dL_act_10 : decode cL_act 10 = .ok (.iconst 2, 1) := by decide +kernel
theorem dL_act_11 : decode cL_act 11 = .ok (.iadd, 1) := by decide +kernel
theorem dL_act_12 : decode cL_act 12 = .ok (.invokestatic 46, 3) := by decide +kernel
theorem dL_act_15 : decode cL_act 15 = .ok (.istore 4, 2) := by decide +kernel
theorem dL_act_17 : decode cL_act 17 = .ok (.aload_n 0, 1) := by decide +kernel
theorem dL_act_18 : decode cL_act 18 = .ok (.iconst 0, 1) := by decide +kernel
theorem dL_act_19 : decode cL_act 19 = .ok (.invokevirtual 24, 3) := by decide +kernel
theorem dL_act_22 : decode cL_act 22 = .ok (.istore 5, 2) := by decide +kernel
theorem dL_act_24 : decode cL_act 24 = .ok (.iload 5, 2) := by decide +kernel
theorem dL_act_26 : decode cL_act 26 = .ok (.ifCond .ne 7, 3) := by decide +kernel
theorem dL_act_29 : decode cL_act 29 = .ok (.iconst 0, 1) := by decide +kernel
theorem dL_act_30 : decode cL_act 30 = .ok (.goto 9, 3) := by decide +kernel
theorem dL_act_33 : decode cL_act 33 = .ok (.iload_n 3, 1) := by decide +kernel
theorem dL_act_34 : decode cL_act 34 = .ok (.iload 5, 2) := by decide +kernel
theorem dL_act_36 : decode cL_act 36 = .ok (.invokestatic 52, 3) := by decide +kernel
theorem dL_act_39 : decode cL_act 39 = .ok (.istore 6, 2) := by decide +kernel
theorem dL_act_41 : decode cL_act 41 = .ok (.aload_n 1, 1) := by decide +kernel
theorem dL_act_42 : decode cL_act 42 = .ok (.iload_n 2, 1) := by decide +kernel
theorem dL_act_43 : decode cL_act 43 = .ok (.invokestatic 46, 3) := by decide +kernel
theorem dL_act_46 : decode cL_act 46 = .ok (.bipush 18, 2) := by decide +kernel
theorem dL_act_48 : decode cL_act 48 = .ok (.invokestatic 52, 3) := by decide +kernel
theorem dL_act_51 : decode cL_act 51 = .ok (.tableswitch 253 0 15 #[77, 77, 77, 110, 138, 138, 162, 179, 200, 200, 200, 200, 200, 213, 226, 239], 77) := by decide +kernel
theorem dL_act_128 : decode cL_act 128 = .ok (.aload_n 0, 1) := by decide +kernel
theorem dL_act_129 : decode cL_act 129 = .ok (.bipush 40, 2) := by decide +kernel
theorem dL_act_131 : decode cL_act 131 = .ok (.iload_n 3, 1) := by decide +kernel
theorem dL_act_132 : decode cL_act 132 = .ok (.sipush 169, 3) := by decide +kernel
theorem dL_act_135 : decode cL_act 135 = .ok (.invokestatic 52, 3) := by decide +kernel
theorem dL_act_138 : decode cL_act 138 = .ok (.iadd, 1) := by decide +kernel
theorem dL_act_139 : decode cL_act 139 = .ok (.iload 4, 2) := by decide +kernel
theorem dL_act_141 : decode cL_act 141 = .ok (.sipush 3600, 3) := by decide +kernel
theorem dL_act_144 : decode cL_act 144 = .ok (.invokestatic 52, 3) := by decide +kernel
theorem dL_act_147 : decode cL_act 147 = .ok (.iload_n 3, 1) := by decide +kernel
theorem dL_act_148 : decode cL_act 148 = .ok (.iload 4, 2) := by decide +kernel
theorem dL_act_150 : decode cL_act 150 = .ok (.iadd, 1) := by decide +kernel
theorem dL_act_151 : decode cL_act 151 = .ok (.sipush 1000, 3) := by decide +kernel
theorem dL_act_154 : decode cL_act 154 = .ok (.invokestatic 52, 3) := by decide +kernel
theorem dL_act_157 : decode cL_act 157 = .ok (.invokestatic 55, 3) := by decide +kernel
theorem dL_act_160 : decode cL_act 160 = .ok (.ireturn, 1) := by decide +kernel
theorem dL_act_161 : decode cL_act 161 = .ok (.iload 5, 2) := by decide +kernel
theorem dL_act_163 : decode cL_act 163 = .ok (.ifCond .ne 8, 3) := by decide +kernel
theorem dL_act_166 : decode cL_act 166 = .ok (.bipush (-3), 2) := by decide +kernel
theorem dL_act_168 : decode cL_act 168 = .ok (.goto 20, 3) := by decide +kernel
theorem dL_act_171 : decode cL_act 171 = .ok (.aload_n 0, 1) := by decide +kernel
theorem dL_act_172 : decode cL_act 172 = .ok (.iload 6, 2) := by decide +kernel
theorem dL_act_174 : decode cL_act 174 = .ok (.bipush 40, 2) := by decide +kernel
theorem dL_act_176 : decode cL_act 176 = .ok (.iload 4, 2) := by decide +kernel
theorem dL_act_178 : decode cL_act 178 = .ok (.sipush 169, 3) := by decide +kernel
theorem dL_act_181 : decode cL_act 181 = .ok (.invokestatic 52, 3) := by decide +kernel
theorem dL_act_184 : decode cL_act 184 = .ok (.iadd, 1) := by decide +kernel
theorem dL_act_185 : decode cL_act 185 = .ok (.invokevirtual 58, 3) := by decide +kernel
theorem dL_act_188 : decode cL_act 188 = .ok (.ireturn, 1) := by decide +kernel
theorem dL_act_189 : decode cL_act 189 = .ok (.iload 5, 2) := by decide +kernel
theorem dL_act_191 : decode cL_act 191 = .ok (.ifCond .ne 8, 3) := by decide +kernel
theorem dL_act_194 : decode cL_act 194 = .ok (.bipush (-3), 2) := by decide +kernel
theorem dL_act_196 : decode cL_act 196 = .ok (.goto 16, 3) := by decide +kernel
theorem dL_act_199 : decode cL_act 199 = .ok (.aload_n 0, 1) := by decide +kernel
theorem dL_act_200 : decode cL_act 200 = .ok (.iload 6, 2) := by decide +kernel
theorem dL_act_202 : decode cL_act 202 = .ok (.iload 4, 2) := by decide +kernel
theorem dL_act_204 : decode cL_act 204 = .ok (.bipush 30, 2) := by decide +kernel
theorem dL_act_206 : decode cL_act 206 = .ok (.invokestatic 52, 3) := by decide +kernel
theorem dL_act_209 : decode cL_act 209 = .ok (.invokevirtual 61, 3) := by decide +kernel
theorem dL_act_212 : decode cL_act 212 = .ok (.ireturn, 1) := by decide +kernel
theorem dL_act_213 : decode cL_act 213 = .ok (.iload 5, 2) := by decide +kernel
theorem dL_act_215 : decode cL_act 215 = .ok (.ifCond .ne 8, 3) := by decide +kernel
theorem dL_act_218 : decode cL_act 218 = .ok (.bipush (-3), 2) := by decide +kernel
theorem dL_act_220 : decode cL_act 220 = .ok (.goto 9, 3) := by decide +kernel
theorem dL_act_223 : decode cL_act 223 = .ok (.aload_n 0, 1) := by decide +kernel
theorem dL_act_224 : decode cL_act 224 = .ok (.iload 6, 2) := by decide +kernel
theorem dL_act_226 : decode cL_act 226 = .ok (.invokevirtual 64, 3) := by decide +kernel
theorem dL_act_229 : decode cL_act 229 = .ok (.ireturn, 1) := by decide +kernel
theorem dL_act_230 : decode cL_act 230 = .ok (.iload 4, 2) := by decide +kernel
theorem dL_act_232 : decode cL_act 232 = .ok (.iconst 2, 1) := by decide +kernel
theorem dL_act_233 : decode cL_act 233 = .ok (.invokestatic 52, 3) := by decide +kernel
theorem dL_act_236 : decode cL_act 236 = .ok (.ifCond .ne 10, 3) := by decide +kernel
theorem dL_act_239 : decode cL_act 239 = .ok (.aload_n 0, 1) := by decide +kernel
theorem dL_act_240 : decode cL_act 240 = .ok (.invokestatic 67, 3) := by decide +kernel
theorem dL_act_243 : decode cL_act 243 = .ok (.goto 7, 3) := by decide +kernel
theorem dL_act_246 : decode cL_act 246 = .ok (.aload_n 0, 1) := by decide +kernel
theorem dL_act_247 : decode cL_act 247 = .ok (.invokevirtual 70, 3) := by decide +kernel
theorem dL_act_250 : decode cL_act 250 = .ok (.ireturn, 1) := by decide +kernel
theorem dL_act_251 : decode cL_act 251 = .ok (.aload_n 0, 1) := by decide +kernel
theorem dL_act_252 : decode cL_act 252 = .ok (.iconst 1, 1) := by decide +kernel
theorem dL_act_253 : decode cL_act 253 = .ok (.iload_n 3, 1) := by decide +kernel
theorem dL_act_254 : decode cL_act 254 = .ok (.bipush 60, 2) := by decide +kernel
theorem dL_act_256 : decode cL_act 256 = .ok (.invokestatic 52, 3) := by decide +kernel
theorem dL_act_259 : decode cL_act 259 = .ok (.iadd, 1) := by decide +kernel
theorem dL_act_260 : decode cL_act 260 = .ok (.invokevirtual 73, 3) := by decide +kernel
theorem dL_act_263 : decode cL_act 263 = .ok (.ireturn, 1) := by decide +kernel
theorem dL_act_264 : decode cL_act 264 = .ok (.aload_n 0, 1) := by decide +kernel
theorem dL_act_265 : decode cL_act 265 = .ok (.iconst 0, 1) := by decide +kernel
theorem dL_act_266 : decode cL_act 266 = .ok (.iload 4, 2) := by decide +kernel
theorem dL_act_268 : decode cL_act 268 = .ok (.bipush 96, 2) := by decide +kernel
theorem dL_act_270 : decode cL_act 270 = .ok (.invokestatic 52, 3) := by decide +kernel
theorem dL_act_273 : decode cL_act 273 = .ok (.invokevirtual 76, 3) := by decide +kernel
theorem dL_act_276 : decode cL_act 276 = .ok (.ireturn, 1) := by decide +kernel
theorem dL_act_277 : decode cL_act 277 = .ok (.aload_n 0, 1) := by decide +kernel
theorem dL_act_278 : decode cL_act 278 = .ok (.iconst 1, 1) := by decide +kernel
theorem dL_act_279 : decode cL_act 279 = .ok (.iload 4, 2) := by decide +kernel
theorem dL_act_281 : decode cL_act 281 = .ok (.bipush 100, 2) := by decide +kernel
theorem dL_act_283 : decode cL_act 283 = .ok (.invokestatic 52, 3) := by decide +kernel
theorem dL_act_286 : decode cL_act 286 = .ok (.invokevirtual 76, 3) := by decide +kernel
theorem dL_act_289 : decode cL_act 289 = .ok (.ireturn, 1) := by decide +kernel
theorem dL_act_290 : decode cL_act 290 = .ok (.aload_n 0, 1) := by decide +kernel
theorem dL_act_291 : decode cL_act 291 = .ok (.iconst 2, 1) := by decide +kernel
theorem dL_act_292 : decode cL_act 292 = .ok (.iload 4, 2) := by decide +kernel
theorem dL_act_294 : decode cL_act 294 = .ok (.sipush 901, 3) := by decide +kernel
theorem dL_act_297 : decode cL_act 297 = .ok (.invokestatic 52, 3) := by decide +kernel
theorem dL_act_300 : decode cL_act 300 = .ok (.invokevirtual 76, 3) := by decide +kernel
theorem dL_act_303 : decode cL_act 303 = .ok (.ireturn, 1) := by decide +kernel
theorem dL_act_304 : decode cL_act 304 = .ok (.aload_n 0, 1) := by decide +kernel
theorem dL_act_305 : decode cL_act 305 = .ok (.invokestatic 79, 3) := by decide +kernel
theorem dL_act_308 : decode cL_act 308 = .ok (.ireturn, 1) := by decide +kernel
set_option maxRecDepth 20000 in
theorem ggL_law_X4_init : GoodIn wsL_law wsX4_init := goodIn_r _ [5, 6, 7, 8, 9, 10, 11, 12, 13, 14, 15, 16, 17, 18, 19, 20, 21, 22, 23, 24, 25, 26, 27, 28, 29, 30, 31, 32, 33, 34, 35, 36, 37, 38, 39, 40, 41, 42, 43, 44, 45, 46, 47, 48, 49, 50, 51, 52, 53, 54, 55, 56, 57, 58, 59, 378, 379, 380, 381, 382, 383, 384, 385, 386, 387, 388, 389, 390, 391, 370, 371, 372, 373, 374, 375, 376, 377, 392, 393, 394, 395, 396, 397, 398, 399, 400, 401, 402, 403, 404, 405] rfl (by decide +kernel)
set_option maxRecDepth 20000 in
theorem gL_law_X4_init : GoodIn wsL_law (wsX4_init) := ggL_law_X4_init
set_option maxRecDepth 20000 in
theorem ggL_law_X4_count : GoodIn wsL_law wsX4_count := goodIn_ca (goodIn_r _ [63, 64, 65, 66, 67, 2, 68, 69, 70, 71, 72, 21, 12, 73, 74, 75, 20, 76, 77, 78, 79, 80, 11, 81, 82, 83, 84, 85, 86, 87, 88, 89, 90, 91, 92, 93, 94, 95, 38, 37, 96, 97, 98, 99, 100, 101, 102, 103, 36, 104, 105, 106, 107, 108, 109, 110, 111, 112, 113, 114, 115, 116, 117, 118, 119, 120, 121, 122, 123, 124, 125, 42, 126, 127, 128, 129, 130, 131, 132, 133, 134, 135, 136, 137, 138, 139, 140, 141, 142, 143, 144, 145, 146, 147, 370, 371, 372, 373, 374, 375, 376, 377, 392, 393, 378, 379, 380, 381, 382, 383, 384, 385, 386, 387, 388, 389, 390, 391] rfl (by decide +kernel)) (goodIn_sub (fun _ h => List.mem_append_left _ (List.mem_append_left _ (List.mem_append_right _ h))) (by decide +kernel))
set_option maxRecDepth 20000 in
theorem gL_law_X4_count : GoodIn wsL_law (wsV RL 24 RX4 yX4_count wsX4_count) := goodIn_app (goodIn_of _ (by decide +kernel)) ggL_law_X4_count
set_option maxRecDepth 20000 in
theorem ggL_law_L_springs : GoodIn wsL_law wsL_springs := goodIn_ca (goodIn_ca (goodIn_r _ [151, 60, 61, 62, 2, 63, 64, 65, 66, 67, 68, 69, 70, 71, 72, 21, 12, 73, 74, 75, 20, 76, 77, 78, 79, 80, 11, 81, 82, 83, 84, 85, 86, 87, 88, 89, 90, 91, 92, 93, 94, 95, 38, 37, 96, 97, 98, 99, 100, 101, 102, 103, 36, 104, 105, 106, 107, 108, 109, 110, 111, 112, 113, 114, 115, 116, 117, 118, 119, 120, 121, 122, 123, 124, 125, 42, 126, 127, 128, 129, 130, 131, 132, 133, 134, 135, 136, 137, 138, 139, 140, 141, 142, 143, 144, 145, 146, 147, 152, 153, 154, 155, 156, 157, 158, 159, 160, 161, 162, 35, 39, 163, 164, 165, 166, 41, 167, 370, 371, 372, 373, 374, 375, 376, 377, 392, 393, 378, 379, 380, 381, 382, 383, 384, 385, 386, 387, 388, 389, 390, 391] rfl (by decide +kernel)) (goodIn_sub (fun _ h => List.mem_append_left _ (List.mem_append_left _ (List.mem_append_right _ h))) (by decide +kernel))) (goodIn_sub (fun _ h => List.mem_append_left _ (List.mem_append_right _ h)) (by decide +kernel))
set_option maxRecDepth 20000 in
theorem gL_law_L_springs : GoodIn wsL_law (va_wsS RL 82 yL_springs wsL_springs) := goodIn_app (goodIn_of _ (by decide +kernel)) ggL_law_L_springs
set_option maxRecDepth 20000 in
theorem ggL_law_L_cell : GoodIn wsL_law wsL_cell := goodIn_r _ [170, 171] rfl (by decide +kernel)
set_option maxRecDepth 20000 in
theorem gL_law_L_cell : GoodIn wsL_law (va_wsS RL 46 yL_cell wsL_cell) := goodIn_app (goodIn_of _ (by decide +kernel)) ggL_law_L_cell
set_option maxRecDepth 20000 in
theorem ggL_law_L_low : GoodIn wsL_law wsL_low := goodIn_r _ [174, 175] rfl (by decide +kernel)
set_option maxRecDepth 20000 in
theorem gL_law_L_low : GoodIn wsL_law (va_wsS RL 52 yL_low wsL_low) := goodIn_app (goodIn_of _ (by decide +kernel)) ggL_law_L_low
set_option maxRecDepth 20000 in
theorem ggL_law_X4_setting : GoodIn wsL_law wsX4_setting := goodIn_ca (goodIn_r _ [179, 156, 157, 12, 180, 181, 2, 182, 66, 67, 68, 183, 184, 185, 11, 186, 40, 41, 42, 370, 371, 372, 373, 374, 375, 376, 377, 378, 379, 380, 381, 382, 383, 384, 385, 386, 387, 388, 389, 390, 391] rfl (by decide +kernel)) (goodIn_sub (fun _ h => List.mem_append_left _ (List.mem_append_right _ h)) (by decide +kernel))
set_option maxRecDepth 20000 in
theorem gL_law_X4_setting : GoodIn wsL_law (wsV RL 39 RX4 yX4_setting wsX4_setting) := goodIn_app (goodIn_of _ (by decide +kernel)) ggL_law_X4_setting
set_option maxRecDepth 20000 in
theorem ggL_law_X4_ifRun : GoodIn wsL_law wsX4_ifRun := goodIn_ca (goodIn_r _ [190, 64, 65, 66, 67, 2, 68, 191, 192, 193, 194, 13, 12, 195, 196, 197, 11, 198, 35, 36, 37, 38, 39, 82, 85, 86, 40, 41, 42, 83, 84, 87, 199, 200, 201, 202, 203, 184, 185, 186, 204, 205, 206, 207, 208, 209, 210, 211, 88, 89, 90, 91, 92, 93, 94, 95, 100, 101, 102, 103, 104, 105, 106, 107, 108, 109, 110, 111, 112, 113, 212, 213, 214, 215, 144, 145, 146, 147, 163, 164, 165, 166, 167, 216, 217, 218, 219, 220, 221, 222, 223, 224, 97, 98, 99, 114, 115, 116, 117, 225, 127, 128, 129, 130, 131, 132, 133, 134, 135, 136, 137, 138, 139, 140, 141, 142, 143, 226, 227, 228, 229, 230, 370, 371, 372, 373, 374, 375, 376, 377, 378, 379, 380, 381, 382, 383, 384, 385, 386, 387, 388, 389, 390, 391] rfl (by decide +kernel)) (goodIn_sub (fun _ h => List.mem_append_left _ (List.mem_append_left _ (List.mem_append_right _ h))) (by decide +kernel))
set_option maxRecDepth 20000 in
theorem gL_law_X4_ifRun : GoodIn wsL_law (wsV RL 85 RX4 yX4_ifRun wsX4_ifRun) := goodIn_app (goodIn_of _ (by decide +kernel)) ggL_law_X4_ifRun
set_option maxRecDepth 20000 in
theorem ggL_law_L_act : GoodIn wsL_law wsL_act := goodIn_ca (goodIn_ca (goodIn_ca (goodIn_r _ [233, 168, 169, 150, 170, 171, 60, 61, 62, 2, 63, 64, 65, 66, 67, 68, 69, 70, 71, 72, 21, 12, 73, 74, 75, 20, 76, 77, 78, 79, 80, 11, 81, 82, 83, 84, 85, 86, 87, 88, 89, 90, 91, 92, 93, 94, 95, 38, 37, 96, 97, 98, 99, 100, 101, 102, 103, 36, 104, 105, 106, 107, 108, 109, 110, 111, 112, 113, 114, 115, 116, 117, 118, 119, 120, 121, 122, 123, 124, 125, 42, 126, 127, 128, 129, 130, 131, 132, 133, 134, 135, 136, 137, 138, 139, 140, 141, 142, 143, 144, 145, 146, 147, 172, 173, 174, 175, 234, 235, 236, 237, 238, 239, 240, 241, 242, 243, 244, 245, 246, 247, 248, 249, 250, 251, 252, 253, 254, 255, 256, 257, 48, 258, 259, 260, 261, 262, 196, 197, 198, 35, 39, 40, 41, 263, 264, 265, 266, 267, 268, 269, 270, 156, 157, 158, 271, 272, 273, 274, 275, 276, 277, 278, 279, 280, 281, 282, 283, 284, 285, 286, 287, 288, 289, 290, 291, 292, 293, 294, 295, 296, 297, 298, 299, 300, 301, 302, 303, 304, 305, 306, 307, 308, 309, 310, 311, 312, 313, 314, 315, 316, 317, 318, 319, 320, 321, 322, 323, 324, 325, 326, 327, 205, 206, 207, 208, 209, 210, 211, 212, 213, 214, 215, 163, 164, 165, 166, 167, 328, 329, 330, 331, 180, 181, 182, 332, 333, 334, 199, 200, 201, 202, 203, 184, 185, 186, 335, 336, 337, 338, 339, 340, 341, 342, 343, 344, 345, 370, 371, 372, 373, 374, 375, 376, 377, 392, 393, 378, 379, 380, 381, 382, 383, 384, 385, 386, 387, 388, 389, 390, 391] rfl (by decide +kernel)) (goodIn_sub (fun _ h => List.mem_append_left _ (List.mem_append_left _ (List.mem_append_right _ h))) (by decide +kernel))) (goodIn_sub (fun _ h => List.mem_append_right _ h) (by decide +kernel))) (goodIn_sub (fun _ h => List.mem_append_left _ (List.mem_append_right _ h)) (by decide +kernel))
set_option maxRecDepth 20000 in
theorem gL_law_L_act : GoodIn wsL_law (va_wsS RL 88 yL_act wsL_act) := goodIn_app (goodIn_of _ (by decide +kernel)) ggL_law_L_act
set_option maxRecDepth 20000 in
theorem ggL_law_L_bench : GoodIn wsL_law wsL_bench := goodIn_ca (goodIn_ca (goodIn_r _ [348, 60, 61, 62, 2, 63, 64, 65, 66, 67, 68, 69, 70, 71, 72, 21, 12, 73, 74, 75, 20, 76, 77, 78, 79, 80, 11, 81, 82, 83, 84, 85, 86, 87, 88, 89, 90, 91, 92, 93, 94, 95, 38, 37, 96, 97, 98, 99, 100, 101, 102, 103, 36, 104, 105, 106, 107, 108, 109, 110, 111, 112, 113, 114, 115, 116, 117, 118, 119, 120, 121, 122, 123, 124, 125, 42, 126, 127, 128, 129, 130, 131, 132, 133, 134, 135, 136, 137, 138, 139, 140, 141, 142, 143, 144, 145, 146, 147, 152, 153, 154, 155, 156, 157, 158, 159, 160, 161, 162, 35, 39, 163, 164, 165, 166, 41, 167, 349, 350, 351, 352, 353, 354, 355, 356, 357, 358, 359, 360, 361, 176, 177, 178, 179, 180, 181, 182, 183, 184, 185, 186, 40, 362, 363, 364, 365, 366, 367, 368, 369, 370, 371, 372, 373, 374, 375, 376, 377, 392, 393, 378, 379, 380, 381, 382, 383, 384, 385, 386, 387, 388, 389, 390, 391] rfl (by decide +kernel)) (goodIn_sub (fun _ h => List.mem_append_left _ (List.mem_append_left _ (List.mem_append_right _ h))) (by decide +kernel))) (goodIn_sub (fun _ h => List.mem_append_left _ (List.mem_append_right _ h)) (by decide +kernel))
set_option maxRecDepth 20000 in
theorem gL_law_L_bench : GoodIn wsL_law (va_wsS RL 92 yL_bench wsL_bench) := goodIn_app (goodIn_of _ (by decide +kernel)) ggL_law_L_bench
theorem dL_law_0 : decode cL_law 0 = .ok (.new 10, 3) := by decide +kernel
theorem dL_law_3 : decode cL_law 3 = .ok (.dup, 1) := by decide +kernel
theorem dL_law_4 : decode cL_law 4 = .ok (.invokespecial 81, 3) := by decide +kernel
theorem dL_law_7 : decode cL_law 7 = .ok (.astore_n 1, 1) := by decide +kernel
theorem dL_law_8 : decode cL_law 8 = .ok (.iconst 1, 1) := by decide +kernel
theorem dL_law_9 : decode cL_law 9 = .ok (.istore_n 2, 1) := by decide +kernel
theorem dL_law_10 : decode cL_law 10 = .ok (.aload_n 0, 1) := by decide +kernel
theorem dL_law_11 : decode cL_law 11 = .ok (.arraylength, 1) := by decide +kernel
theorem dL_law_12 : decode cL_law 12 = .ok (.iconst 3, 1) := by decide +kernel
theorem dL_law_13 : decode cL_law 13 = .ok (.idiv, 1) := by decide +kernel
theorem dL_law_14 : decode cL_law 14 = .ok (.bipush 44, 2) := by decide +kernel
theorem dL_law_16 : decode cL_law 16 = .ok (.if_icmp .le 8, 3) := by decide +kernel
theorem dL_law_19 : decode cL_law 19 = .ok (.bipush 44, 2) := by decide +kernel
theorem dL_law_21 : decode cL_law 21 = .ok (.goto 7, 3) := by decide +kernel
theorem dL_law_24 : decode cL_law 24 = .ok (.aload_n 0, 1) := by decide +kernel
theorem dL_law_25 : decode cL_law 25 = .ok (.arraylength, 1) := by decide +kernel
theorem dL_law_26 : decode cL_law 26 = .ok (.iconst 3, 1) := by decide +kernel
theorem dL_law_27 : decode cL_law 27 = .ok (.idiv, 1) := by decide +kernel
theorem dL_law_28 : decode cL_law 28 = .ok (.istore_n 3, 1) := by decide +kernel
theorem dL_law_29 : decode cL_law 29 = .ok (.iconst 0, 1) := by decide +kernel
theorem dL_law_30 : decode cL_law 30 = .ok (.istore 4, 2) := by decide +kernel
theorem dL_law_32 : decode cL_law 32 = .ok (.iload 4, 2) := by decide +kernel
theorem dL_law_34 : decode cL_law 34 = .ok (.iload_n 3, 1) := by decide +kernel
theorem dL_law_35 : decode cL_law 35 = .ok (.if_icmp .ge 260, 3) := by decide +kernel
theorem dL_law_38 : decode cL_law 38 = .ok (.iload_n 2, 1) := by decide +kernel
theorem dL_law_39 : decode cL_law 39 = .ok (.ifCond .eq 256, 3) := by decide +kernel
theorem dL_law_42 : decode cL_law 42 = .ok (.aload_n 1, 1) := by decide +kernel
theorem dL_law_43 : decode cL_law 43 = .ok (.bipush 11, 2) := by decide +kernel
theorem dL_law_45 : decode cL_law 45 = .ok (.invokevirtual 24, 3) := by decide +kernel
theorem dL_law_48 : decode cL_law 48 = .ok (.istore 5, 2) := by decide +kernel
theorem dL_law_50 : decode cL_law 50 = .ok (.aload_n 1, 1) := by decide +kernel
theorem dL_law_51 : decode cL_law 51 = .ok (.iconst 0, 1) := by decide +kernel
theorem dL_law_52 : decode cL_law 52 = .ok (.invokevirtual 24, 3) := by decide +kernel
theorem dL_law_55 : decode cL_law 55 = .ok (.istore 6, 2) := by decide +kernel
theorem dL_law_57 : decode cL_law 57 = .ok (.aload_n 1, 1) := by decide +kernel
theorem dL_law_58 : decode cL_law 58 = .ok (.iconst 2, 1) := by decide +kernel
theorem dL_law_59 : decode cL_law 59 = .ok (.invokevirtual 24, 3) := by decide +kernel
theorem dL_law_62 : decode cL_law 62 = .ok (.istore 7, 2) := by decide +kernel
theorem dL_law_64 : decode cL_law 64 = .ok (.aload_n 1, 1) := by decide +kernel
theorem dL_law_65 : decode cL_law 65 = .ok (.iconst 3, 1) := by decide +kernel
theorem dL_law_66 : decode cL_law 66 = .ok (.invokevirtual 24, 3) := by decide +kernel
theorem dL_law_69 : decode cL_law 69 = .ok (.istore 8, 2) := by decide +kernel
theorem dL_law_71 : decode cL_law 71 = .ok (.aload_n 1, 1) := by decide +kernel
theorem dL_law_72 : decode cL_law 72 = .ok (.invokestatic 82, 3) := by decide +kernel
theorem dL_law_75 : decode cL_law 75 = .ok (.istore 9, 2) := by decide +kernel
theorem dL_law_77 : decode cL_law 77 = .ok (.aload_n 0, 1) := by decide +kernel
theorem dL_law_78 : decode cL_law 78 = .ok (.iconst 3, 1) := by decide +kernel
theorem dL_law_79 : decode cL_law 79 = .ok (.iload 4, 2) := by decide +kernel
theorem dL_law_81 : decode cL_law 81 = .ok (.imul, 1) := by decide +kernel
theorem dL_law_82 : decode cL_law 82 = .ok (.invokestatic 46, 3) := by decide +kernel
theorem dL_law_85 : decode cL_law 85 = .ok (.bipush 18, 2) := by decide +kernel
theorem dL_law_87 : decode cL_law 87 = .ok (.invokestatic 52, 3) := by decide +kernel
theorem dL_law_90 : decode cL_law 90 = .ok (.istore 10, 2) := by decide +kernel
theorem dL_law_92 : decode cL_law 92 = .ok (.iconst 1, 1) := by decide +kernel
theorem dL_law_93 : decode cL_law 93 = .ok (.aload_n 0, 1) := by decide +kernel
theorem dL_law_94 : decode cL_law 94 = .ok (.iconst 3, 1) := by decide +kernel
theorem dL_law_95 : decode cL_law 95 = .ok (.iload 4, 2) := by decide +kernel
theorem dL_law_97 : decode cL_law 97 = .ok (.imul, 1) := by decide +kernel
theorem dL_law_98 : decode cL_law 98 = .ok (.iconst 1, 1) := by decide +kernel
theorem dL_law_99 : decode cL_law 99 = .ok (.iadd, 1) := by decide +kernel
theorem dL_law_100 : decode cL_law 100 = .ok (.invokestatic 46, 3) := by decide +kernel
theorem dL_law_103 : decode cL_law 103 = .ok (.bipush 60, 2) := by decide +kernel
theorem dL_law_105 : decode cL_law 105 = .ok (.invokestatic 52, 3) := by decide +kernel
theorem dL_law_108 : decode cL_law 108 = .ok (.iadd, 1) := by decide +kernel
theorem dL_law_109 : decode cL_law 109 = .ok (.istore 11, 2) := by decide +kernel
theorem dL_law_111 : decode cL_law 111 = .ok (.aload_n 1, 1) := by decide +kernel
theorem dL_law_112 : decode cL_law 112 = .ok (.iload 11, 2) := by decide +kernel
theorem dL_law_114 : decode cL_law 114 = .ok (.aload_n 1, 1) := by decide +kernel
theorem dL_law_115 : decode cL_law 115 = .ok (.iconst 1, 1) := by decide +kernel
theorem dL_law_116 : decode cL_law 116 = .ok (.invokevirtual 39, 3) := by decide +kernel
theorem dL_law_119 : decode cL_law 119 = .ok (.iconst 0, 1) := by decide +kernel
theorem dL_law_120 : decode cL_law 120 = .ok (.invokevirtual 85, 3) := by decide +kernel
theorem dL_law_123 : decode cL_law 123 = .ok (.istore 12, 2) := by decide +kernel
theorem dL_law_125 : decode cL_law 125 = .ok (.aload_n 1, 1) := by decide +kernel
theorem dL_law_126 : decode cL_law 126 = .ok (.iload 11, 2) := by decide +kernel
theorem dL_law_128 : decode cL_law 128 = .ok (.aload_n 1, 1) := by decide +kernel
theorem dL_law_129 : decode cL_law 129 = .ok (.iconst 1, 1) := by decide +kernel
theorem dL_law_130 : decode cL_law 130 = .ok (.invokevirtual 39, 3) := by decide +kernel
theorem dL_law_133 : decode cL_law 133 = .ok (.iconst 1, 1) := by decide +kernel
theorem dL_law_134 : decode cL_law 134 = .ok (.invokevirtual 85, 3) := by decide +kernel
theorem dL_law_137 : decode cL_law 137 = .ok (.istore 13, 2) := by decide +kernel
theorem dL_law_139 : decode cL_law 139 = .ok (.aload_n 1, 1) := by decide +kernel
theorem dL_law_140 : decode cL_law 140 = .ok (.aload_n 0, 1) := by decide +kernel
theorem dL_law_141 : decode cL_law 141 = .ok (.iconst 3, 1) := by decide +kernel
theorem dL_law_142 : decode cL_law 142 = .ok (.iload 4, 2) := by decide +kernel
theorem dL_law_144 : decode cL_law 144 = .ok (.imul, 1) := by decide +kernel
theorem dL_law_145 : decode cL_law 145 = .ok (.invokestatic 88, 3) := by decide +kernel
theorem dL_law_148 : decode cL_law 148 = .ok (.istore 14, 2) := by decide +kernel
theorem dL_law_150 : decode cL_law 150 = .ok (.iload 14, 2) := by decide +kernel
theorem dL_law_152 : decode cL_law 152 = .ok (.ifCond .ge 44, 3) := by decide +kernel
theorem dL_law_155 : decode cL_law 155 = .ok (.aload_n 1, 1) := by decide +kernel
theorem dL_law_156 : decode cL_law 156 = .ok (.bipush 11, 2) := by decide +kernel
theorem dL_law_158 : decode cL_law 158 = .ok (.invokevirtual 24, 3) := by decide +kernel
theorem dL_law_161 : decode cL_law 161 = .ok (.iload 5, 2) := by decide +kernel
theorem dL_law_163 : decode cL_law 163 = .ok (.if_icmp .ne 37, 3) := by decide +kernel
theorem dL_law_166 : decode cL_law 166 = .ok (.aload_n 1, 1) := by decide +kernel
theorem dL_law_167 : decode cL_law 167 = .ok (.iconst 0, 1) := by decide +kernel
theorem dL_law_168 : decode cL_law 168 = .ok (.invokevirtual 24, 3) := by decide +kernel
theorem dL_law_171 : decode cL_law 171 = .ok (.iload 6, 2) := by decide +kernel
theorem dL_law_173 : decode cL_law 173 = .ok (.if_icmp .ne 27, 3) := by decide +kernel
theorem dL_law_176 : decode cL_law 176 = .ok (.aload_n 1, 1) := by decide +kernel
theorem dL_law_177 : decode cL_law 177 = .ok (.iconst 2, 1) := by decide +kernel
theorem dL_law_178 : decode cL_law 178 = .ok (.invokevirtual 24, 3) := by decide +kernel
theorem dL_law_181 : decode cL_law 181 = .ok (.iload 7, 2) := by decide +kernel
theorem dL_law_183 : decode cL_law 183 = .ok (.if_icmp .ne 17, 3) := by decide +kernel
theorem dL_law_186 : decode cL_law 186 = .ok (.aload_n 1, 1) := by decide +kernel
theorem dL_law_187 : decode cL_law 187 = .ok (.iconst 3, 1) := by decide +kernel
theorem dL_law_188 : decode cL_law 188 = .ok (.invokevirtual 24, 3) := by decide +kernel
theorem dL_law_191 : decode cL_law 191 = .ok (.iload 8, 2) := by decide +kernel
theorem dL_law_193 : decode cL_law 193 = .ok (.if_icmp .ne 7, 3) := by decide +kernel
theorem dL_law_196 : decode cL_law 196 = .ok (.iconst 1, 1) := by decide +kernel
theorem dL_law_197 : decode cL_law 197 = .ok (.goto 4, 3) := by decide +kernel
theorem dL_law_200 : decode cL_law 200 = .ok (.iconst 0, 1) := by decide +kernel
theorem dL_law_201 : decode cL_law 201 = .ok (.istore_n 2, 1) := by decide +kernel
theorem dL_law_202 : decode cL_law 202 = .ok (.iload_n 2, 1) := by decide +kernel
theorem dL_law_203 : decode cL_law 203 = .ok (.ifCond .eq 84, 3) := by decide +kernel
theorem dL_law_206 : decode cL_law 206 = .ok (.iload 10, 2) := by decide +kernel
theorem dL_law_208 : decode cL_law 208 = .ok (.bipush 8, 2) := by decide +kernel
theorem dL_law_210 : decode cL_law 210 = .ok (.if_icmp .lt 66, 3) := by decide +kernel
theorem dL_law_213 : decode cL_law 213 = .ok (.iload 10, 2) := by decide +kernel
theorem dL_law_215 : decode cL_law 215 = .ok (.bipush 12, 2) := by decide +kernel
theorem dL_law_217 : decode cL_law 217 = .ok (.if_icmp .gt 59, 3) := by decide +kernel
theorem dL_law_220 : decode cL_law 220 = .ok (.iload 14, 2) := by decide +kernel
theorem dL_law_222 : decode cL_law 222 = .ok (.iload 12, 2) := by decide +kernel
theorem dL_law_224 : decode cL_law 224 = .ok (.if_icmp .ne 63, 3) := by decide +kernel
theorem dL_law_227 : decode cL_law 227 = .ok (.aload_n 1, 1) := by decide +kernel
theorem dL_law_228 : decode cL_law 228 = .ok (.iconst 3, 1) := by decide +kernel
theorem dL_law_229 : decode cL_law 229 = .ok (.invokevirtual 24, 3) := by decide +kernel
theorem dL_law_232 : decode cL_law 232 = .ok (.iload 8, 2) := by decide +kernel
theorem dL_law_234 : decode cL_law 234 = .ok (.iload 14, 2) := by decide +kernel
theorem dL_law_236 : decode cL_law 236 = .ok (.iadd, 1) := by decide +kernel
theorem dL_law_237 : decode cL_law 237 = .ok (.if_icmp .ne 50, 3) := by decide +kernel
theorem dL_law_240 : decode cL_law 240 = .ok (.aload_n 1, 1) := by decide +kernel
theorem dL_law_241 : decode cL_law 241 = .ok (.bipush 6, 2) := by decide +kernel
theorem dL_law_243 : decode cL_law 243 = .ok (.invokevirtual 24, 3) := by decide +kernel
theorem dL_law_246 : decode cL_law 246 = .ok (.iload 13, 2) := by decide +kernel
theorem dL_law_248 : decode cL_law 248 = .ok (.if_icmp .ne 39, 3) := by decide +kernel
theorem dL_law_251 : decode cL_law 251 = .ok (.aload_n 1, 1) := by decide +kernel
theorem dL_law_252 : decode cL_law 252 = .ok (.iconst 2, 1) := by decide +kernel
theorem dL_law_253 : decode cL_law 253 = .ok (.invokevirtual 24, 3) := by decide +kernel
theorem dL_law_256 : decode cL_law 256 = .ok (.iload 7, 2) := by decide +kernel
theorem dL_law_258 : decode cL_law 258 = .ok (.iload 11, 2) := by decide +kernel
theorem dL_law_260 : decode cL_law 260 = .ok (.iadd, 1) := by decide +kernel
theorem dL_law_261 : decode cL_law 261 = .ok (.if_icmp .ne 26, 3) := by decide +kernel
theorem dL_law_264 : decode cL_law 264 = .ok (.aload_n 1, 1) := by decide +kernel
theorem dL_law_265 : decode cL_law 265 = .ok (.invokestatic 82, 3) := by decide +kernel
theorem dL_law_268 : decode cL_law 268 = .ok (.iload 9, 2) := by decide +kernel
theorem dL_law_270 : decode cL_law 270 = .ok (.iload 14, 2) := by decide +kernel
theorem dL_law_272 : decode cL_law 272 = .ok (.isub, 1) := by decide +kernel
theorem dL_law_273 : decode cL_law 273 = .ok (.if_icmp .ne 14, 3) := by decide +kernel
theorem dL_law_276 : decode cL_law 276 = .ok (.aload_n 1, 1) := by decide +kernel
theorem dL_law_277 : decode cL_law 277 = .ok (.invokestatic 92, 3) := by decide +kernel
theorem dL_law_280 : decode cL_law 280 = .ok (.ifCond .eq 7, 3) := by decide +kernel
theorem dL_law_283 : decode cL_law 283 = .ok (.iconst 1, 1) := by decide +kernel
theorem dL_law_284 : decode cL_law 284 = .ok (.goto 4, 3) := by decide +kernel
theorem dL_law_287 : decode cL_law 287 = .ok (.iconst 0, 1) := by decide +kernel
theorem dL_law_288 : decode cL_law 288 = .ok (.istore_n 2, 1) := by decide +kernel
theorem dL_law_289 : decode cL_law 289 = .ok (.iinc 4 1, 3) := by decide +kernel
theorem dL_law_292 : decode cL_law 292 = .ok (.goto (-260), 3) := by decide +kernel
theorem dL_law_295 : decode cL_law 295 = .ok (.iload_n 2, 1) := by decide +kernel
theorem dL_law_296 : decode cL_law 296 = .ok (.ireturn, 1) := by decide +kernel
set_option maxRecDepth 20000 in
theorem ggL_springs_X4_count : GoodIn wsL_springs wsX4_count := goodIn_ca (goodIn_r _ [5, 6, 7, 8, 9, 4, 10, 11, 12, 13, 14, 15, 16, 17, 18, 19, 20, 21, 22, 23, 24, 25, 26, 27, 28, 29, 30, 31, 32, 33, 34, 35, 36, 37, 38, 39, 40, 41, 42, 43, 44, 45, 46, 47, 48, 49, 50, 51, 52, 53, 54, 55, 56, 57, 58, 59, 60, 61, 62, 63, 64, 65, 66, 67, 68, 69, 70, 71, 72, 73, 74, 75, 76, 77, 78, 79, 80, 81, 82, 83, 84, 85, 86, 87, 88, 89, 90, 91, 92, 93, 94, 95, 96, 97, 117, 118, 119, 120, 121, 122, 123, 124, 125, 126, 127, 128, 129, 130, 131, 132, 133, 134, 135, 136, 137, 138, 139, 140] rfl (by decide +kernel)) (goodIn_sub (fun _ h => List.mem_cons_of_mem _ (List.mem_append_left _ (List.mem_append_right _ h))) (by decide +kernel))
set_option maxRecDepth 20000 in
theorem gL_springs_X4_count : GoodIn wsL_springs (wsV RL 24 RX4 yX4_count wsX4_count) := goodIn_app (goodIn_of _ (by decide +kernel)) ggL_springs_X4_count
set_option maxRecDepth 20000 in
theorem ggL_springs_X4_arm : GoodIn wsL_springs wsX4_arm := goodIn_ca (goodIn_ca (goodIn_r _ [101, 102, 103, 6, 7, 16, 104, 95, 96, 26, 97, 28, 8, 9, 4, 10, 105, 106, 107, 108, 109, 52, 43, 42, 110, 94, 38, 39, 40, 41, 53, 54, 55, 60, 61, 62, 111, 112, 113, 114, 115, 31, 32, 116, 117, 118, 119, 120, 121, 122, 123, 124, 127, 128, 129, 130, 131, 132, 133, 134, 135, 136, 137, 138, 139, 140] rfl (by decide +kernel)) (goodIn_sub (fun _ h => List.mem_cons_of_mem _ (List.mem_append_right _ h)) (by decide +kernel))) (goodIn_sub (fun _ h => List.mem_cons_of_mem _ (List.mem_append_left _ (List.mem_append_right _ h))) (by decide +kernel))
set_option maxRecDepth 20000 in
theorem gL_springs_X4_arm : GoodIn wsL_springs (wsV RL 28 RX4 yX4_arm wsX4_arm) := goodIn_app (goodIn_of _ (by decide +kernel)) ggL_springs_X4_arm
theorem dL_springs_0 : decode cL_springs 0 = .ok (.iconst 0, 1) := by decide +kernel
theorem dL_springs_1 : decode cL_springs 1 = .ok (.istore_n 1, 1) := by decide +kernel
theorem dL_springs_2 : decode cL_springs 2 = .ok (.iconst 0, 1) := by decide +kernel
theorem dL_springs_3 : decode cL_springs 3 = .ok (.istore_n 2, 1) := by decide +kernel
theorem dL_springs_4 : decode cL_springs 4 = .ok (.iload_n 2, 1) := by decide +kernel
theorem dL_springs_5 : decode cL_springs 5 = .ok (.aload_n 0, 1) := by decide +kernel
theorem dL_springs_6 : decode cL_springs 6 = .ok (.iconst 0, 1) := by decide +kernel
theorem dL_springs_7 : decode cL_springs 7 = .ok (.invokevirtual 24, 3) := by decide +kernel
theorem dL_springs_10 : decode cL_springs 10 = .ok (.if_icmp .ge 18, 3) := by decide +kernel
theorem dL_springs_13 : decode cL_springs 13 = .ok (.iload_n 1, 1) := by decide +kernel
theorem dL_springs_14 : decode cL_springs 14 = .ok (.aload_n 0, 1) := by decide +kernel
theorem dL_springs_15 : decode cL_springs 15 = .ok (.iload_n 2, 1) := by decide +kernel
theorem dL_springs_16 : decode cL_springs 16 = .ok (.iconst 2, 1) := by decide +kernel
theorem dL_springs_17 : decode cL_springs 17 = .ok (.invokevirtual 28, 3) := by decide +kernel
theorem dL_springs_20 : decode cL_springs 20 = .ok (.iadd, 1) := by decide +kernel
theorem dL_springs_21 : decode cL_springs 21 = .ok (.istore_n 1, 1) := by decide +kernel
theorem dL_springs_22 : decode cL_springs 22 = .ok (.iinc 2 1, 3) := by decide +kernel
theorem dL_springs_25 : decode cL_springs 25 = .ok (.goto (-21), 3) := by decide +kernel
theorem dL_springs_28 : decode cL_springs 28 = .ok (.iload_n 1, 1) := by decide +kernel
theorem dL_springs_29 : decode cL_springs 29 = .ok (.ireturn, 1) := by decide +kernel
