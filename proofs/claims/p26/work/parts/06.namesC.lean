set_option maxRecDepth 20000 in
theorem ggL_isInOrder_X2_cost : GoodIn wsL_isInOrder wsX2_cost := goodIn_r _ [5, 6, 7, 113, 114, 115, 116, 117, 118, 119, 120, 121, 122, 123, 124, 125, 126, 127, 128] (by decide +kernel) (by decide +kernel)
set_option maxRecDepth 20000 in
theorem gL_isInOrder_X2_cost : GoodIn wsL_isInOrder (wsV RL 8 RX2 yX2_cost wsX2_cost) := goodIn_app (goodIn_of _ (by decide +kernel)) ggL_isInOrder_X2_cost
set_option maxRecDepth 20000 in
theorem ggL_isInOrder_X2_hits : GoodIn wsL_isInOrder wsX2_hits := goodIn_r _ [11, 6, 12, 113, 114, 115, 116, 117, 118, 119, 120, 121, 122, 123, 124, 125, 126, 127, 128] (by decide +kernel) (by decide +kernel)
set_option maxRecDepth 20000 in
theorem gL_isInOrder_X2_hits : GoodIn wsL_isInOrder (wsV RL 14 RX2 yX2_hits wsX2_hits) := goodIn_app (goodIn_of _ (by decide +kernel)) ggL_isInOrder_X2_hits
set_option maxRecDepth 20000 in
theorem ggL_isInOrder_X2_swaps : GoodIn wsL_isInOrder wsX2_swaps := goodIn_r _ [16, 6, 17, 113, 114, 115, 116, 117, 118, 119, 120, 121, 122, 123, 124, 125, 126, 127, 128] (by decide +kernel) (by decide +kernel)
set_option maxRecDepth 20000 in
theorem gL_isInOrder_X2_swaps : GoodIn wsL_isInOrder (wsV RL 17 RX2 yX2_swaps wsX2_swaps) := goodIn_app (goodIn_of _ (by decide +kernel)) ggL_isInOrder_X2_swaps
set_option maxRecDepth 20000 in
theorem ggL_isInOrder_X2_misses : GoodIn wsL_isInOrder wsX2_misses := goodIn_r _ [21, 6, 22, 113, 114, 115, 116, 117, 118, 119, 120, 121, 122, 123, 124, 125, 126, 127, 128] (by decide +kernel) (by decide +kernel)
set_option maxRecDepth 20000 in
theorem gL_isInOrder_X2_misses : GoodIn wsL_isInOrder (wsV RL 20 RX2 yX2_misses wsX2_misses) := goodIn_app (goodIn_of _ (by decide +kernel)) ggL_isInOrder_X2_misses
set_option maxRecDepth 20000 in
theorem ggL_isInOrder_X2_homecomings : GoodIn wsL_isInOrder wsX2_homecomings := goodIn_r _ [26, 6, 27, 113, 114, 115, 116, 117, 118, 119, 120, 121, 122, 123, 124, 125, 126, 127, 128] (by decide +kernel) (by decide +kernel)
set_option maxRecDepth 20000 in
theorem gL_isInOrder_X2_homecomings : GoodIn wsL_isInOrder (wsV RL 23 RX2 yX2_homecomings wsX2_homecomings) := goodIn_app (goodIn_of _ (by decide +kernel)) ggL_isInOrder_X2_homecomings
set_option maxRecDepth 20000 in
theorem ggL_isInOrder_X2_sitting : GoodIn wsL_isInOrder wsX2_sitting := goodIn_r _ [31, 6, 32, 113, 114, 115, 116, 117, 118, 119, 120, 121, 122, 123, 124, 125, 126, 127, 128] (by decide +kernel) (by decide +kernel)
set_option maxRecDepth 20000 in
theorem gL_isInOrder_X2_sitting : GoodIn wsL_isInOrder (wsV RL 26 RX2 yX2_sitting wsX2_sitting) := goodIn_app (goodIn_of _ (by decide +kernel)) ggL_isInOrder_X2_sitting
set_option maxRecDepth 20000 in
theorem ggL_isInOrder_X2_places : GoodIn wsL_isInOrder wsX2_places := goodIn_r _ [36, 6, 37, 113, 114, 115, 116, 117, 118, 119, 120, 121, 122, 123, 124, 125, 126, 127, 128] (by decide +kernel) (by decide +kernel)
set_option maxRecDepth 20000 in
theorem gL_isInOrder_X2_places : GoodIn wsL_isInOrder (wsV RL 29 RX2 yX2_places wsX2_places) := goodIn_app (goodIn_of _ (by decide +kernel)) ggL_isInOrder_X2_places
set_option maxRecDepth 20000 in
theorem ggL_isInOrder_X2_sets : GoodIn wsL_isInOrder wsX2_sets := goodIn_r _ [41, 6, 42, 113, 114, 115, 116, 117, 118, 119, 120, 121, 122, 123, 124, 125, 126, 127, 128] (by decide +kernel) (by decide +kernel)
set_option maxRecDepth 20000 in
theorem gL_isInOrder_X2_sets : GoodIn wsL_isInOrder (wsV RL 32 RX2 yX2_sets wsX2_sets) := goodIn_app (goodIn_of _ (by decide +kernel)) ggL_isInOrder_X2_sets
set_option maxRecDepth 20000 in
theorem ggL_isInOrder_X2_lineIn : GoodIn wsL_isInOrder wsX2_lineIn := goodIn_ca (goodIn_r _ [46, 6, 47, 48, 49, 50, 4, 51, 52, 53, 42, 113, 114, 115, 116, 117, 118, 119, 120, 121, 122, 123, 124, 125, 126, 127, 128] (by decide +kernel) (by decide +kernel)) (goodIn_sub (fun _ h => List.mem_cons_of_mem _ (List.mem_append_right _ h)) (by decide +kernel))
set_option maxRecDepth 20000 in
theorem gL_isInOrder_X2_lineIn : GoodIn wsL_isInOrder (wsV RL 35 RX2 yX2_lineIn wsX2_lineIn) := goodIn_app (goodIn_of _ (by decide +kernel)) ggL_isInOrder_X2_lineIn
set_option maxRecDepth 20000 in
theorem ggL_isInOrder_X2_placeOf : GoodIn wsL_isInOrder wsX2_placeOf := goodIn_ca (goodIn_r _ [57, 6, 58, 59, 4, 60, 52, 53, 61, 62, 63, 64, 65, 66, 67, 68, 69, 70, 71, 72, 73, 74, 75, 76, 77, 113, 114, 115, 116, 117, 118, 119, 120, 121, 122, 123, 124, 125, 126, 127, 128] (by decide +kernel) (by decide +kernel)) (goodIn_sub (fun _ h => List.mem_cons_of_mem _ (List.mem_append_right _ h)) (by decide +kernel))
set_option maxRecDepth 20000 in
theorem gL_isInOrder_X2_placeOf : GoodIn wsL_isInOrder (wsV RL 39 RX2 yX2_placeOf wsX2_placeOf) := goodIn_app (goodIn_of _ (by decide +kernel)) ggL_isInOrder_X2_placeOf
set_option maxRecDepth 20000 in
theorem ggL_isInOrder_X2_lineOnBench : GoodIn wsL_isInOrder wsX2_lineOnBench := goodIn_ca (goodIn_r _ [81, 52, 53, 6, 32, 82, 113, 114, 115, 116, 117, 118, 119, 120, 121, 122, 123, 124, 125, 126, 127, 128] (by decide +kernel) (by decide +kernel)) (goodIn_sub (fun _ h => List.mem_cons_of_mem _ (List.mem_append_right _ h)) (by decide +kernel))
set_option maxRecDepth 20000 in
theorem gL_isInOrder_X2_lineOnBench : GoodIn wsL_isInOrder (wsV RL 42 RX2 yX2_lineOnBench wsX2_lineOnBench) := goodIn_app (goodIn_of _ (by decide +kernel)) ggL_isInOrder_X2_lineOnBench
set_option maxRecDepth 20000 in
theorem ggL_isInOrder_X2_isDirty : GoodIn wsL_isInOrder wsX2_isDirty := goodIn_ca (goodIn_r _ [86, 6, 87, 58, 59, 4, 60, 52, 53, 113, 114, 115, 116, 117, 118, 119, 120, 121, 122, 123, 124, 125, 126, 127, 128] (by decide +kernel) (by decide +kernel)) (goodIn_sub (fun _ h => List.mem_cons_of_mem _ (List.mem_append_right _ h)) (by decide +kernel))
set_option maxRecDepth 20000 in
theorem gL_isInOrder_X2_isDirty : GoodIn wsL_isInOrder (wsV RL 45 RX2 yX2_isDirty wsX2_isDirty) := goodIn_app (goodIn_of _ (by decide +kernel)) ggL_isInOrder_X2_isDirty
set_option maxRecDepth 20000 in
theorem ggL_isInOrder_X2_atHome : GoodIn wsL_isInOrder wsX2_atHome := goodIn_ca (goodIn_r _ [91, 6, 87, 92, 93, 94, 95, 4, 96, 52, 53, 97, 98, 99, 113, 114, 115, 116, 117, 118, 119, 120, 121, 122, 123, 124, 125, 126, 127, 128] (by decide +kernel) (by decide +kernel)) (goodIn_sub (fun _ h => List.mem_cons_of_mem _ (List.mem_append_right _ h)) (by decide +kernel))
set_option maxRecDepth 20000 in
theorem gL_isInOrder_X2_atHome : GoodIn wsL_isInOrder (wsV RL 49 RX2 yX2_atHome wsX2_atHome) := goodIn_app (goodIn_of _ (by decide +kernel)) ggL_isInOrder_X2_atHome
set_option maxRecDepth 20000 in
theorem ggL_isInOrder_X2_peek : GoodIn wsL_isInOrder wsX2_peek := goodIn_ca (goodIn_r _ [103, 93, 94, 95, 4, 96, 52, 53, 113, 114, 115, 116, 117] (by decide +kernel) (by decide +kernel)) (goodIn_sub (fun _ h => List.mem_cons_of_mem _ (List.mem_append_right _ h)) (by decide +kernel))
set_option maxRecDepth 20000 in
theorem gL_isInOrder_X2_peek : GoodIn wsL_isInOrder (wsV RL 52 RX2 yX2_peek wsX2_peek) := goodIn_app (goodIn_of _ (by decide +kernel)) ggL_isInOrder_X2_peek
set_option maxRecDepth 20000 in
theorem ggL_isInOrder_X2_dirty : GoodIn wsL_isInOrder wsX2_dirty := goodIn_r _ [107, 6, 108, 109, 110, 64, 111, 112, 113, 114, 115, 116, 117, 118, 119, 120, 121, 122, 123, 124, 125, 126, 127, 128] (by decide +kernel) (by decide +kernel)
set_option maxRecDepth 20000 in
theorem gL_isInOrder_X2_dirty : GoodIn wsL_isInOrder (wsV RL 55 RX2 yX2_dirty wsX2_dirty) := goodIn_app (goodIn_of _ (by decide +kernel)) ggL_isInOrder_X2_dirty
theorem dL_isInOrder_0 : decode cL_isInOrder 0 = .ok (.iconst 0, 1) := by decide +kernel
theorem dL_isInOrder_1 : decode cL_isInOrder 1 = .ok (.istore_n 1, 1) := by decide +kernel
theorem dL_isInOrder_2 : decode cL_isInOrder 2 = .ok (.iconst 0, 1) := by decide +kernel
theorem dL_isInOrder_3 : decode cL_isInOrder 3 = .ok (.istore_n 2, 1) := by decide +kernel
theorem dL_isInOrder_4 : decode cL_isInOrder 4 = .ok (.iconst 0, 1) := by decide +kernel
theorem dL_isInOrder_5 : decode cL_isInOrder 5 = .ok (.istore_n 3, 1) := by decide +kernel
theorem dL_isInOrder_6 : decode cL_isInOrder 6 = .ok (.aload_n 0, 1) := by decide +kernel
theorem dL_isInOrder_7 : decode cL_isInOrder 7 = .ok (.invokevirtual 8, 3) := by decide +kernel
theorem dL_isInOrder_10 : decode cL_isInOrder 10 = .ok (.aload_n 0, 1) := by decide +kernel
theorem dL_isInOrder_11 : decode cL_isInOrder 11 = .ok (.invokevirtual 14, 3) := by decide +kernel
theorem dL_isInOrder_14 : decode cL_isInOrder 14 = .ok (.iconst 3, 1) := by decide +kernel
theorem dL_isInOrder_15 : decode cL_isInOrder 15 = .ok (.aload_n 0, 1) := by decide +kernel
theorem dL_isInOrder_16 : decode cL_isInOrder 16 = .ok (.invokevirtual 17, 3) := by decide +kernel
theorem dL_isInOrder_19 : decode cL_isInOrder 19 = .ok (.imul, 1) := by decide +kernel
theorem dL_isInOrder_20 : decode cL_isInOrder 20 = .ok (.iadd, 1) := by decide +kernel
theorem dL_isInOrder_21 : decode cL_isInOrder 21 = .ok (.bipush 20, 2) := by decide +kernel
theorem dL_isInOrder_23 : decode cL_isInOrder 23 = .ok (.aload_n 0, 1) := by decide +kernel
theorem dL_isInOrder_24 : decode cL_isInOrder 24 = .ok (.invokevirtual 20, 3) := by decide +kernel
theorem dL_isInOrder_27 : decode cL_isInOrder 27 = .ok (.imul, 1) := by decide +kernel
theorem dL_isInOrder_28 : decode cL_isInOrder 28 = .ok (.iadd, 1) := by decide +kernel
theorem dL_isInOrder_29 : decode cL_isInOrder 29 = .ok (.bipush 10, 2) := by decide +kernel
theorem dL_isInOrder_31 : decode cL_isInOrder 31 = .ok (.aload_n 0, 1) := by decide +kernel
theorem dL_isInOrder_32 : decode cL_isInOrder 32 = .ok (.invokevirtual 23, 3) := by decide +kernel
theorem dL_isInOrder_35 : decode cL_isInOrder 35 = .ok (.imul, 1) := by decide +kernel
theorem dL_isInOrder_36 : decode cL_isInOrder 36 = .ok (.iadd, 1) := by decide +kernel
theorem dL_isInOrder_37 : decode cL_isInOrder 37 = .ok (.if_icmp .ne 18, 3) := by decide +kernel
theorem dL_isInOrder_40 : decode cL_isInOrder 40 = .ok (.aload_n 0, 1) := by decide +kernel
theorem dL_isInOrder_41 : decode cL_isInOrder 41 = .ok (.invokevirtual 26, 3) := by decide +kernel
theorem dL_isInOrder_44 : decode cL_isInOrder 44 = .ok (.aload_n 0, 1) := by decide +kernel
theorem dL_isInOrder_45 : decode cL_isInOrder 45 = .ok (.invokevirtual 29, 3) := by decide +kernel
theorem dL_isInOrder_48 : decode cL_isInOrder 48 = .ok (.if_icmp .gt 7, 3) := by decide +kernel
theorem dL_isInOrder_51 : decode cL_isInOrder 51 = .ok (.iconst 1, 1) := by decide +kernel
theorem dL_isInOrder_52 : decode cL_isInOrder 52 = .ok (.goto 4, 3) := by decide +kernel
theorem dL_isInOrder_55 : decode cL_isInOrder 55 = .ok (.iconst 0, 1) := by decide +kernel
theorem dL_isInOrder_56 : decode cL_isInOrder 56 = .ok (.istore 4, 2) := by decide +kernel
theorem dL_isInOrder_58 : decode cL_isInOrder 58 = .ok (.iconst 0, 1) := by decide +kernel
theorem dL_isInOrder_59 : decode cL_isInOrder 59 = .ok (.istore 5, 2) := by decide +kernel
theorem dL_isInOrder_61 : decode cL_isInOrder 61 = .ok (.iload 5, 2) := by decide +kernel
theorem dL_isInOrder_63 : decode cL_isInOrder 63 = .ok (.aload_n 0, 1) := by decide +kernel
theorem dL_isInOrder_64 : decode cL_isInOrder 64 = .ok (.invokevirtual 32, 3) := by decide +kernel
theorem dL_isInOrder_67 : decode cL_isInOrder 67 = .ok (.if_icmp .ge 69, 3) := by decide +kernel
theorem dL_isInOrder_70 : decode cL_isInOrder 70 = .ok (.aload_n 0, 1) := by decide +kernel
theorem dL_isInOrder_71 : decode cL_isInOrder 71 = .ok (.iload 5, 2) := by decide +kernel
theorem dL_isInOrder_73 : decode cL_isInOrder 73 = .ok (.invokevirtual 35, 3) := by decide +kernel
theorem dL_isInOrder_76 : decode cL_isInOrder 76 = .ok (.istore 6, 2) := by decide +kernel
theorem dL_isInOrder_78 : decode cL_isInOrder 78 = .ok (.iload_n 1, 1) := by decide +kernel
theorem dL_isInOrder_79 : decode cL_isInOrder 79 = .ok (.iload 6, 2) := by decide +kernel
theorem dL_isInOrder_81 : decode cL_isInOrder 81 = .ok (.ifCond .lt 7, 3) := by decide +kernel
theorem dL_isInOrder_84 : decode cL_isInOrder 84 = .ok (.iconst 1, 1) := by decide +kernel
theorem dL_isInOrder_85 : decode cL_isInOrder 85 = .ok (.goto 4, 3) := by decide +kernel
theorem dL_isInOrder_88 : decode cL_isInOrder 88 = .ok (.iconst 0, 1) := by decide +kernel
theorem dL_isInOrder_89 : decode cL_isInOrder 89 = .ok (.iadd, 1) := by decide +kernel
theorem dL_isInOrder_90 : decode cL_isInOrder 90 = .ok (.istore_n 1, 1) := by decide +kernel
theorem dL_isInOrder_91 : decode cL_isInOrder 91 = .ok (.iload 4, 2) := by decide +kernel
theorem dL_isInOrder_93 : decode cL_isInOrder 93 = .ok (.ifCond .eq 34, 3) := by decide +kernel
theorem dL_isInOrder_96 : decode cL_isInOrder 96 = .ok (.iload 6, 2) := by decide +kernel
theorem dL_isInOrder_98 : decode cL_isInOrder 98 = .ok (.ifCond .lt 25, 3) := by decide +kernel
theorem dL_isInOrder_101 : decode cL_isInOrder 101 = .ok (.iload 6, 2) := by decide +kernel
theorem dL_isInOrder_103 : decode cL_isInOrder 103 = .ok (.aload_n 0, 1) := by decide +kernel
theorem dL_isInOrder_104 : decode cL_isInOrder 104 = .ok (.invokevirtual 32, 3) := by decide +kernel
theorem dL_isInOrder_107 : decode cL_isInOrder 107 = .ok (.irem, 1) := by decide +kernel
theorem dL_isInOrder_108 : decode cL_isInOrder 108 = .ok (.iload 5, 2) := by decide +kernel
theorem dL_isInOrder_110 : decode cL_isInOrder 110 = .ok (.if_icmp .ne 17, 3) := by decide +kernel
theorem dL_isInOrder_113 : decode cL_isInOrder 113 = .ok (.aload_n 0, 1) := by decide +kernel
theorem dL_isInOrder_114 : decode cL_isInOrder 114 = .ok (.iload 6, 2) := by decide +kernel
theorem dL_isInOrder_116 : decode cL_isInOrder 116 = .ok (.invokevirtual 39, 3) := by decide +kernel
theorem dL_isInOrder_119 : decode cL_isInOrder 119 = .ok (.iconst 1, 1) := by decide +kernel
theorem dL_isInOrder_120 : decode cL_isInOrder 120 = .ok (.if_icmp .ne 7, 3) := by decide +kernel
theorem dL_isInOrder_123 : decode cL_isInOrder 123 = .ok (.iconst 1, 1) := by decide +kernel
theorem dL_isInOrder_124 : decode cL_isInOrder 124 = .ok (.goto 4, 3) := by decide +kernel
theorem dL_isInOrder_127 : decode cL_isInOrder 127 = .ok (.iconst 0, 1) := by decide +kernel
theorem dL_isInOrder_128 : decode cL_isInOrder 128 = .ok (.istore 4, 2) := by decide +kernel
theorem dL_isInOrder_130 : decode cL_isInOrder 130 = .ok (.iinc 5 1, 3) := by decide +kernel
theorem dL_isInOrder_133 : decode cL_isInOrder 133 = .ok (.goto (-72), 3) := by decide +kernel
theorem dL_isInOrder_136 : decode cL_isInOrder 136 = .ok (.iconst 0, 1) := by decide +kernel
theorem dL_isInOrder_137 : decode cL_isInOrder 137 = .ok (.istore 5, 2) := by decide +kernel
theorem dL_isInOrder_139 : decode cL_isInOrder 139 = .ok (.iload 5, 2) := by decide +kernel
theorem dL_isInOrder_141 : decode cL_isInOrder 141 = .ok (.aload_n 0, 1) := by decide +kernel
theorem dL_isInOrder_142 : decode cL_isInOrder 142 = .ok (.invokevirtual 26, 3) := by decide +kernel
theorem dL_isInOrder_145 : decode cL_isInOrder 145 = .ok (.if_icmp .ge 99, 3) := by decide +kernel
theorem dL_isInOrder_148 : decode cL_isInOrder 148 = .ok (.aload_n 0, 1) := by decide +kernel
theorem dL_isInOrder_149 : decode cL_isInOrder 149 = .ok (.iload 5, 2) := by decide +kernel
theorem dL_isInOrder_151 : decode cL_isInOrder 151 = .ok (.invokevirtual 42, 3) := by decide +kernel
theorem dL_isInOrder_154 : decode cL_isInOrder 154 = .ok (.istore 6, 2) := by decide +kernel
theorem dL_isInOrder_156 : decode cL_isInOrder 156 = .ok (.iload 4, 2) := by decide +kernel
theorem dL_isInOrder_158 : decode cL_isInOrder 158 = .ok (.ifCond .eq 33, 3) := by decide +kernel
theorem dL_isInOrder_161 : decode cL_isInOrder 161 = .ok (.aload_n 0, 1) := by decide +kernel
theorem dL_isInOrder_162 : decode cL_isInOrder 162 = .ok (.iload 6, 2) := by decide +kernel
theorem dL_isInOrder_164 : decode cL_isInOrder 164 = .ok (.invokevirtual 39, 3) := by decide +kernel
theorem dL_isInOrder_167 : decode cL_isInOrder 167 = .ok (.iconst 2, 1) := by decide +kernel
theorem dL_isInOrder_168 : decode cL_isInOrder 168 = .ok (.if_icmp .ne 23, 3) := by decide +kernel
theorem dL_isInOrder_171 : decode cL_isInOrder 171 = .ok (.aload_n 0, 1) := by decide +kernel
theorem dL_isInOrder_172 : decode cL_isInOrder 172 = .ok (.iload 6, 2) := by decide +kernel
theorem dL_isInOrder_174 : decode cL_isInOrder 174 = .ok (.aload_n 0, 1) := by decide +kernel
theorem dL_isInOrder_175 : decode cL_isInOrder 175 = .ok (.invokevirtual 32, 3) := by decide +kernel
theorem dL_isInOrder_178 : decode cL_isInOrder 178 = .ok (.irem, 1) := by decide +kernel
theorem dL_isInOrder_179 : decode cL_isInOrder 179 = .ok (.invokevirtual 35, 3) := by decide +kernel
theorem dL_isInOrder_182 : decode cL_isInOrder 182 = .ok (.iload 6, 2) := by decide +kernel
theorem dL_isInOrder_184 : decode cL_isInOrder 184 = .ok (.if_icmp .eq 7, 3) := by decide +kernel
theorem dL_isInOrder_187 : decode cL_isInOrder 187 = .ok (.iconst 1, 1) := by decide +kernel
theorem dL_isInOrder_188 : decode cL_isInOrder 188 = .ok (.goto 4, 3) := by decide +kernel
theorem dL_isInOrder_191 : decode cL_isInOrder 191 = .ok (.iconst 0, 1) := by decide +kernel
theorem dL_isInOrder_192 : decode cL_isInOrder 192 = .ok (.istore 4, 2) := by decide +kernel
theorem dL_isInOrder_194 : decode cL_isInOrder 194 = .ok (.iload 5, 2) := by decide +kernel
theorem dL_isInOrder_196 : decode cL_isInOrder 196 = .ok (.iconst 1, 1) := by decide +kernel
theorem dL_isInOrder_197 : decode cL_isInOrder 197 = .ok (.iadd, 1) := by decide +kernel
theorem dL_isInOrder_198 : decode cL_isInOrder 198 = .ok (.istore 7, 2) := by decide +kernel
theorem dL_isInOrder_200 : decode cL_isInOrder 200 = .ok (.iload 7, 2) := by decide +kernel
theorem dL_isInOrder_202 : decode cL_isInOrder 202 = .ok (.aload_n 0, 1) := by decide +kernel
theorem dL_isInOrder_203 : decode cL_isInOrder 203 = .ok (.invokevirtual 26, 3) := by decide +kernel
theorem dL_isInOrder_206 : decode cL_isInOrder 206 = .ok (.if_icmp .ge 32, 3) := by decide +kernel
theorem dL_isInOrder_209 : decode cL_isInOrder 209 = .ok (.iload 4, 2) := by decide +kernel
theorem dL_isInOrder_211 : decode cL_isInOrder 211 = .ok (.ifCond .eq 18, 3) := by decide +kernel
theorem dL_isInOrder_214 : decode cL_isInOrder 214 = .ok (.aload_n 0, 1) := by decide +kernel
theorem dL_isInOrder_215 : decode cL_isInOrder 215 = .ok (.iload 7, 2) := by decide +kernel
theorem dL_isInOrder_217 : decode cL_isInOrder 217 = .ok (.invokevirtual 42, 3) := by decide +kernel
theorem dL_isInOrder_220 : decode cL_isInOrder 220 = .ok (.iload 6, 2) := by decide +kernel
theorem dL_isInOrder_222 : decode cL_isInOrder 222 = .ok (.if_icmp .eq 7, 3) := by decide +kernel
theorem dL_isInOrder_225 : decode cL_isInOrder 225 = .ok (.iconst 1, 1) := by decide +kernel
theorem dL_isInOrder_226 : decode cL_isInOrder 226 = .ok (.goto 4, 3) := by decide +kernel
theorem dL_isInOrder_229 : decode cL_isInOrder 229 = .ok (.iconst 0, 1) := by decide +kernel
theorem dL_isInOrder_230 : decode cL_isInOrder 230 = .ok (.istore 4, 2) := by decide +kernel
theorem dL_isInOrder_232 : decode cL_isInOrder 232 = .ok (.iinc 7 1, 3) := by decide +kernel
theorem dL_isInOrder_235 : decode cL_isInOrder 235 = .ok (.goto (-35), 3) := by decide +kernel
theorem dL_isInOrder_238 : decode cL_isInOrder 238 = .ok (.iinc 5 1, 3) := by decide +kernel
theorem dL_isInOrder_241 : decode cL_isInOrder 241 = .ok (.goto (-102), 3) := by decide +kernel
theorem dL_isInOrder_244 : decode cL_isInOrder 244 = .ok (.iconst 0, 1) := by decide +kernel
theorem dL_isInOrder_245 : decode cL_isInOrder 245 = .ok (.istore 5, 2) := by decide +kernel
theorem dL_isInOrder_247 : decode cL_isInOrder 247 = .ok (.iload 5, 2) := by decide +kernel
theorem dL_isInOrder_249 : decode cL_isInOrder 249 = .ok (.sipush 256, 3) := by decide +kernel
theorem dL_isInOrder_252 : decode cL_isInOrder 252 = .ok (.if_icmp .ge 147, 3) := by decide +kernel
theorem dL_isInOrder_255 : decode cL_isInOrder 255 = .ok (.aload_n 0, 1) := by decide +kernel
theorem dL_isInOrder_256 : decode cL_isInOrder 256 = .ok (.iload 5, 2) := by decide +kernel
theorem dL_isInOrder_258 : decode cL_isInOrder 258 = .ok (.invokevirtual 39, 3) := by decide +kernel
theorem dL_isInOrder_261 : decode cL_isInOrder 261 = .ok (.istore 6, 2) := by decide +kernel
theorem dL_isInOrder_263 : decode cL_isInOrder 263 = .ok (.iload_n 1, 1) := by decide +kernel
theorem dL_isInOrder_264 : decode cL_isInOrder 264 = .ok (.iload 6, 2) := by decide +kernel
theorem dL_isInOrder_266 : decode cL_isInOrder 266 = .ok (.iconst 1, 1) := by decide +kernel
theorem dL_isInOrder_267 : decode cL_isInOrder 267 = .ok (.if_icmp .ne 7, 3) := by decide +kernel
theorem dL_isInOrder_270 : decode cL_isInOrder 270 = .ok (.iconst 1, 1) := by decide +kernel
theorem dL_isInOrder_271 : decode cL_isInOrder 271 = .ok (.goto 4, 3) := by decide +kernel
theorem dL_isInOrder_274 : decode cL_isInOrder 274 = .ok (.iconst 0, 1) := by decide +kernel
theorem dL_isInOrder_275 : decode cL_isInOrder 275 = .ok (.isub, 1) := by decide +kernel
theorem dL_isInOrder_276 : decode cL_isInOrder 276 = .ok (.istore_n 1, 1) := by decide +kernel
theorem dL_isInOrder_277 : decode cL_isInOrder 277 = .ok (.iload_n 2, 1) := by decide +kernel
theorem dL_isInOrder_278 : decode cL_isInOrder 278 = .ok (.iload 6, 2) := by decide +kernel
theorem dL_isInOrder_280 : decode cL_isInOrder 280 = .ok (.iconst 2, 1) := by decide +kernel
theorem dL_isInOrder_281 : decode cL_isInOrder 281 = .ok (.if_icmp .ne 7, 3) := by decide +kernel
theorem dL_isInOrder_284 : decode cL_isInOrder 284 = .ok (.iconst 1, 1) := by decide +kernel
theorem dL_isInOrder_285 : decode cL_isInOrder 285 = .ok (.goto 4, 3) := by decide +kernel
theorem dL_isInOrder_288 : decode cL_isInOrder 288 = .ok (.iconst 0, 1) := by decide +kernel
theorem dL_isInOrder_289 : decode cL_isInOrder 289 = .ok (.iadd, 1) := by decide +kernel
theorem dL_isInOrder_290 : decode cL_isInOrder 290 = .ok (.istore_n 2, 1) := by decide +kernel
theorem dL_isInOrder_291 : decode cL_isInOrder 291 = .ok (.iload_n 3, 1) := by decide +kernel
theorem dL_isInOrder_292 : decode cL_isInOrder 292 = .ok (.aload_n 0, 1) := by decide +kernel
theorem dL_isInOrder_293 : decode cL_isInOrder 293 = .ok (.iload 5, 2) := by decide +kernel
theorem dL_isInOrder_295 : decode cL_isInOrder 295 = .ok (.invokevirtual 45, 3) := by decide +kernel
theorem dL_isInOrder_298 : decode cL_isInOrder 298 = .ok (.ifCond .eq 7, 3) := by decide +kernel
theorem dL_isInOrder_301 : decode cL_isInOrder 301 = .ok (.iconst 1, 1) := by decide +kernel
theorem dL_isInOrder_302 : decode cL_isInOrder 302 = .ok (.goto 4, 3) := by decide +kernel
theorem dL_isInOrder_305 : decode cL_isInOrder 305 = .ok (.iconst 0, 1) := by decide +kernel
theorem dL_isInOrder_306 : decode cL_isInOrder 306 = .ok (.iadd, 1) := by decide +kernel
theorem dL_isInOrder_307 : decode cL_isInOrder 307 = .ok (.istore_n 3, 1) := by decide +kernel
theorem dL_isInOrder_308 : decode cL_isInOrder 308 = .ok (.iload 4, 2) := by decide +kernel
theorem dL_isInOrder_310 : decode cL_isInOrder 310 = .ok (.ifCond .eq 21, 3) := by decide +kernel
theorem dL_isInOrder_313 : decode cL_isInOrder 313 = .ok (.iload 6, 2) := by decide +kernel
theorem dL_isInOrder_315 : decode cL_isInOrder 315 = .ok (.ifCond .gt 12, 3) := by decide +kernel
theorem dL_isInOrder_318 : decode cL_isInOrder 318 = .ok (.aload_n 0, 1) := by decide +kernel
theorem dL_isInOrder_319 : decode cL_isInOrder 319 = .ok (.iload 5, 2) := by decide +kernel
theorem dL_isInOrder_321 : decode cL_isInOrder 321 = .ok (.invokevirtual 45, 3) := by decide +kernel
theorem dL_isInOrder_324 : decode cL_isInOrder 324 = .ok (.ifCond .ne 7, 3) := by decide +kernel
theorem dL_isInOrder_327 : decode cL_isInOrder 327 = .ok (.iconst 1, 1) := by decide +kernel
theorem dL_isInOrder_328 : decode cL_isInOrder 328 = .ok (.goto 4, 3) := by decide +kernel
theorem dL_isInOrder_331 : decode cL_isInOrder 331 = .ok (.iconst 0, 1) := by decide +kernel
theorem dL_isInOrder_332 : decode cL_isInOrder 332 = .ok (.istore 4, 2) := by decide +kernel
theorem dL_isInOrder_334 : decode cL_isInOrder 334 = .ok (.iconst 4, 1) := by decide +kernel
theorem dL_isInOrder_335 : decode cL_isInOrder 335 = .ok (.iload 5, 2) := by decide +kernel
theorem dL_isInOrder_337 : decode cL_isInOrder 337 = .ok (.imul, 1) := by decide +kernel
theorem dL_isInOrder_338 : decode cL_isInOrder 338 = .ok (.istore 7, 2) := by decide +kernel
theorem dL_isInOrder_340 : decode cL_isInOrder 340 = .ok (.iload 7, 2) := by decide +kernel
theorem dL_isInOrder_342 : decode cL_isInOrder 342 = .ok (.iconst 4, 1) := by decide +kernel
theorem dL_isInOrder_343 : decode cL_isInOrder 343 = .ok (.iload 5, 2) := by decide +kernel
theorem dL_isInOrder_345 : decode cL_isInOrder 345 = .ok (.imul, 1) := by decide +kernel
theorem dL_isInOrder_346 : decode cL_isInOrder 346 = .ok (.iconst 4, 1) := by decide +kernel
theorem dL_isInOrder_347 : decode cL_isInOrder 347 = .ok (.iadd, 1) := by decide +kernel
theorem dL_isInOrder_348 : decode cL_isInOrder 348 = .ok (.if_icmp .ge 45, 3) := by decide +kernel
theorem dL_isInOrder_351 : decode cL_isInOrder 351 = .ok (.iload 4, 2) := by decide +kernel
theorem dL_isInOrder_353 : decode cL_isInOrder 353 = .ok (.ifCond .eq 31, 3) := by decide +kernel
theorem dL_isInOrder_356 : decode cL_isInOrder 356 = .ok (.aload_n 0, 1) := by decide +kernel
theorem dL_isInOrder_357 : decode cL_isInOrder 357 = .ok (.iload 5, 2) := by decide +kernel
theorem dL_isInOrder_359 : decode cL_isInOrder 359 = .ok (.invokevirtual 45, 3) := by decide +kernel
theorem dL_isInOrder_362 : decode cL_isInOrder 362 = .ok (.ifCond .ne 18, 3) := by decide +kernel
theorem dL_isInOrder_365 : decode cL_isInOrder 365 = .ok (.aload_n 0, 1) := by decide +kernel
theorem dL_isInOrder_366 : decode cL_isInOrder 366 = .ok (.iload 7, 2) := by decide +kernel
theorem dL_isInOrder_368 : decode cL_isInOrder 368 = .ok (.invokevirtual 49, 3) := by decide +kernel
theorem dL_isInOrder_371 : decode cL_isInOrder 371 = .ok (.aload_n 0, 1) := by decide +kernel
theorem dL_isInOrder_372 : decode cL_isInOrder 372 = .ok (.iload 7, 2) := by decide +kernel
theorem dL_isInOrder_374 : decode cL_isInOrder 374 = .ok (.invokevirtual 52, 3) := by decide +kernel
theorem dL_isInOrder_377 : decode cL_isInOrder 377 = .ok (.if_icmp .ne 7, 3) := by decide +kernel
theorem dL_isInOrder_380 : decode cL_isInOrder 380 = .ok (.iconst 1, 1) := by decide +kernel
theorem dL_isInOrder_381 : decode cL_isInOrder 381 = .ok (.goto 4, 3) := by decide +kernel
theorem dL_isInOrder_384 : decode cL_isInOrder 384 = .ok (.iconst 0, 1) := by decide +kernel
theorem dL_isInOrder_385 : decode cL_isInOrder 385 = .ok (.istore 4, 2) := by decide +kernel
theorem dL_isInOrder_387 : decode cL_isInOrder 387 = .ok (.iinc 7 1, 3) := by decide +kernel
theorem dL_isInOrder_390 : decode cL_isInOrder 390 = .ok (.goto (-50), 3) := by decide +kernel
theorem dL_isInOrder_393 : decode cL_isInOrder 393 = .ok (.iinc 5 1, 3) := by decide +kernel
theorem dL_isInOrder_396 : decode cL_isInOrder 396 = .ok (.goto (-149), 3) := by decide +kernel
theorem dL_isInOrder_399 : decode cL_isInOrder 399 = .ok (.iload 4, 2) := by decide +kernel
theorem dL_isInOrder_401 : decode cL_isInOrder 401 = .ok (.ifCond .eq 27, 3) := by decide +kernel
theorem dL_isInOrder_404 : decode cL_isInOrder 404 = .ok (.iload_n 1, 1) := by decide +kernel
theorem dL_isInOrder_405 : decode cL_isInOrder 405 = .ok (.ifCond .ne 23, 3) := by decide +kernel
theorem dL_isInOrder_408 : decode cL_isInOrder 408 = .ok (.iload_n 2, 1) := by decide +kernel
theorem dL_isInOrder_409 : decode cL_isInOrder 409 = .ok (.aload_n 0, 1) := by decide +kernel
theorem dL_isInOrder_410 : decode cL_isInOrder 410 = .ok (.invokevirtual 26, 3) := by decide +kernel
theorem dL_isInOrder_413 : decode cL_isInOrder 413 = .ok (.if_icmp .ne 15, 3) := by decide +kernel
theorem dL_isInOrder_416 : decode cL_isInOrder 416 = .ok (.iload_n 3, 1) := by decide +kernel
theorem dL_isInOrder_417 : decode cL_isInOrder 417 = .ok (.aload_n 0, 1) := by decide +kernel
theorem dL_isInOrder_418 : decode cL_isInOrder 418 = .ok (.invokevirtual 55, 3) := by decide +kernel
theorem dL_isInOrder_421 : decode cL_isInOrder 421 = .ok (.if_icmp .ne 7, 3) := by decide +kernel
theorem dL_isInOrder_424 : decode cL_isInOrder 424 = .ok (.iconst 1, 1) := by decide +kernel
theorem dL_isInOrder_425 : decode cL_isInOrder 425 = .ok (.goto 4, 3) := by decide +kernel
theorem dL_isInOrder_428 : decode cL_isInOrder 428 = .ok (.iconst 0, 1) := by decide +kernel
theorem dL_isInOrder_429 : decode cL_isInOrder 429 = .ok (.ireturn, 1) := by decide +kernel
theorem dL_address_0 : decode cL_address 0 = .ok (.sipush 128, 3) := by decide +kernel
theorem dL_address_3 : decode cL_address 3 = .ok (.iload_n 0, 1) := by decide +kernel
theorem dL_address_4 : decode cL_address 4 = .ok (.bipush 8, 2) := by decide +kernel
theorem dL_address_6 : decode cL_address 6 = .ok (.idiv, 1) := by decide +kernel
theorem dL_address_7 : decode cL_address 7 = .ok (.imul, 1) := by decide +kernel
theorem dL_address_8 : decode cL_address 8 = .ok (.iload_n 0, 1) := by decide +kernel
theorem dL_address_9 : decode cL_address 9 = .ok (.bipush 8, 2) := by decide +kernel
theorem dL_address_11 : decode cL_address 11 = .ok (.irem, 1) := by decide +kernel
theorem dL_address_12 : decode cL_address 12 = .ok (.iadd, 1) := by decide +kernel
theorem dL_address_13 : decode cL_address 13 = .ok (.iload_n 0, 1) := by decide +kernel
theorem dL_address_14 : decode cL_address 14 = .ok (.bipush 8, 2) := by decide +kernel
theorem dL_address_16 : decode cL_address 16 = .ok (.idiv, 1) := by decide +kernel
theorem dL_address_17 : decode cL_address 17 = .ok (.iadd, 1) := by decide +kernel
theorem dL_address_18 : decode cL_address 18 = .ok (.ireturn, 1) := by decide +kernel
set_option maxRecDepth 20000 in
theorem ggL_law_X2_init : GoodIn wsL_law wsX2_init := goodIn_r _ [6, 7, 8, 9, 3, 10, 11, 12, 13, 14, 15, 16, 17, 18, 19, 20, 21, 22, 23, 24, 25, 26, 27, 28, 29, 30, 31, 32, 33, 34, 35, 36, 37, 38, 39, 40, 41, 42, 43, 44, 261, 262, 263, 264, 265, 266, 267, 268, 269, 270, 271, 272, 273, 274, 275, 276, 277, 278, 279, 280] (by decide +kernel) (by decide +kernel)
set_option maxRecDepth 20000 in
theorem gL_law_X2_init : GoodIn wsL_law (wsX2_init) := ggL_law_X2_init
set_option maxRecDepth 20000 in
theorem ggL_law_L_drawn : GoodIn wsL_law wsL_drawn := goodIn_r _ [48, 49] (by decide +kernel) (by decide +kernel)
set_option maxRecDepth 20000 in
theorem gL_law_L_drawn : GoodIn wsL_law (va_wsS RL 59 yL_drawn wsL_drawn) := goodIn_app (goodIn_of _ (by decide +kernel)) ggL_law_L_drawn
set_option maxRecDepth 20000 in
theorem ggL_law_X2_hits : GoodIn wsL_law wsX2_hits := goodIn_r _ [53, 15, 54, 261, 262, 263, 264, 265, 266, 267, 268, 269, 270, 271, 272, 273, 274, 275, 276] (by decide +kernel) (by decide +kernel)
set_option maxRecDepth 20000 in
theorem gL_law_X2_hits : GoodIn wsL_law (wsV RL 14 RX2 yX2_hits wsX2_hits) := goodIn_app (goodIn_of _ (by decide +kernel)) ggL_law_X2_hits
set_option maxRecDepth 20000 in
theorem ggL_law_X2_cost : GoodIn wsL_law wsX2_cost := goodIn_r _ [58, 15, 59, 261, 262, 263, 264, 265, 266, 267, 268, 269, 270, 271, 272, 273, 274, 275, 276] (by decide +kernel) (by decide +kernel)
set_option maxRecDepth 20000 in
theorem gL_law_X2_cost : GoodIn wsL_law (wsV RL 8 RX2 yX2_cost wsX2_cost) := goodIn_app (goodIn_of _ (by decide +kernel)) ggL_law_X2_cost
set_option maxRecDepth 20000 in
theorem ggL_law_L_address : GoodIn wsL_law wsL_address := goodIn_r _ [62] (by decide +kernel) (by decide +kernel)
set_option maxRecDepth 20000 in
theorem gL_law_L_address : GoodIn wsL_law (va_wsS RL 65 yL_address wsL_address) := goodIn_app (goodIn_of _ (by decide +kernel)) ggL_law_L_address
set_option maxRecDepth 20000 in
theorem ggL_law_X2_placeOf : GoodIn wsL_law wsX2_placeOf := goodIn_ca (goodIn_r _ [66, 15, 67, 68, 2, 69, 70, 71, 72, 73, 74, 14, 75, 25, 76, 77, 78, 79, 33, 80, 81, 82, 83, 35, 26, 261, 262, 263, 264, 265, 266, 267, 268, 269, 270, 271, 272, 273, 274, 275, 276] (by decide +kernel) (by decide +kernel)) (goodIn_sub (fun _ h => List.mem_append_left _ (List.mem_append_left _ (List.mem_append_right _ h))) (by decide +kernel))
set_option maxRecDepth 20000 in
theorem gL_law_X2_placeOf : GoodIn wsL_law (wsV RL 39 RX2 yX2_placeOf wsX2_placeOf) := goodIn_app (goodIn_of _ (by decide +kernel)) ggL_law_X2_placeOf
set_option maxRecDepth 20000 in
theorem ggL_law_X2_read : GoodIn wsL_law wsX2_read := goodIn_ca (goodIn_r _ [87, 10, 88, 89, 2, 90, 70, 71, 91, 92, 93, 94, 95, 96, 97, 15, 20, 98, 99, 100, 14, 101, 25, 102, 103, 104, 105, 28, 76, 77, 78, 79, 33, 80, 81, 82, 83, 35, 26, 106, 107, 108, 109, 110, 111, 112, 113, 34, 114, 115, 116, 117, 118, 119, 120, 121, 19, 122, 43, 123, 44, 124, 261, 262, 263, 264, 265, 266, 267, 268, 269, 270, 271, 272, 273, 274, 275, 276, 277, 278, 279, 280] (by decide +kernel) (by decide +kernel)) (goodIn_sub (fun _ h => List.mem_append_left _ (List.mem_append_left _ (List.mem_append_right _ h))) (by decide +kernel))
set_option maxRecDepth 20000 in
theorem gL_law_X2_read : GoodIn wsL_law (wsV RL 68 RX2 yX2_read wsX2_read) := goodIn_app (goodIn_of _ (by decide +kernel)) ggL_law_X2_read
set_option maxRecDepth 20000 in
theorem ggL_law_X2_write : GoodIn wsL_law wsX2_write := goodIn_ca (goodIn_r _ [128, 15, 129, 10, 88, 89, 2, 90, 70, 71, 91, 92, 93, 130, 131, 132, 133, 11, 134, 135, 136, 137, 94, 95, 96, 97, 20, 98, 99, 100, 14, 101, 25, 102, 103, 104, 105, 28, 76, 77, 78, 79, 33, 80, 81, 82, 83, 35, 26, 106, 107, 108, 109, 110, 111, 112, 113, 34, 114, 115, 116, 117, 118, 119, 120, 121, 19, 122, 43, 123, 44, 124, 261, 262, 263, 264, 265, 266, 267, 268, 269, 270, 271, 272, 273, 274, 275, 276, 277, 278, 279, 280] (by decide +kernel) (by decide +kernel)) (goodIn_sub (fun _ h => List.mem_append_left _ (List.mem_append_left _ (List.mem_append_right _ h))) (by decide +kernel))
set_option maxRecDepth 20000 in
theorem gL_law_X2_write : GoodIn wsL_law (wsV RL 71 RX2 yX2_write wsX2_write) := goodIn_app (goodIn_of _ (by decide +kernel)) ggL_law_X2_write
set_option maxRecDepth 20000 in
theorem ggL_law_X2_isDirty : GoodIn wsL_law wsX2_isDirty := goodIn_ca (goodIn_r _ [141, 15, 129, 67, 68, 2, 69, 70, 71, 261, 262, 263, 264, 265, 266, 267, 268, 269, 270, 271, 272, 273, 274, 275, 276] (by decide +kernel) (by decide +kernel)) (goodIn_sub (fun _ h => List.mem_append_left _ (List.mem_append_left _ (List.mem_append_right _ h))) (by decide +kernel))
set_option maxRecDepth 20000 in
theorem gL_law_X2_isDirty : GoodIn wsL_law (wsV RL 45 RX2 yX2_isDirty wsX2_isDirty) := goodIn_app (goodIn_of _ (by decide +kernel)) ggL_law_X2_isDirty
set_option maxRecDepth 20000 in
theorem ggL_law_X2_peek : GoodIn wsL_law wsX2_peek := goodIn_ca (goodIn_r _ [145, 10, 88, 89, 2, 90, 70, 71, 261, 262, 263, 264, 265] (by decide +kernel) (by decide +kernel)) (goodIn_sub (fun _ h => List.mem_append_left _ (List.mem_append_left _ (List.mem_append_right _ h))) (by decide +kernel))
set_option maxRecDepth 20000 in
theorem gL_law_X2_peek : GoodIn wsL_law (wsV RL 52 RX2 yX2_peek wsX2_peek) := goodIn_app (goodIn_of _ (by decide +kernel)) ggL_law_X2_peek
set_option maxRecDepth 20000 in
theorem ggL_law_X2_walk : GoodIn wsL_law wsX2_walk := goodIn_ca (goodIn_ca (goodIn_r _ [149, 150, 151, 15, 59, 88, 89, 2, 90, 70, 71, 91, 92, 93, 94, 95, 96, 97, 20, 98, 99, 100, 14, 101, 25, 102, 103, 104, 105, 28, 76, 77, 78, 79, 33, 80, 81, 82, 83, 35, 26, 106, 107, 108, 109, 110, 111, 112, 113, 34, 114, 115, 116, 117, 118, 119, 120, 121, 19, 122, 43, 123, 44, 124, 152, 153, 154, 155, 261, 262, 263, 264, 265, 266, 267, 268, 269, 270, 271, 272, 273, 274, 275, 276, 277, 278, 279, 280] (by decide +kernel) (by decide +kernel)) (goodIn_sub (fun _ h => List.mem_append_left _ (List.mem_append_right _ h)) (by decide +kernel))) (goodIn_sub (fun _ h => List.mem_append_left _ (List.mem_append_left _ (List.mem_append_right _ h))) (by decide +kernel))
set_option maxRecDepth 20000 in
theorem gL_law_X2_walk : GoodIn wsL_law (wsV RL 75 RX2 yX2_walk wsX2_walk) := goodIn_app (goodIn_of _ (by decide +kernel)) ggL_law_X2_walk
set_option maxRecDepth 20000 in
theorem ggL_law_X2_dirty : GoodIn wsL_law wsX2_dirty := goodIn_r _ [159, 15, 160, 161, 162, 14, 163, 28, 261, 262, 263, 264, 265, 266, 267, 268, 269, 270, 271, 272, 273, 274, 275, 276] (by decide +kernel) (by decide +kernel)
set_option maxRecDepth 20000 in
theorem gL_law_X2_dirty : GoodIn wsL_law (wsV RL 55 RX2 yX2_dirty wsX2_dirty) := goodIn_app (goodIn_of _ (by decide +kernel)) ggL_law_X2_dirty
set_option maxRecDepth 20000 in
theorem ggL_law_X2_bringHome : GoodIn wsL_law wsX2_bringHome := goodIn_r _ [167, 15, 168, 169, 170, 14, 171, 118, 33, 25, 35, 26, 114, 115, 116, 117, 28, 103, 261, 262, 263, 264, 265, 266, 267, 268, 269, 270, 271, 272, 273, 274, 275, 276] (by decide +kernel) (by decide +kernel)
set_option maxRecDepth 20000 in
theorem gL_law_X2_bringHome : GoodIn wsL_law (wsV RL 79 RX2 yX2_bringHome wsX2_bringHome) := goodIn_app (goodIn_of _ (by decide +kernel)) ggL_law_X2_bringHome
set_option maxRecDepth 20000 in
theorem ggL_law_X2_build : GoodIn wsL_law wsX2_build := goodIn_ca (goodIn_r _ [175, 15, 176, 177, 2, 178, 150, 151, 179, 180, 181, 14, 182, 35, 33, 25, 168, 169, 170, 171, 118, 26, 114, 115, 116, 117, 28, 103, 183, 30, 31, 32, 34, 36, 37, 38, 39, 261, 262, 263, 264, 265, 266, 267, 268, 269, 270, 271, 272, 273, 274, 275, 276] (by decide +kernel) (by decide +kernel)) (goodIn_sub (fun _ h => List.mem_append_left _ (List.mem_append_right _ h)) (by decide +kernel))
set_option maxRecDepth 20000 in
theorem gL_law_X2_build : GoodIn wsL_law (wsV RL 82 RX2 yX2_build wsX2_build) := goodIn_app (goodIn_of _ (by decide +kernel)) ggL_law_X2_build
set_option maxRecDepth 20000 in
theorem ggL_law_X2_sitting : GoodIn wsL_law wsX2_sitting := goodIn_r _ [187, 15, 188, 261, 262, 263, 264, 265, 266, 267, 268, 269, 270, 271, 272, 273, 274, 275, 276] (by decide +kernel) (by decide +kernel)
set_option maxRecDepth 20000 in
theorem gL_law_X2_sitting : GoodIn wsL_law (wsV RL 26 RX2 yX2_sitting wsX2_sitting) := goodIn_app (goodIn_of _ (by decide +kernel)) ggL_law_X2_sitting
set_option maxRecDepth 20000 in
theorem ggL_law_X2_sets : GoodIn wsL_law wsX2_sets := goodIn_r _ [192, 15, 193, 261, 262, 263, 264, 265, 266, 267, 268, 269, 270, 271, 272, 273, 274, 275, 276] (by decide +kernel) (by decide +kernel)
set_option maxRecDepth 20000 in
theorem gL_law_X2_sets : GoodIn wsL_law (wsV RL 32 RX2 yX2_sets wsX2_sets) := goodIn_app (goodIn_of _ (by decide +kernel)) ggL_law_X2_sets
set_option maxRecDepth 20000 in
theorem ggL_law_X2_lineIn : GoodIn wsL_law wsX2_lineIn := goodIn_ca (goodIn_r _ [197, 15, 198, 199, 200, 201, 2, 202, 70, 71, 193, 261, 262, 263, 264, 265, 266, 267, 268, 269, 270, 271, 272, 273, 274, 275, 276] (by decide +kernel) (by decide +kernel)) (goodIn_sub (fun _ h => List.mem_append_left _ (List.mem_append_left _ (List.mem_append_right _ h))) (by decide +kernel))
set_option maxRecDepth 20000 in
theorem gL_law_X2_lineIn : GoodIn wsL_law (wsV RL 35 RX2 yX2_lineIn wsX2_lineIn) := goodIn_app (goodIn_of _ (by decide +kernel)) ggL_law_X2_lineIn
set_option maxRecDepth 20000 in
theorem ggL_law_X2_cast : GoodIn wsL_law wsX2_cast := goodIn_ca (goodIn_ca (goodIn_r _ [206, 207, 208, 15, 198, 199, 200, 201, 2, 202, 70, 71, 193, 209, 111, 112, 14, 113, 25, 34, 35, 26, 114, 115, 116, 117, 28, 118, 103, 106, 107, 108, 109, 261, 262, 263, 264, 265, 266, 267, 268, 269, 270, 271, 272, 273, 274, 275, 276] (by decide +kernel) (by decide +kernel)) (goodIn_sub (fun _ h => List.mem_append_right _ h) (by decide +kernel))) (goodIn_sub (fun _ h => List.mem_append_left _ (List.mem_append_left _ (List.mem_append_right _ h))) (by decide +kernel))
set_option maxRecDepth 20000 in
theorem gL_law_X2_cast : GoodIn wsL_law (wsV RL 85 RX2 yX2_cast wsX2_cast) := goodIn_app (goodIn_of _ (by decide +kernel)) ggL_law_X2_cast
set_option maxRecDepth 20000 in
theorem ggL_law_X2_places : GoodIn wsL_law wsX2_places := goodIn_r _ [213, 15, 214, 261, 262, 263, 264, 265, 266, 267, 268, 269, 270, 271, 272, 273, 274, 275, 276] (by decide +kernel) (by decide +kernel)
set_option maxRecDepth 20000 in
theorem gL_law_X2_places : GoodIn wsL_law (wsV RL 29 RX2 yX2_places wsX2_places) := goodIn_app (goodIn_of _ (by decide +kernel)) ggL_law_X2_places
set_option maxRecDepth 20000 in
theorem ggL_law_X2_lineOnBench : GoodIn wsL_law wsX2_lineOnBench := goodIn_ca (goodIn_r _ [218, 70, 71, 15, 188, 219, 261, 262, 263, 264, 265, 266, 267, 268, 269, 270, 271, 272, 273, 274, 275, 276] (by decide +kernel) (by decide +kernel)) (goodIn_sub (fun _ h => List.mem_append_left _ (List.mem_append_left _ (List.mem_append_right _ h))) (by decide +kernel))
set_option maxRecDepth 20000 in
theorem gL_law_X2_lineOnBench : GoodIn wsL_law (wsV RL 42 RX2 yX2_lineOnBench wsX2_lineOnBench) := goodIn_app (goodIn_of _ (by decide +kernel)) ggL_law_X2_lineOnBench
set_option maxRecDepth 20000 in
theorem ggL_law_L_isInOrder : GoodIn wsL_law wsL_isInOrder := goodIn_ca (goodIn_r _ [222, 55, 56, 57, 2, 58, 15, 59, 50, 51, 52, 53, 54, 223, 224, 225, 226, 227, 228, 229, 230, 231, 232, 233, 234, 235, 236, 237, 184, 185, 186, 187, 188, 210, 211, 212, 213, 214, 189, 190, 191, 192, 193, 194, 195, 196, 197, 198, 199, 200, 201, 202, 70, 71, 63, 64, 65, 66, 67, 68, 69, 72, 73, 74, 14, 75, 25, 76, 77, 78, 79, 33, 80, 81, 82, 83, 35, 26, 215, 216, 217, 218, 219, 138, 139, 140, 141, 129, 238, 239, 240, 241, 11, 10, 88, 89, 90, 91, 92, 93, 142, 143, 144, 145, 156, 157, 158, 159, 160, 161, 162, 163, 28, 261, 262, 263, 264, 265, 266, 267, 268, 269, 270, 271, 272, 273, 274, 275, 276] (by decide +kernel) (by decide +kernel)) (goodIn_sub (fun _ h => List.mem_append_left _ (List.mem_append_left _ (List.mem_append_right _ h))) (by decide +kernel))
set_option maxRecDepth 20000 in
theorem gL_law_L_isInOrder : GoodIn wsL_law (va_wsS RL 88 yL_isInOrder wsL_isInOrder) := goodIn_app (goodIn_of _ (by decide +kernel)) ggL_law_L_isInOrder
set_option maxRecDepth 20000 in
theorem ggL_law_X2_swaps : GoodIn wsL_law wsX2_swaps := goodIn_r _ [226, 15, 227, 261, 262, 263, 264, 265, 266, 267, 268, 269, 270, 271, 272, 273, 274, 275, 276] (by decide +kernel) (by decide +kernel)
set_option maxRecDepth 20000 in
theorem gL_law_X2_swaps : GoodIn wsL_law (wsV RL 17 RX2 yX2_swaps wsX2_swaps) := goodIn_app (goodIn_of _ (by decide +kernel)) ggL_law_X2_swaps
set_option maxRecDepth 20000 in
theorem ggL_law_X2_misses : GoodIn wsL_law wsX2_misses := goodIn_r _ [231, 15, 232, 261, 262, 263, 264, 265, 266, 267, 268, 269, 270, 271, 272, 273, 274, 275, 276] (by decide +kernel) (by decide +kernel)
set_option maxRecDepth 20000 in
theorem gL_law_X2_misses : GoodIn wsL_law (wsV RL 20 RX2 yX2_misses wsX2_misses) := goodIn_app (goodIn_of _ (by decide +kernel)) ggL_law_X2_misses
set_option maxRecDepth 20000 in
theorem ggL_law_X2_atHome : GoodIn wsL_law wsX2_atHome := goodIn_ca (goodIn_r _ [241, 15, 129, 11, 10, 88, 89, 2, 90, 70, 71, 91, 92, 93, 261, 262, 263, 264, 265, 266, 267, 268, 269, 270, 271, 272, 273, 274, 275, 276] (by decide +kernel) (by decide +kernel)) (goodIn_sub (fun _ h => List.mem_append_left _ (List.mem_append_left _ (List.mem_append_right _ h))) (by decide +kernel))
set_option maxRecDepth 20000 in
theorem gL_law_X2_atHome : GoodIn wsL_law (wsV RL 49 RX2 yX2_atHome wsX2_atHome) := goodIn_app (goodIn_of _ (by decide +kernel)) ggL_law_X2_atHome
set_option maxRecDepth 20000 in
theorem ggL_law_X2_wouldCost : GoodIn wsL_law wsX2_wouldCost := goodIn_ca (goodIn_r _ [245, 176, 177, 2, 178, 150, 151, 246, 247, 248, 249, 16, 59, 20, 250, 251, 252, 183, 30, 31, 14, 32, 33, 34, 25, 35, 28, 36, 37, 38, 39, 253, 254, 255, 19, 256, 124, 123, 98, 99, 100, 101, 102, 103, 104, 105, 76, 77, 78, 79, 80, 81, 82, 83, 26, 106, 107, 108, 109, 110, 111, 112, 113, 114, 115, 116, 117, 118, 261, 262, 263, 264, 265, 266, 267, 268, 269, 270, 271, 272, 273, 274, 275, 276, 277, 278, 279, 280] (by decide +kernel) (by decide +kernel)) (goodIn_sub (fun _ h => List.mem_append_left _ (List.mem_append_right _ h)) (by decide +kernel))
set_option maxRecDepth 20000 in
theorem gL_law_X2_wouldCost : GoodIn wsL_law (wsV RL 92 RX2 yX2_wouldCost wsX2_wouldCost) := goodIn_app (goodIn_of _ (by decide +kernel)) ggL_law_X2_wouldCost
set_option maxRecDepth 20000 in
theorem ggL_law_X2_bestPlaces : GoodIn wsL_law wsX2_bestPlaces := goodIn_r _ [260, 15, 193, 246, 247, 248, 2, 249, 16, 59, 20, 250, 251, 252, 183, 30, 31, 14, 32, 33, 34, 25, 35, 28, 36, 37, 38, 39, 253, 254, 255, 19, 256, 124, 123, 98, 99, 100, 101, 102, 103, 104, 105, 76, 77, 78, 79, 80, 81, 82, 83, 26, 106, 107, 108, 109, 110, 111, 112, 113, 114, 115, 116, 117, 118, 261, 262, 263, 264, 265, 266, 267, 268, 269, 270, 271, 272, 273, 274, 275, 276, 277, 278, 279, 280] (by decide +kernel) (by decide +kernel)
set_option maxRecDepth 20000 in
theorem gL_law_X2_bestPlaces : GoodIn wsL_law (wsV RL 95 RX2 yX2_bestPlaces wsX2_bestPlaces) := goodIn_app (goodIn_of _ (by decide +kernel)) ggL_law_X2_bestPlaces
theorem dL_law_0 : decode cL_law 0 = .ok (.new 9, 3) := by decide +kernel
theorem dL_law_3 : decode cL_law 3 = .ok (.dup, 1) := by decide +kernel
theorem dL_law_4 : decode cL_law 4 = .ok (.invokespecial 58, 3) := by decide +kernel
theorem dL_law_7 : decode cL_law 7 = .ok (.astore_n 1, 1) := by decide +kernel
theorem dL_law_8 : decode cL_law 8 = .ok (.bipush 64, 2) := by decide +kernel
theorem dL_law_10 : decode cL_law 10 = .ok (.newarray .int, 2) := by decide +kernel
theorem dL_law_12 : decode cL_law 12 = .ok (.astore_n 2, 1) := by decide +kernel
theorem dL_law_13 : decode cL_law 13 = .ok (.iconst 1, 1) := by decide +kernel
theorem dL_law_14 : decode cL_law 14 = .ok (.istore_n 3, 1) := by decide +kernel
theorem dL_law_15 : decode cL_law 15 = .ok (.iconst 0, 1) := by decide +kernel
theorem dL_law_16 : decode cL_law 16 = .ok (.istore 4, 2) := by decide +kernel
theorem dL_law_18 : decode cL_law 18 = .ok (.iload 4, 2) := by decide +kernel
theorem dL_law_20 : decode cL_law 20 = .ok (.sipush 150, 3) := by decide +kernel
theorem dL_law_23 : decode cL_law 23 = .ok (.if_icmp .ge 549, 3) := by decide +kernel
theorem dL_law_26 : decode cL_law 26 = .ok (.iload_n 3, 1) := by decide +kernel
theorem dL_law_27 : decode cL_law 27 = .ok (.ifCond .eq 545, 3) := by decide +kernel
theorem dL_law_30 : decode cL_law 30 = .ok (.aload_n 0, 1) := by decide +kernel
theorem dL_law_31 : decode cL_law 31 = .ok (.iload 4, 2) := by decide +kernel
theorem dL_law_33 : decode cL_law 33 = .ok (.sipush 30000, 3) := by decide +kernel
theorem dL_law_36 : decode cL_law 36 = .ok (.invokestatic 59, 3) := by decide +kernel
theorem dL_law_39 : decode cL_law 39 = .ok (.istore 5, 2) := by decide +kernel
theorem dL_law_41 : decode cL_law 41 = .ok (.iload 5, 2) := by decide +kernel
theorem dL_law_43 : decode cL_law 43 = .ok (.bipush 16, 2) := by decide +kernel
theorem dL_law_45 : decode cL_law 45 = .ok (.idiv, 1) := by decide +kernel
theorem dL_law_46 : decode cL_law 46 = .ok (.iload 5, 2) := by decide +kernel
theorem dL_law_48 : decode cL_law 48 = .ok (.iconst 2, 1) := by decide +kernel
theorem dL_law_49 : decode cL_law 49 = .ok (.irem, 1) := by decide +kernel
theorem dL_law_50 : decode cL_law 50 = .ok (.ifCond .ne 8, 3) := by decide +kernel
theorem dL_law_53 : decode cL_law 53 = .ok (.bipush 64, 2) := by decide +kernel
theorem dL_law_55 : decode cL_law 55 = .ok (.goto 5, 3) := by decide +kernel
theorem dL_law_58 : decode cL_law 58 = .ok (.bipush 11, 2) := by decide +kernel
theorem dL_law_60 : decode cL_law 60 = .ok (.irem, 1) := by decide +kernel
theorem dL_law_61 : decode cL_law 61 = .ok (.istore 6, 2) := by decide +kernel
theorem dL_law_63 : decode cL_law 63 = .ok (.iload 5, 2) := by decide +kernel
theorem dL_law_65 : decode cL_law 65 = .ok (.bipush 16, 2) := by decide +kernel
theorem dL_law_67 : decode cL_law 67 = .ok (.irem, 1) := by decide +kernel
theorem dL_law_68 : decode cL_law 68 = .ok (.istore 7, 2) := by decide +kernel
theorem dL_law_70 : decode cL_law 70 = .ok (.aload_n 1, 1) := by decide +kernel
theorem dL_law_71 : decode cL_law 71 = .ok (.invokevirtual 14, 3) := by decide +kernel
theorem dL_law_74 : decode cL_law 74 = .ok (.istore 8, 2) := by decide +kernel
theorem dL_law_76 : decode cL_law 76 = .ok (.aload_n 1, 1) := by decide +kernel
theorem dL_law_77 : decode cL_law 77 = .ok (.invokevirtual 8, 3) := by decide +kernel
theorem dL_law_80 : decode cL_law 80 = .ok (.istore 9, 2) := by decide +kernel
theorem dL_law_82 : decode cL_law 82 = .ok (.aload_n 1, 1) := by decide +kernel
theorem dL_law_83 : decode cL_law 83 = .ok (.iload 6, 2) := by decide +kernel
theorem dL_law_85 : decode cL_law 85 = .ok (.invokestatic 65, 3) := by decide +kernel
theorem dL_law_88 : decode cL_law 88 = .ok (.iconst 4, 1) := by decide +kernel
theorem dL_law_89 : decode cL_law 89 = .ok (.idiv, 1) := by decide +kernel
theorem dL_law_90 : decode cL_law 90 = .ok (.invokevirtual 39, 3) := by decide +kernel
theorem dL_law_93 : decode cL_law 93 = .ok (.istore 10, 2) := by decide +kernel
theorem dL_law_95 : decode cL_law 95 = .ok (.iload 7, 2) := by decide +kernel
theorem dL_law_97 : decode cL_law 97 = .ok (.bipush 7, 2) := by decide +kernel
theorem dL_law_99 : decode cL_law 99 = .ok (.if_icmp .ge 49, 3) := by decide +kernel
theorem dL_law_102 : decode cL_law 102 = .ok (.aload_n 1, 1) := by decide +kernel
theorem dL_law_103 : decode cL_law 103 = .ok (.iload 6, 2) := by decide +kernel
theorem dL_law_105 : decode cL_law 105 = .ok (.invokestatic 65, 3) := by decide +kernel
theorem dL_law_108 : decode cL_law 108 = .ok (.invokevirtual 68, 3) := by decide +kernel
theorem dL_law_111 : decode cL_law 111 = .ok (.aload_n 2, 1) := by decide +kernel
theorem dL_law_112 : decode cL_law 112 = .ok (.iload 6, 2) := by decide +kernel
theorem dL_law_114 : decode cL_law 114 = .ok (.iaload, 1) := by decide +kernel
theorem dL_law_115 : decode cL_law 115 = .ok (.if_icmp .ne 28, 3) := by decide +kernel
theorem dL_law_118 : decode cL_law 118 = .ok (.aload_n 1, 1) := by decide +kernel
theorem dL_law_119 : decode cL_law 119 = .ok (.invokevirtual 14, 3) := by decide +kernel
theorem dL_law_122 : decode cL_law 122 = .ok (.iload 8, 2) := by decide +kernel
theorem dL_law_124 : decode cL_law 124 = .ok (.iload 10, 2) := by decide +kernel
theorem dL_law_126 : decode cL_law 126 = .ok (.iconst 1, 1) := by decide +kernel
theorem dL_law_127 : decode cL_law 127 = .ok (.if_icmp .ne 7, 3) := by decide +kernel
theorem dL_law_130 : decode cL_law 130 = .ok (.iconst 1, 1) := by decide +kernel
theorem dL_law_131 : decode cL_law 131 = .ok (.goto 4, 3) := by decide +kernel
theorem dL_law_134 : decode cL_law 134 = .ok (.iconst 0, 1) := by decide +kernel
theorem dL_law_135 : decode cL_law 135 = .ok (.iadd, 1) := by decide +kernel
theorem dL_law_136 : decode cL_law 136 = .ok (.if_icmp .ne 7, 3) := by decide +kernel
theorem dL_law_139 : decode cL_law 139 = .ok (.iconst 1, 1) := by decide +kernel
theorem dL_law_140 : decode cL_law 140 = .ok (.goto 4, 3) := by decide +kernel
theorem dL_law_143 : decode cL_law 143 = .ok (.iconst 0, 1) := by decide +kernel
theorem dL_law_144 : decode cL_law 144 = .ok (.istore_n 3, 1) := by decide +kernel
theorem dL_law_145 : decode cL_law 145 = .ok (.goto 374, 3) := by decide +kernel
theorem dL_law_148 : decode cL_law 148 = .ok (.iload 7, 2) := by decide +kernel
theorem dL_law_150 : decode cL_law 150 = .ok (.bipush 12, 2) := by decide +kernel
theorem dL_law_152 : decode cL_law 152 = .ok (.if_icmp .ge 73, 3) := by decide +kernel
theorem dL_law_155 : decode cL_law 155 = .ok (.aload_n 1, 1) := by decide +kernel
theorem dL_law_156 : decode cL_law 156 = .ok (.iload 6, 2) := by decide +kernel
theorem dL_law_158 : decode cL_law 158 = .ok (.invokestatic 65, 3) := by decide +kernel
theorem dL_law_161 : decode cL_law 161 = .ok (.iload 5, 2) := by decide +kernel
theorem dL_law_163 : decode cL_law 163 = .ok (.iload 4, 2) := by decide +kernel
theorem dL_law_165 : decode cL_law 165 = .ok (.isub, 1) := by decide +kernel
theorem dL_law_166 : decode cL_law 166 = .ok (.invokevirtual 71, 3) := by decide +kernel
theorem dL_law_169 : decode cL_law 169 = .ok (.aload_n 2, 1) := by decide +kernel
theorem dL_law_170 : decode cL_law 170 = .ok (.iload 6, 2) := by decide +kernel
theorem dL_law_172 : decode cL_law 172 = .ok (.iaload, 1) := by decide +kernel
theorem dL_law_173 : decode cL_law 173 = .ok (.if_icmp .ne 38, 3) := by decide +kernel
theorem dL_law_176 : decode cL_law 176 = .ok (.aload_n 1, 1) := by decide +kernel
theorem dL_law_177 : decode cL_law 177 = .ok (.iload 6, 2) := by decide +kernel
theorem dL_law_179 : decode cL_law 179 = .ok (.invokestatic 65, 3) := by decide +kernel
theorem dL_law_182 : decode cL_law 182 = .ok (.iconst 4, 1) := by decide +kernel
theorem dL_law_183 : decode cL_law 183 = .ok (.idiv, 1) := by decide +kernel
theorem dL_law_184 : decode cL_law 184 = .ok (.invokevirtual 45, 3) := by decide +kernel
theorem dL_law_187 : decode cL_law 187 = .ok (.ifCond .eq 24, 3) := by decide +kernel
theorem dL_law_190 : decode cL_law 190 = .ok (.aload_n 1, 1) := by decide +kernel
theorem dL_law_191 : decode cL_law 191 = .ok (.iload 6, 2) := by decide +kernel
theorem dL_law_193 : decode cL_law 193 = .ok (.invokestatic 65, 3) := by decide +kernel
theorem dL_law_196 : decode cL_law 196 = .ok (.invokevirtual 52, 3) := by decide +kernel
theorem dL_law_199 : decode cL_law 199 = .ok (.iload 5, 2) := by decide +kernel
theorem dL_law_201 : decode cL_law 201 = .ok (.iload 4, 2) := by decide +kernel
theorem dL_law_203 : decode cL_law 203 = .ok (.isub, 1) := by decide +kernel
theorem dL_law_204 : decode cL_law 204 = .ok (.if_icmp .ne 7, 3) := by decide +kernel
theorem dL_law_207 : decode cL_law 207 = .ok (.iconst 1, 1) := by decide +kernel
theorem dL_law_208 : decode cL_law 208 = .ok (.goto 4, 3) := by decide +kernel
theorem dL_law_211 : decode cL_law 211 = .ok (.iconst 0, 1) := by decide +kernel
theorem dL_law_212 : decode cL_law 212 = .ok (.istore_n 3, 1) := by decide +kernel
theorem dL_law_213 : decode cL_law 213 = .ok (.aload_n 2, 1) := by decide +kernel
theorem dL_law_214 : decode cL_law 214 = .ok (.iload 6, 2) := by decide +kernel
theorem dL_law_216 : decode cL_law 216 = .ok (.iload 5, 2) := by decide +kernel
theorem dL_law_218 : decode cL_law 218 = .ok (.iload 4, 2) := by decide +kernel
theorem dL_law_220 : decode cL_law 220 = .ok (.isub, 1) := by decide +kernel
theorem dL_law_221 : decode cL_law 221 = .ok (.iastore, 1) := by decide +kernel
theorem dL_law_222 : decode cL_law 222 = .ok (.goto 297, 3) := by decide +kernel
theorem dL_law_225 : decode cL_law 225 = .ok (.iload 7, 2) := by decide +kernel
theorem dL_law_227 : decode cL_law 227 = .ok (.bipush 12, 2) := by decide +kernel
theorem dL_law_229 : decode cL_law 229 = .ok (.if_icmp .ne 70, 3) := by decide +kernel
theorem dL_law_232 : decode cL_law 232 = .ok (.iconst 1, 1) := by decide +kernel
theorem dL_law_233 : decode cL_law 233 = .ok (.iload 5, 2) := by decide +kernel
theorem dL_law_235 : decode cL_law 235 = .ok (.bipush 16, 2) := by decide +kernel
theorem dL_law_237 : decode cL_law 237 = .ok (.idiv, 1) := by decide +kernel
theorem dL_law_238 : decode cL_law 238 = .ok (.bipush 30, 2) := by decide +kernel
theorem dL_law_240 : decode cL_law 240 = .ok (.irem, 1) := by decide +kernel
theorem dL_law_241 : decode cL_law 241 = .ok (.iadd, 1) := by decide +kernel
theorem dL_law_242 : decode cL_law 242 = .ok (.istore 11, 2) := by decide +kernel
theorem dL_law_244 : decode cL_law 244 = .ok (.aload_n 1, 1) := by decide +kernel
theorem dL_law_245 : decode cL_law 245 = .ok (.iload 6, 2) := by decide +kernel
theorem dL_law_247 : decode cL_law 247 = .ok (.invokestatic 65, 3) := by decide +kernel
theorem dL_law_250 : decode cL_law 250 = .ok (.iload 5, 2) := by decide +kernel
theorem dL_law_252 : decode cL_law 252 = .ok (.sipush 480, 3) := by decide +kernel
theorem dL_law_255 : decode cL_law 255 = .ok (.idiv, 1) := by decide +kernel
theorem dL_law_256 : decode cL_law 256 = .ok (.sipush 129, 3) := by decide +kernel
theorem dL_law_259 : decode cL_law 259 = .ok (.irem, 1) := by decide +kernel
theorem dL_law_260 : decode cL_law 260 = .ok (.bipush 64, 2) := by decide +kernel
theorem dL_law_262 : decode cL_law 262 = .ok (.isub, 1) := by decide +kernel
theorem dL_law_263 : decode cL_law 263 = .ok (.iload 11, 2) := by decide +kernel
theorem dL_law_265 : decode cL_law 265 = .ok (.invokevirtual 75, 3) := by decide +kernel
theorem dL_law_268 : decode cL_law 268 = .ok (.aload_n 1, 1) := by decide +kernel
theorem dL_law_269 : decode cL_law 269 = .ok (.invokevirtual 8, 3) := by decide +kernel
theorem dL_law_272 : decode cL_law 272 = .ok (.iload 9, 2) := by decide +kernel
theorem dL_law_274 : decode cL_law 274 = .ok (.isub, 1) := by decide +kernel
theorem dL_law_275 : decode cL_law 275 = .ok (.if_icmp .ne 19, 3) := by decide +kernel
theorem dL_law_278 : decode cL_law 278 = .ok (.aload_n 1, 1) := by decide +kernel
theorem dL_law_279 : decode cL_law 279 = .ok (.invokevirtual 8, 3) := by decide +kernel
theorem dL_law_282 : decode cL_law 282 = .ok (.iload 9, 2) := by decide +kernel
theorem dL_law_284 : decode cL_law 284 = .ok (.iload 11, 2) := by decide +kernel
theorem dL_law_286 : decode cL_law 286 = .ok (.iadd, 1) := by decide +kernel
theorem dL_law_287 : decode cL_law 287 = .ok (.if_icmp .lt 7, 3) := by decide +kernel
theorem dL_law_290 : decode cL_law 290 = .ok (.iconst 1, 1) := by decide +kernel
theorem dL_law_291 : decode cL_law 291 = .ok (.goto 4, 3) := by decide +kernel
theorem dL_law_294 : decode cL_law 294 = .ok (.iconst 0, 1) := by decide +kernel
theorem dL_law_295 : decode cL_law 295 = .ok (.istore_n 3, 1) := by decide +kernel
theorem dL_law_296 : decode cL_law 296 = .ok (.goto 223, 3) := by decide +kernel
theorem dL_law_299 : decode cL_law 299 = .ok (.iload 7, 2) := by decide +kernel
theorem dL_law_301 : decode cL_law 301 = .ok (.bipush 13, 2) := by decide +kernel
theorem dL_law_303 : decode cL_law 303 = .ok (.if_icmp .ne 49, 3) := by decide +kernel
theorem dL_law_306 : decode cL_law 306 = .ok (.aload_n 1, 1) := by decide +kernel
theorem dL_law_307 : decode cL_law 307 = .ok (.invokevirtual 55, 3) := by decide +kernel
theorem dL_law_310 : decode cL_law 310 = .ok (.istore 11, 2) := by decide +kernel
theorem dL_law_312 : decode cL_law 312 = .ok (.aload_n 1, 1) := by decide +kernel
theorem dL_law_313 : decode cL_law 313 = .ok (.invokevirtual 79, 3) := by decide +kernel
theorem dL_law_316 : decode cL_law 316 = .ok (.iload 11, 2) := by decide +kernel
theorem dL_law_318 : decode cL_law 318 = .ok (.if_icmp .ne 29, 3) := by decide +kernel
theorem dL_law_321 : decode cL_law 321 = .ok (.aload_n 1, 1) := by decide +kernel
theorem dL_law_322 : decode cL_law 322 = .ok (.invokevirtual 55, 3) := by decide +kernel
theorem dL_law_325 : decode cL_law 325 = .ok (.ifCond .ne 22, 3) := by decide +kernel
theorem dL_law_328 : decode cL_law 328 = .ok (.aload_n 1, 1) := by decide +kernel
theorem dL_law_329 : decode cL_law 329 = .ok (.invokevirtual 8, 3) := by decide +kernel
theorem dL_law_332 : decode cL_law 332 = .ok (.iload 9, 2) := by decide +kernel
theorem dL_law_334 : decode cL_law 334 = .ok (.bipush 10, 2) := by decide +kernel
theorem dL_law_336 : decode cL_law 336 = .ok (.iload 11, 2) := by decide +kernel
theorem dL_law_338 : decode cL_law 338 = .ok (.imul, 1) := by decide +kernel
theorem dL_law_339 : decode cL_law 339 = .ok (.iadd, 1) := by decide +kernel
theorem dL_law_340 : decode cL_law 340 = .ok (.if_icmp .ne 7, 3) := by decide +kernel
theorem dL_law_343 : decode cL_law 343 = .ok (.iconst 1, 1) := by decide +kernel
theorem dL_law_344 : decode cL_law 344 = .ok (.goto 4, 3) := by decide +kernel
theorem dL_law_347 : decode cL_law 347 = .ok (.iconst 0, 1) := by decide +kernel
theorem dL_law_348 : decode cL_law 348 = .ok (.istore_n 3, 1) := by decide +kernel
theorem dL_law_349 : decode cL_law 349 = .ok (.goto 170, 3) := by decide +kernel
theorem dL_law_352 : decode cL_law 352 = .ok (.iload 7, 2) := by decide +kernel
theorem dL_law_354 : decode cL_law 354 = .ok (.bipush 14, 2) := by decide +kernel
theorem dL_law_356 : decode cL_law 356 = .ok (.if_icmp .ne 73, 3) := by decide +kernel
theorem dL_law_359 : decode cL_law 359 = .ok (.iload 5, 2) := by decide +kernel
theorem dL_law_361 : decode cL_law 361 = .ok (.iconst 5, 1) := by decide +kernel
theorem dL_law_362 : decode cL_law 362 = .ok (.irem, 1) := by decide +kernel
theorem dL_law_363 : decode cL_law 363 = .ok (.ifCond .ne 66, 3) := by decide +kernel
theorem dL_law_366 : decode cL_law 366 = .ok (.aload_n 1, 1) := by decide +kernel
theorem dL_law_367 : decode cL_law 367 = .ok (.invokevirtual 55, 3) := by decide +kernel
theorem dL_law_370 : decode cL_law 370 = .ok (.istore 11, 2) := by decide +kernel
theorem dL_law_372 : decode cL_law 372 = .ok (.aload_n 1, 1) := by decide +kernel
theorem dL_law_373 : decode cL_law 373 = .ok (.iconst 1, 1) := by decide +kernel
theorem dL_law_374 : decode cL_law 374 = .ok (.iload 5, 2) := by decide +kernel
theorem dL_law_376 : decode cL_law 376 = .ok (.bipush 16, 2) := by decide +kernel
theorem dL_law_378 : decode cL_law 378 = .ok (.idiv, 1) := by decide +kernel
theorem dL_law_379 : decode cL_law 379 = .ok (.iconst 5, 1) := by decide +kernel
theorem dL_law_380 : decode cL_law 380 = .ok (.irem, 1) := by decide +kernel
theorem dL_law_381 : decode cL_law 381 = .ok (.ishl, 1) := by decide +kernel
theorem dL_law_382 : decode cL_law 382 = .ok (.iload 5, 2) := by decide +kernel
theorem dL_law_384 : decode cL_law 384 = .ok (.bipush 80, 2) := by decide +kernel
theorem dL_law_386 : decode cL_law 386 = .ok (.idiv, 1) := by decide +kernel
theorem dL_law_387 : decode cL_law 387 = .ok (.bipush 9, 2) := by decide +kernel
theorem dL_law_389 : decode cL_law 389 = .ok (.irem, 1) := by decide +kernel
theorem dL_law_390 : decode cL_law 390 = .ok (.invokevirtual 82, 3) := by decide +kernel
theorem dL_law_393 : decode cL_law 393 = .ok (.iload 11, 2) := by decide +kernel
theorem dL_law_395 : decode cL_law 395 = .ok (.if_icmp .lt 29, 3) := by decide +kernel
theorem dL_law_398 : decode cL_law 398 = .ok (.aload_n 1, 1) := by decide +kernel
theorem dL_law_399 : decode cL_law 399 = .ok (.invokevirtual 8, 3) := by decide +kernel
theorem dL_law_402 : decode cL_law 402 = .ok (.iload 9, 2) := by decide +kernel
theorem dL_law_404 : decode cL_law 404 = .ok (.bipush 10, 2) := by decide +kernel
theorem dL_law_406 : decode cL_law 406 = .ok (.iload 11, 2) := by decide +kernel
theorem dL_law_408 : decode cL_law 408 = .ok (.imul, 1) := by decide +kernel
theorem dL_law_409 : decode cL_law 409 = .ok (.iadd, 1) := by decide +kernel
theorem dL_law_410 : decode cL_law 410 = .ok (.if_icmp .ne 14, 3) := by decide +kernel
theorem dL_law_413 : decode cL_law 413 = .ok (.aload_n 1, 1) := by decide +kernel
theorem dL_law_414 : decode cL_law 414 = .ok (.invokevirtual 26, 3) := by decide +kernel
theorem dL_law_417 : decode cL_law 417 = .ok (.ifCond .ne 7, 3) := by decide +kernel
theorem dL_law_420 : decode cL_law 420 = .ok (.iconst 1, 1) := by decide +kernel
theorem dL_law_421 : decode cL_law 421 = .ok (.goto 4, 3) := by decide +kernel
theorem dL_law_424 : decode cL_law 424 = .ok (.iconst 0, 1) := by decide +kernel
theorem dL_law_425 : decode cL_law 425 = .ok (.istore_n 3, 1) := by decide +kernel
theorem dL_law_426 : decode cL_law 426 = .ok (.goto 93, 3) := by decide +kernel
theorem dL_law_429 : decode cL_law 429 = .ok (.iload 5, 2) := by decide +kernel
theorem dL_law_431 : decode cL_law 431 = .ok (.bipush 16, 2) := by decide +kernel
theorem dL_law_433 : decode cL_law 433 = .ok (.idiv, 1) := by decide +kernel
theorem dL_law_434 : decode cL_law 434 = .ok (.aload_n 1, 1) := by decide +kernel
theorem dL_law_435 : decode cL_law 435 = .ok (.invokevirtual 32, 3) := by decide +kernel
theorem dL_law_438 : decode cL_law 438 = .ok (.irem, 1) := by decide +kernel
theorem dL_law_439 : decode cL_law 439 = .ok (.istore 11, 2) := by decide +kernel
theorem dL_law_441 : decode cL_law 441 = .ok (.aload_n 1, 1) := by decide +kernel
theorem dL_law_442 : decode cL_law 442 = .ok (.iload 11, 2) := by decide +kernel
theorem dL_law_444 : decode cL_law 444 = .ok (.invokevirtual 35, 3) := by decide +kernel
theorem dL_law_447 : decode cL_law 447 = .ok (.istore 12, 2) := by decide +kernel
theorem dL_law_449 : decode cL_law 449 = .ok (.iload 12, 2) := by decide +kernel
theorem dL_law_451 : decode cL_law 451 = .ok (.ifCond .lt 62, 3) := by decide +kernel
theorem dL_law_454 : decode cL_law 454 = .ok (.aload_n 1, 1) := by decide +kernel
theorem dL_law_455 : decode cL_law 455 = .ok (.iload 11, 2) := by decide +kernel
theorem dL_law_457 : decode cL_law 457 = .ok (.invokevirtual 85, 3) := by decide +kernel
theorem dL_law_460 : decode cL_law 460 = .ok (.iload 12, 2) := by decide +kernel
theorem dL_law_462 : decode cL_law 462 = .ok (.if_icmp .ne 55, 3) := by decide +kernel
theorem dL_law_465 : decode cL_law 465 = .ok (.aload_n 1, 1) := by decide +kernel
theorem dL_law_466 : decode cL_law 466 = .ok (.iload 11, 2) := by decide +kernel
theorem dL_law_468 : decode cL_law 468 = .ok (.invokevirtual 35, 3) := by decide +kernel
theorem dL_law_471 : decode cL_law 471 = .ok (.iconst (-1), 1) := by decide +kernel
theorem dL_law_472 : decode cL_law 472 = .ok (.if_icmp .ne 45, 3) := by decide +kernel
theorem dL_law_475 : decode cL_law 475 = .ok (.aload_n 1, 1) := by decide +kernel
theorem dL_law_476 : decode cL_law 476 = .ok (.iload 12, 2) := by decide +kernel
theorem dL_law_478 : decode cL_law 478 = .ok (.invokevirtual 39, 3) := by decide +kernel
theorem dL_law_481 : decode cL_law 481 = .ok (.aload_n 1, 1) := by decide +kernel
theorem dL_law_482 : decode cL_law 482 = .ok (.invokevirtual 29, 3) := by decide +kernel
theorem dL_law_485 : decode cL_law 485 = .ok (.ifCond .ne 7, 3) := by decide +kernel
theorem dL_law_488 : decode cL_law 488 = .ok (.iconst 0, 1) := by decide +kernel
theorem dL_law_489 : decode cL_law 489 = .ok (.goto 4, 3) := by decide +kernel
theorem dL_law_492 : decode cL_law 492 = .ok (.iconst 2, 1) := by decide +kernel
theorem dL_law_493 : decode cL_law 493 = .ok (.if_icmp .ne 24, 3) := by decide +kernel
theorem dL_law_496 : decode cL_law 496 = .ok (.aload_n 1, 1) := by decide +kernel
theorem dL_law_497 : decode cL_law 497 = .ok (.invokevirtual 29, 3) := by decide +kernel
theorem dL_law_500 : decode cL_law 500 = .ok (.ifCond .eq 13, 3) := by decide +kernel
theorem dL_law_503 : decode cL_law 503 = .ok (.aload_n 1, 1) := by decide +kernel
theorem dL_law_504 : decode cL_law 504 = .ok (.iconst 0, 1) := by decide +kernel
theorem dL_law_505 : decode cL_law 505 = .ok (.invokevirtual 42, 3) := by decide +kernel
theorem dL_law_508 : decode cL_law 508 = .ok (.iload 12, 2) := by decide +kernel
theorem dL_law_510 : decode cL_law 510 = .ok (.if_icmp .ne 7, 3) := by decide +kernel
theorem dL_law_513 : decode cL_law 513 = .ok (.iconst 1, 1) := by decide +kernel
theorem dL_law_514 : decode cL_law 514 = .ok (.goto 4, 3) := by decide +kernel
theorem dL_law_517 : decode cL_law 517 = .ok (.iconst 0, 1) := by decide +kernel
theorem dL_law_518 : decode cL_law 518 = .ok (.istore_n 3, 1) := by decide +kernel
theorem dL_law_519 : decode cL_law 519 = .ok (.iload_n 3, 1) := by decide +kernel
theorem dL_law_520 : decode cL_law 520 = .ok (.ifCond .eq 44, 3) := by decide +kernel
theorem dL_law_523 : decode cL_law 523 = .ok (.iload 7, 2) := by decide +kernel
theorem dL_law_525 : decode cL_law 525 = .ok (.bipush 11, 2) := by decide +kernel
theorem dL_law_527 : decode cL_law 527 = .ok (.if_icmp .gt 18, 3) := by decide +kernel
theorem dL_law_530 : decode cL_law 530 = .ok (.aload_n 1, 1) := by decide +kernel
theorem dL_law_531 : decode cL_law 531 = .ok (.iload 6, 2) := by decide +kernel
theorem dL_law_533 : decode cL_law 533 = .ok (.invokestatic 65, 3) := by decide +kernel
theorem dL_law_536 : decode cL_law 536 = .ok (.iconst 4, 1) := by decide +kernel
theorem dL_law_537 : decode cL_law 537 = .ok (.idiv, 1) := by decide +kernel
theorem dL_law_538 : decode cL_law 538 = .ok (.invokevirtual 39, 3) := by decide +kernel
theorem dL_law_541 : decode cL_law 541 = .ok (.iconst 1, 1) := by decide +kernel
theorem dL_law_542 : decode cL_law 542 = .ok (.if_icmp .ne 22, 3) := by decide +kernel
theorem dL_law_545 : decode cL_law 545 = .ok (.iload 4, 2) := by decide +kernel
theorem dL_law_547 : decode cL_law 547 = .ok (.bipush 10, 2) := by decide +kernel
theorem dL_law_549 : decode cL_law 549 = .ok (.irem, 1) := by decide +kernel
theorem dL_law_550 : decode cL_law 550 = .ok (.ifCond .gt 10, 3) := by decide +kernel
theorem dL_law_553 : decode cL_law 553 = .ok (.aload_n 1, 1) := by decide +kernel
theorem dL_law_554 : decode cL_law 554 = .ok (.invokestatic 88, 3) := by decide +kernel
theorem dL_law_557 : decode cL_law 557 = .ok (.ifCond .eq 7, 3) := by decide +kernel
theorem dL_law_560 : decode cL_law 560 = .ok (.iconst 1, 1) := by decide +kernel
theorem dL_law_561 : decode cL_law 561 = .ok (.goto 4, 3) := by decide +kernel
theorem dL_law_564 : decode cL_law 564 = .ok (.iconst 0, 1) := by decide +kernel
theorem dL_law_565 : decode cL_law 565 = .ok (.istore_n 3, 1) := by decide +kernel
theorem dL_law_566 : decode cL_law 566 = .ok (.iinc 4 1, 3) := by decide +kernel
theorem dL_law_569 : decode cL_law 569 = .ok (.goto (-551), 3) := by decide +kernel
theorem dL_law_572 : decode cL_law 572 = .ok (.iconst 0, 1) := by decide +kernel
theorem dL_law_573 : decode cL_law 573 = .ok (.istore 4, 2) := by decide +kernel
theorem dL_law_575 : decode cL_law 575 = .ok (.iload 4, 2) := by decide +kernel
theorem dL_law_577 : decode cL_law 577 = .ok (.bipush 64, 2) := by decide +kernel
theorem dL_law_579 : decode cL_law 579 = .ok (.if_icmp .ge 35, 3) := by decide +kernel
theorem dL_law_582 : decode cL_law 582 = .ok (.iload_n 3, 1) := by decide +kernel
theorem dL_law_583 : decode cL_law 583 = .ok (.ifCond .eq 23, 3) := by decide +kernel
theorem dL_law_586 : decode cL_law 586 = .ok (.aload_n 1, 1) := by decide +kernel
theorem dL_law_587 : decode cL_law 587 = .ok (.iload 4, 2) := by decide +kernel
theorem dL_law_589 : decode cL_law 589 = .ok (.invokestatic 65, 3) := by decide +kernel
theorem dL_law_592 : decode cL_law 592 = .ok (.invokevirtual 52, 3) := by decide +kernel
theorem dL_law_595 : decode cL_law 595 = .ok (.aload_n 2, 1) := by decide +kernel
theorem dL_law_596 : decode cL_law 596 = .ok (.iload 4, 2) := by decide +kernel
theorem dL_law_598 : decode cL_law 598 = .ok (.iaload, 1) := by decide +kernel
theorem dL_law_599 : decode cL_law 599 = .ok (.if_icmp .ne 7, 3) := by decide +kernel
theorem dL_law_602 : decode cL_law 602 = .ok (.iconst 1, 1) := by decide +kernel
theorem dL_law_603 : decode cL_law 603 = .ok (.goto 4, 3) := by decide +kernel
theorem dL_law_606 : decode cL_law 606 = .ok (.iconst 0, 1) := by decide +kernel
theorem dL_law_607 : decode cL_law 607 = .ok (.istore_n 3, 1) := by decide +kernel
theorem dL_law_608 : decode cL_law 608 = .ok (.iinc 4 1, 3) := by decide +kernel
theorem dL_law_611 : decode cL_law 611 = .ok (.goto (-36), 3) := by decide +kernel
theorem dL_law_614 : decode cL_law 614 = .ok (.aload_n 1, 1) := by decide +kernel
theorem dL_law_615 : decode cL_law 615 = .ok (.invokevirtual 14, 3) := by decide +kernel
theorem dL_law_618 : decode cL_law 618 = .ok (.aload_n 1, 1) := by decide +kernel
theorem dL_law_619 : decode cL_law 619 = .ok (.invokevirtual 17, 3) := by decide +kernel
theorem dL_law_622 : decode cL_law 622 = .ok (.iadd, 1) := by decide +kernel
theorem dL_law_623 : decode cL_law 623 = .ok (.aload_n 1, 1) := by decide +kernel
theorem dL_law_624 : decode cL_law 624 = .ok (.invokevirtual 20, 3) := by decide +kernel
theorem dL_law_627 : decode cL_law 627 = .ok (.iadd, 1) := by decide +kernel
theorem dL_law_628 : decode cL_law 628 = .ok (.istore 4, 2) := by decide +kernel
theorem dL_law_630 : decode cL_law 630 = .ok (.iload_n 3, 1) := by decide +kernel
theorem dL_law_631 : decode cL_law 631 = .ok (.ifCond .eq 81, 3) := by decide +kernel
theorem dL_law_634 : decode cL_law 634 = .ok (.aload_n 1, 1) := by decide +kernel
theorem dL_law_635 : decode cL_law 635 = .ok (.invokestatic 88, 3) := by decide +kernel
theorem dL_law_638 : decode cL_law 638 = .ok (.ifCond .eq 74, 3) := by decide +kernel
theorem dL_law_641 : decode cL_law 641 = .ok (.aload_n 1, 1) := by decide +kernel
theorem dL_law_642 : decode cL_law 642 = .ok (.invokevirtual 79, 3) := by decide +kernel
theorem dL_law_645 : decode cL_law 645 = .ok (.ifCond .lt 67, 3) := by decide +kernel
theorem dL_law_648 : decode cL_law 648 = .ok (.aload_n 1, 1) := by decide +kernel
theorem dL_law_649 : decode cL_law 649 = .ok (.bipush 9, 2) := by decide +kernel
theorem dL_law_651 : decode cL_law 651 = .ok (.invokestatic 65, 3) := by decide +kernel
theorem dL_law_654 : decode cL_law 654 = .ok (.invokevirtual 49, 3) := by decide +kernel
theorem dL_law_657 : decode cL_law 657 = .ok (.aload_n 2, 1) := by decide +kernel
theorem dL_law_658 : decode cL_law 658 = .ok (.bipush 9, 2) := by decide +kernel
theorem dL_law_660 : decode cL_law 660 = .ok (.iaload, 1) := by decide +kernel
theorem dL_law_661 : decode cL_law 661 = .ok (.if_icmp .ne 51, 3) := by decide +kernel
theorem dL_law_664 : decode cL_law 664 = .ok (.aload_n 1, 1) := by decide +kernel
theorem dL_law_665 : decode cL_law 665 = .ok (.aload_n 1, 1) := by decide +kernel
theorem dL_law_666 : decode cL_law 666 = .ok (.invokevirtual 32, 3) := by decide +kernel
theorem dL_law_669 : decode cL_law 669 = .ok (.aload_n 1, 1) := by decide +kernel
theorem dL_law_670 : decode cL_law 670 = .ok (.invokevirtual 29, 3) := by decide +kernel
theorem dL_law_673 : decode cL_law 673 = .ok (.invokevirtual 92, 3) := by decide +kernel
theorem dL_law_676 : decode cL_law 676 = .ok (.iload 4, 2) := by decide +kernel
theorem dL_law_678 : decode cL_law 678 = .ok (.sipush 150, 3) := by decide +kernel
theorem dL_law_681 : decode cL_law 681 = .ok (.if_icmp .ge 8, 3) := by decide +kernel
theorem dL_law_684 : decode cL_law 684 = .ok (.iload 4, 2) := by decide +kernel
theorem dL_law_686 : decode cL_law 686 = .ok (.goto 6, 3) := by decide +kernel
theorem dL_law_689 : decode cL_law 689 = .ok (.sipush 150, 3) := by decide +kernel
theorem dL_law_692 : decode cL_law 692 = .ok (.if_icmp .lt 20, 3) := by decide +kernel
theorem dL_law_695 : decode cL_law 695 = .ok (.aload_n 1, 1) := by decide +kernel
theorem dL_law_696 : decode cL_law 696 = .ok (.bipush 16, 2) := by decide +kernel
theorem dL_law_698 : decode cL_law 698 = .ok (.aload_n 1, 1) := by decide +kernel
theorem dL_law_699 : decode cL_law 699 = .ok (.invokevirtual 95, 3) := by decide +kernel
theorem dL_law_702 : decode cL_law 702 = .ok (.invokevirtual 92, 3) := by decide +kernel
theorem dL_law_705 : decode cL_law 705 = .ok (.ifCond .lt 7, 3) := by decide +kernel
theorem dL_law_708 : decode cL_law 708 = .ok (.iconst 1, 1) := by decide +kernel
theorem dL_law_709 : decode cL_law 709 = .ok (.goto 4, 3) := by decide +kernel
theorem dL_law_712 : decode cL_law 712 = .ok (.iconst 0, 1) := by decide +kernel
theorem dL_law_713 : decode cL_law 713 = .ok (.ireturn, 1) := by decide +kernel
abbrev vwCl : List vw_C := [(RX0, TX0, 11), (RX1, TX1, 4), (RX2, TX2, 5)]
