theorem wsL_law_x0 : ∀ w ∈ (vx_atS RX2 111 "java/lang/IndexOutOfBoundsException" ["java/lang/RuntimeException", "java/lang/Exception"]).filter goodWord, w ∈ lw_tbl := by decide +kernel
theorem wsL_law_x1 : ∀ w ∈ (vx_atS RX2 58 "java/lang/IllegalArgumentException" ["java/lang/RuntimeException", "java/lang/Exception"]).filter goodWord, w ∈ lw_tbl := by decide +kernel
theorem wsL_law_x2 : ∀ w ∈ (vx_atS RX2 94 "java/lang/IllegalStateException" ["java/lang/RuntimeException", "java/lang/Exception"]).filter goodWord, w ∈ lw_tbl := by decide +kernel
theorem wsL_law_in : ∀ w ∈ wsL_law, w ∈ lw_tbl := fun w h => (List.mem_append.mp h).elim (fun h => (List.mem_append.mp h).elim (fun h => (List.mem_append.mp h).elim (fun h => wsL_law_in0 w h) (fun h => wsL_law_x0 w h)) (fun h => wsL_law_x1 w h)) (fun h => wsL_law_x2 w h)
theorem inlX0 : ∀ w ∈ wsX00, w ∈ wsL_law := fun _ h => List.mem_append_left _ (List.mem_append_left _ (List.mem_append_left _ (List.mem_append_left _ (List.mem_append_left _ (List.mem_append_right _ h)))))
theorem inX0 : ∀ w ∈ wsX00, w ∈ lw_tbl := fun w h => wsL_law_in w (inlX0 w h)
theorem inlX1 : ∀ w ∈ wsX10, w ∈ wsL_law := fun _ h => List.mem_append_left _ (List.mem_append_left _ (List.mem_append_left _ (List.mem_append_left _ (List.mem_append_right _ h))))
theorem inX1 : ∀ w ∈ wsX10, w ∈ lw_tbl := fun w h => wsL_law_in w (inlX1 w h)
theorem inlX2 : ∀ w ∈ wsX20, w ∈ wsL_law := fun _ h => List.mem_append_left _ (List.mem_append_left _ (List.mem_append_left _ (List.mem_append_left _ (List.mem_append_left _ (List.mem_append_left _ (List.mem_append_right _ h))))))
theorem inX2 : ∀ w ∈ wsX20, w ∈ lw_tbl := fun w h => wsL_law_in w (inlX2 w h)
theorem inX3 : ∀ w ∈ wsX30, w ∈ lw_tbl := by decide +kernel
theorem inJx145de : ∀ w ∈ wsJx145de0, w ∈ lw_tbl := by decide +kernel
theorem inJ9 : ∀ w ∈ wsJ90, w ∈ lw_tbl := by decide +kernel
theorem inJ0 : ∀ w ∈ wsJ00, w ∈ lw_tbl := by decide +kernel
theorem inJ10 : ∀ w ∈ wsJ100, w ∈ lw_tbl := by decide +kernel
theorem inJ7 : ∀ w ∈ wsJ70, w ∈ lw_tbl := by decide +kernel
set_option maxRecDepth 20000 in
theorem ggX0_init_X0_startEmpty : GoodIn wsX0_init wsX0_startEmpty := goodIn_r _ [13, 14, 15, 5, 16, 8, 17, 18, 19, 20, 21, 22, 23, 24, 25, 26, 27, 28, 29, 30, 31] (by decide +kernel) (by decide +kernel)
set_option maxRecDepth 20000 in
theorem gX0_init_X0_startEmpty : GoodIn wsX0_init (wsV RX0 22 RX0 yX0_startEmpty wsX0_startEmpty) := goodIn_app (goodIn_of _ (by decide +kernel)) ggX0_init_X0_startEmpty
theorem dX0_init_0 : decode cX0_init 0 = .ok (.aload_n 0, 1) := by decide +kernel
theorem dX0_init_1 : decode cX0_init 1 = .ok (.invokespecial 3, 3) := by decide +kernel
theorem dX0_init_4 : decode cX0_init 4 = .ok (.aload_n 0, 1) := by decide +kernel
theorem dX0_init_5 : decode cX0_init 5 = .ok (.bipush 16, 2) := by decide +kernel
theorem dX0_init_7 : decode cX0_init 7 = .ok (.newarray .int, 2) := by decide +kernel
theorem dX0_init_9 : decode cX0_init 9 = .ok (.putfield 9, 3) := by decide +kernel
theorem dX0_init_12 : decode cX0_init 12 = .ok (.aload_n 0, 1) := by decide +kernel
theorem dX0_init_13 : decode cX0_init 13 = .ok (.bipush 8, 2) := by decide +kernel
theorem dX0_init_15 : decode cX0_init 15 = .ok (.newarray .int, 2) := by decide +kernel
theorem dX0_init_17 : decode cX0_init 17 = .ok (.putfield 15, 3) := by decide +kernel
theorem dX0_init_20 : decode cX0_init 20 = .ok (.aload_n 0, 1) := by decide +kernel
theorem dX0_init_21 : decode cX0_init 21 = .ok (.sipush 256, 3) := by decide +kernel
theorem dX0_init_24 : decode cX0_init 24 = .ok (.newarray .boolean, 2) := by decide +kernel
theorem dX0_init_26 : decode cX0_init 26 = .ok (.putfield 18, 3) := by decide +kernel
theorem dX0_init_29 : decode cX0_init 29 = .ok (.aload_n 0, 1) := by decide +kernel
theorem dX0_init_30 : decode cX0_init 30 = .ok (.iload_n 1, 1) := by decide +kernel
theorem dX0_init_31 : decode cX0_init 31 = .ok (.iload_n 2, 1) := by decide +kernel
theorem dX0_init_32 : decode cX0_init 32 = .ok (.invokevirtual 22, 3) := by decide +kernel
theorem dX0_init_35 : decode cX0_init 35 = .ok (.return_, 1) := by decide +kernel
set_option maxRecDepth 20000 in
theorem ggX0_startEmpty_J7_fill_53178 : GoodIn wsX0_startEmpty wsJ7_fill_53178 := goodIn_r _ [9] (by decide +kernel) (by decide +kernel)
set_option maxRecDepth 20000 in
theorem gX0_startEmpty_J7_fill_53178 : GoodIn wsX0_startEmpty (va_wsS RX0 33 yJ7_fill_53178 wsJ7_fill_53178) := goodIn_app (goodIn_of _ (by decide +kernel)) ggX0_startEmpty_J7_fill_53178
theorem dX0_startEmpty_0 : decode cX0_startEmpty 0 = .ok (.aload_n 0, 1) := by decide +kernel
theorem dX0_startEmpty_1 : decode cX0_startEmpty 1 = .ok (.iload_n 1, 1) := by decide +kernel
theorem dX0_startEmpty_2 : decode cX0_startEmpty 2 = .ok (.putfield 26, 3) := by decide +kernel
theorem dX0_startEmpty_5 : decode cX0_startEmpty 5 = .ok (.aload_n 0, 1) := by decide +kernel
theorem dX0_startEmpty_6 : decode cX0_startEmpty 6 = .ok (.iload_n 2, 1) := by decide +kernel
theorem dX0_startEmpty_7 : decode cX0_startEmpty 7 = .ok (.putfield 30, 3) := by decide +kernel
theorem dX0_startEmpty_10 : decode cX0_startEmpty 10 = .ok (.aload_n 0, 1) := by decide +kernel
theorem dX0_startEmpty_11 : decode cX0_startEmpty 11 = .ok (.getfield 9, 3) := by decide +kernel
theorem dX0_startEmpty_14 : decode cX0_startEmpty 14 = .ok (.iconst (-1), 1) := by decide +kernel
theorem dX0_startEmpty_15 : decode cX0_startEmpty 15 = .ok (.invokestatic 33, 3) := by decide +kernel
theorem dX0_startEmpty_18 : decode cX0_startEmpty 18 = .ok (.aload_n 0, 1) := by decide +kernel
theorem dX0_startEmpty_19 : decode cX0_startEmpty 19 = .ok (.iconst 0, 1) := by decide +kernel
theorem dX0_startEmpty_20 : decode cX0_startEmpty 20 = .ok (.putfield 39, 3) := by decide +kernel
theorem dX0_startEmpty_23 : decode cX0_startEmpty 23 = .ok (.iconst 0, 1) := by decide +kernel
theorem dX0_startEmpty_24 : decode cX0_startEmpty 24 = .ok (.istore_n 3, 1) := by decide +kernel
theorem dX0_startEmpty_25 : decode cX0_startEmpty 25 = .ok (.iload_n 3, 1) := by decide +kernel
theorem dX0_startEmpty_26 : decode cX0_startEmpty 26 = .ok (.sipush 256, 3) := by decide +kernel
theorem dX0_startEmpty_29 : decode cX0_startEmpty 29 = .ok (.if_icmp .ge 16, 3) := by decide +kernel
theorem dX0_startEmpty_32 : decode cX0_startEmpty 32 = .ok (.aload_n 0, 1) := by decide +kernel
theorem dX0_startEmpty_33 : decode cX0_startEmpty 33 = .ok (.getfield 18, 3) := by decide +kernel
theorem dX0_startEmpty_36 : decode cX0_startEmpty 36 = .ok (.iload_n 3, 1) := by decide +kernel
theorem dX0_startEmpty_37 : decode cX0_startEmpty 37 = .ok (.iconst 0, 1) := by decide +kernel
theorem dX0_startEmpty_38 : decode cX0_startEmpty 38 = .ok (.bastore, 1) := by decide +kernel
theorem dX0_startEmpty_39 : decode cX0_startEmpty 39 = .ok (.iinc 3 1, 3) := by decide +kernel
theorem dX0_startEmpty_42 : decode cX0_startEmpty 42 = .ok (.goto (-17), 3) := by decide +kernel
theorem dX0_startEmpty_45 : decode cX0_startEmpty 45 = .ok (.return_, 1) := by decide +kernel
set_option maxRecDepth 20000 in
theorem ggX0_access_X0_setOf : GoodIn wsX0_access wsX0_setOf := goodIn_r _ [11, 12, 33, 34, 35, 36, 37, 38, 39, 40, 41, 42, 43] (by decide +kernel) (by decide +kernel)
set_option maxRecDepth 20000 in
theorem gX0_access_X0_setOf : GoodIn wsX0_access (wsV RX0 42 RX0 yX0_setOf wsX0_setOf) := goodIn_app (goodIn_of _ (by decide +kernel)) ggX0_access_X0_setOf
set_option maxRecDepth 20000 in
theorem ggX0_access_X0_seatOf : GoodIn wsX0_access wsX0_seatOf := goodIn_r _ [16, 17, 18, 33, 34, 35, 36, 37, 38, 39, 40, 41, 42, 43] (by decide +kernel) (by decide +kernel)
set_option maxRecDepth 20000 in
theorem gX0_access_X0_seatOf : GoodIn wsX0_access (wsV RX0 52 RX0 yX0_seatOf wsX0_seatOf) := goodIn_app (goodIn_of _ (by decide +kernel)) ggX0_access_X0_seatOf
set_option maxRecDepth 20000 in
theorem ggX0_access_X0_leaveBench : GoodIn wsX0_access wsX0_leaveBench := goodIn_r _ [22, 17, 18, 33, 34, 35, 36, 37, 38, 39, 40, 41, 42, 43] (by decide +kernel) (by decide +kernel)
set_option maxRecDepth 20000 in
theorem gX0_access_X0_leaveBench : GoodIn wsX0_access (wsV RX0 61 RX0 yX0_leaveBench wsX0_leaveBench) := goodIn_app (goodIn_of _ (by decide +kernel)) ggX0_access_X0_leaveBench
set_option maxRecDepth 20000 in
theorem ggX0_access_X0_throwOut : GoodIn wsX0_access wsX0_throwOut := goodIn_r _ [26, 1, 27, 17, 18, 28, 29, 30, 10, 31, 6, 32, 3, 19, 20, 21, 22, 33, 34, 35, 36, 37, 38, 39, 40, 41, 42, 43] (by decide +kernel) (by decide +kernel)
set_option maxRecDepth 20000 in
theorem gX0_access_X0_throwOut : GoodIn wsX0_access (wsV RX0 65 RX0 yX0_throwOut wsX0_throwOut) := goodIn_app (goodIn_of _ (by decide +kernel)) ggX0_access_X0_throwOut
theorem dX0_access_0 : decode cX0_access 0 = .ok (.aload_n 0, 1) := by decide +kernel
theorem dX0_access_1 : decode cX0_access 1 = .ok (.iload_n 1, 1) := by decide +kernel
theorem dX0_access_2 : decode cX0_access 2 = .ok (.invokevirtual 42, 3) := by decide +kernel
theorem dX0_access_5 : decode cX0_access 5 = .ok (.istore_n 3, 1) := by decide +kernel
theorem dX0_access_6 : decode cX0_access 6 = .ok (.aload_n 0, 1) := by decide +kernel
theorem dX0_access_7 : decode cX0_access 7 = .ok (.getfield 9, 3) := by decide +kernel
theorem dX0_access_10 : decode cX0_access 10 = .ok (.iload_n 3, 1) := by decide +kernel
theorem dX0_access_11 : decode cX0_access 11 = .ok (.iaload, 1) := by decide +kernel
theorem dX0_access_12 : decode cX0_access 12 = .ok (.iload_n 1, 1) := by decide +kernel
theorem dX0_access_13 : decode cX0_access 13 = .ok (.if_icmp .ne 26, 3) := by decide +kernel
theorem dX0_access_16 : decode cX0_access 16 = .ok (.aload_n 0, 1) := by decide +kernel
theorem dX0_access_17 : decode cX0_access 17 = .ok (.dup, 1) := by decide +kernel
theorem dX0_access_18 : decode cX0_access 18 = .ok (.getfield 46, 3) := by decide +kernel
theorem dX0_access_21 : decode cX0_access 21 = .ok (.iconst 1, 1) := by decide +kernel
theorem dX0_access_22 : decode cX0_access 22 = .ok (.iadd, 1) := by decide +kernel
theorem dX0_access_23 : decode cX0_access 23 = .ok (.putfield 46, 3) := by decide +kernel
theorem dX0_access_26 : decode cX0_access 26 = .ok (.aload_n 0, 1) := by decide +kernel
theorem dX0_access_27 : decode cX0_access 27 = .ok (.dup, 1) := by decide +kernel
theorem dX0_access_28 : decode cX0_access 28 = .ok (.getfield 49, 3) := by decide +kernel
theorem dX0_access_31 : decode cX0_access 31 = .ok (.iconst 1, 1) := by decide +kernel
theorem dX0_access_32 : decode cX0_access 32 = .ok (.iadd, 1) := by decide +kernel
theorem dX0_access_33 : decode cX0_access 33 = .ok (.putfield 49, 3) := by decide +kernel
theorem dX0_access_36 : decode cX0_access 36 = .ok (.goto 78, 3) := by decide +kernel
theorem dX0_access_39 : decode cX0_access 39 = .ok (.aload_n 0, 1) := by decide +kernel
theorem dX0_access_40 : decode cX0_access 40 = .ok (.iload_n 1, 1) := by decide +kernel
theorem dX0_access_41 : decode cX0_access 41 = .ok (.invokevirtual 52, 3) := by decide +kernel
theorem dX0_access_44 : decode cX0_access 44 = .ok (.istore 4, 2) := by decide +kernel
theorem dX0_access_46 : decode cX0_access 46 = .ok (.iload 4, 2) := by decide +kernel
theorem dX0_access_48 : decode cX0_access 48 = .ok (.iconst (-1), 1) := by decide +kernel
theorem dX0_access_49 : decode cX0_access 49 = .ok (.if_icmp .ne 27, 3) := by decide +kernel
theorem dX0_access_52 : decode cX0_access 52 = .ok (.aload_n 0, 1) := by decide +kernel
theorem dX0_access_53 : decode cX0_access 53 = .ok (.dup, 1) := by decide +kernel
theorem dX0_access_54 : decode cX0_access 54 = .ok (.getfield 55, 3) := by decide +kernel
theorem dX0_access_57 : decode cX0_access 57 = .ok (.iconst 1, 1) := by decide +kernel
theorem dX0_access_58 : decode cX0_access 58 = .ok (.iadd, 1) := by decide +kernel
theorem dX0_access_59 : decode cX0_access 59 = .ok (.putfield 55, 3) := by decide +kernel
theorem dX0_access_62 : decode cX0_access 62 = .ok (.aload_n 0, 1) := by decide +kernel
theorem dX0_access_63 : decode cX0_access 63 = .ok (.dup, 1) := by decide +kernel
theorem dX0_access_64 : decode cX0_access 64 = .ok (.getfield 49, 3) := by decide +kernel
theorem dX0_access_67 : decode cX0_access 67 = .ok (.bipush 20, 2) := by decide +kernel
theorem dX0_access_69 : decode cX0_access 69 = .ok (.iadd, 1) := by decide +kernel
theorem dX0_access_70 : decode cX0_access 70 = .ok (.putfield 49, 3) := by decide +kernel
theorem dX0_access_73 : decode cX0_access 73 = .ok (.goto 29, 3) := by decide +kernel
theorem dX0_access_76 : decode cX0_access 76 = .ok (.aload_n 0, 1) := by decide +kernel
theorem dX0_access_77 : decode cX0_access 77 = .ok (.dup, 1) := by decide +kernel
theorem dX0_access_78 : decode cX0_access 78 = .ok (.getfield 58, 3) := by decide +kernel
theorem dX0_access_81 : decode cX0_access 81 = .ok (.iconst 1, 1) := by decide +kernel
theorem dX0_access_82 : decode cX0_access 82 = .ok (.iadd, 1) := by decide +kernel
theorem dX0_access_83 : decode cX0_access 83 = .ok (.putfield 58, 3) := by decide +kernel
theorem dX0_access_86 : decode cX0_access 86 = .ok (.aload_n 0, 1) := by decide +kernel
theorem dX0_access_87 : decode cX0_access 87 = .ok (.dup, 1) := by decide +kernel
theorem dX0_access_88 : decode cX0_access 88 = .ok (.getfield 49, 3) := by decide +kernel
theorem dX0_access_91 : decode cX0_access 91 = .ok (.iconst 3, 1) := by decide +kernel
theorem dX0_access_92 : decode cX0_access 92 = .ok (.iadd, 1) := by decide +kernel
theorem dX0_access_93 : decode cX0_access 93 = .ok (.putfield 49, 3) := by decide +kernel
theorem dX0_access_96 : decode cX0_access 96 = .ok (.aload_n 0, 1) := by decide +kernel
theorem dX0_access_97 : decode cX0_access 97 = .ok (.iload 4, 2) := by decide +kernel
theorem dX0_access_99 : decode cX0_access 99 = .ok (.invokevirtual 61, 3) := by decide +kernel
theorem dX0_access_102 : decode cX0_access 102 = .ok (.aload_n 0, 1) := by decide +kernel
theorem dX0_access_103 : decode cX0_access 103 = .ok (.iload_n 3, 1) := by decide +kernel
theorem dX0_access_104 : decode cX0_access 104 = .ok (.invokevirtual 65, 3) := by decide +kernel
theorem dX0_access_107 : decode cX0_access 107 = .ok (.aload_n 0, 1) := by decide +kernel
theorem dX0_access_108 : decode cX0_access 108 = .ok (.getfield 9, 3) := by decide +kernel
theorem dX0_access_111 : decode cX0_access 111 = .ok (.iload_n 3, 1) := by decide +kernel
theorem dX0_access_112 : decode cX0_access 112 = .ok (.iload_n 1, 1) := by decide +kernel
theorem dX0_access_113 : decode cX0_access 113 = .ok (.iastore, 1) := by decide +kernel
theorem dX0_access_114 : decode cX0_access 114 = .ok (.iload_n 2, 1) := by decide +kernel
theorem dX0_access_115 : decode cX0_access 115 = .ok (.ifCond .eq 10, 3) := by decide +kernel
theorem dX0_access_118 : decode cX0_access 118 = .ok (.aload_n 0, 1) := by decide +kernel
theorem dX0_access_119 : decode cX0_access 119 = .ok (.getfield 18, 3) := by decide +kernel
theorem dX0_access_122 : decode cX0_access 122 = .ok (.iload_n 1, 1) := by decide +kernel
theorem dX0_access_123 : decode cX0_access 123 = .ok (.iconst 1, 1) := by decide +kernel
theorem dX0_access_124 : decode cX0_access 124 = .ok (.bastore, 1) := by decide +kernel
theorem dX0_access_125 : decode cX0_access 125 = .ok (.return_, 1) := by decide +kernel
set_option maxRecDepth 20000 in
theorem ggX0_throwOut_X0_bringHomeIfDirty : GoodIn wsX0_throwOut wsX0_bringHomeIfDirty := goodIn_r _ [9, 10, 11, 12, 17, 18, 19, 20, 21, 22, 23, 24, 25, 26, 27] (by decide +kernel) (by decide +kernel)
set_option maxRecDepth 20000 in
theorem gX0_throwOut_X0_bringHomeIfDirty : GoodIn wsX0_throwOut (wsV RX0 68 RX0 yX0_bringHomeIfDirty wsX0_bringHomeIfDirty) := goodIn_app (goodIn_of _ (by decide +kernel)) ggX0_throwOut_X0_bringHomeIfDirty
set_option maxRecDepth 20000 in
theorem ggX0_throwOut_X0_leaveBench : GoodIn wsX0_throwOut wsX0_leaveBench := goodIn_r _ [16, 3, 4, 17, 18, 19, 20, 21, 22, 23, 24, 25, 26, 27] (by decide +kernel) (by decide +kernel)
set_option maxRecDepth 20000 in
theorem gX0_throwOut_X0_leaveBench : GoodIn wsX0_throwOut (wsV RX0 61 RX0 yX0_leaveBench wsX0_leaveBench) := goodIn_app (goodIn_of _ (by decide +kernel)) ggX0_throwOut_X0_leaveBench
theorem dX0_throwOut_0 : decode cX0_throwOut 0 = .ok (.aload_n 0, 1) := by decide +kernel
theorem dX0_throwOut_1 : decode cX0_throwOut 1 = .ok (.getfield 9, 3) := by decide +kernel
theorem dX0_throwOut_4 : decode cX0_throwOut 4 = .ok (.iload_n 1, 1) := by decide +kernel
theorem dX0_throwOut_5 : decode cX0_throwOut 5 = .ok (.iaload, 1) := by decide +kernel
theorem dX0_throwOut_6 : decode cX0_throwOut 6 = .ok (.istore_n 2, 1) := by decide +kernel
theorem dX0_throwOut_7 : decode cX0_throwOut 7 = .ok (.iload_n 2, 1) := by decide +kernel
theorem dX0_throwOut_8 : decode cX0_throwOut 8 = .ok (.iconst (-1), 1) := by decide +kernel
theorem dX0_throwOut_9 : decode cX0_throwOut 9 = .ok (.if_icmp .ne 4, 3) := by decide +kernel
theorem dX0_throwOut_12 : decode cX0_throwOut 12 = .ok (.return_, 1) := by decide +kernel
theorem dX0_throwOut_13 : decode cX0_throwOut 13 = .ok (.aload_n 0, 1) := by decide +kernel
theorem dX0_throwOut_14 : decode cX0_throwOut 14 = .ok (.getfield 9, 3) := by decide +kernel
theorem dX0_throwOut_17 : decode cX0_throwOut 17 = .ok (.iload_n 1, 1) := by decide +kernel
theorem dX0_throwOut_18 : decode cX0_throwOut 18 = .ok (.iconst (-1), 1) := by decide +kernel
theorem dX0_throwOut_19 : decode cX0_throwOut 19 = .ok (.iastore, 1) := by decide +kernel
theorem dX0_throwOut_20 : decode cX0_throwOut 20 = .ok (.aload_n 0, 1) := by decide +kernel
theorem dX0_throwOut_21 : decode cX0_throwOut 21 = .ok (.getfield 30, 3) := by decide +kernel
theorem dX0_throwOut_24 : decode cX0_throwOut 24 = .ok (.ifCond .ne 9, 3) := by decide +kernel
theorem dX0_throwOut_27 : decode cX0_throwOut 27 = .ok (.aload_n 0, 1) := by decide +kernel
theorem dX0_throwOut_28 : decode cX0_throwOut 28 = .ok (.iload_n 2, 1) := by decide +kernel
theorem dX0_throwOut_29 : decode cX0_throwOut 29 = .ok (.invokevirtual 68, 3) := by decide +kernel
theorem dX0_throwOut_32 : decode cX0_throwOut 32 = .ok (.return_, 1) := by decide +kernel
theorem dX0_throwOut_33 : decode cX0_throwOut 33 = .ok (.aload_n 0, 1) := by decide +kernel
theorem dX0_throwOut_34 : decode cX0_throwOut 34 = .ok (.getfield 39, 3) := by decide +kernel
theorem dX0_throwOut_37 : decode cX0_throwOut 37 = .ok (.aload_n 0, 1) := by decide +kernel
theorem dX0_throwOut_38 : decode cX0_throwOut 38 = .ok (.getfield 30, 3) := by decide +kernel
theorem dX0_throwOut_41 : decode cX0_throwOut 41 = .ok (.if_icmp .lt 18, 3) := by decide +kernel
theorem dX0_throwOut_44 : decode cX0_throwOut 44 = .ok (.aload_n 0, 1) := by decide +kernel
theorem dX0_throwOut_45 : decode cX0_throwOut 45 = .ok (.aload_n 0, 1) := by decide +kernel
theorem dX0_throwOut_46 : decode cX0_throwOut 46 = .ok (.getfield 15, 3) := by decide +kernel
theorem dX0_throwOut_49 : decode cX0_throwOut 49 = .ok (.iconst 0, 1) := by decide +kernel
theorem dX0_throwOut_50 : decode cX0_throwOut 50 = .ok (.iaload, 1) := by decide +kernel
theorem dX0_throwOut_51 : decode cX0_throwOut 51 = .ok (.invokevirtual 68, 3) := by decide +kernel
theorem dX0_throwOut_54 : decode cX0_throwOut 54 = .ok (.aload_n 0, 1) := by decide +kernel
theorem dX0_throwOut_55 : decode cX0_throwOut 55 = .ok (.iconst 0, 1) := by decide +kernel
theorem dX0_throwOut_56 : decode cX0_throwOut 56 = .ok (.invokevirtual 61, 3) := by decide +kernel
theorem dX0_throwOut_59 : decode cX0_throwOut 59 = .ok (.aload_n 0, 1) := by decide +kernel
theorem dX0_throwOut_60 : decode cX0_throwOut 60 = .ok (.getfield 15, 3) := by decide +kernel
theorem dX0_throwOut_63 : decode cX0_throwOut 63 = .ok (.aload_n 0, 1) := by decide +kernel
theorem dX0_throwOut_64 : decode cX0_throwOut 64 = .ok (.getfield 39, 3) := by decide +kernel
theorem dX0_throwOut_67 : decode cX0_throwOut 67 = .ok (.iload_n 2, 1) := by decide +kernel
theorem dX0_throwOut_68 : decode cX0_throwOut 68 = .ok (.iastore, 1) := by decide +kernel
theorem dX0_throwOut_69 : decode cX0_throwOut 69 = .ok (.aload_n 0, 1) := by decide +kernel
theorem dX0_throwOut_70 : decode cX0_throwOut 70 = .ok (.dup, 1) := by decide +kernel
theorem dX0_throwOut_71 : decode cX0_throwOut 71 = .ok (.getfield 39, 3) := by decide +kernel
theorem dX0_throwOut_74 : decode cX0_throwOut 74 = .ok (.iconst 1, 1) := by decide +kernel
theorem dX0_throwOut_75 : decode cX0_throwOut 75 = .ok (.iadd, 1) := by decide +kernel
theorem dX0_throwOut_76 : decode cX0_throwOut 76 = .ok (.putfield 39, 3) := by decide +kernel
theorem dX0_throwOut_79 : decode cX0_throwOut 79 = .ok (.return_, 1) := by decide +kernel
theorem dX0_leaveBench_0 : decode cX0_leaveBench 0 = .ok (.aload_n 0, 1) := by decide +kernel
theorem dX0_leaveBench_1 : decode cX0_leaveBench 1 = .ok (.dup, 1) := by decide +kernel
theorem dX0_leaveBench_2 : decode cX0_leaveBench 2 = .ok (.getfield 39, 3) := by decide +kernel
theorem dX0_leaveBench_5 : decode cX0_leaveBench 5 = .ok (.iconst 1, 1) := by decide +kernel
theorem dX0_leaveBench_6 : decode cX0_leaveBench 6 = .ok (.isub, 1) := by decide +kernel
theorem dX0_leaveBench_7 : decode cX0_leaveBench 7 = .ok (.putfield 39, 3) := by decide +kernel
theorem dX0_leaveBench_10 : decode cX0_leaveBench 10 = .ok (.iload_n 1, 1) := by decide +kernel
theorem dX0_leaveBench_11 : decode cX0_leaveBench 11 = .ok (.istore_n 2, 1) := by decide +kernel
theorem dX0_leaveBench_12 : decode cX0_leaveBench 12 = .ok (.iload_n 2, 1) := by decide +kernel
theorem dX0_leaveBench_13 : decode cX0_leaveBench 13 = .ok (.aload_n 0, 1) := by decide +kernel
theorem dX0_leaveBench_14 : decode cX0_leaveBench 14 = .ok (.getfield 39, 3) := by decide +kernel
theorem dX0_leaveBench_17 : decode cX0_leaveBench 17 = .ok (.if_icmp .ge 23, 3) := by decide +kernel
theorem dX0_leaveBench_20 : decode cX0_leaveBench 20 = .ok (.aload_n 0, 1) := by decide +kernel
theorem dX0_leaveBench_21 : decode cX0_leaveBench 21 = .ok (.getfield 15, 3) := by decide +kernel
theorem dX0_leaveBench_24 : decode cX0_leaveBench 24 = .ok (.iload_n 2, 1) := by decide +kernel
theorem dX0_leaveBench_25 : decode cX0_leaveBench 25 = .ok (.aload_n 0, 1) := by decide +kernel
theorem dX0_leaveBench_26 : decode cX0_leaveBench 26 = .ok (.getfield 15, 3) := by decide +kernel
theorem dX0_leaveBench_29 : decode cX0_leaveBench 29 = .ok (.iload_n 2, 1) := by decide +kernel
theorem dX0_leaveBench_30 : decode cX0_leaveBench 30 = .ok (.iconst 1, 1) := by decide +kernel
theorem dX0_leaveBench_31 : decode cX0_leaveBench 31 = .ok (.iadd, 1) := by decide +kernel
theorem dX0_leaveBench_32 : decode cX0_leaveBench 32 = .ok (.iaload, 1) := by decide +kernel
theorem dX0_leaveBench_33 : decode cX0_leaveBench 33 = .ok (.iastore, 1) := by decide +kernel
theorem dX0_leaveBench_34 : decode cX0_leaveBench 34 = .ok (.iinc 2 1, 3) := by decide +kernel
theorem dX0_leaveBench_37 : decode cX0_leaveBench 37 = .ok (.goto (-25), 3) := by decide +kernel
theorem dX0_leaveBench_40 : decode cX0_leaveBench 40 = .ok (.return_, 1) := by decide +kernel
set_option maxRecDepth 20000 in
theorem ggX0_bringAllHome_X0_bringHomeIfDirty : GoodIn wsX0_bringAllHome wsX0_bringHomeIfDirty := goodIn_r _ [10, 11, 1, 12, 13, 14, 15, 16, 17, 18, 19, 20, 21, 22, 23] (by decide +kernel) (by decide +kernel)
set_option maxRecDepth 20000 in
theorem gX0_bringAllHome_X0_bringHomeIfDirty : GoodIn wsX0_bringAllHome (wsV RX0 68 RX0 yX0_bringHomeIfDirty wsX0_bringHomeIfDirty) := goodIn_app (goodIn_of _ (by decide +kernel)) ggX0_bringAllHome_X0_bringHomeIfDirty
theorem dX0_bringAllHome_0 : decode cX0_bringAllHome 0 = .ok (.aload_n 0, 1) := by decide +kernel
theorem dX0_bringAllHome_1 : decode cX0_bringAllHome 1 = .ok (.getfield 71, 3) := by decide +kernel
theorem dX0_bringAllHome_4 : decode cX0_bringAllHome 4 = .ok (.istore_n 1, 1) := by decide +kernel
theorem dX0_bringAllHome_5 : decode cX0_bringAllHome 5 = .ok (.iconst 0, 1) := by decide +kernel
theorem dX0_bringAllHome_6 : decode cX0_bringAllHome 6 = .ok (.istore_n 2, 1) := by decide +kernel
theorem dX0_bringAllHome_7 : decode cX0_bringAllHome 7 = .ok (.iload_n 2, 1) := by decide +kernel
theorem dX0_bringAllHome_8 : decode cX0_bringAllHome 8 = .ok (.aload_n 0, 1) := by decide +kernel
theorem dX0_bringAllHome_9 : decode cX0_bringAllHome 9 = .ok (.getfield 26, 3) := by decide +kernel
theorem dX0_bringAllHome_12 : decode cX0_bringAllHome 12 = .ok (.if_icmp .ge 29, 3) := by decide +kernel
theorem dX0_bringAllHome_15 : decode cX0_bringAllHome 15 = .ok (.aload_n 0, 1) := by decide +kernel
theorem dX0_bringAllHome_16 : decode cX0_bringAllHome 16 = .ok (.getfield 9, 3) := by decide +kernel
theorem dX0_bringAllHome_19 : decode cX0_bringAllHome 19 = .ok (.iload_n 2, 1) := by decide +kernel
theorem dX0_bringAllHome_20 : decode cX0_bringAllHome 20 = .ok (.iaload, 1) := by decide +kernel
theorem dX0_bringAllHome_21 : decode cX0_bringAllHome 21 = .ok (.iconst (-1), 1) := by decide +kernel
theorem dX0_bringAllHome_22 : decode cX0_bringAllHome 22 = .ok (.if_icmp .eq 13, 3) := by decide +kernel
theorem dX0_bringAllHome_25 : decode cX0_bringAllHome 25 = .ok (.aload_n 0, 1) := by decide +kernel
theorem dX0_bringAllHome_26 : decode cX0_bringAllHome 26 = .ok (.aload_n 0, 1) := by decide +kernel
theorem dX0_bringAllHome_27 : decode cX0_bringAllHome 27 = .ok (.getfield 9, 3) := by decide +kernel
theorem dX0_bringAllHome_30 : decode cX0_bringAllHome 30 = .ok (.iload_n 2, 1) := by decide +kernel
theorem dX0_bringAllHome_31 : decode cX0_bringAllHome 31 = .ok (.iaload, 1) := by decide +kernel
theorem dX0_bringAllHome_32 : decode cX0_bringAllHome 32 = .ok (.invokevirtual 68, 3) := by decide +kernel
theorem dX0_bringAllHome_35 : decode cX0_bringAllHome 35 = .ok (.iinc 2 1, 3) := by decide +kernel
theorem dX0_bringAllHome_38 : decode cX0_bringAllHome 38 = .ok (.goto (-31), 3) := by decide +kernel
theorem dX0_bringAllHome_41 : decode cX0_bringAllHome 41 = .ok (.iconst 0, 1) := by decide +kernel
theorem dX0_bringAllHome_42 : decode cX0_bringAllHome 42 = .ok (.istore_n 2, 1) := by decide +kernel
theorem dX0_bringAllHome_43 : decode cX0_bringAllHome 43 = .ok (.iload_n 2, 1) := by decide +kernel
theorem dX0_bringAllHome_44 : decode cX0_bringAllHome 44 = .ok (.aload_n 0, 1) := by decide +kernel
theorem dX0_bringAllHome_45 : decode cX0_bringAllHome 45 = .ok (.getfield 39, 3) := by decide +kernel
theorem dX0_bringAllHome_48 : decode cX0_bringAllHome 48 = .ok (.if_icmp .ge 19, 3) := by decide +kernel
theorem dX0_bringAllHome_51 : decode cX0_bringAllHome 51 = .ok (.aload_n 0, 1) := by decide +kernel
theorem dX0_bringAllHome_52 : decode cX0_bringAllHome 52 = .ok (.aload_n 0, 1) := by decide +kernel
theorem dX0_bringAllHome_53 : decode cX0_bringAllHome 53 = .ok (.getfield 15, 3) := by decide +kernel
theorem dX0_bringAllHome_56 : decode cX0_bringAllHome 56 = .ok (.iload_n 2, 1) := by decide +kernel
theorem dX0_bringAllHome_57 : decode cX0_bringAllHome 57 = .ok (.iaload, 1) := by decide +kernel
theorem dX0_bringAllHome_58 : decode cX0_bringAllHome 58 = .ok (.invokevirtual 68, 3) := by decide +kernel
theorem dX0_bringAllHome_61 : decode cX0_bringAllHome 61 = .ok (.iinc 2 1, 3) := by decide +kernel
theorem dX0_bringAllHome_64 : decode cX0_bringAllHome 64 = .ok (.goto (-21), 3) := by decide +kernel
theorem dX0_bringAllHome_67 : decode cX0_bringAllHome 67 = .ok (.aload_n 0, 1) := by decide +kernel
theorem dX0_bringAllHome_68 : decode cX0_bringAllHome 68 = .ok (.getfield 71, 3) := by decide +kernel
theorem dX0_bringAllHome_71 : decode cX0_bringAllHome 71 = .ok (.iload_n 1, 1) := by decide +kernel
theorem dX0_bringAllHome_72 : decode cX0_bringAllHome 72 = .ok (.isub, 1) := by decide +kernel
theorem dX0_bringAllHome_73 : decode cX0_bringAllHome 73 = .ok (.ireturn, 1) := by decide +kernel
theorem dX0_bringHomeIfDirty_0 : decode cX0_bringHomeIfDirty 0 = .ok (.aload_n 0, 1) := by decide +kernel
theorem dX0_bringHomeIfDirty_1 : decode cX0_bringHomeIfDirty 1 = .ok (.getfield 18, 3) := by decide +kernel
theorem dX0_bringHomeIfDirty_4 : decode cX0_bringHomeIfDirty 4 = .ok (.iload_n 1, 1) := by decide +kernel
theorem dX0_bringHomeIfDirty_5 : decode cX0_bringHomeIfDirty 5 = .ok (.baload, 1) := by decide +kernel
theorem dX0_bringHomeIfDirty_6 : decode cX0_bringHomeIfDirty 6 = .ok (.ifCond .eq 31, 3) := by decide +kernel
theorem dX0_bringHomeIfDirty_9 : decode cX0_bringHomeIfDirty 9 = .ok (.aload_n 0, 1) := by decide +kernel
theorem dX0_bringHomeIfDirty_10 : decode cX0_bringHomeIfDirty 10 = .ok (.getfield 18, 3) := by decide +kernel
theorem dX0_bringHomeIfDirty_13 : decode cX0_bringHomeIfDirty 13 = .ok (.iload_n 1, 1) := by decide +kernel
theorem dX0_bringHomeIfDirty_14 : decode cX0_bringHomeIfDirty 14 = .ok (.iconst 0, 1) := by decide +kernel
theorem dX0_bringHomeIfDirty_15 : decode cX0_bringHomeIfDirty 15 = .ok (.bastore, 1) := by decide +kernel
theorem dX0_bringHomeIfDirty_16 : decode cX0_bringHomeIfDirty 16 = .ok (.aload_n 0, 1) := by decide +kernel
theorem dX0_bringHomeIfDirty_17 : decode cX0_bringHomeIfDirty 17 = .ok (.dup, 1) := by decide +kernel
theorem dX0_bringHomeIfDirty_18 : decode cX0_bringHomeIfDirty 18 = .ok (.getfield 71, 3) := by decide +kernel
theorem dX0_bringHomeIfDirty_21 : decode cX0_bringHomeIfDirty 21 = .ok (.iconst 1, 1) := by decide +kernel
theorem dX0_bringHomeIfDirty_22 : decode cX0_bringHomeIfDirty 22 = .ok (.iadd, 1) := by decide +kernel
theorem dX0_bringHomeIfDirty_23 : decode cX0_bringHomeIfDirty 23 = .ok (.putfield 71, 3) := by decide +kernel
theorem dX0_bringHomeIfDirty_26 : decode cX0_bringHomeIfDirty 26 = .ok (.aload_n 0, 1) := by decide +kernel
theorem dX0_bringHomeIfDirty_27 : decode cX0_bringHomeIfDirty 27 = .ok (.dup, 1) := by decide +kernel
theorem dX0_bringHomeIfDirty_28 : decode cX0_bringHomeIfDirty 28 = .ok (.getfield 49, 3) := by decide +kernel
theorem dX0_bringHomeIfDirty_31 : decode cX0_bringHomeIfDirty 31 = .ok (.bipush 10, 2) := by decide +kernel
theorem dX0_bringHomeIfDirty_33 : decode cX0_bringHomeIfDirty 33 = .ok (.iadd, 1) := by decide +kernel
theorem dX0_bringHomeIfDirty_34 : decode cX0_bringHomeIfDirty 34 = .ok (.putfield 49, 3) := by decide +kernel
theorem dX0_bringHomeIfDirty_37 : decode cX0_bringHomeIfDirty 37 = .ok (.return_, 1) := by decide +kernel
theorem dX0_countLines_0 : decode cX0_countLines 0 = .ok (.aload_n 0, 1) := by decide +kernel
theorem dX0_countLines_1 : decode cX0_countLines 1 = .ok (.getfield 39, 3) := by decide +kernel
theorem dX0_countLines_4 : decode cX0_countLines 4 = .ok (.istore_n 1, 1) := by decide +kernel
theorem dX0_countLines_5 : decode cX0_countLines 5 = .ok (.iconst 0, 1) := by decide +kernel
theorem dX0_countLines_6 : decode cX0_countLines 6 = .ok (.istore_n 2, 1) := by decide +kernel
theorem dX0_countLines_7 : decode cX0_countLines 7 = .ok (.iload_n 2, 1) := by decide +kernel
theorem dX0_countLines_8 : decode cX0_countLines 8 = .ok (.aload_n 0, 1) := by decide +kernel
theorem dX0_countLines_9 : decode cX0_countLines 9 = .ok (.getfield 26, 3) := by decide +kernel
theorem dX0_countLines_12 : decode cX0_countLines 12 = .ok (.if_icmp .ge 22, 3) := by decide +kernel
theorem dX0_countLines_15 : decode cX0_countLines 15 = .ok (.aload_n 0, 1) := by decide +kernel
theorem dX0_countLines_16 : decode cX0_countLines 16 = .ok (.getfield 9, 3) := by decide +kernel
theorem dX0_countLines_19 : decode cX0_countLines 19 = .ok (.iload_n 2, 1) := by decide +kernel
theorem dX0_countLines_20 : decode cX0_countLines 20 = .ok (.iaload, 1) := by decide +kernel
theorem dX0_countLines_21 : decode cX0_countLines 21 = .ok (.iconst (-1), 1) := by decide +kernel
theorem dX0_countLines_22 : decode cX0_countLines 22 = .ok (.if_icmp .eq 6, 3) := by decide +kernel
theorem dX0_countLines_25 : decode cX0_countLines 25 = .ok (.iinc 1 1, 3) := by decide +kernel
theorem dX0_countLines_28 : decode cX0_countLines 28 = .ok (.iinc 2 1, 3) := by decide +kernel
theorem dX0_countLines_31 : decode cX0_countLines 31 = .ok (.goto (-24), 3) := by decide +kernel
theorem dX0_countLines_34 : decode cX0_countLines 34 = .ok (.iload_n 1, 1) := by decide +kernel
theorem dX0_countLines_35 : decode cX0_countLines 35 = .ok (.ireturn, 1) := by decide +kernel
theorem dX0_countDirty_0 : decode cX0_countDirty 0 = .ok (.iconst 0, 1) := by decide +kernel
theorem dX0_countDirty_1 : decode cX0_countDirty 1 = .ok (.istore_n 1, 1) := by decide +kernel
theorem dX0_countDirty_2 : decode cX0_countDirty 2 = .ok (.iconst 0, 1) := by decide +kernel
theorem dX0_countDirty_3 : decode cX0_countDirty 3 = .ok (.istore_n 2, 1) := by decide +kernel
theorem dX0_countDirty_4 : decode cX0_countDirty 4 = .ok (.iload_n 2, 1) := by decide +kernel
theorem dX0_countDirty_5 : decode cX0_countDirty 5 = .ok (.sipush 256, 3) := by decide +kernel
theorem dX0_countDirty_8 : decode cX0_countDirty 8 = .ok (.if_icmp .ge 21, 3) := by decide +kernel
theorem dX0_countDirty_11 : decode cX0_countDirty 11 = .ok (.aload_n 0, 1) := by decide +kernel
theorem dX0_countDirty_12 : decode cX0_countDirty 12 = .ok (.getfield 18, 3) := by decide +kernel
theorem dX0_countDirty_15 : decode cX0_countDirty 15 = .ok (.iload_n 2, 1) := by decide +kernel
theorem dX0_countDirty_16 : decode cX0_countDirty 16 = .ok (.baload, 1) := by decide +kernel
theorem dX0_countDirty_17 : decode cX0_countDirty 17 = .ok (.ifCond .eq 6, 3) := by decide +kernel
theorem dX0_countDirty_20 : decode cX0_countDirty 20 = .ok (.iinc 1 1, 3) := by decide +kernel
theorem dX0_countDirty_23 : decode cX0_countDirty 23 = .ok (.iinc 2 1, 3) := by decide +kernel
theorem dX0_countDirty_26 : decode cX0_countDirty 26 = .ok (.goto (-22), 3) := by decide +kernel
theorem dX0_countDirty_29 : decode cX0_countDirty 29 = .ok (.iload_n 1, 1) := by decide +kernel
theorem dX0_countDirty_30 : decode cX0_countDirty 30 = .ok (.ireturn, 1) := by decide +kernel
set_option maxRecDepth 20000 in
theorem ggX0_whereIs_X0_setOf : GoodIn wsX0_whereIs wsX0_setOf := goodIn_r _ [6, 7, 14, 15, 16, 17, 18, 19, 20, 21, 22, 23, 24] (by decide +kernel) (by decide +kernel)
set_option maxRecDepth 20000 in
theorem gX0_whereIs_X0_setOf : GoodIn wsX0_whereIs (wsV RX0 42 RX0 yX0_setOf wsX0_setOf) := goodIn_app (goodIn_of _ (by decide +kernel)) ggX0_whereIs_X0_setOf
set_option maxRecDepth 20000 in
theorem ggX0_whereIs_X0_seatOf : GoodIn wsX0_whereIs wsX0_seatOf := goodIn_r _ [11, 12, 13, 14, 15, 16, 17, 18, 19, 20, 21, 22, 23, 24] (by decide +kernel) (by decide +kernel)
set_option maxRecDepth 20000 in
theorem gX0_whereIs_X0_seatOf : GoodIn wsX0_whereIs (wsV RX0 52 RX0 yX0_seatOf wsX0_seatOf) := goodIn_app (goodIn_of _ (by decide +kernel)) ggX0_whereIs_X0_seatOf
theorem dX0_whereIs_0 : decode cX0_whereIs 0 = .ok (.aload_n 0, 1) := by decide +kernel
theorem dX0_whereIs_1 : decode cX0_whereIs 1 = .ok (.getfield 9, 3) := by decide +kernel
theorem dX0_whereIs_4 : decode cX0_whereIs 4 = .ok (.aload_n 0, 1) := by decide +kernel
theorem dX0_whereIs_5 : decode cX0_whereIs 5 = .ok (.iload_n 1, 1) := by decide +kernel
theorem dX0_whereIs_6 : decode cX0_whereIs 6 = .ok (.invokevirtual 42, 3) := by decide +kernel
theorem dX0_whereIs_9 : decode cX0_whereIs 9 = .ok (.iaload, 1) := by decide +kernel
theorem dX0_whereIs_10 : decode cX0_whereIs 10 = .ok (.iload_n 1, 1) := by decide +kernel
theorem dX0_whereIs_11 : decode cX0_whereIs 11 = .ok (.if_icmp .ne 5, 3) := by decide +kernel
theorem dX0_whereIs_14 : decode cX0_whereIs 14 = .ok (.iconst 1, 1) := by decide +kernel
theorem dX0_whereIs_15 : decode cX0_whereIs 15 = .ok (.ireturn, 1) := by decide +kernel
theorem dX0_whereIs_16 : decode cX0_whereIs 16 = .ok (.aload_n 0, 1) := by decide +kernel
theorem dX0_whereIs_17 : decode cX0_whereIs 17 = .ok (.iload_n 1, 1) := by decide +kernel
theorem dX0_whereIs_18 : decode cX0_whereIs 18 = .ok (.invokevirtual 52, 3) := by decide +kernel
theorem dX0_whereIs_21 : decode cX0_whereIs 21 = .ok (.iconst (-1), 1) := by decide +kernel
theorem dX0_whereIs_22 : decode cX0_whereIs 22 = .ok (.if_icmp .ne 7, 3) := by decide +kernel
theorem dX0_whereIs_25 : decode cX0_whereIs 25 = .ok (.iconst 0, 1) := by decide +kernel
theorem dX0_whereIs_26 : decode cX0_whereIs 26 = .ok (.goto 4, 3) := by decide +kernel
theorem dX0_whereIs_29 : decode cX0_whereIs 29 = .ok (.iconst 2, 1) := by decide +kernel
theorem dX0_whereIs_30 : decode cX0_whereIs 30 = .ok (.ireturn, 1) := by decide +kernel
theorem dX0_setOf_0 : decode cX0_setOf 0 = .ok (.iload_n 1, 1) := by decide +kernel
theorem dX0_setOf_1 : decode cX0_setOf 1 = .ok (.aload_n 0, 1) := by decide +kernel
theorem dX0_setOf_2 : decode cX0_setOf 2 = .ok (.getfield 26, 3) := by decide +kernel
theorem dX0_setOf_5 : decode cX0_setOf 5 = .ok (.iconst 1, 1) := by decide +kernel
theorem dX0_setOf_6 : decode cX0_setOf 6 = .ok (.isub, 1) := by decide +kernel
theorem dX0_setOf_7 : decode cX0_setOf 7 = .ok (.iand, 1) := by decide +kernel
theorem dX0_setOf_8 : decode cX0_setOf 8 = .ok (.ireturn, 1) := by decide +kernel
theorem dX0_seatOf_0 : decode cX0_seatOf 0 = .ok (.iconst 0, 1) := by decide +kernel
theorem dX0_seatOf_1 : decode cX0_seatOf 1 = .ok (.istore_n 2, 1) := by decide +kernel
theorem dX0_seatOf_2 : decode cX0_seatOf 2 = .ok (.iload_n 2, 1) := by decide +kernel
theorem dX0_seatOf_3 : decode cX0_seatOf 3 = .ok (.aload_n 0, 1) := by decide +kernel
theorem dX0_seatOf_4 : decode cX0_seatOf 4 = .ok (.getfield 39, 3) := by decide +kernel
theorem dX0_seatOf_7 : decode cX0_seatOf 7 = .ok (.if_icmp .ge 21, 3) := by decide +kernel
theorem dX0_seatOf_10 : decode cX0_seatOf 10 = .ok (.aload_n 0, 1) := by decide +kernel
theorem dX0_seatOf_11 : decode cX0_seatOf 11 = .ok (.getfield 15, 3) := by decide +kernel
theorem dX0_seatOf_14 : decode cX0_seatOf 14 = .ok (.iload_n 2, 1) := by decide +kernel
theorem dX0_seatOf_15 : decode cX0_seatOf 15 = .ok (.iaload, 1) := by decide +kernel
theorem dX0_seatOf_16 : decode cX0_seatOf 16 = .ok (.iload_n 1, 1) := by decide +kernel
theorem dX0_seatOf_17 : decode cX0_seatOf 17 = .ok (.if_icmp .ne 5, 3) := by decide +kernel
theorem dX0_seatOf_20 : decode cX0_seatOf 20 = .ok (.iload_n 2, 1) := by decide +kernel
theorem dX0_seatOf_21 : decode cX0_seatOf 21 = .ok (.ireturn, 1) := by decide +kernel
theorem dX0_seatOf_22 : decode cX0_seatOf 22 = .ok (.iinc 2 1, 3) := by decide +kernel
theorem dX0_seatOf_25 : decode cX0_seatOf 25 = .ok (.goto (-23), 3) := by decide +kernel
theorem dX0_seatOf_28 : decode cX0_seatOf 28 = .ok (.iconst (-1), 1) := by decide +kernel
theorem dX0_seatOf_29 : decode cX0_seatOf 29 = .ok (.ireturn, 1) := by decide +kernel
theorem dX1_init_0 : decode cX1_init 0 = .ok (.aload_n 0, 1) := by decide +kernel
theorem dX1_init_1 : decode cX1_init 1 = .ok (.invokespecial 3, 3) := by decide +kernel
theorem dX1_init_4 : decode cX1_init 4 = .ok (.aload_n 0, 1) := by decide +kernel
theorem dX1_init_5 : decode cX1_init 5 = .ok (.sipush 150, 3) := by decide +kernel
theorem dX1_init_8 : decode cX1_init 8 = .ok (.newarray .int, 2) := by decide +kernel
theorem dX1_init_10 : decode cX1_init 10 = .ok (.putfield 9, 3) := by decide +kernel
theorem dX1_init_13 : decode cX1_init 13 = .ok (.aload_n 0, 1) := by decide +kernel
theorem dX1_init_14 : decode cX1_init 14 = .ok (.sipush 150, 3) := by decide +kernel
theorem dX1_init_17 : decode cX1_init 17 = .ok (.newarray .boolean, 2) := by decide +kernel
theorem dX1_init_19 : decode cX1_init 19 = .ok (.putfield 15, 3) := by decide +kernel
theorem dX1_init_22 : decode cX1_init 22 = .ok (.return_, 1) := by decide +kernel
theorem dX1_add_0 : decode cX1_add 0 = .ok (.aload_n 0, 1) := by decide +kernel
theorem dX1_add_1 : decode cX1_add 1 = .ok (.getfield 9, 3) := by decide +kernel
theorem dX1_add_4 : decode cX1_add 4 = .ok (.aload_n 0, 1) := by decide +kernel
theorem dX1_add_5 : decode cX1_add 5 = .ok (.getfield 19, 3) := by decide +kernel
theorem dX1_add_8 : decode cX1_add 8 = .ok (.iload_n 1, 1) := by decide +kernel
theorem dX1_add_9 : decode cX1_add 9 = .ok (.iastore, 1) := by decide +kernel
theorem dX1_add_10 : decode cX1_add 10 = .ok (.aload_n 0, 1) := by decide +kernel
theorem dX1_add_11 : decode cX1_add 11 = .ok (.getfield 15, 3) := by decide +kernel
theorem dX1_add_14 : decode cX1_add 14 = .ok (.aload_n 0, 1) := by decide +kernel
theorem dX1_add_15 : decode cX1_add 15 = .ok (.getfield 19, 3) := by decide +kernel
theorem dX1_add_18 : decode cX1_add 18 = .ok (.iload_n 2, 1) := by decide +kernel
theorem dX1_add_19 : decode cX1_add 19 = .ok (.bastore, 1) := by decide +kernel
theorem dX1_add_20 : decode cX1_add 20 = .ok (.aload_n 0, 1) := by decide +kernel
theorem dX1_add_21 : decode cX1_add 21 = .ok (.aload_n 0, 1) := by decide +kernel
theorem dX1_add_22 : decode cX1_add 22 = .ok (.getfield 19, 3) := by decide +kernel
theorem dX1_add_25 : decode cX1_add 25 = .ok (.iconst 1, 1) := by decide +kernel
theorem dX1_add_26 : decode cX1_add 26 = .ok (.iadd, 1) := by decide +kernel
theorem dX1_add_27 : decode cX1_add 27 = .ok (.sipush 150, 3) := by decide +kernel
theorem dX1_add_30 : decode cX1_add 30 = .ok (.if_icmp .ge 12, 3) := by decide +kernel
theorem dX1_add_33 : decode cX1_add 33 = .ok (.aload_n 0, 1) := by decide +kernel
theorem dX1_add_34 : decode cX1_add 34 = .ok (.getfield 19, 3) := by decide +kernel
theorem dX1_add_37 : decode cX1_add 37 = .ok (.iconst 1, 1) := by decide +kernel
theorem dX1_add_38 : decode cX1_add 38 = .ok (.iadd, 1) := by decide +kernel
theorem dX1_add_39 : decode cX1_add 39 = .ok (.goto 4, 3) := by decide +kernel
theorem dX1_add_42 : decode cX1_add 42 = .ok (.iconst 0, 1) := by decide +kernel
theorem dX1_add_43 : decode cX1_add 43 = .ok (.putfield 19, 3) := by decide +kernel
theorem dX1_add_46 : decode cX1_add 46 = .ok (.aload_n 0, 1) := by decide +kernel
theorem dX1_add_47 : decode cX1_add 47 = .ok (.getfield 23, 3) := by decide +kernel
theorem dX1_add_50 : decode cX1_add 50 = .ok (.sipush 150, 3) := by decide +kernel
theorem dX1_add_53 : decode cX1_add 53 = .ok (.if_icmp .ge 13, 3) := by decide +kernel
theorem dX1_add_56 : decode cX1_add 56 = .ok (.aload_n 0, 1) := by decide +kernel
theorem dX1_add_57 : decode cX1_add 57 = .ok (.dup, 1) := by decide +kernel
theorem dX1_add_58 : decode cX1_add 58 = .ok (.getfield 23, 3) := by decide +kernel
theorem dX1_add_61 : decode cX1_add 61 = .ok (.iconst 1, 1) := by decide +kernel
theorem dX1_add_62 : decode cX1_add 62 = .ok (.iadd, 1) := by decide +kernel
theorem dX1_add_63 : decode cX1_add 63 = .ok (.putfield 23, 3) := by decide +kernel
theorem dX1_add_66 : decode cX1_add 66 = .ok (.return_, 1) := by decide +kernel
theorem dX1_slotOf_0 : decode cX1_slotOf 0 = .ok (.aload_n 0, 1) := by decide +kernel
theorem dX1_slotOf_1 : decode cX1_slotOf 1 = .ok (.getfield 23, 3) := by decide +kernel
theorem dX1_slotOf_4 : decode cX1_slotOf 4 = .ok (.sipush 150, 3) := by decide +kernel
theorem dX1_slotOf_7 : decode cX1_slotOf 7 = .ok (.if_icmp .ge 7, 3) := by decide +kernel
theorem dX1_slotOf_10 : decode cX1_slotOf 10 = .ok (.iconst 0, 1) := by decide +kernel
theorem dX1_slotOf_11 : decode cX1_slotOf 11 = .ok (.goto 7, 3) := by decide +kernel
theorem dX1_slotOf_14 : decode cX1_slotOf 14 = .ok (.aload_n 0, 1) := by decide +kernel
theorem dX1_slotOf_15 : decode cX1_slotOf 15 = .ok (.getfield 19, 3) := by decide +kernel
theorem dX1_slotOf_18 : decode cX1_slotOf 18 = .ok (.istore_n 2, 1) := by decide +kernel
theorem dX1_slotOf_19 : decode cX1_slotOf 19 = .ok (.iload_n 2, 1) := by decide +kernel
theorem dX1_slotOf_20 : decode cX1_slotOf 20 = .ok (.iload_n 1, 1) := by decide +kernel
theorem dX1_slotOf_21 : decode cX1_slotOf 21 = .ok (.iadd, 1) := by decide +kernel
theorem dX1_slotOf_22 : decode cX1_slotOf 22 = .ok (.sipush 150, 3) := by decide +kernel
theorem dX1_slotOf_25 : decode cX1_slotOf 25 = .ok (.irem, 1) := by decide +kernel
theorem dX1_slotOf_26 : decode cX1_slotOf 26 = .ok (.ireturn, 1) := by decide +kernel
set_option maxRecDepth 20000 in
theorem ggX2_init_X0_init : GoodIn wsX2_init wsX0_init := goodIn_r _ [18, 19, 2, 3, 4, 20, 21, 22, 23, 24, 25, 26, 9, 27, 28, 29, 30, 31, 32, 33, 34, 45, 46, 47, 48, 49, 50, 51, 52, 53, 54, 55] (by decide +kernel) (by decide +kernel)
set_option maxRecDepth 20000 in
theorem gX2_init_X0_init : GoodIn wsX2_init (wsX0_init) := ggX2_init_X0_init
set_option maxRecDepth 20000 in
theorem ggX2_init_X1_init : GoodIn wsX2_init wsX1_init := goodIn_r _ [36, 37, 2, 3, 4, 38, 22, 39, 56, 57, 58, 59] (by decide +kernel) (by decide +kernel)
set_option maxRecDepth 20000 in
theorem gX2_init_X1_init_n30 : GoodIn wsX2_init (wsX1_init) := ggX2_init_X1_init
theorem dX2_init_0 : decode cX2_init 0 = .ok (.aload_n 0, 1) := by decide +kernel
theorem dX2_init_1 : decode cX2_init 1 = .ok (.invokespecial 3, 3) := by decide +kernel
theorem dX2_init_4 : decode cX2_init 4 = .ok (.aload_n 0, 1) := by decide +kernel
theorem dX2_init_5 : decode cX2_init 5 = .ok (.sipush 1024, 3) := by decide +kernel
theorem dX2_init_8 : decode cX2_init 8 = .ok (.newarray .int, 2) := by decide +kernel
theorem dX2_init_10 : decode cX2_init 10 = .ok (.putfield 9, 3) := by decide +kernel
theorem dX2_init_13 : decode cX2_init 13 = .ok (.aload_n 0, 1) := by decide +kernel
theorem dX2_init_14 : decode cX2_init 14 = .ok (.sipush 1024, 3) := by decide +kernel
theorem dX2_init_17 : decode cX2_init 17 = .ok (.newarray .int, 2) := by decide +kernel
theorem dX2_init_19 : decode cX2_init 19 = .ok (.putfield 13, 3) := by decide +kernel
theorem dX2_init_22 : decode cX2_init 22 = .ok (.aload_n 0, 1) := by decide +kernel
theorem dX2_init_23 : decode cX2_init 23 = .ok (.new 16, 3) := by decide +kernel
theorem dX2_init_26 : decode cX2_init 26 = .ok (.dup, 1) := by decide +kernel
theorem dX2_init_27 : decode cX2_init 27 = .ok (.iconst 4, 1) := by decide +kernel
theorem dX2_init_28 : decode cX2_init 28 = .ok (.iconst 2, 1) := by decide +kernel
theorem dX2_init_29 : decode cX2_init 29 = .ok (.invokespecial 18, 3) := by decide +kernel
theorem dX2_init_32 : decode cX2_init 32 = .ok (.putfield 21, 3) := by decide +kernel
theorem dX2_init_35 : decode cX2_init 35 = .ok (.aload_n 0, 1) := by decide +kernel
theorem dX2_init_36 : decode cX2_init 36 = .ok (.new 16, 3) := by decide +kernel
theorem dX2_init_39 : decode cX2_init 39 = .ok (.dup, 1) := by decide +kernel
theorem dX2_init_40 : decode cX2_init 40 = .ok (.iconst 4, 1) := by decide +kernel
theorem dX2_init_41 : decode cX2_init 41 = .ok (.iconst 2, 1) := by decide +kernel
theorem dX2_init_42 : decode cX2_init 42 = .ok (.invokespecial 18, 3) := by decide +kernel
theorem dX2_init_45 : decode cX2_init 45 = .ok (.putfield 25, 3) := by decide +kernel
theorem dX2_init_48 : decode cX2_init 48 = .ok (.aload_n 0, 1) := by decide +kernel
theorem dX2_init_49 : decode cX2_init 49 = .ok (.new 28, 3) := by decide +kernel
theorem dX2_init_52 : decode cX2_init 52 = .ok (.dup, 1) := by decide +kernel
theorem dX2_init_53 : decode cX2_init 53 = .ok (.invokespecial 30, 3) := by decide +kernel
theorem dX2_init_56 : decode cX2_init 56 = .ok (.putfield 31, 3) := by decide +kernel
theorem dX2_init_59 : decode cX2_init 59 = .ok (.return_, 1) := by decide +kernel
set_option maxRecDepth 20000 in
theorem ggX2_read_X2_requireWord : GoodIn wsX2_read wsX2_requireWord := goodIn_ca (goodIn_r _ [5, 6, 7] (by decide +kernel) (by decide +kernel)) (goodIn_sub (fun _ h => List.mem_cons_of_mem _ (List.mem_append_right _ h)) (by decide +kernel))
set_option maxRecDepth 20000 in
theorem gX2_read_X2_requireWord : GoodIn wsX2_read (va_wsS RX2 35 yX2_requireWord wsX2_requireWord) := goodIn_app (goodIn_of _ (by decide +kernel)) ggX2_read_X2_requireWord
set_option maxRecDepth 20000 in
theorem ggX2_read_X2_lineOf : GoodIn wsX2_read wsX2_lineOf := goodIn_r _ [10] (by decide +kernel) (by decide +kernel)
set_option maxRecDepth 20000 in
theorem gX2_read_X2_lineOf : GoodIn wsX2_read (va_wsS RX2 39 yX2_lineOf wsX2_lineOf) := goodIn_app (goodIn_of _ (by decide +kernel)) ggX2_read_X2_lineOf
set_option maxRecDepth 20000 in
theorem ggX2_read_X2_ask : GoodIn wsX2_read wsX2_ask := goodIn_r _ [14, 15, 16, 17, 18, 19, 20, 21, 22, 23, 24, 25, 26, 27, 28, 29, 30, 31, 32, 33, 34, 35, 36, 37, 38, 39, 40, 41, 42, 43, 44, 45, 46, 47, 48, 49, 50, 51, 52, 53, 54, 55, 56, 57, 58, 59, 60, 61, 62, 63, 64, 65, 66, 67, 68, 69, 70, 71, 72, 73, 74, 75, 76, 77, 78, 79, 80, 81] (by decide +kernel) (by decide +kernel)
set_option maxRecDepth 20000 in
theorem gX2_read_X2_ask : GoodIn wsX2_read (wsV RX2 43 RX2 yX2_ask wsX2_ask) := goodIn_app (goodIn_of _ (by decide +kernel)) ggX2_read_X2_ask
theorem dX2_read_0 : decode cX2_read 0 = .ok (.iload_n 1, 1) := by decide +kernel
theorem dX2_read_1 : decode cX2_read 1 = .ok (.invokestatic 35, 3) := by decide +kernel
theorem dX2_read_4 : decode cX2_read 4 = .ok (.aload_n 0, 1) := by decide +kernel
theorem dX2_read_5 : decode cX2_read 5 = .ok (.iload_n 1, 1) := by decide +kernel
theorem dX2_read_6 : decode cX2_read 6 = .ok (.invokestatic 39, 3) := by decide +kernel
theorem dX2_read_9 : decode cX2_read 9 = .ok (.iconst 0, 1) := by decide +kernel
theorem dX2_read_10 : decode cX2_read 10 = .ok (.invokevirtual 43, 3) := by decide +kernel
theorem dX2_read_13 : decode cX2_read 13 = .ok (.aload_n 0, 1) := by decide +kernel
theorem dX2_read_14 : decode cX2_read 14 = .ok (.getfield 9, 3) := by decide +kernel
theorem dX2_read_17 : decode cX2_read 17 = .ok (.iload_n 1, 1) := by decide +kernel
theorem dX2_read_18 : decode cX2_read 18 = .ok (.iaload, 1) := by decide +kernel
theorem dX2_read_19 : decode cX2_read 19 = .ok (.ireturn, 1) := by decide +kernel
set_option maxRecDepth 20000 in
theorem ggX2_write_X2_requireWord : GoodIn wsX2_write wsX2_requireWord := goodIn_ca (goodIn_r _ [7, 8, 9] (by decide +kernel) (by decide +kernel)) (goodIn_sub (fun _ h => List.mem_cons_of_mem _ (List.mem_append_right _ h)) (by decide +kernel))
set_option maxRecDepth 20000 in
theorem gX2_write_X2_requireWord : GoodIn wsX2_write (va_wsS RX2 35 yX2_requireWord wsX2_requireWord) := goodIn_app (goodIn_of _ (by decide +kernel)) ggX2_write_X2_requireWord
set_option maxRecDepth 20000 in
theorem ggX2_write_X2_lineOf : GoodIn wsX2_write wsX2_lineOf := goodIn_r _ [12] (by decide +kernel) (by decide +kernel)
set_option maxRecDepth 20000 in
theorem gX2_write_X2_lineOf : GoodIn wsX2_write (va_wsS RX2 39 yX2_lineOf wsX2_lineOf) := goodIn_app (goodIn_of _ (by decide +kernel)) ggX2_write_X2_lineOf
set_option maxRecDepth 20000 in
theorem ggX2_write_X2_keepHomeWords : GoodIn wsX2_write wsX2_keepHomeWords := goodIn_r _ [16, 3, 17, 18, 19, 20, 21, 72, 73, 74, 75, 76] (by decide +kernel) (by decide +kernel)
set_option maxRecDepth 20000 in
theorem gX2_write_X2_keepHomeWords : GoodIn wsX2_write (wsV RX2 51 RX2 yX2_keepHomeWords wsX2_keepHomeWords) := goodIn_app (goodIn_of _ (by decide +kernel)) ggX2_write_X2_keepHomeWords
set_option maxRecDepth 20000 in
theorem ggX2_write_X2_ask : GoodIn wsX2_write wsX2_ask := goodIn_r _ [25, 1, 26, 27, 28, 29, 30, 31, 32, 33, 34, 35, 36, 37, 38, 39, 40, 41, 42, 43, 44, 45, 46, 47, 48, 49, 50, 51, 52, 53, 54, 55, 56, 57, 58, 59, 60, 61, 62, 63, 64, 65, 66, 67, 68, 69, 70, 71, 72, 73, 74, 75, 76, 77, 78, 79, 80, 81, 82, 83, 84, 85, 86, 87, 88, 89, 90, 91] (by decide +kernel) (by decide +kernel)
set_option maxRecDepth 20000 in
theorem gX2_write_X2_ask : GoodIn wsX2_write (wsV RX2 43 RX2 yX2_ask wsX2_ask) := goodIn_app (goodIn_of _ (by decide +kernel)) ggX2_write_X2_ask
theorem dX2_write_0 : decode cX2_write 0 = .ok (.iload_n 1, 1) := by decide +kernel
theorem dX2_write_1 : decode cX2_write 1 = .ok (.invokestatic 35, 3) := by decide +kernel
theorem dX2_write_4 : decode cX2_write 4 = .ok (.iload_n 1, 1) := by decide +kernel
theorem dX2_write_5 : decode cX2_write 5 = .ok (.invokestatic 39, 3) := by decide +kernel
theorem dX2_write_8 : decode cX2_write 8 = .ok (.istore_n 3, 1) := by decide +kernel
theorem dX2_write_9 : decode cX2_write 9 = .ok (.aload_n 0, 1) := by decide +kernel
theorem dX2_write_10 : decode cX2_write 10 = .ok (.getfield 21, 3) := by decide +kernel
theorem dX2_write_13 : decode cX2_write 13 = .ok (.getfield 47, 3) := by decide +kernel
theorem dX2_write_16 : decode cX2_write 16 = .ok (.iload_n 3, 1) := by decide +kernel
theorem dX2_write_17 : decode cX2_write 17 = .ok (.baload, 1) := by decide +kernel
theorem dX2_write_18 : decode cX2_write 18 = .ok (.ifCond .ne 8, 3) := by decide +kernel
theorem dX2_write_21 : decode cX2_write 21 = .ok (.aload_n 0, 1) := by decide +kernel
theorem dX2_write_22 : decode cX2_write 22 = .ok (.iload_n 3, 1) := by decide +kernel
theorem dX2_write_23 : decode cX2_write 23 = .ok (.invokevirtual 51, 3) := by decide +kernel
theorem dX2_write_26 : decode cX2_write 26 = .ok (.aload_n 0, 1) := by decide +kernel
theorem dX2_write_27 : decode cX2_write 27 = .ok (.iload_n 3, 1) := by decide +kernel
theorem dX2_write_28 : decode cX2_write 28 = .ok (.iconst 1, 1) := by decide +kernel
theorem dX2_write_29 : decode cX2_write 29 = .ok (.invokevirtual 43, 3) := by decide +kernel
theorem dX2_write_32 : decode cX2_write 32 = .ok (.aload_n 0, 1) := by decide +kernel
theorem dX2_write_33 : decode cX2_write 33 = .ok (.getfield 9, 3) := by decide +kernel
theorem dX2_write_36 : decode cX2_write 36 = .ok (.iload_n 1, 1) := by decide +kernel
theorem dX2_write_37 : decode cX2_write 37 = .ok (.iaload, 1) := by decide +kernel
theorem dX2_write_38 : decode cX2_write 38 = .ok (.istore 4, 2) := by decide +kernel
theorem dX2_write_40 : decode cX2_write 40 = .ok (.aload_n 0, 1) := by decide +kernel
theorem dX2_write_41 : decode cX2_write 41 = .ok (.getfield 9, 3) := by decide +kernel
theorem dX2_write_44 : decode cX2_write 44 = .ok (.iload_n 1, 1) := by decide +kernel
theorem dX2_write_45 : decode cX2_write 45 = .ok (.iload_n 2, 1) := by decide +kernel
theorem dX2_write_46 : decode cX2_write 46 = .ok (.iastore, 1) := by decide +kernel
theorem dX2_write_47 : decode cX2_write 47 = .ok (.iload 4, 2) := by decide +kernel
theorem dX2_write_49 : decode cX2_write 49 = .ok (.ireturn, 1) := by decide +kernel
set_option maxRecDepth 20000 in
theorem ggX2_walk_X2_requireWord : GoodIn wsX2_walk wsX2_requireWord := goodIn_ca (goodIn_r _ [8, 9, 10] (by decide +kernel) (by decide +kernel)) (goodIn_sub (fun _ h => List.mem_cons_of_mem _ (List.mem_append_right _ h)) (by decide +kernel))
set_option maxRecDepth 20000 in
theorem gX2_walk_X2_requireWord : GoodIn wsX2_walk (va_wsS RX2 35 yX2_requireWord wsX2_requireWord) := goodIn_app (goodIn_of _ (by decide +kernel)) ggX2_walk_X2_requireWord
set_option maxRecDepth 20000 in
theorem ggX2_walk_X2_lineOf : GoodIn wsX2_walk wsX2_lineOf := goodIn_r _ [13] (by decide +kernel) (by decide +kernel)
set_option maxRecDepth 20000 in
theorem gX2_walk_X2_lineOf : GoodIn wsX2_walk (va_wsS RX2 39 yX2_lineOf wsX2_lineOf) := goodIn_app (goodIn_of _ (by decide +kernel)) ggX2_walk_X2_lineOf
set_option maxRecDepth 20000 in
theorem ggX2_walk_X2_ask : GoodIn wsX2_walk wsX2_ask := goodIn_r _ [17, 3, 18, 19, 20, 21, 22, 23, 24, 25, 26, 27, 28, 29, 30, 31, 32, 33, 34, 35, 36, 37, 38, 39, 40, 41, 42, 43, 44, 45, 46, 47, 48, 49, 50, 51, 52, 53, 54, 55, 56, 57, 58, 59, 60, 61, 62, 63, 68, 69, 70, 71, 72, 73, 74, 75, 76, 77, 78, 79, 80, 81, 82, 83, 84, 85, 86, 87] (by decide +kernel) (by decide +kernel)
set_option maxRecDepth 20000 in
theorem gX2_walk_X2_ask : GoodIn wsX2_walk (wsV RX2 43 RX2 yX2_ask wsX2_ask) := goodIn_app (goodIn_of _ (by decide +kernel)) ggX2_walk_X2_ask
set_option maxRecDepth 20000 in
theorem ggX2_walk_J9_floorMod_7cf53 : GoodIn wsX2_walk wsJ9_floorMod_7cf53 := goodIn_r _ [67] (by decide +kernel) (by decide +kernel)
set_option maxRecDepth 20000 in
theorem gX2_walk_J9_floorMod_7cf53 : GoodIn wsX2_walk (va_wsS RX2 65 yJ9_floorMod_7cf53 wsJ9_floorMod_7cf53) := goodIn_app (goodIn_of _ (by decide +kernel)) ggX2_walk_J9_floorMod_7cf53
theorem dX2_walk_0 : decode cX2_walk 0 = .ok (.iload_n 1, 1) := by decide +kernel
theorem dX2_walk_1 : decode cX2_walk 1 = .ok (.invokestatic 35, 3) := by decide +kernel
theorem dX2_walk_4 : decode cX2_walk 4 = .ok (.iload_n 2, 1) := by decide +kernel
theorem dX2_walk_5 : decode cX2_walk 5 = .ok (.bipush (-64), 2) := by decide +kernel
theorem dX2_walk_7 : decode cX2_walk 7 = .ok (.if_icmp .lt 20, 3) := by decide +kernel
theorem dX2_walk_10 : decode cX2_walk 10 = .ok (.iload_n 2, 1) := by decide +kernel
theorem dX2_walk_11 : decode cX2_walk 11 = .ok (.bipush 64, 2) := by decide +kernel
theorem dX2_walk_13 : decode cX2_walk 13 = .ok (.if_icmp .gt 14, 3) := by decide +kernel
theorem dX2_walk_16 : decode cX2_walk 16 = .ok (.iload_n 3, 1) := by decide +kernel
theorem dX2_walk_17 : decode cX2_walk 17 = .ok (.iconst 1, 1) := by decide +kernel
theorem dX2_walk_18 : decode cX2_walk 18 = .ok (.if_icmp .lt 9, 3) := by decide +kernel
theorem dX2_walk_21 : decode cX2_walk 21 = .ok (.iload_n 3, 1) := by decide +kernel
theorem dX2_walk_22 : decode cX2_walk 22 = .ok (.bipush 100, 2) := by decide +kernel
theorem dX2_walk_24 : decode cX2_walk 24 = .ok (.if_icmp .le 13, 3) := by decide +kernel
theorem dX2_walk_27 : decode cX2_walk 27 = .ok (.new 54, 3) := by decide +kernel
theorem dX2_walk_30 : decode cX2_walk 30 = .ok (.dup, 1) := by decide +kernel
theorem dX2_walk_31 : decode cX2_walk 31 = .ok (.ldc 56, 2) := by decide +kernel
theorem dX2_walk_33 : decode cX2_walk 33 = .ok (.invokespecial 58, 3) := by decide +kernel
theorem dX2_walk_36 : decode cX2_walk 36 = .ok (.athrow, 1) := by decide +kernel
theorem dX2_walk_37 : decode cX2_walk 37 = .ok (.aload_n 0, 1) := by decide +kernel
theorem dX2_walk_38 : decode cX2_walk 38 = .ok (.getfield 21, 3) := by decide +kernel
theorem dX2_walk_41 : decode cX2_walk 41 = .ok (.getfield 61, 3) := by decide +kernel
theorem dX2_walk_44 : decode cX2_walk 44 = .ok (.istore 4, 2) := by decide +kernel
theorem dX2_walk_46 : decode cX2_walk 46 = .ok (.iload_n 1, 1) := by decide +kernel
theorem dX2_walk_47 : decode cX2_walk 47 = .ok (.istore 5, 2) := by decide +kernel
theorem dX2_walk_49 : decode cX2_walk 49 = .ok (.iconst 0, 1) := by decide +kernel
theorem dX2_walk_50 : decode cX2_walk 50 = .ok (.istore 6, 2) := by decide +kernel
theorem dX2_walk_52 : decode cX2_walk 52 = .ok (.iload 6, 2) := by decide +kernel
theorem dX2_walk_54 : decode cX2_walk 54 = .ok (.iload_n 3, 1) := by decide +kernel
theorem dX2_walk_55 : decode cX2_walk 55 = .ok (.if_icmp .ge 31, 3) := by decide +kernel
theorem dX2_walk_58 : decode cX2_walk 58 = .ok (.aload_n 0, 1) := by decide +kernel
theorem dX2_walk_59 : decode cX2_walk 59 = .ok (.iload 5, 2) := by decide +kernel
theorem dX2_walk_61 : decode cX2_walk 61 = .ok (.invokestatic 39, 3) := by decide +kernel
theorem dX2_walk_64 : decode cX2_walk 64 = .ok (.iconst 0, 1) := by decide +kernel
theorem dX2_walk_65 : decode cX2_walk 65 = .ok (.invokevirtual 43, 3) := by decide +kernel
theorem dX2_walk_68 : decode cX2_walk 68 = .ok (.iload 5, 2) := by decide +kernel
theorem dX2_walk_70 : decode cX2_walk 70 = .ok (.iload_n 2, 1) := by decide +kernel
theorem dX2_walk_71 : decode cX2_walk 71 = .ok (.iadd, 1) := by decide +kernel
theorem dX2_walk_72 : decode cX2_walk 72 = .ok (.sipush 1024, 3) := by decide +kernel
theorem dX2_walk_75 : decode cX2_walk 75 = .ok (.invokestatic 65, 3) := by decide +kernel
theorem dX2_walk_78 : decode cX2_walk 78 = .ok (.istore 5, 2) := by decide +kernel
theorem dX2_walk_80 : decode cX2_walk 80 = .ok (.iinc 6 1, 3) := by decide +kernel
theorem dX2_walk_83 : decode cX2_walk 83 = .ok (.goto (-31), 3) := by decide +kernel
theorem dX2_walk_86 : decode cX2_walk 86 = .ok (.aload_n 0, 1) := by decide +kernel
theorem dX2_walk_87 : decode cX2_walk 87 = .ok (.getfield 21, 3) := by decide +kernel
theorem dX2_walk_90 : decode cX2_walk 90 = .ok (.getfield 61, 3) := by decide +kernel
theorem dX2_walk_93 : decode cX2_walk 93 = .ok (.iload 4, 2) := by decide +kernel
theorem dX2_walk_95 : decode cX2_walk 95 = .ok (.isub, 1) := by decide +kernel
theorem dX2_walk_96 : decode cX2_walk 96 = .ok (.ireturn, 1) := by decide +kernel
set_option maxRecDepth 20000 in
theorem ggX2_bringHome_X0_bringAllHome : GoodIn wsX2_bringHome wsX0_bringAllHome := goodIn_r _ [6, 7, 8, 9, 10, 11, 12, 13, 14, 5, 15, 16, 17, 23, 24, 25, 26, 27, 28, 29, 30, 31, 32, 33] (by decide +kernel) (by decide +kernel)
set_option maxRecDepth 20000 in
theorem gX2_bringHome_X0_bringAllHome : GoodIn wsX2_bringHome (wsV RX2 71 RX0 yX0_bringAllHome wsX0_bringAllHome) := goodIn_app (goodIn_of _ (by decide +kernel)) ggX2_bringHome_X0_bringAllHome
theorem dX2_bringHome_0 : decode cX2_bringHome 0 = .ok (.aload_n 0, 1) := by decide +kernel
theorem dX2_bringHome_1 : decode cX2_bringHome 1 = .ok (.getfield 21, 3) := by decide +kernel
theorem dX2_bringHome_4 : decode cX2_bringHome 4 = .ok (.invokevirtual 71, 3) := by decide +kernel
theorem dX2_bringHome_7 : decode cX2_bringHome 7 = .ok (.ireturn, 1) := by decide +kernel
set_option maxRecDepth 20000 in
theorem ggX2_build_X2_requireSize : GoodIn wsX2_build wsX2_requireSize := goodIn_ca (goodIn_r _ [5, 6, 7] (by decide +kernel) (by decide +kernel)) (goodIn_sub (fun _ h => List.mem_cons_of_mem _ (List.mem_append_right _ h)) (by decide +kernel))
set_option maxRecDepth 20000 in
theorem gX2_build_X2_requireSize : GoodIn wsX2_build (va_wsS RX2 75 yX2_requireSize wsX2_requireSize) := goodIn_app (goodIn_of _ (by decide +kernel)) ggX2_build_X2_requireSize
set_option maxRecDepth 20000 in
theorem ggX2_build_X0_countLines : GoodIn wsX2_build wsX0_countLines := goodIn_r _ [12, 13, 14, 15, 42, 43, 44, 45, 46, 47, 48, 49, 50, 51, 52] (by decide +kernel) (by decide +kernel)
set_option maxRecDepth 20000 in
theorem gX2_build_X0_countLines : GoodIn wsX2_build (wsV RX2 78 RX0 yX0_countLines wsX0_countLines) := goodIn_app (goodIn_of _ (by decide +kernel)) ggX2_build_X0_countLines
set_option maxRecDepth 20000 in
theorem ggX2_build_X0_bringAllHome : GoodIn wsX2_build wsX0_bringAllHome := goodIn_r _ [19, 20, 14, 15, 13, 21, 22, 23, 24, 11, 25, 26, 27, 42, 43, 44, 45, 46, 47, 48, 49, 50, 51, 52] (by decide +kernel) (by decide +kernel)
set_option maxRecDepth 20000 in
theorem gX2_build_X0_bringAllHome : GoodIn wsX2_build (wsV RX2 71 RX0 yX0_bringAllHome wsX0_bringAllHome) := goodIn_app (goodIn_of _ (by decide +kernel)) ggX2_build_X0_bringAllHome
set_option maxRecDepth 20000 in
theorem ggX2_build_X0_startEmpty : GoodIn wsX2_build wsX0_startEmpty := goodIn_r _ [31, 14, 32, 15, 13, 26, 33, 34, 35, 36, 42, 43, 44, 45, 46, 47, 48, 49, 50, 51, 52] (by decide +kernel) (by decide +kernel)
set_option maxRecDepth 20000 in
theorem gX2_build_X0_startEmpty : GoodIn wsX2_build (wsV RX2 81 RX0 yX0_startEmpty wsX0_startEmpty) := goodIn_app (goodIn_of _ (by decide +kernel)) ggX2_build_X0_startEmpty
theorem dX2_build_0 : decode cX2_build 0 = .ok (.iload_n 1, 1) := by decide +kernel
theorem dX2_build_1 : decode cX2_build 1 = .ok (.iload_n 2, 1) := by decide +kernel
theorem dX2_build_2 : decode cX2_build 2 = .ok (.invokestatic 75, 3) := by decide +kernel
theorem dX2_build_5 : decode cX2_build 5 = .ok (.aload_n 0, 1) := by decide +kernel
theorem dX2_build_6 : decode cX2_build 6 = .ok (.getfield 21, 3) := by decide +kernel
theorem dX2_build_9 : decode cX2_build 9 = .ok (.invokevirtual 78, 3) := by decide +kernel
theorem dX2_build_12 : decode cX2_build 12 = .ok (.istore_n 3, 1) := by decide +kernel
theorem dX2_build_13 : decode cX2_build 13 = .ok (.aload_n 0, 1) := by decide +kernel
theorem dX2_build_14 : decode cX2_build 14 = .ok (.getfield 21, 3) := by decide +kernel
theorem dX2_build_17 : decode cX2_build 17 = .ok (.invokevirtual 71, 3) := by decide +kernel
theorem dX2_build_20 : decode cX2_build 20 = .ok (.pop, 1) := by decide +kernel
theorem dX2_build_21 : decode cX2_build 21 = .ok (.aload_n 0, 1) := by decide +kernel
theorem dX2_build_22 : decode cX2_build 22 = .ok (.getfield 21, 3) := by decide +kernel
theorem dX2_build_25 : decode cX2_build 25 = .ok (.iload_n 1, 1) := by decide +kernel
theorem dX2_build_26 : decode cX2_build 26 = .ok (.iload_n 2, 1) := by decide +kernel
theorem dX2_build_27 : decode cX2_build 27 = .ok (.invokevirtual 81, 3) := by decide +kernel
theorem dX2_build_30 : decode cX2_build 30 = .ok (.iload_n 3, 1) := by decide +kernel
theorem dX2_build_31 : decode cX2_build 31 = .ok (.ireturn, 1) := by decide +kernel
set_option maxRecDepth 20000 in
theorem ggX2_cast_X2_requireSet : GoodIn wsX2_cast wsX2_requireSet := goodIn_ca (goodIn_r _ [9, 10, 11, 3, 12, 33, 34, 35, 36, 37, 38, 39, 40, 41, 42, 43, 44, 45, 46, 47, 48] (by decide +kernel) (by decide +kernel)) (goodIn_sub (fun _ h => List.mem_cons_of_mem _ (List.mem_append_right _ h)) (by decide +kernel))
set_option maxRecDepth 20000 in
theorem gX2_cast_X2_requireSet : GoodIn wsX2_cast (wsV RX2 84 RX2 yX2_requireSet wsX2_requireSet) := goodIn_app (goodIn_of _ (by decide +kernel)) ggX2_cast_X2_requireSet
set_option maxRecDepth 20000 in
theorem ggX2_cast_X0_throwOut : GoodIn wsX2_cast wsX0_throwOut := goodIn_r _ [17, 18, 19, 20, 21, 22, 23, 24, 16, 25, 26, 27, 28, 29, 30, 31, 32, 38, 39, 40, 41, 42, 43, 44, 45, 46, 47, 48] (by decide +kernel) (by decide +kernel)
set_option maxRecDepth 20000 in
theorem gX2_cast_X0_throwOut : GoodIn wsX2_cast (wsV RX2 95 RX0 yX0_throwOut wsX0_throwOut) := goodIn_app (goodIn_of _ (by decide +kernel)) ggX2_cast_X0_throwOut
theorem dX2_cast_0 : decode cX2_cast 0 = .ok (.aload_n 0, 1) := by decide +kernel
theorem dX2_cast_1 : decode cX2_cast 1 = .ok (.iload_n 1, 1) := by decide +kernel
theorem dX2_cast_2 : decode cX2_cast 2 = .ok (.invokevirtual 84, 3) := by decide +kernel
theorem dX2_cast_5 : decode cX2_cast 5 = .ok (.aload_n 0, 1) := by decide +kernel
theorem dX2_cast_6 : decode cX2_cast 6 = .ok (.getfield 21, 3) := by decide +kernel
theorem dX2_cast_9 : decode cX2_cast 9 = .ok (.getfield 87, 3) := by decide +kernel
theorem dX2_cast_12 : decode cX2_cast 12 = .ok (.iload_n 1, 1) := by decide +kernel
theorem dX2_cast_13 : decode cX2_cast 13 = .ok (.iaload, 1) := by decide +kernel
theorem dX2_cast_14 : decode cX2_cast 14 = .ok (.istore_n 2, 1) := by decide +kernel
theorem dX2_cast_15 : decode cX2_cast 15 = .ok (.iload_n 2, 1) := by decide +kernel
theorem dX2_cast_16 : decode cX2_cast 16 = .ok (.iconst (-1), 1) := by decide +kernel
theorem dX2_cast_17 : decode cX2_cast 17 = .ok (.if_icmp .ne 13, 3) := by decide +kernel
theorem dX2_cast_20 : decode cX2_cast 20 = .ok (.new 90, 3) := by decide +kernel
theorem dX2_cast_23 : decode cX2_cast 23 = .ok (.dup, 1) := by decide +kernel
theorem dX2_cast_24 : decode cX2_cast 24 = .ok (.ldc 92, 2) := by decide +kernel
theorem dX2_cast_26 : decode cX2_cast 26 = .ok (.invokespecial 94, 3) := by decide +kernel
theorem dX2_cast_29 : decode cX2_cast 29 = .ok (.athrow, 1) := by decide +kernel
theorem dX2_cast_30 : decode cX2_cast 30 = .ok (.aload_n 0, 1) := by decide +kernel
theorem dX2_cast_31 : decode cX2_cast 31 = .ok (.getfield 21, 3) := by decide +kernel
theorem dX2_cast_34 : decode cX2_cast 34 = .ok (.iload_n 1, 1) := by decide +kernel
theorem dX2_cast_35 : decode cX2_cast 35 = .ok (.invokevirtual 95, 3) := by decide +kernel
theorem dX2_cast_38 : decode cX2_cast 38 = .ok (.iload_n 2, 1) := by decide +kernel
theorem dX2_cast_39 : decode cX2_cast 39 = .ok (.ireturn, 1) := by decide +kernel
theorem dX2_sets_0 : decode cX2_sets 0 = .ok (.aload_n 0, 1) := by decide +kernel
theorem dX2_sets_1 : decode cX2_sets 1 = .ok (.getfield 21, 3) := by decide +kernel
theorem dX2_sets_4 : decode cX2_sets 4 = .ok (.getfield 98, 3) := by decide +kernel
theorem dX2_sets_7 : decode cX2_sets 7 = .ok (.ireturn, 1) := by decide +kernel
theorem dX2_places_0 : decode cX2_places 0 = .ok (.aload_n 0, 1) := by decide +kernel
theorem dX2_places_1 : decode cX2_places 1 = .ok (.getfield 21, 3) := by decide +kernel
theorem dX2_places_4 : decode cX2_places 4 = .ok (.getfield 101, 3) := by decide +kernel
theorem dX2_places_7 : decode cX2_places 7 = .ok (.ireturn, 1) := by decide +kernel
set_option maxRecDepth 20000 in
theorem ggX2_lineIn_X2_requireSet : GoodIn wsX2_lineIn wsX2_requireSet := goodIn_ca (goodIn_r _ [7, 8, 9, 1, 10, 11, 12, 13, 14, 15, 16, 17, 18, 19, 20, 21, 22, 23, 24, 25, 26] (by decide +kernel) (by decide +kernel)) (goodIn_sub (fun _ h => List.mem_cons_of_mem _ (List.mem_append_right _ h)) (by decide +kernel))
set_option maxRecDepth 20000 in
theorem gX2_lineIn_X2_requireSet : GoodIn wsX2_lineIn (wsV RX2 84 RX2 yX2_requireSet wsX2_requireSet) := goodIn_app (goodIn_of _ (by decide +kernel)) ggX2_lineIn_X2_requireSet
theorem dX2_lineIn_0 : decode cX2_lineIn 0 = .ok (.aload_n 0, 1) := by decide +kernel
theorem dX2_lineIn_1 : decode cX2_lineIn 1 = .ok (.iload_n 1, 1) := by decide +kernel
theorem dX2_lineIn_2 : decode cX2_lineIn 2 = .ok (.invokevirtual 84, 3) := by decide +kernel
theorem dX2_lineIn_5 : decode cX2_lineIn 5 = .ok (.aload_n 0, 1) := by decide +kernel
theorem dX2_lineIn_6 : decode cX2_lineIn 6 = .ok (.getfield 21, 3) := by decide +kernel
theorem dX2_lineIn_9 : decode cX2_lineIn 9 = .ok (.getfield 87, 3) := by decide +kernel
theorem dX2_lineIn_12 : decode cX2_lineIn 12 = .ok (.iload_n 1, 1) := by decide +kernel
theorem dX2_lineIn_13 : decode cX2_lineIn 13 = .ok (.iaload, 1) := by decide +kernel
theorem dX2_lineIn_14 : decode cX2_lineIn 14 = .ok (.ireturn, 1) := by decide +kernel
theorem dX2_sitting_0 : decode cX2_sitting 0 = .ok (.aload_n 0, 1) := by decide +kernel
theorem dX2_sitting_1 : decode cX2_sitting 1 = .ok (.getfield 21, 3) := by decide +kernel
theorem dX2_sitting_4 : decode cX2_sitting 4 = .ok (.getfield 104, 3) := by decide +kernel
theorem dX2_sitting_7 : decode cX2_sitting 7 = .ok (.ireturn, 1) := by decide +kernel
theorem dX2_lineOnBench_0 : decode cX2_lineOnBench 0 = .ok (.iload_n 1, 1) := by decide +kernel
theorem dX2_lineOnBench_1 : decode cX2_lineOnBench 1 = .ok (.ifCond .lt 14, 3) := by decide +kernel
theorem dX2_lineOnBench_4 : decode cX2_lineOnBench 4 = .ok (.iload_n 1, 1) := by decide +kernel
theorem dX2_lineOnBench_5 : decode cX2_lineOnBench 5 = .ok (.aload_n 0, 1) := by decide +kernel
theorem dX2_lineOnBench_6 : decode cX2_lineOnBench 6 = .ok (.getfield 21, 3) := by decide +kernel
theorem dX2_lineOnBench_9 : decode cX2_lineOnBench 9 = .ok (.getfield 104, 3) := by decide +kernel
theorem dX2_lineOnBench_12 : decode cX2_lineOnBench 12 = .ok (.if_icmp .lt 13, 3) := by decide +kernel
theorem dX2_lineOnBench_15 : decode cX2_lineOnBench 15 = .ok (.new 107, 3) := by decide +kernel
theorem dX2_lineOnBench_18 : decode cX2_lineOnBench 18 = .ok (.dup, 1) := by decide +kernel
theorem dX2_lineOnBench_19 : decode cX2_lineOnBench 19 = .ok (.ldc 109, 2) := by decide +kernel
theorem dX2_lineOnBench_21 : decode cX2_lineOnBench 21 = .ok (.invokespecial 111, 3) := by decide +kernel
theorem dX2_lineOnBench_24 : decode cX2_lineOnBench 24 = .ok (.athrow, 1) := by decide +kernel
theorem dX2_lineOnBench_25 : decode cX2_lineOnBench 25 = .ok (.aload_n 0, 1) := by decide +kernel
theorem dX2_lineOnBench_26 : decode cX2_lineOnBench 26 = .ok (.getfield 21, 3) := by decide +kernel
theorem dX2_lineOnBench_29 : decode cX2_lineOnBench 29 = .ok (.getfield 112, 3) := by decide +kernel
theorem dX2_lineOnBench_32 : decode cX2_lineOnBench 32 = .ok (.aload_n 0, 1) := by decide +kernel
theorem dX2_lineOnBench_33 : decode cX2_lineOnBench 33 = .ok (.getfield 21, 3) := by decide +kernel
theorem dX2_lineOnBench_36 : decode cX2_lineOnBench 36 = .ok (.getfield 104, 3) := by decide +kernel
theorem dX2_lineOnBench_39 : decode cX2_lineOnBench 39 = .ok (.iconst 1, 1) := by decide +kernel
theorem dX2_lineOnBench_40 : decode cX2_lineOnBench 40 = .ok (.isub, 1) := by decide +kernel
theorem dX2_lineOnBench_41 : decode cX2_lineOnBench 41 = .ok (.iload_n 1, 1) := by decide +kernel
theorem dX2_lineOnBench_42 : decode cX2_lineOnBench 42 = .ok (.isub, 1) := by decide +kernel
theorem dX2_lineOnBench_43 : decode cX2_lineOnBench 43 = .ok (.iaload, 1) := by decide +kernel
theorem dX2_lineOnBench_44 : decode cX2_lineOnBench 44 = .ok (.ireturn, 1) := by decide +kernel
set_option maxRecDepth 20000 in
theorem ggX2_placeOf_X2_requireLine : GoodIn wsX2_placeOf wsX2_requireLine := goodIn_ca (goodIn_r _ [5, 6, 7] (by decide +kernel) (by decide +kernel)) (goodIn_sub (fun _ h => List.mem_cons_of_mem _ (List.mem_append_right _ h)) (by decide +kernel))
set_option maxRecDepth 20000 in
theorem gX2_placeOf_X2_requireLine : GoodIn wsX2_placeOf (va_wsS RX2 115 yX2_requireLine wsX2_requireLine) := goodIn_app (goodIn_of _ (by decide +kernel)) ggX2_placeOf_X2_requireLine
set_option maxRecDepth 20000 in
theorem ggX2_placeOf_X0_whereIs : GoodIn wsX2_placeOf wsX0_whereIs := goodIn_r _ [12, 13, 14, 15, 16, 11, 17, 18, 19, 20, 21, 22, 23, 24, 30, 31, 32, 33, 34, 35, 36, 37, 38, 39, 40] (by decide +kernel) (by decide +kernel)
set_option maxRecDepth 20000 in
theorem gX2_placeOf_X0_whereIs : GoodIn wsX2_placeOf (wsV RX2 118 RX0 yX0_whereIs wsX0_whereIs) := goodIn_app (goodIn_of _ (by decide +kernel)) ggX2_placeOf_X0_whereIs
theorem dX2_placeOf_0 : decode cX2_placeOf 0 = .ok (.iload_n 1, 1) := by decide +kernel
theorem dX2_placeOf_1 : decode cX2_placeOf 1 = .ok (.invokestatic 115, 3) := by decide +kernel
theorem dX2_placeOf_4 : decode cX2_placeOf 4 = .ok (.aload_n 0, 1) := by decide +kernel
theorem dX2_placeOf_5 : decode cX2_placeOf 5 = .ok (.getfield 21, 3) := by decide +kernel
theorem dX2_placeOf_8 : decode cX2_placeOf 8 = .ok (.iload_n 1, 1) := by decide +kernel
theorem dX2_placeOf_9 : decode cX2_placeOf 9 = .ok (.invokevirtual 118, 3) := by decide +kernel
theorem dX2_placeOf_12 : decode cX2_placeOf 12 = .ok (.ireturn, 1) := by decide +kernel
set_option maxRecDepth 20000 in
theorem ggX2_isDirty_X2_requireLine : GoodIn wsX2_isDirty wsX2_requireLine := goodIn_ca (goodIn_r _ [6, 7, 8] (by decide +kernel) (by decide +kernel)) (goodIn_sub (fun _ h => List.mem_cons_of_mem _ (List.mem_append_right _ h)) (by decide +kernel))
set_option maxRecDepth 20000 in
theorem gX2_isDirty_X2_requireLine : GoodIn wsX2_isDirty (va_wsS RX2 115 yX2_requireLine wsX2_requireLine) := goodIn_app (goodIn_of _ (by decide +kernel)) ggX2_isDirty_X2_requireLine
theorem dX2_isDirty_0 : decode cX2_isDirty 0 = .ok (.iload_n 1, 1) := by decide +kernel
theorem dX2_isDirty_1 : decode cX2_isDirty 1 = .ok (.invokestatic 115, 3) := by decide +kernel
theorem dX2_isDirty_4 : decode cX2_isDirty 4 = .ok (.aload_n 0, 1) := by decide +kernel
theorem dX2_isDirty_5 : decode cX2_isDirty 5 = .ok (.getfield 21, 3) := by decide +kernel
theorem dX2_isDirty_8 : decode cX2_isDirty 8 = .ok (.getfield 47, 3) := by decide +kernel
theorem dX2_isDirty_11 : decode cX2_isDirty 11 = .ok (.iload_n 1, 1) := by decide +kernel
theorem dX2_isDirty_12 : decode cX2_isDirty 12 = .ok (.baload, 1) := by decide +kernel
theorem dX2_isDirty_13 : decode cX2_isDirty 13 = .ok (.ireturn, 1) := by decide +kernel
set_option maxRecDepth 20000 in
theorem ggX2_dirty_X0_countDirty : GoodIn wsX2_dirty wsX0_countDirty := goodIn_r _ [6, 7, 13, 14, 15, 16, 17, 18, 19, 20, 21, 22, 23] (by decide +kernel) (by decide +kernel)
set_option maxRecDepth 20000 in
theorem gX2_dirty_X0_countDirty : GoodIn wsX2_dirty (wsV RX2 121 RX0 yX0_countDirty wsX0_countDirty) := goodIn_app (goodIn_of _ (by decide +kernel)) ggX2_dirty_X0_countDirty
theorem dX2_dirty_0 : decode cX2_dirty 0 = .ok (.aload_n 0, 1) := by decide +kernel
theorem dX2_dirty_1 : decode cX2_dirty 1 = .ok (.getfield 21, 3) := by decide +kernel
theorem dX2_dirty_4 : decode cX2_dirty 4 = .ok (.invokevirtual 121, 3) := by decide +kernel
theorem dX2_dirty_7 : decode cX2_dirty 7 = .ok (.ireturn, 1) := by decide +kernel
set_option maxRecDepth 20000 in
theorem ggX2_atHome_X2_requireWord : GoodIn wsX2_atHome wsX2_requireWord := goodIn_ca (goodIn_r _ [8, 9, 10] (by decide +kernel) (by decide +kernel)) (goodIn_sub (fun _ h => List.mem_cons_of_mem _ (List.mem_append_right _ h)) (by decide +kernel))
set_option maxRecDepth 20000 in
theorem gX2_atHome_X2_requireWord : GoodIn wsX2_atHome (va_wsS RX2 35 yX2_requireWord wsX2_requireWord) := goodIn_app (goodIn_of _ (by decide +kernel)) ggX2_atHome_X2_requireWord
set_option maxRecDepth 20000 in
theorem ggX2_atHome_X2_lineOf : GoodIn wsX2_atHome wsX2_lineOf := goodIn_r _ [13] (by decide +kernel) (by decide +kernel)
set_option maxRecDepth 20000 in
theorem gX2_atHome_X2_lineOf : GoodIn wsX2_atHome (va_wsS RX2 39 yX2_lineOf wsX2_lineOf) := goodIn_app (goodIn_of _ (by decide +kernel)) ggX2_atHome_X2_lineOf
theorem dX2_atHome_0 : decode cX2_atHome 0 = .ok (.iload_n 1, 1) := by decide +kernel
theorem dX2_atHome_1 : decode cX2_atHome 1 = .ok (.invokestatic 35, 3) := by decide +kernel
theorem dX2_atHome_4 : decode cX2_atHome 4 = .ok (.aload_n 0, 1) := by decide +kernel
theorem dX2_atHome_5 : decode cX2_atHome 5 = .ok (.getfield 21, 3) := by decide +kernel
theorem dX2_atHome_8 : decode cX2_atHome 8 = .ok (.getfield 47, 3) := by decide +kernel
theorem dX2_atHome_11 : decode cX2_atHome 11 = .ok (.iload_n 1, 1) := by decide +kernel
theorem dX2_atHome_12 : decode cX2_atHome 12 = .ok (.invokestatic 39, 3) := by decide +kernel
theorem dX2_atHome_15 : decode cX2_atHome 15 = .ok (.baload, 1) := by decide +kernel
theorem dX2_atHome_16 : decode cX2_atHome 16 = .ok (.ifCond .eq 12, 3) := by decide +kernel
theorem dX2_atHome_19 : decode cX2_atHome 19 = .ok (.aload_n 0, 1) := by decide +kernel
theorem dX2_atHome_20 : decode cX2_atHome 20 = .ok (.getfield 13, 3) := by decide +kernel
theorem dX2_atHome_23 : decode cX2_atHome 23 = .ok (.iload_n 1, 1) := by decide +kernel
theorem dX2_atHome_24 : decode cX2_atHome 24 = .ok (.iaload, 1) := by decide +kernel
theorem dX2_atHome_25 : decode cX2_atHome 25 = .ok (.goto 9, 3) := by decide +kernel
theorem dX2_atHome_28 : decode cX2_atHome 28 = .ok (.aload_n 0, 1) := by decide +kernel
theorem dX2_atHome_29 : decode cX2_atHome 29 = .ok (.getfield 9, 3) := by decide +kernel
theorem dX2_atHome_32 : decode cX2_atHome 32 = .ok (.iload_n 1, 1) := by decide +kernel
theorem dX2_atHome_33 : decode cX2_atHome 33 = .ok (.iaload, 1) := by decide +kernel
theorem dX2_atHome_34 : decode cX2_atHome 34 = .ok (.ireturn, 1) := by decide +kernel
set_option maxRecDepth 20000 in
theorem ggX2_peek_X2_requireWord : GoodIn wsX2_peek wsX2_requireWord := goodIn_ca (goodIn_r _ [5, 6, 7] (by decide +kernel) (by decide +kernel)) (goodIn_sub (fun _ h => List.mem_cons_of_mem _ (List.mem_append_right _ h)) (by decide +kernel))
set_option maxRecDepth 20000 in
theorem gX2_peek_X2_requireWord : GoodIn wsX2_peek (va_wsS RX2 35 yX2_requireWord wsX2_requireWord) := goodIn_app (goodIn_of _ (by decide +kernel)) ggX2_peek_X2_requireWord
theorem dX2_peek_0 : decode cX2_peek 0 = .ok (.iload_n 1, 1) := by decide +kernel
theorem dX2_peek_1 : decode cX2_peek 1 = .ok (.invokestatic 35, 3) := by decide +kernel
theorem dX2_peek_4 : decode cX2_peek 4 = .ok (.aload_n 0, 1) := by decide +kernel
theorem dX2_peek_5 : decode cX2_peek 5 = .ok (.getfield 9, 3) := by decide +kernel
theorem dX2_peek_8 : decode cX2_peek 8 = .ok (.iload_n 1, 1) := by decide +kernel
theorem dX2_peek_9 : decode cX2_peek 9 = .ok (.iaload, 1) := by decide +kernel
theorem dX2_peek_10 : decode cX2_peek 10 = .ok (.ireturn, 1) := by decide +kernel
theorem dX2_hits_0 : decode cX2_hits 0 = .ok (.aload_n 0, 1) := by decide +kernel
theorem dX2_hits_1 : decode cX2_hits 1 = .ok (.getfield 21, 3) := by decide +kernel
theorem dX2_hits_4 : decode cX2_hits 4 = .ok (.getfield 124, 3) := by decide +kernel
theorem dX2_hits_7 : decode cX2_hits 7 = .ok (.ireturn, 1) := by decide +kernel
theorem dX2_swaps_0 : decode cX2_swaps 0 = .ok (.aload_n 0, 1) := by decide +kernel
theorem dX2_swaps_1 : decode cX2_swaps 1 = .ok (.getfield 21, 3) := by decide +kernel
theorem dX2_swaps_4 : decode cX2_swaps 4 = .ok (.getfield 127, 3) := by decide +kernel
theorem dX2_swaps_7 : decode cX2_swaps 7 = .ok (.ireturn, 1) := by decide +kernel
theorem dX2_misses_0 : decode cX2_misses 0 = .ok (.aload_n 0, 1) := by decide +kernel
theorem dX2_misses_1 : decode cX2_misses 1 = .ok (.getfield 21, 3) := by decide +kernel
theorem dX2_misses_4 : decode cX2_misses 4 = .ok (.getfield 130, 3) := by decide +kernel
theorem dX2_misses_7 : decode cX2_misses 7 = .ok (.ireturn, 1) := by decide +kernel
theorem dX2_homecomings_0 : decode cX2_homecomings 0 = .ok (.aload_n 0, 1) := by decide +kernel
theorem dX2_homecomings_1 : decode cX2_homecomings 1 = .ok (.getfield 21, 3) := by decide +kernel
theorem dX2_homecomings_4 : decode cX2_homecomings 4 = .ok (.getfield 133, 3) := by decide +kernel
theorem dX2_homecomings_7 : decode cX2_homecomings 7 = .ok (.ireturn, 1) := by decide +kernel
theorem dX2_cost_0 : decode cX2_cost 0 = .ok (.aload_n 0, 1) := by decide +kernel
theorem dX2_cost_1 : decode cX2_cost 1 = .ok (.getfield 21, 3) := by decide +kernel
theorem dX2_cost_4 : decode cX2_cost 4 = .ok (.getfield 61, 3) := by decide +kernel
theorem dX2_cost_7 : decode cX2_cost 7 = .ok (.ireturn, 1) := by decide +kernel
set_option maxRecDepth 20000 in
theorem ggX2_wouldCost_X2_requireSize : GoodIn wsX2_wouldCost wsX2_requireSize := goodIn_ca (goodIn_r _ [4, 5, 6] (by decide +kernel) (by decide +kernel)) (goodIn_sub (fun _ h => List.mem_cons_of_mem _ (List.mem_append_right _ h)) (by decide +kernel))
set_option maxRecDepth 20000 in
theorem gX2_wouldCost_X2_requireSize : GoodIn wsX2_wouldCost (va_wsS RX2 75 yX2_requireSize wsX2_requireSize) := goodIn_app (goodIn_of _ (by decide +kernel)) ggX2_wouldCost_X2_requireSize
set_option maxRecDepth 20000 in
theorem ggX2_wouldCost_X2_costOfTrial : GoodIn wsX2_wouldCost wsX2_costOfTrial := goodIn_r _ [10, 11, 12, 13, 14, 15, 16, 17, 18, 19, 20, 21, 22, 23, 24, 25, 26, 27, 28, 29, 30, 31, 32, 33, 34, 35, 36, 37, 38, 39, 40, 41, 42, 43, 44, 45, 46, 47, 48, 49, 50, 51, 52, 53, 54, 55, 56, 57, 58, 59, 60, 61, 62, 63, 64, 65, 66, 67, 68, 69, 70, 71, 72, 73, 74, 75, 76, 77, 78, 79, 80, 81, 82, 83, 84, 85, 86, 87] (by decide +kernel) (by decide +kernel)
set_option maxRecDepth 20000 in
theorem gX2_wouldCost_X2_costOfTrial : GoodIn wsX2_wouldCost (wsV RX2 136 RX2 yX2_costOfTrial wsX2_costOfTrial) := goodIn_app (goodIn_of _ (by decide +kernel)) ggX2_wouldCost_X2_costOfTrial
theorem dX2_wouldCost_0 : decode cX2_wouldCost 0 = .ok (.iload_n 1, 1) := by decide +kernel
theorem dX2_wouldCost_1 : decode cX2_wouldCost 1 = .ok (.iload_n 2, 1) := by decide +kernel
theorem dX2_wouldCost_2 : decode cX2_wouldCost 2 = .ok (.invokestatic 75, 3) := by decide +kernel
theorem dX2_wouldCost_5 : decode cX2_wouldCost 5 = .ok (.aload_n 0, 1) := by decide +kernel
theorem dX2_wouldCost_6 : decode cX2_wouldCost 6 = .ok (.iload_n 1, 1) := by decide +kernel
theorem dX2_wouldCost_7 : decode cX2_wouldCost 7 = .ok (.iload_n 2, 1) := by decide +kernel
theorem dX2_wouldCost_8 : decode cX2_wouldCost 8 = .ok (.invokevirtual 136, 3) := by decide +kernel
theorem dX2_wouldCost_11 : decode cX2_wouldCost 11 = .ok (.ireturn, 1) := by decide +kernel
set_option maxRecDepth 20000 in
theorem ggX2_bestPlaces_X2_costOfTrial : GoodIn wsX2_bestPlaces wsX2_costOfTrial := goodIn_r _ [7, 8, 9, 10, 11, 12, 13, 14, 15, 16, 17, 18, 19, 20, 21, 22, 23, 24, 25, 26, 27, 28, 29, 30, 31, 32, 33, 34, 35, 36, 37, 38, 39, 40, 41, 42, 43, 44, 45, 46, 47, 48, 49, 50, 51, 52, 53, 54, 55, 56, 57, 58, 59, 60, 61, 62, 63, 64, 65, 66, 67, 68, 69, 70, 71, 72, 73, 74, 75, 76, 77, 78, 79, 80, 81, 82, 83, 84] (by decide +kernel) (by decide +kernel)
set_option maxRecDepth 20000 in
theorem gX2_bestPlaces_X2_costOfTrial : GoodIn wsX2_bestPlaces (wsV RX2 136 RX2 yX2_costOfTrial wsX2_costOfTrial) := goodIn_app (goodIn_of _ (by decide +kernel)) ggX2_bestPlaces_X2_costOfTrial
theorem dX2_bestPlaces_0 : decode cX2_bestPlaces 0 = .ok (.iconst 0, 1) := by decide +kernel
theorem dX2_bestPlaces_1 : decode cX2_bestPlaces 1 = .ok (.istore_n 1, 1) := by decide +kernel
theorem dX2_bestPlaces_2 : decode cX2_bestPlaces 2 = .ok (.aload_n 0, 1) := by decide +kernel
theorem dX2_bestPlaces_3 : decode cX2_bestPlaces 3 = .ok (.aload_n 0, 1) := by decide +kernel
theorem dX2_bestPlaces_4 : decode cX2_bestPlaces 4 = .ok (.getfield 21, 3) := by decide +kernel
theorem dX2_bestPlaces_7 : decode cX2_bestPlaces 7 = .ok (.getfield 98, 3) := by decide +kernel
theorem dX2_bestPlaces_10 : decode cX2_bestPlaces 10 = .ok (.iconst 0, 1) := by decide +kernel
theorem dX2_bestPlaces_11 : decode cX2_bestPlaces 11 = .ok (.invokevirtual 136, 3) := by decide +kernel
theorem dX2_bestPlaces_14 : decode cX2_bestPlaces 14 = .ok (.istore_n 2, 1) := by decide +kernel
theorem dX2_bestPlaces_15 : decode cX2_bestPlaces 15 = .ok (.iconst 1, 1) := by decide +kernel
theorem dX2_bestPlaces_16 : decode cX2_bestPlaces 16 = .ok (.istore_n 3, 1) := by decide +kernel
theorem dX2_bestPlaces_17 : decode cX2_bestPlaces 17 = .ok (.iload_n 3, 1) := by decide +kernel
theorem dX2_bestPlaces_18 : decode cX2_bestPlaces 18 = .ok (.bipush 8, 2) := by decide +kernel
theorem dX2_bestPlaces_20 : decode cX2_bestPlaces 20 = .ok (.if_icmp .gt 34, 3) := by decide +kernel
theorem dX2_bestPlaces_23 : decode cX2_bestPlaces 23 = .ok (.aload_n 0, 1) := by decide +kernel
theorem dX2_bestPlaces_24 : decode cX2_bestPlaces 24 = .ok (.aload_n 0, 1) := by decide +kernel
theorem dX2_bestPlaces_25 : decode cX2_bestPlaces 25 = .ok (.getfield 21, 3) := by decide +kernel
theorem dX2_bestPlaces_28 : decode cX2_bestPlaces 28 = .ok (.getfield 98, 3) := by decide +kernel
theorem dX2_bestPlaces_31 : decode cX2_bestPlaces 31 = .ok (.iload_n 3, 1) := by decide +kernel
theorem dX2_bestPlaces_32 : decode cX2_bestPlaces 32 = .ok (.invokevirtual 136, 3) := by decide +kernel
theorem dX2_bestPlaces_35 : decode cX2_bestPlaces 35 = .ok (.istore 4, 2) := by decide +kernel
theorem dX2_bestPlaces_37 : decode cX2_bestPlaces 37 = .ok (.iload 4, 2) := by decide +kernel
theorem dX2_bestPlaces_39 : decode cX2_bestPlaces 39 = .ok (.iload_n 2, 1) := by decide +kernel
theorem dX2_bestPlaces_40 : decode cX2_bestPlaces 40 = .ok (.if_icmp .ge 8, 3) := by decide +kernel
theorem dX2_bestPlaces_43 : decode cX2_bestPlaces 43 = .ok (.iload_n 3, 1) := by decide +kernel
theorem dX2_bestPlaces_44 : decode cX2_bestPlaces 44 = .ok (.istore_n 1, 1) := by decide +kernel
theorem dX2_bestPlaces_45 : decode cX2_bestPlaces 45 = .ok (.iload 4, 2) := by decide +kernel
theorem dX2_bestPlaces_47 : decode cX2_bestPlaces 47 = .ok (.istore_n 2, 1) := by decide +kernel
theorem dX2_bestPlaces_48 : decode cX2_bestPlaces 48 = .ok (.iinc 3 1, 3) := by decide +kernel
theorem dX2_bestPlaces_51 : decode cX2_bestPlaces 51 = .ok (.goto (-34), 3) := by decide +kernel
theorem dX2_bestPlaces_54 : decode cX2_bestPlaces 54 = .ok (.iload_n 1, 1) := by decide +kernel
theorem dX2_bestPlaces_55 : decode cX2_bestPlaces 55 = .ok (.ireturn, 1) := by decide +kernel
set_option maxRecDepth 20000 in
theorem ggX2_ask_X0_access : GoodIn wsX2_ask wsX0_access := goodIn_r _ [7, 8, 9, 10, 11, 12, 13, 14, 15, 16, 6, 17, 18, 19, 20, 21, 22, 23, 24, 25, 26, 27, 28, 29, 30, 31, 32, 33, 34, 35, 36, 37, 38, 53, 54, 55, 56, 57, 58, 59, 60, 61, 62, 63] (by decide +kernel) (by decide +kernel)
set_option maxRecDepth 20000 in
theorem gX2_ask_X0_access : GoodIn wsX2_ask (wsV RX2 139 RX0 yX0_access wsX0_access) := goodIn_app (goodIn_of _ (by decide +kernel)) ggX2_ask_X0_access
set_option maxRecDepth 20000 in
theorem ggX2_ask_X1_add : GoodIn wsX2_ask wsX1_add := goodIn_r _ [43, 44, 45, 46, 47, 64, 65, 66, 67] (by decide +kernel) (by decide +kernel)
set_option maxRecDepth 20000 in
theorem gX2_ask_X1_add : GoodIn wsX2_ask (wsV RX2 142 RX1 yX1_add wsX1_add) := goodIn_app (goodIn_of _ (by decide +kernel)) ggX2_ask_X1_add
theorem dX2_ask_0 : decode cX2_ask 0 = .ok (.aload_n 0, 1) := by decide +kernel
theorem dX2_ask_1 : decode cX2_ask 1 = .ok (.getfield 21, 3) := by decide +kernel
theorem dX2_ask_4 : decode cX2_ask 4 = .ok (.iload_n 1, 1) := by decide +kernel
theorem dX2_ask_5 : decode cX2_ask 5 = .ok (.iload_n 2, 1) := by decide +kernel
theorem dX2_ask_6 : decode cX2_ask 6 = .ok (.invokevirtual 139, 3) := by decide +kernel
theorem dX2_ask_9 : decode cX2_ask 9 = .ok (.aload_n 0, 1) := by decide +kernel
theorem dX2_ask_10 : decode cX2_ask 10 = .ok (.getfield 31, 3) := by decide +kernel
theorem dX2_ask_13 : decode cX2_ask 13 = .ok (.iload_n 1, 1) := by decide +kernel
theorem dX2_ask_14 : decode cX2_ask 14 = .ok (.iload_n 2, 1) := by decide +kernel
theorem dX2_ask_15 : decode cX2_ask 15 = .ok (.invokevirtual 142, 3) := by decide +kernel
theorem dX2_ask_18 : decode cX2_ask 18 = .ok (.return_, 1) := by decide +kernel
theorem dX2_keepHomeWords_0 : decode cX2_keepHomeWords 0 = .ok (.iload_n 1, 1) := by decide +kernel
theorem dX2_keepHomeWords_1 : decode cX2_keepHomeWords 1 = .ok (.iconst 4, 1) := by decide +kernel
theorem dX2_keepHomeWords_2 : decode cX2_keepHomeWords 2 = .ok (.imul, 1) := by decide +kernel
theorem dX2_keepHomeWords_3 : decode cX2_keepHomeWords 3 = .ok (.istore_n 2, 1) := by decide +kernel
theorem dX2_keepHomeWords_4 : decode cX2_keepHomeWords 4 = .ok (.aload_n 0, 1) := by decide +kernel
theorem dX2_keepHomeWords_5 : decode cX2_keepHomeWords 5 = .ok (.getfield 9, 3) := by decide +kernel
theorem dX2_keepHomeWords_8 : decode cX2_keepHomeWords 8 = .ok (.iload_n 2, 1) := by decide +kernel
theorem dX2_keepHomeWords_9 : decode cX2_keepHomeWords 9 = .ok (.aload_n 0, 1) := by decide +kernel
theorem dX2_keepHomeWords_10 : decode cX2_keepHomeWords 10 = .ok (.getfield 13, 3) := by decide +kernel
theorem dX2_keepHomeWords_13 : decode cX2_keepHomeWords 13 = .ok (.iload_n 2, 1) := by decide +kernel
theorem dX2_keepHomeWords_14 : decode cX2_keepHomeWords 14 = .ok (.iconst 4, 1) := by decide +kernel
theorem dX2_keepHomeWords_15 : decode cX2_keepHomeWords 15 = .ok (.invokestatic 145, 3) := by decide +kernel
theorem dX2_keepHomeWords_18 : decode cX2_keepHomeWords 18 = .ok (.return_, 1) := by decide +kernel
set_option maxRecDepth 20000 in
theorem ggX2_costOfTrial_X0_startEmpty : GoodIn wsX2_costOfTrial wsX0_startEmpty := goodIn_r _ [11, 12, 13, 14, 15, 16, 17, 18, 19, 20, 63, 64, 65, 66, 67, 68, 69, 70, 71, 72, 73] (by decide +kernel) (by decide +kernel)
set_option maxRecDepth 20000 in
theorem gX2_costOfTrial_X0_startEmpty : GoodIn wsX2_costOfTrial (wsV RX2 81 RX0 yX0_startEmpty wsX0_startEmpty) := goodIn_app (goodIn_of _ (by decide +kernel)) ggX2_costOfTrial_X0_startEmpty
set_option maxRecDepth 20000 in
theorem ggX2_costOfTrial_X1_slotOf : GoodIn wsX2_costOfTrial wsX1_slotOf := goodIn_r _ [25, 26, 27, 74, 75, 76, 77] (by decide +kernel) (by decide +kernel)
set_option maxRecDepth 20000 in
theorem gX2_costOfTrial_X1_slotOf : GoodIn wsX2_costOfTrial (wsV RX2 154 RX1 yX1_slotOf wsX1_slotOf) := goodIn_app (goodIn_of _ (by decide +kernel)) ggX2_costOfTrial_X1_slotOf
set_option maxRecDepth 20000 in
theorem ggX2_costOfTrial_X0_access : GoodIn wsX2_costOfTrial wsX0_access := goodIn_r _ [31, 14, 32, 33, 34, 35, 16, 36, 37, 38, 10, 39, 12, 40, 41, 42, 43, 15, 44, 45, 46, 47, 48, 49, 50, 51, 52, 13, 53, 54, 55, 56, 57, 63, 64, 65, 66, 67, 68, 69, 70, 71, 72, 73] (by decide +kernel) (by decide +kernel)
set_option maxRecDepth 20000 in
theorem gX2_costOfTrial_X0_access : GoodIn wsX2_costOfTrial (wsV RX2 139 RX0 yX0_access wsX0_access) := goodIn_app (goodIn_of _ (by decide +kernel)) ggX2_costOfTrial_X0_access
theorem dX2_costOfTrial_0 : decode cX2_costOfTrial 0 = .ok (.aload_n 0, 1) := by decide +kernel
theorem dX2_costOfTrial_1 : decode cX2_costOfTrial 1 = .ok (.getfield 25, 3) := by decide +kernel
theorem dX2_costOfTrial_4 : decode cX2_costOfTrial 4 = .ok (.iload_n 1, 1) := by decide +kernel
theorem dX2_costOfTrial_5 : decode cX2_costOfTrial 5 = .ok (.iload_n 2, 1) := by decide +kernel
theorem dX2_costOfTrial_6 : decode cX2_costOfTrial 6 = .ok (.invokevirtual 81, 3) := by decide +kernel
theorem dX2_costOfTrial_9 : decode cX2_costOfTrial 9 = .ok (.aload_n 0, 1) := by decide +kernel
theorem dX2_costOfTrial_10 : decode cX2_costOfTrial 10 = .ok (.getfield 25, 3) := by decide +kernel
theorem dX2_costOfTrial_13 : decode cX2_costOfTrial 13 = .ok (.getfield 61, 3) := by decide +kernel
theorem dX2_costOfTrial_16 : decode cX2_costOfTrial 16 = .ok (.istore_n 3, 1) := by decide +kernel
theorem dX2_costOfTrial_17 : decode cX2_costOfTrial 17 = .ok (.iconst 0, 1) := by decide +kernel
theorem dX2_costOfTrial_18 : decode cX2_costOfTrial 18 = .ok (.istore 4, 2) := by decide +kernel
theorem dX2_costOfTrial_20 : decode cX2_costOfTrial 20 = .ok (.iload 4, 2) := by decide +kernel
theorem dX2_costOfTrial_22 : decode cX2_costOfTrial 22 = .ok (.aload_n 0, 1) := by decide +kernel
theorem dX2_costOfTrial_23 : decode cX2_costOfTrial 23 = .ok (.getfield 31, 3) := by decide +kernel
theorem dX2_costOfTrial_26 : decode cX2_costOfTrial 26 = .ok (.getfield 151, 3) := by decide +kernel
theorem dX2_costOfTrial_29 : decode cX2_costOfTrial 29 = .ok (.if_icmp .ge 47, 3) := by decide +kernel
theorem dX2_costOfTrial_32 : decode cX2_costOfTrial 32 = .ok (.aload_n 0, 1) := by decide +kernel
theorem dX2_costOfTrial_33 : decode cX2_costOfTrial 33 = .ok (.getfield 31, 3) := by decide +kernel
theorem dX2_costOfTrial_36 : decode cX2_costOfTrial 36 = .ok (.iload 4, 2) := by decide +kernel
theorem dX2_costOfTrial_38 : decode cX2_costOfTrial 38 = .ok (.invokevirtual 154, 3) := by decide +kernel
theorem dX2_costOfTrial_41 : decode cX2_costOfTrial 41 = .ok (.istore 5, 2) := by decide +kernel
theorem dX2_costOfTrial_43 : decode cX2_costOfTrial 43 = .ok (.aload_n 0, 1) := by decide +kernel
theorem dX2_costOfTrial_44 : decode cX2_costOfTrial 44 = .ok (.getfield 25, 3) := by decide +kernel
theorem dX2_costOfTrial_47 : decode cX2_costOfTrial 47 = .ok (.aload_n 0, 1) := by decide +kernel
theorem dX2_costOfTrial_48 : decode cX2_costOfTrial 48 = .ok (.getfield 31, 3) := by decide +kernel
theorem dX2_costOfTrial_51 : decode cX2_costOfTrial 51 = .ok (.getfield 157, 3) := by decide +kernel
theorem dX2_costOfTrial_54 : decode cX2_costOfTrial 54 = .ok (.iload 5, 2) := by decide +kernel
theorem dX2_costOfTrial_56 : decode cX2_costOfTrial 56 = .ok (.iaload, 1) := by decide +kernel
theorem dX2_costOfTrial_57 : decode cX2_costOfTrial 57 = .ok (.aload_n 0, 1) := by decide +kernel
theorem dX2_costOfTrial_58 : decode cX2_costOfTrial 58 = .ok (.getfield 31, 3) := by decide +kernel
theorem dX2_costOfTrial_61 : decode cX2_costOfTrial 61 = .ok (.getfield 158, 3) := by decide +kernel
theorem dX2_costOfTrial_64 : decode cX2_costOfTrial 64 = .ok (.iload 5, 2) := by decide +kernel
theorem dX2_costOfTrial_66 : decode cX2_costOfTrial 66 = .ok (.baload, 1) := by decide +kernel
theorem dX2_costOfTrial_67 : decode cX2_costOfTrial 67 = .ok (.invokevirtual 139, 3) := by decide +kernel
theorem dX2_costOfTrial_70 : decode cX2_costOfTrial 70 = .ok (.iinc 4 1, 3) := by decide +kernel
theorem dX2_costOfTrial_73 : decode cX2_costOfTrial 73 = .ok (.goto (-53), 3) := by decide +kernel
theorem dX2_costOfTrial_76 : decode cX2_costOfTrial 76 = .ok (.aload_n 0, 1) := by decide +kernel
theorem dX2_costOfTrial_77 : decode cX2_costOfTrial 77 = .ok (.getfield 25, 3) := by decide +kernel
theorem dX2_costOfTrial_80 : decode cX2_costOfTrial 80 = .ok (.getfield 61, 3) := by decide +kernel
theorem dX2_costOfTrial_83 : decode cX2_costOfTrial 83 = .ok (.iload_n 3, 1) := by decide +kernel
theorem dX2_costOfTrial_84 : decode cX2_costOfTrial 84 = .ok (.isub, 1) := by decide +kernel
theorem dX2_costOfTrial_85 : decode cX2_costOfTrial 85 = .ok (.ireturn, 1) := by decide +kernel
theorem dX2_lineOf_0 : decode cX2_lineOf 0 = .ok (.iload_n 0, 1) := by decide +kernel
theorem dX2_lineOf_1 : decode cX2_lineOf 1 = .ok (.iconst 4, 1) := by decide +kernel
theorem dX2_lineOf_2 : decode cX2_lineOf 2 = .ok (.idiv, 1) := by decide +kernel
theorem dX2_lineOf_3 : decode cX2_lineOf 3 = .ok (.ireturn, 1) := by decide +kernel
theorem dX2_requireWord_0 : decode cX2_requireWord 0 = .ok (.iload_n 0, 1) := by decide +kernel
theorem dX2_requireWord_1 : decode cX2_requireWord 1 = .ok (.ifCond .lt 10, 3) := by decide +kernel
theorem dX2_requireWord_4 : decode cX2_requireWord 4 = .ok (.iload_n 0, 1) := by decide +kernel
theorem dX2_requireWord_5 : decode cX2_requireWord 5 = .ok (.sipush 1024, 3) := by decide +kernel
theorem dX2_requireWord_8 : decode cX2_requireWord 8 = .ok (.if_icmp .lt 13, 3) := by decide +kernel
theorem dX2_requireWord_11 : decode cX2_requireWord 11 = .ok (.new 107, 3) := by decide +kernel
theorem dX2_requireWord_14 : decode cX2_requireWord 14 = .ok (.dup, 1) := by decide +kernel
theorem dX2_requireWord_15 : decode cX2_requireWord 15 = .ok (.ldc 161, 2) := by decide +kernel
theorem dX2_requireWord_17 : decode cX2_requireWord 17 = .ok (.invokespecial 111, 3) := by decide +kernel
theorem dX2_requireWord_20 : decode cX2_requireWord 20 = .ok (.athrow, 1) := by decide +kernel
theorem dX2_requireWord_21 : decode cX2_requireWord 21 = .ok (.return_, 1) := by decide +kernel
theorem dX2_requireLine_0 : decode cX2_requireLine 0 = .ok (.iload_n 0, 1) := by decide +kernel
theorem dX2_requireLine_1 : decode cX2_requireLine 1 = .ok (.ifCond .lt 10, 3) := by decide +kernel
theorem dX2_requireLine_4 : decode cX2_requireLine 4 = .ok (.iload_n 0, 1) := by decide +kernel
theorem dX2_requireLine_5 : decode cX2_requireLine 5 = .ok (.sipush 256, 3) := by decide +kernel
theorem dX2_requireLine_8 : decode cX2_requireLine 8 = .ok (.if_icmp .lt 13, 3) := by decide +kernel
theorem dX2_requireLine_11 : decode cX2_requireLine 11 = .ok (.new 107, 3) := by decide +kernel
theorem dX2_requireLine_14 : decode cX2_requireLine 14 = .ok (.dup, 1) := by decide +kernel
theorem dX2_requireLine_15 : decode cX2_requireLine 15 = .ok (.ldc 163, 2) := by decide +kernel
theorem dX2_requireLine_17 : decode cX2_requireLine 17 = .ok (.invokespecial 111, 3) := by decide +kernel
theorem dX2_requireLine_20 : decode cX2_requireLine 20 = .ok (.athrow, 1) := by decide +kernel
theorem dX2_requireLine_21 : decode cX2_requireLine 21 = .ok (.return_, 1) := by decide +kernel
theorem dX2_requireSet_0 : decode cX2_requireSet 0 = .ok (.iload_n 1, 1) := by decide +kernel
theorem dX2_requireSet_1 : decode cX2_requireSet 1 = .ok (.ifCond .lt 14, 3) := by decide +kernel
theorem dX2_requireSet_4 : decode cX2_requireSet 4 = .ok (.iload_n 1, 1) := by decide +kernel
theorem dX2_requireSet_5 : decode cX2_requireSet 5 = .ok (.aload_n 0, 1) := by decide +kernel
theorem dX2_requireSet_6 : decode cX2_requireSet 6 = .ok (.getfield 21, 3) := by decide +kernel
theorem dX2_requireSet_9 : decode cX2_requireSet 9 = .ok (.getfield 98, 3) := by decide +kernel
theorem dX2_requireSet_12 : decode cX2_requireSet 12 = .ok (.if_icmp .lt 13, 3) := by decide +kernel
theorem dX2_requireSet_15 : decode cX2_requireSet 15 = .ok (.new 107, 3) := by decide +kernel
theorem dX2_requireSet_18 : decode cX2_requireSet 18 = .ok (.dup, 1) := by decide +kernel
theorem dX2_requireSet_19 : decode cX2_requireSet 19 = .ok (.ldc 165, 2) := by decide +kernel
theorem dX2_requireSet_21 : decode cX2_requireSet 21 = .ok (.invokespecial 111, 3) := by decide +kernel
theorem dX2_requireSet_24 : decode cX2_requireSet 24 = .ok (.athrow, 1) := by decide +kernel
theorem dX2_requireSet_25 : decode cX2_requireSet 25 = .ok (.return_, 1) := by decide +kernel
theorem dX2_requireSize_0 : decode cX2_requireSize 0 = .ok (.iload_n 0, 1) := by decide +kernel
theorem dX2_requireSize_1 : decode cX2_requireSize 1 = .ok (.iconst 1, 1) := by decide +kernel
theorem dX2_requireSize_2 : decode cX2_requireSize 2 = .ok (.if_icmp .eq 25, 3) := by decide +kernel
theorem dX2_requireSize_5 : decode cX2_requireSize 5 = .ok (.iload_n 0, 1) := by decide +kernel
theorem dX2_requireSize_6 : decode cX2_requireSize 6 = .ok (.iconst 2, 1) := by decide +kernel
theorem dX2_requireSize_7 : decode cX2_requireSize 7 = .ok (.if_icmp .eq 20, 3) := by decide +kernel
theorem dX2_requireSize_10 : decode cX2_requireSize 10 = .ok (.iload_n 0, 1) := by decide +kernel
theorem dX2_requireSize_11 : decode cX2_requireSize 11 = .ok (.iconst 4, 1) := by decide +kernel
theorem dX2_requireSize_12 : decode cX2_requireSize 12 = .ok (.if_icmp .eq 15, 3) := by decide +kernel
theorem dX2_requireSize_15 : decode cX2_requireSize 15 = .ok (.iload_n 0, 1) := by decide +kernel
theorem dX2_requireSize_16 : decode cX2_requireSize 16 = .ok (.bipush 8, 2) := by decide +kernel
theorem dX2_requireSize_18 : decode cX2_requireSize 18 = .ok (.if_icmp .eq 9, 3) := by decide +kernel
theorem dX2_requireSize_21 : decode cX2_requireSize 21 = .ok (.iload_n 0, 1) := by decide +kernel
theorem dX2_requireSize_22 : decode cX2_requireSize 22 = .ok (.bipush 16, 2) := by decide +kernel
theorem dX2_requireSize_24 : decode cX2_requireSize 24 = .ok (.if_icmp .ne 7, 3) := by decide +kernel
theorem dX2_requireSize_27 : decode cX2_requireSize 27 = .ok (.iconst 1, 1) := by decide +kernel
theorem dX2_requireSize_28 : decode cX2_requireSize 28 = .ok (.goto 4, 3) := by decide +kernel
theorem dX2_requireSize_31 : decode cX2_requireSize 31 = .ok (.iconst 0, 1) := by decide +kernel
theorem dX2_requireSize_32 : decode cX2_requireSize 32 = .ok (.istore_n 2, 1) := by decide +kernel
theorem dX2_requireSize_33 : decode cX2_requireSize 33 = .ok (.iload_n 2, 1) := by decide +kernel
theorem dX2_requireSize_34 : decode cX2_requireSize 34 = .ok (.ifCond .eq 13, 3) := by decide +kernel
theorem dX2_requireSize_37 : decode cX2_requireSize 37 = .ok (.iload_n 1, 1) := by decide +kernel
theorem dX2_requireSize_38 : decode cX2_requireSize 38 = .ok (.ifCond .lt 9, 3) := by decide +kernel
theorem dX2_requireSize_41 : decode cX2_requireSize 41 = .ok (.iload_n 1, 1) := by decide +kernel
theorem dX2_requireSize_42 : decode cX2_requireSize 42 = .ok (.bipush 8, 2) := by decide +kernel
theorem dX2_requireSize_44 : decode cX2_requireSize 44 = .ok (.if_icmp .le 13, 3) := by decide +kernel
theorem dX2_requireSize_47 : decode cX2_requireSize 47 = .ok (.new 54, 3) := by decide +kernel
theorem dX2_requireSize_50 : decode cX2_requireSize 50 = .ok (.dup, 1) := by decide +kernel
theorem dX2_requireSize_51 : decode cX2_requireSize 51 = .ok (.ldc 167, 2) := by decide +kernel
theorem dX2_requireSize_53 : decode cX2_requireSize 53 = .ok (.invokespecial 58, 3) := by decide +kernel
theorem dX2_requireSize_56 : decode cX2_requireSize 56 = .ok (.athrow, 1) := by decide +kernel
theorem dX2_requireSize_57 : decode cX2_requireSize 57 = .ok (.return_, 1) := by decide +kernel
theorem dJ9_floorMod_7cf53_0 : decode cJ9_floorMod_7cf53 0 = .ok (.iload_n 0, 1) := by decide +kernel
theorem dJ9_floorMod_7cf53_1 : decode cJ9_floorMod_7cf53 1 = .ok (.iload_n 1, 1) := by decide +kernel
theorem dJ9_floorMod_7cf53_2 : decode cJ9_floorMod_7cf53 2 = .ok (.irem, 1) := by decide +kernel
theorem dJ9_floorMod_7cf53_3 : decode cJ9_floorMod_7cf53 3 = .ok (.istore_n 2, 1) := by decide +kernel
theorem dJ9_floorMod_7cf53_4 : decode cJ9_floorMod_7cf53 4 = .ok (.iload_n 0, 1) := by decide +kernel
theorem dJ9_floorMod_7cf53_5 : decode cJ9_floorMod_7cf53 5 = .ok (.iload_n 1, 1) := by decide +kernel
theorem dJ9_floorMod_7cf53_6 : decode cJ9_floorMod_7cf53 6 = .ok (.ixor, 1) := by decide +kernel
theorem dJ9_floorMod_7cf53_7 : decode cJ9_floorMod_7cf53 7 = .ok (.ifCond .ge 11, 3) := by decide +kernel
theorem dJ9_floorMod_7cf53_10 : decode cJ9_floorMod_7cf53 10 = .ok (.iload_n 2, 1) := by decide +kernel
theorem dJ9_floorMod_7cf53_11 : decode cJ9_floorMod_7cf53 11 = .ok (.ifCond .eq 7, 3) := by decide +kernel
theorem dJ9_floorMod_7cf53_14 : decode cJ9_floorMod_7cf53 14 = .ok (.iload_n 2, 1) := by decide +kernel
theorem dJ9_floorMod_7cf53_15 : decode cJ9_floorMod_7cf53 15 = .ok (.iload_n 1, 1) := by decide +kernel
theorem dJ9_floorMod_7cf53_16 : decode cJ9_floorMod_7cf53 16 = .ok (.iadd, 1) := by decide +kernel
theorem dJ9_floorMod_7cf53_17 : decode cJ9_floorMod_7cf53 17 = .ok (.ireturn, 1) := by decide +kernel
theorem dJ9_floorMod_7cf53_18 : decode cJ9_floorMod_7cf53 18 = .ok (.iload_n 2, 1) := by decide +kernel
theorem dJ9_floorMod_7cf53_19 : decode cJ9_floorMod_7cf53 19 = .ok (.ireturn, 1) := by decide +kernel
theorem dJ7_fill_53178_0 : decode cJ7_fill_53178 0 = .ok (.iconst 0, 1) := by decide +kernel
theorem dJ7_fill_53178_1 : decode cJ7_fill_53178 1 = .ok (.istore_n 2, 1) := by decide +kernel
theorem dJ7_fill_53178_2 : decode cJ7_fill_53178 2 = .ok (.aload_n 0, 1) := by decide +kernel
theorem dJ7_fill_53178_3 : decode cJ7_fill_53178 3 = .ok (.arraylength, 1) := by decide +kernel
theorem dJ7_fill_53178_4 : decode cJ7_fill_53178 4 = .ok (.istore_n 3, 1) := by decide +kernel
theorem dJ7_fill_53178_5 : decode cJ7_fill_53178 5 = .ok (.iload_n 2, 1) := by decide +kernel
theorem dJ7_fill_53178_6 : decode cJ7_fill_53178 6 = .ok (.iload_n 3, 1) := by decide +kernel
theorem dJ7_fill_53178_7 : decode cJ7_fill_53178 7 = .ok (.if_icmp .ge 13, 3) := by decide +kernel
theorem dJ7_fill_53178_10 : decode cJ7_fill_53178 10 = .ok (.aload_n 0, 1) := by decide +kernel
theorem dJ7_fill_53178_11 : decode cJ7_fill_53178 11 = .ok (.iload_n 2, 1) := by decide +kernel
theorem dJ7_fill_53178_12 : decode cJ7_fill_53178 12 = .ok (.iload_n 1, 1) := by decide +kernel
theorem dJ7_fill_53178_13 : decode cJ7_fill_53178 13 = .ok (.iastore, 1) := by decide +kernel
theorem dJ7_fill_53178_14 : decode cJ7_fill_53178 14 = .ok (.iinc 2 1, 3) := by decide +kernel
theorem dJ7_fill_53178_17 : decode cJ7_fill_53178 17 = .ok (.goto (-12), 3) := by decide +kernel
theorem dJ7_fill_53178_20 : decode cJ7_fill_53178 20 = .ok (.return_, 1) := by decide +kernel
theorem dL_drawn_0 : decode cL_drawn 0 = .ok (.iload_n 1, 1) := by decide +kernel
theorem dL_drawn_1 : decode cL_drawn 1 = .ok (.aload_n 0, 1) := by decide +kernel
theorem dL_drawn_2 : decode cL_drawn 2 = .ok (.arraylength, 1) := by decide +kernel
theorem dL_drawn_3 : decode cL_drawn 3 = .ok (.if_icmp .ge 9, 3) := by decide +kernel
theorem dL_drawn_6 : decode cL_drawn 6 = .ok (.aload_n 0, 1) := by decide +kernel
theorem dL_drawn_7 : decode cL_drawn 7 = .ok (.iload_n 1, 1) := by decide +kernel
theorem dL_drawn_8 : decode cL_drawn 8 = .ok (.iaload, 1) := by decide +kernel
theorem dL_drawn_9 : decode cL_drawn 9 = .ok (.goto 11, 3) := by decide +kernel
theorem dL_drawn_12 : decode cL_drawn 12 = .ok (.sipush 27697, 3) := by decide +kernel
theorem dL_drawn_15 : decode cL_drawn 15 = .ok (.iload_n 1, 1) := by decide +kernel
theorem dL_drawn_16 : decode cL_drawn 16 = .ok (.imul, 1) := by decide +kernel
theorem dL_drawn_17 : decode cL_drawn 17 = .ok (.ldc 7, 2) := by decide +kernel
theorem dL_drawn_19 : decode cL_drawn 19 = .ok (.iadd, 1) := by decide +kernel
theorem dL_drawn_20 : decode cL_drawn 20 = .ok (.istore_n 3, 1) := by decide +kernel
theorem dL_drawn_21 : decode cL_drawn 21 = .ok (.iload_n 3, 1) := by decide +kernel
theorem dL_drawn_22 : decode cL_drawn 22 = .ok (.iconst 1, 1) := by decide +kernel
theorem dL_drawn_23 : decode cL_drawn 23 = .ok (.iushr, 1) := by decide +kernel
theorem dL_drawn_24 : decode cL_drawn 24 = .ok (.iload_n 2, 1) := by decide +kernel
theorem dL_drawn_25 : decode cL_drawn 25 = .ok (.irem, 1) := by decide +kernel
theorem dL_drawn_26 : decode cL_drawn 26 = .ok (.ireturn, 1) := by decide +kernel
