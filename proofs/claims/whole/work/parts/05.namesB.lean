set_option maxRecDepth 20000 in
theorem ggX3_init_X3_empties : GoodIn wsX3_init wsX3_empties := goodIn_r _ [19, 9, 11, 12, 20, 21, 22, 23, 24, 25, 26, 27, 28, 29, 30, 31, 32, 33, 34, 35] (by decide +kernel) (by decide +kernel)
set_option maxRecDepth 20000 in
theorem gX3_init_X3_empties : GoodIn wsX3_init (wsV RX3 40 RX3 yX3_empties wsX3_empties) := goodIn_app (goodIn_of _ (by decide +kernel)) ggX3_init_X3_empties
theorem dX3_init_0 : decode cX3_init 0 = .ok (.aload_n 0, 1) := by decide +kernel
theorem dX3_init_1 : decode cX3_init 1 = .ok (.invokespecial 1, 3) := by decide +kernel
theorem dX3_init_4 : decode cX3_init 4 = .ok (.aload_n 0, 1) := by decide +kernel
theorem dX3_init_5 : decode cX3_init 5 = .ok (.sipush 1024, 3) := by decide +kernel
theorem dX3_init_8 : decode cX3_init 8 = .ok (.newarray .int, 2) := by decide +kernel
theorem dX3_init_10 : decode cX3_init 10 = .ok (.putfield 7, 3) := by decide +kernel
theorem dX3_init_13 : decode cX3_init 13 = .ok (.aload_n 0, 1) := by decide +kernel
theorem dX3_init_14 : decode cX3_init 14 = .ok (.sipush 1024, 3) := by decide +kernel
theorem dX3_init_17 : decode cX3_init 17 = .ok (.newarray .int, 2) := by decide +kernel
theorem dX3_init_19 : decode cX3_init 19 = .ok (.putfield 13, 3) := by decide +kernel
theorem dX3_init_22 : decode cX3_init 22 = .ok (.aload_n 0, 1) := by decide +kernel
theorem dX3_init_23 : decode cX3_init 23 = .ok (.iconst 2, 1) := by decide +kernel
theorem dX3_init_24 : decode cX3_init 24 = .ok (.newarray .int, 2) := by decide +kernel
theorem dX3_init_26 : decode cX3_init 26 = .ok (.putfield 16, 3) := by decide +kernel
theorem dX3_init_29 : decode cX3_init 29 = .ok (.aload_n 0, 1) := by decide +kernel
theorem dX3_init_30 : decode cX3_init 30 = .ok (.iconst 2, 1) := by decide +kernel
theorem dX3_init_31 : decode cX3_init 31 = .ok (.newarray .int, 2) := by decide +kernel
theorem dX3_init_33 : decode cX3_init 33 = .ok (.putfield 19, 3) := by decide +kernel
theorem dX3_init_36 : decode cX3_init 36 = .ok (.aload_n 0, 1) := by decide +kernel
theorem dX3_init_37 : decode cX3_init 37 = .ok (.bipush 32, 2) := by decide +kernel
theorem dX3_init_39 : decode cX3_init 39 = .ok (.newarray .int, 2) := by decide +kernel
theorem dX3_init_41 : decode cX3_init 41 = .ok (.putfield 22, 3) := by decide +kernel
theorem dX3_init_44 : decode cX3_init 44 = .ok (.aload_n 0, 1) := by decide +kernel
theorem dX3_init_45 : decode cX3_init 45 = .ok (.bipush 16, 2) := by decide +kernel
theorem dX3_init_47 : decode cX3_init 47 = .ok (.newarray .int, 2) := by decide +kernel
theorem dX3_init_49 : decode cX3_init 49 = .ok (.putfield 25, 3) := by decide +kernel
theorem dX3_init_52 : decode cX3_init 52 = .ok (.aload_n 0, 1) := by decide +kernel
theorem dX3_init_53 : decode cX3_init 53 = .ok (.iconst 2, 1) := by decide +kernel
theorem dX3_init_54 : decode cX3_init 54 = .ok (.newarray .int, 2) := by decide +kernel
theorem dX3_init_56 : decode cX3_init 56 = .ok (.putfield 28, 3) := by decide +kernel
theorem dX3_init_59 : decode cX3_init 59 = .ok (.aload_n 0, 1) := by decide +kernel
theorem dX3_init_60 : decode cX3_init 60 = .ok (.sipush 512, 3) := by decide +kernel
theorem dX3_init_63 : decode cX3_init 63 = .ok (.newarray .int, 2) := by decide +kernel
theorem dX3_init_65 : decode cX3_init 65 = .ok (.putfield 31, 3) := by decide +kernel
theorem dX3_init_68 : decode cX3_init 68 = .ok (.aload_n 0, 1) := by decide +kernel
theorem dX3_init_69 : decode cX3_init 69 = .ok (.iconst 2, 1) := by decide +kernel
theorem dX3_init_70 : decode cX3_init 70 = .ok (.newarray .int, 2) := by decide +kernel
theorem dX3_init_72 : decode cX3_init 72 = .ok (.putfield 34, 3) := by decide +kernel
theorem dX3_init_75 : decode cX3_init 75 = .ok (.aload_n 0, 1) := by decide +kernel
theorem dX3_init_76 : decode cX3_init 76 = .ok (.sipush 150, 3) := by decide +kernel
theorem dX3_init_79 : decode cX3_init 79 = .ok (.newarray .int, 2) := by decide +kernel
theorem dX3_init_81 : decode cX3_init 81 = .ok (.putfield 37, 3) := by decide +kernel
theorem dX3_init_84 : decode cX3_init 84 = .ok (.aload_n 0, 1) := by decide +kernel
theorem dX3_init_85 : decode cX3_init 85 = .ok (.getfield 16, 3) := by decide +kernel
theorem dX3_init_88 : decode cX3_init 88 = .ok (.iconst 0, 1) := by decide +kernel
theorem dX3_init_89 : decode cX3_init 89 = .ok (.iconst 4, 1) := by decide +kernel
theorem dX3_init_90 : decode cX3_init 90 = .ok (.iastore, 1) := by decide +kernel
theorem dX3_init_91 : decode cX3_init 91 = .ok (.aload_n 0, 1) := by decide +kernel
theorem dX3_init_92 : decode cX3_init 92 = .ok (.getfield 19, 3) := by decide +kernel
theorem dX3_init_95 : decode cX3_init 95 = .ok (.iconst 0, 1) := by decide +kernel
theorem dX3_init_96 : decode cX3_init 96 = .ok (.iconst 2, 1) := by decide +kernel
theorem dX3_init_97 : decode cX3_init 97 = .ok (.iastore, 1) := by decide +kernel
theorem dX3_init_98 : decode cX3_init 98 = .ok (.aload_n 0, 1) := by decide +kernel
theorem dX3_init_99 : decode cX3_init 99 = .ok (.iconst 0, 1) := by decide +kernel
theorem dX3_init_100 : decode cX3_init 100 = .ok (.invokevirtual 40, 3) := by decide +kernel
theorem dX3_init_103 : decode cX3_init 103 = .ok (.return_, 1) := by decide +kernel
theorem dX3_thrown_0 : decode cX3_thrown 0 = .ok (.aload_n 0, 1) := by decide +kernel
theorem dX3_thrown_1 : decode cX3_thrown 1 = .ok (.getfield 44, 3) := by decide +kernel
theorem dX3_thrown_4 : decode cX3_thrown 4 = .ok (.ireturn, 1) := by decide +kernel
theorem dX3_isWord_0 : decode cX3_isWord 0 = .ok (.iload_n 0, 1) := by decide +kernel
theorem dX3_isWord_1 : decode cX3_isWord 1 = .ok (.ifCond .lt 14, 3) := by decide +kernel
theorem dX3_isWord_4 : decode cX3_isWord 4 = .ok (.iload_n 0, 1) := by decide +kernel
theorem dX3_isWord_5 : decode cX3_isWord 5 = .ok (.sipush 1024, 3) := by decide +kernel
theorem dX3_isWord_8 : decode cX3_isWord 8 = .ok (.if_icmp .ge 7, 3) := by decide +kernel
theorem dX3_isWord_11 : decode cX3_isWord 11 = .ok (.iconst 1, 1) := by decide +kernel
theorem dX3_isWord_12 : decode cX3_isWord 12 = .ok (.goto 4, 3) := by decide +kernel
theorem dX3_isWord_15 : decode cX3_isWord 15 = .ok (.iconst 0, 1) := by decide +kernel
theorem dX3_isWord_16 : decode cX3_isWord 16 = .ok (.ireturn, 1) := by decide +kernel
theorem dX3_isSize_0 : decode cX3_isSize 0 = .ok (.iload_n 0, 1) := by decide +kernel
theorem dX3_isSize_1 : decode cX3_isSize 1 = .ok (.iconst 1, 1) := by decide +kernel
theorem dX3_isSize_2 : decode cX3_isSize 2 = .ok (.if_icmp .eq 25, 3) := by decide +kernel
theorem dX3_isSize_5 : decode cX3_isSize 5 = .ok (.iload_n 0, 1) := by decide +kernel
theorem dX3_isSize_6 : decode cX3_isSize 6 = .ok (.iconst 2, 1) := by decide +kernel
theorem dX3_isSize_7 : decode cX3_isSize 7 = .ok (.if_icmp .eq 20, 3) := by decide +kernel
theorem dX3_isSize_10 : decode cX3_isSize 10 = .ok (.iload_n 0, 1) := by decide +kernel
theorem dX3_isSize_11 : decode cX3_isSize 11 = .ok (.iconst 4, 1) := by decide +kernel
theorem dX3_isSize_12 : decode cX3_isSize 12 = .ok (.if_icmp .eq 15, 3) := by decide +kernel
theorem dX3_isSize_15 : decode cX3_isSize 15 = .ok (.iload_n 0, 1) := by decide +kernel
theorem dX3_isSize_16 : decode cX3_isSize 16 = .ok (.bipush 8, 2) := by decide +kernel
theorem dX3_isSize_18 : decode cX3_isSize 18 = .ok (.if_icmp .eq 9, 3) := by decide +kernel
theorem dX3_isSize_21 : decode cX3_isSize 21 = .ok (.iload_n 0, 1) := by decide +kernel
theorem dX3_isSize_22 : decode cX3_isSize 22 = .ok (.bipush 16, 2) := by decide +kernel
theorem dX3_isSize_24 : decode cX3_isSize 24 = .ok (.if_icmp .ne 17, 3) := by decide +kernel
theorem dX3_isSize_27 : decode cX3_isSize 27 = .ok (.iload_n 1, 1) := by decide +kernel
theorem dX3_isSize_28 : decode cX3_isSize 28 = .ok (.ifCond .lt 13, 3) := by decide +kernel
theorem dX3_isSize_31 : decode cX3_isSize 31 = .ok (.iload_n 1, 1) := by decide +kernel
theorem dX3_isSize_32 : decode cX3_isSize 32 = .ok (.bipush 8, 2) := by decide +kernel
theorem dX3_isSize_34 : decode cX3_isSize 34 = .ok (.if_icmp .gt 7, 3) := by decide +kernel
theorem dX3_isSize_37 : decode cX3_isSize 37 = .ok (.iconst 1, 1) := by decide +kernel
theorem dX3_isSize_38 : decode cX3_isSize 38 = .ok (.goto 4, 3) := by decide +kernel
theorem dX3_isSize_41 : decode cX3_isSize 41 = .ok (.iconst 0, 1) := by decide +kernel
theorem dX3_isSize_42 : decode cX3_isSize 42 = .ok (.ireturn, 1) := by decide +kernel
theorem dX3_empties_0 : decode cX3_empties 0 = .ok (.iconst 0, 1) := by decide +kernel
theorem dX3_empties_1 : decode cX3_empties 1 = .ok (.istore_n 2, 1) := by decide +kernel
theorem dX3_empties_2 : decode cX3_empties 2 = .ok (.iload_n 2, 1) := by decide +kernel
theorem dX3_empties_3 : decode cX3_empties 3 = .ok (.bipush 16, 2) := by decide +kernel
theorem dX3_empties_5 : decode cX3_empties 5 = .ok (.if_icmp .ge 21, 3) := by decide +kernel
theorem dX3_empties_8 : decode cX3_empties 8 = .ok (.aload_n 0, 1) := by decide +kernel
theorem dX3_empties_9 : decode cX3_empties 9 = .ok (.getfield 22, 3) := by decide +kernel
theorem dX3_empties_12 : decode cX3_empties 12 = .ok (.bipush 16, 2) := by decide +kernel
theorem dX3_empties_14 : decode cX3_empties 14 = .ok (.iload_n 1, 1) := by decide +kernel
theorem dX3_empties_15 : decode cX3_empties 15 = .ok (.imul, 1) := by decide +kernel
theorem dX3_empties_16 : decode cX3_empties 16 = .ok (.iload_n 2, 1) := by decide +kernel
theorem dX3_empties_17 : decode cX3_empties 17 = .ok (.iadd, 1) := by decide +kernel
theorem dX3_empties_18 : decode cX3_empties 18 = .ok (.iconst (-1), 1) := by decide +kernel
theorem dX3_empties_19 : decode cX3_empties 19 = .ok (.iastore, 1) := by decide +kernel
theorem dX3_empties_20 : decode cX3_empties 20 = .ok (.iinc 2 1, 3) := by decide +kernel
theorem dX3_empties_23 : decode cX3_empties 23 = .ok (.goto (-21), 3) := by decide +kernel
theorem dX3_empties_26 : decode cX3_empties 26 = .ok (.aload_n 0, 1) := by decide +kernel
theorem dX3_empties_27 : decode cX3_empties 27 = .ok (.getfield 28, 3) := by decide +kernel
theorem dX3_empties_30 : decode cX3_empties 30 = .ok (.iload_n 1, 1) := by decide +kernel
theorem dX3_empties_31 : decode cX3_empties 31 = .ok (.iconst 0, 1) := by decide +kernel
theorem dX3_empties_32 : decode cX3_empties 32 = .ok (.iastore, 1) := by decide +kernel
theorem dX3_empties_33 : decode cX3_empties 33 = .ok (.iconst 0, 1) := by decide +kernel
theorem dX3_empties_34 : decode cX3_empties 34 = .ok (.istore_n 2, 1) := by decide +kernel
theorem dX3_empties_35 : decode cX3_empties 35 = .ok (.iload_n 2, 1) := by decide +kernel
theorem dX3_empties_36 : decode cX3_empties 36 = .ok (.sipush 256, 3) := by decide +kernel
theorem dX3_empties_39 : decode cX3_empties 39 = .ok (.if_icmp .ge 22, 3) := by decide +kernel
theorem dX3_empties_42 : decode cX3_empties 42 = .ok (.aload_n 0, 1) := by decide +kernel
theorem dX3_empties_43 : decode cX3_empties 43 = .ok (.getfield 31, 3) := by decide +kernel
theorem dX3_empties_46 : decode cX3_empties 46 = .ok (.sipush 256, 3) := by decide +kernel
theorem dX3_empties_49 : decode cX3_empties 49 = .ok (.iload_n 1, 1) := by decide +kernel
theorem dX3_empties_50 : decode cX3_empties 50 = .ok (.imul, 1) := by decide +kernel
theorem dX3_empties_51 : decode cX3_empties 51 = .ok (.iload_n 2, 1) := by decide +kernel
theorem dX3_empties_52 : decode cX3_empties 52 = .ok (.iadd, 1) := by decide +kernel
theorem dX3_empties_53 : decode cX3_empties 53 = .ok (.iconst 0, 1) := by decide +kernel
theorem dX3_empties_54 : decode cX3_empties 54 = .ok (.iastore, 1) := by decide +kernel
theorem dX3_empties_55 : decode cX3_empties 55 = .ok (.iinc 2 1, 3) := by decide +kernel
theorem dX3_empties_58 : decode cX3_empties 58 = .ok (.goto (-23), 3) := by decide +kernel
theorem dX3_empties_61 : decode cX3_empties 61 = .ok (.return_, 1) := by decide +kernel
theorem dX3_comesHome_0 : decode cX3_comesHome 0 = .ok (.aload_n 0, 1) := by decide +kernel
theorem dX3_comesHome_1 : decode cX3_comesHome 1 = .ok (.getfield 34, 3) := by decide +kernel
theorem dX3_comesHome_4 : decode cX3_comesHome 4 = .ok (.iload_n 1, 1) := by decide +kernel
theorem dX3_comesHome_5 : decode cX3_comesHome 5 = .ok (.dup2, 1) := by decide +kernel
theorem dX3_comesHome_6 : decode cX3_comesHome 6 = .ok (.iaload, 1) := by decide +kernel
theorem dX3_comesHome_7 : decode cX3_comesHome 7 = .ok (.bipush 10, 2) := by decide +kernel
theorem dX3_comesHome_9 : decode cX3_comesHome 9 = .ok (.iadd, 1) := by decide +kernel
theorem dX3_comesHome_10 : decode cX3_comesHome 10 = .ok (.iastore, 1) := by decide +kernel
theorem dX3_comesHome_11 : decode cX3_comesHome 11 = .ok (.aload_n 0, 1) := by decide +kernel
theorem dX3_comesHome_12 : decode cX3_comesHome 12 = .ok (.getfield 31, 3) := by decide +kernel
theorem dX3_comesHome_15 : decode cX3_comesHome 15 = .ok (.sipush 256, 3) := by decide +kernel
theorem dX3_comesHome_18 : decode cX3_comesHome 18 = .ok (.iload_n 1, 1) := by decide +kernel
theorem dX3_comesHome_19 : decode cX3_comesHome 19 = .ok (.imul, 1) := by decide +kernel
theorem dX3_comesHome_20 : decode cX3_comesHome 20 = .ok (.iload_n 2, 1) := by decide +kernel
theorem dX3_comesHome_21 : decode cX3_comesHome 21 = .ok (.iadd, 1) := by decide +kernel
theorem dX3_comesHome_22 : decode cX3_comesHome 22 = .ok (.iconst 0, 1) := by decide +kernel
theorem dX3_comesHome_23 : decode cX3_comesHome 23 = .ok (.iastore, 1) := by decide +kernel
theorem dX3_comesHome_24 : decode cX3_comesHome 24 = .ok (.iconst 4, 1) := by decide +kernel
theorem dX3_comesHome_25 : decode cX3_comesHome 25 = .ok (.iload_n 2, 1) := by decide +kernel
theorem dX3_comesHome_26 : decode cX3_comesHome 26 = .ok (.imul, 1) := by decide +kernel
theorem dX3_comesHome_27 : decode cX3_comesHome 27 = .ok (.istore_n 3, 1) := by decide +kernel
theorem dX3_comesHome_28 : decode cX3_comesHome 28 = .ok (.iload_n 3, 1) := by decide +kernel
theorem dX3_comesHome_29 : decode cX3_comesHome 29 = .ok (.iconst 4, 1) := by decide +kernel
theorem dX3_comesHome_30 : decode cX3_comesHome 30 = .ok (.iload_n 2, 1) := by decide +kernel
theorem dX3_comesHome_31 : decode cX3_comesHome 31 = .ok (.imul, 1) := by decide +kernel
theorem dX3_comesHome_32 : decode cX3_comesHome 32 = .ok (.iconst 4, 1) := by decide +kernel
theorem dX3_comesHome_33 : decode cX3_comesHome 33 = .ok (.iadd, 1) := by decide +kernel
theorem dX3_comesHome_34 : decode cX3_comesHome 34 = .ok (.if_icmp .ge 25, 3) := by decide +kernel
theorem dX3_comesHome_37 : decode cX3_comesHome 37 = .ok (.iload_n 1, 1) := by decide +kernel
theorem dX3_comesHome_38 : decode cX3_comesHome 38 = .ok (.ifCond .ne 21, 3) := by decide +kernel
theorem dX3_comesHome_41 : decode cX3_comesHome 41 = .ok (.aload_n 0, 1) := by decide +kernel
theorem dX3_comesHome_42 : decode cX3_comesHome 42 = .ok (.getfield 13, 3) := by decide +kernel
theorem dX3_comesHome_45 : decode cX3_comesHome 45 = .ok (.iload_n 3, 1) := by decide +kernel
theorem dX3_comesHome_46 : decode cX3_comesHome 46 = .ok (.aload_n 0, 1) := by decide +kernel
theorem dX3_comesHome_47 : decode cX3_comesHome 47 = .ok (.getfield 7, 3) := by decide +kernel
theorem dX3_comesHome_50 : decode cX3_comesHome 50 = .ok (.iload_n 3, 1) := by decide +kernel
theorem dX3_comesHome_51 : decode cX3_comesHome 51 = .ok (.iaload, 1) := by decide +kernel
theorem dX3_comesHome_52 : decode cX3_comesHome 52 = .ok (.iastore, 1) := by decide +kernel
theorem dX3_comesHome_53 : decode cX3_comesHome 53 = .ok (.iinc 3 1, 3) := by decide +kernel
theorem dX3_comesHome_56 : decode cX3_comesHome 56 = .ok (.goto (-28), 3) := by decide +kernel
theorem dX3_comesHome_59 : decode cX3_comesHome 59 = .ok (.aload_n 0, 1) := by decide +kernel
theorem dX3_comesHome_60 : decode cX3_comesHome 60 = .ok (.dup, 1) := by decide +kernel
theorem dX3_comesHome_61 : decode cX3_comesHome 61 = .ok (.getfield 48, 3) := by decide +kernel
theorem dX3_comesHome_64 : decode cX3_comesHome 64 = .ok (.iload_n 1, 1) := by decide +kernel
theorem dX3_comesHome_65 : decode cX3_comesHome 65 = .ok (.ifCond .ne 7, 3) := by decide +kernel
theorem dX3_comesHome_68 : decode cX3_comesHome 68 = .ok (.iconst 1, 1) := by decide +kernel
theorem dX3_comesHome_69 : decode cX3_comesHome 69 = .ok (.goto 4, 3) := by decide +kernel
theorem dX3_comesHome_72 : decode cX3_comesHome 72 = .ok (.iconst 0, 1) := by decide +kernel
theorem dX3_comesHome_73 : decode cX3_comesHome 73 = .ok (.iadd, 1) := by decide +kernel
theorem dX3_comesHome_74 : decode cX3_comesHome 74 = .ok (.putfield 48, 3) := by decide +kernel
theorem dX3_comesHome_77 : decode cX3_comesHome 77 = .ok (.return_, 1) := by decide +kernel
set_option maxRecDepth 20000 in
theorem ggX3_goesHome_X3_comesHome : GoodIn wsX3_goesHome wsX3_comesHome := goodIn_r _ [6, 7, 1, 8, 9, 10, 11, 12, 13, 14, 15, 16, 17, 18, 19, 20, 21, 22, 23, 24, 25, 26] (by decide +kernel) (by decide +kernel)
set_option maxRecDepth 20000 in
theorem gX3_goesHome_X3_comesHome : GoodIn wsX3_goesHome (wsV RX3 51 RX3 yX3_comesHome wsX3_comesHome) := goodIn_app (goodIn_of _ (by decide +kernel)) ggX3_goesHome_X3_comesHome
theorem dX3_goesHome_0 : decode cX3_goesHome 0 = .ok (.aload_n 0, 1) := by decide +kernel
theorem dX3_goesHome_1 : decode cX3_goesHome 1 = .ok (.getfield 31, 3) := by decide +kernel
theorem dX3_goesHome_4 : decode cX3_goesHome 4 = .ok (.sipush 256, 3) := by decide +kernel
theorem dX3_goesHome_7 : decode cX3_goesHome 7 = .ok (.iload_n 1, 1) := by decide +kernel
theorem dX3_goesHome_8 : decode cX3_goesHome 8 = .ok (.imul, 1) := by decide +kernel
theorem dX3_goesHome_9 : decode cX3_goesHome 9 = .ok (.iload_n 2, 1) := by decide +kernel
theorem dX3_goesHome_10 : decode cX3_goesHome 10 = .ok (.iadd, 1) := by decide +kernel
theorem dX3_goesHome_11 : decode cX3_goesHome 11 = .ok (.iaload, 1) := by decide +kernel
theorem dX3_goesHome_12 : decode cX3_goesHome 12 = .ok (.iconst 1, 1) := by decide +kernel
theorem dX3_goesHome_13 : decode cX3_goesHome 13 = .ok (.if_icmp .ne 9, 3) := by decide +kernel
theorem dX3_goesHome_16 : decode cX3_goesHome 16 = .ok (.aload_n 0, 1) := by decide +kernel
theorem dX3_goesHome_17 : decode cX3_goesHome 17 = .ok (.iload_n 1, 1) := by decide +kernel
theorem dX3_goesHome_18 : decode cX3_goesHome 18 = .ok (.iload_n 2, 1) := by decide +kernel
theorem dX3_goesHome_19 : decode cX3_goesHome 19 = .ok (.invokevirtual 51, 3) := by decide +kernel
theorem dX3_goesHome_22 : decode cX3_goesHome 22 = .ok (.return_, 1) := by decide +kernel
theorem dX3_seat_0 : decode cX3_seat 0 = .ok (.iconst 0, 1) := by decide +kernel
theorem dX3_seat_1 : decode cX3_seat 1 = .ok (.istore_n 3, 1) := by decide +kernel
theorem dX3_seat_2 : decode cX3_seat 2 = .ok (.iload_n 3, 1) := by decide +kernel
theorem dX3_seat_3 : decode cX3_seat 3 = .ok (.aload_n 0, 1) := by decide +kernel
theorem dX3_seat_4 : decode cX3_seat 4 = .ok (.getfield 28, 3) := by decide +kernel
theorem dX3_seat_7 : decode cX3_seat 7 = .ok (.iload_n 1, 1) := by decide +kernel
theorem dX3_seat_8 : decode cX3_seat 8 = .ok (.iaload, 1) := by decide +kernel
theorem dX3_seat_9 : decode cX3_seat 9 = .ok (.if_icmp .ge 26, 3) := by decide +kernel
theorem dX3_seat_12 : decode cX3_seat 12 = .ok (.aload_n 0, 1) := by decide +kernel
theorem dX3_seat_13 : decode cX3_seat 13 = .ok (.getfield 25, 3) := by decide +kernel
theorem dX3_seat_16 : decode cX3_seat 16 = .ok (.bipush 8, 2) := by decide +kernel
theorem dX3_seat_18 : decode cX3_seat 18 = .ok (.iload_n 1, 1) := by decide +kernel
theorem dX3_seat_19 : decode cX3_seat 19 = .ok (.imul, 1) := by decide +kernel
theorem dX3_seat_20 : decode cX3_seat 20 = .ok (.iload_n 3, 1) := by decide +kernel
theorem dX3_seat_21 : decode cX3_seat 21 = .ok (.iadd, 1) := by decide +kernel
theorem dX3_seat_22 : decode cX3_seat 22 = .ok (.iaload, 1) := by decide +kernel
theorem dX3_seat_23 : decode cX3_seat 23 = .ok (.iload_n 2, 1) := by decide +kernel
theorem dX3_seat_24 : decode cX3_seat 24 = .ok (.if_icmp .ne 5, 3) := by decide +kernel
theorem dX3_seat_27 : decode cX3_seat 27 = .ok (.iload_n 3, 1) := by decide +kernel
theorem dX3_seat_28 : decode cX3_seat 28 = .ok (.ireturn, 1) := by decide +kernel
theorem dX3_seat_29 : decode cX3_seat 29 = .ok (.iinc 3 1, 3) := by decide +kernel
theorem dX3_seat_32 : decode cX3_seat 32 = .ok (.goto (-30), 3) := by decide +kernel
theorem dX3_seat_35 : decode cX3_seat 35 = .ok (.iconst (-1), 1) := by decide +kernel
theorem dX3_seat_36 : decode cX3_seat 36 = .ok (.ireturn, 1) := by decide +kernel
theorem dX3_leavesBench_0 : decode cX3_leavesBench 0 = .ok (.aload_n 0, 1) := by decide +kernel
theorem dX3_leavesBench_1 : decode cX3_leavesBench 1 = .ok (.getfield 28, 3) := by decide +kernel
theorem dX3_leavesBench_4 : decode cX3_leavesBench 4 = .ok (.iload_n 1, 1) := by decide +kernel
theorem dX3_leavesBench_5 : decode cX3_leavesBench 5 = .ok (.dup2, 1) := by decide +kernel
theorem dX3_leavesBench_6 : decode cX3_leavesBench 6 = .ok (.iaload, 1) := by decide +kernel
theorem dX3_leavesBench_7 : decode cX3_leavesBench 7 = .ok (.iconst 1, 1) := by decide +kernel
theorem dX3_leavesBench_8 : decode cX3_leavesBench 8 = .ok (.isub, 1) := by decide +kernel
theorem dX3_leavesBench_9 : decode cX3_leavesBench 9 = .ok (.iastore, 1) := by decide +kernel
theorem dX3_leavesBench_10 : decode cX3_leavesBench 10 = .ok (.iload_n 2, 1) := by decide +kernel
theorem dX3_leavesBench_11 : decode cX3_leavesBench 11 = .ok (.istore_n 3, 1) := by decide +kernel
theorem dX3_leavesBench_12 : decode cX3_leavesBench 12 = .ok (.iload_n 3, 1) := by decide +kernel
theorem dX3_leavesBench_13 : decode cX3_leavesBench 13 = .ok (.aload_n 0, 1) := by decide +kernel
theorem dX3_leavesBench_14 : decode cX3_leavesBench 14 = .ok (.getfield 28, 3) := by decide +kernel
theorem dX3_leavesBench_17 : decode cX3_leavesBench 17 = .ok (.iload_n 1, 1) := by decide +kernel
theorem dX3_leavesBench_18 : decode cX3_leavesBench 18 = .ok (.iaload, 1) := by decide +kernel
theorem dX3_leavesBench_19 : decode cX3_leavesBench 19 = .ok (.if_icmp .ge 33, 3) := by decide +kernel
theorem dX3_leavesBench_22 : decode cX3_leavesBench 22 = .ok (.aload_n 0, 1) := by decide +kernel
theorem dX3_leavesBench_23 : decode cX3_leavesBench 23 = .ok (.getfield 25, 3) := by decide +kernel
theorem dX3_leavesBench_26 : decode cX3_leavesBench 26 = .ok (.bipush 8, 2) := by decide +kernel
theorem dX3_leavesBench_28 : decode cX3_leavesBench 28 = .ok (.iload_n 1, 1) := by decide +kernel
theorem dX3_leavesBench_29 : decode cX3_leavesBench 29 = .ok (.imul, 1) := by decide +kernel
theorem dX3_leavesBench_30 : decode cX3_leavesBench 30 = .ok (.iload_n 3, 1) := by decide +kernel
theorem dX3_leavesBench_31 : decode cX3_leavesBench 31 = .ok (.iadd, 1) := by decide +kernel
theorem dX3_leavesBench_32 : decode cX3_leavesBench 32 = .ok (.aload_n 0, 1) := by decide +kernel
theorem dX3_leavesBench_33 : decode cX3_leavesBench 33 = .ok (.getfield 25, 3) := by decide +kernel
theorem dX3_leavesBench_36 : decode cX3_leavesBench 36 = .ok (.bipush 8, 2) := by decide +kernel
theorem dX3_leavesBench_38 : decode cX3_leavesBench 38 = .ok (.iload_n 1, 1) := by decide +kernel
theorem dX3_leavesBench_39 : decode cX3_leavesBench 39 = .ok (.imul, 1) := by decide +kernel
theorem dX3_leavesBench_40 : decode cX3_leavesBench 40 = .ok (.iload_n 3, 1) := by decide +kernel
theorem dX3_leavesBench_41 : decode cX3_leavesBench 41 = .ok (.iadd, 1) := by decide +kernel
theorem dX3_leavesBench_42 : decode cX3_leavesBench 42 = .ok (.iconst 1, 1) := by decide +kernel
theorem dX3_leavesBench_43 : decode cX3_leavesBench 43 = .ok (.iadd, 1) := by decide +kernel
theorem dX3_leavesBench_44 : decode cX3_leavesBench 44 = .ok (.iaload, 1) := by decide +kernel
theorem dX3_leavesBench_45 : decode cX3_leavesBench 45 = .ok (.iastore, 1) := by decide +kernel
theorem dX3_leavesBench_46 : decode cX3_leavesBench 46 = .ok (.iinc 3 1, 3) := by decide +kernel
theorem dX3_leavesBench_49 : decode cX3_leavesBench 49 = .ok (.goto (-37), 3) := by decide +kernel
theorem dX3_leavesBench_52 : decode cX3_leavesBench 52 = .ok (.return_, 1) := by decide +kernel
theorem dX3_sits_0 : decode cX3_sits 0 = .ok (.aload_n 0, 1) := by decide +kernel
theorem dX3_sits_1 : decode cX3_sits 1 = .ok (.getfield 28, 3) := by decide +kernel
theorem dX3_sits_4 : decode cX3_sits 4 = .ok (.iload_n 1, 1) := by decide +kernel
theorem dX3_sits_5 : decode cX3_sits 5 = .ok (.iaload, 1) := by decide +kernel
theorem dX3_sits_6 : decode cX3_sits 6 = .ok (.istore_n 3, 1) := by decide +kernel
theorem dX3_sits_7 : decode cX3_sits 7 = .ok (.iload_n 3, 1) := by decide +kernel
theorem dX3_sits_8 : decode cX3_sits 8 = .ok (.ifCond .le 33, 3) := by decide +kernel
theorem dX3_sits_11 : decode cX3_sits 11 = .ok (.aload_n 0, 1) := by decide +kernel
theorem dX3_sits_12 : decode cX3_sits 12 = .ok (.getfield 25, 3) := by decide +kernel
theorem dX3_sits_15 : decode cX3_sits 15 = .ok (.bipush 8, 2) := by decide +kernel
theorem dX3_sits_17 : decode cX3_sits 17 = .ok (.iload_n 1, 1) := by decide +kernel
theorem dX3_sits_18 : decode cX3_sits 18 = .ok (.imul, 1) := by decide +kernel
theorem dX3_sits_19 : decode cX3_sits 19 = .ok (.iload_n 3, 1) := by decide +kernel
theorem dX3_sits_20 : decode cX3_sits 20 = .ok (.iadd, 1) := by decide +kernel
theorem dX3_sits_21 : decode cX3_sits 21 = .ok (.aload_n 0, 1) := by decide +kernel
theorem dX3_sits_22 : decode cX3_sits 22 = .ok (.getfield 25, 3) := by decide +kernel
theorem dX3_sits_25 : decode cX3_sits 25 = .ok (.bipush 8, 2) := by decide +kernel
theorem dX3_sits_27 : decode cX3_sits 27 = .ok (.iload_n 1, 1) := by decide +kernel
theorem dX3_sits_28 : decode cX3_sits 28 = .ok (.imul, 1) := by decide +kernel
theorem dX3_sits_29 : decode cX3_sits 29 = .ok (.iload_n 3, 1) := by decide +kernel
theorem dX3_sits_30 : decode cX3_sits 30 = .ok (.iadd, 1) := by decide +kernel
theorem dX3_sits_31 : decode cX3_sits 31 = .ok (.iconst 1, 1) := by decide +kernel
theorem dX3_sits_32 : decode cX3_sits 32 = .ok (.isub, 1) := by decide +kernel
theorem dX3_sits_33 : decode cX3_sits 33 = .ok (.iaload, 1) := by decide +kernel
theorem dX3_sits_34 : decode cX3_sits 34 = .ok (.iastore, 1) := by decide +kernel
theorem dX3_sits_35 : decode cX3_sits 35 = .ok (.iinc 3 (-1), 3) := by decide +kernel
theorem dX3_sits_38 : decode cX3_sits 38 = .ok (.goto (-31), 3) := by decide +kernel
theorem dX3_sits_41 : decode cX3_sits 41 = .ok (.aload_n 0, 1) := by decide +kernel
theorem dX3_sits_42 : decode cX3_sits 42 = .ok (.getfield 25, 3) := by decide +kernel
theorem dX3_sits_45 : decode cX3_sits 45 = .ok (.bipush 8, 2) := by decide +kernel
theorem dX3_sits_47 : decode cX3_sits 47 = .ok (.iload_n 1, 1) := by decide +kernel
theorem dX3_sits_48 : decode cX3_sits 48 = .ok (.imul, 1) := by decide +kernel
theorem dX3_sits_49 : decode cX3_sits 49 = .ok (.iload_n 2, 1) := by decide +kernel
theorem dX3_sits_50 : decode cX3_sits 50 = .ok (.iastore, 1) := by decide +kernel
theorem dX3_sits_51 : decode cX3_sits 51 = .ok (.aload_n 0, 1) := by decide +kernel
theorem dX3_sits_52 : decode cX3_sits 52 = .ok (.getfield 28, 3) := by decide +kernel
theorem dX3_sits_55 : decode cX3_sits 55 = .ok (.iload_n 1, 1) := by decide +kernel
theorem dX3_sits_56 : decode cX3_sits 56 = .ok (.dup2, 1) := by decide +kernel
theorem dX3_sits_57 : decode cX3_sits 57 = .ok (.iaload, 1) := by decide +kernel
theorem dX3_sits_58 : decode cX3_sits 58 = .ok (.iconst 1, 1) := by decide +kernel
theorem dX3_sits_59 : decode cX3_sits 59 = .ok (.iadd, 1) := by decide +kernel
theorem dX3_sits_60 : decode cX3_sits 60 = .ok (.iastore, 1) := by decide +kernel
theorem dX3_sits_61 : decode cX3_sits 61 = .ok (.return_, 1) := by decide +kernel
set_option maxRecDepth 20000 in
theorem ggX3_throwsOut_X3_goesHome : GoodIn wsX3_throwsOut wsX3_goesHome := goodIn_r _ [9, 10, 11, 12, 13, 8, 14, 15, 16, 17, 18, 23, 24, 25, 26, 27, 28, 29, 30, 31, 32, 33, 34, 35, 36, 37, 38] (by decide +kernel) (by decide +kernel)
set_option maxRecDepth 20000 in
theorem gX3_throwsOut_X3_goesHome : GoodIn wsX3_throwsOut (wsV RX3 55 RX3 yX3_goesHome wsX3_goesHome) := goodIn_app (goodIn_of _ (by decide +kernel)) ggX3_throwsOut_X3_goesHome
set_option maxRecDepth 20000 in
theorem ggX3_throwsOut_X3_sits : GoodIn wsX3_throwsOut wsX3_sits := goodIn_r _ [22, 3, 4, 23, 24, 25, 26, 27, 28, 29, 30, 31, 32, 33, 34, 35, 36, 37, 38] (by decide +kernel) (by decide +kernel)
set_option maxRecDepth 20000 in
theorem gX3_throwsOut_X3_sits : GoodIn wsX3_throwsOut (wsV RX3 58 RX3 yX3_sits wsX3_sits) := goodIn_app (goodIn_of _ (by decide +kernel)) ggX3_throwsOut_X3_sits
theorem dX3_throwsOut_0 : decode cX3_throwsOut 0 = .ok (.aload_n 0, 1) := by decide +kernel
theorem dX3_throwsOut_1 : decode cX3_throwsOut 1 = .ok (.getfield 22, 3) := by decide +kernel
theorem dX3_throwsOut_4 : decode cX3_throwsOut 4 = .ok (.bipush 16, 2) := by decide +kernel
theorem dX3_throwsOut_6 : decode cX3_throwsOut 6 = .ok (.iload_n 1, 1) := by decide +kernel
theorem dX3_throwsOut_7 : decode cX3_throwsOut 7 = .ok (.imul, 1) := by decide +kernel
theorem dX3_throwsOut_8 : decode cX3_throwsOut 8 = .ok (.iload_n 2, 1) := by decide +kernel
theorem dX3_throwsOut_9 : decode cX3_throwsOut 9 = .ok (.iadd, 1) := by decide +kernel
theorem dX3_throwsOut_10 : decode cX3_throwsOut 10 = .ok (.iaload, 1) := by decide +kernel
theorem dX3_throwsOut_11 : decode cX3_throwsOut 11 = .ok (.istore_n 3, 1) := by decide +kernel
theorem dX3_throwsOut_12 : decode cX3_throwsOut 12 = .ok (.aload_n 0, 1) := by decide +kernel
theorem dX3_throwsOut_13 : decode cX3_throwsOut 13 = .ok (.getfield 22, 3) := by decide +kernel
theorem dX3_throwsOut_16 : decode cX3_throwsOut 16 = .ok (.bipush 16, 2) := by decide +kernel
theorem dX3_throwsOut_18 : decode cX3_throwsOut 18 = .ok (.iload_n 1, 1) := by decide +kernel
theorem dX3_throwsOut_19 : decode cX3_throwsOut 19 = .ok (.imul, 1) := by decide +kernel
theorem dX3_throwsOut_20 : decode cX3_throwsOut 20 = .ok (.iload_n 2, 1) := by decide +kernel
theorem dX3_throwsOut_21 : decode cX3_throwsOut 21 = .ok (.iadd, 1) := by decide +kernel
theorem dX3_throwsOut_22 : decode cX3_throwsOut 22 = .ok (.iconst (-1), 1) := by decide +kernel
theorem dX3_throwsOut_23 : decode cX3_throwsOut 23 = .ok (.iastore, 1) := by decide +kernel
theorem dX3_throwsOut_24 : decode cX3_throwsOut 24 = .ok (.aload_n 0, 1) := by decide +kernel
theorem dX3_throwsOut_25 : decode cX3_throwsOut 25 = .ok (.getfield 19, 3) := by decide +kernel
theorem dX3_throwsOut_28 : decode cX3_throwsOut 28 = .ok (.iload_n 1, 1) := by decide +kernel
theorem dX3_throwsOut_29 : decode cX3_throwsOut 29 = .ok (.iaload, 1) := by decide +kernel
theorem dX3_throwsOut_30 : decode cX3_throwsOut 30 = .ok (.ifCond .ne 10, 3) := by decide +kernel
theorem dX3_throwsOut_33 : decode cX3_throwsOut 33 = .ok (.aload_n 0, 1) := by decide +kernel
theorem dX3_throwsOut_34 : decode cX3_throwsOut 34 = .ok (.iload_n 1, 1) := by decide +kernel
theorem dX3_throwsOut_35 : decode cX3_throwsOut 35 = .ok (.iload_n 3, 1) := by decide +kernel
theorem dX3_throwsOut_36 : decode cX3_throwsOut 36 = .ok (.invokevirtual 55, 3) := by decide +kernel
theorem dX3_throwsOut_39 : decode cX3_throwsOut 39 = .ok (.return_, 1) := by decide +kernel
theorem dX3_throwsOut_40 : decode cX3_throwsOut 40 = .ok (.aload_n 0, 1) := by decide +kernel
theorem dX3_throwsOut_41 : decode cX3_throwsOut 41 = .ok (.getfield 28, 3) := by decide +kernel
theorem dX3_throwsOut_44 : decode cX3_throwsOut 44 = .ok (.iload_n 1, 1) := by decide +kernel
theorem dX3_throwsOut_45 : decode cX3_throwsOut 45 = .ok (.iaload, 1) := by decide +kernel
theorem dX3_throwsOut_46 : decode cX3_throwsOut 46 = .ok (.aload_n 0, 1) := by decide +kernel
theorem dX3_throwsOut_47 : decode cX3_throwsOut 47 = .ok (.getfield 19, 3) := by decide +kernel
theorem dX3_throwsOut_50 : decode cX3_throwsOut 50 = .ok (.iload_n 1, 1) := by decide +kernel
theorem dX3_throwsOut_51 : decode cX3_throwsOut 51 = .ok (.iaload, 1) := by decide +kernel
theorem dX3_throwsOut_52 : decode cX3_throwsOut 52 = .ok (.if_icmp .ne 40, 3) := by decide +kernel
theorem dX3_throwsOut_55 : decode cX3_throwsOut 55 = .ok (.aload_n 0, 1) := by decide +kernel
theorem dX3_throwsOut_56 : decode cX3_throwsOut 56 = .ok (.getfield 25, 3) := by decide +kernel
theorem dX3_throwsOut_59 : decode cX3_throwsOut 59 = .ok (.bipush 8, 2) := by decide +kernel
theorem dX3_throwsOut_61 : decode cX3_throwsOut 61 = .ok (.iload_n 1, 1) := by decide +kernel
theorem dX3_throwsOut_62 : decode cX3_throwsOut 62 = .ok (.imul, 1) := by decide +kernel
theorem dX3_throwsOut_63 : decode cX3_throwsOut 63 = .ok (.aload_n 0, 1) := by decide +kernel
theorem dX3_throwsOut_64 : decode cX3_throwsOut 64 = .ok (.getfield 28, 3) := by decide +kernel
theorem dX3_throwsOut_67 : decode cX3_throwsOut 67 = .ok (.iload_n 1, 1) := by decide +kernel
theorem dX3_throwsOut_68 : decode cX3_throwsOut 68 = .ok (.iaload, 1) := by decide +kernel
theorem dX3_throwsOut_69 : decode cX3_throwsOut 69 = .ok (.iadd, 1) := by decide +kernel
theorem dX3_throwsOut_70 : decode cX3_throwsOut 70 = .ok (.iconst 1, 1) := by decide +kernel
theorem dX3_throwsOut_71 : decode cX3_throwsOut 71 = .ok (.isub, 1) := by decide +kernel
theorem dX3_throwsOut_72 : decode cX3_throwsOut 72 = .ok (.iaload, 1) := by decide +kernel
theorem dX3_throwsOut_73 : decode cX3_throwsOut 73 = .ok (.istore 4, 2) := by decide +kernel
theorem dX3_throwsOut_75 : decode cX3_throwsOut 75 = .ok (.aload_n 0, 1) := by decide +kernel
theorem dX3_throwsOut_76 : decode cX3_throwsOut 76 = .ok (.getfield 28, 3) := by decide +kernel
theorem dX3_throwsOut_79 : decode cX3_throwsOut 79 = .ok (.iload_n 1, 1) := by decide +kernel
theorem dX3_throwsOut_80 : decode cX3_throwsOut 80 = .ok (.dup2, 1) := by decide +kernel
theorem dX3_throwsOut_81 : decode cX3_throwsOut 81 = .ok (.iaload, 1) := by decide +kernel
theorem dX3_throwsOut_82 : decode cX3_throwsOut 82 = .ok (.iconst 1, 1) := by decide +kernel
theorem dX3_throwsOut_83 : decode cX3_throwsOut 83 = .ok (.isub, 1) := by decide +kernel
theorem dX3_throwsOut_84 : decode cX3_throwsOut 84 = .ok (.iastore, 1) := by decide +kernel
theorem dX3_throwsOut_85 : decode cX3_throwsOut 85 = .ok (.aload_n 0, 1) := by decide +kernel
theorem dX3_throwsOut_86 : decode cX3_throwsOut 86 = .ok (.iload_n 1, 1) := by decide +kernel
theorem dX3_throwsOut_87 : decode cX3_throwsOut 87 = .ok (.iload 4, 2) := by decide +kernel
theorem dX3_throwsOut_89 : decode cX3_throwsOut 89 = .ok (.invokevirtual 55, 3) := by decide +kernel
theorem dX3_throwsOut_92 : decode cX3_throwsOut 92 = .ok (.aload_n 0, 1) := by decide +kernel
theorem dX3_throwsOut_93 : decode cX3_throwsOut 93 = .ok (.iload_n 1, 1) := by decide +kernel
theorem dX3_throwsOut_94 : decode cX3_throwsOut 94 = .ok (.iload_n 3, 1) := by decide +kernel
theorem dX3_throwsOut_95 : decode cX3_throwsOut 95 = .ok (.invokevirtual 58, 3) := by decide +kernel
theorem dX3_throwsOut_98 : decode cX3_throwsOut 98 = .ok (.return_, 1) := by decide +kernel
set_option maxRecDepth 20000 in
theorem ggX3_access_X3_seat : GoodIn wsX3_access wsX3_seat := goodIn_r _ [8, 9, 10, 36, 37, 38, 39, 40, 41, 42, 43, 44, 45, 46, 47, 48, 49, 50, 51] (by decide +kernel) (by decide +kernel)
set_option maxRecDepth 20000 in
theorem gX3_access_X3_seat : GoodIn wsX3_access (wsV RX3 61 RX3 yX3_seat wsX3_seat) := goodIn_app (goodIn_of _ (by decide +kernel)) ggX3_access_X3_seat
set_option maxRecDepth 20000 in
theorem ggX3_access_X3_leavesBench : GoodIn wsX3_access wsX3_leavesBench := goodIn_r _ [14, 9, 10, 36, 37, 38, 39, 40, 41, 42, 43, 44, 45, 46, 47, 48, 49, 50, 51] (by decide +kernel) (by decide +kernel)
set_option maxRecDepth 20000 in
theorem gX3_access_X3_leavesBench : GoodIn wsX3_access (wsV RX3 65 RX3 yX3_leavesBench wsX3_leavesBench) := goodIn_app (goodIn_of _ (by decide +kernel)) ggX3_access_X3_leavesBench
set_option maxRecDepth 20000 in
theorem ggX3_access_X3_sits : GoodIn wsX3_access wsX3_sits := goodIn_r _ [18, 9, 10, 36, 37, 38, 39, 40, 41, 42, 43, 44, 45, 46, 47, 48, 49, 50, 51] (by decide +kernel) (by decide +kernel)
set_option maxRecDepth 20000 in
theorem gX3_access_X3_sits : GoodIn wsX3_access (wsV RX3 58 RX3 yX3_sits wsX3_sits) := goodIn_app (goodIn_of _ (by decide +kernel)) ggX3_access_X3_sits
set_option maxRecDepth 20000 in
theorem ggX3_access_X3_throwsOut : GoodIn wsX3_access wsX3_throwsOut := goodIn_r _ [22, 2, 23, 9, 10, 24, 25, 26, 7, 27, 28, 29, 30, 31, 32, 3, 33, 34, 35, 15, 16, 17, 18, 36, 37, 38, 39, 40, 41, 42, 43, 44, 45, 46, 47, 48, 49, 50, 51] (by decide +kernel) (by decide +kernel)
set_option maxRecDepth 20000 in
theorem gX3_access_X3_throwsOut : GoodIn wsX3_access (wsV RX3 68 RX3 yX3_throwsOut wsX3_throwsOut) := goodIn_app (goodIn_of _ (by decide +kernel)) ggX3_access_X3_throwsOut
theorem dX3_access_0 : decode cX3_access 0 = .ok (.iload_n 2, 1) := by decide +kernel
theorem dX3_access_1 : decode cX3_access 1 = .ok (.aload_n 0, 1) := by decide +kernel
theorem dX3_access_2 : decode cX3_access 2 = .ok (.getfield 16, 3) := by decide +kernel
theorem dX3_access_5 : decode cX3_access 5 = .ok (.iload_n 1, 1) := by decide +kernel
theorem dX3_access_6 : decode cX3_access 6 = .ok (.iaload, 1) := by decide +kernel
theorem dX3_access_7 : decode cX3_access 7 = .ok (.irem, 1) := by decide +kernel
theorem dX3_access_8 : decode cX3_access 8 = .ok (.istore_n 3, 1) := by decide +kernel
theorem dX3_access_9 : decode cX3_access 9 = .ok (.aload_n 0, 1) := by decide +kernel
theorem dX3_access_10 : decode cX3_access 10 = .ok (.getfield 22, 3) := by decide +kernel
theorem dX3_access_13 : decode cX3_access 13 = .ok (.bipush 16, 2) := by decide +kernel
theorem dX3_access_15 : decode cX3_access 15 = .ok (.iload_n 1, 1) := by decide +kernel
theorem dX3_access_16 : decode cX3_access 16 = .ok (.imul, 1) := by decide +kernel
theorem dX3_access_17 : decode cX3_access 17 = .ok (.iload_n 3, 1) := by decide +kernel
theorem dX3_access_18 : decode cX3_access 18 = .ok (.iadd, 1) := by decide +kernel
theorem dX3_access_19 : decode cX3_access 19 = .ok (.iaload, 1) := by decide +kernel
theorem dX3_access_20 : decode cX3_access 20 = .ok (.istore 4, 2) := by decide +kernel
theorem dX3_access_22 : decode cX3_access 22 = .ok (.aload_n 0, 1) := by decide +kernel
theorem dX3_access_23 : decode cX3_access 23 = .ok (.iload_n 1, 1) := by decide +kernel
theorem dX3_access_24 : decode cX3_access 24 = .ok (.iload_n 2, 1) := by decide +kernel
theorem dX3_access_25 : decode cX3_access 25 = .ok (.invokevirtual 61, 3) := by decide +kernel
theorem dX3_access_28 : decode cX3_access 28 = .ok (.istore 5, 2) := by decide +kernel
theorem dX3_access_30 : decode cX3_access 30 = .ok (.iload 4, 2) := by decide +kernel
theorem dX3_access_32 : decode cX3_access 32 = .ok (.iload_n 2, 1) := by decide +kernel
theorem dX3_access_33 : decode cX3_access 33 = .ok (.if_icmp .ne 15, 3) := by decide +kernel
theorem dX3_access_36 : decode cX3_access 36 = .ok (.aload_n 0, 1) := by decide +kernel
theorem dX3_access_37 : decode cX3_access 37 = .ok (.getfield 34, 3) := by decide +kernel
theorem dX3_access_40 : decode cX3_access 40 = .ok (.iload_n 1, 1) := by decide +kernel
theorem dX3_access_41 : decode cX3_access 41 = .ok (.dup2, 1) := by decide +kernel
theorem dX3_access_42 : decode cX3_access 42 = .ok (.iaload, 1) := by decide +kernel
theorem dX3_access_43 : decode cX3_access 43 = .ok (.iconst 1, 1) := by decide +kernel
theorem dX3_access_44 : decode cX3_access 44 = .ok (.iadd, 1) := by decide +kernel
theorem dX3_access_45 : decode cX3_access 45 = .ok (.iastore, 1) := by decide +kernel
theorem dX3_access_46 : decode cX3_access 46 = .ok (.iconst 0, 1) := by decide +kernel
theorem dX3_access_47 : decode cX3_access 47 = .ok (.ireturn, 1) := by decide +kernel
theorem dX3_access_48 : decode cX3_access 48 = .ok (.iload 5, 2) := by decide +kernel
theorem dX3_access_50 : decode cX3_access 50 = .ok (.ifCond .lt 35, 3) := by decide +kernel
theorem dX3_access_53 : decode cX3_access 53 = .ok (.aload_n 0, 1) := by decide +kernel
theorem dX3_access_54 : decode cX3_access 54 = .ok (.getfield 34, 3) := by decide +kernel
theorem dX3_access_57 : decode cX3_access 57 = .ok (.iload_n 1, 1) := by decide +kernel
theorem dX3_access_58 : decode cX3_access 58 = .ok (.dup2, 1) := by decide +kernel
theorem dX3_access_59 : decode cX3_access 59 = .ok (.iaload, 1) := by decide +kernel
theorem dX3_access_60 : decode cX3_access 60 = .ok (.iconst 3, 1) := by decide +kernel
theorem dX3_access_61 : decode cX3_access 61 = .ok (.iadd, 1) := by decide +kernel
theorem dX3_access_62 : decode cX3_access 62 = .ok (.iastore, 1) := by decide +kernel
theorem dX3_access_63 : decode cX3_access 63 = .ok (.aload_n 0, 1) := by decide +kernel
theorem dX3_access_64 : decode cX3_access 64 = .ok (.iload_n 1, 1) := by decide +kernel
theorem dX3_access_65 : decode cX3_access 65 = .ok (.iload 5, 2) := by decide +kernel
theorem dX3_access_67 : decode cX3_access 67 = .ok (.invokevirtual 65, 3) := by decide +kernel
theorem dX3_access_70 : decode cX3_access 70 = .ok (.iload 4, 2) := by decide +kernel
theorem dX3_access_72 : decode cX3_access 72 = .ok (.ifCond .lt 35, 3) := by decide +kernel
theorem dX3_access_75 : decode cX3_access 75 = .ok (.aload_n 0, 1) := by decide +kernel
theorem dX3_access_76 : decode cX3_access 76 = .ok (.iload_n 1, 1) := by decide +kernel
theorem dX3_access_77 : decode cX3_access 77 = .ok (.iload 4, 2) := by decide +kernel
theorem dX3_access_79 : decode cX3_access 79 = .ok (.invokevirtual 58, 3) := by decide +kernel
theorem dX3_access_82 : decode cX3_access 82 = .ok (.goto 25, 3) := by decide +kernel
theorem dX3_access_85 : decode cX3_access 85 = .ok (.aload_n 0, 1) := by decide +kernel
theorem dX3_access_86 : decode cX3_access 86 = .ok (.getfield 34, 3) := by decide +kernel
theorem dX3_access_89 : decode cX3_access 89 = .ok (.iload_n 1, 1) := by decide +kernel
theorem dX3_access_90 : decode cX3_access 90 = .ok (.dup2, 1) := by decide +kernel
theorem dX3_access_91 : decode cX3_access 91 = .ok (.iaload, 1) := by decide +kernel
theorem dX3_access_92 : decode cX3_access 92 = .ok (.bipush 20, 2) := by decide +kernel
theorem dX3_access_94 : decode cX3_access 94 = .ok (.iadd, 1) := by decide +kernel
theorem dX3_access_95 : decode cX3_access 95 = .ok (.iastore, 1) := by decide +kernel
theorem dX3_access_96 : decode cX3_access 96 = .ok (.iload 4, 2) := by decide +kernel
theorem dX3_access_98 : decode cX3_access 98 = .ok (.ifCond .lt 9, 3) := by decide +kernel
theorem dX3_access_101 : decode cX3_access 101 = .ok (.aload_n 0, 1) := by decide +kernel
theorem dX3_access_102 : decode cX3_access 102 = .ok (.iload_n 1, 1) := by decide +kernel
theorem dX3_access_103 : decode cX3_access 103 = .ok (.iload_n 3, 1) := by decide +kernel
theorem dX3_access_104 : decode cX3_access 104 = .ok (.invokevirtual 68, 3) := by decide +kernel
theorem dX3_access_107 : decode cX3_access 107 = .ok (.aload_n 0, 1) := by decide +kernel
theorem dX3_access_108 : decode cX3_access 108 = .ok (.getfield 22, 3) := by decide +kernel
theorem dX3_access_111 : decode cX3_access 111 = .ok (.bipush 16, 2) := by decide +kernel
theorem dX3_access_113 : decode cX3_access 113 = .ok (.iload_n 1, 1) := by decide +kernel
theorem dX3_access_114 : decode cX3_access 114 = .ok (.imul, 1) := by decide +kernel
theorem dX3_access_115 : decode cX3_access 115 = .ok (.iload_n 3, 1) := by decide +kernel
theorem dX3_access_116 : decode cX3_access 116 = .ok (.iadd, 1) := by decide +kernel
theorem dX3_access_117 : decode cX3_access 117 = .ok (.iload_n 2, 1) := by decide +kernel
theorem dX3_access_118 : decode cX3_access 118 = .ok (.iastore, 1) := by decide +kernel
theorem dX3_access_119 : decode cX3_access 119 = .ok (.iload 5, 2) := by decide +kernel
theorem dX3_access_121 : decode cX3_access 121 = .ok (.ifCond .lt 7, 3) := by decide +kernel
theorem dX3_access_124 : decode cX3_access 124 = .ok (.iconst 1, 1) := by decide +kernel
theorem dX3_access_125 : decode cX3_access 125 = .ok (.goto 4, 3) := by decide +kernel
theorem dX3_access_128 : decode cX3_access 128 = .ok (.iconst 2, 1) := by decide +kernel
theorem dX3_access_129 : decode cX3_access 129 = .ok (.ireturn, 1) := by decide +kernel
set_option maxRecDepth 20000 in
theorem ggX3_asks_X3_access : GoodIn wsX3_asks wsX3_access := goodIn_r _ [11, 12, 13, 14, 15, 16, 17, 10, 18, 19, 20, 21, 22, 23, 24, 25, 26, 27, 28, 29, 30, 31, 32, 33, 34, 35, 36, 37, 4, 38, 39, 40, 41, 42, 43, 44, 45, 46, 47, 48, 49, 50, 51, 52, 53, 54, 55, 56, 57, 58, 59, 60] (by decide +kernel) (by decide +kernel)
set_option maxRecDepth 20000 in
theorem gX3_asks_X3_access : GoodIn wsX3_asks (wsV RX3 71 RX3 yX3_access wsX3_access) := goodIn_app (goodIn_of _ (by decide +kernel)) ggX3_asks_X3_access
theorem dX3_asks_0 : decode cX3_asks 0 = .ok (.aload_n 0, 1) := by decide +kernel
theorem dX3_asks_1 : decode cX3_asks 1 = .ok (.iconst 0, 1) := by decide +kernel
theorem dX3_asks_2 : decode cX3_asks 2 = .ok (.iload_n 1, 1) := by decide +kernel
theorem dX3_asks_3 : decode cX3_asks 3 = .ok (.invokevirtual 71, 3) := by decide +kernel
theorem dX3_asks_6 : decode cX3_asks 6 = .ok (.istore_n 3, 1) := by decide +kernel
theorem dX3_asks_7 : decode cX3_asks 7 = .ok (.aload_n 0, 1) := by decide +kernel
theorem dX3_asks_8 : decode cX3_asks 8 = .ok (.dup, 1) := by decide +kernel
theorem dX3_asks_9 : decode cX3_asks 9 = .ok (.getfield 74, 3) := by decide +kernel
theorem dX3_asks_12 : decode cX3_asks 12 = .ok (.iload_n 3, 1) := by decide +kernel
theorem dX3_asks_13 : decode cX3_asks 13 = .ok (.ifCond .ne 7, 3) := by decide +kernel
theorem dX3_asks_16 : decode cX3_asks 16 = .ok (.iconst 1, 1) := by decide +kernel
theorem dX3_asks_17 : decode cX3_asks 17 = .ok (.goto 4, 3) := by decide +kernel
theorem dX3_asks_20 : decode cX3_asks 20 = .ok (.iconst 0, 1) := by decide +kernel
theorem dX3_asks_21 : decode cX3_asks 21 = .ok (.iadd, 1) := by decide +kernel
theorem dX3_asks_22 : decode cX3_asks 22 = .ok (.putfield 74, 3) := by decide +kernel
theorem dX3_asks_25 : decode cX3_asks 25 = .ok (.aload_n 0, 1) := by decide +kernel
theorem dX3_asks_26 : decode cX3_asks 26 = .ok (.dup, 1) := by decide +kernel
theorem dX3_asks_27 : decode cX3_asks 27 = .ok (.getfield 77, 3) := by decide +kernel
theorem dX3_asks_30 : decode cX3_asks 30 = .ok (.iload_n 3, 1) := by decide +kernel
theorem dX3_asks_31 : decode cX3_asks 31 = .ok (.iconst 1, 1) := by decide +kernel
theorem dX3_asks_32 : decode cX3_asks 32 = .ok (.if_icmp .ne 7, 3) := by decide +kernel
theorem dX3_asks_35 : decode cX3_asks 35 = .ok (.iconst 1, 1) := by decide +kernel
theorem dX3_asks_36 : decode cX3_asks 36 = .ok (.goto 4, 3) := by decide +kernel
theorem dX3_asks_39 : decode cX3_asks 39 = .ok (.iconst 0, 1) := by decide +kernel
theorem dX3_asks_40 : decode cX3_asks 40 = .ok (.iadd, 1) := by decide +kernel
theorem dX3_asks_41 : decode cX3_asks 41 = .ok (.putfield 77, 3) := by decide +kernel
theorem dX3_asks_44 : decode cX3_asks 44 = .ok (.aload_n 0, 1) := by decide +kernel
theorem dX3_asks_45 : decode cX3_asks 45 = .ok (.dup, 1) := by decide +kernel
theorem dX3_asks_46 : decode cX3_asks 46 = .ok (.getfield 80, 3) := by decide +kernel
theorem dX3_asks_49 : decode cX3_asks 49 = .ok (.iload_n 3, 1) := by decide +kernel
theorem dX3_asks_50 : decode cX3_asks 50 = .ok (.iconst 2, 1) := by decide +kernel
theorem dX3_asks_51 : decode cX3_asks 51 = .ok (.if_icmp .ne 7, 3) := by decide +kernel
theorem dX3_asks_54 : decode cX3_asks 54 = .ok (.iconst 1, 1) := by decide +kernel
theorem dX3_asks_55 : decode cX3_asks 55 = .ok (.goto 4, 3) := by decide +kernel
theorem dX3_asks_58 : decode cX3_asks 58 = .ok (.iconst 0, 1) := by decide +kernel
theorem dX3_asks_59 : decode cX3_asks 59 = .ok (.iadd, 1) := by decide +kernel
theorem dX3_asks_60 : decode cX3_asks 60 = .ok (.putfield 80, 3) := by decide +kernel
theorem dX3_asks_63 : decode cX3_asks 63 = .ok (.aload_n 0, 1) := by decide +kernel
theorem dX3_asks_64 : decode cX3_asks 64 = .ok (.getfield 31, 3) := by decide +kernel
theorem dX3_asks_67 : decode cX3_asks 67 = .ok (.iload_n 1, 1) := by decide +kernel
theorem dX3_asks_68 : decode cX3_asks 68 = .ok (.iload_n 2, 1) := by decide +kernel
theorem dX3_asks_69 : decode cX3_asks 69 = .ok (.ifCond .eq 7, 3) := by decide +kernel
theorem dX3_asks_72 : decode cX3_asks 72 = .ok (.iconst 1, 1) := by decide +kernel
theorem dX3_asks_73 : decode cX3_asks 73 = .ok (.goto 9, 3) := by decide +kernel
theorem dX3_asks_76 : decode cX3_asks 76 = .ok (.aload_n 0, 1) := by decide +kernel
theorem dX3_asks_77 : decode cX3_asks 77 = .ok (.getfield 31, 3) := by decide +kernel
theorem dX3_asks_80 : decode cX3_asks 80 = .ok (.iload_n 1, 1) := by decide +kernel
theorem dX3_asks_81 : decode cX3_asks 81 = .ok (.iaload, 1) := by decide +kernel
theorem dX3_asks_82 : decode cX3_asks 82 = .ok (.iastore, 1) := by decide +kernel
theorem dX3_asks_83 : decode cX3_asks 83 = .ok (.aload_n 0, 1) := by decide +kernel
theorem dX3_asks_84 : decode cX3_asks 84 = .ok (.getfield 83, 3) := by decide +kernel
theorem dX3_asks_87 : decode cX3_asks 87 = .ok (.sipush 150, 3) := by decide +kernel
theorem dX3_asks_90 : decode cX3_asks 90 = .ok (.if_icmp .ne 46, 3) := by decide +kernel
theorem dX3_asks_93 : decode cX3_asks 93 = .ok (.iconst 1, 1) := by decide +kernel
theorem dX3_asks_94 : decode cX3_asks 94 = .ok (.istore 4, 2) := by decide +kernel
theorem dX3_asks_96 : decode cX3_asks 96 = .ok (.iload 4, 2) := by decide +kernel
theorem dX3_asks_98 : decode cX3_asks 98 = .ok (.sipush 150, 3) := by decide +kernel
theorem dX3_asks_101 : decode cX3_asks 101 = .ok (.if_icmp .ge 25, 3) := by decide +kernel
theorem dX3_asks_104 : decode cX3_asks 104 = .ok (.aload_n 0, 1) := by decide +kernel
theorem dX3_asks_105 : decode cX3_asks 105 = .ok (.getfield 37, 3) := by decide +kernel
theorem dX3_asks_108 : decode cX3_asks 108 = .ok (.iload 4, 2) := by decide +kernel
theorem dX3_asks_110 : decode cX3_asks 110 = .ok (.iconst 1, 1) := by decide +kernel
theorem dX3_asks_111 : decode cX3_asks 111 = .ok (.isub, 1) := by decide +kernel
theorem dX3_asks_112 : decode cX3_asks 112 = .ok (.aload_n 0, 1) := by decide +kernel
theorem dX3_asks_113 : decode cX3_asks 113 = .ok (.getfield 37, 3) := by decide +kernel
theorem dX3_asks_116 : decode cX3_asks 116 = .ok (.iload 4, 2) := by decide +kernel
theorem dX3_asks_118 : decode cX3_asks 118 = .ok (.iaload, 1) := by decide +kernel
theorem dX3_asks_119 : decode cX3_asks 119 = .ok (.iastore, 1) := by decide +kernel
theorem dX3_asks_120 : decode cX3_asks 120 = .ok (.iinc 4 1, 3) := by decide +kernel
theorem dX3_asks_123 : decode cX3_asks 123 = .ok (.goto (-27), 3) := by decide +kernel
theorem dX3_asks_126 : decode cX3_asks 126 = .ok (.aload_n 0, 1) := by decide +kernel
theorem dX3_asks_127 : decode cX3_asks 127 = .ok (.dup, 1) := by decide +kernel
theorem dX3_asks_128 : decode cX3_asks 128 = .ok (.getfield 83, 3) := by decide +kernel
theorem dX3_asks_131 : decode cX3_asks 131 = .ok (.iconst 1, 1) := by decide +kernel
theorem dX3_asks_132 : decode cX3_asks 132 = .ok (.isub, 1) := by decide +kernel
theorem dX3_asks_133 : decode cX3_asks 133 = .ok (.putfield 83, 3) := by decide +kernel
theorem dX3_asks_136 : decode cX3_asks 136 = .ok (.aload_n 0, 1) := by decide +kernel
theorem dX3_asks_137 : decode cX3_asks 137 = .ok (.getfield 37, 3) := by decide +kernel
theorem dX3_asks_140 : decode cX3_asks 140 = .ok (.aload_n 0, 1) := by decide +kernel
theorem dX3_asks_141 : decode cX3_asks 141 = .ok (.getfield 83, 3) := by decide +kernel
theorem dX3_asks_144 : decode cX3_asks 144 = .ok (.iconst 2, 1) := by decide +kernel
theorem dX3_asks_145 : decode cX3_asks 145 = .ok (.iload_n 1, 1) := by decide +kernel
theorem dX3_asks_146 : decode cX3_asks 146 = .ok (.imul, 1) := by decide +kernel
theorem dX3_asks_147 : decode cX3_asks 147 = .ok (.iload_n 2, 1) := by decide +kernel
theorem dX3_asks_148 : decode cX3_asks 148 = .ok (.ifCond .eq 7, 3) := by decide +kernel
theorem dX3_asks_151 : decode cX3_asks 151 = .ok (.iconst 1, 1) := by decide +kernel
theorem dX3_asks_152 : decode cX3_asks 152 = .ok (.goto 4, 3) := by decide +kernel
theorem dX3_asks_155 : decode cX3_asks 155 = .ok (.iconst 0, 1) := by decide +kernel
theorem dX3_asks_156 : decode cX3_asks 156 = .ok (.iadd, 1) := by decide +kernel
theorem dX3_asks_157 : decode cX3_asks 157 = .ok (.iastore, 1) := by decide +kernel
theorem dX3_asks_158 : decode cX3_asks 158 = .ok (.aload_n 0, 1) := by decide +kernel
theorem dX3_asks_159 : decode cX3_asks 159 = .ok (.dup, 1) := by decide +kernel
theorem dX3_asks_160 : decode cX3_asks 160 = .ok (.getfield 83, 3) := by decide +kernel
theorem dX3_asks_163 : decode cX3_asks 163 = .ok (.iconst 1, 1) := by decide +kernel
theorem dX3_asks_164 : decode cX3_asks 164 = .ok (.iadd, 1) := by decide +kernel
theorem dX3_asks_165 : decode cX3_asks 165 = .ok (.putfield 83, 3) := by decide +kernel
theorem dX3_asks_168 : decode cX3_asks 168 = .ok (.return_, 1) := by decide +kernel
set_option maxRecDepth 20000 in
theorem ggX3_read_X3_isWord : GoodIn wsX3_read wsX3_isWord := goodIn_r _ [6] (by decide +kernel) (by decide +kernel)
set_option maxRecDepth 20000 in
theorem gX3_read_X3_isWord : GoodIn wsX3_read (va_wsS RX3 86 yX3_isWord wsX3_isWord) := goodIn_app (goodIn_of _ (by decide +kernel)) ggX3_read_X3_isWord
set_option maxRecDepth 20000 in
theorem ggX3_read_X3_asks : GoodIn wsX3_read wsX3_asks := goodIn_r _ [10, 11, 12, 13, 14, 15, 16, 17, 18, 19, 5, 20, 21, 22, 23, 24, 25, 26, 27, 28, 29, 30, 31, 32, 33, 34, 35, 36, 37, 38, 39, 40, 41, 42, 43, 44, 45, 46, 47, 48, 49, 50, 51, 2, 52, 53, 54, 55, 56, 57, 58, 59, 60, 61, 62, 63, 64, 65, 66, 67, 68] (by decide +kernel) (by decide +kernel)
set_option maxRecDepth 20000 in
theorem gX3_read_X3_asks : GoodIn wsX3_read (wsV RX3 90 RX3 yX3_asks wsX3_asks) := goodIn_app (goodIn_of _ (by decide +kernel)) ggX3_read_X3_asks
theorem dX3_read_0 : decode cX3_read 0 = .ok (.aload_n 0, 1) := by decide +kernel
theorem dX3_read_1 : decode cX3_read 1 = .ok (.iload_n 1, 1) := by decide +kernel
theorem dX3_read_2 : decode cX3_read 2 = .ok (.invokestatic 86, 3) := by decide +kernel
theorem dX3_read_5 : decode cX3_read 5 = .ok (.ifCond .eq 7, 3) := by decide +kernel
theorem dX3_read_8 : decode cX3_read 8 = .ok (.iconst 0, 1) := by decide +kernel
theorem dX3_read_9 : decode cX3_read 9 = .ok (.goto 4, 3) := by decide +kernel
theorem dX3_read_12 : decode cX3_read 12 = .ok (.iconst 1, 1) := by decide +kernel
theorem dX3_read_13 : decode cX3_read 13 = .ok (.putfield 44, 3) := by decide +kernel
theorem dX3_read_16 : decode cX3_read 16 = .ok (.aload_n 0, 1) := by decide +kernel
theorem dX3_read_17 : decode cX3_read 17 = .ok (.getfield 44, 3) := by decide +kernel
theorem dX3_read_20 : decode cX3_read 20 = .ok (.ifCond .eq 5, 3) := by decide +kernel
theorem dX3_read_23 : decode cX3_read 23 = .ok (.iconst 0, 1) := by decide +kernel
theorem dX3_read_24 : decode cX3_read 24 = .ok (.ireturn, 1) := by decide +kernel
theorem dX3_read_25 : decode cX3_read 25 = .ok (.aload_n 0, 1) := by decide +kernel
theorem dX3_read_26 : decode cX3_read 26 = .ok (.iload_n 1, 1) := by decide +kernel
theorem dX3_read_27 : decode cX3_read 27 = .ok (.iconst 4, 1) := by decide +kernel
theorem dX3_read_28 : decode cX3_read 28 = .ok (.idiv, 1) := by decide +kernel
theorem dX3_read_29 : decode cX3_read 29 = .ok (.iconst 0, 1) := by decide +kernel
theorem dX3_read_30 : decode cX3_read 30 = .ok (.invokevirtual 90, 3) := by decide +kernel
theorem dX3_read_33 : decode cX3_read 33 = .ok (.aload_n 0, 1) := by decide +kernel
theorem dX3_read_34 : decode cX3_read 34 = .ok (.getfield 7, 3) := by decide +kernel
theorem dX3_read_37 : decode cX3_read 37 = .ok (.iload_n 1, 1) := by decide +kernel
theorem dX3_read_38 : decode cX3_read 38 = .ok (.iaload, 1) := by decide +kernel
theorem dX3_read_39 : decode cX3_read 39 = .ok (.ireturn, 1) := by decide +kernel
set_option maxRecDepth 20000 in
theorem ggX3_write_X3_isWord : GoodIn wsX3_write wsX3_isWord := goodIn_r _ [6] (by decide +kernel) (by decide +kernel)
set_option maxRecDepth 20000 in
theorem gX3_write_X3_isWord : GoodIn wsX3_write (va_wsS RX3 86 yX3_isWord wsX3_isWord) := goodIn_app (goodIn_of _ (by decide +kernel)) ggX3_write_X3_isWord
set_option maxRecDepth 20000 in
theorem ggX3_write_X3_asks : GoodIn wsX3_write wsX3_asks := goodIn_r _ [10, 11, 12, 13, 14, 15, 16, 17, 18, 19, 5, 20, 21, 22, 23, 24, 25, 26, 27, 28, 29, 30, 31, 32, 33, 34, 35, 36, 37, 38, 39, 40, 41, 42, 43, 44, 45, 46, 47, 48, 49, 50, 51, 2, 52, 53, 54, 55, 56, 57, 58, 59, 60, 61, 62, 63, 64, 65, 66, 67, 68] (by decide +kernel) (by decide +kernel)
set_option maxRecDepth 20000 in
theorem gX3_write_X3_asks : GoodIn wsX3_write (wsV RX3 90 RX3 yX3_asks wsX3_asks) := goodIn_app (goodIn_of _ (by decide +kernel)) ggX3_write_X3_asks
theorem dX3_write_0 : decode cX3_write 0 = .ok (.aload_n 0, 1) := by decide +kernel
theorem dX3_write_1 : decode cX3_write 1 = .ok (.iload_n 1, 1) := by decide +kernel
theorem dX3_write_2 : decode cX3_write 2 = .ok (.invokestatic 86, 3) := by decide +kernel
theorem dX3_write_5 : decode cX3_write 5 = .ok (.ifCond .eq 7, 3) := by decide +kernel
theorem dX3_write_8 : decode cX3_write 8 = .ok (.iconst 0, 1) := by decide +kernel
theorem dX3_write_9 : decode cX3_write 9 = .ok (.goto 4, 3) := by decide +kernel
theorem dX3_write_12 : decode cX3_write 12 = .ok (.iconst 1, 1) := by decide +kernel
theorem dX3_write_13 : decode cX3_write 13 = .ok (.putfield 44, 3) := by decide +kernel
theorem dX3_write_16 : decode cX3_write 16 = .ok (.aload_n 0, 1) := by decide +kernel
theorem dX3_write_17 : decode cX3_write 17 = .ok (.getfield 44, 3) := by decide +kernel
theorem dX3_write_20 : decode cX3_write 20 = .ok (.ifCond .eq 5, 3) := by decide +kernel
theorem dX3_write_23 : decode cX3_write 23 = .ok (.iconst 0, 1) := by decide +kernel
theorem dX3_write_24 : decode cX3_write 24 = .ok (.ireturn, 1) := by decide +kernel
theorem dX3_write_25 : decode cX3_write 25 = .ok (.aload_n 0, 1) := by decide +kernel
theorem dX3_write_26 : decode cX3_write 26 = .ok (.iload_n 1, 1) := by decide +kernel
theorem dX3_write_27 : decode cX3_write 27 = .ok (.iconst 4, 1) := by decide +kernel
theorem dX3_write_28 : decode cX3_write 28 = .ok (.idiv, 1) := by decide +kernel
theorem dX3_write_29 : decode cX3_write 29 = .ok (.iconst 1, 1) := by decide +kernel
theorem dX3_write_30 : decode cX3_write 30 = .ok (.invokevirtual 90, 3) := by decide +kernel
theorem dX3_write_33 : decode cX3_write 33 = .ok (.aload_n 0, 1) := by decide +kernel
theorem dX3_write_34 : decode cX3_write 34 = .ok (.getfield 7, 3) := by decide +kernel
theorem dX3_write_37 : decode cX3_write 37 = .ok (.iload_n 1, 1) := by decide +kernel
theorem dX3_write_38 : decode cX3_write 38 = .ok (.iaload, 1) := by decide +kernel
theorem dX3_write_39 : decode cX3_write 39 = .ok (.istore_n 3, 1) := by decide +kernel
theorem dX3_write_40 : decode cX3_write 40 = .ok (.aload_n 0, 1) := by decide +kernel
theorem dX3_write_41 : decode cX3_write 41 = .ok (.getfield 7, 3) := by decide +kernel
theorem dX3_write_44 : decode cX3_write 44 = .ok (.iload_n 1, 1) := by decide +kernel
theorem dX3_write_45 : decode cX3_write 45 = .ok (.iload_n 2, 1) := by decide +kernel
theorem dX3_write_46 : decode cX3_write 46 = .ok (.iastore, 1) := by decide +kernel
theorem dX3_write_47 : decode cX3_write 47 = .ok (.iload_n 3, 1) := by decide +kernel
theorem dX3_write_48 : decode cX3_write 48 = .ok (.ireturn, 1) := by decide +kernel
set_option maxRecDepth 20000 in
theorem ggX3_walk_X3_isWord : GoodIn wsX3_walk wsX3_isWord := goodIn_r _ [6] (by decide +kernel) (by decide +kernel)
set_option maxRecDepth 20000 in
theorem gX3_walk_X3_isWord : GoodIn wsX3_walk (va_wsS RX3 86 yX3_isWord wsX3_isWord) := goodIn_app (goodIn_of _ (by decide +kernel)) ggX3_walk_X3_isWord
set_option maxRecDepth 20000 in
theorem ggX3_walk_X3_asks : GoodIn wsX3_walk wsX3_asks := goodIn_r _ [10, 11, 12, 13, 14, 15, 16, 17, 18, 19, 5, 20, 21, 22, 2, 23, 24, 25, 26, 27, 28, 29, 30, 31, 32, 33, 34, 35, 36, 37, 38, 39, 40, 41, 42, 43, 44, 45, 46, 47, 48, 49, 50, 51, 52, 53, 54, 55, 56, 57, 58, 59, 60, 61, 62, 63, 64, 65, 66, 67, 68] (by decide +kernel) (by decide +kernel)
set_option maxRecDepth 20000 in
theorem gX3_walk_X3_asks : GoodIn wsX3_walk (wsV RX3 90 RX3 yX3_asks wsX3_asks) := goodIn_app (goodIn_of _ (by decide +kernel)) ggX3_walk_X3_asks
theorem dX3_walk_0 : decode cX3_walk 0 = .ok (.aload_n 0, 1) := by decide +kernel
theorem dX3_walk_1 : decode cX3_walk 1 = .ok (.iload_n 1, 1) := by decide +kernel
theorem dX3_walk_2 : decode cX3_walk 2 = .ok (.invokestatic 86, 3) := by decide +kernel
theorem dX3_walk_5 : decode cX3_walk 5 = .ok (.ifCond .ne 7, 3) := by decide +kernel
theorem dX3_walk_8 : decode cX3_walk 8 = .ok (.iconst 1, 1) := by decide +kernel
theorem dX3_walk_9 : decode cX3_walk 9 = .ok (.goto 31, 3) := by decide +kernel
theorem dX3_walk_12 : decode cX3_walk 12 = .ok (.iload_n 2, 1) := by decide +kernel
theorem dX3_walk_13 : decode cX3_walk 13 = .ok (.bipush (-64), 2) := by decide +kernel
theorem dX3_walk_15 : decode cX3_walk 15 = .ok (.if_icmp .lt 20, 3) := by decide +kernel
theorem dX3_walk_18 : decode cX3_walk 18 = .ok (.iload_n 2, 1) := by decide +kernel
theorem dX3_walk_19 : decode cX3_walk 19 = .ok (.bipush 64, 2) := by decide +kernel
theorem dX3_walk_21 : decode cX3_walk 21 = .ok (.if_icmp .gt 14, 3) := by decide +kernel
theorem dX3_walk_24 : decode cX3_walk 24 = .ok (.iload_n 3, 1) := by decide +kernel
theorem dX3_walk_25 : decode cX3_walk 25 = .ok (.iconst 1, 1) := by decide +kernel
theorem dX3_walk_26 : decode cX3_walk 26 = .ok (.if_icmp .lt 9, 3) := by decide +kernel
theorem dX3_walk_29 : decode cX3_walk 29 = .ok (.iload_n 3, 1) := by decide +kernel
theorem dX3_walk_30 : decode cX3_walk 30 = .ok (.bipush 100, 2) := by decide +kernel
theorem dX3_walk_32 : decode cX3_walk 32 = .ok (.if_icmp .le 7, 3) := by decide +kernel
theorem dX3_walk_35 : decode cX3_walk 35 = .ok (.iconst 2, 1) := by decide +kernel
theorem dX3_walk_36 : decode cX3_walk 36 = .ok (.goto 4, 3) := by decide +kernel
theorem dX3_walk_39 : decode cX3_walk 39 = .ok (.iconst 0, 1) := by decide +kernel
theorem dX3_walk_40 : decode cX3_walk 40 = .ok (.putfield 44, 3) := by decide +kernel
theorem dX3_walk_43 : decode cX3_walk 43 = .ok (.aload_n 0, 1) := by decide +kernel
theorem dX3_walk_44 : decode cX3_walk 44 = .ok (.getfield 34, 3) := by decide +kernel
theorem dX3_walk_47 : decode cX3_walk 47 = .ok (.iconst 0, 1) := by decide +kernel
theorem dX3_walk_48 : decode cX3_walk 48 = .ok (.iaload, 1) := by decide +kernel
theorem dX3_walk_49 : decode cX3_walk 49 = .ok (.istore 4, 2) := by decide +kernel
theorem dX3_walk_51 : decode cX3_walk 51 = .ok (.iload_n 1, 1) := by decide +kernel
theorem dX3_walk_52 : decode cX3_walk 52 = .ok (.istore 5, 2) := by decide +kernel
theorem dX3_walk_54 : decode cX3_walk 54 = .ok (.iconst 0, 1) := by decide +kernel
theorem dX3_walk_55 : decode cX3_walk 55 = .ok (.istore 6, 2) := by decide +kernel
theorem dX3_walk_57 : decode cX3_walk 57 = .ok (.iload 6, 2) := by decide +kernel
theorem dX3_walk_59 : decode cX3_walk 59 = .ok (.iload_n 3, 1) := by decide +kernel
theorem dX3_walk_60 : decode cX3_walk 60 = .ok (.if_icmp .ge 39, 3) := by decide +kernel
theorem dX3_walk_63 : decode cX3_walk 63 = .ok (.aload_n 0, 1) := by decide +kernel
theorem dX3_walk_64 : decode cX3_walk 64 = .ok (.getfield 44, 3) := by decide +kernel
theorem dX3_walk_67 : decode cX3_walk 67 = .ok (.ifCond .ne 32, 3) := by decide +kernel
theorem dX3_walk_70 : decode cX3_walk 70 = .ok (.aload_n 0, 1) := by decide +kernel
theorem dX3_walk_71 : decode cX3_walk 71 = .ok (.iload 5, 2) := by decide +kernel
theorem dX3_walk_73 : decode cX3_walk 73 = .ok (.iconst 4, 1) := by decide +kernel
theorem dX3_walk_74 : decode cX3_walk 74 = .ok (.idiv, 1) := by decide +kernel
theorem dX3_walk_75 : decode cX3_walk 75 = .ok (.iconst 0, 1) := by decide +kernel
theorem dX3_walk_76 : decode cX3_walk 76 = .ok (.invokevirtual 90, 3) := by decide +kernel
theorem dX3_walk_79 : decode cX3_walk 79 = .ok (.iload 5, 2) := by decide +kernel
theorem dX3_walk_81 : decode cX3_walk 81 = .ok (.iload_n 2, 1) := by decide +kernel
theorem dX3_walk_82 : decode cX3_walk 82 = .ok (.iadd, 1) := by decide +kernel
theorem dX3_walk_83 : decode cX3_walk 83 = .ok (.sipush 1024, 3) := by decide +kernel
theorem dX3_walk_86 : decode cX3_walk 86 = .ok (.iadd, 1) := by decide +kernel
theorem dX3_walk_87 : decode cX3_walk 87 = .ok (.sipush 1024, 3) := by decide +kernel
theorem dX3_walk_90 : decode cX3_walk 90 = .ok (.irem, 1) := by decide +kernel
theorem dX3_walk_91 : decode cX3_walk 91 = .ok (.istore 5, 2) := by decide +kernel
theorem dX3_walk_93 : decode cX3_walk 93 = .ok (.iinc 6 1, 3) := by decide +kernel
theorem dX3_walk_96 : decode cX3_walk 96 = .ok (.goto (-39), 3) := by decide +kernel
theorem dX3_walk_99 : decode cX3_walk 99 = .ok (.aload_n 0, 1) := by decide +kernel
theorem dX3_walk_100 : decode cX3_walk 100 = .ok (.getfield 34, 3) := by decide +kernel
theorem dX3_walk_103 : decode cX3_walk 103 = .ok (.iconst 0, 1) := by decide +kernel
theorem dX3_walk_104 : decode cX3_walk 104 = .ok (.iaload, 1) := by decide +kernel
theorem dX3_walk_105 : decode cX3_walk 105 = .ok (.iload 4, 2) := by decide +kernel
theorem dX3_walk_107 : decode cX3_walk 107 = .ok (.isub, 1) := by decide +kernel
theorem dX3_walk_108 : decode cX3_walk 108 = .ok (.ireturn, 1) := by decide +kernel
set_option maxRecDepth 20000 in
theorem ggX3_bringsHome_X3_comesHome : GoodIn wsX3_bringsHome wsX3_comesHome := goodIn_r _ [6, 7, 1, 8, 9, 10, 11, 12, 13, 14, 15, 16, 17, 18, 19, 20, 21, 22, 23, 24, 25, 26] (by decide +kernel) (by decide +kernel)
set_option maxRecDepth 20000 in
theorem gX3_bringsHome_X3_comesHome : GoodIn wsX3_bringsHome (wsV RX3 51 RX3 yX3_comesHome wsX3_comesHome) := goodIn_app (goodIn_of _ (by decide +kernel)) ggX3_bringsHome_X3_comesHome
theorem dX3_bringsHome_0 : decode cX3_bringsHome 0 = .ok (.iconst 0, 1) := by decide +kernel
theorem dX3_bringsHome_1 : decode cX3_bringsHome 1 = .ok (.istore_n 1, 1) := by decide +kernel
theorem dX3_bringsHome_2 : decode cX3_bringsHome 2 = .ok (.iconst 0, 1) := by decide +kernel
theorem dX3_bringsHome_3 : decode cX3_bringsHome 3 = .ok (.istore_n 2, 1) := by decide +kernel
theorem dX3_bringsHome_4 : decode cX3_bringsHome 4 = .ok (.iload_n 2, 1) := by decide +kernel
theorem dX3_bringsHome_5 : decode cX3_bringsHome 5 = .ok (.sipush 256, 3) := by decide +kernel
theorem dX3_bringsHome_8 : decode cX3_bringsHome 8 = .ok (.if_icmp .ge 28, 3) := by decide +kernel
theorem dX3_bringsHome_11 : decode cX3_bringsHome 11 = .ok (.aload_n 0, 1) := by decide +kernel
theorem dX3_bringsHome_12 : decode cX3_bringsHome 12 = .ok (.getfield 31, 3) := by decide +kernel
theorem dX3_bringsHome_15 : decode cX3_bringsHome 15 = .ok (.iload_n 2, 1) := by decide +kernel
theorem dX3_bringsHome_16 : decode cX3_bringsHome 16 = .ok (.iaload, 1) := by decide +kernel
theorem dX3_bringsHome_17 : decode cX3_bringsHome 17 = .ok (.iconst 1, 1) := by decide +kernel
theorem dX3_bringsHome_18 : decode cX3_bringsHome 18 = .ok (.if_icmp .ne 12, 3) := by decide +kernel
theorem dX3_bringsHome_21 : decode cX3_bringsHome 21 = .ok (.aload_n 0, 1) := by decide +kernel
theorem dX3_bringsHome_22 : decode cX3_bringsHome 22 = .ok (.iconst 0, 1) := by decide +kernel
theorem dX3_bringsHome_23 : decode cX3_bringsHome 23 = .ok (.iload_n 2, 1) := by decide +kernel
theorem dX3_bringsHome_24 : decode cX3_bringsHome 24 = .ok (.invokevirtual 51, 3) := by decide +kernel
theorem dX3_bringsHome_27 : decode cX3_bringsHome 27 = .ok (.iinc 1 1, 3) := by decide +kernel
theorem dX3_bringsHome_30 : decode cX3_bringsHome 30 = .ok (.iinc 2 1, 3) := by decide +kernel
theorem dX3_bringsHome_33 : decode cX3_bringsHome 33 = .ok (.goto (-29), 3) := by decide +kernel
theorem dX3_bringsHome_36 : decode cX3_bringsHome 36 = .ok (.iload_n 1, 1) := by decide +kernel
theorem dX3_bringsHome_37 : decode cX3_bringsHome 37 = .ok (.ireturn, 1) := by decide +kernel
set_option maxRecDepth 20000 in
theorem ggX3_bringHome_X3_bringsHome : GoodIn wsX3_bringHome wsX3_bringsHome := goodIn_r _ [6, 7, 8, 9, 10, 5, 11, 12, 13, 14, 15, 16, 17, 18, 19, 20, 21, 22, 23, 24, 25, 26, 27, 28, 29, 30, 31] (by decide +kernel) (by decide +kernel)
set_option maxRecDepth 20000 in
theorem gX3_bringHome_X3_bringsHome : GoodIn wsX3_bringHome (wsV RX3 94 RX3 yX3_bringsHome wsX3_bringsHome) := goodIn_app (goodIn_of _ (by decide +kernel)) ggX3_bringHome_X3_bringsHome
theorem dX3_bringHome_0 : decode cX3_bringHome 0 = .ok (.aload_n 0, 1) := by decide +kernel
theorem dX3_bringHome_1 : decode cX3_bringHome 1 = .ok (.iconst 0, 1) := by decide +kernel
theorem dX3_bringHome_2 : decode cX3_bringHome 2 = .ok (.putfield 44, 3) := by decide +kernel
theorem dX3_bringHome_5 : decode cX3_bringHome 5 = .ok (.aload_n 0, 1) := by decide +kernel
theorem dX3_bringHome_6 : decode cX3_bringHome 6 = .ok (.invokevirtual 94, 3) := by decide +kernel
theorem dX3_bringHome_9 : decode cX3_bringHome 9 = .ok (.ireturn, 1) := by decide +kernel
theorem dX3_inCache_0 : decode cX3_inCache 0 = .ok (.iconst 0, 1) := by decide +kernel
theorem dX3_inCache_1 : decode cX3_inCache 1 = .ok (.istore_n 1, 1) := by decide +kernel
theorem dX3_inCache_2 : decode cX3_inCache 2 = .ok (.iconst 0, 1) := by decide +kernel
theorem dX3_inCache_3 : decode cX3_inCache 3 = .ok (.istore_n 2, 1) := by decide +kernel
theorem dX3_inCache_4 : decode cX3_inCache 4 = .ok (.iload_n 2, 1) := by decide +kernel
theorem dX3_inCache_5 : decode cX3_inCache 5 = .ok (.aload_n 0, 1) := by decide +kernel
theorem dX3_inCache_6 : decode cX3_inCache 6 = .ok (.getfield 16, 3) := by decide +kernel
theorem dX3_inCache_9 : decode cX3_inCache 9 = .ok (.iconst 0, 1) := by decide +kernel
theorem dX3_inCache_10 : decode cX3_inCache 10 = .ok (.iaload, 1) := by decide +kernel
theorem dX3_inCache_11 : decode cX3_inCache 11 = .ok (.if_icmp .ge 26, 3) := by decide +kernel
theorem dX3_inCache_14 : decode cX3_inCache 14 = .ok (.iload_n 1, 1) := by decide +kernel
theorem dX3_inCache_15 : decode cX3_inCache 15 = .ok (.aload_n 0, 1) := by decide +kernel
theorem dX3_inCache_16 : decode cX3_inCache 16 = .ok (.getfield 22, 3) := by decide +kernel
theorem dX3_inCache_19 : decode cX3_inCache 19 = .ok (.iload_n 2, 1) := by decide +kernel
theorem dX3_inCache_20 : decode cX3_inCache 20 = .ok (.iaload, 1) := by decide +kernel
theorem dX3_inCache_21 : decode cX3_inCache 21 = .ok (.ifCond .lt 7, 3) := by decide +kernel
theorem dX3_inCache_24 : decode cX3_inCache 24 = .ok (.iconst 1, 1) := by decide +kernel
theorem dX3_inCache_25 : decode cX3_inCache 25 = .ok (.goto 4, 3) := by decide +kernel
theorem dX3_inCache_28 : decode cX3_inCache 28 = .ok (.iconst 0, 1) := by decide +kernel
theorem dX3_inCache_29 : decode cX3_inCache 29 = .ok (.iadd, 1) := by decide +kernel
theorem dX3_inCache_30 : decode cX3_inCache 30 = .ok (.istore_n 1, 1) := by decide +kernel
theorem dX3_inCache_31 : decode cX3_inCache 31 = .ok (.iinc 2 1, 3) := by decide +kernel
theorem dX3_inCache_34 : decode cX3_inCache 34 = .ok (.goto (-30), 3) := by decide +kernel
theorem dX3_inCache_37 : decode cX3_inCache 37 = .ok (.iload_n 1, 1) := by decide +kernel
theorem dX3_inCache_38 : decode cX3_inCache 38 = .ok (.ireturn, 1) := by decide +kernel
set_option maxRecDepth 20000 in
theorem ggX3_build_X3_isSize : GoodIn wsX3_build wsX3_isSize := goodIn_r _ [8] (by decide +kernel) (by decide +kernel)
set_option maxRecDepth 20000 in
theorem gX3_build_X3_isSize : GoodIn wsX3_build (va_wsS RX3 98 yX3_isSize wsX3_isSize) := goodIn_app (goodIn_of _ (by decide +kernel)) ggX3_build_X3_isSize
set_option maxRecDepth 20000 in
theorem ggX3_build_X3_bringsHome : GoodIn wsX3_build wsX3_bringsHome := goodIn_r _ [12, 13, 14, 15, 16, 7, 17, 18, 19, 20, 21, 31, 32, 33, 34, 35, 36, 37, 38, 39, 40, 41, 42, 43, 44, 45, 46] (by decide +kernel) (by decide +kernel)
set_option maxRecDepth 20000 in
theorem gX3_build_X3_bringsHome : GoodIn wsX3_build (wsV RX3 94 RX3 yX3_bringsHome wsX3_bringsHome) := goodIn_app (goodIn_of _ (by decide +kernel)) ggX3_build_X3_bringsHome
set_option maxRecDepth 20000 in
theorem ggX3_build_X3_inCache : GoodIn wsX3_build wsX3_inCache := goodIn_r _ [25, 3, 26, 31, 32, 33, 34, 35, 36, 37, 38, 39, 40, 41, 42, 43, 44, 45, 46] (by decide +kernel) (by decide +kernel)
set_option maxRecDepth 20000 in
theorem gX3_build_X3_inCache : GoodIn wsX3_build (wsV RX3 102 RX3 yX3_inCache wsX3_inCache) := goodIn_app (goodIn_of _ (by decide +kernel)) ggX3_build_X3_inCache
set_option maxRecDepth 20000 in
theorem ggX3_build_X3_empties : GoodIn wsX3_build wsX3_empties := goodIn_r _ [30, 26, 2, 13, 31, 32, 33, 34, 35, 36, 37, 38, 39, 40, 41, 42, 43, 44, 45, 46] (by decide +kernel) (by decide +kernel)
set_option maxRecDepth 20000 in
theorem gX3_build_X3_empties : GoodIn wsX3_build (wsV RX3 40 RX3 yX3_empties wsX3_empties) := goodIn_app (goodIn_of _ (by decide +kernel)) ggX3_build_X3_empties
theorem dX3_build_0 : decode cX3_build 0 = .ok (.aload_n 0, 1) := by decide +kernel
theorem dX3_build_1 : decode cX3_build 1 = .ok (.iload_n 1, 1) := by decide +kernel
theorem dX3_build_2 : decode cX3_build 2 = .ok (.iload_n 2, 1) := by decide +kernel
theorem dX3_build_3 : decode cX3_build 3 = .ok (.invokestatic 98, 3) := by decide +kernel
theorem dX3_build_6 : decode cX3_build 6 = .ok (.ifCond .eq 7, 3) := by decide +kernel
theorem dX3_build_9 : decode cX3_build 9 = .ok (.iconst 0, 1) := by decide +kernel
theorem dX3_build_10 : decode cX3_build 10 = .ok (.goto 4, 3) := by decide +kernel
theorem dX3_build_13 : decode cX3_build 13 = .ok (.iconst 1, 1) := by decide +kernel
theorem dX3_build_14 : decode cX3_build 14 = .ok (.putfield 44, 3) := by decide +kernel
theorem dX3_build_17 : decode cX3_build 17 = .ok (.aload_n 0, 1) := by decide +kernel
theorem dX3_build_18 : decode cX3_build 18 = .ok (.getfield 44, 3) := by decide +kernel
theorem dX3_build_21 : decode cX3_build 21 = .ok (.ifCond .eq 5, 3) := by decide +kernel
theorem dX3_build_24 : decode cX3_build 24 = .ok (.iconst 0, 1) := by decide +kernel
theorem dX3_build_25 : decode cX3_build 25 = .ok (.ireturn, 1) := by decide +kernel
theorem dX3_build_26 : decode cX3_build 26 = .ok (.aload_n 0, 1) := by decide +kernel
theorem dX3_build_27 : decode cX3_build 27 = .ok (.invokevirtual 94, 3) := by decide +kernel
theorem dX3_build_30 : decode cX3_build 30 = .ok (.istore_n 3, 1) := by decide +kernel
theorem dX3_build_31 : decode cX3_build 31 = .ok (.aload_n 0, 1) := by decide +kernel
theorem dX3_build_32 : decode cX3_build 32 = .ok (.invokevirtual 102, 3) := by decide +kernel
theorem dX3_build_35 : decode cX3_build 35 = .ok (.aload_n 0, 1) := by decide +kernel
theorem dX3_build_36 : decode cX3_build 36 = .ok (.getfield 28, 3) := by decide +kernel
theorem dX3_build_39 : decode cX3_build 39 = .ok (.iconst 0, 1) := by decide +kernel
theorem dX3_build_40 : decode cX3_build 40 = .ok (.iaload, 1) := by decide +kernel
theorem dX3_build_41 : decode cX3_build 41 = .ok (.iadd, 1) := by decide +kernel
theorem dX3_build_42 : decode cX3_build 42 = .ok (.istore 4, 2) := by decide +kernel
theorem dX3_build_44 : decode cX3_build 44 = .ok (.aload_n 0, 1) := by decide +kernel
theorem dX3_build_45 : decode cX3_build 45 = .ok (.iconst 0, 1) := by decide +kernel
theorem dX3_build_46 : decode cX3_build 46 = .ok (.invokevirtual 40, 3) := by decide +kernel
theorem dX3_build_49 : decode cX3_build 49 = .ok (.aload_n 0, 1) := by decide +kernel
theorem dX3_build_50 : decode cX3_build 50 = .ok (.getfield 16, 3) := by decide +kernel
theorem dX3_build_53 : decode cX3_build 53 = .ok (.iconst 0, 1) := by decide +kernel
theorem dX3_build_54 : decode cX3_build 54 = .ok (.iload_n 1, 1) := by decide +kernel
theorem dX3_build_55 : decode cX3_build 55 = .ok (.iastore, 1) := by decide +kernel
theorem dX3_build_56 : decode cX3_build 56 = .ok (.aload_n 0, 1) := by decide +kernel
theorem dX3_build_57 : decode cX3_build 57 = .ok (.getfield 19, 3) := by decide +kernel
theorem dX3_build_60 : decode cX3_build 60 = .ok (.iconst 0, 1) := by decide +kernel
theorem dX3_build_61 : decode cX3_build 61 = .ok (.iload_n 2, 1) := by decide +kernel
theorem dX3_build_62 : decode cX3_build 62 = .ok (.iastore, 1) := by decide +kernel
theorem dX3_build_63 : decode cX3_build 63 = .ok (.iload 4, 2) := by decide +kernel
theorem dX3_build_65 : decode cX3_build 65 = .ok (.ireturn, 1) := by decide +kernel
theorem dX3_isSet_0 : decode cX3_isSet 0 = .ok (.iload_n 1, 1) := by decide +kernel
theorem dX3_isSet_1 : decode cX3_isSet 1 = .ok (.ifCond .lt 17, 3) := by decide +kernel
theorem dX3_isSet_4 : decode cX3_isSet 4 = .ok (.iload_n 1, 1) := by decide +kernel
theorem dX3_isSet_5 : decode cX3_isSet 5 = .ok (.aload_n 0, 1) := by decide +kernel
theorem dX3_isSet_6 : decode cX3_isSet 6 = .ok (.getfield 16, 3) := by decide +kernel
theorem dX3_isSet_9 : decode cX3_isSet 9 = .ok (.iconst 0, 1) := by decide +kernel
theorem dX3_isSet_10 : decode cX3_isSet 10 = .ok (.iaload, 1) := by decide +kernel
theorem dX3_isSet_11 : decode cX3_isSet 11 = .ok (.if_icmp .ge 7, 3) := by decide +kernel
theorem dX3_isSet_14 : decode cX3_isSet 14 = .ok (.iconst 1, 1) := by decide +kernel
theorem dX3_isSet_15 : decode cX3_isSet 15 = .ok (.goto 4, 3) := by decide +kernel
theorem dX3_isSet_18 : decode cX3_isSet 18 = .ok (.iconst 0, 1) := by decide +kernel
theorem dX3_isSet_19 : decode cX3_isSet 19 = .ok (.ireturn, 1) := by decide +kernel
set_option maxRecDepth 20000 in
theorem ggX3_cast_X3_isSet : GoodIn wsX3_cast wsX3_isSet := goodIn_r _ [7, 8, 33, 34, 35, 36, 37, 38, 39, 40, 41, 42, 43, 44, 45, 46, 47, 48] (by decide +kernel) (by decide +kernel)
set_option maxRecDepth 20000 in
theorem gX3_cast_X3_isSet : GoodIn wsX3_cast (wsV RX3 105 RX3 yX3_isSet wsX3_isSet) := goodIn_app (goodIn_of _ (by decide +kernel)) ggX3_cast_X3_isSet
set_option maxRecDepth 20000 in
theorem ggX3_cast_X3_throwsOut : GoodIn wsX3_cast wsX3_throwsOut := goodIn_r _ [12, 1, 13, 14, 15, 16, 17, 18, 6, 19, 20, 21, 22, 23, 24, 25, 26, 27, 28, 29, 30, 31, 32, 33, 34, 35, 36, 37, 38, 39, 40, 41, 42, 43, 44, 45, 46, 47, 48] (by decide +kernel) (by decide +kernel)
set_option maxRecDepth 20000 in
theorem gX3_cast_X3_throwsOut : GoodIn wsX3_cast (wsV RX3 68 RX3 yX3_throwsOut wsX3_throwsOut) := goodIn_app (goodIn_of _ (by decide +kernel)) ggX3_cast_X3_throwsOut
theorem dX3_cast_0 : decode cX3_cast 0 = .ok (.aload_n 0, 1) := by decide +kernel
theorem dX3_cast_1 : decode cX3_cast 1 = .ok (.aload_n 0, 1) := by decide +kernel
theorem dX3_cast_2 : decode cX3_cast 2 = .ok (.iload_n 1, 1) := by decide +kernel
theorem dX3_cast_3 : decode cX3_cast 3 = .ok (.invokevirtual 105, 3) := by decide +kernel
theorem dX3_cast_6 : decode cX3_cast 6 = .ok (.ifCond .ne 7, 3) := by decide +kernel
theorem dX3_cast_9 : decode cX3_cast 9 = .ok (.iconst 1, 1) := by decide +kernel
theorem dX3_cast_10 : decode cX3_cast 10 = .ok (.goto 17, 3) := by decide +kernel
theorem dX3_cast_13 : decode cX3_cast 13 = .ok (.aload_n 0, 1) := by decide +kernel
theorem dX3_cast_14 : decode cX3_cast 14 = .ok (.getfield 22, 3) := by decide +kernel
theorem dX3_cast_17 : decode cX3_cast 17 = .ok (.iload_n 1, 1) := by decide +kernel
theorem dX3_cast_18 : decode cX3_cast 18 = .ok (.iaload, 1) := by decide +kernel
theorem dX3_cast_19 : decode cX3_cast 19 = .ok (.ifCond .ge 7, 3) := by decide +kernel
theorem dX3_cast_22 : decode cX3_cast 22 = .ok (.iconst 2, 1) := by decide +kernel
theorem dX3_cast_23 : decode cX3_cast 23 = .ok (.goto 4, 3) := by decide +kernel
theorem dX3_cast_26 : decode cX3_cast 26 = .ok (.iconst 0, 1) := by decide +kernel
theorem dX3_cast_27 : decode cX3_cast 27 = .ok (.putfield 44, 3) := by decide +kernel
theorem dX3_cast_30 : decode cX3_cast 30 = .ok (.aload_n 0, 1) := by decide +kernel
theorem dX3_cast_31 : decode cX3_cast 31 = .ok (.getfield 44, 3) := by decide +kernel
theorem dX3_cast_34 : decode cX3_cast 34 = .ok (.ifCond .eq 5, 3) := by decide +kernel
theorem dX3_cast_37 : decode cX3_cast 37 = .ok (.iconst 0, 1) := by decide +kernel
theorem dX3_cast_38 : decode cX3_cast 38 = .ok (.ireturn, 1) := by decide +kernel
theorem dX3_cast_39 : decode cX3_cast 39 = .ok (.aload_n 0, 1) := by decide +kernel
theorem dX3_cast_40 : decode cX3_cast 40 = .ok (.getfield 22, 3) := by decide +kernel
theorem dX3_cast_43 : decode cX3_cast 43 = .ok (.iload_n 1, 1) := by decide +kernel
theorem dX3_cast_44 : decode cX3_cast 44 = .ok (.iaload, 1) := by decide +kernel
theorem dX3_cast_45 : decode cX3_cast 45 = .ok (.istore_n 2, 1) := by decide +kernel
theorem dX3_cast_46 : decode cX3_cast 46 = .ok (.aload_n 0, 1) := by decide +kernel
theorem dX3_cast_47 : decode cX3_cast 47 = .ok (.iconst 0, 1) := by decide +kernel
theorem dX3_cast_48 : decode cX3_cast 48 = .ok (.iload_n 1, 1) := by decide +kernel
theorem dX3_cast_49 : decode cX3_cast 49 = .ok (.invokevirtual 68, 3) := by decide +kernel
theorem dX3_cast_52 : decode cX3_cast 52 = .ok (.iload_n 2, 1) := by decide +kernel
theorem dX3_cast_53 : decode cX3_cast 53 = .ok (.ireturn, 1) := by decide +kernel
theorem dX3_sets_0 : decode cX3_sets 0 = .ok (.aload_n 0, 1) := by decide +kernel
theorem dX3_sets_1 : decode cX3_sets 1 = .ok (.iconst 0, 1) := by decide +kernel
theorem dX3_sets_2 : decode cX3_sets 2 = .ok (.putfield 44, 3) := by decide +kernel
theorem dX3_sets_5 : decode cX3_sets 5 = .ok (.aload_n 0, 1) := by decide +kernel
theorem dX3_sets_6 : decode cX3_sets 6 = .ok (.getfield 16, 3) := by decide +kernel
theorem dX3_sets_9 : decode cX3_sets 9 = .ok (.iconst 0, 1) := by decide +kernel
theorem dX3_sets_10 : decode cX3_sets 10 = .ok (.iaload, 1) := by decide +kernel
theorem dX3_sets_11 : decode cX3_sets 11 = .ok (.ireturn, 1) := by decide +kernel
theorem dX3_places_0 : decode cX3_places 0 = .ok (.aload_n 0, 1) := by decide +kernel
theorem dX3_places_1 : decode cX3_places 1 = .ok (.iconst 0, 1) := by decide +kernel
theorem dX3_places_2 : decode cX3_places 2 = .ok (.putfield 44, 3) := by decide +kernel
theorem dX3_places_5 : decode cX3_places 5 = .ok (.aload_n 0, 1) := by decide +kernel
theorem dX3_places_6 : decode cX3_places 6 = .ok (.getfield 19, 3) := by decide +kernel
theorem dX3_places_9 : decode cX3_places 9 = .ok (.iconst 0, 1) := by decide +kernel
theorem dX3_places_10 : decode cX3_places 10 = .ok (.iaload, 1) := by decide +kernel
theorem dX3_places_11 : decode cX3_places 11 = .ok (.ireturn, 1) := by decide +kernel
set_option maxRecDepth 20000 in
theorem ggX3_lineIn_X3_isSet : GoodIn wsX3_lineIn wsX3_isSet := goodIn_r _ [7, 8, 9, 10, 11, 12, 13, 14, 15, 16, 17, 18, 19, 20, 21, 22, 23, 24] (by decide +kernel) (by decide +kernel)
set_option maxRecDepth 20000 in
theorem gX3_lineIn_X3_isSet : GoodIn wsX3_lineIn (wsV RX3 105 RX3 yX3_isSet wsX3_isSet) := goodIn_app (goodIn_of _ (by decide +kernel)) ggX3_lineIn_X3_isSet
theorem dX3_lineIn_0 : decode cX3_lineIn 0 = .ok (.aload_n 0, 1) := by decide +kernel
theorem dX3_lineIn_1 : decode cX3_lineIn 1 = .ok (.aload_n 0, 1) := by decide +kernel
theorem dX3_lineIn_2 : decode cX3_lineIn 2 = .ok (.iload_n 1, 1) := by decide +kernel
theorem dX3_lineIn_3 : decode cX3_lineIn 3 = .ok (.invokevirtual 105, 3) := by decide +kernel
theorem dX3_lineIn_6 : decode cX3_lineIn 6 = .ok (.ifCond .eq 7, 3) := by decide +kernel
theorem dX3_lineIn_9 : decode cX3_lineIn 9 = .ok (.iconst 0, 1) := by decide +kernel
theorem dX3_lineIn_10 : decode cX3_lineIn 10 = .ok (.goto 4, 3) := by decide +kernel
theorem dX3_lineIn_13 : decode cX3_lineIn 13 = .ok (.iconst 1, 1) := by decide +kernel
theorem dX3_lineIn_14 : decode cX3_lineIn 14 = .ok (.putfield 44, 3) := by decide +kernel
theorem dX3_lineIn_17 : decode cX3_lineIn 17 = .ok (.aload_n 0, 1) := by decide +kernel
theorem dX3_lineIn_18 : decode cX3_lineIn 18 = .ok (.getfield 44, 3) := by decide +kernel
theorem dX3_lineIn_21 : decode cX3_lineIn 21 = .ok (.ifCond .ne 12, 3) := by decide +kernel
theorem dX3_lineIn_24 : decode cX3_lineIn 24 = .ok (.aload_n 0, 1) := by decide +kernel
theorem dX3_lineIn_25 : decode cX3_lineIn 25 = .ok (.getfield 22, 3) := by decide +kernel
theorem dX3_lineIn_28 : decode cX3_lineIn 28 = .ok (.iload_n 1, 1) := by decide +kernel
theorem dX3_lineIn_29 : decode cX3_lineIn 29 = .ok (.iaload, 1) := by decide +kernel
theorem dX3_lineIn_30 : decode cX3_lineIn 30 = .ok (.goto 4, 3) := by decide +kernel
theorem dX3_lineIn_33 : decode cX3_lineIn 33 = .ok (.iconst 0, 1) := by decide +kernel
theorem dX3_lineIn_34 : decode cX3_lineIn 34 = .ok (.ireturn, 1) := by decide +kernel
theorem dX3_sitting_0 : decode cX3_sitting 0 = .ok (.aload_n 0, 1) := by decide +kernel
theorem dX3_sitting_1 : decode cX3_sitting 1 = .ok (.iconst 0, 1) := by decide +kernel
theorem dX3_sitting_2 : decode cX3_sitting 2 = .ok (.putfield 44, 3) := by decide +kernel
theorem dX3_sitting_5 : decode cX3_sitting 5 = .ok (.aload_n 0, 1) := by decide +kernel
theorem dX3_sitting_6 : decode cX3_sitting 6 = .ok (.getfield 28, 3) := by decide +kernel
theorem dX3_sitting_9 : decode cX3_sitting 9 = .ok (.iconst 0, 1) := by decide +kernel
theorem dX3_sitting_10 : decode cX3_sitting 10 = .ok (.iaload, 1) := by decide +kernel
theorem dX3_sitting_11 : decode cX3_sitting 11 = .ok (.ireturn, 1) := by decide +kernel
theorem dX3_lineOnBench_0 : decode cX3_lineOnBench 0 = .ok (.aload_n 0, 1) := by decide +kernel
theorem dX3_lineOnBench_1 : decode cX3_lineOnBench 1 = .ok (.iload_n 1, 1) := by decide +kernel
theorem dX3_lineOnBench_2 : decode cX3_lineOnBench 2 = .ok (.ifCond .lt 17, 3) := by decide +kernel
theorem dX3_lineOnBench_5 : decode cX3_lineOnBench 5 = .ok (.iload_n 1, 1) := by decide +kernel
theorem dX3_lineOnBench_6 : decode cX3_lineOnBench 6 = .ok (.aload_n 0, 1) := by decide +kernel
theorem dX3_lineOnBench_7 : decode cX3_lineOnBench 7 = .ok (.getfield 28, 3) := by decide +kernel
theorem dX3_lineOnBench_10 : decode cX3_lineOnBench 10 = .ok (.iconst 0, 1) := by decide +kernel
theorem dX3_lineOnBench_11 : decode cX3_lineOnBench 11 = .ok (.iaload, 1) := by decide +kernel
theorem dX3_lineOnBench_12 : decode cX3_lineOnBench 12 = .ok (.if_icmp .ge 7, 3) := by decide +kernel
theorem dX3_lineOnBench_15 : decode cX3_lineOnBench 15 = .ok (.iconst 0, 1) := by decide +kernel
theorem dX3_lineOnBench_16 : decode cX3_lineOnBench 16 = .ok (.goto 4, 3) := by decide +kernel
theorem dX3_lineOnBench_19 : decode cX3_lineOnBench 19 = .ok (.iconst 1, 1) := by decide +kernel
theorem dX3_lineOnBench_20 : decode cX3_lineOnBench 20 = .ok (.putfield 44, 3) := by decide +kernel
theorem dX3_lineOnBench_23 : decode cX3_lineOnBench 23 = .ok (.aload_n 0, 1) := by decide +kernel
theorem dX3_lineOnBench_24 : decode cX3_lineOnBench 24 = .ok (.getfield 44, 3) := by decide +kernel
theorem dX3_lineOnBench_27 : decode cX3_lineOnBench 27 = .ok (.ifCond .ne 12, 3) := by decide +kernel
theorem dX3_lineOnBench_30 : decode cX3_lineOnBench 30 = .ok (.aload_n 0, 1) := by decide +kernel
theorem dX3_lineOnBench_31 : decode cX3_lineOnBench 31 = .ok (.getfield 25, 3) := by decide +kernel
theorem dX3_lineOnBench_34 : decode cX3_lineOnBench 34 = .ok (.iload_n 1, 1) := by decide +kernel
theorem dX3_lineOnBench_35 : decode cX3_lineOnBench 35 = .ok (.iaload, 1) := by decide +kernel
theorem dX3_lineOnBench_36 : decode cX3_lineOnBench 36 = .ok (.goto 4, 3) := by decide +kernel
theorem dX3_lineOnBench_39 : decode cX3_lineOnBench 39 = .ok (.iconst 0, 1) := by decide +kernel
theorem dX3_lineOnBench_40 : decode cX3_lineOnBench 40 = .ok (.ireturn, 1) := by decide +kernel
theorem dX3_isLine_0 : decode cX3_isLine 0 = .ok (.aload_n 0, 1) := by decide +kernel
theorem dX3_isLine_1 : decode cX3_isLine 1 = .ok (.iload_n 1, 1) := by decide +kernel
theorem dX3_isLine_2 : decode cX3_isLine 2 = .ok (.ifCond .lt 14, 3) := by decide +kernel
theorem dX3_isLine_5 : decode cX3_isLine 5 = .ok (.iload_n 1, 1) := by decide +kernel
theorem dX3_isLine_6 : decode cX3_isLine 6 = .ok (.sipush 256, 3) := by decide +kernel
theorem dX3_isLine_9 : decode cX3_isLine 9 = .ok (.if_icmp .ge 7, 3) := by decide +kernel
theorem dX3_isLine_12 : decode cX3_isLine 12 = .ok (.iconst 0, 1) := by decide +kernel
theorem dX3_isLine_13 : decode cX3_isLine 13 = .ok (.goto 4, 3) := by decide +kernel
theorem dX3_isLine_16 : decode cX3_isLine 16 = .ok (.iconst 1, 1) := by decide +kernel
theorem dX3_isLine_17 : decode cX3_isLine 17 = .ok (.putfield 44, 3) := by decide +kernel
theorem dX3_isLine_20 : decode cX3_isLine 20 = .ok (.aload_n 0, 1) := by decide +kernel
theorem dX3_isLine_21 : decode cX3_isLine 21 = .ok (.getfield 44, 3) := by decide +kernel
theorem dX3_isLine_24 : decode cX3_isLine 24 = .ok (.ifCond .ne 7, 3) := by decide +kernel
theorem dX3_isLine_27 : decode cX3_isLine 27 = .ok (.iconst 1, 1) := by decide +kernel
theorem dX3_isLine_28 : decode cX3_isLine 28 = .ok (.goto 4, 3) := by decide +kernel
theorem dX3_isLine_31 : decode cX3_isLine 31 = .ok (.iconst 0, 1) := by decide +kernel
theorem dX3_isLine_32 : decode cX3_isLine 32 = .ok (.ireturn, 1) := by decide +kernel
set_option maxRecDepth 20000 in
theorem ggX3_placeOf_X3_isLine : GoodIn wsX3_placeOf wsX3_isLine := goodIn_r _ [7, 8, 15, 16, 17, 18, 19, 20, 21, 22, 23, 24, 25, 26, 27, 28, 29, 30] (by decide +kernel) (by decide +kernel)
set_option maxRecDepth 20000 in
theorem gX3_placeOf_X3_isLine : GoodIn wsX3_placeOf (wsV RX3 108 RX3 yX3_isLine wsX3_isLine) := goodIn_app (goodIn_of _ (by decide +kernel)) ggX3_placeOf_X3_isLine
set_option maxRecDepth 20000 in
theorem ggX3_placeOf_X3_seat : GoodIn wsX3_placeOf wsX3_seat := goodIn_r _ [12, 13, 14, 15, 16, 17, 18, 19, 20, 21, 22, 23, 24, 25, 26, 27, 28, 29, 30] (by decide +kernel) (by decide +kernel)
set_option maxRecDepth 20000 in
theorem gX3_placeOf_X3_seat : GoodIn wsX3_placeOf (wsV RX3 61 RX3 yX3_seat wsX3_seat) := goodIn_app (goodIn_of _ (by decide +kernel)) ggX3_placeOf_X3_seat
theorem dX3_placeOf_0 : decode cX3_placeOf 0 = .ok (.aload_n 0, 1) := by decide +kernel
theorem dX3_placeOf_1 : decode cX3_placeOf 1 = .ok (.iload_n 1, 1) := by decide +kernel
theorem dX3_placeOf_2 : decode cX3_placeOf 2 = .ok (.invokevirtual 108, 3) := by decide +kernel
theorem dX3_placeOf_5 : decode cX3_placeOf 5 = .ok (.ifCond .ne 7, 3) := by decide +kernel
theorem dX3_placeOf_8 : decode cX3_placeOf 8 = .ok (.iconst 0, 1) := by decide +kernel
theorem dX3_placeOf_9 : decode cX3_placeOf 9 = .ok (.goto 38, 3) := by decide +kernel
theorem dX3_placeOf_12 : decode cX3_placeOf 12 = .ok (.aload_n 0, 1) := by decide +kernel
theorem dX3_placeOf_13 : decode cX3_placeOf 13 = .ok (.getfield 22, 3) := by decide +kernel
theorem dX3_placeOf_16 : decode cX3_placeOf 16 = .ok (.iload_n 1, 1) := by decide +kernel
theorem dX3_placeOf_17 : decode cX3_placeOf 17 = .ok (.aload_n 0, 1) := by decide +kernel
theorem dX3_placeOf_18 : decode cX3_placeOf 18 = .ok (.getfield 16, 3) := by decide +kernel
theorem dX3_placeOf_21 : decode cX3_placeOf 21 = .ok (.iconst 0, 1) := by decide +kernel
theorem dX3_placeOf_22 : decode cX3_placeOf 22 = .ok (.iaload, 1) := by decide +kernel
theorem dX3_placeOf_23 : decode cX3_placeOf 23 = .ok (.irem, 1) := by decide +kernel
theorem dX3_placeOf_24 : decode cX3_placeOf 24 = .ok (.iaload, 1) := by decide +kernel
theorem dX3_placeOf_25 : decode cX3_placeOf 25 = .ok (.iload_n 1, 1) := by decide +kernel
theorem dX3_placeOf_26 : decode cX3_placeOf 26 = .ok (.if_icmp .ne 7, 3) := by decide +kernel
theorem dX3_placeOf_29 : decode cX3_placeOf 29 = .ok (.iconst 1, 1) := by decide +kernel
theorem dX3_placeOf_30 : decode cX3_placeOf 30 = .ok (.goto 17, 3) := by decide +kernel
theorem dX3_placeOf_33 : decode cX3_placeOf 33 = .ok (.aload_n 0, 1) := by decide +kernel
theorem dX3_placeOf_34 : decode cX3_placeOf 34 = .ok (.iconst 0, 1) := by decide +kernel
theorem dX3_placeOf_35 : decode cX3_placeOf 35 = .ok (.iload_n 1, 1) := by decide +kernel
theorem dX3_placeOf_36 : decode cX3_placeOf 36 = .ok (.invokevirtual 61, 3) := by decide +kernel
theorem dX3_placeOf_39 : decode cX3_placeOf 39 = .ok (.ifCond .lt 7, 3) := by decide +kernel
theorem dX3_placeOf_42 : decode cX3_placeOf 42 = .ok (.iconst 2, 1) := by decide +kernel
theorem dX3_placeOf_43 : decode cX3_placeOf 43 = .ok (.goto 4, 3) := by decide +kernel
theorem dX3_placeOf_46 : decode cX3_placeOf 46 = .ok (.iconst 0, 1) := by decide +kernel
theorem dX3_placeOf_47 : decode cX3_placeOf 47 = .ok (.ireturn, 1) := by decide +kernel
set_option maxRecDepth 20000 in
theorem ggX3_isDirty_X3_isLine : GoodIn wsX3_isDirty wsX3_isLine := goodIn_r _ [6, 7, 8, 9, 10, 11, 12, 13, 14, 15, 16, 17, 18, 19, 20, 21, 22, 23] (by decide +kernel) (by decide +kernel)
set_option maxRecDepth 20000 in
theorem gX3_isDirty_X3_isLine : GoodIn wsX3_isDirty (wsV RX3 108 RX3 yX3_isLine wsX3_isLine) := goodIn_app (goodIn_of _ (by decide +kernel)) ggX3_isDirty_X3_isLine
theorem dX3_isDirty_0 : decode cX3_isDirty 0 = .ok (.aload_n 0, 1) := by decide +kernel
theorem dX3_isDirty_1 : decode cX3_isDirty 1 = .ok (.iload_n 1, 1) := by decide +kernel
theorem dX3_isDirty_2 : decode cX3_isDirty 2 = .ok (.invokevirtual 108, 3) := by decide +kernel
theorem dX3_isDirty_5 : decode cX3_isDirty 5 = .ok (.ifCond .eq 17, 3) := by decide +kernel
theorem dX3_isDirty_8 : decode cX3_isDirty 8 = .ok (.aload_n 0, 1) := by decide +kernel
theorem dX3_isDirty_9 : decode cX3_isDirty 9 = .ok (.getfield 31, 3) := by decide +kernel
theorem dX3_isDirty_12 : decode cX3_isDirty 12 = .ok (.iload_n 1, 1) := by decide +kernel
theorem dX3_isDirty_13 : decode cX3_isDirty 13 = .ok (.iaload, 1) := by decide +kernel
theorem dX3_isDirty_14 : decode cX3_isDirty 14 = .ok (.iconst 1, 1) := by decide +kernel
theorem dX3_isDirty_15 : decode cX3_isDirty 15 = .ok (.if_icmp .ne 7, 3) := by decide +kernel
theorem dX3_isDirty_18 : decode cX3_isDirty 18 = .ok (.iconst 1, 1) := by decide +kernel
theorem dX3_isDirty_19 : decode cX3_isDirty 19 = .ok (.goto 4, 3) := by decide +kernel
theorem dX3_isDirty_22 : decode cX3_isDirty 22 = .ok (.iconst 0, 1) := by decide +kernel
theorem dX3_isDirty_23 : decode cX3_isDirty 23 = .ok (.ireturn, 1) := by decide +kernel
theorem dX3_dirty_0 : decode cX3_dirty 0 = .ok (.aload_n 0, 1) := by decide +kernel
theorem dX3_dirty_1 : decode cX3_dirty 1 = .ok (.iconst 0, 1) := by decide +kernel
theorem dX3_dirty_2 : decode cX3_dirty 2 = .ok (.putfield 44, 3) := by decide +kernel
theorem dX3_dirty_5 : decode cX3_dirty 5 = .ok (.iconst 0, 1) := by decide +kernel
theorem dX3_dirty_6 : decode cX3_dirty 6 = .ok (.istore_n 1, 1) := by decide +kernel
theorem dX3_dirty_7 : decode cX3_dirty 7 = .ok (.iconst 0, 1) := by decide +kernel
theorem dX3_dirty_8 : decode cX3_dirty 8 = .ok (.istore_n 2, 1) := by decide +kernel
theorem dX3_dirty_9 : decode cX3_dirty 9 = .ok (.iload_n 2, 1) := by decide +kernel
theorem dX3_dirty_10 : decode cX3_dirty 10 = .ok (.sipush 256, 3) := by decide +kernel
theorem dX3_dirty_13 : decode cX3_dirty 13 = .ok (.if_icmp .ge 18, 3) := by decide +kernel
theorem dX3_dirty_16 : decode cX3_dirty 16 = .ok (.iload_n 1, 1) := by decide +kernel
theorem dX3_dirty_17 : decode cX3_dirty 17 = .ok (.aload_n 0, 1) := by decide +kernel
theorem dX3_dirty_18 : decode cX3_dirty 18 = .ok (.getfield 31, 3) := by decide +kernel
theorem dX3_dirty_21 : decode cX3_dirty 21 = .ok (.iload_n 2, 1) := by decide +kernel
theorem dX3_dirty_22 : decode cX3_dirty 22 = .ok (.iaload, 1) := by decide +kernel
theorem dX3_dirty_23 : decode cX3_dirty 23 = .ok (.iadd, 1) := by decide +kernel
theorem dX3_dirty_24 : decode cX3_dirty 24 = .ok (.istore_n 1, 1) := by decide +kernel
theorem dX3_dirty_25 : decode cX3_dirty 25 = .ok (.iinc 2 1, 3) := by decide +kernel
theorem dX3_dirty_28 : decode cX3_dirty 28 = .ok (.goto (-19), 3) := by decide +kernel
theorem dX3_dirty_31 : decode cX3_dirty 31 = .ok (.iload_n 1, 1) := by decide +kernel
theorem dX3_dirty_32 : decode cX3_dirty 32 = .ok (.ireturn, 1) := by decide +kernel
set_option maxRecDepth 20000 in
theorem ggX3_atHome_X3_isWord : GoodIn wsX3_atHome wsX3_isWord := goodIn_r _ [6] (by decide +kernel) (by decide +kernel)
set_option maxRecDepth 20000 in
theorem gX3_atHome_X3_isWord : GoodIn wsX3_atHome (va_wsS RX3 86 yX3_isWord wsX3_isWord) := goodIn_app (goodIn_of _ (by decide +kernel)) ggX3_atHome_X3_isWord
theorem dX3_atHome_0 : decode cX3_atHome 0 = .ok (.aload_n 0, 1) := by decide +kernel
theorem dX3_atHome_1 : decode cX3_atHome 1 = .ok (.iload_n 1, 1) := by decide +kernel
theorem dX3_atHome_2 : decode cX3_atHome 2 = .ok (.invokestatic 86, 3) := by decide +kernel
theorem dX3_atHome_5 : decode cX3_atHome 5 = .ok (.ifCond .eq 7, 3) := by decide +kernel
theorem dX3_atHome_8 : decode cX3_atHome 8 = .ok (.iconst 0, 1) := by decide +kernel
theorem dX3_atHome_9 : decode cX3_atHome 9 = .ok (.goto 4, 3) := by decide +kernel
theorem dX3_atHome_12 : decode cX3_atHome 12 = .ok (.iconst 1, 1) := by decide +kernel
theorem dX3_atHome_13 : decode cX3_atHome 13 = .ok (.putfield 44, 3) := by decide +kernel
theorem dX3_atHome_16 : decode cX3_atHome 16 = .ok (.aload_n 0, 1) := by decide +kernel
theorem dX3_atHome_17 : decode cX3_atHome 17 = .ok (.getfield 44, 3) := by decide +kernel
theorem dX3_atHome_20 : decode cX3_atHome 20 = .ok (.ifCond .ne 12, 3) := by decide +kernel
theorem dX3_atHome_23 : decode cX3_atHome 23 = .ok (.aload_n 0, 1) := by decide +kernel
theorem dX3_atHome_24 : decode cX3_atHome 24 = .ok (.getfield 13, 3) := by decide +kernel
theorem dX3_atHome_27 : decode cX3_atHome 27 = .ok (.iload_n 1, 1) := by decide +kernel
theorem dX3_atHome_28 : decode cX3_atHome 28 = .ok (.iaload, 1) := by decide +kernel
theorem dX3_atHome_29 : decode cX3_atHome 29 = .ok (.goto 4, 3) := by decide +kernel
theorem dX3_atHome_32 : decode cX3_atHome 32 = .ok (.iconst 0, 1) := by decide +kernel
theorem dX3_atHome_33 : decode cX3_atHome 33 = .ok (.ireturn, 1) := by decide +kernel
set_option maxRecDepth 20000 in
theorem ggX3_peek_X3_isWord : GoodIn wsX3_peek wsX3_isWord := goodIn_r _ [6] (by decide +kernel) (by decide +kernel)
set_option maxRecDepth 20000 in
theorem gX3_peek_X3_isWord : GoodIn wsX3_peek (va_wsS RX3 86 yX3_isWord wsX3_isWord) := goodIn_app (goodIn_of _ (by decide +kernel)) ggX3_peek_X3_isWord
theorem dX3_peek_0 : decode cX3_peek 0 = .ok (.aload_n 0, 1) := by decide +kernel
theorem dX3_peek_1 : decode cX3_peek 1 = .ok (.iload_n 1, 1) := by decide +kernel
theorem dX3_peek_2 : decode cX3_peek 2 = .ok (.invokestatic 86, 3) := by decide +kernel
theorem dX3_peek_5 : decode cX3_peek 5 = .ok (.ifCond .eq 7, 3) := by decide +kernel
theorem dX3_peek_8 : decode cX3_peek 8 = .ok (.iconst 0, 1) := by decide +kernel
theorem dX3_peek_9 : decode cX3_peek 9 = .ok (.goto 4, 3) := by decide +kernel
theorem dX3_peek_12 : decode cX3_peek 12 = .ok (.iconst 1, 1) := by decide +kernel
theorem dX3_peek_13 : decode cX3_peek 13 = .ok (.putfield 44, 3) := by decide +kernel
theorem dX3_peek_16 : decode cX3_peek 16 = .ok (.aload_n 0, 1) := by decide +kernel
theorem dX3_peek_17 : decode cX3_peek 17 = .ok (.getfield 44, 3) := by decide +kernel
theorem dX3_peek_20 : decode cX3_peek 20 = .ok (.ifCond .ne 12, 3) := by decide +kernel
theorem dX3_peek_23 : decode cX3_peek 23 = .ok (.aload_n 0, 1) := by decide +kernel
theorem dX3_peek_24 : decode cX3_peek 24 = .ok (.getfield 7, 3) := by decide +kernel
theorem dX3_peek_27 : decode cX3_peek 27 = .ok (.iload_n 1, 1) := by decide +kernel
theorem dX3_peek_28 : decode cX3_peek 28 = .ok (.iaload, 1) := by decide +kernel
theorem dX3_peek_29 : decode cX3_peek 29 = .ok (.goto 4, 3) := by decide +kernel
theorem dX3_peek_32 : decode cX3_peek 32 = .ok (.iconst 0, 1) := by decide +kernel
theorem dX3_peek_33 : decode cX3_peek 33 = .ok (.ireturn, 1) := by decide +kernel
theorem dX3_hits_0 : decode cX3_hits 0 = .ok (.aload_n 0, 1) := by decide +kernel
theorem dX3_hits_1 : decode cX3_hits 1 = .ok (.iconst 0, 1) := by decide +kernel
theorem dX3_hits_2 : decode cX3_hits 2 = .ok (.putfield 44, 3) := by decide +kernel
theorem dX3_hits_5 : decode cX3_hits 5 = .ok (.aload_n 0, 1) := by decide +kernel
theorem dX3_hits_6 : decode cX3_hits 6 = .ok (.getfield 74, 3) := by decide +kernel
theorem dX3_hits_9 : decode cX3_hits 9 = .ok (.ireturn, 1) := by decide +kernel
theorem dX3_swaps_0 : decode cX3_swaps 0 = .ok (.aload_n 0, 1) := by decide +kernel
theorem dX3_swaps_1 : decode cX3_swaps 1 = .ok (.iconst 0, 1) := by decide +kernel
theorem dX3_swaps_2 : decode cX3_swaps 2 = .ok (.putfield 44, 3) := by decide +kernel
theorem dX3_swaps_5 : decode cX3_swaps 5 = .ok (.aload_n 0, 1) := by decide +kernel
theorem dX3_swaps_6 : decode cX3_swaps 6 = .ok (.getfield 77, 3) := by decide +kernel
theorem dX3_swaps_9 : decode cX3_swaps 9 = .ok (.ireturn, 1) := by decide +kernel
theorem dX3_misses_0 : decode cX3_misses 0 = .ok (.aload_n 0, 1) := by decide +kernel
theorem dX3_misses_1 : decode cX3_misses 1 = .ok (.iconst 0, 1) := by decide +kernel
theorem dX3_misses_2 : decode cX3_misses 2 = .ok (.putfield 44, 3) := by decide +kernel
theorem dX3_misses_5 : decode cX3_misses 5 = .ok (.aload_n 0, 1) := by decide +kernel
theorem dX3_misses_6 : decode cX3_misses 6 = .ok (.getfield 80, 3) := by decide +kernel
theorem dX3_misses_9 : decode cX3_misses 9 = .ok (.ireturn, 1) := by decide +kernel
theorem dX3_homecomings_0 : decode cX3_homecomings 0 = .ok (.aload_n 0, 1) := by decide +kernel
theorem dX3_homecomings_1 : decode cX3_homecomings 1 = .ok (.iconst 0, 1) := by decide +kernel
theorem dX3_homecomings_2 : decode cX3_homecomings 2 = .ok (.putfield 44, 3) := by decide +kernel
theorem dX3_homecomings_5 : decode cX3_homecomings 5 = .ok (.aload_n 0, 1) := by decide +kernel
theorem dX3_homecomings_6 : decode cX3_homecomings 6 = .ok (.getfield 48, 3) := by decide +kernel
theorem dX3_homecomings_9 : decode cX3_homecomings 9 = .ok (.ireturn, 1) := by decide +kernel
theorem dX3_cost_0 : decode cX3_cost 0 = .ok (.aload_n 0, 1) := by decide +kernel
theorem dX3_cost_1 : decode cX3_cost 1 = .ok (.iconst 0, 1) := by decide +kernel
theorem dX3_cost_2 : decode cX3_cost 2 = .ok (.putfield 44, 3) := by decide +kernel
theorem dX3_cost_5 : decode cX3_cost 5 = .ok (.aload_n 0, 1) := by decide +kernel
theorem dX3_cost_6 : decode cX3_cost 6 = .ok (.getfield 34, 3) := by decide +kernel
theorem dX3_cost_9 : decode cX3_cost 9 = .ok (.iconst 0, 1) := by decide +kernel
theorem dX3_cost_10 : decode cX3_cost 10 = .ok (.iaload, 1) := by decide +kernel
theorem dX3_cost_11 : decode cX3_cost 11 = .ok (.ireturn, 1) := by decide +kernel
set_option maxRecDepth 20000 in
theorem ggX3_tried_X3_empties : GoodIn wsX3_tried wsX3_empties := goodIn_r _ [11, 12, 13, 6, 46, 47, 48, 49, 50, 51, 52, 53, 54, 55, 56, 57, 58, 59, 60, 61] (by decide +kernel) (by decide +kernel)
set_option maxRecDepth 20000 in
theorem gX3_tried_X3_empties : GoodIn wsX3_tried (wsV RX3 40 RX3 yX3_empties wsX3_empties) := goodIn_app (goodIn_of _ (by decide +kernel)) ggX3_tried_X3_empties
set_option maxRecDepth 20000 in
theorem ggX3_tried_X3_access : GoodIn wsX3_tried wsX3_access := goodIn_r _ [17, 1, 12, 3, 18, 19, 20, 10, 21, 13, 22, 23, 24, 25, 26, 27, 28, 29, 30, 31, 32, 33, 34, 2, 35, 36, 37, 38, 6, 39, 40, 41, 42, 43, 44, 45, 46, 47, 48, 49, 50, 51, 52, 53, 54, 55, 56, 57, 58, 59, 60, 61] (by decide +kernel) (by decide +kernel)
set_option maxRecDepth 20000 in
theorem gX3_tried_X3_access : GoodIn wsX3_tried (wsV RX3 71 RX3 yX3_access wsX3_access) := goodIn_app (goodIn_of _ (by decide +kernel)) ggX3_tried_X3_access
theorem dX3_tried_0 : decode cX3_tried 0 = .ok (.aload_n 0, 1) := by decide +kernel
theorem dX3_tried_1 : decode cX3_tried 1 = .ok (.iconst 1, 1) := by decide +kernel
theorem dX3_tried_2 : decode cX3_tried 2 = .ok (.invokevirtual 40, 3) := by decide +kernel
theorem dX3_tried_5 : decode cX3_tried 5 = .ok (.aload_n 0, 1) := by decide +kernel
theorem dX3_tried_6 : decode cX3_tried 6 = .ok (.getfield 16, 3) := by decide +kernel
theorem dX3_tried_9 : decode cX3_tried 9 = .ok (.iconst 1, 1) := by decide +kernel
theorem dX3_tried_10 : decode cX3_tried 10 = .ok (.iload_n 1, 1) := by decide +kernel
theorem dX3_tried_11 : decode cX3_tried 11 = .ok (.iastore, 1) := by decide +kernel
theorem dX3_tried_12 : decode cX3_tried 12 = .ok (.aload_n 0, 1) := by decide +kernel
theorem dX3_tried_13 : decode cX3_tried 13 = .ok (.getfield 19, 3) := by decide +kernel
theorem dX3_tried_16 : decode cX3_tried 16 = .ok (.iconst 1, 1) := by decide +kernel
theorem dX3_tried_17 : decode cX3_tried 17 = .ok (.iload_n 2, 1) := by decide +kernel
theorem dX3_tried_18 : decode cX3_tried 18 = .ok (.iastore, 1) := by decide +kernel
theorem dX3_tried_19 : decode cX3_tried 19 = .ok (.aload_n 0, 1) := by decide +kernel
theorem dX3_tried_20 : decode cX3_tried 20 = .ok (.getfield 34, 3) := by decide +kernel
theorem dX3_tried_23 : decode cX3_tried 23 = .ok (.iconst 1, 1) := by decide +kernel
theorem dX3_tried_24 : decode cX3_tried 24 = .ok (.iconst 0, 1) := by decide +kernel
theorem dX3_tried_25 : decode cX3_tried 25 = .ok (.iastore, 1) := by decide +kernel
theorem dX3_tried_26 : decode cX3_tried 26 = .ok (.iconst 0, 1) := by decide +kernel
theorem dX3_tried_27 : decode cX3_tried 27 = .ok (.istore_n 3, 1) := by decide +kernel
theorem dX3_tried_28 : decode cX3_tried 28 = .ok (.iload_n 3, 1) := by decide +kernel
theorem dX3_tried_29 : decode cX3_tried 29 = .ok (.aload_n 0, 1) := by decide +kernel
theorem dX3_tried_30 : decode cX3_tried 30 = .ok (.getfield 83, 3) := by decide +kernel
theorem dX3_tried_33 : decode cX3_tried 33 = .ok (.if_icmp .ge 66, 3) := by decide +kernel
theorem dX3_tried_36 : decode cX3_tried 36 = .ok (.aload_n 0, 1) := by decide +kernel
theorem dX3_tried_37 : decode cX3_tried 37 = .ok (.getfield 37, 3) := by decide +kernel
theorem dX3_tried_40 : decode cX3_tried 40 = .ok (.iload_n 3, 1) := by decide +kernel
theorem dX3_tried_41 : decode cX3_tried 41 = .ok (.iaload, 1) := by decide +kernel
theorem dX3_tried_42 : decode cX3_tried 42 = .ok (.iconst 2, 1) := by decide +kernel
theorem dX3_tried_43 : decode cX3_tried 43 = .ok (.idiv, 1) := by decide +kernel
theorem dX3_tried_44 : decode cX3_tried 44 = .ok (.istore 4, 2) := by decide +kernel
theorem dX3_tried_46 : decode cX3_tried 46 = .ok (.aload_n 0, 1) := by decide +kernel
theorem dX3_tried_47 : decode cX3_tried 47 = .ok (.iconst 1, 1) := by decide +kernel
theorem dX3_tried_48 : decode cX3_tried 48 = .ok (.iload 4, 2) := by decide +kernel
theorem dX3_tried_50 : decode cX3_tried 50 = .ok (.invokevirtual 71, 3) := by decide +kernel
theorem dX3_tried_53 : decode cX3_tried 53 = .ok (.istore 5, 2) := by decide +kernel
theorem dX3_tried_55 : decode cX3_tried 55 = .ok (.aload_n 0, 1) := by decide +kernel
theorem dX3_tried_56 : decode cX3_tried 56 = .ok (.getfield 31, 3) := by decide +kernel
theorem dX3_tried_59 : decode cX3_tried 59 = .ok (.sipush 256, 3) := by decide +kernel
theorem dX3_tried_62 : decode cX3_tried 62 = .ok (.iload 4, 2) := by decide +kernel
theorem dX3_tried_64 : decode cX3_tried 64 = .ok (.iadd, 1) := by decide +kernel
theorem dX3_tried_65 : decode cX3_tried 65 = .ok (.aload_n 0, 1) := by decide +kernel
theorem dX3_tried_66 : decode cX3_tried 66 = .ok (.getfield 37, 3) := by decide +kernel
theorem dX3_tried_69 : decode cX3_tried 69 = .ok (.iload_n 3, 1) := by decide +kernel
theorem dX3_tried_70 : decode cX3_tried 70 = .ok (.iaload, 1) := by decide +kernel
theorem dX3_tried_71 : decode cX3_tried 71 = .ok (.iconst 2, 1) := by decide +kernel
theorem dX3_tried_72 : decode cX3_tried 72 = .ok (.irem, 1) := by decide +kernel
theorem dX3_tried_73 : decode cX3_tried 73 = .ok (.iconst 1, 1) := by decide +kernel
theorem dX3_tried_74 : decode cX3_tried 74 = .ok (.if_icmp .ne 7, 3) := by decide +kernel
theorem dX3_tried_77 : decode cX3_tried 77 = .ok (.iconst 1, 1) := by decide +kernel
theorem dX3_tried_78 : decode cX3_tried 78 = .ok (.goto 14, 3) := by decide +kernel
theorem dX3_tried_81 : decode cX3_tried 81 = .ok (.aload_n 0, 1) := by decide +kernel
theorem dX3_tried_82 : decode cX3_tried 82 = .ok (.getfield 31, 3) := by decide +kernel
theorem dX3_tried_85 : decode cX3_tried 85 = .ok (.sipush 256, 3) := by decide +kernel
theorem dX3_tried_88 : decode cX3_tried 88 = .ok (.iload 4, 2) := by decide +kernel
theorem dX3_tried_90 : decode cX3_tried 90 = .ok (.iadd, 1) := by decide +kernel
theorem dX3_tried_91 : decode cX3_tried 91 = .ok (.iaload, 1) := by decide +kernel
theorem dX3_tried_92 : decode cX3_tried 92 = .ok (.iastore, 1) := by decide +kernel
theorem dX3_tried_93 : decode cX3_tried 93 = .ok (.iinc 3 1, 3) := by decide +kernel
theorem dX3_tried_96 : decode cX3_tried 96 = .ok (.goto (-68), 3) := by decide +kernel
theorem dX3_tried_99 : decode cX3_tried 99 = .ok (.aload_n 0, 1) := by decide +kernel
theorem dX3_tried_100 : decode cX3_tried 100 = .ok (.getfield 34, 3) := by decide +kernel
theorem dX3_tried_103 : decode cX3_tried 103 = .ok (.iconst 1, 1) := by decide +kernel
theorem dX3_tried_104 : decode cX3_tried 104 = .ok (.iaload, 1) := by decide +kernel
theorem dX3_tried_105 : decode cX3_tried 105 = .ok (.ireturn, 1) := by decide +kernel
set_option maxRecDepth 20000 in
theorem ggX3_wouldCost_X3_isSize : GoodIn wsX3_wouldCost wsX3_isSize := goodIn_r _ [5] (by decide +kernel) (by decide +kernel)
set_option maxRecDepth 20000 in
theorem gX3_wouldCost_X3_isSize : GoodIn wsX3_wouldCost (va_wsS RX3 98 yX3_isSize wsX3_isSize) := goodIn_app (goodIn_of _ (by decide +kernel)) ggX3_wouldCost_X3_isSize
set_option maxRecDepth 20000 in
theorem ggX3_wouldCost_X3_tried : GoodIn wsX3_wouldCost wsX3_tried := goodIn_r _ [9, 10, 11, 12, 13, 14, 15, 16, 17, 18, 4, 19, 20, 21, 22, 23, 24, 25, 26, 27, 28, 29, 30, 31, 32, 33, 34, 35, 36, 37, 38, 39, 40, 41, 42, 43, 44, 45, 46, 47, 48, 49, 50, 51, 52, 53, 54, 55, 56, 57, 58, 59, 60, 61, 62, 63, 64, 65, 66, 67, 68, 69] (by decide +kernel) (by decide +kernel)
set_option maxRecDepth 20000 in
theorem gX3_wouldCost_X3_tried : GoodIn wsX3_wouldCost (wsV RX3 111 RX3 yX3_tried wsX3_tried) := goodIn_app (goodIn_of _ (by decide +kernel)) ggX3_wouldCost_X3_tried
theorem dX3_wouldCost_0 : decode cX3_wouldCost 0 = .ok (.aload_n 0, 1) := by decide +kernel
theorem dX3_wouldCost_1 : decode cX3_wouldCost 1 = .ok (.iload_n 1, 1) := by decide +kernel
theorem dX3_wouldCost_2 : decode cX3_wouldCost 2 = .ok (.iload_n 2, 1) := by decide +kernel
theorem dX3_wouldCost_3 : decode cX3_wouldCost 3 = .ok (.invokestatic 98, 3) := by decide +kernel
theorem dX3_wouldCost_6 : decode cX3_wouldCost 6 = .ok (.ifCond .eq 7, 3) := by decide +kernel
theorem dX3_wouldCost_9 : decode cX3_wouldCost 9 = .ok (.iconst 0, 1) := by decide +kernel
theorem dX3_wouldCost_10 : decode cX3_wouldCost 10 = .ok (.goto 4, 3) := by decide +kernel
theorem dX3_wouldCost_13 : decode cX3_wouldCost 13 = .ok (.iconst 1, 1) := by decide +kernel
theorem dX3_wouldCost_14 : decode cX3_wouldCost 14 = .ok (.putfield 44, 3) := by decide +kernel
theorem dX3_wouldCost_17 : decode cX3_wouldCost 17 = .ok (.aload_n 0, 1) := by decide +kernel
theorem dX3_wouldCost_18 : decode cX3_wouldCost 18 = .ok (.getfield 44, 3) := by decide +kernel
theorem dX3_wouldCost_21 : decode cX3_wouldCost 21 = .ok (.ifCond .ne 12, 3) := by decide +kernel
theorem dX3_wouldCost_24 : decode cX3_wouldCost 24 = .ok (.aload_n 0, 1) := by decide +kernel
theorem dX3_wouldCost_25 : decode cX3_wouldCost 25 = .ok (.iload_n 1, 1) := by decide +kernel
theorem dX3_wouldCost_26 : decode cX3_wouldCost 26 = .ok (.iload_n 2, 1) := by decide +kernel
theorem dX3_wouldCost_27 : decode cX3_wouldCost 27 = .ok (.invokevirtual 111, 3) := by decide +kernel
theorem dX3_wouldCost_30 : decode cX3_wouldCost 30 = .ok (.goto 4, 3) := by decide +kernel
theorem dX3_wouldCost_33 : decode cX3_wouldCost 33 = .ok (.iconst 0, 1) := by decide +kernel
theorem dX3_wouldCost_34 : decode cX3_wouldCost 34 = .ok (.ireturn, 1) := by decide +kernel
set_option maxRecDepth 20000 in
theorem ggX3_bestPlaces_X3_tried : GoodIn wsX3_bestPlaces wsX3_tried := goodIn_r _ [7, 2, 8, 9, 10, 11, 12, 13, 14, 15, 6, 16, 17, 18, 19, 20, 21, 22, 23, 24, 25, 26, 27, 28, 29, 30, 31, 32, 33, 34, 35, 36, 37, 38, 39, 40, 41, 42, 43, 44, 45, 46, 47, 48, 49, 50, 51, 52, 53, 54, 55, 56, 57, 58, 59, 60, 61, 62, 63, 64, 65, 66] (by decide +kernel) (by decide +kernel)
set_option maxRecDepth 20000 in
theorem gX3_bestPlaces_X3_tried : GoodIn wsX3_bestPlaces (wsV RX3 111 RX3 yX3_tried wsX3_tried) := goodIn_app (goodIn_of _ (by decide +kernel)) ggX3_bestPlaces_X3_tried
theorem dX3_bestPlaces_0 : decode cX3_bestPlaces 0 = .ok (.aload_n 0, 1) := by decide +kernel
theorem dX3_bestPlaces_1 : decode cX3_bestPlaces 1 = .ok (.iconst 0, 1) := by decide +kernel
theorem dX3_bestPlaces_2 : decode cX3_bestPlaces 2 = .ok (.putfield 44, 3) := by decide +kernel
theorem dX3_bestPlaces_5 : decode cX3_bestPlaces 5 = .ok (.iconst 0, 1) := by decide +kernel
theorem dX3_bestPlaces_6 : decode cX3_bestPlaces 6 = .ok (.istore_n 1, 1) := by decide +kernel
theorem dX3_bestPlaces_7 : decode cX3_bestPlaces 7 = .ok (.aload_n 0, 1) := by decide +kernel
theorem dX3_bestPlaces_8 : decode cX3_bestPlaces 8 = .ok (.aload_n 0, 1) := by decide +kernel
theorem dX3_bestPlaces_9 : decode cX3_bestPlaces 9 = .ok (.getfield 16, 3) := by decide +kernel
theorem dX3_bestPlaces_12 : decode cX3_bestPlaces 12 = .ok (.iconst 0, 1) := by decide +kernel
theorem dX3_bestPlaces_13 : decode cX3_bestPlaces 13 = .ok (.iaload, 1) := by decide +kernel
theorem dX3_bestPlaces_14 : decode cX3_bestPlaces 14 = .ok (.iconst 0, 1) := by decide +kernel
theorem dX3_bestPlaces_15 : decode cX3_bestPlaces 15 = .ok (.invokevirtual 111, 3) := by decide +kernel
theorem dX3_bestPlaces_18 : decode cX3_bestPlaces 18 = .ok (.istore_n 2, 1) := by decide +kernel
theorem dX3_bestPlaces_19 : decode cX3_bestPlaces 19 = .ok (.iconst 1, 1) := by decide +kernel
theorem dX3_bestPlaces_20 : decode cX3_bestPlaces 20 = .ok (.istore_n 3, 1) := by decide +kernel
theorem dX3_bestPlaces_21 : decode cX3_bestPlaces 21 = .ok (.iload_n 3, 1) := by decide +kernel
theorem dX3_bestPlaces_22 : decode cX3_bestPlaces 22 = .ok (.bipush 8, 2) := by decide +kernel
theorem dX3_bestPlaces_24 : decode cX3_bestPlaces 24 = .ok (.if_icmp .gt 47, 3) := by decide +kernel
theorem dX3_bestPlaces_27 : decode cX3_bestPlaces 27 = .ok (.aload_n 0, 1) := by decide +kernel
theorem dX3_bestPlaces_28 : decode cX3_bestPlaces 28 = .ok (.aload_n 0, 1) := by decide +kernel
theorem dX3_bestPlaces_29 : decode cX3_bestPlaces 29 = .ok (.getfield 16, 3) := by decide +kernel
theorem dX3_bestPlaces_32 : decode cX3_bestPlaces 32 = .ok (.iconst 0, 1) := by decide +kernel
theorem dX3_bestPlaces_33 : decode cX3_bestPlaces 33 = .ok (.iaload, 1) := by decide +kernel
theorem dX3_bestPlaces_34 : decode cX3_bestPlaces 34 = .ok (.iload_n 3, 1) := by decide +kernel
theorem dX3_bestPlaces_35 : decode cX3_bestPlaces 35 = .ok (.invokevirtual 111, 3) := by decide +kernel
theorem dX3_bestPlaces_38 : decode cX3_bestPlaces 38 = .ok (.istore 4, 2) := by decide +kernel
theorem dX3_bestPlaces_40 : decode cX3_bestPlaces 40 = .ok (.iload 4, 2) := by decide +kernel
theorem dX3_bestPlaces_42 : decode cX3_bestPlaces 42 = .ok (.iload_n 2, 1) := by decide +kernel
theorem dX3_bestPlaces_43 : decode cX3_bestPlaces 43 = .ok (.if_icmp .ge 7, 3) := by decide +kernel
theorem dX3_bestPlaces_46 : decode cX3_bestPlaces 46 = .ok (.iload_n 3, 1) := by decide +kernel
theorem dX3_bestPlaces_47 : decode cX3_bestPlaces 47 = .ok (.goto 4, 3) := by decide +kernel
theorem dX3_bestPlaces_50 : decode cX3_bestPlaces 50 = .ok (.iload_n 1, 1) := by decide +kernel
theorem dX3_bestPlaces_51 : decode cX3_bestPlaces 51 = .ok (.istore_n 1, 1) := by decide +kernel
theorem dX3_bestPlaces_52 : decode cX3_bestPlaces 52 = .ok (.iload 4, 2) := by decide +kernel
theorem dX3_bestPlaces_54 : decode cX3_bestPlaces 54 = .ok (.iload_n 2, 1) := by decide +kernel
theorem dX3_bestPlaces_55 : decode cX3_bestPlaces 55 = .ok (.if_icmp .ge 8, 3) := by decide +kernel
theorem dX3_bestPlaces_58 : decode cX3_bestPlaces 58 = .ok (.iload 4, 2) := by decide +kernel
theorem dX3_bestPlaces_60 : decode cX3_bestPlaces 60 = .ok (.goto 4, 3) := by decide +kernel
theorem dX3_bestPlaces_63 : decode cX3_bestPlaces 63 = .ok (.iload_n 2, 1) := by decide +kernel
theorem dX3_bestPlaces_64 : decode cX3_bestPlaces 64 = .ok (.istore_n 2, 1) := by decide +kernel
theorem dX3_bestPlaces_65 : decode cX3_bestPlaces 65 = .ok (.iinc 3 1, 3) := by decide +kernel
theorem dX3_bestPlaces_68 : decode cX3_bestPlaces 68 = .ok (.goto (-47), 3) := by decide +kernel
theorem dX3_bestPlaces_71 : decode cX3_bestPlaces 71 = .ok (.iload_n 1, 1) := by decide +kernel
theorem dX3_bestPlaces_72 : decode cX3_bestPlaces 72 = .ok (.ireturn, 1) := by decide +kernel
theorem dJ9_floorMod_7cf53_0 : decode cJ9_floorMod_7cf53 0 = .ok (.iload_n 0, 1) := by decide +kernel
theorem dJ9_floorMod_7cf53_1 : decode cJ9_floorMod_7cf53 1 = .ok (.iload_n 1, 1) := by decide +kernel
theorem dJ9_floorMod_7cf53_2 : decode cJ9_floorMod_7cf53 2 = .ok (.irem, 1) := by decide +kernel
theorem dJ9_floorMod_7cf53_3 : decode cJ9_floorMod_7cf53 3 = .ok (.istore_n 2, 1) := by decide +kernel
theorem dJ9_floorMod_7cf53_4 : decode cJ9_floorMod_7cf53 4 = .ok (.iload_n 0, 1) := by decide +kernel
theorem dJ9_floorMod_7cf53_5 : decode cJ9_floorMod_7cf53 5 = .ok (.iload_n 1, 1) := by decide +kernel
theorem dJ9_floorMod_7cf53_6 : decode cJ9_floorMod_7cf53 6 = .ok (.ixor, 1) := by decide +kernel
theorem dJ9_floorMod_7cf53_7 : decode cJ9_floorMod_7cf53 7 = .ok (.ifCond .ge 11, 3) := by decide +kernel
theorem dJ9_floorMod_7cf53_10 : decode cJ9_floorMod_7cf53 10 = .ok (.iload_n 2, 1) := by decide +kernel
theorem dJ9_floorMod_7cf53_11 : decode cJ9_floorMod_7cf53 11 = .ok (.ifCond .eq 7, 3) := by decide +kernel
theorem dJ9_floorMod_7cf53_14 : decode cJ9_floorMod_7cf53 14 = .ok (.iload_n 2, 1) := by decide +kernel
theorem dJ9_floorMod_7cf53_15 : decode cJ9_floorMod_7cf53 15 = .ok (.iload_n 1, 1) := by decide +kernel
theorem dJ9_floorMod_7cf53_16 : decode cJ9_floorMod_7cf53 16 = .ok (.iadd, 1) := by decide +kernel
theorem dJ9_floorMod_7cf53_17 : decode cJ9_floorMod_7cf53 17 = .ok (.ireturn, 1) := by decide +kernel
theorem dJ9_floorMod_7cf53_18 : decode cJ9_floorMod_7cf53 18 = .ok (.iload_n 2, 1) := by decide +kernel
theorem dJ9_floorMod_7cf53_19 : decode cJ9_floorMod_7cf53 19 = .ok (.ireturn, 1) := by decide +kernel
theorem dJ7_fill_53178_0 : decode cJ7_fill_53178 0 = .ok (.iconst 0, 1) := by decide +kernel
theorem dJ7_fill_53178_1 : decode cJ7_fill_53178 1 = .ok (.istore_n 2, 1) := by decide +kernel
theorem dJ7_fill_53178_2 : decode cJ7_fill_53178 2 = .ok (.aload_n 0, 1) := by decide +kernel
theorem dJ7_fill_53178_3 : decode cJ7_fill_53178 3 = .ok (.arraylength, 1) := by decide +kernel
theorem dJ7_fill_53178_4 : decode cJ7_fill_53178 4 = .ok (.istore_n 3, 1) := by decide +kernel
theorem dJ7_fill_53178_5 : decode cJ7_fill_53178 5 = .ok (.iload_n 2, 1) := by decide +kernel
theorem dJ7_fill_53178_6 : decode cJ7_fill_53178 6 = .ok (.iload_n 3, 1) := by decide +kernel
theorem dJ7_fill_53178_7 : decode cJ7_fill_53178 7 = .ok (.if_icmp .ge 13, 3) := by decide +kernel
theorem dJ7_fill_53178_10 : decode cJ7_fill_53178 10 = .ok (.aload_n 0, 1) := by decide +kernel
theorem dJ7_fill_53178_11 : decode cJ7_fill_53178 11 = .ok (.iload_n 2, 1) := by decide +kernel
theorem dJ7_fill_53178_12 : decode cJ7_fill_53178 12 = .ok (.iload_n 1, 1) := by decide +kernel
theorem dJ7_fill_53178_13 : decode cJ7_fill_53178 13 = .ok (.iastore, 1) := by decide +kernel
theorem dJ7_fill_53178_14 : decode cJ7_fill_53178 14 = .ok (.iinc 2 1, 3) := by decide +kernel
theorem dJ7_fill_53178_17 : decode cJ7_fill_53178 17 = .ok (.goto (-12), 3) := by decide +kernel
theorem dJ7_fill_53178_20 : decode cJ7_fill_53178 20 = .ok (.return_, 1) := by decide +kernel
