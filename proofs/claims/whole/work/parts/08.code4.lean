theorem dX6_placesWith_43 : decode cX6_placesWith 43 = .ok (.iadd, 1) := by decide +kernel
theorem dX6_placesWith_44 : decode cX6_placesWith 44 = .ok (.istore_n 2, 1) := by decide +kernel
theorem dX6_placesWith_45 : decode cX6_placesWith 45 = .ok (.iinc 4 1, 3) := by decide +kernel
theorem dX6_placesWith_48 : decode cX6_placesWith 48 = .ok (.goto (-31), 3) := by decide +kernel
theorem dX6_placesWith_51 : decode cX6_placesWith 51 = .ok (.iinc 3 1, 3) := by decide +kernel
theorem dX6_placesWith_54 : decode cX6_placesWith 54 = .ok (.goto (-50), 3) := by decide +kernel
theorem dX6_placesWith_57 : decode cX6_placesWith 57 = .ok (.iload_n 2, 1) := by decide +kernel
theorem dX6_placesWith_58 : decode cX6_placesWith 58 = .ok (.ireturn, 1) := by decide +kernel
set_option maxRecDepth 20000 in
theorem ggX6_has_X6_of : GoodIn wsX6_has wsX6_of := goodIn_r _ [5, 6, 7, 8, 9, 10, 11, 12, 13, 14, 15, 16, 17, 18, 19, 20, 21, 22] (by decide +kernel) (by decide +kernel)
set_option maxRecDepth 20000 in
theorem gX6_has_X6_of : GoodIn wsX6_has (wsV RX6 39 RX6 yX6_of wsX6_of) := goodIn_app (goodIn_of _ (by decide +kernel)) ggX6_has_X6_of
theorem dX6_has_0 : decode cX6_has 0 = .ok (.iconst 0, 1) := by decide +kernel
theorem dX6_has_1 : decode cX6_has 1 = .ok (.istore_n 3, 1) := by decide +kernel
theorem dX6_has_2 : decode cX6_has 2 = .ok (.iconst 0, 1) := by decide +kernel
theorem dX6_has_3 : decode cX6_has 3 = .ok (.istore 4, 2) := by decide +kernel
theorem dX6_has_5 : decode cX6_has 5 = .ok (.iload 4, 2) := by decide +kernel
theorem dX6_has_7 : decode cX6_has 7 = .ok (.bipush 6, 2) := by decide +kernel
theorem dX6_has_9 : decode cX6_has 9 = .ok (.if_icmp .ge 32, 3) := by decide +kernel
theorem dX6_has_12 : decode cX6_has 12 = .ok (.iload_n 3, 1) := by decide +kernel
theorem dX6_has_13 : decode cX6_has 13 = .ok (.ifCond .ne 16, 3) := by decide +kernel
theorem dX6_has_16 : decode cX6_has 16 = .ok (.aload_n 0, 1) := by decide +kernel
theorem dX6_has_17 : decode cX6_has 17 = .ok (.iload_n 1, 1) := by decide +kernel
theorem dX6_has_18 : decode cX6_has 18 = .ok (.iconst 2, 1) := by decide +kernel
theorem dX6_has_19 : decode cX6_has 19 = .ok (.iload 4, 2) := by decide +kernel
theorem dX6_has_21 : decode cX6_has 21 = .ok (.iadd, 1) := by decide +kernel
theorem dX6_has_22 : decode cX6_has 22 = .ok (.invokevirtual 39, 3) := by decide +kernel
theorem dX6_has_25 : decode cX6_has 25 = .ok (.iload_n 2, 1) := by decide +kernel
theorem dX6_has_26 : decode cX6_has 26 = .ok (.if_icmp .ne 7, 3) := by decide +kernel
theorem dX6_has_29 : decode cX6_has 29 = .ok (.iconst 1, 1) := by decide +kernel
theorem dX6_has_30 : decode cX6_has 30 = .ok (.goto 4, 3) := by decide +kernel
theorem dX6_has_33 : decode cX6_has 33 = .ok (.iconst 0, 1) := by decide +kernel
theorem dX6_has_34 : decode cX6_has 34 = .ok (.istore_n 3, 1) := by decide +kernel
theorem dX6_has_35 : decode cX6_has 35 = .ok (.iinc 4 1, 3) := by decide +kernel
theorem dX6_has_38 : decode cX6_has 38 = .ok (.goto (-33), 3) := by decide +kernel
theorem dX6_has_41 : decode cX6_has 41 = .ok (.iload_n 3, 1) := by decide +kernel
theorem dX6_has_42 : decode cX6_has 42 = .ok (.ireturn, 1) := by decide +kernel
set_option maxRecDepth 20000 in
theorem ggX6_statesWith_X6_has : GoodIn wsX6_statesWith wsX6_has := goodIn_r _ [6, 7, 8, 9, 5, 10, 1, 11, 12, 13, 14, 15, 16, 17, 18, 19, 20, 21, 22, 23, 24, 25, 26] (by decide +kernel) (by decide +kernel)
set_option maxRecDepth 20000 in
theorem gX6_statesWith_X6_has : GoodIn wsX6_statesWith (wsV RX6 58 RX6 yX6_has wsX6_has) := goodIn_app (goodIn_of _ (by decide +kernel)) ggX6_statesWith_X6_has
theorem dX6_statesWith_0 : decode cX6_statesWith 0 = .ok (.iconst 0, 1) := by decide +kernel
theorem dX6_statesWith_1 : decode cX6_statesWith 1 = .ok (.istore_n 2, 1) := by decide +kernel
theorem dX6_statesWith_2 : decode cX6_statesWith 2 = .ok (.iconst 0, 1) := by decide +kernel
theorem dX6_statesWith_3 : decode cX6_statesWith 3 = .ok (.istore_n 3, 1) := by decide +kernel
theorem dX6_statesWith_4 : decode cX6_statesWith 4 = .ok (.iload_n 3, 1) := by decide +kernel
theorem dX6_statesWith_5 : decode cX6_statesWith 5 = .ok (.aload_n 0, 1) := by decide +kernel
theorem dX6_statesWith_6 : decode cX6_statesWith 6 = .ok (.getfield 7, 3) := by decide +kernel
theorem dX6_statesWith_9 : decode cX6_statesWith 9 = .ok (.iconst 0, 1) := by decide +kernel
theorem dX6_statesWith_10 : decode cX6_statesWith 10 = .ok (.iaload, 1) := by decide +kernel
theorem dX6_statesWith_11 : decode cX6_statesWith 11 = .ok (.if_icmp .ge 26, 3) := by decide +kernel
theorem dX6_statesWith_14 : decode cX6_statesWith 14 = .ok (.iload_n 2, 1) := by decide +kernel
theorem dX6_statesWith_15 : decode cX6_statesWith 15 = .ok (.aload_n 0, 1) := by decide +kernel
theorem dX6_statesWith_16 : decode cX6_statesWith 16 = .ok (.iload_n 3, 1) := by decide +kernel
theorem dX6_statesWith_17 : decode cX6_statesWith 17 = .ok (.iload_n 1, 1) := by decide +kernel
theorem dX6_statesWith_18 : decode cX6_statesWith 18 = .ok (.invokevirtual 58, 3) := by decide +kernel
theorem dX6_statesWith_21 : decode cX6_statesWith 21 = .ok (.ifCond .eq 7, 3) := by decide +kernel
theorem dX6_statesWith_24 : decode cX6_statesWith 24 = .ok (.iconst 1, 1) := by decide +kernel
theorem dX6_statesWith_25 : decode cX6_statesWith 25 = .ok (.goto 4, 3) := by decide +kernel
theorem dX6_statesWith_28 : decode cX6_statesWith 28 = .ok (.iconst 0, 1) := by decide +kernel
theorem dX6_statesWith_29 : decode cX6_statesWith 29 = .ok (.iadd, 1) := by decide +kernel
theorem dX6_statesWith_30 : decode cX6_statesWith 30 = .ok (.istore_n 2, 1) := by decide +kernel
theorem dX6_statesWith_31 : decode cX6_statesWith 31 = .ok (.iinc 3 1, 3) := by decide +kernel
theorem dX6_statesWith_34 : decode cX6_statesWith 34 = .ok (.goto (-30), 3) := by decide +kernel
theorem dX6_statesWith_37 : decode cX6_statesWith 37 = .ok (.iload_n 2, 1) := by decide +kernel
theorem dX6_statesWith_38 : decode cX6_statesWith 38 = .ok (.ireturn, 1) := by decide +kernel
set_option maxRecDepth 20000 in
theorem ggX6_loads_X6_cellOf : GoodIn wsX6_loads wsX6_cellOf := goodIn_r _ [6, 7, 8, 9, 5, 10, 11, 12, 13, 14, 15, 16, 17, 18, 19, 20, 21, 22, 23, 24, 25, 26, 27, 28, 29, 30, 31] (by decide +kernel) (by decide +kernel)
set_option maxRecDepth 20000 in
theorem gX6_loads_X6_cellOf : GoodIn wsX6_loads (wsV RX6 62 RX6 yX6_cellOf wsX6_cellOf) := goodIn_app (goodIn_of _ (by decide +kernel)) ggX6_loads_X6_cellOf
theorem dX6_loads_0 : decode cX6_loads 0 = .ok (.iconst 0, 1) := by decide +kernel
theorem dX6_loads_1 : decode cX6_loads 1 = .ok (.istore_n 2, 1) := by decide +kernel
theorem dX6_loads_2 : decode cX6_loads 2 = .ok (.iload_n 2, 1) := by decide +kernel
theorem dX6_loads_3 : decode cX6_loads 3 = .ok (.bipush 48, 2) := by decide +kernel
theorem dX6_loads_5 : decode cX6_loads 5 = .ok (.if_icmp .ge 21, 3) := by decide +kernel
theorem dX6_loads_8 : decode cX6_loads 8 = .ok (.aload_n 0, 1) := by decide +kernel
theorem dX6_loads_9 : decode cX6_loads 9 = .ok (.getfield 22, 3) := by decide +kernel
theorem dX6_loads_12 : decode cX6_loads 12 = .ok (.iload_n 2, 1) := by decide +kernel
theorem dX6_loads_13 : decode cX6_loads 13 = .ok (.aload_n 0, 1) := by decide +kernel
theorem dX6_loads_14 : decode cX6_loads 14 = .ok (.iload_n 1, 1) := by decide +kernel
theorem dX6_loads_15 : decode cX6_loads 15 = .ok (.iload_n 2, 1) := by decide +kernel
theorem dX6_loads_16 : decode cX6_loads 16 = .ok (.invokevirtual 62, 3) := by decide +kernel
theorem dX6_loads_19 : decode cX6_loads 19 = .ok (.iastore, 1) := by decide +kernel
theorem dX6_loads_20 : decode cX6_loads 20 = .ok (.iinc 2 1, 3) := by decide +kernel
theorem dX6_loads_23 : decode cX6_loads 23 = .ok (.goto (-21), 3) := by decide +kernel
theorem dX6_loads_26 : decode cX6_loads 26 = .ok (.return_, 1) := by decide +kernel
set_option maxRecDepth 20000 in
theorem ggX6_differs_X6_cellOf : GoodIn wsX6_differs wsX6_cellOf := goodIn_r _ [6, 7, 8, 9, 5, 10, 11, 12, 13, 14, 15, 16, 17, 18, 19, 20, 21, 22, 23, 24, 25, 26, 27, 28, 29, 30, 31] (by decide +kernel) (by decide +kernel)
set_option maxRecDepth 20000 in
theorem gX6_differs_X6_cellOf : GoodIn wsX6_differs (wsV RX6 62 RX6 yX6_cellOf wsX6_cellOf) := goodIn_app (goodIn_of _ (by decide +kernel)) ggX6_differs_X6_cellOf
theorem dX6_differs_0 : decode cX6_differs 0 = .ok (.iconst 0, 1) := by decide +kernel
theorem dX6_differs_1 : decode cX6_differs 1 = .ok (.istore_n 3, 1) := by decide +kernel
theorem dX6_differs_2 : decode cX6_differs 2 = .ok (.bipush 8, 2) := by decide +kernel
theorem dX6_differs_4 : decode cX6_differs 4 = .ok (.iload_n 2, 1) := by decide +kernel
theorem dX6_differs_5 : decode cX6_differs 5 = .ok (.imul, 1) := by decide +kernel
theorem dX6_differs_6 : decode cX6_differs 6 = .ok (.istore 4, 2) := by decide +kernel
theorem dX6_differs_8 : decode cX6_differs 8 = .ok (.iload 4, 2) := by decide +kernel
theorem dX6_differs_10 : decode cX6_differs 10 = .ok (.bipush 8, 2) := by decide +kernel
theorem dX6_differs_12 : decode cX6_differs 12 = .ok (.iload_n 2, 1) := by decide +kernel
theorem dX6_differs_13 : decode cX6_differs 13 = .ok (.imul, 1) := by decide +kernel
theorem dX6_differs_14 : decode cX6_differs 14 = .ok (.bipush 8, 2) := by decide +kernel
theorem dX6_differs_16 : decode cX6_differs 16 = .ok (.iadd, 1) := by decide +kernel
theorem dX6_differs_17 : decode cX6_differs 17 = .ok (.if_icmp .ge 36, 3) := by decide +kernel
theorem dX6_differs_20 : decode cX6_differs 20 = .ok (.iload_n 3, 1) := by decide +kernel
theorem dX6_differs_21 : decode cX6_differs 21 = .ok (.ifCond .ne 20, 3) := by decide +kernel
theorem dX6_differs_24 : decode cX6_differs 24 = .ok (.aload_n 0, 1) := by decide +kernel
theorem dX6_differs_25 : decode cX6_differs 25 = .ok (.getfield 22, 3) := by decide +kernel
theorem dX6_differs_28 : decode cX6_differs 28 = .ok (.iload 4, 2) := by decide +kernel
theorem dX6_differs_30 : decode cX6_differs 30 = .ok (.iaload, 1) := by decide +kernel
theorem dX6_differs_31 : decode cX6_differs 31 = .ok (.aload_n 0, 1) := by decide +kernel
theorem dX6_differs_32 : decode cX6_differs 32 = .ok (.iload_n 1, 1) := by decide +kernel
theorem dX6_differs_33 : decode cX6_differs 33 = .ok (.iload 4, 2) := by decide +kernel
theorem dX6_differs_35 : decode cX6_differs 35 = .ok (.invokevirtual 62, 3) := by decide +kernel
theorem dX6_differs_38 : decode cX6_differs 38 = .ok (.if_icmp .eq 7, 3) := by decide +kernel
theorem dX6_differs_41 : decode cX6_differs 41 = .ok (.iconst 1, 1) := by decide +kernel
theorem dX6_differs_42 : decode cX6_differs 42 = .ok (.goto 4, 3) := by decide +kernel
theorem dX6_differs_45 : decode cX6_differs 45 = .ok (.iconst 0, 1) := by decide +kernel
theorem dX6_differs_46 : decode cX6_differs 46 = .ok (.istore_n 3, 1) := by decide +kernel
theorem dX6_differs_47 : decode cX6_differs 47 = .ok (.iinc 4 1, 3) := by decide +kernel
theorem dX6_differs_50 : decode cX6_differs 50 = .ok (.goto (-42), 3) := by decide +kernel
theorem dX6_differs_53 : decode cX6_differs 53 = .ok (.iload_n 3, 1) := by decide +kernel
theorem dX6_differs_54 : decode cX6_differs 54 = .ok (.ireturn, 1) := by decide +kernel
set_option maxRecDepth 20000 in
theorem ggX6_found_X6_isBlock : GoodIn wsX6_found wsX6_isBlock := goodIn_r _ [7, 8, 9, 10, 6, 11, 16, 17, 18, 19, 20, 21, 22, 23, 24, 25, 26, 27, 28, 29, 30, 31] (by decide +kernel) (by decide +kernel)
set_option maxRecDepth 20000 in
theorem gX6_found_X6_isBlock : GoodIn wsX6_found (wsV RX6 65 RX6 yX6_isBlock wsX6_isBlock) := goodIn_app (goodIn_of _ (by decide +kernel)) ggX6_found_X6_isBlock
set_option maxRecDepth 20000 in
theorem ggX6_found_X6_inBlock : GoodIn wsX6_found wsX6_inBlock := goodIn_r _ [15, 8, 16, 17, 18, 19, 20, 21, 22, 23, 24, 25, 26, 27, 28, 29, 30, 31] (by decide +kernel) (by decide +kernel)
set_option maxRecDepth 20000 in
theorem gX6_found_X6_inBlock : GoodIn wsX6_found (wsV RX6 52 RX6 yX6_inBlock wsX6_inBlock) := goodIn_app (goodIn_of _ (by decide +kernel)) ggX6_found_X6_inBlock
theorem dX6_found_0 : decode cX6_found 0 = .ok (.iconst 0, 1) := by decide +kernel
theorem dX6_found_1 : decode cX6_found 1 = .ok (.istore_n 2, 1) := by decide +kernel
theorem dX6_found_2 : decode cX6_found 2 = .ok (.iload_n 2, 1) := by decide +kernel
theorem dX6_found_3 : decode cX6_found 3 = .ok (.bipush 40, 2) := by decide +kernel
theorem dX6_found_5 : decode cX6_found 5 = .ok (.if_icmp .ge 69, 3) := by decide +kernel
theorem dX6_found_8 : decode cX6_found 8 = .ok (.aload_n 0, 1) := by decide +kernel
theorem dX6_found_9 : decode cX6_found 9 = .ok (.iload_n 2, 1) := by decide +kernel
theorem dX6_found_10 : decode cX6_found 10 = .ok (.invokevirtual 65, 3) := by decide +kernel
theorem dX6_found_13 : decode cX6_found 13 = .ok (.istore_n 3, 1) := by decide +kernel
theorem dX6_found_14 : decode cX6_found 14 = .ok (.iconst 0, 1) := by decide +kernel
theorem dX6_found_15 : decode cX6_found 15 = .ok (.istore 4, 2) := by decide +kernel
theorem dX6_found_17 : decode cX6_found 17 = .ok (.iload 4, 2) := by decide +kernel
theorem dX6_found_19 : decode cX6_found 19 = .ok (.bipush 8, 2) := by decide +kernel
theorem dX6_found_21 : decode cX6_found 21 = .ok (.if_icmp .ge 41, 3) := by decide +kernel
theorem dX6_found_24 : decode cX6_found 24 = .ok (.iload_n 3, 1) := by decide +kernel
theorem dX6_found_25 : decode cX6_found 25 = .ok (.ifCond .eq 37, 3) := by decide +kernel
theorem dX6_found_28 : decode cX6_found 28 = .ok (.aload_n 0, 1) := by decide +kernel
theorem dX6_found_29 : decode cX6_found 29 = .ok (.iload_n 2, 1) := by decide +kernel
theorem dX6_found_30 : decode cX6_found 30 = .ok (.iload 4, 2) := by decide +kernel
theorem dX6_found_32 : decode cX6_found 32 = .ok (.invokevirtual 52, 3) := by decide +kernel
theorem dX6_found_35 : decode cX6_found 35 = .ok (.aload_n 0, 1) := by decide +kernel
theorem dX6_found_36 : decode cX6_found 36 = .ok (.getfield 22, 3) := by decide +kernel
theorem dX6_found_39 : decode cX6_found 39 = .ok (.bipush 8, 2) := by decide +kernel
theorem dX6_found_41 : decode cX6_found 41 = .ok (.iload_n 1, 1) := by decide +kernel
theorem dX6_found_42 : decode cX6_found 42 = .ok (.imul, 1) := by decide +kernel
theorem dX6_found_43 : decode cX6_found 43 = .ok (.iload 4, 2) := by decide +kernel
theorem dX6_found_45 : decode cX6_found 45 = .ok (.iadd, 1) := by decide +kernel
theorem dX6_found_46 : decode cX6_found 46 = .ok (.iaload, 1) := by decide +kernel
theorem dX6_found_47 : decode cX6_found 47 = .ok (.if_icmp .ne 7, 3) := by decide +kernel
theorem dX6_found_50 : decode cX6_found 50 = .ok (.iconst 1, 1) := by decide +kernel
theorem dX6_found_51 : decode cX6_found 51 = .ok (.goto 4, 3) := by decide +kernel
theorem dX6_found_54 : decode cX6_found 54 = .ok (.iconst 0, 1) := by decide +kernel
theorem dX6_found_55 : decode cX6_found 55 = .ok (.istore_n 3, 1) := by decide +kernel
theorem dX6_found_56 : decode cX6_found 56 = .ok (.iinc 4 1, 3) := by decide +kernel
theorem dX6_found_59 : decode cX6_found 59 = .ok (.goto (-42), 3) := by decide +kernel
theorem dX6_found_62 : decode cX6_found 62 = .ok (.iload_n 3, 1) := by decide +kernel
theorem dX6_found_63 : decode cX6_found 63 = .ok (.ifCond .eq 5, 3) := by decide +kernel
theorem dX6_found_66 : decode cX6_found 66 = .ok (.iload_n 2, 1) := by decide +kernel
theorem dX6_found_67 : decode cX6_found 67 = .ok (.ireturn, 1) := by decide +kernel
theorem dX6_found_68 : decode cX6_found 68 = .ok (.iinc 2 1, 3) := by decide +kernel
theorem dX6_found_71 : decode cX6_found 71 = .ok (.goto (-69), 3) := by decide +kernel
theorem dX6_found_74 : decode cX6_found 74 = .ok (.ldc 43, 2) := by decide +kernel
theorem dX6_found_76 : decode cX6_found 76 = .ok (.ireturn, 1) := by decide +kernel
theorem dX6_areSame_0 : decode cX6_areSame 0 = .ok (.iconst 1, 1) := by decide +kernel
theorem dX6_areSame_1 : decode cX6_areSame 1 = .ok (.istore_n 3, 1) := by decide +kernel
theorem dX6_areSame_2 : decode cX6_areSame 2 = .ok (.iconst 0, 1) := by decide +kernel
theorem dX6_areSame_3 : decode cX6_areSame 3 = .ok (.istore 4, 2) := by decide +kernel
theorem dX6_areSame_5 : decode cX6_areSame 5 = .ok (.iload 4, 2) := by decide +kernel
theorem dX6_areSame_7 : decode cX6_areSame 7 = .ok (.bipush 8, 2) := by decide +kernel
theorem dX6_areSame_9 : decode cX6_areSame 9 = .ok (.if_icmp .ge 46, 3) := by decide +kernel
theorem dX6_areSame_12 : decode cX6_areSame 12 = .ok (.iload_n 3, 1) := by decide +kernel
theorem dX6_areSame_13 : decode cX6_areSame 13 = .ok (.ifCond .eq 34, 3) := by decide +kernel
theorem dX6_areSame_16 : decode cX6_areSame 16 = .ok (.aload_n 0, 1) := by decide +kernel
theorem dX6_areSame_17 : decode cX6_areSame 17 = .ok (.getfield 22, 3) := by decide +kernel
theorem dX6_areSame_20 : decode cX6_areSame 20 = .ok (.bipush 8, 2) := by decide +kernel
theorem dX6_areSame_22 : decode cX6_areSame 22 = .ok (.iload_n 1, 1) := by decide +kernel
theorem dX6_areSame_23 : decode cX6_areSame 23 = .ok (.imul, 1) := by decide +kernel
theorem dX6_areSame_24 : decode cX6_areSame 24 = .ok (.iload 4, 2) := by decide +kernel
theorem dX6_areSame_26 : decode cX6_areSame 26 = .ok (.iadd, 1) := by decide +kernel
theorem dX6_areSame_27 : decode cX6_areSame 27 = .ok (.iaload, 1) := by decide +kernel
theorem dX6_areSame_28 : decode cX6_areSame 28 = .ok (.aload_n 0, 1) := by decide +kernel
theorem dX6_areSame_29 : decode cX6_areSame 29 = .ok (.getfield 22, 3) := by decide +kernel
theorem dX6_areSame_32 : decode cX6_areSame 32 = .ok (.bipush 8, 2) := by decide +kernel
theorem dX6_areSame_34 : decode cX6_areSame 34 = .ok (.iload_n 2, 1) := by decide +kernel
theorem dX6_areSame_35 : decode cX6_areSame 35 = .ok (.imul, 1) := by decide +kernel
theorem dX6_areSame_36 : decode cX6_areSame 36 = .ok (.iload 4, 2) := by decide +kernel
theorem dX6_areSame_38 : decode cX6_areSame 38 = .ok (.iadd, 1) := by decide +kernel
theorem dX6_areSame_39 : decode cX6_areSame 39 = .ok (.iaload, 1) := by decide +kernel
theorem dX6_areSame_40 : decode cX6_areSame 40 = .ok (.if_icmp .ne 7, 3) := by decide +kernel
theorem dX6_areSame_43 : decode cX6_areSame 43 = .ok (.iconst 1, 1) := by decide +kernel
theorem dX6_areSame_44 : decode cX6_areSame 44 = .ok (.goto 4, 3) := by decide +kernel
theorem dX6_areSame_47 : decode cX6_areSame 47 = .ok (.iconst 0, 1) := by decide +kernel
theorem dX6_areSame_48 : decode cX6_areSame 48 = .ok (.istore_n 3, 1) := by decide +kernel
theorem dX6_areSame_49 : decode cX6_areSame 49 = .ok (.iinc 4 1, 3) := by decide +kernel
theorem dX6_areSame_52 : decode cX6_areSame 52 = .ok (.goto (-47), 3) := by decide +kernel
theorem dX6_areSame_55 : decode cX6_areSame 55 = .ok (.iload_n 3, 1) := by decide +kernel
theorem dX6_areSame_56 : decode cX6_areSame 56 = .ok (.ireturn, 1) := by decide +kernel
set_option maxRecDepth 20000 in
theorem ggX6_needs_X6_found : GoodIn wsX6_needs wsX6_found := goodIn_r _ [6, 7, 8, 9, 10, 11, 5, 12, 1, 13, 14, 15, 16, 17, 18, 19, 36, 37, 38, 39, 40, 41, 42, 43, 44, 45, 46, 47, 48, 49, 50, 51] (by decide +kernel) (by decide +kernel)
set_option maxRecDepth 20000 in
theorem gX6_needs_X6_found : GoodIn wsX6_needs (wsV RX6 69 RX6 yX6_found wsX6_found) := goodIn_app (goodIn_of _ (by decide +kernel)) ggX6_needs_X6_found
set_option maxRecDepth 20000 in
theorem ggX6_needs_X6_differs : GoodIn wsX6_needs wsX6_differs := goodIn_r _ [23, 7, 24, 25, 26, 5, 27, 28, 29, 30, 31, 1, 16, 17, 18, 19, 36, 37, 38, 39, 40, 41, 42, 43, 44, 45, 46, 47, 48, 49, 50, 51] (by decide +kernel) (by decide +kernel)
set_option maxRecDepth 20000 in
theorem gX6_needs_X6_differs : GoodIn wsX6_needs (wsV RX6 72 RX6 yX6_differs wsX6_differs) := goodIn_app (goodIn_of _ (by decide +kernel)) ggX6_needs_X6_differs
set_option maxRecDepth 20000 in
theorem ggX6_needs_X6_areSame : GoodIn wsX6_needs wsX6_areSame := goodIn_r _ [35, 7, 36, 37, 38, 39, 40, 41, 42, 43, 44, 45, 46, 47, 48, 49, 50, 51] (by decide +kernel) (by decide +kernel)
set_option maxRecDepth 20000 in
theorem gX6_needs_X6_areSame : GoodIn wsX6_needs (wsV RX6 75 RX6 yX6_areSame wsX6_areSame) := goodIn_app (goodIn_of _ (by decide +kernel)) ggX6_needs_X6_areSame
theorem dX6_needs_0 : decode cX6_needs 0 = .ok (.iconst 0, 1) := by decide +kernel
theorem dX6_needs_1 : decode cX6_needs 1 = .ok (.istore_n 2, 1) := by decide +kernel
theorem dX6_needs_2 : decode cX6_needs 2 = .ok (.iconst 0, 1) := by decide +kernel
theorem dX6_needs_3 : decode cX6_needs 3 = .ok (.istore_n 3, 1) := by decide +kernel
theorem dX6_needs_4 : decode cX6_needs 4 = .ok (.iload_n 3, 1) := by decide +kernel
theorem dX6_needs_5 : decode cX6_needs 5 = .ok (.bipush 6, 2) := by decide +kernel
theorem dX6_needs_7 : decode cX6_needs 7 = .ok (.if_icmp .ge 113, 3) := by decide +kernel
theorem dX6_needs_10 : decode cX6_needs 10 = .ok (.aload_n 0, 1) := by decide +kernel
theorem dX6_needs_11 : decode cX6_needs 11 = .ok (.getfield 7, 3) := by decide +kernel
theorem dX6_needs_14 : decode cX6_needs 14 = .ok (.iconst 5, 1) := by decide +kernel
theorem dX6_needs_15 : decode cX6_needs 15 = .ok (.iaload, 1) := by decide +kernel
theorem dX6_needs_16 : decode cX6_needs 16 = .ok (.iconst 1, 1) := by decide +kernel
theorem dX6_needs_17 : decode cX6_needs 17 = .ok (.if_icmp .ne 15, 3) := by decide +kernel
theorem dX6_needs_20 : decode cX6_needs 20 = .ok (.aload_n 0, 1) := by decide +kernel
theorem dX6_needs_21 : decode cX6_needs 21 = .ok (.iload_n 3, 1) := by decide +kernel
theorem dX6_needs_22 : decode cX6_needs 22 = .ok (.invokevirtual 69, 3) := by decide +kernel
theorem dX6_needs_25 : decode cX6_needs 25 = .ok (.ifCond .lt 7, 3) := by decide +kernel
theorem dX6_needs_28 : decode cX6_needs 28 = .ok (.iconst 1, 1) := by decide +kernel
theorem dX6_needs_29 : decode cX6_needs 29 = .ok (.goto 4, 3) := by decide +kernel
theorem dX6_needs_32 : decode cX6_needs 32 = .ok (.iconst 0, 1) := by decide +kernel
theorem dX6_needs_33 : decode cX6_needs 33 = .ok (.istore 4, 2) := by decide +kernel
theorem dX6_needs_35 : decode cX6_needs 35 = .ok (.iconst 0, 1) := by decide +kernel
theorem dX6_needs_36 : decode cX6_needs 36 = .ok (.istore 5, 2) := by decide +kernel
theorem dX6_needs_38 : decode cX6_needs 38 = .ok (.iload 5, 2) := by decide +kernel
theorem dX6_needs_40 : decode cX6_needs 40 = .ok (.iload_n 3, 1) := by decide +kernel
theorem dX6_needs_41 : decode cX6_needs 41 = .ok (.if_icmp .ge 51, 3) := by decide +kernel
theorem dX6_needs_44 : decode cX6_needs 44 = .ok (.iload 4, 2) := by decide +kernel
theorem dX6_needs_46 : decode cX6_needs 46 = .ok (.ifCond .ne 33, 3) := by decide +kernel
theorem dX6_needs_49 : decode cX6_needs 49 = .ok (.aload_n 0, 1) := by decide +kernel
theorem dX6_needs_50 : decode cX6_needs 50 = .ok (.getfield 7, 3) := by decide +kernel
theorem dX6_needs_53 : decode cX6_needs 53 = .ok (.iconst 5, 1) := by decide +kernel
theorem dX6_needs_54 : decode cX6_needs 54 = .ok (.iaload, 1) := by decide +kernel
theorem dX6_needs_55 : decode cX6_needs 55 = .ok (.iconst 1, 1) := by decide +kernel
theorem dX6_needs_56 : decode cX6_needs 56 = .ok (.if_icmp .ne 27, 3) := by decide +kernel
theorem dX6_needs_59 : decode cX6_needs 59 = .ok (.aload_n 0, 1) := by decide +kernel
theorem dX6_needs_60 : decode cX6_needs 60 = .ok (.iload_n 1, 1) := by decide +kernel
theorem dX6_needs_61 : decode cX6_needs 61 = .ok (.iload 5, 2) := by decide +kernel
theorem dX6_needs_63 : decode cX6_needs 63 = .ok (.invokevirtual 72, 3) := by decide +kernel
theorem dX6_needs_66 : decode cX6_needs 66 = .ok (.ifCond .eq 17, 3) := by decide +kernel
theorem dX6_needs_69 : decode cX6_needs 69 = .ok (.aload_n 0, 1) := by decide +kernel
theorem dX6_needs_70 : decode cX6_needs 70 = .ok (.iload_n 3, 1) := by decide +kernel
theorem dX6_needs_71 : decode cX6_needs 71 = .ok (.iload 5, 2) := by decide +kernel
theorem dX6_needs_73 : decode cX6_needs 73 = .ok (.invokevirtual 75, 3) := by decide +kernel
theorem dX6_needs_76 : decode cX6_needs 76 = .ok (.ifCond .eq 7, 3) := by decide +kernel
theorem dX6_needs_79 : decode cX6_needs 79 = .ok (.iconst 1, 1) := by decide +kernel
theorem dX6_needs_80 : decode cX6_needs 80 = .ok (.goto 4, 3) := by decide +kernel
theorem dX6_needs_83 : decode cX6_needs 83 = .ok (.iconst 0, 1) := by decide +kernel
theorem dX6_needs_84 : decode cX6_needs 84 = .ok (.istore 4, 2) := by decide +kernel
theorem dX6_needs_86 : decode cX6_needs 86 = .ok (.iinc 5 1, 3) := by decide +kernel
theorem dX6_needs_89 : decode cX6_needs 89 = .ok (.goto (-51), 3) := by decide +kernel
theorem dX6_needs_92 : decode cX6_needs 92 = .ok (.iload_n 2, 1) := by decide +kernel
theorem dX6_needs_93 : decode cX6_needs 93 = .ok (.aload_n 0, 1) := by decide +kernel
theorem dX6_needs_94 : decode cX6_needs 94 = .ok (.iload_n 1, 1) := by decide +kernel
theorem dX6_needs_95 : decode cX6_needs 95 = .ok (.iload_n 3, 1) := by decide +kernel
theorem dX6_needs_96 : decode cX6_needs 96 = .ok (.invokevirtual 72, 3) := by decide +kernel
theorem dX6_needs_99 : decode cX6_needs 99 = .ok (.ifCond .eq 12, 3) := by decide +kernel
theorem dX6_needs_102 : decode cX6_needs 102 = .ok (.iload 4, 2) := by decide +kernel
theorem dX6_needs_104 : decode cX6_needs 104 = .ok (.ifCond .ne 7, 3) := by decide +kernel
theorem dX6_needs_107 : decode cX6_needs 107 = .ok (.iconst 1, 1) := by decide +kernel
theorem dX6_needs_108 : decode cX6_needs 108 = .ok (.goto 4, 3) := by decide +kernel
theorem dX6_needs_111 : decode cX6_needs 111 = .ok (.iconst 0, 1) := by decide +kernel
theorem dX6_needs_112 : decode cX6_needs 112 = .ok (.iadd, 1) := by decide +kernel
theorem dX6_needs_113 : decode cX6_needs 113 = .ok (.istore_n 2, 1) := by decide +kernel
theorem dX6_needs_114 : decode cX6_needs 114 = .ok (.iinc 3 1, 3) := by decide +kernel
theorem dX6_needs_117 : decode cX6_needs 117 = .ok (.goto (-113), 3) := by decide +kernel
theorem dX6_needs_120 : decode cX6_needs 120 = .ok (.iload_n 2, 1) := by decide +kernel
theorem dX6_needs_121 : decode cX6_needs 121 = .ok (.ireturn, 1) := by decide +kernel
set_option maxRecDepth 20000 in
theorem ggX6_fits_X6_blocks : GoodIn wsX6_fits wsX6_blocks := goodIn_r _ [6, 1, 48, 49, 50, 51, 52, 53, 54, 55, 56, 57, 58, 59, 60, 61, 62, 63] (by decide +kernel) (by decide +kernel)
set_option maxRecDepth 20000 in
theorem gX6_fits_X6_blocks : GoodIn wsX6_fits (wsV RX6 78 RX6 yX6_blocks wsX6_blocks) := goodIn_app (goodIn_of _ (by decide +kernel)) ggX6_fits_X6_blocks
set_option maxRecDepth 20000 in
theorem ggX6_fits_X6_slot : GoodIn wsX6_fits wsX6_slot := goodIn_r _ [10, 1, 11, 12, 13, 14, 5, 15, 48, 49, 50, 51, 52, 53, 54, 55, 56, 57, 58, 59, 60, 61, 62, 63] (by decide +kernel) (by decide +kernel)
set_option maxRecDepth 20000 in
theorem gX6_fits_X6_slot : GoodIn wsX6_fits (wsV RX6 44 RX6 yX6_slot wsX6_slot) := goodIn_app (goodIn_of _ (by decide +kernel)) ggX6_fits_X6_slot
set_option maxRecDepth 20000 in
theorem ggX6_fits_X6_needs : GoodIn wsX6_fits wsX6_needs := goodIn_r _ [19, 1, 20, 21, 22, 5, 23, 24, 11, 25, 26, 27, 28, 29, 30, 31, 32, 33, 34, 35, 36, 37, 38, 39, 40, 41, 42, 43, 12, 13, 14, 15, 44, 45, 46, 47, 48, 49, 50, 51, 52, 53, 54, 55, 56, 57, 58, 59, 60, 61, 62, 63] (by decide +kernel) (by decide +kernel)
set_option maxRecDepth 20000 in
theorem gX6_fits_X6_needs : GoodIn wsX6_fits (wsV RX6 82 RX6 yX6_needs wsX6_needs) := goodIn_app (goodIn_of _ (by decide +kernel)) ggX6_fits_X6_needs
theorem dX6_fits_0 : decode cX6_fits 0 = .ok (.aload_n 0, 1) := by decide +kernel
theorem dX6_fits_1 : decode cX6_fits 1 = .ok (.getfield 7, 3) := by decide +kernel
theorem dX6_fits_4 : decode cX6_fits 4 = .ok (.iconst 0, 1) := by decide +kernel
theorem dX6_fits_5 : decode cX6_fits 5 = .ok (.iaload, 1) := by decide +kernel
theorem dX6_fits_6 : decode cX6_fits 6 = .ok (.bipush 16, 2) := by decide +kernel
theorem dX6_fits_8 : decode cX6_fits 8 = .ok (.if_icmp .ge 34, 3) := by decide +kernel
theorem dX6_fits_11 : decode cX6_fits 11 = .ok (.aload_n 0, 1) := by decide +kernel
theorem dX6_fits_12 : decode cX6_fits 12 = .ok (.invokevirtual 78, 3) := by decide +kernel
theorem dX6_fits_15 : decode cX6_fits 15 = .ok (.aload_n 0, 1) := by decide +kernel
theorem dX6_fits_16 : decode cX6_fits 16 = .ok (.aload_n 0, 1) := by decide +kernel
theorem dX6_fits_17 : decode cX6_fits 17 = .ok (.aload_n 0, 1) := by decide +kernel
theorem dX6_fits_18 : decode cX6_fits 18 = .ok (.getfield 7, 3) := by decide +kernel
theorem dX6_fits_21 : decode cX6_fits 21 = .ok (.bipush 6, 2) := by decide +kernel
theorem dX6_fits_23 : decode cX6_fits 23 = .ok (.iload_n 1, 1) := by decide +kernel
theorem dX6_fits_24 : decode cX6_fits 24 = .ok (.iadd, 1) := by decide +kernel
theorem dX6_fits_25 : decode cX6_fits 25 = .ok (.iaload, 1) := by decide +kernel
theorem dX6_fits_26 : decode cX6_fits 26 = .ok (.invokevirtual 44, 3) := by decide +kernel
theorem dX6_fits_29 : decode cX6_fits 29 = .ok (.invokevirtual 82, 3) := by decide +kernel
theorem dX6_fits_32 : decode cX6_fits 32 = .ok (.iadd, 1) := by decide +kernel
theorem dX6_fits_33 : decode cX6_fits 33 = .ok (.bipush 40, 2) := by decide +kernel
theorem dX6_fits_35 : decode cX6_fits 35 = .ok (.if_icmp .gt 7, 3) := by decide +kernel
theorem dX6_fits_38 : decode cX6_fits 38 = .ok (.iconst 1, 1) := by decide +kernel
theorem dX6_fits_39 : decode cX6_fits 39 = .ok (.goto 4, 3) := by decide +kernel
theorem dX6_fits_42 : decode cX6_fits 42 = .ok (.iconst 0, 1) := by decide +kernel
theorem dX6_fits_43 : decode cX6_fits 43 = .ok (.ireturn, 1) := by decide +kernel
theorem dX6_makesBlock_0 : decode cX6_makesBlock 0 = .ok (.iconst 0, 1) := by decide +kernel
theorem dX6_makesBlock_1 : decode cX6_makesBlock 1 = .ok (.istore_n 2, 1) := by decide +kernel
theorem dX6_makesBlock_2 : decode cX6_makesBlock 2 = .ok (.aload_n 0, 1) := by decide +kernel
theorem dX6_makesBlock_3 : decode cX6_makesBlock 3 = .ok (.getfield 7, 3) := by decide +kernel
theorem dX6_makesBlock_6 : decode cX6_makesBlock 6 = .ok (.sipush 138, 3) := by decide +kernel
theorem dX6_makesBlock_9 : decode cX6_makesBlock 9 = .ok (.bipush 9, 2) := by decide +kernel
theorem dX6_makesBlock_11 : decode cX6_makesBlock 11 = .ok (.iload_n 2, 1) := by decide +kernel
theorem dX6_makesBlock_12 : decode cX6_makesBlock 12 = .ok (.imul, 1) := by decide +kernel
theorem dX6_makesBlock_13 : decode cX6_makesBlock 13 = .ok (.iadd, 1) := by decide +kernel
theorem dX6_makesBlock_14 : decode cX6_makesBlock 14 = .ok (.iaload, 1) := by decide +kernel
theorem dX6_makesBlock_15 : decode cX6_makesBlock 15 = .ok (.iconst 1, 1) := by decide +kernel
theorem dX6_makesBlock_16 : decode cX6_makesBlock 16 = .ok (.if_icmp .ne 9, 3) := by decide +kernel
theorem dX6_makesBlock_19 : decode cX6_makesBlock 19 = .ok (.iinc 2 1, 3) := by decide +kernel
theorem dX6_makesBlock_22 : decode cX6_makesBlock 22 = .ok (.goto (-20), 3) := by decide +kernel
theorem dX6_makesBlock_25 : decode cX6_makesBlock 25 = .ok (.aload_n 0, 1) := by decide +kernel
theorem dX6_makesBlock_26 : decode cX6_makesBlock 26 = .ok (.getfield 7, 3) := by decide +kernel
theorem dX6_makesBlock_29 : decode cX6_makesBlock 29 = .ok (.sipush 138, 3) := by decide +kernel
theorem dX6_makesBlock_32 : decode cX6_makesBlock 32 = .ok (.bipush 9, 2) := by decide +kernel
theorem dX6_makesBlock_34 : decode cX6_makesBlock 34 = .ok (.iload_n 2, 1) := by decide +kernel
theorem dX6_makesBlock_35 : decode cX6_makesBlock 35 = .ok (.imul, 1) := by decide +kernel
theorem dX6_makesBlock_36 : decode cX6_makesBlock 36 = .ok (.iadd, 1) := by decide +kernel
theorem dX6_makesBlock_37 : decode cX6_makesBlock 37 = .ok (.iconst 1, 1) := by decide +kernel
theorem dX6_makesBlock_38 : decode cX6_makesBlock 38 = .ok (.iastore, 1) := by decide +kernel
theorem dX6_makesBlock_39 : decode cX6_makesBlock 39 = .ok (.iconst 0, 1) := by decide +kernel
theorem dX6_makesBlock_40 : decode cX6_makesBlock 40 = .ok (.istore_n 3, 1) := by decide +kernel
theorem dX6_makesBlock_41 : decode cX6_makesBlock 41 = .ok (.iload_n 3, 1) := by decide +kernel
theorem dX6_makesBlock_42 : decode cX6_makesBlock 42 = .ok (.bipush 8, 2) := by decide +kernel
theorem dX6_makesBlock_44 : decode cX6_makesBlock 44 = .ok (.if_icmp .ge 37, 3) := by decide +kernel
theorem dX6_makesBlock_47 : decode cX6_makesBlock 47 = .ok (.aload_n 0, 1) := by decide +kernel
theorem dX6_makesBlock_48 : decode cX6_makesBlock 48 = .ok (.getfield 7, 3) := by decide +kernel
theorem dX6_makesBlock_51 : decode cX6_makesBlock 51 = .ok (.sipush 138, 3) := by decide +kernel
theorem dX6_makesBlock_54 : decode cX6_makesBlock 54 = .ok (.bipush 9, 2) := by decide +kernel
theorem dX6_makesBlock_56 : decode cX6_makesBlock 56 = .ok (.iload_n 2, 1) := by decide +kernel
theorem dX6_makesBlock_57 : decode cX6_makesBlock 57 = .ok (.imul, 1) := by decide +kernel
theorem dX6_makesBlock_58 : decode cX6_makesBlock 58 = .ok (.iadd, 1) := by decide +kernel
theorem dX6_makesBlock_59 : decode cX6_makesBlock 59 = .ok (.iconst 1, 1) := by decide +kernel
theorem dX6_makesBlock_60 : decode cX6_makesBlock 60 = .ok (.iadd, 1) := by decide +kernel
theorem dX6_makesBlock_61 : decode cX6_makesBlock 61 = .ok (.iload_n 3, 1) := by decide +kernel
theorem dX6_makesBlock_62 : decode cX6_makesBlock 62 = .ok (.iadd, 1) := by decide +kernel
theorem dX6_makesBlock_63 : decode cX6_makesBlock 63 = .ok (.aload_n 0, 1) := by decide +kernel
theorem dX6_makesBlock_64 : decode cX6_makesBlock 64 = .ok (.getfield 22, 3) := by decide +kernel
theorem dX6_makesBlock_67 : decode cX6_makesBlock 67 = .ok (.bipush 8, 2) := by decide +kernel
theorem dX6_makesBlock_69 : decode cX6_makesBlock 69 = .ok (.iload_n 1, 1) := by decide +kernel
theorem dX6_makesBlock_70 : decode cX6_makesBlock 70 = .ok (.imul, 1) := by decide +kernel
theorem dX6_makesBlock_71 : decode cX6_makesBlock 71 = .ok (.iload_n 3, 1) := by decide +kernel
theorem dX6_makesBlock_72 : decode cX6_makesBlock 72 = .ok (.iadd, 1) := by decide +kernel
theorem dX6_makesBlock_73 : decode cX6_makesBlock 73 = .ok (.iaload, 1) := by decide +kernel
theorem dX6_makesBlock_74 : decode cX6_makesBlock 74 = .ok (.iastore, 1) := by decide +kernel
theorem dX6_makesBlock_75 : decode cX6_makesBlock 75 = .ok (.iinc 3 1, 3) := by decide +kernel
theorem dX6_makesBlock_78 : decode cX6_makesBlock 78 = .ok (.goto (-37), 3) := by decide +kernel
theorem dX6_makesBlock_81 : decode cX6_makesBlock 81 = .ok (.aload_n 0, 1) := by decide +kernel
theorem dX6_makesBlock_82 : decode cX6_makesBlock 82 = .ok (.getfield 7, 3) := by decide +kernel
theorem dX6_makesBlock_85 : decode cX6_makesBlock 85 = .ok (.iconst 2, 1) := by decide +kernel
theorem dX6_makesBlock_86 : decode cX6_makesBlock 86 = .ok (.dup2, 1) := by decide +kernel
theorem dX6_makesBlock_87 : decode cX6_makesBlock 87 = .ok (.iaload, 1) := by decide +kernel
theorem dX6_makesBlock_88 : decode cX6_makesBlock 88 = .ok (.iconst 1, 1) := by decide +kernel
theorem dX6_makesBlock_89 : decode cX6_makesBlock 89 = .ok (.iadd, 1) := by decide +kernel
theorem dX6_makesBlock_90 : decode cX6_makesBlock 90 = .ok (.iastore, 1) := by decide +kernel
theorem dX6_makesBlock_91 : decode cX6_makesBlock 91 = .ok (.iload_n 2, 1) := by decide +kernel
theorem dX6_makesBlock_92 : decode cX6_makesBlock 92 = .ok (.ireturn, 1) := by decide +kernel
set_option maxRecDepth 20000 in
theorem ggX6_blockFor_X6_found : GoodIn wsX6_blockFor wsX6_found := goodIn_r _ [7, 8, 2, 9, 10, 11, 6, 12, 1, 13, 14, 15, 16, 17, 18, 19, 24, 25, 26, 27, 28, 29, 30, 31, 32, 33, 34, 35, 36, 37, 38, 39] (by decide +kernel) (by decide +kernel)
set_option maxRecDepth 20000 in
theorem gX6_blockFor_X6_found : GoodIn wsX6_blockFor (wsV RX6 69 RX6 yX6_found wsX6_found) := goodIn_app (goodIn_of _ (by decide +kernel)) ggX6_blockFor_X6_found
set_option maxRecDepth 20000 in
theorem ggX6_blockFor_X6_makesBlock : GoodIn wsX6_blockFor wsX6_makesBlock := goodIn_r _ [23, 1, 8, 24, 25, 26, 27, 28, 29, 30, 31, 32, 33, 34, 35, 36, 37, 38, 39] (by decide +kernel) (by decide +kernel)
set_option maxRecDepth 20000 in
theorem gX6_blockFor_X6_makesBlock : GoodIn wsX6_blockFor (wsV RX6 85 RX6 yX6_makesBlock wsX6_makesBlock) := goodIn_app (goodIn_of _ (by decide +kernel)) ggX6_blockFor_X6_makesBlock
theorem dX6_blockFor_0 : decode cX6_blockFor 0 = .ok (.aload_n 0, 1) := by decide +kernel
theorem dX6_blockFor_1 : decode cX6_blockFor 1 = .ok (.getfield 7, 3) := by decide +kernel
theorem dX6_blockFor_4 : decode cX6_blockFor 4 = .ok (.iconst 5, 1) := by decide +kernel
theorem dX6_blockFor_5 : decode cX6_blockFor 5 = .ok (.iaload, 1) := by decide +kernel
theorem dX6_blockFor_6 : decode cX6_blockFor 6 = .ok (.iconst 1, 1) := by decide +kernel
theorem dX6_blockFor_7 : decode cX6_blockFor 7 = .ok (.if_icmp .ne 11, 3) := by decide +kernel
theorem dX6_blockFor_10 : decode cX6_blockFor 10 = .ok (.aload_n 0, 1) := by decide +kernel
theorem dX6_blockFor_11 : decode cX6_blockFor 11 = .ok (.iload_n 1, 1) := by decide +kernel
theorem dX6_blockFor_12 : decode cX6_blockFor 12 = .ok (.invokevirtual 69, 3) := by decide +kernel
theorem dX6_blockFor_15 : decode cX6_blockFor 15 = .ok (.goto 5, 3) := by decide +kernel
theorem dX6_blockFor_18 : decode cX6_blockFor 18 = .ok (.ldc 43, 2) := by decide +kernel
theorem dX6_blockFor_20 : decode cX6_blockFor 20 = .ok (.istore_n 2, 1) := by decide +kernel
theorem dX6_blockFor_21 : decode cX6_blockFor 21 = .ok (.aload_n 0, 1) := by decide +kernel
theorem dX6_blockFor_22 : decode cX6_blockFor 22 = .ok (.getfield 7, 3) := by decide +kernel
theorem dX6_blockFor_25 : decode cX6_blockFor 25 = .ok (.iconst 3, 1) := by decide +kernel
theorem dX6_blockFor_26 : decode cX6_blockFor 26 = .ok (.dup2, 1) := by decide +kernel
theorem dX6_blockFor_27 : decode cX6_blockFor 27 = .ok (.iaload, 1) := by decide +kernel
theorem dX6_blockFor_28 : decode cX6_blockFor 28 = .ok (.iload_n 2, 1) := by decide +kernel
theorem dX6_blockFor_29 : decode cX6_blockFor 29 = .ok (.ifCond .lt 7, 3) := by decide +kernel
theorem dX6_blockFor_32 : decode cX6_blockFor 32 = .ok (.iconst 1, 1) := by decide +kernel
theorem dX6_blockFor_33 : decode cX6_blockFor 33 = .ok (.goto 4, 3) := by decide +kernel
theorem dX6_blockFor_36 : decode cX6_blockFor 36 = .ok (.iconst 0, 1) := by decide +kernel
theorem dX6_blockFor_37 : decode cX6_blockFor 37 = .ok (.iadd, 1) := by decide +kernel
theorem dX6_blockFor_38 : decode cX6_blockFor 38 = .ok (.iastore, 1) := by decide +kernel
theorem dX6_blockFor_39 : decode cX6_blockFor 39 = .ok (.iload_n 2, 1) := by decide +kernel
theorem dX6_blockFor_40 : decode cX6_blockFor 40 = .ok (.ifCond .lt 7, 3) := by decide +kernel
theorem dX6_blockFor_43 : decode cX6_blockFor 43 = .ok (.iload_n 2, 1) := by decide +kernel
theorem dX6_blockFor_44 : decode cX6_blockFor 44 = .ok (.goto 8, 3) := by decide +kernel
theorem dX6_blockFor_47 : decode cX6_blockFor 47 = .ok (.aload_n 0, 1) := by decide +kernel
theorem dX6_blockFor_48 : decode cX6_blockFor 48 = .ok (.iload_n 1, 1) := by decide +kernel
theorem dX6_blockFor_49 : decode cX6_blockFor 49 = .ok (.invokevirtual 85, 3) := by decide +kernel
theorem dX6_blockFor_52 : decode cX6_blockFor 52 = .ok (.ireturn, 1) := by decide +kernel
set_option maxRecDepth 20000 in
theorem ggX6_writes_X6_slot : GoodIn wsX6_writes wsX6_slot := goodIn_r _ [6, 1, 7, 8, 9, 10, 5, 11, 44, 45, 46, 47, 48, 49, 50, 51, 52, 53, 54, 55, 56, 57, 58, 59] (by decide +kernel) (by decide +kernel)
set_option maxRecDepth 20000 in
theorem gX6_writes_X6_slot : GoodIn wsX6_writes (wsV RX6 44 RX6 yX6_slot wsX6_slot) := goodIn_app (goodIn_of _ (by decide +kernel)) ggX6_writes_X6_slot
set_option maxRecDepth 20000 in
theorem ggX6_writes_X6_differs : GoodIn wsX6_writes wsX6_differs := goodIn_r _ [15, 16, 17, 18, 19, 5, 20, 8, 9, 10, 11, 1, 21, 22, 23, 24, 44, 45, 46, 47, 48, 49, 50, 51, 52, 53, 54, 55, 56, 57, 58, 59] (by decide +kernel) (by decide +kernel)
set_option maxRecDepth 20000 in
theorem gX6_writes_X6_differs : GoodIn wsX6_writes (wsV RX6 72 RX6 yX6_differs wsX6_differs) := goodIn_app (goodIn_of _ (by decide +kernel)) ggX6_writes_X6_differs
set_option maxRecDepth 20000 in
theorem ggX6_writes_X6_blockFor : GoodIn wsX6_writes wsX6_blockFor := goodIn_r _ [28, 1, 7, 29, 30, 31, 5, 32, 16, 33, 34, 35, 36, 37, 38, 39, 21, 22, 23, 24, 40, 41, 42, 43, 44, 45, 46, 47, 48, 49, 50, 51, 52, 53, 54, 55, 56, 57, 58, 59] (by decide +kernel) (by decide +kernel)
set_option maxRecDepth 20000 in
theorem gX6_writes_X6_blockFor : GoodIn wsX6_writes (wsV RX6 88 RX6 yX6_blockFor wsX6_blockFor) := goodIn_app (goodIn_of _ (by decide +kernel)) ggX6_writes_X6_blockFor
set_option maxRecDepth 20000 in
theorem ggX6_writes_X6_of : GoodIn wsX6_writes wsX6_of := goodIn_r _ [11, 1, 44, 45, 46, 47, 48, 49, 50, 51, 52, 53, 54, 55, 56, 57, 58, 59] (by decide +kernel) (by decide +kernel)
set_option maxRecDepth 20000 in
theorem gX6_writes_X6_of : GoodIn wsX6_writes (wsV RX6 39 RX6 yX6_of wsX6_of) := goodIn_app (goodIn_of _ (by decide +kernel)) ggX6_writes_X6_of
theorem dX6_writes_0 : decode cX6_writes 0 = .ok (.aload_n 0, 1) := by decide +kernel
theorem dX6_writes_1 : decode cX6_writes 1 = .ok (.aload_n 0, 1) := by decide +kernel
theorem dX6_writes_2 : decode cX6_writes 2 = .ok (.getfield 7, 3) := by decide +kernel
theorem dX6_writes_5 : decode cX6_writes 5 = .ok (.bipush 6, 2) := by decide +kernel
theorem dX6_writes_7 : decode cX6_writes 7 = .ok (.iload_n 1, 1) := by decide +kernel
theorem dX6_writes_8 : decode cX6_writes 8 = .ok (.iadd, 1) := by decide +kernel
theorem dX6_writes_9 : decode cX6_writes 9 = .ok (.iaload, 1) := by decide +kernel
theorem dX6_writes_10 : decode cX6_writes 10 = .ok (.invokevirtual 44, 3) := by decide +kernel
theorem dX6_writes_13 : decode cX6_writes 13 = .ok (.istore_n 2, 1) := by decide +kernel
theorem dX6_writes_14 : decode cX6_writes 14 = .ok (.aload_n 0, 1) := by decide +kernel
theorem dX6_writes_15 : decode cX6_writes 15 = .ok (.getfield 7, 3) := by decide +kernel
theorem dX6_writes_18 : decode cX6_writes 18 = .ok (.iconst 0, 1) := by decide +kernel
theorem dX6_writes_19 : decode cX6_writes 19 = .ok (.iaload, 1) := by decide +kernel
theorem dX6_writes_20 : decode cX6_writes 20 = .ok (.istore_n 3, 1) := by decide +kernel
theorem dX6_writes_21 : decode cX6_writes 21 = .ok (.aload_n 0, 1) := by decide +kernel
theorem dX6_writes_22 : decode cX6_writes 22 = .ok (.getfield 7, 3) := by decide +kernel
theorem dX6_writes_25 : decode cX6_writes 25 = .ok (.iconst 1, 1) := by decide +kernel
theorem dX6_writes_26 : decode cX6_writes 26 = .ok (.iaload, 1) := by decide +kernel
theorem dX6_writes_27 : decode cX6_writes 27 = .ok (.istore 4, 2) := by decide +kernel
theorem dX6_writes_29 : decode cX6_writes 29 = .ok (.aload_n 0, 1) := by decide +kernel
theorem dX6_writes_30 : decode cX6_writes 30 = .ok (.getfield 7, 3) := by decide +kernel
theorem dX6_writes_33 : decode cX6_writes 33 = .ok (.bipush 10, 2) := by decide +kernel
theorem dX6_writes_35 : decode cX6_writes 35 = .ok (.bipush 8, 2) := by decide +kernel
theorem dX6_writes_37 : decode cX6_writes 37 = .ok (.iload_n 3, 1) := by decide +kernel
theorem dX6_writes_38 : decode cX6_writes 38 = .ok (.imul, 1) := by decide +kernel
theorem dX6_writes_39 : decode cX6_writes 39 = .ok (.iadd, 1) := by decide +kernel
theorem dX6_writes_40 : decode cX6_writes 40 = .ok (.iconst 0, 1) := by decide +kernel
theorem dX6_writes_41 : decode cX6_writes 41 = .ok (.iadd, 1) := by decide +kernel
theorem dX6_writes_42 : decode cX6_writes 42 = .ok (.iload 4, 2) := by decide +kernel
theorem dX6_writes_44 : decode cX6_writes 44 = .ok (.iastore, 1) := by decide +kernel
theorem dX6_writes_45 : decode cX6_writes 45 = .ok (.aload_n 0, 1) := by decide +kernel
theorem dX6_writes_46 : decode cX6_writes 46 = .ok (.getfield 7, 3) := by decide +kernel
theorem dX6_writes_49 : decode cX6_writes 49 = .ok (.bipush 10, 2) := by decide +kernel
theorem dX6_writes_51 : decode cX6_writes 51 = .ok (.bipush 8, 2) := by decide +kernel
theorem dX6_writes_53 : decode cX6_writes 53 = .ok (.iload_n 3, 1) := by decide +kernel
theorem dX6_writes_54 : decode cX6_writes 54 = .ok (.imul, 1) := by decide +kernel
theorem dX6_writes_55 : decode cX6_writes 55 = .ok (.iadd, 1) := by decide +kernel
theorem dX6_writes_56 : decode cX6_writes 56 = .ok (.iconst 1, 1) := by decide +kernel
theorem dX6_writes_57 : decode cX6_writes 57 = .ok (.iadd, 1) := by decide +kernel
theorem dX6_writes_58 : decode cX6_writes 58 = .ok (.aload_n 0, 1) := by decide +kernel
theorem dX6_writes_59 : decode cX6_writes 59 = .ok (.getfield 7, 3) := by decide +kernel
theorem dX6_writes_62 : decode cX6_writes 62 = .ok (.bipush 6, 2) := by decide +kernel
theorem dX6_writes_64 : decode cX6_writes 64 = .ok (.iload_n 1, 1) := by decide +kernel
theorem dX6_writes_65 : decode cX6_writes 65 = .ok (.iadd, 1) := by decide +kernel
theorem dX6_writes_66 : decode cX6_writes 66 = .ok (.iaload, 1) := by decide +kernel
theorem dX6_writes_67 : decode cX6_writes 67 = .ok (.iastore, 1) := by decide +kernel
theorem dX6_writes_68 : decode cX6_writes 68 = .ok (.iconst 0, 1) := by decide +kernel
theorem dX6_writes_69 : decode cX6_writes 69 = .ok (.istore 5, 2) := by decide +kernel
theorem dX6_writes_71 : decode cX6_writes 71 = .ok (.iload 5, 2) := by decide +kernel
theorem dX6_writes_73 : decode cX6_writes 73 = .ok (.bipush 6, 2) := by decide +kernel
theorem dX6_writes_75 : decode cX6_writes 75 = .ok (.if_icmp .ge 54, 3) := by decide +kernel
theorem dX6_writes_78 : decode cX6_writes 78 = .ok (.aload_n 0, 1) := by decide +kernel
theorem dX6_writes_79 : decode cX6_writes 79 = .ok (.getfield 7, 3) := by decide +kernel
theorem dX6_writes_82 : decode cX6_writes 82 = .ok (.bipush 10, 2) := by decide +kernel
theorem dX6_writes_84 : decode cX6_writes 84 = .ok (.bipush 8, 2) := by decide +kernel
theorem dX6_writes_86 : decode cX6_writes 86 = .ok (.iload_n 3, 1) := by decide +kernel
theorem dX6_writes_87 : decode cX6_writes 87 = .ok (.imul, 1) := by decide +kernel
theorem dX6_writes_88 : decode cX6_writes 88 = .ok (.iadd, 1) := by decide +kernel
theorem dX6_writes_89 : decode cX6_writes 89 = .ok (.iconst 2, 1) := by decide +kernel
theorem dX6_writes_90 : decode cX6_writes 90 = .ok (.iadd, 1) := by decide +kernel
theorem dX6_writes_91 : decode cX6_writes 91 = .ok (.iload 5, 2) := by decide +kernel
theorem dX6_writes_93 : decode cX6_writes 93 = .ok (.iadd, 1) := by decide +kernel
theorem dX6_writes_94 : decode cX6_writes 94 = .ok (.aload_n 0, 1) := by decide +kernel
theorem dX6_writes_95 : decode cX6_writes 95 = .ok (.iload_n 2, 1) := by decide +kernel
theorem dX6_writes_96 : decode cX6_writes 96 = .ok (.iload 5, 2) := by decide +kernel
theorem dX6_writes_98 : decode cX6_writes 98 = .ok (.invokevirtual 72, 3) := by decide +kernel
theorem dX6_writes_101 : decode cX6_writes 101 = .ok (.ifCond .eq 12, 3) := by decide +kernel
theorem dX6_writes_104 : decode cX6_writes 104 = .ok (.aload_n 0, 1) := by decide +kernel
theorem dX6_writes_105 : decode cX6_writes 105 = .ok (.iload 5, 2) := by decide +kernel
theorem dX6_writes_107 : decode cX6_writes 107 = .ok (.invokevirtual 88, 3) := by decide +kernel
theorem dX6_writes_110 : decode cX6_writes 110 = .ok (.goto 12, 3) := by decide +kernel
theorem dX6_writes_113 : decode cX6_writes 113 = .ok (.aload_n 0, 1) := by decide +kernel
theorem dX6_writes_114 : decode cX6_writes 114 = .ok (.iload_n 2, 1) := by decide +kernel
theorem dX6_writes_115 : decode cX6_writes 115 = .ok (.iconst 2, 1) := by decide +kernel
theorem dX6_writes_116 : decode cX6_writes 116 = .ok (.iload 5, 2) := by decide +kernel
theorem dX6_writes_118 : decode cX6_writes 118 = .ok (.iadd, 1) := by decide +kernel
theorem dX6_writes_119 : decode cX6_writes 119 = .ok (.invokevirtual 39, 3) := by decide +kernel
theorem dX6_writes_122 : decode cX6_writes 122 = .ok (.iastore, 1) := by decide +kernel
theorem dX6_writes_123 : decode cX6_writes 123 = .ok (.iinc 5 1, 3) := by decide +kernel
theorem dX6_writes_126 : decode cX6_writes 126 = .ok (.goto (-55), 3) := by decide +kernel
theorem dX6_writes_129 : decode cX6_writes 129 = .ok (.aload_n 0, 1) := by decide +kernel
theorem dX6_writes_130 : decode cX6_writes 130 = .ok (.getfield 7, 3) := by decide +kernel
theorem dX6_writes_133 : decode cX6_writes 133 = .ok (.iconst 0, 1) := by decide +kernel
theorem dX6_writes_134 : decode cX6_writes 134 = .ok (.dup2, 1) := by decide +kernel
theorem dX6_writes_135 : decode cX6_writes 135 = .ok (.iaload, 1) := by decide +kernel
theorem dX6_writes_136 : decode cX6_writes 136 = .ok (.iconst 1, 1) := by decide +kernel
theorem dX6_writes_137 : decode cX6_writes 137 = .ok (.iadd, 1) := by decide +kernel
theorem dX6_writes_138 : decode cX6_writes 138 = .ok (.iastore, 1) := by decide +kernel
theorem dX6_writes_139 : decode cX6_writes 139 = .ok (.aload_n 0, 1) := by decide +kernel
theorem dX6_writes_140 : decode cX6_writes 140 = .ok (.getfield 7, 3) := by decide +kernel
theorem dX6_writes_143 : decode cX6_writes 143 = .ok (.iconst 1, 1) := by decide +kernel
theorem dX6_writes_144 : decode cX6_writes 144 = .ok (.dup2, 1) := by decide +kernel
theorem dX6_writes_145 : decode cX6_writes 145 = .ok (.iaload, 1) := by decide +kernel
theorem dX6_writes_146 : decode cX6_writes 146 = .ok (.iconst 1, 1) := by decide +kernel
theorem dX6_writes_147 : decode cX6_writes 147 = .ok (.iadd, 1) := by decide +kernel
theorem dX6_writes_148 : decode cX6_writes 148 = .ok (.iastore, 1) := by decide +kernel
theorem dX6_writes_149 : decode cX6_writes 149 = .ok (.aload_n 0, 1) := by decide +kernel
theorem dX6_writes_150 : decode cX6_writes 150 = .ok (.getfield 7, 3) := by decide +kernel
theorem dX6_writes_153 : decode cX6_writes 153 = .ok (.bipush 6, 2) := by decide +kernel
theorem dX6_writes_155 : decode cX6_writes 155 = .ok (.iload_n 1, 1) := by decide +kernel
theorem dX6_writes_156 : decode cX6_writes 156 = .ok (.iadd, 1) := by decide +kernel
theorem dX6_writes_157 : decode cX6_writes 157 = .ok (.iload 4, 2) := by decide +kernel
theorem dX6_writes_159 : decode cX6_writes 159 = .ok (.iastore, 1) := by decide +kernel
theorem dX6_writes_160 : decode cX6_writes 160 = .ok (.iload 4, 2) := by decide +kernel
theorem dX6_writes_162 : decode cX6_writes 162 = .ok (.ireturn, 1) := by decide +kernel
set_option maxRecDepth 20000 in
theorem ggX6_tries_X6_fits : GoodIn wsX6_tries wsX6_fits := goodIn_r _ [6, 7, 8, 9, 10, 5, 11, 12, 13, 14, 15, 16, 17, 18, 19, 20, 21, 22, 23, 24, 25, 26, 27, 28, 29, 30, 31, 32, 33, 34, 35, 36, 37, 38, 39, 40, 41, 42, 43, 44, 45, 46, 47, 48, 49, 50, 51, 52, 72, 73, 74, 75, 76, 77, 78, 79, 80, 81, 82, 83, 84, 85, 86, 87] (by decide +kernel) (by decide +kernel)
set_option maxRecDepth 20000 in
theorem gX6_tries_X6_fits : GoodIn wsX6_tries (wsV RX6 91 RX6 yX6_fits wsX6_fits) := goodIn_app (goodIn_of _ (by decide +kernel)) ggX6_tries_X6_fits
set_option maxRecDepth 20000 in
theorem ggX6_tries_X6_changes : GoodIn wsX6_tries wsX6_changes := goodIn_r _ [56, 57, 58, 59, 7, 72, 73, 74, 75, 76, 77, 78, 79, 80, 81, 82, 83, 84, 85, 86, 87] (by decide +kernel) (by decide +kernel)
set_option maxRecDepth 20000 in
theorem gX6_tries_X6_changes : GoodIn wsX6_tries (wsV RX6 95 RX6 yX6_changes wsX6_changes) := goodIn_app (goodIn_of _ (by decide +kernel)) ggX6_tries_X6_changes
set_option maxRecDepth 20000 in
theorem ggX6_tries_X6_writes : GoodIn wsX6_tries wsX6_writes := goodIn_r _ [63, 7, 12, 13, 14, 5, 15, 16, 17, 18, 19, 20, 41, 42, 43, 44, 29, 45, 46, 47, 48, 37, 38, 39, 40, 64, 65, 66, 67, 25, 26, 27, 28, 30, 31, 32, 33, 34, 35, 36, 68, 69, 70, 71, 72, 73, 74, 75, 76, 77, 78, 79, 80, 81, 82, 83, 84, 85, 86, 87] (by decide +kernel) (by decide +kernel)
set_option maxRecDepth 20000 in
theorem gX6_tries_X6_writes : GoodIn wsX6_tries (wsV RX6 98 RX6 yX6_writes wsX6_writes) := goodIn_app (goodIn_of _ (by decide +kernel)) ggX6_tries_X6_writes
theorem dX6_tries_0 : decode cX6_tries 0 = .ok (.aload_n 0, 1) := by decide +kernel
theorem dX6_tries_1 : decode cX6_tries 1 = .ok (.iload_n 1, 1) := by decide +kernel
theorem dX6_tries_2 : decode cX6_tries 2 = .ok (.invokevirtual 91, 3) := by decide +kernel
theorem dX6_tries_5 : decode cX6_tries 5 = .ok (.ifCond .ne 6, 3) := by decide +kernel
theorem dX6_tries_8 : decode cX6_tries 8 = .ok (.ldc 94, 2) := by decide +kernel
theorem dX6_tries_10 : decode cX6_tries 10 = .ok (.ireturn, 1) := by decide +kernel
theorem dX6_tries_11 : decode cX6_tries 11 = .ok (.aload_n 0, 1) := by decide +kernel
theorem dX6_tries_12 : decode cX6_tries 12 = .ok (.invokevirtual 95, 3) := by decide +kernel
theorem dX6_tries_15 : decode cX6_tries 15 = .ok (.aload_n 0, 1) := by decide +kernel
theorem dX6_tries_16 : decode cX6_tries 16 = .ok (.iload_n 1, 1) := by decide +kernel
theorem dX6_tries_17 : decode cX6_tries 17 = .ok (.invokevirtual 98, 3) := by decide +kernel
theorem dX6_tries_20 : decode cX6_tries 20 = .ok (.ireturn, 1) := by decide +kernel
set_option maxRecDepth 20000 in
theorem ggX6_isRow_X6_in : GoodIn wsX6_isRow wsX6_in := goodIn_r _ [4] (by decide +kernel) (by decide +kernel)
set_option maxRecDepth 20000 in
theorem gX6_isRow_X6_in : GoodIn wsX6_isRow (va_wsS RX6 48 yX6_in wsX6_in) := goodIn_app (goodIn_of _ (by decide +kernel)) ggX6_isRow_X6_in
theorem dX6_isRow_0 : decode cX6_isRow 0 = .ok (.iload_n 0, 1) := by decide +kernel
theorem dX6_isRow_1 : decode cX6_isRow 1 = .ok (.iconst 0, 1) := by decide +kernel
theorem dX6_isRow_2 : decode cX6_isRow 2 = .ok (.bipush 47, 2) := by decide +kernel
theorem dX6_isRow_4 : decode cX6_isRow 4 = .ok (.invokestatic 48, 3) := by decide +kernel
theorem dX6_isRow_7 : decode cX6_isRow 7 = .ok (.ifCond .eq 19, 3) := by decide +kernel
theorem dX6_isRow_10 : decode cX6_isRow 10 = .ok (.iload_n 1, 1) := by decide +kernel
theorem dX6_isRow_11 : decode cX6_isRow 11 = .ok (.iconst 1, 1) := by decide +kernel
theorem dX6_isRow_12 : decode cX6_isRow 12 = .ok (.bipush 48, 2) := by decide +kernel
theorem dX6_isRow_14 : decode cX6_isRow 14 = .ok (.iload_n 0, 1) := by decide +kernel
theorem dX6_isRow_15 : decode cX6_isRow 15 = .ok (.isub, 1) := by decide +kernel
theorem dX6_isRow_16 : decode cX6_isRow 16 = .ok (.invokestatic 48, 3) := by decide +kernel
theorem dX6_isRow_19 : decode cX6_isRow 19 = .ok (.ifCond .eq 7, 3) := by decide +kernel
theorem dX6_isRow_22 : decode cX6_isRow 22 = .ok (.iconst 1, 1) := by decide +kernel
theorem dX6_isRow_23 : decode cX6_isRow 23 = .ok (.goto 4, 3) := by decide +kernel
theorem dX6_isRow_26 : decode cX6_isRow 26 = .ok (.iconst 0, 1) := by decide +kernel
theorem dX6_isRow_27 : decode cX6_isRow 27 = .ok (.ireturn, 1) := by decide +kernel
set_option maxRecDepth 20000 in
theorem ggX6_write_X6_fill : GoodIn wsX6_write wsX6_fill := goodIn_r _ [5, 6, 7, 8, 9, 10, 11, 4, 12, 13, 14, 15, 16, 17, 18, 19, 20, 21, 22, 23, 24, 25, 26, 27, 28, 29, 30, 31, 32, 33, 34, 35, 36, 37, 38, 39, 40, 41, 42, 43, 44, 45, 46, 47, 48, 49, 50, 51, 52, 53, 54, 55, 56, 57, 58, 59, 60, 61, 62, 63, 64, 65, 66, 67, 68, 69, 70, 71, 72, 73, 74, 75, 76, 77, 78, 79, 80, 81, 82, 83, 84, 85, 86, 87, 88, 89, 90, 91, 92, 93, 94, 95, 96, 97, 98, 99, 100, 101, 102, 103, 104, 105, 106, 107] (by decide +kernel) (by decide +kernel)
set_option maxRecDepth 20000 in
theorem gX6_write_X6_fill : GoodIn wsX6_write (wsV RX6 101 RX6 yX6_fill wsX6_fill) := goodIn_app (goodIn_of _ (by decide +kernel)) ggX6_write_X6_fill
theorem dX6_write_0 : decode cX6_write 0 = .ok (.aload_n 0, 1) := by decide +kernel
theorem dX6_write_1 : decode cX6_write 1 = .ok (.iload_n 1, 1) := by decide +kernel
theorem dX6_write_2 : decode cX6_write 2 = .ok (.iload_n 2, 1) := by decide +kernel
theorem dX6_write_3 : decode cX6_write 3 = .ok (.iconst 1, 1) := by decide +kernel
theorem dX6_write_4 : decode cX6_write 4 = .ok (.iload_n 3, 1) := by decide +kernel
theorem dX6_write_5 : decode cX6_write 5 = .ok (.invokevirtual 101, 3) := by decide +kernel
theorem dX6_write_8 : decode cX6_write 8 = .ok (.ireturn, 1) := by decide +kernel
set_option maxRecDepth 20000 in
theorem ggX6_fill_X6_isBranch : GoodIn wsX6_fill wsX6_isBranch := goodIn_r _ [8, 2, 9, 10, 7, 11, 88, 89, 90, 91, 92, 93, 94, 95, 96, 97, 98, 99, 100, 101, 102, 103] (by decide +kernel) (by decide +kernel)
set_option maxRecDepth 20000 in
theorem gX6_fill_X6_isBranch : GoodIn wsX6_fill (wsV RX6 105 RX6 yX6_isBranch wsX6_isBranch) := goodIn_app (goodIn_of _ (by decide +kernel)) ggX6_fill_X6_isBranch
set_option maxRecDepth 20000 in
theorem ggX6_fill_X6_isRow : GoodIn wsX6_fill wsX6_isRow := goodIn_r _ [14, 9, 10, 7, 11] (by decide +kernel) (by decide +kernel)
set_option maxRecDepth 20000 in
theorem gX6_fill_X6_isRow : GoodIn wsX6_fill (va_wsS RX6 108 yX6_isRow wsX6_isRow) := goodIn_app (goodIn_of _ (by decide +kernel)) ggX6_fill_X6_isRow
set_option maxRecDepth 20000 in
theorem ggX6_fill_X6_in : GoodIn wsX6_fill wsX6_in := goodIn_r _ [11] (by decide +kernel) (by decide +kernel)
set_option maxRecDepth 20000 in
theorem gX6_fill_X6_in : GoodIn wsX6_fill (va_wsS RX6 48 yX6_in wsX6_in) := goodIn_app (goodIn_of _ (by decide +kernel)) ggX6_fill_X6_in
set_option maxRecDepth 20000 in
theorem ggX6_fill_X6_slot : GoodIn wsX6_fill wsX6_slot := goodIn_r _ [18, 2, 19, 20, 21, 22, 7, 23, 88, 89, 90, 91, 92, 93, 94, 95, 96, 97, 98, 99, 100, 101, 102, 103] (by decide +kernel) (by decide +kernel)
set_option maxRecDepth 20000 in
theorem gX6_fill_X6_slot : GoodIn wsX6_fill (wsV RX6 44 RX6 yX6_slot wsX6_slot) := goodIn_app (goodIn_of _ (by decide +kernel)) ggX6_fill_X6_slot
set_option maxRecDepth 20000 in
theorem ggX6_fill_X6_loads : GoodIn wsX6_fill wsX6_loads := goodIn_r _ [27, 3, 28, 29, 30, 7, 31, 20, 21, 22, 23, 2, 32, 33, 34, 35, 88, 89, 90, 91, 92, 93, 94, 95, 96, 97, 98, 99, 100, 101, 102, 103] (by decide +kernel) (by decide +kernel)
set_option maxRecDepth 20000 in
theorem gX6_fill_X6_loads : GoodIn wsX6_fill (wsV RX6 112 RX6 yX6_loads wsX6_loads) := goodIn_app (goodIn_of _ (by decide +kernel)) ggX6_fill_X6_loads
set_option maxRecDepth 20000 in
theorem ggX6_fill_X6_tries : GoodIn wsX6_fill wsX6_tries := goodIn_r _ [39, 40, 41, 42, 43, 7, 44, 2, 45, 46, 47, 48, 15, 16, 17, 18, 19, 20, 21, 22, 23, 49, 50, 51, 52, 53, 54, 55, 56, 3, 57, 58, 59, 60, 9, 10, 11, 32, 33, 34, 35, 61, 62, 63, 64, 28, 29, 30, 31, 65, 66, 67, 68, 69, 70, 71, 72, 73, 74, 75, 76, 77, 78, 79, 80, 81, 82, 83, 84, 85, 86, 87, 88, 89, 90, 91, 92, 93, 94, 95, 96, 97, 98, 99, 100, 101, 102, 103] (by decide +kernel) (by decide +kernel)
set_option maxRecDepth 20000 in
theorem gX6_fill_X6_tries : GoodIn wsX6_fill (wsV RX6 116 RX6 yX6_tries wsX6_tries) := goodIn_app (goodIn_of _ (by decide +kernel)) ggX6_fill_X6_tries
theorem dX6_fill_0 : decode cX6_fill 0 = .ok (.aload_n 0, 1) := by decide +kernel
theorem dX6_fill_1 : decode cX6_fill 1 = .ok (.iload_n 1, 1) := by decide +kernel
theorem dX6_fill_2 : decode cX6_fill 2 = .ok (.invokevirtual 105, 3) := by decide +kernel
theorem dX6_fill_5 : decode cX6_fill 5 = .ok (.ifCond .eq 23, 3) := by decide +kernel
theorem dX6_fill_8 : decode cX6_fill 8 = .ok (.iload_n 2, 1) := by decide +kernel
theorem dX6_fill_9 : decode cX6_fill 9 = .ok (.iload_n 3, 1) := by decide +kernel
theorem dX6_fill_10 : decode cX6_fill 10 = .ok (.invokestatic 108, 3) := by decide +kernel
theorem dX6_fill_13 : decode cX6_fill 13 = .ok (.ifCond .eq 15, 3) := by decide +kernel
theorem dX6_fill_16 : decode cX6_fill 16 = .ok (.iload 4, 2) := by decide +kernel
theorem dX6_fill_18 : decode cX6_fill 18 = .ok (.iconst 0, 1) := by decide +kernel
theorem dX6_fill_19 : decode cX6_fill 19 = .ok (.sipush 999, 3) := by decide +kernel
theorem dX6_fill_22 : decode cX6_fill 22 = .ok (.invokestatic 48, 3) := by decide +kernel
theorem dX6_fill_25 : decode cX6_fill 25 = .ok (.ifCond .ne 6, 3) := by decide +kernel
theorem dX6_fill_28 : decode cX6_fill 28 = .ok (.ldc 111, 2) := by decide +kernel
theorem dX6_fill_30 : decode cX6_fill 30 = .ok (.ireturn, 1) := by decide +kernel
theorem dX6_fill_31 : decode cX6_fill 31 = .ok (.aload_n 0, 1) := by decide +kernel
theorem dX6_fill_32 : decode cX6_fill 32 = .ok (.aload_n 0, 1) := by decide +kernel
theorem dX6_fill_33 : decode cX6_fill 33 = .ok (.aload_n 0, 1) := by decide +kernel
theorem dX6_fill_34 : decode cX6_fill 34 = .ok (.getfield 7, 3) := by decide +kernel
theorem dX6_fill_37 : decode cX6_fill 37 = .ok (.bipush 6, 2) := by decide +kernel
theorem dX6_fill_39 : decode cX6_fill 39 = .ok (.iload_n 1, 1) := by decide +kernel
theorem dX6_fill_40 : decode cX6_fill 40 = .ok (.iadd, 1) := by decide +kernel
theorem dX6_fill_41 : decode cX6_fill 41 = .ok (.iaload, 1) := by decide +kernel
theorem dX6_fill_42 : decode cX6_fill 42 = .ok (.invokevirtual 44, 3) := by decide +kernel
theorem dX6_fill_45 : decode cX6_fill 45 = .ok (.invokevirtual 112, 3) := by decide +kernel
theorem dX6_fill_48 : decode cX6_fill 48 = .ok (.iload_n 2, 1) := by decide +kernel
theorem dX6_fill_49 : decode cX6_fill 49 = .ok (.istore 5, 2) := by decide +kernel
theorem dX6_fill_51 : decode cX6_fill 51 = .ok (.iload 5, 2) := by decide +kernel
theorem dX6_fill_53 : decode cX6_fill 53 = .ok (.iload_n 2, 1) := by decide +kernel
theorem dX6_fill_54 : decode cX6_fill 54 = .ok (.iload_n 3, 1) := by decide +kernel
theorem dX6_fill_55 : decode cX6_fill 55 = .ok (.iadd, 1) := by decide +kernel
theorem dX6_fill_56 : decode cX6_fill 56 = .ok (.if_icmp .ge 18, 3) := by decide +kernel
theorem dX6_fill_59 : decode cX6_fill 59 = .ok (.aload_n 0, 1) := by decide +kernel
theorem dX6_fill_60 : decode cX6_fill 60 = .ok (.getfield 22, 3) := by decide +kernel
theorem dX6_fill_63 : decode cX6_fill 63 = .ok (.iload 5, 2) := by decide +kernel
theorem dX6_fill_65 : decode cX6_fill 65 = .ok (.iload 4, 2) := by decide +kernel
theorem dX6_fill_67 : decode cX6_fill 67 = .ok (.iastore, 1) := by decide +kernel
theorem dX6_fill_68 : decode cX6_fill 68 = .ok (.iinc 5 1, 3) := by decide +kernel
theorem dX6_fill_71 : decode cX6_fill 71 = .ok (.goto (-20), 3) := by decide +kernel
theorem dX6_fill_74 : decode cX6_fill 74 = .ok (.aload_n 0, 1) := by decide +kernel
theorem dX6_fill_75 : decode cX6_fill 75 = .ok (.iload_n 1, 1) := by decide +kernel
theorem dX6_fill_76 : decode cX6_fill 76 = .ok (.invokevirtual 116, 3) := by decide +kernel
theorem dX6_fill_79 : decode cX6_fill 79 = .ok (.ireturn, 1) := by decide +kernel
set_option maxRecDepth 20000 in
theorem ggX6_copy_X6_isBranch : GoodIn wsX6_copy wsX6_isBranch := goodIn_r _ [8, 2, 9, 10, 7, 11, 92, 93, 94, 95, 96, 97, 98, 99, 100, 101, 102, 103, 104, 105, 106, 107] (by decide +kernel) (by decide +kernel)
set_option maxRecDepth 20000 in
theorem gX6_copy_X6_isBranch : GoodIn wsX6_copy (wsV RX6 105 RX6 yX6_isBranch wsX6_isBranch) := goodIn_app (goodIn_of _ (by decide +kernel)) ggX6_copy_X6_isBranch
set_option maxRecDepth 20000 in
theorem ggX6_copy_X6_isState : GoodIn wsX6_copy wsX6_isState := goodIn_r _ [15, 16, 17, 18, 7, 19, 2, 20, 21, 22, 23, 24, 92, 93, 94, 95, 96, 97, 98, 99, 100, 101, 102, 103, 104, 105, 106, 107] (by decide +kernel) (by decide +kernel)
set_option maxRecDepth 20000 in
theorem gX6_copy_X6_isState : GoodIn wsX6_copy (wsV RX6 119 RX6 yX6_isState wsX6_isState) := goodIn_app (goodIn_of _ (by decide +kernel)) ggX6_copy_X6_isState
set_option maxRecDepth 20000 in
theorem ggX6_copy_X6_isRow : GoodIn wsX6_copy wsX6_isRow := goodIn_r _ [27, 9, 10, 7, 11] (by decide +kernel) (by decide +kernel)
set_option maxRecDepth 20000 in
theorem gX6_copy_X6_isRow : GoodIn wsX6_copy (va_wsS RX6 108 yX6_isRow wsX6_isRow) := goodIn_app (goodIn_of _ (by decide +kernel)) ggX6_copy_X6_isRow
set_option maxRecDepth 20000 in
theorem ggX6_copy_X6_slot : GoodIn wsX6_copy wsX6_slot := goodIn_r _ [19, 2, 20, 21, 22, 23, 7, 24, 92, 93, 94, 95, 96, 97, 98, 99, 100, 101, 102, 103, 104, 105, 106, 107] (by decide +kernel) (by decide +kernel)
set_option maxRecDepth 20000 in
theorem gX6_copy_X6_slot : GoodIn wsX6_copy (wsV RX6 44 RX6 yX6_slot wsX6_slot) := goodIn_app (goodIn_of _ (by decide +kernel)) ggX6_copy_X6_slot
set_option maxRecDepth 20000 in
theorem ggX6_copy_X6_loads : GoodIn wsX6_copy wsX6_loads := goodIn_r _ [31, 3, 32, 33, 34, 7, 35, 21, 22, 23, 24, 2, 36, 37, 38, 39, 92, 93, 94, 95, 96, 97, 98, 99, 100, 101, 102, 103, 104, 105, 106, 107] (by decide +kernel) (by decide +kernel)
set_option maxRecDepth 20000 in
theorem gX6_copy_X6_loads : GoodIn wsX6_copy (wsV RX6 112 RX6 yX6_loads wsX6_loads) := goodIn_app (goodIn_of _ (by decide +kernel)) ggX6_copy_X6_loads
set_option maxRecDepth 20000 in
theorem ggX6_copy_X6_cellOf : GoodIn wsX6_copy wsX6_cellOf := goodIn_r _ [35, 21, 22, 23, 7, 24, 2, 36, 37, 38, 39, 92, 93, 94, 95, 96, 97, 98, 99, 100, 101, 102, 103, 104, 105, 106, 107] (by decide +kernel) (by decide +kernel)
set_option maxRecDepth 20000 in
theorem gX6_copy_X6_cellOf : GoodIn wsX6_copy (wsV RX6 62 RX6 yX6_cellOf wsX6_cellOf) := goodIn_app (goodIn_of _ (by decide +kernel)) ggX6_copy_X6_cellOf
set_option maxRecDepth 20000 in
theorem ggX6_copy_X6_tries : GoodIn wsX6_copy wsX6_tries := goodIn_r _ [43, 44, 45, 46, 47, 7, 48, 2, 49, 50, 51, 52, 16, 17, 18, 19, 20, 21, 22, 23, 24, 53, 54, 55, 56, 57, 58, 59, 60, 3, 61, 62, 63, 64, 9, 10, 11, 36, 37, 38, 39, 65, 66, 67, 68, 32, 33, 34, 35, 69, 70, 71, 72, 73, 74, 75, 76, 77, 78, 79, 80, 81, 82, 83, 84, 85, 86, 87, 88, 89, 90, 91, 92, 93, 94, 95, 96, 97, 98, 99, 100, 101, 102, 103, 104, 105, 106, 107] (by decide +kernel) (by decide +kernel)
set_option maxRecDepth 20000 in
theorem gX6_copy_X6_tries : GoodIn wsX6_copy (wsV RX6 116 RX6 yX6_tries wsX6_tries) := goodIn_app (goodIn_of _ (by decide +kernel)) ggX6_copy_X6_tries
theorem dX6_copy_0 : decode cX6_copy 0 = .ok (.aload_n 0, 1) := by decide +kernel
theorem dX6_copy_1 : decode cX6_copy 1 = .ok (.iload_n 1, 1) := by decide +kernel
theorem dX6_copy_2 : decode cX6_copy 2 = .ok (.invokevirtual 105, 3) := by decide +kernel
theorem dX6_copy_5 : decode cX6_copy 5 = .ok (.ifCond .eq 30, 3) := by decide +kernel
theorem dX6_copy_8 : decode cX6_copy 8 = .ok (.aload_n 0, 1) := by decide +kernel
theorem dX6_copy_9 : decode cX6_copy 9 = .ok (.iload_n 2, 1) := by decide +kernel
theorem dX6_copy_10 : decode cX6_copy 10 = .ok (.invokevirtual 119, 3) := by decide +kernel
theorem dX6_copy_13 : decode cX6_copy 13 = .ok (.ifCond .eq 22, 3) := by decide +kernel
theorem dX6_copy_16 : decode cX6_copy 16 = .ok (.iload_n 3, 1) := by decide +kernel
theorem dX6_copy_17 : decode cX6_copy 17 = .ok (.iload 5, 2) := by decide +kernel
theorem dX6_copy_19 : decode cX6_copy 19 = .ok (.invokestatic 108, 3) := by decide +kernel
theorem dX6_copy_22 : decode cX6_copy 22 = .ok (.ifCond .eq 13, 3) := by decide +kernel
theorem dX6_copy_25 : decode cX6_copy 25 = .ok (.iload 4, 2) := by decide +kernel
theorem dX6_copy_27 : decode cX6_copy 27 = .ok (.iload 5, 2) := by decide +kernel
theorem dX6_copy_29 : decode cX6_copy 29 = .ok (.invokestatic 108, 3) := by decide +kernel
theorem dX6_copy_32 : decode cX6_copy 32 = .ok (.ifCond .ne 6, 3) := by decide +kernel
theorem dX6_copy_35 : decode cX6_copy 35 = .ok (.ldc 111, 2) := by decide +kernel
theorem dX6_copy_37 : decode cX6_copy 37 = .ok (.ireturn, 1) := by decide +kernel
theorem dX6_copy_38 : decode cX6_copy 38 = .ok (.aload_n 0, 1) := by decide +kernel
theorem dX6_copy_39 : decode cX6_copy 39 = .ok (.aload_n 0, 1) := by decide +kernel
theorem dX6_copy_40 : decode cX6_copy 40 = .ok (.aload_n 0, 1) := by decide +kernel
theorem dX6_copy_41 : decode cX6_copy 41 = .ok (.getfield 7, 3) := by decide +kernel
theorem dX6_copy_44 : decode cX6_copy 44 = .ok (.bipush 6, 2) := by decide +kernel
theorem dX6_copy_46 : decode cX6_copy 46 = .ok (.iload_n 1, 1) := by decide +kernel
theorem dX6_copy_47 : decode cX6_copy 47 = .ok (.iadd, 1) := by decide +kernel
theorem dX6_copy_48 : decode cX6_copy 48 = .ok (.iaload, 1) := by decide +kernel
theorem dX6_copy_49 : decode cX6_copy 49 = .ok (.invokevirtual 44, 3) := by decide +kernel
theorem dX6_copy_52 : decode cX6_copy 52 = .ok (.invokevirtual 112, 3) := by decide +kernel
theorem dX6_copy_55 : decode cX6_copy 55 = .ok (.iconst 0, 1) := by decide +kernel
theorem dX6_copy_56 : decode cX6_copy 56 = .ok (.istore 6, 2) := by decide +kernel
theorem dX6_copy_58 : decode cX6_copy 58 = .ok (.iload 6, 2) := by decide +kernel
theorem dX6_copy_60 : decode cX6_copy 60 = .ok (.iload 5, 2) := by decide +kernel
theorem dX6_copy_62 : decode cX6_copy 62 = .ok (.if_icmp .ge 32, 3) := by decide +kernel
theorem dX6_copy_65 : decode cX6_copy 65 = .ok (.aload_n 0, 1) := by decide +kernel
theorem dX6_copy_66 : decode cX6_copy 66 = .ok (.getfield 22, 3) := by decide +kernel
theorem dX6_copy_69 : decode cX6_copy 69 = .ok (.iload 4, 2) := by decide +kernel
theorem dX6_copy_71 : decode cX6_copy 71 = .ok (.iload 6, 2) := by decide +kernel
theorem dX6_copy_73 : decode cX6_copy 73 = .ok (.iadd, 1) := by decide +kernel
theorem dX6_copy_74 : decode cX6_copy 74 = .ok (.aload_n 0, 1) := by decide +kernel
theorem dX6_copy_75 : decode cX6_copy 75 = .ok (.aload_n 0, 1) := by decide +kernel
theorem dX6_copy_76 : decode cX6_copy 76 = .ok (.iload_n 2, 1) := by decide +kernel
theorem dX6_copy_77 : decode cX6_copy 77 = .ok (.invokevirtual 44, 3) := by decide +kernel
theorem dX6_copy_80 : decode cX6_copy 80 = .ok (.iload_n 3, 1) := by decide +kernel
theorem dX6_copy_81 : decode cX6_copy 81 = .ok (.iload 6, 2) := by decide +kernel
theorem dX6_copy_83 : decode cX6_copy 83 = .ok (.iadd, 1) := by decide +kernel
theorem dX6_copy_84 : decode cX6_copy 84 = .ok (.invokevirtual 62, 3) := by decide +kernel
theorem dX6_copy_87 : decode cX6_copy 87 = .ok (.iastore, 1) := by decide +kernel
theorem dX6_copy_88 : decode cX6_copy 88 = .ok (.iinc 6 1, 3) := by decide +kernel
theorem dX6_copy_91 : decode cX6_copy 91 = .ok (.goto (-33), 3) := by decide +kernel
theorem dX6_copy_94 : decode cX6_copy 94 = .ok (.aload_n 0, 1) := by decide +kernel
theorem dX6_copy_95 : decode cX6_copy 95 = .ok (.iload_n 1, 1) := by decide +kernel
theorem dX6_copy_96 : decode cX6_copy 96 = .ok (.invokevirtual 116, 3) := by decide +kernel
theorem dX6_copy_99 : decode cX6_copy 99 = .ok (.ireturn, 1) := by decide +kernel
set_option maxRecDepth 20000 in
theorem ggX6_isFrom_X6_slot : GoodIn wsX6_isFrom wsX6_slot := goodIn_r _ [5, 6, 7, 8, 9, 10, 4, 11, 12, 13, 14, 15, 16, 17, 18, 19, 20, 21, 22, 23, 24, 25, 26, 27] (by decide +kernel) (by decide +kernel)
set_option maxRecDepth 20000 in
theorem gX6_isFrom_X6_slot : GoodIn wsX6_isFrom (wsV RX6 44 RX6 yX6_slot wsX6_slot) := goodIn_app (goodIn_of _ (by decide +kernel)) ggX6_isFrom_X6_slot
set_option maxRecDepth 20000 in
theorem ggX6_isFrom_X6_of : GoodIn wsX6_isFrom wsX6_of := goodIn_r _ [11, 6, 12, 13, 14, 15, 16, 17, 18, 19, 20, 21, 22, 23, 24, 25, 26, 27] (by decide +kernel) (by decide +kernel)
set_option maxRecDepth 20000 in
theorem gX6_isFrom_X6_of : GoodIn wsX6_isFrom (wsV RX6 39 RX6 yX6_of wsX6_of) := goodIn_app (goodIn_of _ (by decide +kernel)) ggX6_isFrom_X6_of
theorem dX6_isFrom_0 : decode cX6_isFrom 0 = .ok (.iload_n 1, 1) := by decide +kernel
theorem dX6_isFrom_1 : decode cX6_isFrom 1 = .ok (.istore_n 3, 1) := by decide +kernel
theorem dX6_isFrom_2 : decode cX6_isFrom 2 = .ok (.iload_n 3, 1) := by decide +kernel
theorem dX6_isFrom_3 : decode cX6_isFrom 3 = .ok (.iload_n 2, 1) := by decide +kernel
theorem dX6_isFrom_4 : decode cX6_isFrom 4 = .ok (.if_icmp .le 17, 3) := by decide +kernel
theorem dX6_isFrom_7 : decode cX6_isFrom 7 = .ok (.aload_n 0, 1) := by decide +kernel
theorem dX6_isFrom_8 : decode cX6_isFrom 8 = .ok (.aload_n 0, 1) := by decide +kernel
theorem dX6_isFrom_9 : decode cX6_isFrom 9 = .ok (.iload_n 3, 1) := by decide +kernel
theorem dX6_isFrom_10 : decode cX6_isFrom 10 = .ok (.invokevirtual 44, 3) := by decide +kernel
theorem dX6_isFrom_13 : decode cX6_isFrom 13 = .ok (.iconst 1, 1) := by decide +kernel
theorem dX6_isFrom_14 : decode cX6_isFrom 14 = .ok (.invokevirtual 39, 3) := by decide +kernel
theorem dX6_isFrom_17 : decode cX6_isFrom 17 = .ok (.istore_n 3, 1) := by decide +kernel
theorem dX6_isFrom_18 : decode cX6_isFrom 18 = .ok (.goto (-16), 3) := by decide +kernel
theorem dX6_isFrom_21 : decode cX6_isFrom 21 = .ok (.iload_n 3, 1) := by decide +kernel
theorem dX6_isFrom_22 : decode cX6_isFrom 22 = .ok (.iload_n 2, 1) := by decide +kernel
theorem dX6_isFrom_23 : decode cX6_isFrom 23 = .ok (.if_icmp .ne 7, 3) := by decide +kernel
theorem dX6_isFrom_26 : decode cX6_isFrom 26 = .ok (.iconst 1, 1) := by decide +kernel
theorem dX6_isFrom_27 : decode cX6_isFrom 27 = .ok (.goto 4, 3) := by decide +kernel
theorem dX6_isFrom_30 : decode cX6_isFrom 30 = .ok (.iconst 0, 1) := by decide +kernel
theorem dX6_isFrom_31 : decode cX6_isFrom 31 = .ok (.ireturn, 1) := by decide +kernel
set_option maxRecDepth 20000 in
theorem ggX6_common_X6_isFrom : GoodIn wsX6_common wsX6_isFrom := goodIn_r _ [5, 6, 7, 8, 4, 9, 10, 11, 12, 13, 14, 15, 16, 17, 18, 19, 20, 21, 22, 23, 24, 25, 26, 27, 28, 29, 30, 31] (by decide +kernel) (by decide +kernel)
set_option maxRecDepth 20000 in
theorem gX6_common_X6_isFrom : GoodIn wsX6_common (wsV RX6 122 RX6 yX6_isFrom wsX6_isFrom) := goodIn_app (goodIn_of _ (by decide +kernel)) ggX6_common_X6_isFrom
set_option maxRecDepth 20000 in
theorem ggX6_common_X6_slot : GoodIn wsX6_common wsX6_slot := goodIn_r _ [9, 10, 11, 12, 13, 14, 4, 15, 16, 17, 18, 19, 20, 21, 22, 23, 24, 25, 26, 27, 28, 29, 30, 31] (by decide +kernel) (by decide +kernel)
set_option maxRecDepth 20000 in
theorem gX6_common_X6_slot : GoodIn wsX6_common (wsV RX6 44 RX6 yX6_slot wsX6_slot) := goodIn_app (goodIn_of _ (by decide +kernel)) ggX6_common_X6_slot
set_option maxRecDepth 20000 in
theorem ggX6_common_X6_of : GoodIn wsX6_common wsX6_of := goodIn_r _ [15, 10, 16, 17, 18, 19, 20, 21, 22, 23, 24, 25, 26, 27, 28, 29, 30, 31] (by decide +kernel) (by decide +kernel)
set_option maxRecDepth 20000 in
theorem gX6_common_X6_of : GoodIn wsX6_common (wsV RX6 39 RX6 yX6_of wsX6_of) := goodIn_app (goodIn_of _ (by decide +kernel)) ggX6_common_X6_of
theorem dX6_common_0 : decode cX6_common 0 = .ok (.iload_n 1, 1) := by decide +kernel
theorem dX6_common_1 : decode cX6_common 1 = .ok (.istore_n 3, 1) := by decide +kernel
theorem dX6_common_2 : decode cX6_common 2 = .ok (.aload_n 0, 1) := by decide +kernel
theorem dX6_common_3 : decode cX6_common 3 = .ok (.iload_n 2, 1) := by decide +kernel
theorem dX6_common_4 : decode cX6_common 4 = .ok (.iload_n 3, 1) := by decide +kernel
theorem dX6_common_5 : decode cX6_common 5 = .ok (.invokevirtual 122, 3) := by decide +kernel
theorem dX6_common_8 : decode cX6_common 8 = .ok (.ifCond .ne 17, 3) := by decide +kernel
theorem dX6_common_11 : decode cX6_common 11 = .ok (.aload_n 0, 1) := by decide +kernel
theorem dX6_common_12 : decode cX6_common 12 = .ok (.aload_n 0, 1) := by decide +kernel
theorem dX6_common_13 : decode cX6_common 13 = .ok (.iload_n 3, 1) := by decide +kernel
theorem dX6_common_14 : decode cX6_common 14 = .ok (.invokevirtual 44, 3) := by decide +kernel
theorem dX6_common_17 : decode cX6_common 17 = .ok (.iconst 1, 1) := by decide +kernel
theorem dX6_common_18 : decode cX6_common 18 = .ok (.invokevirtual 39, 3) := by decide +kernel
theorem dX6_common_21 : decode cX6_common 21 = .ok (.istore_n 3, 1) := by decide +kernel
theorem dX6_common_22 : decode cX6_common 22 = .ok (.goto (-20), 3) := by decide +kernel
theorem dX6_common_25 : decode cX6_common 25 = .ok (.iload_n 3, 1) := by decide +kernel
theorem dX6_common_26 : decode cX6_common 26 = .ok (.ireturn, 1) := by decide +kernel
set_option maxRecDepth 20000 in
theorem ggX6_merges_X6_slot : GoodIn wsX6_merges wsX6_slot := goodIn_r _ [7, 1, 8, 9, 10, 11, 6, 12, 29, 30, 31, 32, 33, 34, 35, 36, 37, 38, 39, 40, 41, 42, 43, 44] (by decide +kernel) (by decide +kernel)
set_option maxRecDepth 20000 in
theorem gX6_merges_X6_slot : GoodIn wsX6_merges (wsV RX6 44 RX6 yX6_slot wsX6_slot) := goodIn_app (goodIn_of _ (by decide +kernel)) ggX6_merges_X6_slot
set_option maxRecDepth 20000 in
theorem ggX6_merges_X6_common : GoodIn wsX6_merges wsX6_common := goodIn_r _ [16, 17, 18, 19, 6, 20, 3, 4, 5, 7, 1, 8, 9, 10, 11, 12, 29, 30, 31, 32, 33, 34, 35, 36, 37, 38, 39, 40, 41, 42, 43, 44] (by decide +kernel) (by decide +kernel)
set_option maxRecDepth 20000 in
theorem gX6_merges_X6_common : GoodIn wsX6_merges (wsV RX6 125 RX6 yX6_common wsX6_common) := goodIn_app (goodIn_of _ (by decide +kernel)) ggX6_merges_X6_common
set_option maxRecDepth 20000 in
theorem ggX6_merges_X6_cellOf : GoodIn wsX6_merges wsX6_cellOf := goodIn_r _ [24, 9, 10, 11, 6, 12, 1, 25, 26, 27, 28, 29, 30, 31, 32, 33, 34, 35, 36, 37, 38, 39, 40, 41, 42, 43, 44] (by decide +kernel) (by decide +kernel)
set_option maxRecDepth 20000 in
theorem gX6_merges_X6_cellOf : GoodIn wsX6_merges (wsV RX6 62 RX6 yX6_cellOf wsX6_cellOf) := goodIn_app (goodIn_of _ (by decide +kernel)) ggX6_merges_X6_cellOf
theorem dX6_merges_0 : decode cX6_merges 0 = .ok (.aload_n 0, 1) := by decide +kernel
theorem dX6_merges_1 : decode cX6_merges 1 = .ok (.aload_n 0, 1) := by decide +kernel
theorem dX6_merges_2 : decode cX6_merges 2 = .ok (.getfield 7, 3) := by decide +kernel
theorem dX6_merges_5 : decode cX6_merges 5 = .ok (.bipush 6, 2) := by decide +kernel
theorem dX6_merges_7 : decode cX6_merges 7 = .ok (.iload_n 1, 1) := by decide +kernel
theorem dX6_merges_8 : decode cX6_merges 8 = .ok (.iadd, 1) := by decide +kernel
theorem dX6_merges_9 : decode cX6_merges 9 = .ok (.iaload, 1) := by decide +kernel
theorem dX6_merges_10 : decode cX6_merges 10 = .ok (.invokevirtual 44, 3) := by decide +kernel
theorem dX6_merges_13 : decode cX6_merges 13 = .ok (.istore_n 3, 1) := by decide +kernel
theorem dX6_merges_14 : decode cX6_merges 14 = .ok (.aload_n 0, 1) := by decide +kernel
theorem dX6_merges_15 : decode cX6_merges 15 = .ok (.iload_n 2, 1) := by decide +kernel
theorem dX6_merges_16 : decode cX6_merges 16 = .ok (.invokevirtual 44, 3) := by decide +kernel
theorem dX6_merges_19 : decode cX6_merges 19 = .ok (.istore 4, 2) := by decide +kernel
theorem dX6_merges_21 : decode cX6_merges 21 = .ok (.aload_n 0, 1) := by decide +kernel
theorem dX6_merges_22 : decode cX6_merges 22 = .ok (.aload_n 0, 1) := by decide +kernel
theorem dX6_merges_23 : decode cX6_merges 23 = .ok (.aload_n 0, 1) := by decide +kernel
theorem dX6_merges_24 : decode cX6_merges 24 = .ok (.getfield 7, 3) := by decide +kernel
theorem dX6_merges_27 : decode cX6_merges 27 = .ok (.bipush 6, 2) := by decide +kernel
theorem dX6_merges_29 : decode cX6_merges 29 = .ok (.iload_n 1, 1) := by decide +kernel
theorem dX6_merges_30 : decode cX6_merges 30 = .ok (.iadd, 1) := by decide +kernel
theorem dX6_merges_31 : decode cX6_merges 31 = .ok (.iaload, 1) := by decide +kernel
theorem dX6_merges_32 : decode cX6_merges 32 = .ok (.iload_n 2, 1) := by decide +kernel
theorem dX6_merges_33 : decode cX6_merges 33 = .ok (.invokevirtual 125, 3) := by decide +kernel
theorem dX6_merges_36 : decode cX6_merges 36 = .ok (.invokevirtual 44, 3) := by decide +kernel
theorem dX6_merges_39 : decode cX6_merges 39 = .ok (.istore 5, 2) := by decide +kernel
theorem dX6_merges_41 : decode cX6_merges 41 = .ok (.iconst 0, 1) := by decide +kernel
theorem dX6_merges_42 : decode cX6_merges 42 = .ok (.istore 6, 2) := by decide +kernel
theorem dX6_merges_44 : decode cX6_merges 44 = .ok (.iconst 0, 1) := by decide +kernel
theorem dX6_merges_45 : decode cX6_merges 45 = .ok (.istore 7, 2) := by decide +kernel
theorem dX6_merges_47 : decode cX6_merges 47 = .ok (.iload 7, 2) := by decide +kernel
theorem dX6_merges_49 : decode cX6_merges 49 = .ok (.bipush 48, 2) := by decide +kernel
theorem dX6_merges_51 : decode cX6_merges 51 = .ok (.if_icmp .ge 119, 3) := by decide +kernel
theorem dX6_merges_54 : decode cX6_merges 54 = .ok (.aload_n 0, 1) := by decide +kernel
theorem dX6_merges_55 : decode cX6_merges 55 = .ok (.iload_n 3, 1) := by decide +kernel
theorem dX6_merges_56 : decode cX6_merges 56 = .ok (.iload 7, 2) := by decide +kernel
theorem dX6_merges_58 : decode cX6_merges 58 = .ok (.invokevirtual 62, 3) := by decide +kernel
theorem dX6_merges_61 : decode cX6_merges 61 = .ok (.istore 8, 2) := by decide +kernel
theorem dX6_merges_63 : decode cX6_merges 63 = .ok (.aload_n 0, 1) := by decide +kernel
theorem dX6_merges_64 : decode cX6_merges 64 = .ok (.iload 4, 2) := by decide +kernel
theorem dX6_merges_66 : decode cX6_merges 66 = .ok (.iload 7, 2) := by decide +kernel
theorem dX6_merges_68 : decode cX6_merges 68 = .ok (.invokevirtual 62, 3) := by decide +kernel
theorem dX6_merges_71 : decode cX6_merges 71 = .ok (.istore 9, 2) := by decide +kernel
theorem dX6_merges_73 : decode cX6_merges 73 = .ok (.iload 9, 2) := by decide +kernel
theorem dX6_merges_75 : decode cX6_merges 75 = .ok (.aload_n 0, 1) := by decide +kernel
theorem dX6_merges_76 : decode cX6_merges 76 = .ok (.iload 5, 2) := by decide +kernel
theorem dX6_merges_78 : decode cX6_merges 78 = .ok (.iload 7, 2) := by decide +kernel
theorem dX6_merges_80 : decode cX6_merges 80 = .ok (.invokevirtual 62, 3) := by decide +kernel
theorem dX6_merges_83 : decode cX6_merges 83 = .ok (.if_icmp .ne 7, 3) := by decide +kernel
theorem dX6_merges_86 : decode cX6_merges 86 = .ok (.iconst 1, 1) := by decide +kernel
theorem dX6_merges_87 : decode cX6_merges 87 = .ok (.goto 4, 3) := by decide +kernel
theorem dX6_merges_90 : decode cX6_merges 90 = .ok (.iconst 0, 1) := by decide +kernel
theorem dX6_merges_91 : decode cX6_merges 91 = .ok (.istore 10, 2) := by decide +kernel
theorem dX6_merges_93 : decode cX6_merges 93 = .ok (.iload 10, 2) := by decide +kernel
theorem dX6_merges_95 : decode cX6_merges 95 = .ok (.ifCond .ne 27, 3) := by decide +kernel
theorem dX6_merges_98 : decode cX6_merges 98 = .ok (.iload 8, 2) := by decide +kernel
theorem dX6_merges_100 : decode cX6_merges 100 = .ok (.aload_n 0, 1) := by decide +kernel
theorem dX6_merges_101 : decode cX6_merges 101 = .ok (.iload 5, 2) := by decide +kernel
theorem dX6_merges_103 : decode cX6_merges 103 = .ok (.iload 7, 2) := by decide +kernel
theorem dX6_merges_105 : decode cX6_merges 105 = .ok (.invokevirtual 62, 3) := by decide +kernel
theorem dX6_merges_108 : decode cX6_merges 108 = .ok (.if_icmp .eq 10, 3) := by decide +kernel
theorem dX6_merges_111 : decode cX6_merges 111 = .ok (.iload 8, 2) := by decide +kernel
theorem dX6_merges_113 : decode cX6_merges 113 = .ok (.iload 9, 2) := by decide +kernel
theorem dX6_merges_115 : decode cX6_merges 115 = .ok (.if_icmp .ne 7, 3) := by decide +kernel
theorem dX6_merges_118 : decode cX6_merges 118 = .ok (.iconst 1, 1) := by decide +kernel
theorem dX6_merges_119 : decode cX6_merges 119 = .ok (.goto 4, 3) := by decide +kernel
theorem dX6_merges_122 : decode cX6_merges 122 = .ok (.iconst 0, 1) := by decide +kernel
theorem dX6_merges_123 : decode cX6_merges 123 = .ok (.istore 11, 2) := by decide +kernel
theorem dX6_merges_125 : decode cX6_merges 125 = .ok (.aload_n 0, 1) := by decide +kernel
theorem dX6_merges_126 : decode cX6_merges 126 = .ok (.getfield 22, 3) := by decide +kernel
theorem dX6_merges_129 : decode cX6_merges 129 = .ok (.iload 7, 2) := by decide +kernel
theorem dX6_merges_131 : decode cX6_merges 131 = .ok (.iload 11, 2) := by decide +kernel
theorem dX6_merges_133 : decode cX6_merges 133 = .ok (.ifCond .eq 8, 3) := by decide +kernel
theorem dX6_merges_136 : decode cX6_merges 136 = .ok (.iload 9, 2) := by decide +kernel
theorem dX6_merges_138 : decode cX6_merges 138 = .ok (.goto 5, 3) := by decide +kernel
theorem dX6_merges_141 : decode cX6_merges 141 = .ok (.iload 8, 2) := by decide +kernel
theorem dX6_merges_143 : decode cX6_merges 143 = .ok (.iastore, 1) := by decide +kernel
theorem dX6_merges_144 : decode cX6_merges 144 = .ok (.iload 6, 2) := by decide +kernel
theorem dX6_merges_146 : decode cX6_merges 146 = .ok (.iload 10, 2) := by decide +kernel
theorem dX6_merges_148 : decode cX6_merges 148 = .ok (.ifCond .ne 8, 3) := by decide +kernel
theorem dX6_merges_151 : decode cX6_merges 151 = .ok (.iload 11, 2) := by decide +kernel
theorem dX6_merges_153 : decode cX6_merges 153 = .ok (.ifCond .eq 7, 3) := by decide +kernel
theorem dX6_merges_156 : decode cX6_merges 156 = .ok (.iconst 0, 1) := by decide +kernel
theorem dX6_merges_157 : decode cX6_merges 157 = .ok (.goto 4, 3) := by decide +kernel
theorem dX6_merges_160 : decode cX6_merges 160 = .ok (.iconst 1, 1) := by decide +kernel
theorem dX6_merges_161 : decode cX6_merges 161 = .ok (.iadd, 1) := by decide +kernel
theorem dX6_merges_162 : decode cX6_merges 162 = .ok (.istore 6, 2) := by decide +kernel
theorem dX6_merges_164 : decode cX6_merges 164 = .ok (.iinc 7 1, 3) := by decide +kernel
theorem dX6_merges_167 : decode cX6_merges 167 = .ok (.goto (-120), 3) := by decide +kernel
theorem dX6_merges_170 : decode cX6_merges 170 = .ok (.iload 6, 2) := by decide +kernel
theorem dX6_merges_172 : decode cX6_merges 172 = .ok (.ireturn, 1) := by decide +kernel
set_option maxRecDepth 20000 in
theorem ggX6_merge_X6_isBranch : GoodIn wsX6_merge wsX6_isBranch := goodIn_r _ [7, 2, 8, 9, 6, 10, 97, 98, 99, 100, 101, 102, 103, 104, 105, 106, 107, 108, 109, 110, 111, 112] (by decide +kernel) (by decide +kernel)
set_option maxRecDepth 20000 in
theorem gX6_merge_X6_isBranch : GoodIn wsX6_merge (wsV RX6 105 RX6 yX6_isBranch wsX6_isBranch) := goodIn_app (goodIn_of _ (by decide +kernel)) ggX6_merge_X6_isBranch
set_option maxRecDepth 20000 in
theorem ggX6_merge_X6_isState : GoodIn wsX6_merge wsX6_isState := goodIn_r _ [14, 15, 16, 17, 6, 18, 2, 19, 20, 21, 22, 23, 97, 98, 99, 100, 101, 102, 103, 104, 105, 106, 107, 108, 109, 110, 111, 112] (by decide +kernel) (by decide +kernel)
set_option maxRecDepth 20000 in
theorem gX6_merge_X6_isState : GoodIn wsX6_merge (wsV RX6 119 RX6 yX6_isState wsX6_isState) := goodIn_app (goodIn_of _ (by decide +kernel)) ggX6_merge_X6_isState
set_option maxRecDepth 20000 in
theorem ggX6_merge_X6_merges : GoodIn wsX6_merge wsX6_merges := goodIn_r _ [27, 2, 28, 15, 16, 17, 6, 18, 19, 20, 21, 22, 23, 29, 30, 31, 32, 33, 34, 35, 36, 37, 38, 39, 40, 41, 42, 43, 44, 97, 98, 99, 100, 101, 102, 103, 104, 105, 106, 107, 108, 109, 110, 111, 112] (by decide +kernel) (by decide +kernel)
set_option maxRecDepth 20000 in
theorem gX6_merge_X6_merges : GoodIn wsX6_merge (wsV RX6 128 RX6 yX6_merges wsX6_merges) := goodIn_app (goodIn_of _ (by decide +kernel)) ggX6_merge_X6_merges
set_option maxRecDepth 20000 in
theorem ggX6_merge_X6_tries : GoodIn wsX6_merge wsX6_tries := goodIn_r _ [48, 49, 50, 51, 52, 6, 53, 2, 54, 55, 56, 57, 15, 16, 17, 18, 19, 20, 21, 22, 23, 58, 59, 60, 61, 62, 63, 64, 65, 28, 66, 67, 68, 69, 8, 9, 10, 41, 42, 43, 44, 70, 71, 72, 73, 37, 38, 39, 40, 74, 75, 76, 77, 78, 79, 80, 81, 82, 83, 84, 85, 86, 87, 88, 89, 90, 91, 92, 93, 94, 95, 96, 97, 98, 99, 100, 101, 102, 103, 104, 105, 106, 107, 108, 109, 110, 111, 112] (by decide +kernel) (by decide +kernel)
set_option maxRecDepth 20000 in
theorem gX6_merge_X6_tries : GoodIn wsX6_merge (wsV RX6 116 RX6 yX6_tries wsX6_tries) := goodIn_app (goodIn_of _ (by decide +kernel)) ggX6_merge_X6_tries
theorem dX6_merge_0 : decode cX6_merge 0 = .ok (.aload_n 0, 1) := by decide +kernel
theorem dX6_merge_1 : decode cX6_merge 1 = .ok (.iload_n 1, 1) := by decide +kernel
theorem dX6_merge_2 : decode cX6_merge 2 = .ok (.invokevirtual 105, 3) := by decide +kernel
theorem dX6_merge_5 : decode cX6_merge 5 = .ok (.ifCond .eq 11, 3) := by decide +kernel
theorem dX6_merge_8 : decode cX6_merge 8 = .ok (.aload_n 0, 1) := by decide +kernel
theorem dX6_merge_9 : decode cX6_merge 9 = .ok (.iload_n 2, 1) := by decide +kernel
theorem dX6_merge_10 : decode cX6_merge 10 = .ok (.invokevirtual 119, 3) := by decide +kernel
theorem dX6_merge_13 : decode cX6_merge 13 = .ok (.ifCond .ne 6, 3) := by decide +kernel
theorem dX6_merge_16 : decode cX6_merge 16 = .ok (.ldc 111, 2) := by decide +kernel
theorem dX6_merge_18 : decode cX6_merge 18 = .ok (.ireturn, 1) := by decide +kernel
theorem dX6_merge_19 : decode cX6_merge 19 = .ok (.aload_n 0, 1) := by decide +kernel
theorem dX6_merge_20 : decode cX6_merge 20 = .ok (.iload_n 1, 1) := by decide +kernel
theorem dX6_merge_21 : decode cX6_merge 21 = .ok (.iload_n 2, 1) := by decide +kernel
theorem dX6_merge_22 : decode cX6_merge 22 = .ok (.invokevirtual 128, 3) := by decide +kernel
theorem dX6_merge_25 : decode cX6_merge 25 = .ok (.istore_n 3, 1) := by decide +kernel
theorem dX6_merge_26 : decode cX6_merge 26 = .ok (.aload_n 0, 1) := by decide +kernel
theorem dX6_merge_27 : decode cX6_merge 27 = .ok (.iload_n 1, 1) := by decide +kernel
theorem dX6_merge_28 : decode cX6_merge 28 = .ok (.invokevirtual 116, 3) := by decide +kernel
theorem dX6_merge_31 : decode cX6_merge 31 = .ok (.istore 4, 2) := by decide +kernel
theorem dX6_merge_33 : decode cX6_merge 33 = .ok (.aload_n 0, 1) := by decide +kernel
theorem dX6_merge_34 : decode cX6_merge 34 = .ok (.getfield 7, 3) := by decide +kernel
theorem dX6_merge_37 : decode cX6_merge 37 = .ok (.iconst 4, 1) := by decide +kernel
theorem dX6_merge_38 : decode cX6_merge 38 = .ok (.dup2, 1) := by decide +kernel
theorem dX6_merge_39 : decode cX6_merge 39 = .ok (.iaload, 1) := by decide +kernel
theorem dX6_merge_40 : decode cX6_merge 40 = .ok (.iload 4, 2) := by decide +kernel
theorem dX6_merge_42 : decode cX6_merge 42 = .ok (.ifCond .ge 7, 3) := by decide +kernel
theorem dX6_merge_45 : decode cX6_merge 45 = .ok (.iconst 0, 1) := by decide +kernel
theorem dX6_merge_46 : decode cX6_merge 46 = .ok (.goto 4, 3) := by decide +kernel
theorem dX6_merge_49 : decode cX6_merge 49 = .ok (.iload_n 3, 1) := by decide +kernel
theorem dX6_merge_50 : decode cX6_merge 50 = .ok (.iadd, 1) := by decide +kernel
theorem dX6_merge_51 : decode cX6_merge 51 = .ok (.iastore, 1) := by decide +kernel
theorem dX6_merge_52 : decode cX6_merge 52 = .ok (.iload 4, 2) := by decide +kernel
theorem dX6_merge_54 : decode cX6_merge 54 = .ok (.ifCond .ge 8, 3) := by decide +kernel
theorem dX6_merge_57 : decode cX6_merge 57 = .ok (.iload 4, 2) := by decide +kernel
theorem dX6_merge_59 : decode cX6_merge 59 = .ok (.goto 4, 3) := by decide +kernel
theorem dX6_merge_62 : decode cX6_merge 62 = .ok (.iload_n 3, 1) := by decide +kernel
theorem dX6_merge_63 : decode cX6_merge 63 = .ok (.ireturn, 1) := by decide +kernel
set_option maxRecDepth 20000 in
theorem ggX6_branch_X6_isState : GoodIn wsX6_branch wsX6_isState := goodIn_r _ [8, 9, 10, 11, 7, 12, 2, 13, 14, 15, 16, 17, 25, 26, 27, 28, 29, 30, 31, 32, 33, 34, 35, 36, 37, 38, 39, 40] (by decide +kernel) (by decide +kernel)
set_option maxRecDepth 20000 in
theorem gX6_branch_X6_isState : GoodIn wsX6_branch (wsV RX6 119 RX6 yX6_isState wsX6_isState) := goodIn_app (goodIn_of _ (by decide +kernel)) ggX6_branch_X6_isState
set_option maxRecDepth 20000 in
theorem ggX6_branch_X6_changes : GoodIn wsX6_branch wsX6_changes := goodIn_r _ [21, 22, 23, 24, 2, 25, 26, 27, 28, 29, 30, 31, 32, 33, 34, 35, 36, 37, 38, 39, 40] (by decide +kernel) (by decide +kernel)
set_option maxRecDepth 20000 in
theorem gX6_branch_X6_changes : GoodIn wsX6_branch (wsV RX6 95 RX6 yX6_changes wsX6_changes) := goodIn_app (goodIn_of _ (by decide +kernel)) ggX6_branch_X6_changes
theorem dX6_branch_0 : decode cX6_branch 0 = .ok (.aload_n 0, 1) := by decide +kernel
theorem dX6_branch_1 : decode cX6_branch 1 = .ok (.iload_n 1, 1) := by decide +kernel
theorem dX6_branch_2 : decode cX6_branch 2 = .ok (.invokevirtual 119, 3) := by decide +kernel
theorem dX6_branch_5 : decode cX6_branch 5 = .ok (.ifCond .ne 6, 3) := by decide +kernel
theorem dX6_branch_8 : decode cX6_branch 8 = .ok (.ldc 111, 2) := by decide +kernel
theorem dX6_branch_10 : decode cX6_branch 10 = .ok (.ireturn, 1) := by decide +kernel
theorem dX6_branch_11 : decode cX6_branch 11 = .ok (.iconst 0, 1) := by decide +kernel
theorem dX6_branch_12 : decode cX6_branch 12 = .ok (.istore_n 2, 1) := by decide +kernel
theorem dX6_branch_13 : decode cX6_branch 13 = .ok (.iload_n 2, 1) := by decide +kernel
theorem dX6_branch_14 : decode cX6_branch 14 = .ok (.iconst 4, 1) := by decide +kernel
theorem dX6_branch_15 : decode cX6_branch 15 = .ok (.if_icmp .ge 21, 3) := by decide +kernel
theorem dX6_branch_18 : decode cX6_branch 18 = .ok (.aload_n 0, 1) := by decide +kernel
theorem dX6_branch_19 : decode cX6_branch 19 = .ok (.getfield 7, 3) := by decide +kernel
theorem dX6_branch_22 : decode cX6_branch 22 = .ok (.bipush 6, 2) := by decide +kernel
theorem dX6_branch_24 : decode cX6_branch 24 = .ok (.iload_n 2, 1) := by decide +kernel
theorem dX6_branch_25 : decode cX6_branch 25 = .ok (.iadd, 1) := by decide +kernel
theorem dX6_branch_26 : decode cX6_branch 26 = .ok (.iaload, 1) := by decide +kernel
theorem dX6_branch_27 : decode cX6_branch 27 = .ok (.ifCond .lt 9, 3) := by decide +kernel
theorem dX6_branch_30 : decode cX6_branch 30 = .ok (.iinc 2 1, 3) := by decide +kernel
theorem dX6_branch_33 : decode cX6_branch 33 = .ok (.goto (-20), 3) := by decide +kernel
theorem dX6_branch_36 : decode cX6_branch 36 = .ok (.iload_n 2, 1) := by decide +kernel
theorem dX6_branch_37 : decode cX6_branch 37 = .ok (.iconst 4, 1) := by decide +kernel
theorem dX6_branch_38 : decode cX6_branch 38 = .ok (.if_icmp .ne 6, 3) := by decide +kernel
theorem dX6_branch_41 : decode cX6_branch 41 = .ok (.ldc 94, 2) := by decide +kernel
theorem dX6_branch_43 : decode cX6_branch 43 = .ok (.ireturn, 1) := by decide +kernel
theorem dX6_branch_44 : decode cX6_branch 44 = .ok (.aload_n 0, 1) := by decide +kernel
theorem dX6_branch_45 : decode cX6_branch 45 = .ok (.invokevirtual 95, 3) := by decide +kernel
theorem dX6_branch_48 : decode cX6_branch 48 = .ok (.aload_n 0, 1) := by decide +kernel
theorem dX6_branch_49 : decode cX6_branch 49 = .ok (.getfield 7, 3) := by decide +kernel
theorem dX6_branch_52 : decode cX6_branch 52 = .ok (.bipush 6, 2) := by decide +kernel
theorem dX6_branch_54 : decode cX6_branch 54 = .ok (.iload_n 2, 1) := by decide +kernel
theorem dX6_branch_55 : decode cX6_branch 55 = .ok (.iadd, 1) := by decide +kernel
theorem dX6_branch_56 : decode cX6_branch 56 = .ok (.iload_n 1, 1) := by decide +kernel
theorem dX6_branch_57 : decode cX6_branch 57 = .ok (.iastore, 1) := by decide +kernel
theorem dX6_branch_58 : decode cX6_branch 58 = .ok (.iload_n 2, 1) := by decide +kernel
theorem dX6_branch_59 : decode cX6_branch 59 = .ok (.ireturn, 1) := by decide +kernel
set_option maxRecDepth 20000 in
theorem ggX6_leave_X6_isBranch : GoodIn wsX6_leave wsX6_isBranch := goodIn_r _ [8, 3, 9, 10, 7, 11, 23, 24, 25, 26, 27, 28, 29, 30, 31, 32, 33, 34, 35, 36, 37, 38] (by decide +kernel) (by decide +kernel)
set_option maxRecDepth 20000 in
theorem gX6_leave_X6_isBranch : GoodIn wsX6_leave (wsV RX6 105 RX6 yX6_isBranch wsX6_isBranch) := goodIn_app (goodIn_of _ (by decide +kernel)) ggX6_leave_X6_isBranch
set_option maxRecDepth 20000 in
theorem ggX6_leave_X6_branches : GoodIn wsX6_leave wsX6_branches := goodIn_r _ [15, 3, 23, 24, 25, 26, 27, 28, 29, 30, 31, 32, 33, 34, 35, 36, 37, 38] (by decide +kernel) (by decide +kernel)
set_option maxRecDepth 20000 in
theorem gX6_leave_X6_branches : GoodIn wsX6_leave (wsV RX6 131 RX6 yX6_branches wsX6_branches) := goodIn_app (goodIn_of _ (by decide +kernel)) ggX6_leave_X6_branches
set_option maxRecDepth 20000 in
theorem ggX6_leave_X6_changes : GoodIn wsX6_leave wsX6_changes := goodIn_r _ [19, 20, 21, 22, 3, 23, 24, 25, 26, 27, 28, 29, 30, 31, 32, 33, 34, 35, 36, 37, 38] (by decide +kernel) (by decide +kernel)
set_option maxRecDepth 20000 in
theorem gX6_leave_X6_changes : GoodIn wsX6_leave (wsV RX6 95 RX6 yX6_changes wsX6_changes) := goodIn_app (goodIn_of _ (by decide +kernel)) ggX6_leave_X6_changes
theorem dX6_leave_0 : decode cX6_leave 0 = .ok (.aload_n 0, 1) := by decide +kernel
theorem dX6_leave_1 : decode cX6_leave 1 = .ok (.iload_n 1, 1) := by decide +kernel
theorem dX6_leave_2 : decode cX6_leave 2 = .ok (.invokevirtual 105, 3) := by decide +kernel
theorem dX6_leave_5 : decode cX6_leave 5 = .ok (.ifCond .ne 6, 3) := by decide +kernel
theorem dX6_leave_8 : decode cX6_leave 8 = .ok (.ldc 111, 2) := by decide +kernel
theorem dX6_leave_10 : decode cX6_leave 10 = .ok (.ireturn, 1) := by decide +kernel
theorem dX6_leave_11 : decode cX6_leave 11 = .ok (.aload_n 0, 1) := by decide +kernel
theorem dX6_leave_12 : decode cX6_leave 12 = .ok (.invokevirtual 131, 3) := by decide +kernel
theorem dX6_leave_15 : decode cX6_leave 15 = .ok (.iconst 1, 1) := by decide +kernel
theorem dX6_leave_16 : decode cX6_leave 16 = .ok (.if_icmp .ne 6, 3) := by decide +kernel
theorem dX6_leave_19 : decode cX6_leave 19 = .ok (.ldc 134, 2) := by decide +kernel
theorem dX6_leave_21 : decode cX6_leave 21 = .ok (.ireturn, 1) := by decide +kernel
theorem dX6_leave_22 : decode cX6_leave 22 = .ok (.aload_n 0, 1) := by decide +kernel
theorem dX6_leave_23 : decode cX6_leave 23 = .ok (.invokevirtual 95, 3) := by decide +kernel
theorem dX6_leave_26 : decode cX6_leave 26 = .ok (.aload_n 0, 1) := by decide +kernel
theorem dX6_leave_27 : decode cX6_leave 27 = .ok (.getfield 7, 3) := by decide +kernel
theorem dX6_leave_30 : decode cX6_leave 30 = .ok (.bipush 6, 2) := by decide +kernel
theorem dX6_leave_32 : decode cX6_leave 32 = .ok (.iload_n 1, 1) := by decide +kernel
theorem dX6_leave_33 : decode cX6_leave 33 = .ok (.iadd, 1) := by decide +kernel
theorem dX6_leave_34 : decode cX6_leave 34 = .ok (.iconst (-1), 1) := by decide +kernel
theorem dX6_leave_35 : decode cX6_leave 35 = .ok (.iastore, 1) := by decide +kernel
theorem dX6_leave_36 : decode cX6_leave 36 = .ok (.aload_n 0, 1) := by decide +kernel
theorem dX6_leave_37 : decode cX6_leave 37 = .ok (.invokevirtual 131, 3) := by decide +kernel
theorem dX6_leave_40 : decode cX6_leave 40 = .ok (.ireturn, 1) := by decide +kernel
set_option maxRecDepth 20000 in
theorem ggX6_back_X6_isBranch : GoodIn wsX6_back wsX6_isBranch := goodIn_r _ [8, 2, 9, 10, 7, 11, 28, 29, 30, 31, 32, 33, 34, 35, 36, 37, 38, 39, 40, 41, 42, 43] (by decide +kernel) (by decide +kernel)
set_option maxRecDepth 20000 in
theorem gX6_back_X6_isBranch : GoodIn wsX6_back (wsV RX6 105 RX6 yX6_isBranch wsX6_isBranch) := goodIn_app (goodIn_of _ (by decide +kernel)) ggX6_back_X6_isBranch
set_option maxRecDepth 20000 in
theorem ggX6_back_X6_changes : GoodIn wsX6_back wsX6_changes := goodIn_r _ [15, 16, 17, 18, 2, 28, 29, 30, 31, 32, 33, 34, 35, 36, 37, 38, 39, 40, 41, 42, 43] (by decide +kernel) (by decide +kernel)
set_option maxRecDepth 20000 in
theorem gX6_back_X6_changes : GoodIn wsX6_back (wsV RX6 95 RX6 yX6_changes wsX6_changes) := goodIn_app (goodIn_of _ (by decide +kernel)) ggX6_back_X6_changes
set_option maxRecDepth 20000 in
theorem ggX6_back_X6_slot : GoodIn wsX6_back wsX6_slot := goodIn_r _ [22, 2, 23, 24, 25, 26, 7, 27, 28, 29, 30, 31, 32, 33, 34, 35, 36, 37, 38, 39, 40, 41, 42, 43] (by decide +kernel) (by decide +kernel)
set_option maxRecDepth 20000 in
theorem gX6_back_X6_slot : GoodIn wsX6_back (wsV RX6 44 RX6 yX6_slot wsX6_slot) := goodIn_app (goodIn_of _ (by decide +kernel)) ggX6_back_X6_slot
set_option maxRecDepth 20000 in
theorem ggX6_back_X6_of : GoodIn wsX6_back wsX6_of := goodIn_r _ [27, 2, 28, 29, 30, 31, 32, 33, 34, 35, 36, 37, 38, 39, 40, 41, 42, 43] (by decide +kernel) (by decide +kernel)
set_option maxRecDepth 20000 in
theorem gX6_back_X6_of : GoodIn wsX6_back (wsV RX6 39 RX6 yX6_of wsX6_of) := goodIn_app (goodIn_of _ (by decide +kernel)) ggX6_back_X6_of
theorem dX6_back_0 : decode cX6_back 0 = .ok (.aload_n 0, 1) := by decide +kernel
theorem dX6_back_1 : decode cX6_back 1 = .ok (.iload_n 1, 1) := by decide +kernel
theorem dX6_back_2 : decode cX6_back 2 = .ok (.invokevirtual 105, 3) := by decide +kernel
theorem dX6_back_5 : decode cX6_back 5 = .ok (.ifCond .ne 6, 3) := by decide +kernel
theorem dX6_back_8 : decode cX6_back 8 = .ok (.ldc 111, 2) := by decide +kernel
theorem dX6_back_10 : decode cX6_back 10 = .ok (.ireturn, 1) := by decide +kernel
theorem dX6_back_11 : decode cX6_back 11 = .ok (.aload_n 0, 1) := by decide +kernel
theorem dX6_back_12 : decode cX6_back 12 = .ok (.getfield 7, 3) := by decide +kernel
theorem dX6_back_15 : decode cX6_back 15 = .ok (.bipush 6, 2) := by decide +kernel
theorem dX6_back_17 : decode cX6_back 17 = .ok (.iload_n 1, 1) := by decide +kernel
theorem dX6_back_18 : decode cX6_back 18 = .ok (.iadd, 1) := by decide +kernel
theorem dX6_back_19 : decode cX6_back 19 = .ok (.iaload, 1) := by decide +kernel
theorem dX6_back_20 : decode cX6_back 20 = .ok (.istore_n 2, 1) := by decide +kernel
theorem dX6_back_21 : decode cX6_back 21 = .ok (.iload_n 2, 1) := by decide +kernel
theorem dX6_back_22 : decode cX6_back 22 = .ok (.ifCond .ne 6, 3) := by decide +kernel
theorem dX6_back_25 : decode cX6_back 25 = .ok (.ldc 134, 2) := by decide +kernel
theorem dX6_back_27 : decode cX6_back 27 = .ok (.ireturn, 1) := by decide +kernel
theorem dX6_back_28 : decode cX6_back 28 = .ok (.aload_n 0, 1) := by decide +kernel
theorem dX6_back_29 : decode cX6_back 29 = .ok (.invokevirtual 95, 3) := by decide +kernel
theorem dX6_back_32 : decode cX6_back 32 = .ok (.aload_n 0, 1) := by decide +kernel
theorem dX6_back_33 : decode cX6_back 33 = .ok (.getfield 7, 3) := by decide +kernel
theorem dX6_back_36 : decode cX6_back 36 = .ok (.bipush 6, 2) := by decide +kernel
theorem dX6_back_38 : decode cX6_back 38 = .ok (.iload_n 1, 1) := by decide +kernel
theorem dX6_back_39 : decode cX6_back 39 = .ok (.iadd, 1) := by decide +kernel
theorem dX6_back_40 : decode cX6_back 40 = .ok (.aload_n 0, 1) := by decide +kernel
theorem dX6_back_41 : decode cX6_back 41 = .ok (.aload_n 0, 1) := by decide +kernel
theorem dX6_back_42 : decode cX6_back 42 = .ok (.iload_n 2, 1) := by decide +kernel
theorem dX6_back_43 : decode cX6_back 43 = .ok (.invokevirtual 44, 3) := by decide +kernel
theorem dX6_back_46 : decode cX6_back 46 = .ok (.iconst 1, 1) := by decide +kernel
theorem dX6_back_47 : decode cX6_back 47 = .ok (.invokevirtual 39, 3) := by decide +kernel
theorem dX6_back_50 : decode cX6_back 50 = .ok (.iastore, 1) := by decide +kernel
theorem dX6_back_51 : decode cX6_back 51 = .ok (.aload_n 0, 1) := by decide +kernel
theorem dX6_back_52 : decode cX6_back 52 = .ok (.getfield 7, 3) := by decide +kernel
theorem dX6_back_55 : decode cX6_back 55 = .ok (.bipush 6, 2) := by decide +kernel
theorem dX6_back_57 : decode cX6_back 57 = .ok (.iload_n 1, 1) := by decide +kernel
theorem dX6_back_58 : decode cX6_back 58 = .ok (.iadd, 1) := by decide +kernel
theorem dX6_back_59 : decode cX6_back 59 = .ok (.iaload, 1) := by decide +kernel
theorem dX6_back_60 : decode cX6_back 60 = .ok (.ireturn, 1) := by decide +kernel
theorem dX6_canForget_0 : decode cX6_canForget 0 = .ok (.iload_n 1, 1) := by decide +kernel
theorem dX6_canForget_1 : decode cX6_canForget 1 = .ok (.ifCond .le 7, 3) := by decide +kernel
theorem dX6_canForget_4 : decode cX6_canForget 4 = .ok (.iconst 1, 1) := by decide +kernel
theorem dX6_canForget_5 : decode cX6_canForget 5 = .ok (.goto 4, 3) := by decide +kernel
theorem dX6_canForget_8 : decode cX6_canForget 8 = .ok (.iconst 0, 1) := by decide +kernel
theorem dX6_canForget_9 : decode cX6_canForget 9 = .ok (.istore_n 2, 1) := by decide +kernel
theorem dX6_canForget_10 : decode cX6_canForget 10 = .ok (.iconst 0, 1) := by decide +kernel
theorem dX6_canForget_11 : decode cX6_canForget 11 = .ok (.istore_n 3, 1) := by decide +kernel
theorem dX6_canForget_12 : decode cX6_canForget 12 = .ok (.iload_n 3, 1) := by decide +kernel
theorem dX6_canForget_13 : decode cX6_canForget 13 = .ok (.iconst 4, 1) := by decide +kernel
theorem dX6_canForget_14 : decode cX6_canForget 14 = .ok (.if_icmp .ge 32, 3) := by decide +kernel
theorem dX6_canForget_17 : decode cX6_canForget 17 = .ok (.iload_n 2, 1) := by decide +kernel
theorem dX6_canForget_18 : decode cX6_canForget 18 = .ok (.ifCond .eq 20, 3) := by decide +kernel
theorem dX6_canForget_21 : decode cX6_canForget 21 = .ok (.aload_n 0, 1) := by decide +kernel
theorem dX6_canForget_22 : decode cX6_canForget 22 = .ok (.getfield 7, 3) := by decide +kernel
theorem dX6_canForget_25 : decode cX6_canForget 25 = .ok (.bipush 6, 2) := by decide +kernel
theorem dX6_canForget_27 : decode cX6_canForget 27 = .ok (.iload_n 3, 1) := by decide +kernel
theorem dX6_canForget_28 : decode cX6_canForget 28 = .ok (.iadd, 1) := by decide +kernel
theorem dX6_canForget_29 : decode cX6_canForget 29 = .ok (.iaload, 1) := by decide +kernel
theorem dX6_canForget_30 : decode cX6_canForget 30 = .ok (.iload_n 1, 1) := by decide +kernel
theorem dX6_canForget_31 : decode cX6_canForget 31 = .ok (.if_icmp .eq 7, 3) := by decide +kernel
theorem dX6_canForget_34 : decode cX6_canForget 34 = .ok (.iconst 1, 1) := by decide +kernel
theorem dX6_canForget_35 : decode cX6_canForget 35 = .ok (.goto 4, 3) := by decide +kernel
theorem dX6_canForget_38 : decode cX6_canForget 38 = .ok (.iconst 0, 1) := by decide +kernel
theorem dX6_canForget_39 : decode cX6_canForget 39 = .ok (.istore_n 2, 1) := by decide +kernel
theorem dX6_canForget_40 : decode cX6_canForget 40 = .ok (.iinc 3 1, 3) := by decide +kernel
theorem dX6_canForget_43 : decode cX6_canForget 43 = .ok (.goto (-31), 3) := by decide +kernel
theorem dX6_canForget_46 : decode cX6_canForget 46 = .ok (.iload_n 2, 1) := by decide +kernel
theorem dX6_canForget_47 : decode cX6_canForget 47 = .ok (.ireturn, 1) := by decide +kernel
set_option maxRecDepth 20000 in
theorem ggX6_forgets_X6_slot : GoodIn wsX6_forgets wsX6_slot := goodIn_r _ [6, 1, 7, 8, 9, 10, 5, 11, 20, 21, 22, 23, 24, 25, 26, 27, 28, 29, 30, 31, 32, 33, 34, 35] (by decide +kernel) (by decide +kernel)
set_option maxRecDepth 20000 in
theorem gX6_forgets_X6_slot : GoodIn wsX6_forgets (wsV RX6 44 RX6 yX6_slot wsX6_slot) := goodIn_app (goodIn_of _ (by decide +kernel)) ggX6_forgets_X6_slot
set_option maxRecDepth 20000 in
theorem ggX6_forgets_X6_of : GoodIn wsX6_forgets wsX6_of := goodIn_r _ [11, 1, 20, 21, 22, 23, 24, 25, 26, 27, 28, 29, 30, 31, 32, 33, 34, 35] (by decide +kernel) (by decide +kernel)
set_option maxRecDepth 20000 in
theorem gX6_forgets_X6_of : GoodIn wsX6_forgets (wsV RX6 39 RX6 yX6_of wsX6_of) := goodIn_app (goodIn_of _ (by decide +kernel)) ggX6_forgets_X6_of
set_option maxRecDepth 20000 in
theorem ggX6_forgets_X6_sweeps : GoodIn wsX6_forgets wsX6_sweeps := goodIn_r _ [15, 1, 16, 17, 18, 5, 19, 8, 9, 10, 11, 20, 21, 22, 23, 24, 25, 26, 27, 28, 29, 30, 31, 32, 33, 34, 35] (by decide +kernel) (by decide +kernel)
set_option maxRecDepth 20000 in
theorem gX6_forgets_X6_sweeps : GoodIn wsX6_forgets (wsV RX6 135 RX6 yX6_sweeps wsX6_sweeps) := goodIn_app (goodIn_of _ (by decide +kernel)) ggX6_forgets_X6_sweeps
theorem dX6_forgets_0 : decode cX6_forgets 0 = .ok (.aload_n 0, 1) := by decide +kernel
theorem dX6_forgets_1 : decode cX6_forgets 1 = .ok (.iload_n 1, 1) := by decide +kernel
theorem dX6_forgets_2 : decode cX6_forgets 2 = .ok (.invokevirtual 44, 3) := by decide +kernel
theorem dX6_forgets_5 : decode cX6_forgets 5 = .ok (.istore_n 2, 1) := by decide +kernel
theorem dX6_forgets_6 : decode cX6_forgets 6 = .ok (.aload_n 0, 1) := by decide +kernel
theorem dX6_forgets_7 : decode cX6_forgets 7 = .ok (.iload_n 2, 1) := by decide +kernel
theorem dX6_forgets_8 : decode cX6_forgets 8 = .ok (.iconst 1, 1) := by decide +kernel
theorem dX6_forgets_9 : decode cX6_forgets 9 = .ok (.invokevirtual 39, 3) := by decide +kernel
theorem dX6_forgets_12 : decode cX6_forgets 12 = .ok (.istore_n 3, 1) := by decide +kernel
theorem dX6_forgets_13 : decode cX6_forgets 13 = .ok (.iconst 0, 1) := by decide +kernel
theorem dX6_forgets_14 : decode cX6_forgets 14 = .ok (.istore 4, 2) := by decide +kernel
theorem dX6_forgets_16 : decode cX6_forgets 16 = .ok (.iload 4, 2) := by decide +kernel
theorem dX6_forgets_18 : decode cX6_forgets 18 = .ok (.aload_n 0, 1) := by decide +kernel
theorem dX6_forgets_19 : decode cX6_forgets 19 = .ok (.getfield 7, 3) := by decide +kernel
theorem dX6_forgets_22 : decode cX6_forgets 22 = .ok (.iconst 0, 1) := by decide +kernel
theorem dX6_forgets_23 : decode cX6_forgets 23 = .ok (.iaload, 1) := by decide +kernel
theorem dX6_forgets_24 : decode cX6_forgets 24 = .ok (.if_icmp .ge 46, 3) := by decide +kernel
theorem dX6_forgets_27 : decode cX6_forgets 27 = .ok (.aload_n 0, 1) := by decide +kernel
theorem dX6_forgets_28 : decode cX6_forgets 28 = .ok (.getfield 7, 3) := by decide +kernel
theorem dX6_forgets_31 : decode cX6_forgets 31 = .ok (.bipush 10, 2) := by decide +kernel
theorem dX6_forgets_33 : decode cX6_forgets 33 = .ok (.bipush 8, 2) := by decide +kernel
theorem dX6_forgets_35 : decode cX6_forgets 35 = .ok (.iload 4, 2) := by decide +kernel
theorem dX6_forgets_37 : decode cX6_forgets 37 = .ok (.imul, 1) := by decide +kernel
theorem dX6_forgets_38 : decode cX6_forgets 38 = .ok (.iadd, 1) := by decide +kernel
theorem dX6_forgets_39 : decode cX6_forgets 39 = .ok (.iconst 1, 1) := by decide +kernel
theorem dX6_forgets_40 : decode cX6_forgets 40 = .ok (.iadd, 1) := by decide +kernel
theorem dX6_forgets_41 : decode cX6_forgets 41 = .ok (.aload_n 0, 1) := by decide +kernel
theorem dX6_forgets_42 : decode cX6_forgets 42 = .ok (.iload 4, 2) := by decide +kernel
theorem dX6_forgets_44 : decode cX6_forgets 44 = .ok (.iconst 1, 1) := by decide +kernel
theorem dX6_forgets_45 : decode cX6_forgets 45 = .ok (.invokevirtual 39, 3) := by decide +kernel
theorem dX6_forgets_48 : decode cX6_forgets 48 = .ok (.iload_n 1, 1) := by decide +kernel
theorem dX6_forgets_49 : decode cX6_forgets 49 = .ok (.if_icmp .ne 7, 3) := by decide +kernel
theorem dX6_forgets_52 : decode cX6_forgets 52 = .ok (.iload_n 3, 1) := by decide +kernel
theorem dX6_forgets_53 : decode cX6_forgets 53 = .ok (.goto 10, 3) := by decide +kernel
theorem dX6_forgets_56 : decode cX6_forgets 56 = .ok (.aload_n 0, 1) := by decide +kernel
theorem dX6_forgets_57 : decode cX6_forgets 57 = .ok (.iload 4, 2) := by decide +kernel
theorem dX6_forgets_59 : decode cX6_forgets 59 = .ok (.iconst 1, 1) := by decide +kernel
theorem dX6_forgets_60 : decode cX6_forgets 60 = .ok (.invokevirtual 39, 3) := by decide +kernel
theorem dX6_forgets_63 : decode cX6_forgets 63 = .ok (.iastore, 1) := by decide +kernel
theorem dX6_forgets_64 : decode cX6_forgets 64 = .ok (.iinc 4 1, 3) := by decide +kernel
theorem dX6_forgets_67 : decode cX6_forgets 67 = .ok (.goto (-51), 3) := by decide +kernel
theorem dX6_forgets_70 : decode cX6_forgets 70 = .ok (.aload_n 0, 1) := by decide +kernel
theorem dX6_forgets_71 : decode cX6_forgets 71 = .ok (.getfield 7, 3) := by decide +kernel
theorem dX6_forgets_74 : decode cX6_forgets 74 = .ok (.iconst 0, 1) := by decide +kernel
theorem dX6_forgets_75 : decode cX6_forgets 75 = .ok (.dup2, 1) := by decide +kernel
theorem dX6_forgets_76 : decode cX6_forgets 76 = .ok (.iaload, 1) := by decide +kernel
theorem dX6_forgets_77 : decode cX6_forgets 77 = .ok (.iconst 1, 1) := by decide +kernel
theorem dX6_forgets_78 : decode cX6_forgets 78 = .ok (.isub, 1) := by decide +kernel
theorem dX6_forgets_79 : decode cX6_forgets 79 = .ok (.iastore, 1) := by decide +kernel
theorem dX6_forgets_80 : decode cX6_forgets 80 = .ok (.bipush 10, 2) := by decide +kernel
theorem dX6_forgets_82 : decode cX6_forgets 82 = .ok (.bipush 8, 2) := by decide +kernel
theorem dX6_forgets_84 : decode cX6_forgets 84 = .ok (.iload_n 2, 1) := by decide +kernel
theorem dX6_forgets_85 : decode cX6_forgets 85 = .ok (.imul, 1) := by decide +kernel
theorem dX6_forgets_86 : decode cX6_forgets 86 = .ok (.iadd, 1) := by decide +kernel
theorem dX6_forgets_87 : decode cX6_forgets 87 = .ok (.istore 4, 2) := by decide +kernel
theorem dX6_forgets_89 : decode cX6_forgets 89 = .ok (.iload 4, 2) := by decide +kernel
theorem dX6_forgets_91 : decode cX6_forgets 91 = .ok (.bipush 10, 2) := by decide +kernel
theorem dX6_forgets_93 : decode cX6_forgets 93 = .ok (.bipush 8, 2) := by decide +kernel
theorem dX6_forgets_95 : decode cX6_forgets 95 = .ok (.aload_n 0, 1) := by decide +kernel
theorem dX6_forgets_96 : decode cX6_forgets 96 = .ok (.getfield 7, 3) := by decide +kernel
theorem dX6_forgets_99 : decode cX6_forgets 99 = .ok (.iconst 0, 1) := by decide +kernel
theorem dX6_forgets_100 : decode cX6_forgets 100 = .ok (.iaload, 1) := by decide +kernel
theorem dX6_forgets_101 : decode cX6_forgets 101 = .ok (.imul, 1) := by decide +kernel
theorem dX6_forgets_102 : decode cX6_forgets 102 = .ok (.iadd, 1) := by decide +kernel
theorem dX6_forgets_103 : decode cX6_forgets 103 = .ok (.if_icmp .ge 26, 3) := by decide +kernel
theorem dX6_forgets_106 : decode cX6_forgets 106 = .ok (.aload_n 0, 1) := by decide +kernel
theorem dX6_forgets_107 : decode cX6_forgets 107 = .ok (.getfield 7, 3) := by decide +kernel
theorem dX6_forgets_110 : decode cX6_forgets 110 = .ok (.iload 4, 2) := by decide +kernel
theorem dX6_forgets_112 : decode cX6_forgets 112 = .ok (.aload_n 0, 1) := by decide +kernel
theorem dX6_forgets_113 : decode cX6_forgets 113 = .ok (.getfield 7, 3) := by decide +kernel
theorem dX6_forgets_116 : decode cX6_forgets 116 = .ok (.iload 4, 2) := by decide +kernel
theorem dX6_forgets_118 : decode cX6_forgets 118 = .ok (.bipush 8, 2) := by decide +kernel
theorem dX6_forgets_120 : decode cX6_forgets 120 = .ok (.iadd, 1) := by decide +kernel
theorem dX6_forgets_121 : decode cX6_forgets 121 = .ok (.iaload, 1) := by decide +kernel
theorem dX6_forgets_122 : decode cX6_forgets 122 = .ok (.iastore, 1) := by decide +kernel
theorem dX6_forgets_123 : decode cX6_forgets 123 = .ok (.iinc 4 1, 3) := by decide +kernel
theorem dX6_forgets_126 : decode cX6_forgets 126 = .ok (.goto (-37), 3) := by decide +kernel
theorem dX6_forgets_129 : decode cX6_forgets 129 = .ok (.aload_n 0, 1) := by decide +kernel
theorem dX6_forgets_130 : decode cX6_forgets 130 = .ok (.invokevirtual 135, 3) := by decide +kernel
theorem dX6_forgets_133 : decode cX6_forgets 133 = .ok (.ireturn, 1) := by decide +kernel
set_option maxRecDepth 20000 in
theorem ggX6_forget_X6_isState : GoodIn wsX6_forget wsX6_isState := goodIn_r _ [7, 8, 9, 10, 6, 11, 12, 13, 14, 15, 16, 17, 41, 42, 43, 44, 45, 46, 47, 48, 49, 50, 51, 52, 53, 54, 55, 56] (by decide +kernel) (by decide +kernel)
set_option maxRecDepth 20000 in
theorem gX6_forget_X6_isState : GoodIn wsX6_forget (wsV RX6 119 RX6 yX6_isState wsX6_isState) := goodIn_app (goodIn_of _ (by decide +kernel)) ggX6_forget_X6_isState
set_option maxRecDepth 20000 in
theorem ggX6_forget_X6_canForget : GoodIn wsX6_forget wsX6_canForget := goodIn_r _ [21, 12, 41, 42, 43, 44, 45, 46, 47, 48, 49, 50, 51, 52, 53, 54, 55, 56] (by decide +kernel) (by decide +kernel)
set_option maxRecDepth 20000 in
theorem gX6_forget_X6_canForget : GoodIn wsX6_forget (wsV RX6 138 RX6 yX6_canForget wsX6_canForget) := goodIn_app (goodIn_of _ (by decide +kernel)) ggX6_forget_X6_canForget
set_option maxRecDepth 20000 in
theorem ggX6_forget_X6_changes : GoodIn wsX6_forget wsX6_changes := goodIn_r _ [25, 26, 27, 28, 12, 41, 42, 43, 44, 45, 46, 47, 48, 49, 50, 51, 52, 53, 54, 55, 56] (by decide +kernel) (by decide +kernel)
set_option maxRecDepth 20000 in
theorem gX6_forget_X6_changes : GoodIn wsX6_forget (wsV RX6 95 RX6 yX6_changes wsX6_changes) := goodIn_app (goodIn_of _ (by decide +kernel)) ggX6_forget_X6_changes
set_option maxRecDepth 20000 in
theorem ggX6_forget_X6_forgets : GoodIn wsX6_forget wsX6_forgets := goodIn_r _ [32, 12, 8, 9, 10, 6, 11, 13, 14, 15, 16, 17, 33, 34, 35, 36, 37, 38, 39, 40, 41, 42, 43, 44, 45, 46, 47, 48, 49, 50, 51, 52, 53, 54, 55, 56] (by decide +kernel) (by decide +kernel)
set_option maxRecDepth 20000 in
theorem gX6_forget_X6_forgets : GoodIn wsX6_forget (wsV RX6 141 RX6 yX6_forgets wsX6_forgets) := goodIn_app (goodIn_of _ (by decide +kernel)) ggX6_forget_X6_forgets
theorem dX6_forget_0 : decode cX6_forget 0 = .ok (.aload_n 0, 1) := by decide +kernel
theorem dX6_forget_1 : decode cX6_forget 1 = .ok (.iload_n 1, 1) := by decide +kernel
theorem dX6_forget_2 : decode cX6_forget 2 = .ok (.invokevirtual 119, 3) := by decide +kernel
theorem dX6_forget_5 : decode cX6_forget 5 = .ok (.ifCond .ne 6, 3) := by decide +kernel
theorem dX6_forget_8 : decode cX6_forget 8 = .ok (.ldc 111, 2) := by decide +kernel
theorem dX6_forget_10 : decode cX6_forget 10 = .ok (.ireturn, 1) := by decide +kernel
theorem dX6_forget_11 : decode cX6_forget 11 = .ok (.aload_n 0, 1) := by decide +kernel
theorem dX6_forget_12 : decode cX6_forget 12 = .ok (.iload_n 1, 1) := by decide +kernel
theorem dX6_forget_13 : decode cX6_forget 13 = .ok (.invokevirtual 138, 3) := by decide +kernel
theorem dX6_forget_16 : decode cX6_forget 16 = .ok (.ifCond .ne 6, 3) := by decide +kernel
theorem dX6_forget_19 : decode cX6_forget 19 = .ok (.ldc 134, 2) := by decide +kernel
theorem dX6_forget_21 : decode cX6_forget 21 = .ok (.ireturn, 1) := by decide +kernel
theorem dX6_forget_22 : decode cX6_forget 22 = .ok (.aload_n 0, 1) := by decide +kernel
theorem dX6_forget_23 : decode cX6_forget 23 = .ok (.invokevirtual 95, 3) := by decide +kernel
theorem dX6_forget_26 : decode cX6_forget 26 = .ok (.aload_n 0, 1) := by decide +kernel
theorem dX6_forget_27 : decode cX6_forget 27 = .ok (.iload_n 1, 1) := by decide +kernel
theorem dX6_forget_28 : decode cX6_forget 28 = .ok (.invokevirtual 141, 3) := by decide +kernel
theorem dX6_forget_31 : decode cX6_forget 31 = .ok (.ireturn, 1) := by decide +kernel
set_option maxRecDepth 20000 in
theorem ggX6_lowestLike_X6_isBlock : GoodIn wsX6_lowestLike wsX6_isBlock := goodIn_r _ [5, 6, 7, 8, 4, 9, 18, 19, 20, 21, 22, 23, 24, 25, 26, 27, 28, 29, 30, 31, 32, 33] (by decide +kernel) (by decide +kernel)
set_option maxRecDepth 20000 in
theorem gX6_lowestLike_X6_isBlock : GoodIn wsX6_lowestLike (wsV RX6 65 RX6 yX6_isBlock wsX6_isBlock) := goodIn_app (goodIn_of _ (by decide +kernel)) ggX6_lowestLike_X6_isBlock
set_option maxRecDepth 20000 in
theorem ggX6_lowestLike_X6_areLike : GoodIn wsX6_lowestLike wsX6_areLike := goodIn_r _ [13, 14, 15, 16, 4, 17, 6, 18, 19, 20, 21, 22, 23, 24, 25, 26, 27, 28, 29, 30, 31, 32, 33] (by decide +kernel) (by decide +kernel)
set_option maxRecDepth 20000 in
theorem gX6_lowestLike_X6_areLike : GoodIn wsX6_lowestLike (wsV RX6 144 RX6 yX6_areLike wsX6_areLike) := goodIn_app (goodIn_of _ (by decide +kernel)) ggX6_lowestLike_X6_areLike
theorem dX6_lowestLike_0 : decode cX6_lowestLike 0 = .ok (.iconst 0, 1) := by decide +kernel
theorem dX6_lowestLike_1 : decode cX6_lowestLike 1 = .ok (.istore_n 2, 1) := by decide +kernel
theorem dX6_lowestLike_2 : decode cX6_lowestLike 2 = .ok (.aload_n 0, 1) := by decide +kernel
theorem dX6_lowestLike_3 : decode cX6_lowestLike 3 = .ok (.iload_n 2, 1) := by decide +kernel
theorem dX6_lowestLike_4 : decode cX6_lowestLike 4 = .ok (.invokevirtual 65, 3) := by decide +kernel
theorem dX6_lowestLike_7 : decode cX6_lowestLike 7 = .ok (.ifCond .eq 12, 3) := by decide +kernel
theorem dX6_lowestLike_10 : decode cX6_lowestLike 10 = .ok (.aload_n 0, 1) := by decide +kernel
theorem dX6_lowestLike_11 : decode cX6_lowestLike 11 = .ok (.iload_n 2, 1) := by decide +kernel
theorem dX6_lowestLike_12 : decode cX6_lowestLike 12 = .ok (.iload_n 1, 1) := by decide +kernel
theorem dX6_lowestLike_13 : decode cX6_lowestLike 13 = .ok (.invokevirtual 144, 3) := by decide +kernel
theorem dX6_lowestLike_16 : decode cX6_lowestLike 16 = .ok (.ifCond .ne 9, 3) := by decide +kernel
theorem dX6_lowestLike_19 : decode cX6_lowestLike 19 = .ok (.iinc 2 1, 3) := by decide +kernel
theorem dX6_lowestLike_22 : decode cX6_lowestLike 22 = .ok (.goto (-20), 3) := by decide +kernel
theorem dX6_lowestLike_25 : decode cX6_lowestLike 25 = .ok (.iload_n 2, 1) := by decide +kernel
theorem dX6_lowestLike_26 : decode cX6_lowestLike 26 = .ok (.ireturn, 1) := by decide +kernel
set_option maxRecDepth 20000 in
theorem ggX6_sharesAll_X6_of : GoodIn wsX6_sharesAll wsX6_of := goodIn_r _ [6, 1, 34, 35, 36, 37, 38, 39, 40, 41, 42, 43, 44, 45, 46, 47, 48, 49] (by decide +kernel) (by decide +kernel)
set_option maxRecDepth 20000 in
theorem gX6_sharesAll_X6_of : GoodIn wsX6_sharesAll (wsV RX6 39 RX6 yX6_of wsX6_of) := goodIn_app (goodIn_of _ (by decide +kernel)) ggX6_sharesAll_X6_of
set_option maxRecDepth 20000 in
theorem ggX6_sharesAll_X6_lowestLike : GoodIn wsX6_sharesAll wsX6_lowestLike := goodIn_r _ [10, 11, 12, 13, 5, 14, 1, 15, 16, 17, 18, 19, 20, 21, 22, 23, 24, 25, 34, 35, 36, 37, 38, 39, 40, 41, 42, 43, 44, 45, 46, 47, 48, 49] (by decide +kernel) (by decide +kernel)
set_option maxRecDepth 20000 in
theorem gX6_sharesAll_X6_lowestLike : GoodIn wsX6_sharesAll (wsV RX6 147 RX6 yX6_lowestLike wsX6_lowestLike) := goodIn_app (goodIn_of _ (by decide +kernel)) ggX6_sharesAll_X6_lowestLike
set_option maxRecDepth 20000 in
theorem ggX6_sharesAll_X6_sweeps : GoodIn wsX6_sharesAll wsX6_sweeps := goodIn_r _ [29, 1, 30, 31, 32, 5, 33, 2, 3, 4, 6, 34, 35, 36, 37, 38, 39, 40, 41, 42, 43, 44, 45, 46, 47, 48, 49] (by decide +kernel) (by decide +kernel)
set_option maxRecDepth 20000 in
theorem gX6_sharesAll_X6_sweeps : GoodIn wsX6_sharesAll (wsV RX6 135 RX6 yX6_sweeps wsX6_sweeps) := goodIn_app (goodIn_of _ (by decide +kernel)) ggX6_sharesAll_X6_sweeps
theorem dX6_sharesAll_0 : decode cX6_sharesAll 0 = .ok (.iconst 0, 1) := by decide +kernel
theorem dX6_sharesAll_1 : decode cX6_sharesAll 1 = .ok (.istore_n 1, 1) := by decide +kernel
theorem dX6_sharesAll_2 : decode cX6_sharesAll 2 = .ok (.iload_n 1, 1) := by decide +kernel
theorem dX6_sharesAll_3 : decode cX6_sharesAll 3 = .ok (.aload_n 0, 1) := by decide +kernel
theorem dX6_sharesAll_4 : decode cX6_sharesAll 4 = .ok (.getfield 7, 3) := by decide +kernel
theorem dX6_sharesAll_7 : decode cX6_sharesAll 7 = .ok (.iconst 0, 1) := by decide +kernel
theorem dX6_sharesAll_8 : decode cX6_sharesAll 8 = .ok (.iaload, 1) := by decide +kernel
theorem dX6_sharesAll_9 : decode cX6_sharesAll 9 = .ok (.if_icmp .ge 51, 3) := by decide +kernel
theorem dX6_sharesAll_12 : decode cX6_sharesAll 12 = .ok (.iconst 0, 1) := by decide +kernel
theorem dX6_sharesAll_13 : decode cX6_sharesAll 13 = .ok (.istore_n 2, 1) := by decide +kernel
theorem dX6_sharesAll_14 : decode cX6_sharesAll 14 = .ok (.iload_n 2, 1) := by decide +kernel
theorem dX6_sharesAll_15 : decode cX6_sharesAll 15 = .ok (.bipush 6, 2) := by decide +kernel
theorem dX6_sharesAll_17 : decode cX6_sharesAll 17 = .ok (.if_icmp .ge 37, 3) := by decide +kernel
theorem dX6_sharesAll_20 : decode cX6_sharesAll 20 = .ok (.aload_n 0, 1) := by decide +kernel
theorem dX6_sharesAll_21 : decode cX6_sharesAll 21 = .ok (.getfield 7, 3) := by decide +kernel
theorem dX6_sharesAll_24 : decode cX6_sharesAll 24 = .ok (.bipush 10, 2) := by decide +kernel
theorem dX6_sharesAll_26 : decode cX6_sharesAll 26 = .ok (.bipush 8, 2) := by decide +kernel
