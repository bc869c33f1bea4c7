theorem dX6_sharesAll_28 : decode cX6_sharesAll 28 = .ok (.iload_n 1, 1) := by decide +kernel
theorem dX6_sharesAll_29 : decode cX6_sharesAll 29 = .ok (.imul, 1) := by decide +kernel
theorem dX6_sharesAll_30 : decode cX6_sharesAll 30 = .ok (.iadd, 1) := by decide +kernel
theorem dX6_sharesAll_31 : decode cX6_sharesAll 31 = .ok (.iconst 2, 1) := by decide +kernel
theorem dX6_sharesAll_32 : decode cX6_sharesAll 32 = .ok (.iadd, 1) := by decide +kernel
theorem dX6_sharesAll_33 : decode cX6_sharesAll 33 = .ok (.iload_n 2, 1) := by decide +kernel
theorem dX6_sharesAll_34 : decode cX6_sharesAll 34 = .ok (.iadd, 1) := by decide +kernel
theorem dX6_sharesAll_35 : decode cX6_sharesAll 35 = .ok (.aload_n 0, 1) := by decide +kernel
theorem dX6_sharesAll_36 : decode cX6_sharesAll 36 = .ok (.aload_n 0, 1) := by decide +kernel
theorem dX6_sharesAll_37 : decode cX6_sharesAll 37 = .ok (.iload_n 1, 1) := by decide +kernel
theorem dX6_sharesAll_38 : decode cX6_sharesAll 38 = .ok (.iconst 2, 1) := by decide +kernel
theorem dX6_sharesAll_39 : decode cX6_sharesAll 39 = .ok (.iload_n 2, 1) := by decide +kernel
theorem dX6_sharesAll_40 : decode cX6_sharesAll 40 = .ok (.iadd, 1) := by decide +kernel
theorem dX6_sharesAll_41 : decode cX6_sharesAll 41 = .ok (.invokevirtual 39, 3) := by decide +kernel
theorem dX6_sharesAll_44 : decode cX6_sharesAll 44 = .ok (.invokevirtual 147, 3) := by decide +kernel
theorem dX6_sharesAll_47 : decode cX6_sharesAll 47 = .ok (.iastore, 1) := by decide +kernel
theorem dX6_sharesAll_48 : decode cX6_sharesAll 48 = .ok (.iinc 2 1, 3) := by decide +kernel
theorem dX6_sharesAll_51 : decode cX6_sharesAll 51 = .ok (.goto (-37), 3) := by decide +kernel
theorem dX6_sharesAll_54 : decode cX6_sharesAll 54 = .ok (.iinc 1 1, 3) := by decide +kernel
theorem dX6_sharesAll_57 : decode cX6_sharesAll 57 = .ok (.goto (-55), 3) := by decide +kernel
theorem dX6_sharesAll_60 : decode cX6_sharesAll 60 = .ok (.aload_n 0, 1) := by decide +kernel
theorem dX6_sharesAll_61 : decode cX6_sharesAll 61 = .ok (.invokevirtual 135, 3) := by decide +kernel
theorem dX6_sharesAll_64 : decode cX6_sharesAll 64 = .ok (.ireturn, 1) := by decide +kernel
set_option maxRecDepth 20000 in
theorem ggX6_share_X6_changes : GoodIn wsX6_share wsX6_changes := goodIn_r _ [5, 6, 7, 8, 9, 45, 46, 47, 48, 49, 50, 51, 52, 53, 54, 55, 56, 57, 58, 59, 60] (by decide +kernel) (by decide +kernel)
set_option maxRecDepth 20000 in
theorem gX6_share_X6_changes : GoodIn wsX6_share (wsV RX6 95 RX6 yX6_changes wsX6_changes) := goodIn_app (goodIn_of _ (by decide +kernel)) ggX6_share_X6_changes
set_option maxRecDepth 20000 in
theorem ggX6_share_X6_sharesAll : GoodIn wsX6_share wsX6_sharesAll := goodIn_r _ [13, 9, 14, 15, 16, 4, 17, 18, 19, 20, 21, 22, 23, 24, 25, 26, 27, 28, 29, 30, 31, 32, 33, 34, 35, 36, 37, 38, 39, 40, 41, 42, 43, 44, 45, 46, 47, 48, 49, 50, 51, 52, 53, 54, 55, 56, 57, 58, 59, 60] (by decide +kernel) (by decide +kernel)
set_option maxRecDepth 20000 in
theorem gX6_share_X6_sharesAll : GoodIn wsX6_share (wsV RX6 150 RX6 yX6_sharesAll wsX6_sharesAll) := goodIn_app (goodIn_of _ (by decide +kernel)) ggX6_share_X6_sharesAll
theorem dX6_share_0 : decode cX6_share 0 = .ok (.aload_n 0, 1) := by decide +kernel
theorem dX6_share_1 : decode cX6_share 1 = .ok (.invokevirtual 95, 3) := by decide +kernel
theorem dX6_share_4 : decode cX6_share 4 = .ok (.aload_n 0, 1) := by decide +kernel
theorem dX6_share_5 : decode cX6_share 5 = .ok (.invokevirtual 150, 3) := by decide +kernel
theorem dX6_share_8 : decode cX6_share 8 = .ok (.ireturn, 1) := by decide +kernel
set_option maxRecDepth 20000 in
theorem ggX6_set_X6_in : GoodIn wsX6_set wsX6_in := goodIn_r _ [6] (by decide +kernel) (by decide +kernel)
set_option maxRecDepth 20000 in
theorem gX6_set_X6_in : GoodIn wsX6_set (va_wsS RX6 48 yX6_in wsX6_in) := goodIn_app (goodIn_of _ (by decide +kernel)) ggX6_set_X6_in
set_option maxRecDepth 20000 in
theorem ggX6_set_X6_changes : GoodIn wsX6_set wsX6_changes := goodIn_r _ [10, 11, 12, 13, 2, 14, 15, 16, 17, 18, 19, 20, 21, 22, 23, 24, 25, 26, 27, 28, 29] (by decide +kernel) (by decide +kernel)
set_option maxRecDepth 20000 in
theorem gX6_set_X6_changes : GoodIn wsX6_set (wsV RX6 95 RX6 yX6_changes wsX6_changes) := goodIn_app (goodIn_of _ (by decide +kernel)) ggX6_set_X6_changes
theorem dX6_set_0 : decode cX6_set 0 = .ok (.iload_n 1, 1) := by decide +kernel
theorem dX6_set_1 : decode cX6_set 1 = .ok (.ifCond .ne 12, 3) := by decide +kernel
theorem dX6_set_4 : decode cX6_set 4 = .ok (.iload_n 2, 1) := by decide +kernel
theorem dX6_set_5 : decode cX6_set 5 = .ok (.iconst 0, 1) := by decide +kernel
theorem dX6_set_6 : decode cX6_set 6 = .ok (.iconst 1, 1) := by decide +kernel
theorem dX6_set_7 : decode cX6_set 7 = .ok (.invokestatic 48, 3) := by decide +kernel
theorem dX6_set_10 : decode cX6_set 10 = .ok (.ifCond .ne 6, 3) := by decide +kernel
theorem dX6_set_13 : decode cX6_set 13 = .ok (.ldc 111, 2) := by decide +kernel
theorem dX6_set_15 : decode cX6_set 15 = .ok (.ireturn, 1) := by decide +kernel
theorem dX6_set_16 : decode cX6_set 16 = .ok (.aload_n 0, 1) := by decide +kernel
theorem dX6_set_17 : decode cX6_set 17 = .ok (.invokevirtual 95, 3) := by decide +kernel
theorem dX6_set_20 : decode cX6_set 20 = .ok (.aload_n 0, 1) := by decide +kernel
theorem dX6_set_21 : decode cX6_set 21 = .ok (.getfield 7, 3) := by decide +kernel
theorem dX6_set_24 : decode cX6_set 24 = .ok (.iconst 5, 1) := by decide +kernel
theorem dX6_set_25 : decode cX6_set 25 = .ok (.iaload, 1) := by decide +kernel
theorem dX6_set_26 : decode cX6_set 26 = .ok (.istore_n 3, 1) := by decide +kernel
theorem dX6_set_27 : decode cX6_set 27 = .ok (.aload_n 0, 1) := by decide +kernel
theorem dX6_set_28 : decode cX6_set 28 = .ok (.getfield 7, 3) := by decide +kernel
theorem dX6_set_31 : decode cX6_set 31 = .ok (.iconst 5, 1) := by decide +kernel
theorem dX6_set_32 : decode cX6_set 32 = .ok (.iload_n 2, 1) := by decide +kernel
theorem dX6_set_33 : decode cX6_set 33 = .ok (.iastore, 1) := by decide +kernel
theorem dX6_set_34 : decode cX6_set 34 = .ok (.iload_n 3, 1) := by decide +kernel
theorem dX6_set_35 : decode cX6_set 35 = .ok (.ireturn, 1) := by decide +kernel
set_option maxRecDepth 20000 in
theorem ggX6_read_X6_isState : GoodIn wsX6_read wsX6_isState := goodIn_r _ [6, 7, 8, 9, 5, 10, 11, 12, 13, 14, 15, 16, 28, 29, 30, 31, 32, 33, 34, 35, 36, 37, 38, 39, 40, 41, 42, 43] (by decide +kernel) (by decide +kernel)
set_option maxRecDepth 20000 in
theorem gX6_read_X6_isState : GoodIn wsX6_read (wsV RX6 119 RX6 yX6_isState wsX6_isState) := goodIn_app (goodIn_of _ (by decide +kernel)) ggX6_read_X6_isState
set_option maxRecDepth 20000 in
theorem ggX6_read_X6_in : GoodIn wsX6_read wsX6_in := goodIn_r _ [19] (by decide +kernel) (by decide +kernel)
set_option maxRecDepth 20000 in
theorem gX6_read_X6_in : GoodIn wsX6_read (va_wsS RX6 48 yX6_in wsX6_in) := goodIn_app (goodIn_of _ (by decide +kernel)) ggX6_read_X6_in
set_option maxRecDepth 20000 in
theorem ggX6_read_X6_slot : GoodIn wsX6_read wsX6_slot := goodIn_r _ [10, 11, 12, 13, 14, 15, 5, 16, 28, 29, 30, 31, 32, 33, 34, 35, 36, 37, 38, 39, 40, 41, 42, 43] (by decide +kernel) (by decide +kernel)
set_option maxRecDepth 20000 in
theorem gX6_read_X6_slot : GoodIn wsX6_read (wsV RX6 44 RX6 yX6_slot wsX6_slot) := goodIn_app (goodIn_of _ (by decide +kernel)) ggX6_read_X6_slot
set_option maxRecDepth 20000 in
theorem ggX6_read_X6_cellOf : GoodIn wsX6_read wsX6_cellOf := goodIn_r _ [23, 13, 14, 15, 5, 16, 11, 24, 25, 26, 27, 28, 29, 30, 31, 32, 33, 34, 35, 36, 37, 38, 39, 40, 41, 42, 43] (by decide +kernel) (by decide +kernel)
set_option maxRecDepth 20000 in
theorem gX6_read_X6_cellOf : GoodIn wsX6_read (wsV RX6 62 RX6 yX6_cellOf wsX6_cellOf) := goodIn_app (goodIn_of _ (by decide +kernel)) ggX6_read_X6_cellOf
theorem dX6_read_0 : decode cX6_read 0 = .ok (.aload_n 0, 1) := by decide +kernel
theorem dX6_read_1 : decode cX6_read 1 = .ok (.iload_n 1, 1) := by decide +kernel
theorem dX6_read_2 : decode cX6_read 2 = .ok (.invokevirtual 119, 3) := by decide +kernel
theorem dX6_read_5 : decode cX6_read 5 = .ok (.ifCond .eq 26, 3) := by decide +kernel
theorem dX6_read_8 : decode cX6_read 8 = .ok (.iload_n 2, 1) := by decide +kernel
theorem dX6_read_9 : decode cX6_read 9 = .ok (.iconst 0, 1) := by decide +kernel
theorem dX6_read_10 : decode cX6_read 10 = .ok (.bipush 47, 2) := by decide +kernel
theorem dX6_read_12 : decode cX6_read 12 = .ok (.invokestatic 48, 3) := by decide +kernel
theorem dX6_read_15 : decode cX6_read 15 = .ok (.ifCond .eq 16, 3) := by decide +kernel
theorem dX6_read_18 : decode cX6_read 18 = .ok (.aload_n 0, 1) := by decide +kernel
theorem dX6_read_19 : decode cX6_read 19 = .ok (.aload_n 0, 1) := by decide +kernel
theorem dX6_read_20 : decode cX6_read 20 = .ok (.iload_n 1, 1) := by decide +kernel
theorem dX6_read_21 : decode cX6_read 21 = .ok (.invokevirtual 44, 3) := by decide +kernel
theorem dX6_read_24 : decode cX6_read 24 = .ok (.iload_n 2, 1) := by decide +kernel
theorem dX6_read_25 : decode cX6_read 25 = .ok (.invokevirtual 62, 3) := by decide +kernel
theorem dX6_read_28 : decode cX6_read 28 = .ok (.goto 5, 3) := by decide +kernel
theorem dX6_read_31 : decode cX6_read 31 = .ok (.ldc 111, 2) := by decide +kernel
theorem dX6_read_33 : decode cX6_read 33 = .ok (.ireturn, 1) := by decide +kernel
set_option maxRecDepth 20000 in
theorem ggX6_children_X6_of : GoodIn wsX6_children wsX6_of := goodIn_r _ [6, 1, 7, 8, 9, 10, 11, 12, 13, 14, 15, 16, 17, 18, 19, 20, 21, 22] (by decide +kernel) (by decide +kernel)
set_option maxRecDepth 20000 in
theorem gX6_children_X6_of : GoodIn wsX6_children (wsV RX6 39 RX6 yX6_of wsX6_of) := goodIn_app (goodIn_of _ (by decide +kernel)) ggX6_children_X6_of
theorem dX6_children_0 : decode cX6_children 0 = .ok (.iconst 0, 1) := by decide +kernel
theorem dX6_children_1 : decode cX6_children 1 = .ok (.istore_n 2, 1) := by decide +kernel
theorem dX6_children_2 : decode cX6_children 2 = .ok (.iconst 0, 1) := by decide +kernel
theorem dX6_children_3 : decode cX6_children 3 = .ok (.istore_n 3, 1) := by decide +kernel
theorem dX6_children_4 : decode cX6_children 4 = .ok (.iload_n 3, 1) := by decide +kernel
theorem dX6_children_5 : decode cX6_children 5 = .ok (.aload_n 0, 1) := by decide +kernel
theorem dX6_children_6 : decode cX6_children 6 = .ok (.getfield 7, 3) := by decide +kernel
theorem dX6_children_9 : decode cX6_children 9 = .ok (.iconst 0, 1) := by decide +kernel
theorem dX6_children_10 : decode cX6_children 10 = .ok (.iaload, 1) := by decide +kernel
theorem dX6_children_11 : decode cX6_children 11 = .ok (.if_icmp .ge 27, 3) := by decide +kernel
theorem dX6_children_14 : decode cX6_children 14 = .ok (.iload_n 2, 1) := by decide +kernel
theorem dX6_children_15 : decode cX6_children 15 = .ok (.aload_n 0, 1) := by decide +kernel
theorem dX6_children_16 : decode cX6_children 16 = .ok (.iload_n 3, 1) := by decide +kernel
theorem dX6_children_17 : decode cX6_children 17 = .ok (.iconst 1, 1) := by decide +kernel
theorem dX6_children_18 : decode cX6_children 18 = .ok (.invokevirtual 39, 3) := by decide +kernel
theorem dX6_children_21 : decode cX6_children 21 = .ok (.iload_n 1, 1) := by decide +kernel
theorem dX6_children_22 : decode cX6_children 22 = .ok (.if_icmp .ne 7, 3) := by decide +kernel
theorem dX6_children_25 : decode cX6_children 25 = .ok (.iconst 1, 1) := by decide +kernel
theorem dX6_children_26 : decode cX6_children 26 = .ok (.goto 4, 3) := by decide +kernel
theorem dX6_children_29 : decode cX6_children 29 = .ok (.iconst 0, 1) := by decide +kernel
theorem dX6_children_30 : decode cX6_children 30 = .ok (.iadd, 1) := by decide +kernel
theorem dX6_children_31 : decode cX6_children 31 = .ok (.istore_n 2, 1) := by decide +kernel
theorem dX6_children_32 : decode cX6_children 32 = .ok (.iinc 3 1, 3) := by decide +kernel
theorem dX6_children_35 : decode cX6_children 35 = .ok (.goto (-31), 3) := by decide +kernel
theorem dX6_children_38 : decode cX6_children 38 = .ok (.iload_n 2, 1) := by decide +kernel
theorem dX6_children_39 : decode cX6_children 39 = .ok (.ireturn, 1) := by decide +kernel
set_option maxRecDepth 20000 in
theorem ggX6_steps_X6_slot : GoodIn wsX6_steps wsX6_slot := goodIn_r _ [5, 6, 7, 8, 9, 10, 4, 11, 12, 13, 14, 15, 16, 17, 18, 19, 20, 21, 22, 23, 24, 25, 26, 27] (by decide +kernel) (by decide +kernel)
set_option maxRecDepth 20000 in
theorem gX6_steps_X6_slot : GoodIn wsX6_steps (wsV RX6 44 RX6 yX6_slot wsX6_slot) := goodIn_app (goodIn_of _ (by decide +kernel)) ggX6_steps_X6_slot
set_option maxRecDepth 20000 in
theorem ggX6_steps_X6_of : GoodIn wsX6_steps wsX6_of := goodIn_r _ [11, 6, 12, 13, 14, 15, 16, 17, 18, 19, 20, 21, 22, 23, 24, 25, 26, 27] (by decide +kernel) (by decide +kernel)
set_option maxRecDepth 20000 in
theorem gX6_steps_X6_of : GoodIn wsX6_steps (wsV RX6 39 RX6 yX6_of wsX6_of) := goodIn_app (goodIn_of _ (by decide +kernel)) ggX6_steps_X6_of
theorem dX6_steps_0 : decode cX6_steps 0 = .ok (.iconst 0, 1) := by decide +kernel
theorem dX6_steps_1 : decode cX6_steps 1 = .ok (.istore_n 2, 1) := by decide +kernel
theorem dX6_steps_2 : decode cX6_steps 2 = .ok (.iload_n 1, 1) := by decide +kernel
theorem dX6_steps_3 : decode cX6_steps 3 = .ok (.istore_n 3, 1) := by decide +kernel
theorem dX6_steps_4 : decode cX6_steps 4 = .ok (.iload_n 3, 1) := by decide +kernel
theorem dX6_steps_5 : decode cX6_steps 5 = .ok (.ifCond .le 20, 3) := by decide +kernel
theorem dX6_steps_8 : decode cX6_steps 8 = .ok (.iinc 2 1, 3) := by decide +kernel
theorem dX6_steps_11 : decode cX6_steps 11 = .ok (.aload_n 0, 1) := by decide +kernel
theorem dX6_steps_12 : decode cX6_steps 12 = .ok (.aload_n 0, 1) := by decide +kernel
theorem dX6_steps_13 : decode cX6_steps 13 = .ok (.iload_n 3, 1) := by decide +kernel
theorem dX6_steps_14 : decode cX6_steps 14 = .ok (.invokevirtual 44, 3) := by decide +kernel
theorem dX6_steps_17 : decode cX6_steps 17 = .ok (.iconst 1, 1) := by decide +kernel
theorem dX6_steps_18 : decode cX6_steps 18 = .ok (.invokevirtual 39, 3) := by decide +kernel
theorem dX6_steps_21 : decode cX6_steps 21 = .ok (.istore_n 3, 1) := by decide +kernel
theorem dX6_steps_22 : decode cX6_steps 22 = .ok (.goto (-18), 3) := by decide +kernel
theorem dX6_steps_25 : decode cX6_steps 25 = .ok (.iload_n 2, 1) := by decide +kernel
theorem dX6_steps_26 : decode cX6_steps 26 = .ok (.ireturn, 1) := by decide +kernel
set_option maxRecDepth 20000 in
theorem ggX6_sum_X6_cellOf : GoodIn wsX6_sum wsX6_cellOf := goodIn_r _ [5, 6, 7, 8, 4, 9, 10, 11, 12, 13, 14, 15, 16, 17, 18, 19, 20, 21, 22, 23, 24, 25, 26, 27, 28, 29, 30] (by decide +kernel) (by decide +kernel)
set_option maxRecDepth 20000 in
theorem gX6_sum_X6_cellOf : GoodIn wsX6_sum (wsV RX6 62 RX6 yX6_cellOf wsX6_cellOf) := goodIn_app (goodIn_of _ (by decide +kernel)) ggX6_sum_X6_cellOf
theorem dX6_sum_0 : decode cX6_sum 0 = .ok (.iconst 0, 1) := by decide +kernel
theorem dX6_sum_1 : decode cX6_sum 1 = .ok (.istore_n 2, 1) := by decide +kernel
theorem dX6_sum_2 : decode cX6_sum 2 = .ok (.iconst 0, 1) := by decide +kernel
theorem dX6_sum_3 : decode cX6_sum 3 = .ok (.istore_n 3, 1) := by decide +kernel
theorem dX6_sum_4 : decode cX6_sum 4 = .ok (.iload_n 3, 1) := by decide +kernel
theorem dX6_sum_5 : decode cX6_sum 5 = .ok (.bipush 48, 2) := by decide +kernel
theorem dX6_sum_7 : decode cX6_sum 7 = .ok (.if_icmp .ge 18, 3) := by decide +kernel
theorem dX6_sum_10 : decode cX6_sum 10 = .ok (.iload_n 2, 1) := by decide +kernel
theorem dX6_sum_11 : decode cX6_sum 11 = .ok (.aload_n 0, 1) := by decide +kernel
theorem dX6_sum_12 : decode cX6_sum 12 = .ok (.iload_n 1, 1) := by decide +kernel
theorem dX6_sum_13 : decode cX6_sum 13 = .ok (.iload_n 3, 1) := by decide +kernel
theorem dX6_sum_14 : decode cX6_sum 14 = .ok (.invokevirtual 62, 3) := by decide +kernel
theorem dX6_sum_17 : decode cX6_sum 17 = .ok (.iadd, 1) := by decide +kernel
theorem dX6_sum_18 : decode cX6_sum 18 = .ok (.istore_n 2, 1) := by decide +kernel
theorem dX6_sum_19 : decode cX6_sum 19 = .ok (.iinc 3 1, 3) := by decide +kernel
theorem dX6_sum_22 : decode cX6_sum 22 = .ok (.goto (-18), 3) := by decide +kernel
theorem dX6_sum_25 : decode cX6_sum 25 = .ok (.iload_n 2, 1) := by decide +kernel
theorem dX6_sum_26 : decode cX6_sum 26 = .ok (.ireturn, 1) := by decide +kernel
set_option maxRecDepth 20000 in
theorem ggX6_otherPlaces_X6_of : GoodIn wsX6_otherPlaces wsX6_of := goodIn_r _ [5, 6, 7, 8, 9, 10, 11, 12, 13, 14, 15, 16, 17, 18, 19, 20, 21, 22] (by decide +kernel) (by decide +kernel)
set_option maxRecDepth 20000 in
theorem gX6_otherPlaces_X6_of : GoodIn wsX6_otherPlaces (wsV RX6 39 RX6 yX6_of wsX6_of) := goodIn_app (goodIn_of _ (by decide +kernel)) ggX6_otherPlaces_X6_of
theorem dX6_otherPlaces_0 : decode cX6_otherPlaces 0 = .ok (.iconst 0, 1) := by decide +kernel
theorem dX6_otherPlaces_1 : decode cX6_otherPlaces 1 = .ok (.istore_n 3, 1) := by decide +kernel
theorem dX6_otherPlaces_2 : decode cX6_otherPlaces 2 = .ok (.iconst 0, 1) := by decide +kernel
theorem dX6_otherPlaces_3 : decode cX6_otherPlaces 3 = .ok (.istore 4, 2) := by decide +kernel
theorem dX6_otherPlaces_5 : decode cX6_otherPlaces 5 = .ok (.iload 4, 2) := by decide +kernel
theorem dX6_otherPlaces_7 : decode cX6_otherPlaces 7 = .ok (.bipush 6, 2) := by decide +kernel
theorem dX6_otherPlaces_9 : decode cX6_otherPlaces 9 = .ok (.if_icmp .ge 38, 3) := by decide +kernel
theorem dX6_otherPlaces_12 : decode cX6_otherPlaces 12 = .ok (.iload_n 3, 1) := by decide +kernel
theorem dX6_otherPlaces_13 : decode cX6_otherPlaces 13 = .ok (.aload_n 0, 1) := by decide +kernel
theorem dX6_otherPlaces_14 : decode cX6_otherPlaces 14 = .ok (.iload_n 1, 1) := by decide +kernel
theorem dX6_otherPlaces_15 : decode cX6_otherPlaces 15 = .ok (.iconst 2, 1) := by decide +kernel
theorem dX6_otherPlaces_16 : decode cX6_otherPlaces 16 = .ok (.iload 4, 2) := by decide +kernel
theorem dX6_otherPlaces_18 : decode cX6_otherPlaces 18 = .ok (.iadd, 1) := by decide +kernel
theorem dX6_otherPlaces_19 : decode cX6_otherPlaces 19 = .ok (.invokevirtual 39, 3) := by decide +kernel
theorem dX6_otherPlaces_22 : decode cX6_otherPlaces 22 = .ok (.aload_n 0, 1) := by decide +kernel
theorem dX6_otherPlaces_23 : decode cX6_otherPlaces 23 = .ok (.iload_n 2, 1) := by decide +kernel
theorem dX6_otherPlaces_24 : decode cX6_otherPlaces 24 = .ok (.iconst 2, 1) := by decide +kernel
theorem dX6_otherPlaces_25 : decode cX6_otherPlaces 25 = .ok (.iload 4, 2) := by decide +kernel
theorem dX6_otherPlaces_27 : decode cX6_otherPlaces 27 = .ok (.iadd, 1) := by decide +kernel
theorem dX6_otherPlaces_28 : decode cX6_otherPlaces 28 = .ok (.invokevirtual 39, 3) := by decide +kernel
theorem dX6_otherPlaces_31 : decode cX6_otherPlaces 31 = .ok (.if_icmp .eq 7, 3) := by decide +kernel
theorem dX6_otherPlaces_34 : decode cX6_otherPlaces 34 = .ok (.iconst 1, 1) := by decide +kernel
theorem dX6_otherPlaces_35 : decode cX6_otherPlaces 35 = .ok (.goto 4, 3) := by decide +kernel
theorem dX6_otherPlaces_38 : decode cX6_otherPlaces 38 = .ok (.iconst 0, 1) := by decide +kernel
theorem dX6_otherPlaces_39 : decode cX6_otherPlaces 39 = .ok (.iadd, 1) := by decide +kernel
theorem dX6_otherPlaces_40 : decode cX6_otherPlaces 40 = .ok (.istore_n 3, 1) := by decide +kernel
theorem dX6_otherPlaces_41 : decode cX6_otherPlaces 41 = .ok (.iinc 4 1, 3) := by decide +kernel
theorem dX6_otherPlaces_44 : decode cX6_otherPlaces 44 = .ok (.goto (-39), 3) := by decide +kernel
theorem dX6_otherPlaces_47 : decode cX6_otherPlaces 47 = .ok (.iload_n 3, 1) := by decide +kernel
theorem dX6_otherPlaces_48 : decode cX6_otherPlaces 48 = .ok (.ireturn, 1) := by decide +kernel
set_option maxRecDepth 20000 in
theorem ggX6_ownPlaces_X6_of : GoodIn wsX6_ownPlaces wsX6_of := goodIn_r _ [5, 6, 15, 16, 17, 18, 19, 20, 21, 22, 23, 24, 25, 26, 27, 28, 29, 30] (by decide +kernel) (by decide +kernel)
set_option maxRecDepth 20000 in
theorem gX6_ownPlaces_X6_of : GoodIn wsX6_ownPlaces (wsV RX6 39 RX6 yX6_of wsX6_of) := goodIn_app (goodIn_of _ (by decide +kernel)) ggX6_ownPlaces_X6_of
set_option maxRecDepth 20000 in
theorem ggX6_ownPlaces_X6_statesWith : GoodIn wsX6_ownPlaces wsX6_statesWith := goodIn_r _ [10, 6, 11, 12, 13, 4, 14, 1, 2, 3, 5, 15, 16, 17, 18, 19, 20, 21, 22, 23, 24, 25, 26, 27, 28, 29, 30] (by decide +kernel) (by decide +kernel)
set_option maxRecDepth 20000 in
theorem gX6_ownPlaces_X6_statesWith : GoodIn wsX6_ownPlaces (wsV RX6 153 RX6 yX6_statesWith wsX6_statesWith) := goodIn_app (goodIn_of _ (by decide +kernel)) ggX6_ownPlaces_X6_statesWith
theorem dX6_ownPlaces_0 : decode cX6_ownPlaces 0 = .ok (.iconst 0, 1) := by decide +kernel
theorem dX6_ownPlaces_1 : decode cX6_ownPlaces 1 = .ok (.istore_n 2, 1) := by decide +kernel
theorem dX6_ownPlaces_2 : decode cX6_ownPlaces 2 = .ok (.iconst 0, 1) := by decide +kernel
theorem dX6_ownPlaces_3 : decode cX6_ownPlaces 3 = .ok (.istore_n 3, 1) := by decide +kernel
theorem dX6_ownPlaces_4 : decode cX6_ownPlaces 4 = .ok (.iload_n 3, 1) := by decide +kernel
theorem dX6_ownPlaces_5 : decode cX6_ownPlaces 5 = .ok (.bipush 6, 2) := by decide +kernel
theorem dX6_ownPlaces_7 : decode cX6_ownPlaces 7 = .ok (.if_icmp .ge 33, 3) := by decide +kernel
theorem dX6_ownPlaces_10 : decode cX6_ownPlaces 10 = .ok (.iload_n 2, 1) := by decide +kernel
theorem dX6_ownPlaces_11 : decode cX6_ownPlaces 11 = .ok (.aload_n 0, 1) := by decide +kernel
theorem dX6_ownPlaces_12 : decode cX6_ownPlaces 12 = .ok (.aload_n 0, 1) := by decide +kernel
theorem dX6_ownPlaces_13 : decode cX6_ownPlaces 13 = .ok (.iload_n 1, 1) := by decide +kernel
theorem dX6_ownPlaces_14 : decode cX6_ownPlaces 14 = .ok (.iconst 2, 1) := by decide +kernel
theorem dX6_ownPlaces_15 : decode cX6_ownPlaces 15 = .ok (.iload_n 3, 1) := by decide +kernel
theorem dX6_ownPlaces_16 : decode cX6_ownPlaces 16 = .ok (.iadd, 1) := by decide +kernel
theorem dX6_ownPlaces_17 : decode cX6_ownPlaces 17 = .ok (.invokevirtual 39, 3) := by decide +kernel
theorem dX6_ownPlaces_20 : decode cX6_ownPlaces 20 = .ok (.invokevirtual 153, 3) := by decide +kernel
theorem dX6_ownPlaces_23 : decode cX6_ownPlaces 23 = .ok (.iconst 1, 1) := by decide +kernel
theorem dX6_ownPlaces_24 : decode cX6_ownPlaces 24 = .ok (.if_icmp .ne 7, 3) := by decide +kernel
theorem dX6_ownPlaces_27 : decode cX6_ownPlaces 27 = .ok (.iconst 1, 1) := by decide +kernel
theorem dX6_ownPlaces_28 : decode cX6_ownPlaces 28 = .ok (.goto 4, 3) := by decide +kernel
theorem dX6_ownPlaces_31 : decode cX6_ownPlaces 31 = .ok (.iconst 0, 1) := by decide +kernel
theorem dX6_ownPlaces_32 : decode cX6_ownPlaces 32 = .ok (.iadd, 1) := by decide +kernel
theorem dX6_ownPlaces_33 : decode cX6_ownPlaces 33 = .ok (.istore_n 2, 1) := by decide +kernel
theorem dX6_ownPlaces_34 : decode cX6_ownPlaces 34 = .ok (.iinc 3 1, 3) := by decide +kernel
theorem dX6_ownPlaces_37 : decode cX6_ownPlaces 37 = .ok (.goto (-33), 3) := by decide +kernel
theorem dX6_ownPlaces_40 : decode cX6_ownPlaces 40 = .ok (.iload_n 2, 1) := by decide +kernel
theorem dX6_ownPlaces_41 : decode cX6_ownPlaces 41 = .ok (.ireturn, 1) := by decide +kernel
set_option maxRecDepth 20000 in
theorem ggX6_unlikeBlocks_X6_has : GoodIn wsX6_unlikeBlocks wsX6_has := goodIn_r _ [5, 6, 7, 8, 4, 9, 10, 11, 12, 13, 14, 15, 16, 17, 18, 19, 20, 21, 22, 23, 24, 25, 26] (by decide +kernel) (by decide +kernel)
set_option maxRecDepth 20000 in
theorem gX6_unlikeBlocks_X6_has : GoodIn wsX6_unlikeBlocks (wsV RX6 58 RX6 yX6_has wsX6_has) := goodIn_app (goodIn_of _ (by decide +kernel)) ggX6_unlikeBlocks_X6_has
theorem dX6_unlikeBlocks_0 : decode cX6_unlikeBlocks 0 = .ok (.iconst 0, 1) := by decide +kernel
theorem dX6_unlikeBlocks_1 : decode cX6_unlikeBlocks 1 = .ok (.istore_n 2, 1) := by decide +kernel
theorem dX6_unlikeBlocks_2 : decode cX6_unlikeBlocks 2 = .ok (.iconst 0, 1) := by decide +kernel
theorem dX6_unlikeBlocks_3 : decode cX6_unlikeBlocks 3 = .ok (.istore_n 3, 1) := by decide +kernel
theorem dX6_unlikeBlocks_4 : decode cX6_unlikeBlocks 4 = .ok (.iload_n 3, 1) := by decide +kernel
theorem dX6_unlikeBlocks_5 : decode cX6_unlikeBlocks 5 = .ok (.bipush 40, 2) := by decide +kernel
theorem dX6_unlikeBlocks_7 : decode cX6_unlikeBlocks 7 = .ok (.if_icmp .ge 26, 3) := by decide +kernel
theorem dX6_unlikeBlocks_10 : decode cX6_unlikeBlocks 10 = .ok (.iload_n 2, 1) := by decide +kernel
theorem dX6_unlikeBlocks_11 : decode cX6_unlikeBlocks 11 = .ok (.aload_n 0, 1) := by decide +kernel
theorem dX6_unlikeBlocks_12 : decode cX6_unlikeBlocks 12 = .ok (.iload_n 1, 1) := by decide +kernel
theorem dX6_unlikeBlocks_13 : decode cX6_unlikeBlocks 13 = .ok (.iload_n 3, 1) := by decide +kernel
theorem dX6_unlikeBlocks_14 : decode cX6_unlikeBlocks 14 = .ok (.invokevirtual 58, 3) := by decide +kernel
theorem dX6_unlikeBlocks_17 : decode cX6_unlikeBlocks 17 = .ok (.ifCond .eq 7, 3) := by decide +kernel
theorem dX6_unlikeBlocks_20 : decode cX6_unlikeBlocks 20 = .ok (.iconst 1, 1) := by decide +kernel
theorem dX6_unlikeBlocks_21 : decode cX6_unlikeBlocks 21 = .ok (.goto 4, 3) := by decide +kernel
theorem dX6_unlikeBlocks_24 : decode cX6_unlikeBlocks 24 = .ok (.iconst 0, 1) := by decide +kernel
theorem dX6_unlikeBlocks_25 : decode cX6_unlikeBlocks 25 = .ok (.iadd, 1) := by decide +kernel
theorem dX6_unlikeBlocks_26 : decode cX6_unlikeBlocks 26 = .ok (.istore_n 2, 1) := by decide +kernel
theorem dX6_unlikeBlocks_27 : decode cX6_unlikeBlocks 27 = .ok (.iinc 3 1, 3) := by decide +kernel
theorem dX6_unlikeBlocks_30 : decode cX6_unlikeBlocks 30 = .ok (.goto (-26), 3) := by decide +kernel
theorem dX6_unlikeBlocks_33 : decode cX6_unlikeBlocks 33 = .ok (.iload_n 2, 1) := by decide +kernel
theorem dX6_unlikeBlocks_34 : decode cX6_unlikeBlocks 34 = .ok (.ireturn, 1) := by decide +kernel
theorem dX6_standing_0 : decode cX6_standing 0 = .ok (.iconst 0, 1) := by decide +kernel
theorem dX6_standing_1 : decode cX6_standing 1 = .ok (.istore_n 2, 1) := by decide +kernel
theorem dX6_standing_2 : decode cX6_standing 2 = .ok (.iconst 0, 1) := by decide +kernel
theorem dX6_standing_3 : decode cX6_standing 3 = .ok (.istore_n 3, 1) := by decide +kernel
theorem dX6_standing_4 : decode cX6_standing 4 = .ok (.iload_n 3, 1) := by decide +kernel
theorem dX6_standing_5 : decode cX6_standing 5 = .ok (.iconst 4, 1) := by decide +kernel
theorem dX6_standing_6 : decode cX6_standing 6 = .ok (.if_icmp .ge 32, 3) := by decide +kernel
theorem dX6_standing_9 : decode cX6_standing 9 = .ok (.iload_n 2, 1) := by decide +kernel
theorem dX6_standing_10 : decode cX6_standing 10 = .ok (.aload_n 0, 1) := by decide +kernel
theorem dX6_standing_11 : decode cX6_standing 11 = .ok (.getfield 7, 3) := by decide +kernel
theorem dX6_standing_14 : decode cX6_standing 14 = .ok (.bipush 6, 2) := by decide +kernel
theorem dX6_standing_16 : decode cX6_standing 16 = .ok (.iload_n 3, 1) := by decide +kernel
theorem dX6_standing_17 : decode cX6_standing 17 = .ok (.iadd, 1) := by decide +kernel
theorem dX6_standing_18 : decode cX6_standing 18 = .ok (.iaload, 1) := by decide +kernel
theorem dX6_standing_19 : decode cX6_standing 19 = .ok (.iload_n 1, 1) := by decide +kernel
theorem dX6_standing_20 : decode cX6_standing 20 = .ok (.if_icmp .ne 9, 3) := by decide +kernel
theorem dX6_standing_23 : decode cX6_standing 23 = .ok (.iconst 1, 1) := by decide +kernel
theorem dX6_standing_24 : decode cX6_standing 24 = .ok (.iload_n 3, 1) := by decide +kernel
theorem dX6_standing_25 : decode cX6_standing 25 = .ok (.ishl, 1) := by decide +kernel
theorem dX6_standing_26 : decode cX6_standing 26 = .ok (.goto 4, 3) := by decide +kernel
theorem dX6_standing_29 : decode cX6_standing 29 = .ok (.iconst 0, 1) := by decide +kernel
theorem dX6_standing_30 : decode cX6_standing 30 = .ok (.ior, 1) := by decide +kernel
theorem dX6_standing_31 : decode cX6_standing 31 = .ok (.istore_n 2, 1) := by decide +kernel
theorem dX6_standing_32 : decode cX6_standing 32 = .ok (.iinc 3 1, 3) := by decide +kernel
theorem dX6_standing_35 : decode cX6_standing 35 = .ok (.goto (-31), 3) := by decide +kernel
theorem dX6_standing_38 : decode cX6_standing 38 = .ok (.iload_n 2, 1) := by decide +kernel
theorem dX6_standing_39 : decode cX6_standing 39 = .ok (.ireturn, 1) := by decide +kernel
set_option maxRecDepth 20000 in
theorem ggX6_stateOf_X6_isState : GoodIn wsX6_stateOf wsX6_isState := goodIn_r _ [7, 8, 9, 10, 6, 11, 12, 2, 13, 14, 15, 16, 64, 65, 66, 67, 68, 69, 70, 71, 72, 73, 74, 75, 76, 77, 78, 79] (by decide +kernel) (by decide +kernel)
set_option maxRecDepth 20000 in
theorem gX6_stateOf_X6_isState : GoodIn wsX6_stateOf (wsV RX6 119 RX6 yX6_isState wsX6_isState) := goodIn_app (goodIn_of _ (by decide +kernel)) ggX6_stateOf_X6_isState
set_option maxRecDepth 20000 in
theorem ggX6_stateOf_X6_in : GoodIn wsX6_stateOf wsX6_in := goodIn_r _ [19] (by decide +kernel) (by decide +kernel)
set_option maxRecDepth 20000 in
theorem gX6_stateOf_X6_in : GoodIn wsX6_stateOf (va_wsS RX6 48 yX6_in wsX6_in) := goodIn_app (goodIn_of _ (by decide +kernel)) ggX6_stateOf_X6_in
set_option maxRecDepth 20000 in
theorem ggX6_stateOf_X6_slot : GoodIn wsX6_stateOf wsX6_slot := goodIn_r _ [11, 12, 2, 13, 14, 15, 6, 16, 64, 65, 66, 67, 68, 69, 70, 71, 72, 73, 74, 75, 76, 77, 78, 79] (by decide +kernel) (by decide +kernel)
set_option maxRecDepth 20000 in
theorem gX6_stateOf_X6_slot : GoodIn wsX6_stateOf (wsV RX6 44 RX6 yX6_slot wsX6_slot) := goodIn_app (goodIn_of _ (by decide +kernel)) ggX6_stateOf_X6_slot
set_option maxRecDepth 20000 in
theorem ggX6_stateOf_X6_of : GoodIn wsX6_stateOf wsX6_of := goodIn_r _ [16, 12, 64, 65, 66, 67, 68, 69, 70, 71, 72, 73, 74, 75, 76, 77, 78, 79] (by decide +kernel) (by decide +kernel)
set_option maxRecDepth 20000 in
theorem gX6_stateOf_X6_of : GoodIn wsX6_stateOf (wsV RX6 39 RX6 yX6_of wsX6_of) := goodIn_app (goodIn_of _ (by decide +kernel)) ggX6_stateOf_X6_of
set_option maxRecDepth 20000 in
theorem ggX6_stateOf_X6_children : GoodIn wsX6_stateOf wsX6_children := goodIn_r _ [23, 12, 13, 14, 15, 6, 16, 64, 65, 66, 67, 68, 69, 70, 71, 72, 73, 74, 75, 76, 77, 78, 79] (by decide +kernel) (by decide +kernel)
set_option maxRecDepth 20000 in
theorem gX6_stateOf_X6_children : GoodIn wsX6_stateOf (wsV RX6 156 RX6 yX6_children wsX6_children) := goodIn_app (goodIn_of _ (by decide +kernel)) ggX6_stateOf_X6_children
set_option maxRecDepth 20000 in
theorem ggX6_stateOf_X6_steps : GoodIn wsX6_stateOf wsX6_steps := goodIn_r _ [27, 8, 9, 10, 6, 11, 12, 2, 13, 14, 15, 16, 64, 65, 66, 67, 68, 69, 70, 71, 72, 73, 74, 75, 76, 77, 78, 79] (by decide +kernel) (by decide +kernel)
set_option maxRecDepth 20000 in
theorem gX6_stateOf_X6_steps : GoodIn wsX6_stateOf (wsV RX6 159 RX6 yX6_steps wsX6_steps) := goodIn_app (goodIn_of _ (by decide +kernel)) ggX6_stateOf_X6_steps
set_option maxRecDepth 20000 in
theorem ggX6_stateOf_X6_sum : GoodIn wsX6_stateOf wsX6_sum := goodIn_r _ [31, 32, 33, 34, 6, 35, 13, 14, 15, 16, 12, 36, 37, 38, 39, 64, 65, 66, 67, 68, 69, 70, 71, 72, 73, 74, 75, 76, 77, 78, 79] (by decide +kernel) (by decide +kernel)
set_option maxRecDepth 20000 in
theorem gX6_stateOf_X6_sum : GoodIn wsX6_stateOf (wsV RX6 162 RX6 yX6_sum wsX6_sum) := goodIn_app (goodIn_of _ (by decide +kernel)) ggX6_stateOf_X6_sum
set_option maxRecDepth 20000 in
theorem ggX6_stateOf_X6_otherPlaces : GoodIn wsX6_stateOf wsX6_otherPlaces := goodIn_r _ [43, 13, 14, 15, 6, 16, 12, 64, 65, 66, 67, 68, 69, 70, 71, 72, 73, 74, 75, 76, 77, 78, 79] (by decide +kernel) (by decide +kernel)
set_option maxRecDepth 20000 in
theorem gX6_stateOf_X6_otherPlaces : GoodIn wsX6_stateOf (wsV RX6 165 RX6 yX6_otherPlaces wsX6_otherPlaces) := goodIn_app (goodIn_of _ (by decide +kernel)) ggX6_stateOf_X6_otherPlaces
set_option maxRecDepth 20000 in
theorem ggX6_stateOf_X6_ownPlaces : GoodIn wsX6_stateOf wsX6_ownPlaces := goodIn_r _ [47, 13, 14, 15, 6, 16, 12, 48, 49, 50, 51, 52, 53, 54, 55, 64, 65, 66, 67, 68, 69, 70, 71, 72, 73, 74, 75, 76, 77, 78, 79] (by decide +kernel) (by decide +kernel)
set_option maxRecDepth 20000 in
theorem gX6_stateOf_X6_ownPlaces : GoodIn wsX6_stateOf (wsV RX6 168 RX6 yX6_ownPlaces wsX6_ownPlaces) := goodIn_app (goodIn_of _ (by decide +kernel)) ggX6_stateOf_X6_ownPlaces
set_option maxRecDepth 20000 in
theorem ggX6_stateOf_X6_unlikeBlocks : GoodIn wsX6_stateOf wsX6_unlikeBlocks := goodIn_r _ [59, 52, 53, 54, 6, 55, 13, 14, 15, 16, 12, 64, 65, 66, 67, 68, 69, 70, 71, 72, 73, 74, 75, 76, 77, 78, 79] (by decide +kernel) (by decide +kernel)
set_option maxRecDepth 20000 in
theorem gX6_stateOf_X6_unlikeBlocks : GoodIn wsX6_stateOf (wsV RX6 171 RX6 yX6_unlikeBlocks wsX6_unlikeBlocks) := goodIn_app (goodIn_of _ (by decide +kernel)) ggX6_stateOf_X6_unlikeBlocks
set_option maxRecDepth 20000 in
theorem ggX6_stateOf_X6_standing : GoodIn wsX6_stateOf wsX6_standing := goodIn_r _ [63, 12, 64, 65, 66, 67, 68, 69, 70, 71, 72, 73, 74, 75, 76, 77, 78, 79] (by decide +kernel) (by decide +kernel)
set_option maxRecDepth 20000 in
theorem gX6_stateOf_X6_standing : GoodIn wsX6_stateOf (wsV RX6 174 RX6 yX6_standing wsX6_standing) := goodIn_app (goodIn_of _ (by decide +kernel)) ggX6_stateOf_X6_standing
theorem dX6_stateOf_0 : decode cX6_stateOf 0 = .ok (.aload_n 0, 1) := by decide +kernel
theorem dX6_stateOf_1 : decode cX6_stateOf 1 = .ok (.iload_n 1, 1) := by decide +kernel
theorem dX6_stateOf_2 : decode cX6_stateOf 2 = .ok (.invokevirtual 119, 3) := by decide +kernel
theorem dX6_stateOf_5 : decode cX6_stateOf 5 = .ok (.ifCond .eq 13, 3) := by decide +kernel
theorem dX6_stateOf_8 : decode cX6_stateOf 8 = .ok (.iload_n 2, 1) := by decide +kernel
theorem dX6_stateOf_9 : decode cX6_stateOf 9 = .ok (.iconst 0, 1) := by decide +kernel
theorem dX6_stateOf_10 : decode cX6_stateOf 10 = .ok (.bipush 7, 2) := by decide +kernel
theorem dX6_stateOf_12 : decode cX6_stateOf 12 = .ok (.invokestatic 48, 3) := by decide +kernel
theorem dX6_stateOf_15 : decode cX6_stateOf 15 = .ok (.ifCond .ne 6, 3) := by decide +kernel
theorem dX6_stateOf_18 : decode cX6_stateOf 18 = .ok (.ldc 111, 2) := by decide +kernel
theorem dX6_stateOf_20 : decode cX6_stateOf 20 = .ok (.ireturn, 1) := by decide +kernel
theorem dX6_stateOf_21 : decode cX6_stateOf 21 = .ok (.aload_n 0, 1) := by decide +kernel
theorem dX6_stateOf_22 : decode cX6_stateOf 22 = .ok (.iload_n 1, 1) := by decide +kernel
theorem dX6_stateOf_23 : decode cX6_stateOf 23 = .ok (.invokevirtual 44, 3) := by decide +kernel
theorem dX6_stateOf_26 : decode cX6_stateOf 26 = .ok (.istore_n 3, 1) := by decide +kernel
theorem dX6_stateOf_27 : decode cX6_stateOf 27 = .ok (.iload_n 2, 1) := by decide +kernel
theorem dX6_stateOf_28 : decode cX6_stateOf 28 = .ok (.tableswitch 115 0 6 #[44, 60, 66, 72, 78, 103, 109], 44) := by decide +kernel
theorem dX6_stateOf_72 : decode cX6_stateOf 72 = .ok (.iload_n 3, 1) := by decide +kernel
theorem dX6_stateOf_73 : decode cX6_stateOf 73 = .ok (.ifCond .ne 8, 3) := by decide +kernel
theorem dX6_stateOf_76 : decode cX6_stateOf 76 = .ok (.ldc 43, 2) := by decide +kernel
theorem dX6_stateOf_78 : decode cX6_stateOf 78 = .ok (.goto 9, 3) := by decide +kernel
theorem dX6_stateOf_81 : decode cX6_stateOf 81 = .ok (.aload_n 0, 1) := by decide +kernel
theorem dX6_stateOf_82 : decode cX6_stateOf 82 = .ok (.iload_n 3, 1) := by decide +kernel
theorem dX6_stateOf_83 : decode cX6_stateOf 83 = .ok (.iconst 1, 1) := by decide +kernel
theorem dX6_stateOf_84 : decode cX6_stateOf 84 = .ok (.invokevirtual 39, 3) := by decide +kernel
theorem dX6_stateOf_87 : decode cX6_stateOf 87 = .ok (.ireturn, 1) := by decide +kernel
theorem dX6_stateOf_88 : decode cX6_stateOf 88 = .ok (.aload_n 0, 1) := by decide +kernel
theorem dX6_stateOf_89 : decode cX6_stateOf 89 = .ok (.iload_n 1, 1) := by decide +kernel
theorem dX6_stateOf_90 : decode cX6_stateOf 90 = .ok (.invokevirtual 156, 3) := by decide +kernel
theorem dX6_stateOf_93 : decode cX6_stateOf 93 = .ok (.ireturn, 1) := by decide +kernel
theorem dX6_stateOf_94 : decode cX6_stateOf 94 = .ok (.aload_n 0, 1) := by decide +kernel
theorem dX6_stateOf_95 : decode cX6_stateOf 95 = .ok (.iload_n 1, 1) := by decide +kernel
theorem dX6_stateOf_96 : decode cX6_stateOf 96 = .ok (.invokevirtual 159, 3) := by decide +kernel
theorem dX6_stateOf_99 : decode cX6_stateOf 99 = .ok (.ireturn, 1) := by decide +kernel
theorem dX6_stateOf_100 : decode cX6_stateOf 100 = .ok (.aload_n 0, 1) := by decide +kernel
theorem dX6_stateOf_101 : decode cX6_stateOf 101 = .ok (.iload_n 3, 1) := by decide +kernel
theorem dX6_stateOf_102 : decode cX6_stateOf 102 = .ok (.invokevirtual 162, 3) := by decide +kernel
theorem dX6_stateOf_105 : decode cX6_stateOf 105 = .ok (.ireturn, 1) := by decide +kernel
theorem dX6_stateOf_106 : decode cX6_stateOf 106 = .ok (.iload_n 3, 1) := by decide +kernel
theorem dX6_stateOf_107 : decode cX6_stateOf 107 = .ok (.ifCond .ne 8, 3) := by decide +kernel
theorem dX6_stateOf_110 : decode cX6_stateOf 110 = .ok (.ldc 43, 2) := by decide +kernel
theorem dX6_stateOf_112 : decode cX6_stateOf 112 = .ok (.goto 18, 3) := by decide +kernel
theorem dX6_stateOf_115 : decode cX6_stateOf 115 = .ok (.aload_n 0, 1) := by decide +kernel
theorem dX6_stateOf_116 : decode cX6_stateOf 116 = .ok (.iload_n 3, 1) := by decide +kernel
theorem dX6_stateOf_117 : decode cX6_stateOf 117 = .ok (.aload_n 0, 1) := by decide +kernel
theorem dX6_stateOf_118 : decode cX6_stateOf 118 = .ok (.aload_n 0, 1) := by decide +kernel
theorem dX6_stateOf_119 : decode cX6_stateOf 119 = .ok (.iload_n 3, 1) := by decide +kernel
theorem dX6_stateOf_120 : decode cX6_stateOf 120 = .ok (.iconst 1, 1) := by decide +kernel
theorem dX6_stateOf_121 : decode cX6_stateOf 121 = .ok (.invokevirtual 39, 3) := by decide +kernel
theorem dX6_stateOf_124 : decode cX6_stateOf 124 = .ok (.invokevirtual 44, 3) := by decide +kernel
theorem dX6_stateOf_127 : decode cX6_stateOf 127 = .ok (.invokevirtual 165, 3) := by decide +kernel
theorem dX6_stateOf_130 : decode cX6_stateOf 130 = .ok (.ireturn, 1) := by decide +kernel
theorem dX6_stateOf_131 : decode cX6_stateOf 131 = .ok (.aload_n 0, 1) := by decide +kernel
theorem dX6_stateOf_132 : decode cX6_stateOf 132 = .ok (.iload_n 3, 1) := by decide +kernel
theorem dX6_stateOf_133 : decode cX6_stateOf 133 = .ok (.invokevirtual 168, 3) := by decide +kernel
theorem dX6_stateOf_136 : decode cX6_stateOf 136 = .ok (.ireturn, 1) := by decide +kernel
theorem dX6_stateOf_137 : decode cX6_stateOf 137 = .ok (.aload_n 0, 1) := by decide +kernel
theorem dX6_stateOf_138 : decode cX6_stateOf 138 = .ok (.iload_n 3, 1) := by decide +kernel
theorem dX6_stateOf_139 : decode cX6_stateOf 139 = .ok (.invokevirtual 171, 3) := by decide +kernel
theorem dX6_stateOf_142 : decode cX6_stateOf 142 = .ok (.ireturn, 1) := by decide +kernel
theorem dX6_stateOf_143 : decode cX6_stateOf 143 = .ok (.aload_n 0, 1) := by decide +kernel
theorem dX6_stateOf_144 : decode cX6_stateOf 144 = .ok (.iload_n 1, 1) := by decide +kernel
theorem dX6_stateOf_145 : decode cX6_stateOf 145 = .ok (.invokevirtual 174, 3) := by decide +kernel
theorem dX6_stateOf_148 : decode cX6_stateOf 148 = .ok (.ireturn, 1) := by decide +kernel
set_option maxRecDepth 20000 in
theorem ggX6_number_X6_of : GoodIn wsX6_number wsX6_of := goodIn_r _ [8, 2, 9, 10, 11, 12, 13, 14, 15, 16, 17, 18, 19, 20, 21, 22, 23, 24] (by decide +kernel) (by decide +kernel)
set_option maxRecDepth 20000 in
theorem gX6_number_X6_of : GoodIn wsX6_number (wsV RX6 39 RX6 yX6_of wsX6_of) := goodIn_app (goodIn_of _ (by decide +kernel)) ggX6_number_X6_of
theorem dX6_number_0 : decode cX6_number 0 = .ok (.iload_n 1, 1) := by decide +kernel
theorem dX6_number_1 : decode cX6_number 1 = .ok (.ifCond .ge 8, 3) := by decide +kernel
theorem dX6_number_4 : decode cX6_number 4 = .ok (.ldc 111, 2) := by decide +kernel
theorem dX6_number_6 : decode cX6_number 6 = .ok (.goto 24, 3) := by decide +kernel
theorem dX6_number_9 : decode cX6_number 9 = .ok (.iload_n 1, 1) := by decide +kernel
theorem dX6_number_10 : decode cX6_number 10 = .ok (.aload_n 0, 1) := by decide +kernel
theorem dX6_number_11 : decode cX6_number 11 = .ok (.getfield 7, 3) := by decide +kernel
theorem dX6_number_14 : decode cX6_number 14 = .ok (.iconst 0, 1) := by decide +kernel
theorem dX6_number_15 : decode cX6_number 15 = .ok (.iaload, 1) := by decide +kernel
theorem dX6_number_16 : decode cX6_number 16 = .ok (.if_icmp .lt 8, 3) := by decide +kernel
theorem dX6_number_19 : decode cX6_number 19 = .ok (.ldc 43, 2) := by decide +kernel
theorem dX6_number_21 : decode cX6_number 21 = .ok (.goto 9, 3) := by decide +kernel
theorem dX6_number_24 : decode cX6_number 24 = .ok (.aload_n 0, 1) := by decide +kernel
theorem dX6_number_25 : decode cX6_number 25 = .ok (.iload_n 1, 1) := by decide +kernel
theorem dX6_number_26 : decode cX6_number 26 = .ok (.iconst 0, 1) := by decide +kernel
theorem dX6_number_27 : decode cX6_number 27 = .ok (.invokevirtual 39, 3) := by decide +kernel
theorem dX6_number_30 : decode cX6_number 30 = .ok (.ireturn, 1) := by decide +kernel
set_option maxRecDepth 20000 in
theorem ggX6_blockAt_X6_isState : GoodIn wsX6_blockAt wsX6_isState := goodIn_r _ [6, 7, 8, 9, 5, 10, 11, 12, 13, 14, 15, 16, 20, 21, 22, 23, 24, 25, 26, 27, 28, 29, 30, 31, 32, 33, 34, 35] (by decide +kernel) (by decide +kernel)
set_option maxRecDepth 20000 in
theorem gX6_blockAt_X6_isState : GoodIn wsX6_blockAt (wsV RX6 119 RX6 yX6_isState wsX6_isState) := goodIn_app (goodIn_of _ (by decide +kernel)) ggX6_blockAt_X6_isState
set_option maxRecDepth 20000 in
theorem ggX6_blockAt_X6_in : GoodIn wsX6_blockAt wsX6_in := goodIn_r _ [19] (by decide +kernel) (by decide +kernel)
set_option maxRecDepth 20000 in
theorem gX6_blockAt_X6_in : GoodIn wsX6_blockAt (va_wsS RX6 48 yX6_in wsX6_in) := goodIn_app (goodIn_of _ (by decide +kernel)) ggX6_blockAt_X6_in
set_option maxRecDepth 20000 in
theorem ggX6_blockAt_X6_slot : GoodIn wsX6_blockAt wsX6_slot := goodIn_r _ [10, 11, 12, 13, 14, 15, 5, 16, 20, 21, 22, 23, 24, 25, 26, 27, 28, 29, 30, 31, 32, 33, 34, 35] (by decide +kernel) (by decide +kernel)
set_option maxRecDepth 20000 in
theorem gX6_blockAt_X6_slot : GoodIn wsX6_blockAt (wsV RX6 44 RX6 yX6_slot wsX6_slot) := goodIn_app (goodIn_of _ (by decide +kernel)) ggX6_blockAt_X6_slot
set_option maxRecDepth 20000 in
theorem ggX6_blockAt_X6_of : GoodIn wsX6_blockAt wsX6_of := goodIn_r _ [16, 11, 20, 21, 22, 23, 24, 25, 26, 27, 28, 29, 30, 31, 32, 33, 34, 35] (by decide +kernel) (by decide +kernel)
set_option maxRecDepth 20000 in
theorem gX6_blockAt_X6_of : GoodIn wsX6_blockAt (wsV RX6 39 RX6 yX6_of wsX6_of) := goodIn_app (goodIn_of _ (by decide +kernel)) ggX6_blockAt_X6_of
theorem dX6_blockAt_0 : decode cX6_blockAt 0 = .ok (.aload_n 0, 1) := by decide +kernel
theorem dX6_blockAt_1 : decode cX6_blockAt 1 = .ok (.iload_n 1, 1) := by decide +kernel
theorem dX6_blockAt_2 : decode cX6_blockAt 2 = .ok (.invokevirtual 119, 3) := by decide +kernel
theorem dX6_blockAt_5 : decode cX6_blockAt 5 = .ok (.ifCond .eq 27, 3) := by decide +kernel
theorem dX6_blockAt_8 : decode cX6_blockAt 8 = .ok (.iload_n 2, 1) := by decide +kernel
theorem dX6_blockAt_9 : decode cX6_blockAt 9 = .ok (.iconst 0, 1) := by decide +kernel
theorem dX6_blockAt_10 : decode cX6_blockAt 10 = .ok (.iconst 5, 1) := by decide +kernel
theorem dX6_blockAt_11 : decode cX6_blockAt 11 = .ok (.invokestatic 48, 3) := by decide +kernel
theorem dX6_blockAt_14 : decode cX6_blockAt 14 = .ok (.ifCond .eq 18, 3) := by decide +kernel
theorem dX6_blockAt_17 : decode cX6_blockAt 17 = .ok (.aload_n 0, 1) := by decide +kernel
theorem dX6_blockAt_18 : decode cX6_blockAt 18 = .ok (.aload_n 0, 1) := by decide +kernel
theorem dX6_blockAt_19 : decode cX6_blockAt 19 = .ok (.iload_n 1, 1) := by decide +kernel
theorem dX6_blockAt_20 : decode cX6_blockAt 20 = .ok (.invokevirtual 44, 3) := by decide +kernel
theorem dX6_blockAt_23 : decode cX6_blockAt 23 = .ok (.iconst 2, 1) := by decide +kernel
theorem dX6_blockAt_24 : decode cX6_blockAt 24 = .ok (.iload_n 2, 1) := by decide +kernel
theorem dX6_blockAt_25 : decode cX6_blockAt 25 = .ok (.iadd, 1) := by decide +kernel
theorem dX6_blockAt_26 : decode cX6_blockAt 26 = .ok (.invokevirtual 39, 3) := by decide +kernel
theorem dX6_blockAt_29 : decode cX6_blockAt 29 = .ok (.goto 5, 3) := by decide +kernel
theorem dX6_blockAt_32 : decode cX6_blockAt 32 = .ok (.ldc 111, 2) := by decide +kernel
theorem dX6_blockAt_34 : decode cX6_blockAt 34 = .ok (.ireturn, 1) := by decide +kernel
set_option maxRecDepth 20000 in
theorem ggX6_inAll_X6_inBlock : GoodIn wsX6_inAll wsX6_inBlock := goodIn_r _ [5, 6, 7, 8, 9, 10, 11, 12, 13, 14, 15, 16, 17, 18, 19, 20, 21, 22] (by decide +kernel) (by decide +kernel)
set_option maxRecDepth 20000 in
theorem gX6_inAll_X6_inBlock : GoodIn wsX6_inAll (wsV RX6 52 RX6 yX6_inBlock wsX6_inBlock) := goodIn_app (goodIn_of _ (by decide +kernel)) ggX6_inAll_X6_inBlock
theorem dX6_inAll_0 : decode cX6_inAll 0 = .ok (.iconst 0, 1) := by decide +kernel
theorem dX6_inAll_1 : decode cX6_inAll 1 = .ok (.istore_n 3, 1) := by decide +kernel
theorem dX6_inAll_2 : decode cX6_inAll 2 = .ok (.iconst 0, 1) := by decide +kernel
theorem dX6_inAll_3 : decode cX6_inAll 3 = .ok (.istore 4, 2) := by decide +kernel
theorem dX6_inAll_5 : decode cX6_inAll 5 = .ok (.iload 4, 2) := by decide +kernel
theorem dX6_inAll_7 : decode cX6_inAll 7 = .ok (.bipush 8, 2) := by decide +kernel
theorem dX6_inAll_9 : decode cX6_inAll 9 = .ok (.if_icmp .ge 44, 3) := by decide +kernel
theorem dX6_inAll_12 : decode cX6_inAll 12 = .ok (.iload_n 3, 1) := by decide +kernel
theorem dX6_inAll_13 : decode cX6_inAll 13 = .ok (.iload_n 2, 1) := by decide +kernel
theorem dX6_inAll_14 : decode cX6_inAll 14 = .ok (.ifCond .eq 24, 3) := by decide +kernel
theorem dX6_inAll_17 : decode cX6_inAll 17 = .ok (.aload_n 0, 1) := by decide +kernel
theorem dX6_inAll_18 : decode cX6_inAll 18 = .ok (.iload_n 1, 1) := by decide +kernel
theorem dX6_inAll_19 : decode cX6_inAll 19 = .ok (.iload 4, 2) := by decide +kernel
theorem dX6_inAll_21 : decode cX6_inAll 21 = .ok (.invokevirtual 52, 3) := by decide +kernel
theorem dX6_inAll_24 : decode cX6_inAll 24 = .ok (.ifCond .eq 10, 3) := by decide +kernel
theorem dX6_inAll_27 : decode cX6_inAll 27 = .ok (.iconst 1, 1) := by decide +kernel
theorem dX6_inAll_28 : decode cX6_inAll 28 = .ok (.iload 4, 2) := by decide +kernel
theorem dX6_inAll_30 : decode cX6_inAll 30 = .ok (.ishl, 1) := by decide +kernel
theorem dX6_inAll_31 : decode cX6_inAll 31 = .ok (.goto 14, 3) := by decide +kernel
theorem dX6_inAll_34 : decode cX6_inAll 34 = .ok (.iconst 0, 1) := by decide +kernel
theorem dX6_inAll_35 : decode cX6_inAll 35 = .ok (.goto 10, 3) := by decide +kernel
theorem dX6_inAll_38 : decode cX6_inAll 38 = .ok (.aload_n 0, 1) := by decide +kernel
theorem dX6_inAll_39 : decode cX6_inAll 39 = .ok (.iload_n 1, 1) := by decide +kernel
theorem dX6_inAll_40 : decode cX6_inAll 40 = .ok (.iload 4, 2) := by decide +kernel
theorem dX6_inAll_42 : decode cX6_inAll 42 = .ok (.invokevirtual 52, 3) := by decide +kernel
theorem dX6_inAll_45 : decode cX6_inAll 45 = .ok (.iadd, 1) := by decide +kernel
theorem dX6_inAll_46 : decode cX6_inAll 46 = .ok (.istore_n 3, 1) := by decide +kernel
theorem dX6_inAll_47 : decode cX6_inAll 47 = .ok (.iinc 4 1, 3) := by decide +kernel
theorem dX6_inAll_50 : decode cX6_inAll 50 = .ok (.goto (-45), 3) := by decide +kernel
theorem dX6_inAll_53 : decode cX6_inAll 53 = .ok (.iload_n 3, 1) := by decide +kernel
theorem dX6_inAll_54 : decode cX6_inAll 54 = .ok (.ireturn, 1) := by decide +kernel
set_option maxRecDepth 20000 in
theorem ggX6_otherLike_X6_isBlock : GoodIn wsX6_otherLike wsX6_isBlock := goodIn_r _ [6, 7, 8, 9, 5, 10, 19, 20, 21, 22, 23, 24, 25, 26, 27, 28, 29, 30, 31, 32, 33, 34] (by decide +kernel) (by decide +kernel)
set_option maxRecDepth 20000 in
theorem gX6_otherLike_X6_isBlock : GoodIn wsX6_otherLike (wsV RX6 65 RX6 yX6_isBlock wsX6_isBlock) := goodIn_app (goodIn_of _ (by decide +kernel)) ggX6_otherLike_X6_isBlock
set_option maxRecDepth 20000 in
theorem ggX6_otherLike_X6_areLike : GoodIn wsX6_otherLike wsX6_areLike := goodIn_r _ [14, 15, 16, 17, 5, 18, 7, 19, 20, 21, 22, 23, 24, 25, 26, 27, 28, 29, 30, 31, 32, 33, 34] (by decide +kernel) (by decide +kernel)
set_option maxRecDepth 20000 in
theorem gX6_otherLike_X6_areLike : GoodIn wsX6_otherLike (wsV RX6 144 RX6 yX6_areLike wsX6_areLike) := goodIn_app (goodIn_of _ (by decide +kernel)) ggX6_otherLike_X6_areLike
theorem dX6_otherLike_0 : decode cX6_otherLike 0 = .ok (.iconst 0, 1) := by decide +kernel
theorem dX6_otherLike_1 : decode cX6_otherLike 1 = .ok (.istore_n 2, 1) := by decide +kernel
theorem dX6_otherLike_2 : decode cX6_otherLike 2 = .ok (.iload_n 2, 1) := by decide +kernel
theorem dX6_otherLike_3 : decode cX6_otherLike 3 = .ok (.bipush 40, 2) := by decide +kernel
theorem dX6_otherLike_5 : decode cX6_otherLike 5 = .ok (.if_icmp .ge 33, 3) := by decide +kernel
theorem dX6_otherLike_8 : decode cX6_otherLike 8 = .ok (.iload_n 2, 1) := by decide +kernel
theorem dX6_otherLike_9 : decode cX6_otherLike 9 = .ok (.iload_n 1, 1) := by decide +kernel
theorem dX6_otherLike_10 : decode cX6_otherLike 10 = .ok (.if_icmp .eq 22, 3) := by decide +kernel
theorem dX6_otherLike_13 : decode cX6_otherLike 13 = .ok (.aload_n 0, 1) := by decide +kernel
theorem dX6_otherLike_14 : decode cX6_otherLike 14 = .ok (.iload_n 2, 1) := by decide +kernel
theorem dX6_otherLike_15 : decode cX6_otherLike 15 = .ok (.invokevirtual 65, 3) := by decide +kernel
theorem dX6_otherLike_18 : decode cX6_otherLike 18 = .ok (.ifCond .eq 14, 3) := by decide +kernel
theorem dX6_otherLike_21 : decode cX6_otherLike 21 = .ok (.aload_n 0, 1) := by decide +kernel
theorem dX6_otherLike_22 : decode cX6_otherLike 22 = .ok (.iload_n 2, 1) := by decide +kernel
theorem dX6_otherLike_23 : decode cX6_otherLike 23 = .ok (.iload_n 1, 1) := by decide +kernel
theorem dX6_otherLike_24 : decode cX6_otherLike 24 = .ok (.invokevirtual 144, 3) := by decide +kernel
theorem dX6_otherLike_27 : decode cX6_otherLike 27 = .ok (.ifCond .eq 5, 3) := by decide +kernel
theorem dX6_otherLike_30 : decode cX6_otherLike 30 = .ok (.iload_n 2, 1) := by decide +kernel
theorem dX6_otherLike_31 : decode cX6_otherLike 31 = .ok (.ireturn, 1) := by decide +kernel
theorem dX6_otherLike_32 : decode cX6_otherLike 32 = .ok (.iinc 2 1, 3) := by decide +kernel
theorem dX6_otherLike_35 : decode cX6_otherLike 35 = .ok (.goto (-33), 3) := by decide +kernel
theorem dX6_otherLike_38 : decode cX6_otherLike 38 = .ok (.ldc 43, 2) := by decide +kernel
theorem dX6_otherLike_40 : decode cX6_otherLike 40 = .ok (.ireturn, 1) := by decide +kernel
set_option maxRecDepth 20000 in
theorem ggX6_blockOf_X6_isBlock : GoodIn wsX6_blockOf wsX6_isBlock := goodIn_r _ [6, 7, 8, 9, 5, 10, 44, 45, 46, 47, 48, 49, 50, 51, 52, 53, 54, 55, 56, 57, 58, 59] (by decide +kernel) (by decide +kernel)
set_option maxRecDepth 20000 in
theorem gX6_blockOf_X6_isBlock : GoodIn wsX6_blockOf (wsV RX6 65 RX6 yX6_isBlock wsX6_isBlock) := goodIn_app (goodIn_of _ (by decide +kernel)) ggX6_blockOf_X6_isBlock
set_option maxRecDepth 20000 in
theorem ggX6_blockOf_X6_in : GoodIn wsX6_blockOf wsX6_in := goodIn_r _ [10] (by decide +kernel) (by decide +kernel)
set_option maxRecDepth 20000 in
theorem gX6_blockOf_X6_in : GoodIn wsX6_blockOf (va_wsS RX6 48 yX6_in wsX6_in) := goodIn_app (goodIn_of _ (by decide +kernel)) ggX6_blockOf_X6_in
set_option maxRecDepth 20000 in
theorem ggX6_blockOf_X6_placesWith : GoodIn wsX6_blockOf wsX6_placesWith := goodIn_r _ [14, 7, 15, 16, 17, 5, 18, 44, 45, 46, 47, 48, 49, 50, 51, 52, 53, 54, 55, 56, 57, 58, 59] (by decide +kernel) (by decide +kernel)
set_option maxRecDepth 20000 in
theorem gX6_blockOf_X6_placesWith : GoodIn wsX6_blockOf (wsV RX6 55 RX6 yX6_placesWith wsX6_placesWith) := goodIn_app (goodIn_of _ (by decide +kernel)) ggX6_blockOf_X6_placesWith
set_option maxRecDepth 20000 in
theorem ggX6_blockOf_X6_statesWith : GoodIn wsX6_blockOf wsX6_statesWith := goodIn_r _ [22, 7, 23, 24, 25, 5, 26, 15, 16, 17, 18, 44, 45, 46, 47, 48, 49, 50, 51, 52, 53, 54, 55, 56, 57, 58, 59] (by decide +kernel) (by decide +kernel)
set_option maxRecDepth 20000 in
theorem gX6_blockOf_X6_statesWith : GoodIn wsX6_blockOf (wsV RX6 153 RX6 yX6_statesWith wsX6_statesWith) := goodIn_app (goodIn_of _ (by decide +kernel)) ggX6_blockOf_X6_statesWith
set_option maxRecDepth 20000 in
theorem ggX6_blockOf_X6_inAll : GoodIn wsX6_blockOf wsX6_inAll := goodIn_r _ [30, 31, 32, 33, 5, 34, 7, 44, 45, 46, 47, 48, 49, 50, 51, 52, 53, 54, 55, 56, 57, 58, 59] (by decide +kernel) (by decide +kernel)
set_option maxRecDepth 20000 in
theorem gX6_blockOf_X6_inAll : GoodIn wsX6_blockOf (wsV RX6 177 RX6 yX6_inAll wsX6_inAll) := goodIn_app (goodIn_of _ (by decide +kernel)) ggX6_blockOf_X6_inAll
set_option maxRecDepth 20000 in
theorem ggX6_blockOf_X6_otherLike : GoodIn wsX6_blockOf wsX6_otherLike := goodIn_r _ [38, 39, 2, 3, 4, 5, 6, 7, 8, 9, 10, 40, 41, 42, 43, 31, 32, 33, 34, 44, 45, 46, 47, 48, 49, 50, 51, 52, 53, 54, 55, 56, 57, 58, 59] (by decide +kernel) (by decide +kernel)
set_option maxRecDepth 20000 in
theorem gX6_blockOf_X6_otherLike : GoodIn wsX6_blockOf (wsV RX6 181 RX6 yX6_otherLike wsX6_otherLike) := goodIn_app (goodIn_of _ (by decide +kernel)) ggX6_blockOf_X6_otherLike
theorem dX6_blockOf_0 : decode cX6_blockOf 0 = .ok (.aload_n 0, 1) := by decide +kernel
theorem dX6_blockOf_1 : decode cX6_blockOf 1 = .ok (.iload_n 1, 1) := by decide +kernel
theorem dX6_blockOf_2 : decode cX6_blockOf 2 = .ok (.invokevirtual 65, 3) := by decide +kernel
theorem dX6_blockOf_5 : decode cX6_blockOf 5 = .ok (.ifCond .eq 12, 3) := by decide +kernel
theorem dX6_blockOf_8 : decode cX6_blockOf 8 = .ok (.iload_n 2, 1) := by decide +kernel
theorem dX6_blockOf_9 : decode cX6_blockOf 9 = .ok (.iconst 0, 1) := by decide +kernel
theorem dX6_blockOf_10 : decode cX6_blockOf 10 = .ok (.iconst 4, 1) := by decide +kernel
theorem dX6_blockOf_11 : decode cX6_blockOf 11 = .ok (.invokestatic 48, 3) := by decide +kernel
theorem dX6_blockOf_14 : decode cX6_blockOf 14 = .ok (.ifCond .ne 6, 3) := by decide +kernel
theorem dX6_blockOf_17 : decode cX6_blockOf 17 = .ok (.ldc 111, 2) := by decide +kernel
theorem dX6_blockOf_19 : decode cX6_blockOf 19 = .ok (.ireturn, 1) := by decide +kernel
theorem dX6_blockOf_20 : decode cX6_blockOf 20 = .ok (.iload_n 2, 1) := by decide +kernel
theorem dX6_blockOf_21 : decode cX6_blockOf 21 = .ok (.tableswitch 59 0 3 #[31, 37, 43, 43], 31) := by decide +kernel
theorem dX6_blockOf_52 : decode cX6_blockOf 52 = .ok (.aload_n 0, 1) := by decide +kernel
theorem dX6_blockOf_53 : decode cX6_blockOf 53 = .ok (.iload_n 1, 1) := by decide +kernel
theorem dX6_blockOf_54 : decode cX6_blockOf 54 = .ok (.invokevirtual 55, 3) := by decide +kernel
theorem dX6_blockOf_57 : decode cX6_blockOf 57 = .ok (.ireturn, 1) := by decide +kernel
theorem dX6_blockOf_58 : decode cX6_blockOf 58 = .ok (.aload_n 0, 1) := by decide +kernel
theorem dX6_blockOf_59 : decode cX6_blockOf 59 = .ok (.iload_n 1, 1) := by decide +kernel
theorem dX6_blockOf_60 : decode cX6_blockOf 60 = .ok (.invokevirtual 153, 3) := by decide +kernel
theorem dX6_blockOf_63 : decode cX6_blockOf 63 = .ok (.ireturn, 1) := by decide +kernel
theorem dX6_blockOf_64 : decode cX6_blockOf 64 = .ok (.aload_n 0, 1) := by decide +kernel
theorem dX6_blockOf_65 : decode cX6_blockOf 65 = .ok (.iload_n 1, 1) := by decide +kernel
theorem dX6_blockOf_66 : decode cX6_blockOf 66 = .ok (.iload_n 2, 1) := by decide +kernel
theorem dX6_blockOf_67 : decode cX6_blockOf 67 = .ok (.iconst 3, 1) := by decide +kernel
theorem dX6_blockOf_68 : decode cX6_blockOf 68 = .ok (.if_icmp .ne 7, 3) := by decide +kernel
theorem dX6_blockOf_71 : decode cX6_blockOf 71 = .ok (.iconst 1, 1) := by decide +kernel
theorem dX6_blockOf_72 : decode cX6_blockOf 72 = .ok (.goto 4, 3) := by decide +kernel
theorem dX6_blockOf_75 : decode cX6_blockOf 75 = .ok (.iconst 0, 1) := by decide +kernel
theorem dX6_blockOf_76 : decode cX6_blockOf 76 = .ok (.invokevirtual 177, 3) := by decide +kernel
theorem dX6_blockOf_79 : decode cX6_blockOf 79 = .ok (.ireturn, 1) := by decide +kernel
theorem dX6_blockOf_80 : decode cX6_blockOf 80 = .ok (.aload_n 0, 1) := by decide +kernel
theorem dX6_blockOf_81 : decode cX6_blockOf 81 = .ok (.iload_n 1, 1) := by decide +kernel
theorem dX6_blockOf_82 : decode cX6_blockOf 82 = .ok (.invokevirtual 181, 3) := by decide +kernel
theorem dX6_blockOf_85 : decode cX6_blockOf 85 = .ok (.ireturn, 1) := by decide +kernel
set_option maxRecDepth 20000 in
theorem ggX6_head_X6_isBranch : GoodIn wsX6_head wsX6_isBranch := goodIn_r _ [7, 1, 8, 9, 6, 10, 11, 12, 13, 14, 15, 16, 17, 18, 19, 20, 21, 22, 23, 24, 25, 26] (by decide +kernel) (by decide +kernel)
set_option maxRecDepth 20000 in
theorem gX6_head_X6_isBranch : GoodIn wsX6_head (wsV RX6 105 RX6 yX6_isBranch wsX6_isBranch) := goodIn_app (goodIn_of _ (by decide +kernel)) ggX6_head_X6_isBranch
theorem dX6_head_0 : decode cX6_head 0 = .ok (.aload_n 0, 1) := by decide +kernel
theorem dX6_head_1 : decode cX6_head 1 = .ok (.iload_n 1, 1) := by decide +kernel
theorem dX6_head_2 : decode cX6_head 2 = .ok (.invokevirtual 105, 3) := by decide +kernel
theorem dX6_head_5 : decode cX6_head 5 = .ok (.ifCond .eq 15, 3) := by decide +kernel
theorem dX6_head_8 : decode cX6_head 8 = .ok (.aload_n 0, 1) := by decide +kernel
theorem dX6_head_9 : decode cX6_head 9 = .ok (.getfield 7, 3) := by decide +kernel
theorem dX6_head_12 : decode cX6_head 12 = .ok (.bipush 6, 2) := by decide +kernel
theorem dX6_head_14 : decode cX6_head 14 = .ok (.iload_n 1, 1) := by decide +kernel
theorem dX6_head_15 : decode cX6_head 15 = .ok (.iadd, 1) := by decide +kernel
theorem dX6_head_16 : decode cX6_head 16 = .ok (.iaload, 1) := by decide +kernel
theorem dX6_head_17 : decode cX6_head 17 = .ok (.goto 5, 3) := by decide +kernel
theorem dX6_head_20 : decode cX6_head 20 = .ok (.ldc 111, 2) := by decide +kernel
theorem dX6_head_22 : decode cX6_head 22 = .ok (.ireturn, 1) := by decide +kernel
set_option maxRecDepth 20000 in
theorem ggX6_unlikeCells_X6_cellOf : GoodIn wsX6_unlikeCells wsX6_cellOf := goodIn_r _ [6, 7, 8, 9, 5, 10, 11, 12, 13, 14, 15, 16, 17, 18, 19, 20, 21, 22, 23, 24, 25, 26, 27, 28, 29, 30, 31] (by decide +kernel) (by decide +kernel)
set_option maxRecDepth 20000 in
theorem gX6_unlikeCells_X6_cellOf : GoodIn wsX6_unlikeCells (wsV RX6 62 RX6 yX6_cellOf wsX6_cellOf) := goodIn_app (goodIn_of _ (by decide +kernel)) ggX6_unlikeCells_X6_cellOf
theorem dX6_unlikeCells_0 : decode cX6_unlikeCells 0 = .ok (.iconst 0, 1) := by decide +kernel
theorem dX6_unlikeCells_1 : decode cX6_unlikeCells 1 = .ok (.istore 4, 2) := by decide +kernel
theorem dX6_unlikeCells_3 : decode cX6_unlikeCells 3 = .ok (.iconst 0, 1) := by decide +kernel
theorem dX6_unlikeCells_4 : decode cX6_unlikeCells 4 = .ok (.istore 5, 2) := by decide +kernel
theorem dX6_unlikeCells_6 : decode cX6_unlikeCells 6 = .ok (.iload 5, 2) := by decide +kernel
theorem dX6_unlikeCells_8 : decode cX6_unlikeCells 8 = .ok (.bipush 48, 2) := by decide +kernel
theorem dX6_unlikeCells_10 : decode cX6_unlikeCells 10 = .ok (.if_icmp .ge 60, 3) := by decide +kernel
theorem dX6_unlikeCells_13 : decode cX6_unlikeCells 13 = .ok (.aload_n 0, 1) := by decide +kernel
theorem dX6_unlikeCells_14 : decode cX6_unlikeCells 14 = .ok (.iload_n 1, 1) := by decide +kernel
theorem dX6_unlikeCells_15 : decode cX6_unlikeCells 15 = .ok (.iload 5, 2) := by decide +kernel
theorem dX6_unlikeCells_17 : decode cX6_unlikeCells 17 = .ok (.invokevirtual 62, 3) := by decide +kernel
theorem dX6_unlikeCells_20 : decode cX6_unlikeCells 20 = .ok (.aload_n 0, 1) := by decide +kernel
theorem dX6_unlikeCells_21 : decode cX6_unlikeCells 21 = .ok (.iload_n 2, 1) := by decide +kernel
theorem dX6_unlikeCells_22 : decode cX6_unlikeCells 22 = .ok (.iload 5, 2) := by decide +kernel
theorem dX6_unlikeCells_24 : decode cX6_unlikeCells 24 = .ok (.invokevirtual 62, 3) := by decide +kernel
theorem dX6_unlikeCells_27 : decode cX6_unlikeCells 27 = .ok (.if_icmp .eq 7, 3) := by decide +kernel
theorem dX6_unlikeCells_30 : decode cX6_unlikeCells 30 = .ok (.iconst 1, 1) := by decide +kernel
theorem dX6_unlikeCells_31 : decode cX6_unlikeCells 31 = .ok (.goto 4, 3) := by decide +kernel
theorem dX6_unlikeCells_34 : decode cX6_unlikeCells 34 = .ok (.iconst 0, 1) := by decide +kernel
theorem dX6_unlikeCells_35 : decode cX6_unlikeCells 35 = .ok (.istore 6, 2) := by decide +kernel
theorem dX6_unlikeCells_37 : decode cX6_unlikeCells 37 = .ok (.iload 6, 2) := by decide +kernel
theorem dX6_unlikeCells_39 : decode cX6_unlikeCells 39 = .ok (.ifCond .eq 10, 3) := by decide +kernel
theorem dX6_unlikeCells_42 : decode cX6_unlikeCells 42 = .ok (.iload_n 3, 1) := by decide +kernel
theorem dX6_unlikeCells_43 : decode cX6_unlikeCells 43 = .ok (.ifCond .eq 6, 3) := by decide +kernel
theorem dX6_unlikeCells_46 : decode cX6_unlikeCells 46 = .ok (.iload 5, 2) := by decide +kernel
theorem dX6_unlikeCells_48 : decode cX6_unlikeCells 48 = .ok (.ireturn, 1) := by decide +kernel
theorem dX6_unlikeCells_49 : decode cX6_unlikeCells 49 = .ok (.iload 4, 2) := by decide +kernel
theorem dX6_unlikeCells_51 : decode cX6_unlikeCells 51 = .ok (.iload 6, 2) := by decide +kernel
theorem dX6_unlikeCells_53 : decode cX6_unlikeCells 53 = .ok (.ifCond .eq 7, 3) := by decide +kernel
theorem dX6_unlikeCells_56 : decode cX6_unlikeCells 56 = .ok (.iconst 1, 1) := by decide +kernel
theorem dX6_unlikeCells_57 : decode cX6_unlikeCells 57 = .ok (.goto 4, 3) := by decide +kernel
theorem dX6_unlikeCells_60 : decode cX6_unlikeCells 60 = .ok (.iconst 0, 1) := by decide +kernel
theorem dX6_unlikeCells_61 : decode cX6_unlikeCells 61 = .ok (.iadd, 1) := by decide +kernel
theorem dX6_unlikeCells_62 : decode cX6_unlikeCells 62 = .ok (.istore 4, 2) := by decide +kernel
theorem dX6_unlikeCells_64 : decode cX6_unlikeCells 64 = .ok (.iinc 5 1, 3) := by decide +kernel
theorem dX6_unlikeCells_67 : decode cX6_unlikeCells 67 = .ok (.goto (-61), 3) := by decide +kernel
theorem dX6_unlikeCells_70 : decode cX6_unlikeCells 70 = .ok (.iload_n 3, 1) := by decide +kernel
theorem dX6_unlikeCells_71 : decode cX6_unlikeCells 71 = .ok (.ifCond .eq 8, 3) := by decide +kernel
theorem dX6_unlikeCells_74 : decode cX6_unlikeCells 74 = .ok (.ldc 43, 2) := by decide +kernel
theorem dX6_unlikeCells_76 : decode cX6_unlikeCells 76 = .ok (.goto 5, 3) := by decide +kernel
theorem dX6_unlikeCells_79 : decode cX6_unlikeCells 79 = .ok (.iload 4, 2) := by decide +kernel
theorem dX6_unlikeCells_81 : decode cX6_unlikeCells 81 = .ok (.ireturn, 1) := by decide +kernel
set_option maxRecDepth 20000 in
theorem ggX6_unlike_X6_isState : GoodIn wsX6_unlike wsX6_isState := goodIn_r _ [6, 7, 8, 9, 5, 10, 11, 12, 13, 14, 15, 16, 44, 45, 46, 47, 48, 49, 50, 51, 52, 53, 54, 55, 56, 57, 58, 59] (by decide +kernel) (by decide +kernel)
set_option maxRecDepth 20000 in
theorem gX6_unlike_X6_isState : GoodIn wsX6_unlike (wsV RX6 119 RX6 yX6_isState wsX6_isState) := goodIn_app (goodIn_of _ (by decide +kernel)) ggX6_unlike_X6_isState
set_option maxRecDepth 20000 in
theorem ggX6_unlike_X6_in : GoodIn wsX6_unlike wsX6_in := goodIn_r _ [19] (by decide +kernel) (by decide +kernel)
set_option maxRecDepth 20000 in
theorem gX6_unlike_X6_in : GoodIn wsX6_unlike (va_wsS RX6 48 yX6_in wsX6_in) := goodIn_app (goodIn_of _ (by decide +kernel)) ggX6_unlike_X6_in
set_option maxRecDepth 20000 in
theorem ggX6_unlike_X6_slot : GoodIn wsX6_unlike wsX6_slot := goodIn_r _ [10, 11, 12, 13, 14, 15, 5, 16, 44, 45, 46, 47, 48, 49, 50, 51, 52, 53, 54, 55, 56, 57, 58, 59] (by decide +kernel) (by decide +kernel)
set_option maxRecDepth 20000 in
theorem gX6_unlike_X6_slot : GoodIn wsX6_unlike (wsV RX6 44 RX6 yX6_slot wsX6_slot) := goodIn_app (goodIn_of _ (by decide +kernel)) ggX6_unlike_X6_slot
set_option maxRecDepth 20000 in
theorem ggX6_unlike_X6_unlikeCells : GoodIn wsX6_unlike wsX6_unlikeCells := goodIn_r _ [23, 12, 24, 25, 26, 5, 27, 13, 14, 15, 16, 11, 28, 29, 30, 31, 44, 45, 46, 47, 48, 49, 50, 51, 52, 53, 54, 55, 56, 57, 58, 59] (by decide +kernel) (by decide +kernel)
set_option maxRecDepth 20000 in
theorem gX6_unlike_X6_unlikeCells : GoodIn wsX6_unlike (wsV RX6 184 RX6 yX6_unlikeCells wsX6_unlikeCells) := goodIn_app (goodIn_of _ (by decide +kernel)) ggX6_unlike_X6_unlikeCells
set_option maxRecDepth 20000 in
theorem ggX6_unlike_X6_otherPlaces : GoodIn wsX6_unlike wsX6_otherPlaces := goodIn_r _ [35, 13, 14, 15, 5, 16, 11, 44, 45, 46, 47, 48, 49, 50, 51, 52, 53, 54, 55, 56, 57, 58, 59] (by decide +kernel) (by decide +kernel)
set_option maxRecDepth 20000 in
theorem gX6_unlike_X6_otherPlaces : GoodIn wsX6_unlike (wsV RX6 165 RX6 yX6_otherPlaces wsX6_otherPlaces) := goodIn_app (goodIn_of _ (by decide +kernel)) ggX6_unlike_X6_otherPlaces
set_option maxRecDepth 20000 in
theorem ggX6_unlike_X6_common : GoodIn wsX6_unlike wsX6_common := goodIn_r _ [39, 40, 41, 42, 5, 43, 7, 8, 9, 10, 11, 12, 13, 14, 15, 16, 44, 45, 46, 47, 48, 49, 50, 51, 52, 53, 54, 55, 56, 57, 58, 59] (by decide +kernel) (by decide +kernel)
set_option maxRecDepth 20000 in
theorem gX6_unlike_X6_common : GoodIn wsX6_unlike (wsV RX6 125 RX6 yX6_common wsX6_common) := goodIn_app (goodIn_of _ (by decide +kernel)) ggX6_unlike_X6_common
theorem dX6_unlike_0 : decode cX6_unlike 0 = .ok (.aload_n 0, 1) := by decide +kernel
theorem dX6_unlike_1 : decode cX6_unlike 1 = .ok (.iload_n 1, 1) := by decide +kernel
theorem dX6_unlike_2 : decode cX6_unlike 2 = .ok (.invokevirtual 119, 3) := by decide +kernel
theorem dX6_unlike_5 : decode cX6_unlike 5 = .ok (.ifCond .eq 20, 3) := by decide +kernel
theorem dX6_unlike_8 : decode cX6_unlike 8 = .ok (.aload_n 0, 1) := by decide +kernel
theorem dX6_unlike_9 : decode cX6_unlike 9 = .ok (.iload_n 2, 1) := by decide +kernel
theorem dX6_unlike_10 : decode cX6_unlike 10 = .ok (.invokevirtual 119, 3) := by decide +kernel
theorem dX6_unlike_13 : decode cX6_unlike 13 = .ok (.ifCond .eq 12, 3) := by decide +kernel
theorem dX6_unlike_16 : decode cX6_unlike 16 = .ok (.iload_n 3, 1) := by decide +kernel
theorem dX6_unlike_17 : decode cX6_unlike 17 = .ok (.iconst 0, 1) := by decide +kernel
theorem dX6_unlike_18 : decode cX6_unlike 18 = .ok (.iconst 3, 1) := by decide +kernel
theorem dX6_unlike_19 : decode cX6_unlike 19 = .ok (.invokestatic 48, 3) := by decide +kernel
theorem dX6_unlike_22 : decode cX6_unlike 22 = .ok (.ifCond .ne 6, 3) := by decide +kernel
theorem dX6_unlike_25 : decode cX6_unlike 25 = .ok (.ldc 111, 2) := by decide +kernel
theorem dX6_unlike_27 : decode cX6_unlike 27 = .ok (.ireturn, 1) := by decide +kernel
theorem dX6_unlike_28 : decode cX6_unlike 28 = .ok (.iload_n 3, 1) := by decide +kernel
theorem dX6_unlike_29 : decode cX6_unlike 29 = .ok (.tableswitch 67 0 2 #[27, 27, 52], 27) := by decide +kernel
theorem dX6_unlike_56 : decode cX6_unlike 56 = .ok (.aload_n 0, 1) := by decide +kernel
theorem dX6_unlike_57 : decode cX6_unlike 57 = .ok (.aload_n 0, 1) := by decide +kernel
theorem dX6_unlike_58 : decode cX6_unlike 58 = .ok (.iload_n 1, 1) := by decide +kernel
theorem dX6_unlike_59 : decode cX6_unlike 59 = .ok (.invokevirtual 44, 3) := by decide +kernel
theorem dX6_unlike_62 : decode cX6_unlike 62 = .ok (.aload_n 0, 1) := by decide +kernel
theorem dX6_unlike_63 : decode cX6_unlike 63 = .ok (.iload_n 2, 1) := by decide +kernel
theorem dX6_unlike_64 : decode cX6_unlike 64 = .ok (.invokevirtual 44, 3) := by decide +kernel
theorem dX6_unlike_67 : decode cX6_unlike 67 = .ok (.iload_n 3, 1) := by decide +kernel
theorem dX6_unlike_68 : decode cX6_unlike 68 = .ok (.iconst 1, 1) := by decide +kernel
theorem dX6_unlike_69 : decode cX6_unlike 69 = .ok (.if_icmp .ne 7, 3) := by decide +kernel
theorem dX6_unlike_72 : decode cX6_unlike 72 = .ok (.iconst 1, 1) := by decide +kernel
theorem dX6_unlike_73 : decode cX6_unlike 73 = .ok (.goto 4, 3) := by decide +kernel
theorem dX6_unlike_76 : decode cX6_unlike 76 = .ok (.iconst 0, 1) := by decide +kernel
theorem dX6_unlike_77 : decode cX6_unlike 77 = .ok (.invokevirtual 184, 3) := by decide +kernel
theorem dX6_unlike_80 : decode cX6_unlike 80 = .ok (.ireturn, 1) := by decide +kernel
theorem dX6_unlike_81 : decode cX6_unlike 81 = .ok (.aload_n 0, 1) := by decide +kernel
theorem dX6_unlike_82 : decode cX6_unlike 82 = .ok (.aload_n 0, 1) := by decide +kernel
theorem dX6_unlike_83 : decode cX6_unlike 83 = .ok (.iload_n 1, 1) := by decide +kernel
theorem dX6_unlike_84 : decode cX6_unlike 84 = .ok (.invokevirtual 44, 3) := by decide +kernel
theorem dX6_unlike_87 : decode cX6_unlike 87 = .ok (.aload_n 0, 1) := by decide +kernel
theorem dX6_unlike_88 : decode cX6_unlike 88 = .ok (.iload_n 2, 1) := by decide +kernel
theorem dX6_unlike_89 : decode cX6_unlike 89 = .ok (.invokevirtual 44, 3) := by decide +kernel
theorem dX6_unlike_92 : decode cX6_unlike 92 = .ok (.invokevirtual 165, 3) := by decide +kernel
theorem dX6_unlike_95 : decode cX6_unlike 95 = .ok (.ireturn, 1) := by decide +kernel
theorem dX6_unlike_96 : decode cX6_unlike 96 = .ok (.aload_n 0, 1) := by decide +kernel
theorem dX6_unlike_97 : decode cX6_unlike 97 = .ok (.iload_n 1, 1) := by decide +kernel
theorem dX6_unlike_98 : decode cX6_unlike 98 = .ok (.iload_n 2, 1) := by decide +kernel
theorem dX6_unlike_99 : decode cX6_unlike 99 = .ok (.invokevirtual 125, 3) := by decide +kernel
theorem dX6_unlike_102 : decode cX6_unlike 102 = .ok (.ireturn, 1) := by decide +kernel
set_option maxRecDepth 20000 in
theorem ggX6_like_X6_isState : GoodIn wsX6_like wsX6_isState := goodIn_r _ [8, 9, 10, 11, 7, 12, 2, 3, 13, 14, 15, 16, 29, 30, 31, 32, 33, 34, 35, 36, 37, 38, 39, 40, 41, 42, 43, 44] (by decide +kernel) (by decide +kernel)
set_option maxRecDepth 20000 in
theorem gX6_like_X6_isState : GoodIn wsX6_like (wsV RX6 119 RX6 yX6_isState wsX6_isState) := goodIn_app (goodIn_of _ (by decide +kernel)) ggX6_like_X6_isState
set_option maxRecDepth 20000 in
theorem ggX6_like_X6_of : GoodIn wsX6_like wsX6_of := goodIn_r _ [16, 2, 29, 30, 31, 32, 33, 34, 35, 36, 37, 38, 39, 40, 41, 42, 43, 44] (by decide +kernel) (by decide +kernel)
set_option maxRecDepth 20000 in
theorem gX6_like_X6_of : GoodIn wsX6_like (wsV RX6 39 RX6 yX6_of wsX6_of) := goodIn_app (goodIn_of _ (by decide +kernel)) ggX6_like_X6_of
set_option maxRecDepth 20000 in
theorem ggX6_like_X6_slot : GoodIn wsX6_like wsX6_slot := goodIn_r _ [12, 2, 3, 13, 14, 15, 7, 16, 29, 30, 31, 32, 33, 34, 35, 36, 37, 38, 39, 40, 41, 42, 43, 44] (by decide +kernel) (by decide +kernel)
set_option maxRecDepth 20000 in
theorem gX6_like_X6_slot : GoodIn wsX6_like (wsV RX6 44 RX6 yX6_slot wsX6_slot) := goodIn_app (goodIn_of _ (by decide +kernel)) ggX6_like_X6_slot
set_option maxRecDepth 20000 in
theorem ggX6_like_X6_unlikeCells : GoodIn wsX6_like wsX6_unlikeCells := goodIn_r _ [20, 3, 21, 22, 23, 7, 24, 13, 14, 15, 16, 2, 25, 26, 27, 28, 29, 30, 31, 32, 33, 34, 35, 36, 37, 38, 39, 40, 41, 42, 43, 44] (by decide +kernel) (by decide +kernel)
set_option maxRecDepth 20000 in
theorem gX6_like_X6_unlikeCells : GoodIn wsX6_like (wsV RX6 184 RX6 yX6_unlikeCells wsX6_unlikeCells) := goodIn_app (goodIn_of _ (by decide +kernel)) ggX6_like_X6_unlikeCells
theorem dX6_like_0 : decode cX6_like 0 = .ok (.aload_n 0, 1) := by decide +kernel
theorem dX6_like_1 : decode cX6_like 1 = .ok (.iload_n 1, 1) := by decide +kernel
theorem dX6_like_2 : decode cX6_like 2 = .ok (.invokevirtual 119, 3) := by decide +kernel
theorem dX6_like_5 : decode cX6_like 5 = .ok (.ifCond .ne 6, 3) := by decide +kernel
theorem dX6_like_8 : decode cX6_like 8 = .ok (.ldc 111, 2) := by decide +kernel
theorem dX6_like_10 : decode cX6_like 10 = .ok (.ireturn, 1) := by decide +kernel
theorem dX6_like_11 : decode cX6_like 11 = .ok (.iconst 0, 1) := by decide +kernel
theorem dX6_like_12 : decode cX6_like 12 = .ok (.istore_n 2, 1) := by decide +kernel
theorem dX6_like_13 : decode cX6_like 13 = .ok (.iload_n 2, 1) := by decide +kernel
theorem dX6_like_14 : decode cX6_like 14 = .ok (.aload_n 0, 1) := by decide +kernel
theorem dX6_like_15 : decode cX6_like 15 = .ok (.getfield 7, 3) := by decide +kernel
theorem dX6_like_18 : decode cX6_like 18 = .ok (.iconst 0, 1) := by decide +kernel
theorem dX6_like_19 : decode cX6_like 19 = .ok (.iaload, 1) := by decide +kernel
theorem dX6_like_20 : decode cX6_like 20 = .ok (.if_icmp .ge 40, 3) := by decide +kernel
theorem dX6_like_23 : decode cX6_like 23 = .ok (.aload_n 0, 1) := by decide +kernel
theorem dX6_like_24 : decode cX6_like 24 = .ok (.iload_n 2, 1) := by decide +kernel
theorem dX6_like_25 : decode cX6_like 25 = .ok (.iconst 0, 1) := by decide +kernel
theorem dX6_like_26 : decode cX6_like 26 = .ok (.invokevirtual 39, 3) := by decide +kernel
theorem dX6_like_29 : decode cX6_like 29 = .ok (.iload_n 1, 1) := by decide +kernel
theorem dX6_like_30 : decode cX6_like 30 = .ok (.if_icmp .eq 24, 3) := by decide +kernel
theorem dX6_like_33 : decode cX6_like 33 = .ok (.aload_n 0, 1) := by decide +kernel
theorem dX6_like_34 : decode cX6_like 34 = .ok (.iload_n 2, 1) := by decide +kernel
theorem dX6_like_35 : decode cX6_like 35 = .ok (.aload_n 0, 1) := by decide +kernel
theorem dX6_like_36 : decode cX6_like 36 = .ok (.iload_n 1, 1) := by decide +kernel
theorem dX6_like_37 : decode cX6_like 37 = .ok (.invokevirtual 44, 3) := by decide +kernel
theorem dX6_like_40 : decode cX6_like 40 = .ok (.iconst 0, 1) := by decide +kernel
theorem dX6_like_41 : decode cX6_like 41 = .ok (.invokevirtual 184, 3) := by decide +kernel
theorem dX6_like_44 : decode cX6_like 44 = .ok (.ifCond .ne 10, 3) := by decide +kernel
theorem dX6_like_47 : decode cX6_like 47 = .ok (.aload_n 0, 1) := by decide +kernel
theorem dX6_like_48 : decode cX6_like 48 = .ok (.iload_n 2, 1) := by decide +kernel
theorem dX6_like_49 : decode cX6_like 49 = .ok (.iconst 0, 1) := by decide +kernel
theorem dX6_like_50 : decode cX6_like 50 = .ok (.invokevirtual 39, 3) := by decide +kernel
theorem dX6_like_53 : decode cX6_like 53 = .ok (.ireturn, 1) := by decide +kernel
theorem dX6_like_54 : decode cX6_like 54 = .ok (.iinc 2 1, 3) := by decide +kernel
theorem dX6_like_57 : decode cX6_like 57 = .ok (.goto (-44), 3) := by decide +kernel
theorem dX6_like_60 : decode cX6_like 60 = .ok (.ldc 43, 2) := by decide +kernel
theorem dX6_like_62 : decode cX6_like 62 = .ok (.ireturn, 1) := by decide +kernel
set_option maxRecDepth 20000 in
theorem ggX6_before_X6_isState : GoodIn wsX6_before wsX6_isState := goodIn_r _ [7, 8, 9, 10, 6, 11, 12, 2, 13, 14, 15, 16, 28, 29, 30, 31, 32, 33, 34, 35, 36, 37, 38, 39, 40, 41, 42, 43] (by decide +kernel) (by decide +kernel)
set_option maxRecDepth 20000 in
theorem gX6_before_X6_isState : GoodIn wsX6_before (wsV RX6 119 RX6 yX6_isState wsX6_isState) := goodIn_app (goodIn_of _ (by decide +kernel)) ggX6_before_X6_isState
set_option maxRecDepth 20000 in
theorem ggX6_before_X6_in : GoodIn wsX6_before wsX6_in := goodIn_r _ [19] (by decide +kernel) (by decide +kernel)
set_option maxRecDepth 20000 in
theorem gX6_before_X6_in : GoodIn wsX6_before (va_wsS RX6 48 yX6_in wsX6_in) := goodIn_app (goodIn_of _ (by decide +kernel)) ggX6_before_X6_in
set_option maxRecDepth 20000 in
theorem ggX6_before_X6_slot : GoodIn wsX6_before wsX6_slot := goodIn_r _ [11, 12, 2, 13, 14, 15, 6, 16, 28, 29, 30, 31, 32, 33, 34, 35, 36, 37, 38, 39, 40, 41, 42, 43] (by decide +kernel) (by decide +kernel)
set_option maxRecDepth 20000 in
theorem gX6_before_X6_slot : GoodIn wsX6_before (wsV RX6 44 RX6 yX6_slot wsX6_slot) := goodIn_app (goodIn_of _ (by decide +kernel)) ggX6_before_X6_slot
set_option maxRecDepth 20000 in
theorem ggX6_before_X6_cellOf : GoodIn wsX6_before wsX6_cellOf := goodIn_r _ [23, 13, 14, 15, 6, 16, 12, 24, 25, 26, 27, 28, 29, 30, 31, 32, 33, 34, 35, 36, 37, 38, 39, 40, 41, 42, 43] (by decide +kernel) (by decide +kernel)
set_option maxRecDepth 20000 in
theorem gX6_before_X6_cellOf : GoodIn wsX6_before (wsV RX6 62 RX6 yX6_cellOf wsX6_cellOf) := goodIn_app (goodIn_of _ (by decide +kernel)) ggX6_before_X6_cellOf
set_option maxRecDepth 20000 in
theorem ggX6_before_X6_of : GoodIn wsX6_before wsX6_of := goodIn_r _ [16, 12, 28, 29, 30, 31, 32, 33, 34, 35, 36, 37, 38, 39, 40, 41, 42, 43] (by decide +kernel) (by decide +kernel)
set_option maxRecDepth 20000 in
theorem gX6_before_X6_of : GoodIn wsX6_before (wsV RX6 39 RX6 yX6_of wsX6_of) := goodIn_app (goodIn_of _ (by decide +kernel)) ggX6_before_X6_of
theorem dX6_before_0 : decode cX6_before 0 = .ok (.aload_n 0, 1) := by decide +kernel
theorem dX6_before_1 : decode cX6_before 1 = .ok (.iload_n 1, 1) := by decide +kernel
theorem dX6_before_2 : decode cX6_before 2 = .ok (.invokevirtual 119, 3) := by decide +kernel
theorem dX6_before_5 : decode cX6_before 5 = .ok (.ifCond .eq 13, 3) := by decide +kernel
theorem dX6_before_8 : decode cX6_before 8 = .ok (.iload_n 2, 1) := by decide +kernel
theorem dX6_before_9 : decode cX6_before 9 = .ok (.iconst 0, 1) := by decide +kernel
theorem dX6_before_10 : decode cX6_before 10 = .ok (.bipush 47, 2) := by decide +kernel
theorem dX6_before_12 : decode cX6_before 12 = .ok (.invokestatic 48, 3) := by decide +kernel
theorem dX6_before_15 : decode cX6_before 15 = .ok (.ifCond .ne 6, 3) := by decide +kernel
theorem dX6_before_18 : decode cX6_before 18 = .ok (.ldc 111, 2) := by decide +kernel
theorem dX6_before_20 : decode cX6_before 20 = .ok (.ireturn, 1) := by decide +kernel
theorem dX6_before_21 : decode cX6_before 21 = .ok (.aload_n 0, 1) := by decide +kernel
theorem dX6_before_22 : decode cX6_before 22 = .ok (.aload_n 0, 1) := by decide +kernel
theorem dX6_before_23 : decode cX6_before 23 = .ok (.iload_n 1, 1) := by decide +kernel
theorem dX6_before_24 : decode cX6_before 24 = .ok (.invokevirtual 44, 3) := by decide +kernel
theorem dX6_before_27 : decode cX6_before 27 = .ok (.iload_n 2, 1) := by decide +kernel
theorem dX6_before_28 : decode cX6_before 28 = .ok (.invokevirtual 62, 3) := by decide +kernel
theorem dX6_before_31 : decode cX6_before 31 = .ok (.istore_n 3, 1) := by decide +kernel
theorem dX6_before_32 : decode cX6_before 32 = .ok (.iload_n 1, 1) := by decide +kernel
theorem dX6_before_33 : decode cX6_before 33 = .ok (.istore 4, 2) := by decide +kernel
theorem dX6_before_35 : decode cX6_before 35 = .ok (.iload 4, 2) := by decide +kernel
theorem dX6_before_37 : decode cX6_before 37 = .ok (.ifCond .lt 34, 3) := by decide +kernel
theorem dX6_before_40 : decode cX6_before 40 = .ok (.aload_n 0, 1) := by decide +kernel
theorem dX6_before_41 : decode cX6_before 41 = .ok (.aload_n 0, 1) := by decide +kernel
theorem dX6_before_42 : decode cX6_before 42 = .ok (.iload 4, 2) := by decide +kernel
theorem dX6_before_44 : decode cX6_before 44 = .ok (.invokevirtual 44, 3) := by decide +kernel
theorem dX6_before_47 : decode cX6_before 47 = .ok (.iload_n 2, 1) := by decide +kernel
theorem dX6_before_48 : decode cX6_before 48 = .ok (.invokevirtual 62, 3) := by decide +kernel
theorem dX6_before_51 : decode cX6_before 51 = .ok (.iload_n 3, 1) := by decide +kernel
theorem dX6_before_52 : decode cX6_before 52 = .ok (.if_icmp .ne 19, 3) := by decide +kernel
theorem dX6_before_55 : decode cX6_before 55 = .ok (.aload_n 0, 1) := by decide +kernel
theorem dX6_before_56 : decode cX6_before 56 = .ok (.aload_n 0, 1) := by decide +kernel
theorem dX6_before_57 : decode cX6_before 57 = .ok (.iload 4, 2) := by decide +kernel
theorem dX6_before_59 : decode cX6_before 59 = .ok (.invokevirtual 44, 3) := by decide +kernel
theorem dX6_before_62 : decode cX6_before 62 = .ok (.iconst 1, 1) := by decide +kernel
theorem dX6_before_63 : decode cX6_before 63 = .ok (.invokevirtual 39, 3) := by decide +kernel
theorem dX6_before_66 : decode cX6_before 66 = .ok (.istore 4, 2) := by decide +kernel
theorem dX6_before_68 : decode cX6_before 68 = .ok (.goto (-33), 3) := by decide +kernel
theorem dX6_before_71 : decode cX6_before 71 = .ok (.iload 4, 2) := by decide +kernel
theorem dX6_before_73 : decode cX6_before 73 = .ok (.ifCond .ge 8, 3) := by decide +kernel
theorem dX6_before_76 : decode cX6_before 76 = .ok (.ldc 43, 2) := by decide +kernel
theorem dX6_before_78 : decode cX6_before 78 = .ok (.goto 5, 3) := by decide +kernel
theorem dX6_before_81 : decode cX6_before 81 = .ok (.iload 4, 2) := by decide +kernel
theorem dX6_before_83 : decode cX6_before 83 = .ok (.ireturn, 1) := by decide +kernel
set_option maxRecDepth 20000 in
theorem ggX6_conflicts_X6_isBranch : GoodIn wsX6_conflicts wsX6_isBranch := goodIn_r _ [6, 7, 8, 9, 5, 10, 45, 46, 47, 48, 49, 50, 51, 52, 53, 54, 55, 56, 57, 58, 59, 60] (by decide +kernel) (by decide +kernel)
set_option maxRecDepth 20000 in
theorem gX6_conflicts_X6_isBranch : GoodIn wsX6_conflicts (wsV RX6 105 RX6 yX6_isBranch wsX6_isBranch) := goodIn_app (goodIn_of _ (by decide +kernel)) ggX6_conflicts_X6_isBranch
set_option maxRecDepth 20000 in
theorem ggX6_conflicts_X6_isState : GoodIn wsX6_conflicts wsX6_isState := goodIn_r _ [14, 15, 16, 17, 5, 18, 7, 19, 20, 21, 22, 23, 45, 46, 47, 48, 49, 50, 51, 52, 53, 54, 55, 56, 57, 58, 59, 60] (by decide +kernel) (by decide +kernel)
set_option maxRecDepth 20000 in
theorem gX6_conflicts_X6_isState : GoodIn wsX6_conflicts (wsV RX6 119 RX6 yX6_isState wsX6_isState) := goodIn_app (goodIn_of _ (by decide +kernel)) ggX6_conflicts_X6_isState
set_option maxRecDepth 20000 in
theorem ggX6_conflicts_X6_merges : GoodIn wsX6_conflicts wsX6_merges := goodIn_r _ [27, 7, 28, 15, 16, 17, 5, 18, 19, 20, 21, 22, 23, 29, 30, 31, 32, 33, 34, 35, 36, 37, 38, 39, 40, 41, 42, 43, 44, 45, 46, 47, 48, 49, 50, 51, 52, 53, 54, 55, 56, 57, 58, 59, 60] (by decide +kernel) (by decide +kernel)
set_option maxRecDepth 20000 in
theorem gX6_conflicts_X6_merges : GoodIn wsX6_conflicts (wsV RX6 128 RX6 yX6_merges wsX6_merges) := goodIn_app (goodIn_of _ (by decide +kernel)) ggX6_conflicts_X6_merges
theorem dX6_conflicts_0 : decode cX6_conflicts 0 = .ok (.aload_n 0, 1) := by decide +kernel
theorem dX6_conflicts_1 : decode cX6_conflicts 1 = .ok (.iload_n 1, 1) := by decide +kernel
theorem dX6_conflicts_2 : decode cX6_conflicts 2 = .ok (.invokevirtual 105, 3) := by decide +kernel
theorem dX6_conflicts_5 : decode cX6_conflicts 5 = .ok (.ifCond .eq 20, 3) := by decide +kernel
theorem dX6_conflicts_8 : decode cX6_conflicts 8 = .ok (.aload_n 0, 1) := by decide +kernel
theorem dX6_conflicts_9 : decode cX6_conflicts 9 = .ok (.iload_n 2, 1) := by decide +kernel
theorem dX6_conflicts_10 : decode cX6_conflicts 10 = .ok (.invokevirtual 119, 3) := by decide +kernel
theorem dX6_conflicts_13 : decode cX6_conflicts 13 = .ok (.ifCond .eq 12, 3) := by decide +kernel
theorem dX6_conflicts_16 : decode cX6_conflicts 16 = .ok (.aload_n 0, 1) := by decide +kernel
theorem dX6_conflicts_17 : decode cX6_conflicts 17 = .ok (.iload_n 1, 1) := by decide +kernel
theorem dX6_conflicts_18 : decode cX6_conflicts 18 = .ok (.iload_n 2, 1) := by decide +kernel
theorem dX6_conflicts_19 : decode cX6_conflicts 19 = .ok (.invokevirtual 128, 3) := by decide +kernel
theorem dX6_conflicts_22 : decode cX6_conflicts 22 = .ok (.goto 5, 3) := by decide +kernel
theorem dX6_conflicts_25 : decode cX6_conflicts 25 = .ok (.ldc 111, 2) := by decide +kernel
theorem dX6_conflicts_27 : decode cX6_conflicts 27 = .ok (.ireturn, 1) := by decide +kernel
set_option maxRecDepth 20000 in
theorem ggX6_freed_X6_copies : GoodIn wsX6_freed wsX6_copies := goodIn_r _ [6] (by decide +kernel) (by decide +kernel)
set_option maxRecDepth 20000 in
theorem gX6_freed_X6_copies : GoodIn wsX6_freed (va_wsS RX6 188 yX6_copies wsX6_copies) := goodIn_app (goodIn_of _ (by decide +kernel)) ggX6_freed_X6_copies
set_option maxRecDepth 20000 in
theorem ggX6_freed_X6_forgets : GoodIn wsX6_freed wsX6_forgets := goodIn_r _ [10, 1, 11, 12, 13, 5, 14, 15, 16, 17, 18, 19, 20, 21, 22, 23, 24, 25, 26, 27, 28, 29, 30, 31, 32, 33, 34, 35, 36, 37, 38, 39, 40, 41, 42, 43] (by decide +kernel) (by decide +kernel)
set_option maxRecDepth 20000 in
theorem gX6_freed_X6_forgets : GoodIn wsX6_freed (wsV RX6 141 RX6 yX6_forgets wsX6_forgets) := goodIn_app (goodIn_of _ (by decide +kernel)) ggX6_freed_X6_forgets
theorem dX6_freed_0 : decode cX6_freed 0 = .ok (.aload_n 0, 1) := by decide +kernel
theorem dX6_freed_1 : decode cX6_freed 1 = .ok (.getfield 7, 3) := by decide +kernel
theorem dX6_freed_4 : decode cX6_freed 4 = .ok (.aload_n 0, 1) := by decide +kernel
theorem dX6_freed_5 : decode cX6_freed 5 = .ok (.getfield 16, 3) := by decide +kernel
theorem dX6_freed_8 : decode cX6_freed 8 = .ok (.invokestatic 188, 3) := by decide +kernel
theorem dX6_freed_11 : decode cX6_freed 11 = .ok (.aload_n 0, 1) := by decide +kernel
theorem dX6_freed_12 : decode cX6_freed 12 = .ok (.iload_n 1, 1) := by decide +kernel
theorem dX6_freed_13 : decode cX6_freed 13 = .ok (.invokevirtual 141, 3) := by decide +kernel
theorem dX6_freed_16 : decode cX6_freed 16 = .ok (.istore_n 2, 1) := by decide +kernel
theorem dX6_freed_17 : decode cX6_freed 17 = .ok (.aload_n 0, 1) := by decide +kernel
theorem dX6_freed_18 : decode cX6_freed 18 = .ok (.getfield 16, 3) := by decide +kernel
theorem dX6_freed_21 : decode cX6_freed 21 = .ok (.aload_n 0, 1) := by decide +kernel
theorem dX6_freed_22 : decode cX6_freed 22 = .ok (.getfield 7, 3) := by decide +kernel
theorem dX6_freed_25 : decode cX6_freed 25 = .ok (.invokestatic 188, 3) := by decide +kernel
theorem dX6_freed_28 : decode cX6_freed 28 = .ok (.iload_n 2, 1) := by decide +kernel
theorem dX6_freed_29 : decode cX6_freed 29 = .ok (.ireturn, 1) := by decide +kernel
set_option maxRecDepth 20000 in
theorem ggX6_frees_X6_isState : GoodIn wsX6_frees wsX6_isState := goodIn_r _ [7, 8, 9, 10, 6, 11, 12, 13, 14, 15, 16, 17, 42, 43, 44, 45, 46, 47, 48, 49, 50, 51, 52, 53, 54, 55, 56, 57] (by decide +kernel) (by decide +kernel)
set_option maxRecDepth 20000 in
theorem gX6_frees_X6_isState : GoodIn wsX6_frees (wsV RX6 119 RX6 yX6_isState wsX6_isState) := goodIn_app (goodIn_of _ (by decide +kernel)) ggX6_frees_X6_isState
set_option maxRecDepth 20000 in
theorem ggX6_frees_X6_canForget : GoodIn wsX6_frees wsX6_canForget := goodIn_r _ [21, 12, 42, 43, 44, 45, 46, 47, 48, 49, 50, 51, 52, 53, 54, 55, 56, 57] (by decide +kernel) (by decide +kernel)
set_option maxRecDepth 20000 in
theorem gX6_frees_X6_canForget : GoodIn wsX6_frees (wsV RX6 138 RX6 yX6_canForget wsX6_canForget) := goodIn_app (goodIn_of _ (by decide +kernel)) ggX6_frees_X6_canForget
set_option maxRecDepth 20000 in
theorem ggX6_frees_X6_freed : GoodIn wsX6_frees wsX6_freed := goodIn_r _ [25, 12, 26, 27, 28, 6, 29, 30, 31, 32, 33, 8, 9, 10, 11, 13, 14, 15, 16, 17, 34, 35, 36, 37, 38, 39, 40, 41, 42, 43, 44, 45, 46, 47, 48, 49, 50, 51, 52, 53, 54, 55, 56, 57] (by decide +kernel) (by decide +kernel)
set_option maxRecDepth 20000 in
theorem gX6_frees_X6_freed : GoodIn wsX6_frees (wsV RX6 192 RX6 yX6_freed wsX6_freed) := goodIn_app (goodIn_of _ (by decide +kernel)) ggX6_frees_X6_freed
theorem dX6_frees_0 : decode cX6_frees 0 = .ok (.aload_n 0, 1) := by decide +kernel
theorem dX6_frees_1 : decode cX6_frees 1 = .ok (.iload_n 1, 1) := by decide +kernel
theorem dX6_frees_2 : decode cX6_frees 2 = .ok (.invokevirtual 119, 3) := by decide +kernel
theorem dX6_frees_5 : decode cX6_frees 5 = .ok (.ifCond .ne 8, 3) := by decide +kernel
theorem dX6_frees_8 : decode cX6_frees 8 = .ok (.ldc 111, 2) := by decide +kernel
theorem dX6_frees_10 : decode cX6_frees 10 = .ok (.goto 21, 3) := by decide +kernel
theorem dX6_frees_13 : decode cX6_frees 13 = .ok (.aload_n 0, 1) := by decide +kernel
theorem dX6_frees_14 : decode cX6_frees 14 = .ok (.iload_n 1, 1) := by decide +kernel
theorem dX6_frees_15 : decode cX6_frees 15 = .ok (.invokevirtual 138, 3) := by decide +kernel
theorem dX6_frees_18 : decode cX6_frees 18 = .ok (.ifCond .eq 11, 3) := by decide +kernel
theorem dX6_frees_21 : decode cX6_frees 21 = .ok (.aload_n 0, 1) := by decide +kernel
theorem dX6_frees_22 : decode cX6_frees 22 = .ok (.iload_n 1, 1) := by decide +kernel
theorem dX6_frees_23 : decode cX6_frees 23 = .ok (.invokevirtual 192, 3) := by decide +kernel
theorem dX6_frees_26 : decode cX6_frees 26 = .ok (.goto 5, 3) := by decide +kernel
theorem dX6_frees_29 : decode cX6_frees 29 = .ok (.ldc 134, 2) := by decide +kernel
theorem dX6_frees_31 : decode cX6_frees 31 = .ok (.ireturn, 1) := by decide +kernel
set_option maxRecDepth 20000 in
theorem ggX6_heaviest_X6_in : GoodIn wsX6_heaviest wsX6_in := goodIn_r _ [7] (by decide +kernel) (by decide +kernel)
set_option maxRecDepth 20000 in
theorem gX6_heaviest_X6_in : GoodIn wsX6_heaviest (va_wsS RX6 48 yX6_in wsX6_in) := goodIn_app (goodIn_of _ (by decide +kernel)) ggX6_heaviest_X6_in
set_option maxRecDepth 20000 in
theorem ggX6_heaviest_X6_of : GoodIn wsX6_heaviest wsX6_of := goodIn_r _ [11, 3, 40, 41, 42, 43, 44, 45, 46, 47, 48, 49, 50, 51, 52, 53, 54, 55] (by decide +kernel) (by decide +kernel)
set_option maxRecDepth 20000 in
theorem gX6_heaviest_X6_of : GoodIn wsX6_heaviest (wsV RX6 39 RX6 yX6_of wsX6_of) := goodIn_app (goodIn_of _ (by decide +kernel)) ggX6_heaviest_X6_of
set_option maxRecDepth 20000 in
theorem ggX6_heaviest_X6_canForget : GoodIn wsX6_heaviest wsX6_canForget := goodIn_r _ [15, 3, 40, 41, 42, 43, 44, 45, 46, 47, 48, 49, 50, 51, 52, 53, 54, 55] (by decide +kernel) (by decide +kernel)
set_option maxRecDepth 20000 in
theorem gX6_heaviest_X6_canForget : GoodIn wsX6_heaviest (wsV RX6 138 RX6 yX6_canForget wsX6_canForget) := goodIn_app (goodIn_of _ (by decide +kernel)) ggX6_heaviest_X6_canForget
set_option maxRecDepth 20000 in
theorem ggX6_heaviest_X6_freed : GoodIn wsX6_heaviest wsX6_freed := goodIn_r _ [19, 3, 20, 21, 22, 6, 23, 24, 25, 26, 27, 28, 29, 30, 31, 2, 8, 9, 10, 11, 32, 33, 34, 35, 36, 37, 38, 39, 40, 41, 42, 43, 44, 45, 46, 47, 48, 49, 50, 51, 52, 53, 54, 55] (by decide +kernel) (by decide +kernel)
set_option maxRecDepth 20000 in
theorem gX6_heaviest_X6_freed : GoodIn wsX6_heaviest (wsV RX6 192 RX6 yX6_freed wsX6_freed) := goodIn_app (goodIn_of _ (by decide +kernel)) ggX6_heaviest_X6_freed
theorem dX6_heaviest_0 : decode cX6_heaviest 0 = .ok (.iload_n 1, 1) := by decide +kernel
theorem dX6_heaviest_1 : decode cX6_heaviest 1 = .ok (.iconst 0, 1) := by decide +kernel
theorem dX6_heaviest_2 : decode cX6_heaviest 2 = .ok (.iconst 1, 1) := by decide +kernel
theorem dX6_heaviest_3 : decode cX6_heaviest 3 = .ok (.invokestatic 48, 3) := by decide +kernel
theorem dX6_heaviest_6 : decode cX6_heaviest 6 = .ok (.ifCond .ne 6, 3) := by decide +kernel
theorem dX6_heaviest_9 : decode cX6_heaviest 9 = .ok (.ldc 111, 2) := by decide +kernel
theorem dX6_heaviest_11 : decode cX6_heaviest 11 = .ok (.ireturn, 1) := by decide +kernel
theorem dX6_heaviest_12 : decode cX6_heaviest 12 = .ok (.ldc 43, 2) := by decide +kernel
theorem dX6_heaviest_14 : decode cX6_heaviest 14 = .ok (.istore_n 2, 1) := by decide +kernel
theorem dX6_heaviest_15 : decode cX6_heaviest 15 = .ok (.iconst (-1), 1) := by decide +kernel
theorem dX6_heaviest_16 : decode cX6_heaviest 16 = .ok (.istore_n 3, 1) := by decide +kernel
theorem dX6_heaviest_17 : decode cX6_heaviest 17 = .ok (.iconst 0, 1) := by decide +kernel
theorem dX6_heaviest_18 : decode cX6_heaviest 18 = .ok (.istore 4, 2) := by decide +kernel
theorem dX6_heaviest_20 : decode cX6_heaviest 20 = .ok (.iload 4, 2) := by decide +kernel
theorem dX6_heaviest_22 : decode cX6_heaviest 22 = .ok (.aload_n 0, 1) := by decide +kernel
theorem dX6_heaviest_23 : decode cX6_heaviest 23 = .ok (.getfield 7, 3) := by decide +kernel
theorem dX6_heaviest_26 : decode cX6_heaviest 26 = .ok (.iconst 0, 1) := by decide +kernel
theorem dX6_heaviest_27 : decode cX6_heaviest 27 = .ok (.iaload, 1) := by decide +kernel
theorem dX6_heaviest_28 : decode cX6_heaviest 28 = .ok (.if_icmp .ge 65, 3) := by decide +kernel
theorem dX6_heaviest_31 : decode cX6_heaviest 31 = .ok (.aload_n 0, 1) := by decide +kernel
theorem dX6_heaviest_32 : decode cX6_heaviest 32 = .ok (.iload 4, 2) := by decide +kernel
theorem dX6_heaviest_34 : decode cX6_heaviest 34 = .ok (.iconst 0, 1) := by decide +kernel
theorem dX6_heaviest_35 : decode cX6_heaviest 35 = .ok (.invokevirtual 39, 3) := by decide +kernel
theorem dX6_heaviest_38 : decode cX6_heaviest 38 = .ok (.istore 5, 2) := by decide +kernel
theorem dX6_heaviest_40 : decode cX6_heaviest 40 = .ok (.aload_n 0, 1) := by decide +kernel
theorem dX6_heaviest_41 : decode cX6_heaviest 41 = .ok (.iload 5, 2) := by decide +kernel
theorem dX6_heaviest_43 : decode cX6_heaviest 43 = .ok (.invokevirtual 138, 3) := by decide +kernel
theorem dX6_heaviest_46 : decode cX6_heaviest 46 = .ok (.ifCond .eq 12, 3) := by decide +kernel
theorem dX6_heaviest_49 : decode cX6_heaviest 49 = .ok (.aload_n 0, 1) := by decide +kernel
theorem dX6_heaviest_50 : decode cX6_heaviest 50 = .ok (.iload 5, 2) := by decide +kernel
theorem dX6_heaviest_52 : decode cX6_heaviest 52 = .ok (.invokevirtual 192, 3) := by decide +kernel
theorem dX6_heaviest_55 : decode cX6_heaviest 55 = .ok (.goto 4, 3) := by decide +kernel
theorem dX6_heaviest_58 : decode cX6_heaviest 58 = .ok (.iconst (-1), 1) := by decide +kernel
theorem dX6_heaviest_59 : decode cX6_heaviest 59 = .ok (.istore 6, 2) := by decide +kernel
theorem dX6_heaviest_61 : decode cX6_heaviest 61 = .ok (.iload 6, 2) := by decide +kernel
theorem dX6_heaviest_63 : decode cX6_heaviest 63 = .ok (.iload_n 3, 1) := by decide +kernel
theorem dX6_heaviest_64 : decode cX6_heaviest 64 = .ok (.if_icmp .le 8, 3) := by decide +kernel
theorem dX6_heaviest_67 : decode cX6_heaviest 67 = .ok (.iload 5, 2) := by decide +kernel
theorem dX6_heaviest_69 : decode cX6_heaviest 69 = .ok (.goto 4, 3) := by decide +kernel
theorem dX6_heaviest_72 : decode cX6_heaviest 72 = .ok (.iload_n 2, 1) := by decide +kernel
theorem dX6_heaviest_73 : decode cX6_heaviest 73 = .ok (.istore_n 2, 1) := by decide +kernel
theorem dX6_heaviest_74 : decode cX6_heaviest 74 = .ok (.iload 6, 2) := by decide +kernel
theorem dX6_heaviest_76 : decode cX6_heaviest 76 = .ok (.iload_n 3, 1) := by decide +kernel
theorem dX6_heaviest_77 : decode cX6_heaviest 77 = .ok (.if_icmp .le 8, 3) := by decide +kernel
theorem dX6_heaviest_80 : decode cX6_heaviest 80 = .ok (.iload 6, 2) := by decide +kernel
theorem dX6_heaviest_82 : decode cX6_heaviest 82 = .ok (.goto 4, 3) := by decide +kernel
theorem dX6_heaviest_85 : decode cX6_heaviest 85 = .ok (.iload_n 3, 1) := by decide +kernel
theorem dX6_heaviest_86 : decode cX6_heaviest 86 = .ok (.istore_n 3, 1) := by decide +kernel
theorem dX6_heaviest_87 : decode cX6_heaviest 87 = .ok (.iinc 4 1, 3) := by decide +kernel
theorem dX6_heaviest_90 : decode cX6_heaviest 90 = .ok (.goto (-70), 3) := by decide +kernel
theorem dX6_heaviest_93 : decode cX6_heaviest 93 = .ok (.iload_n 2, 1) := by decide +kernel
theorem dX6_heaviest_94 : decode cX6_heaviest 94 = .ok (.ifCond .lt 7, 3) := by decide +kernel
theorem dX6_heaviest_97 : decode cX6_heaviest 97 = .ok (.iload_n 1, 1) := by decide +kernel
theorem dX6_heaviest_98 : decode cX6_heaviest 98 = .ok (.ifCond .ne 7, 3) := by decide +kernel
theorem dX6_heaviest_101 : decode cX6_heaviest 101 = .ok (.iload_n 2, 1) := by decide +kernel
theorem dX6_heaviest_102 : decode cX6_heaviest 102 = .ok (.goto 4, 3) := by decide +kernel
theorem dX6_heaviest_105 : decode cX6_heaviest 105 = .ok (.iload_n 3, 1) := by decide +kernel
theorem dX6_heaviest_106 : decode cX6_heaviest 106 = .ok (.ireturn, 1) := by decide +kernel
set_option maxRecDepth 20000 in
theorem ggX6_shareable_X6_isBlock : GoodIn wsX6_shareable wsX6_isBlock := goodIn_r _ [5, 6, 7, 8, 4, 9, 22, 23, 24, 25, 26, 27, 28, 29, 30, 31, 32, 33, 34, 35, 36, 37] (by decide +kernel) (by decide +kernel)
set_option maxRecDepth 20000 in
theorem gX6_shareable_X6_isBlock : GoodIn wsX6_shareable (wsV RX6 65 RX6 yX6_isBlock wsX6_isBlock) := goodIn_app (goodIn_of _ (by decide +kernel)) ggX6_shareable_X6_isBlock
set_option maxRecDepth 20000 in
theorem ggX6_shareable_X6_lowestLike : GoodIn wsX6_shareable wsX6_lowestLike := goodIn_r _ [13, 1, 2, 3, 4, 5, 6, 7, 8, 9, 14, 15, 16, 17, 18, 19, 20, 21, 22, 23, 24, 25, 26, 27, 28, 29, 30, 31, 32, 33, 34, 35, 36, 37] (by decide +kernel) (by decide +kernel)
set_option maxRecDepth 20000 in
theorem gX6_shareable_X6_lowestLike : GoodIn wsX6_shareable (wsV RX6 147 RX6 yX6_lowestLike wsX6_lowestLike) := goodIn_app (goodIn_of _ (by decide +kernel)) ggX6_shareable_X6_lowestLike
theorem dX6_shareable_0 : decode cX6_shareable 0 = .ok (.iconst 0, 1) := by decide +kernel
theorem dX6_shareable_1 : decode cX6_shareable 1 = .ok (.istore_n 1, 1) := by decide +kernel
theorem dX6_shareable_2 : decode cX6_shareable 2 = .ok (.iconst 0, 1) := by decide +kernel
theorem dX6_shareable_3 : decode cX6_shareable 3 = .ok (.istore_n 2, 1) := by decide +kernel
theorem dX6_shareable_4 : decode cX6_shareable 4 = .ok (.iload_n 2, 1) := by decide +kernel
theorem dX6_shareable_5 : decode cX6_shareable 5 = .ok (.bipush 40, 2) := by decide +kernel
theorem dX6_shareable_7 : decode cX6_shareable 7 = .ok (.if_icmp .ge 34, 3) := by decide +kernel
theorem dX6_shareable_10 : decode cX6_shareable 10 = .ok (.iload_n 1, 1) := by decide +kernel
theorem dX6_shareable_11 : decode cX6_shareable 11 = .ok (.aload_n 0, 1) := by decide +kernel
theorem dX6_shareable_12 : decode cX6_shareable 12 = .ok (.iload_n 2, 1) := by decide +kernel
theorem dX6_shareable_13 : decode cX6_shareable 13 = .ok (.invokevirtual 65, 3) := by decide +kernel
theorem dX6_shareable_16 : decode cX6_shareable 16 = .ok (.ifCond .eq 16, 3) := by decide +kernel
theorem dX6_shareable_19 : decode cX6_shareable 19 = .ok (.aload_n 0, 1) := by decide +kernel
theorem dX6_shareable_20 : decode cX6_shareable 20 = .ok (.iload_n 2, 1) := by decide +kernel
theorem dX6_shareable_21 : decode cX6_shareable 21 = .ok (.invokevirtual 147, 3) := by decide +kernel
theorem dX6_shareable_24 : decode cX6_shareable 24 = .ok (.iload_n 2, 1) := by decide +kernel
theorem dX6_shareable_25 : decode cX6_shareable 25 = .ok (.if_icmp .ge 7, 3) := by decide +kernel
theorem dX6_shareable_28 : decode cX6_shareable 28 = .ok (.iconst 1, 1) := by decide +kernel
theorem dX6_shareable_29 : decode cX6_shareable 29 = .ok (.goto 4, 3) := by decide +kernel
theorem dX6_shareable_32 : decode cX6_shareable 32 = .ok (.iconst 0, 1) := by decide +kernel
theorem dX6_shareable_33 : decode cX6_shareable 33 = .ok (.iadd, 1) := by decide +kernel
theorem dX6_shareable_34 : decode cX6_shareable 34 = .ok (.istore_n 1, 1) := by decide +kernel
theorem dX6_shareable_35 : decode cX6_shareable 35 = .ok (.iinc 2 1, 3) := by decide +kernel
theorem dX6_shareable_38 : decode cX6_shareable 38 = .ok (.goto (-34), 3) := by decide +kernel
theorem dX6_shareable_41 : decode cX6_shareable 41 = .ok (.iload_n 1, 1) := by decide +kernel
theorem dX6_shareable_42 : decode cX6_shareable 42 = .ok (.ireturn, 1) := by decide +kernel
set_option maxRecDepth 20000 in
theorem ggX6_count_X6_branches : GoodIn wsX6_count wsX6_branches := goodIn_r _ [9, 1, 37, 38, 39, 40, 41, 42, 43, 44, 45, 46, 47, 48, 49, 50, 51, 52] (by decide +kernel) (by decide +kernel)
set_option maxRecDepth 20000 in
theorem gX6_count_X6_branches : GoodIn wsX6_count (wsV RX6 131 RX6 yX6_branches wsX6_branches) := goodIn_app (goodIn_of _ (by decide +kernel)) ggX6_count_X6_branches
set_option maxRecDepth 20000 in
theorem ggX6_count_X6_blocks : GoodIn wsX6_count wsX6_blocks := goodIn_r _ [13, 1, 37, 38, 39, 40, 41, 42, 43, 44, 45, 46, 47, 48, 49, 50, 51, 52] (by decide +kernel) (by decide +kernel)
set_option maxRecDepth 20000 in
theorem gX6_count_X6_blocks : GoodIn wsX6_count (wsV RX6 78 RX6 yX6_blocks wsX6_blocks) := goodIn_app (goodIn_of _ (by decide +kernel)) ggX6_count_X6_blocks
set_option maxRecDepth 20000 in
theorem ggX6_count_X6_shareable : GoodIn wsX6_count wsX6_shareable := goodIn_r _ [17, 18, 19, 20, 8, 21, 1, 22, 23, 24, 25, 26, 27, 28, 29, 30, 31, 32, 33, 34, 35, 36, 37, 38, 39, 40, 41, 42, 43, 44, 45, 46, 47, 48, 49, 50, 51, 52] (by decide +kernel) (by decide +kernel)
set_option maxRecDepth 20000 in
theorem gX6_count_X6_shareable : GoodIn wsX6_count (wsV RX6 195 RX6 yX6_shareable wsX6_shareable) := goodIn_app (goodIn_of _ (by decide +kernel)) ggX6_count_X6_shareable
theorem dX6_count_0 : decode cX6_count 0 = .ok (.iload_n 1, 1) := by decide +kernel
theorem dX6_count_1 : decode cX6_count 1 = .ok (.tableswitch 159 0 20 #[99, 106, 111, 116, 126, 131, 131, 131, 131, 142, 147, 159, 159, 159, 159, 159, 159, 159, 159, 159, 152], 99) := by decide +kernel
theorem dX6_count_100 : decode cX6_count 100 = .ok (.aload_n 0, 1) := by decide +kernel
theorem dX6_count_101 : decode cX6_count 101 = .ok (.getfield 7, 3) := by decide +kernel
theorem dX6_count_104 : decode cX6_count 104 = .ok (.iconst 0, 1) := by decide +kernel
theorem dX6_count_105 : decode cX6_count 105 = .ok (.iaload, 1) := by decide +kernel
theorem dX6_count_106 : decode cX6_count 106 = .ok (.ireturn, 1) := by decide +kernel
theorem dX6_count_107 : decode cX6_count 107 = .ok (.aload_n 0, 1) := by decide +kernel
theorem dX6_count_108 : decode cX6_count 108 = .ok (.invokevirtual 131, 3) := by decide +kernel
theorem dX6_count_111 : decode cX6_count 111 = .ok (.ireturn, 1) := by decide +kernel
theorem dX6_count_112 : decode cX6_count 112 = .ok (.aload_n 0, 1) := by decide +kernel
theorem dX6_count_113 : decode cX6_count 113 = .ok (.invokevirtual 78, 3) := by decide +kernel
theorem dX6_count_116 : decode cX6_count 116 = .ok (.ireturn, 1) := by decide +kernel
theorem dX6_count_117 : decode cX6_count 117 = .ok (.bipush 6, 2) := by decide +kernel
theorem dX6_count_119 : decode cX6_count 119 = .ok (.aload_n 0, 1) := by decide +kernel
theorem dX6_count_120 : decode cX6_count 120 = .ok (.getfield 7, 3) := by decide +kernel
theorem dX6_count_123 : decode cX6_count 123 = .ok (.iconst 0, 1) := by decide +kernel
theorem dX6_count_124 : decode cX6_count 124 = .ok (.iaload, 1) := by decide +kernel
theorem dX6_count_125 : decode cX6_count 125 = .ok (.imul, 1) := by decide +kernel
theorem dX6_count_126 : decode cX6_count 126 = .ok (.ireturn, 1) := by decide +kernel
theorem dX6_count_127 : decode cX6_count 127 = .ok (.aload_n 0, 1) := by decide +kernel
theorem dX6_count_128 : decode cX6_count 128 = .ok (.invokevirtual 195, 3) := by decide +kernel
theorem dX6_count_131 : decode cX6_count 131 = .ok (.ireturn, 1) := by decide +kernel
theorem dX6_count_132 : decode cX6_count 132 = .ok (.aload_n 0, 1) := by decide +kernel
theorem dX6_count_133 : decode cX6_count 133 = .ok (.getfield 7, 3) := by decide +kernel
theorem dX6_count_136 : decode cX6_count 136 = .ok (.iconst 1, 1) := by decide +kernel
theorem dX6_count_137 : decode cX6_count 137 = .ok (.iload_n 1, 1) := by decide +kernel
theorem dX6_count_138 : decode cX6_count 138 = .ok (.iadd, 1) := by decide +kernel
theorem dX6_count_139 : decode cX6_count 139 = .ok (.iconst 5, 1) := by decide +kernel
theorem dX6_count_140 : decode cX6_count 140 = .ok (.isub, 1) := by decide +kernel
theorem dX6_count_141 : decode cX6_count 141 = .ok (.iaload, 1) := by decide +kernel
theorem dX6_count_142 : decode cX6_count 142 = .ok (.ireturn, 1) := by decide +kernel
theorem dX6_count_143 : decode cX6_count 143 = .ok (.aload_n 0, 1) := by decide +kernel
theorem dX6_count_144 : decode cX6_count 144 = .ok (.getfield 35, 3) := by decide +kernel
theorem dX6_count_147 : decode cX6_count 147 = .ok (.ireturn, 1) := by decide +kernel
theorem dX6_count_148 : decode cX6_count 148 = .ok (.aload_n 0, 1) := by decide +kernel
theorem dX6_count_149 : decode cX6_count 149 = .ok (.getfield 198, 3) := by decide +kernel
theorem dX6_count_152 : decode cX6_count 152 = .ok (.ireturn, 1) := by decide +kernel
theorem dX6_count_153 : decode cX6_count 153 = .ok (.aload_n 0, 1) := by decide +kernel
theorem dX6_count_154 : decode cX6_count 154 = .ok (.getfield 7, 3) := by decide +kernel
theorem dX6_count_157 : decode cX6_count 157 = .ok (.iconst 5, 1) := by decide +kernel
theorem dX6_count_158 : decode cX6_count 158 = .ok (.iaload, 1) := by decide +kernel
theorem dX6_count_159 : decode cX6_count 159 = .ok (.ireturn, 1) := by decide +kernel
theorem dX6_count_160 : decode cX6_count 160 = .ok (.ldc 111, 2) := by decide +kernel
theorem dX6_count_162 : decode cX6_count 162 = .ok (.ireturn, 1) := by decide +kernel
theorem dX6_undo_0 : decode cX6_undo 0 = .ok (.aload_n 0, 1) := by decide +kernel
theorem dX6_undo_1 : decode cX6_undo 1 = .ok (.getfield 35, 3) := by decide +kernel
theorem dX6_undo_4 : decode cX6_undo 4 = .ok (.ifCond .ne 6, 3) := by decide +kernel
theorem dX6_undo_7 : decode cX6_undo 7 = .ok (.ldc 134, 2) := by decide +kernel
theorem dX6_undo_9 : decode cX6_undo 9 = .ok (.ireturn, 1) := by decide +kernel
theorem dX6_undo_10 : decode cX6_undo 10 = .ok (.aload_n 0, 1) := by decide +kernel
theorem dX6_undo_11 : decode cX6_undo 11 = .ok (.dup, 1) := by decide +kernel
theorem dX6_undo_12 : decode cX6_undo 12 = .ok (.getfield 35, 3) := by decide +kernel
theorem dX6_undo_15 : decode cX6_undo 15 = .ok (.iconst 1, 1) := by decide +kernel
theorem dX6_undo_16 : decode cX6_undo 16 = .ok (.isub, 1) := by decide +kernel
theorem dX6_undo_17 : decode cX6_undo 17 = .ok (.putfield 35, 3) := by decide +kernel
theorem dX6_undo_20 : decode cX6_undo 20 = .ok (.iconst 0, 1) := by decide +kernel
theorem dX6_undo_21 : decode cX6_undo 21 = .ok (.istore_n 1, 1) := by decide +kernel
theorem dX6_undo_22 : decode cX6_undo 22 = .ok (.iload_n 1, 1) := by decide +kernel
theorem dX6_undo_23 : decode cX6_undo 23 = .ok (.sipush 498, 3) := by decide +kernel
theorem dX6_undo_26 : decode cX6_undo 26 = .ok (.if_icmp .ge 30, 3) := by decide +kernel
theorem dX6_undo_29 : decode cX6_undo 29 = .ok (.aload_n 0, 1) := by decide +kernel
theorem dX6_undo_30 : decode cX6_undo 30 = .ok (.getfield 7, 3) := by decide +kernel
theorem dX6_undo_33 : decode cX6_undo 33 = .ok (.iload_n 1, 1) := by decide +kernel
theorem dX6_undo_34 : decode cX6_undo 34 = .ok (.aload_n 0, 1) := by decide +kernel
theorem dX6_undo_35 : decode cX6_undo 35 = .ok (.getfield 13, 3) := by decide +kernel
theorem dX6_undo_38 : decode cX6_undo 38 = .ok (.sipush 498, 3) := by decide +kernel
theorem dX6_undo_41 : decode cX6_undo 41 = .ok (.aload_n 0, 1) := by decide +kernel
theorem dX6_undo_42 : decode cX6_undo 42 = .ok (.getfield 35, 3) := by decide +kernel
theorem dX6_undo_45 : decode cX6_undo 45 = .ok (.imul, 1) := by decide +kernel
theorem dX6_undo_46 : decode cX6_undo 46 = .ok (.iload_n 1, 1) := by decide +kernel
theorem dX6_undo_47 : decode cX6_undo 47 = .ok (.iadd, 1) := by decide +kernel
theorem dX6_undo_48 : decode cX6_undo 48 = .ok (.iaload, 1) := by decide +kernel
theorem dX6_undo_49 : decode cX6_undo 49 = .ok (.iastore, 1) := by decide +kernel
theorem dX6_undo_50 : decode cX6_undo 50 = .ok (.iinc 1 1, 3) := by decide +kernel
theorem dX6_undo_53 : decode cX6_undo 53 = .ok (.goto (-31), 3) := by decide +kernel
theorem dX6_undo_56 : decode cX6_undo 56 = .ok (.aload_n 0, 1) := by decide +kernel
theorem dX6_undo_57 : decode cX6_undo 57 = .ok (.getfield 35, 3) := by decide +kernel
theorem dX6_undo_60 : decode cX6_undo 60 = .ok (.ireturn, 1) := by decide +kernel
set_option maxRecDepth 20000 in
theorem ggX6_type_X6_in : GoodIn wsX6_type wsX6_in := goodIn_r _ [8] (by decide +kernel) (by decide +kernel)
set_option maxRecDepth 20000 in
theorem gX6_type_X6_in : GoodIn wsX6_type (va_wsS RX6 48 yX6_in wsX6_in) := goodIn_app (goodIn_of _ (by decide +kernel)) ggX6_type_X6_in
theorem dX6_type_0 : decode cX6_type 0 = .ok (.iload_n 1, 1) := by decide +kernel
theorem dX6_type_1 : decode cX6_type 1 = .ok (.bipush 32, 2) := by decide +kernel
theorem dX6_type_3 : decode cX6_type 3 = .ok (.bipush 126, 2) := by decide +kernel
theorem dX6_type_5 : decode cX6_type 5 = .ok (.invokestatic 48, 3) := by decide +kernel
theorem dX6_type_8 : decode cX6_type 8 = .ok (.ifCond .ne 6, 3) := by decide +kernel
theorem dX6_type_11 : decode cX6_type 11 = .ok (.ldc 111, 2) := by decide +kernel
theorem dX6_type_13 : decode cX6_type 13 = .ok (.ireturn, 1) := by decide +kernel
theorem dX6_type_14 : decode cX6_type 14 = .ok (.aload_n 0, 1) := by decide +kernel
theorem dX6_type_15 : decode cX6_type 15 = .ok (.getfield 198, 3) := by decide +kernel
theorem dX6_type_18 : decode cX6_type 18 = .ok (.bipush 60, 2) := by decide +kernel
theorem dX6_type_20 : decode cX6_type 20 = .ok (.if_icmp .ne 6, 3) := by decide +kernel
theorem dX6_type_23 : decode cX6_type 23 = .ok (.ldc 94, 2) := by decide +kernel
theorem dX6_type_25 : decode cX6_type 25 = .ok (.ireturn, 1) := by decide +kernel
theorem dX6_type_26 : decode cX6_type 26 = .ok (.aload_n 0, 1) := by decide +kernel
theorem dX6_type_27 : decode cX6_type 27 = .ok (.getfield 19, 3) := by decide +kernel
theorem dX6_type_30 : decode cX6_type 30 = .ok (.aload_n 0, 1) := by decide +kernel
theorem dX6_type_31 : decode cX6_type 31 = .ok (.getfield 198, 3) := by decide +kernel
theorem dX6_type_34 : decode cX6_type 34 = .ok (.iload_n 1, 1) := by decide +kernel
theorem dX6_type_35 : decode cX6_type 35 = .ok (.iastore, 1) := by decide +kernel
theorem dX6_type_36 : decode cX6_type 36 = .ok (.aload_n 0, 1) := by decide +kernel
theorem dX6_type_37 : decode cX6_type 37 = .ok (.dup, 1) := by decide +kernel
theorem dX6_type_38 : decode cX6_type 38 = .ok (.getfield 198, 3) := by decide +kernel
theorem dX6_type_41 : decode cX6_type 41 = .ok (.iconst 1, 1) := by decide +kernel
theorem dX6_type_42 : decode cX6_type 42 = .ok (.iadd, 1) := by decide +kernel
theorem dX6_type_43 : decode cX6_type 43 = .ok (.putfield 198, 3) := by decide +kernel
theorem dX6_type_46 : decode cX6_type 46 = .ok (.aload_n 0, 1) := by decide +kernel
theorem dX6_type_47 : decode cX6_type 47 = .ok (.getfield 198, 3) := by decide +kernel
theorem dX6_type_50 : decode cX6_type 50 = .ok (.ireturn, 1) := by decide +kernel
theorem dX6_clearText_0 : decode cX6_clearText 0 = .ok (.aload_n 0, 1) := by decide +kernel
theorem dX6_clearText_1 : decode cX6_clearText 1 = .ok (.getfield 198, 3) := by decide +kernel
theorem dX6_clearText_4 : decode cX6_clearText 4 = .ok (.istore_n 1, 1) := by decide +kernel
theorem dX6_clearText_5 : decode cX6_clearText 5 = .ok (.aload_n 0, 1) := by decide +kernel
theorem dX6_clearText_6 : decode cX6_clearText 6 = .ok (.iconst 0, 1) := by decide +kernel
theorem dX6_clearText_7 : decode cX6_clearText 7 = .ok (.putfield 198, 3) := by decide +kernel
theorem dX6_clearText_10 : decode cX6_clearText 10 = .ok (.iload_n 1, 1) := by decide +kernel
theorem dX6_clearText_11 : decode cX6_clearText 11 = .ok (.ireturn, 1) := by decide +kernel
set_option maxRecDepth 20000 in
theorem ggX6_isAt_X6_in : GoodIn wsX6_isAt wsX6_in := goodIn_r _ [7] (by decide +kernel) (by decide +kernel)
set_option maxRecDepth 20000 in
theorem gX6_isAt_X6_in : GoodIn wsX6_isAt (va_wsS RX6 48 yX6_in wsX6_in) := goodIn_app (goodIn_of _ (by decide +kernel)) ggX6_isAt_X6_in
theorem dX6_isAt_0 : decode cX6_isAt 0 = .ok (.aload_n 0, 1) := by decide +kernel
theorem dX6_isAt_1 : decode cX6_isAt 1 = .ok (.getfield 201, 3) := by decide +kernel
theorem dX6_isAt_4 : decode cX6_isAt 4 = .ok (.aload_n 0, 1) := by decide +kernel
theorem dX6_isAt_5 : decode cX6_isAt 5 = .ok (.getfield 198, 3) := by decide +kernel
theorem dX6_isAt_8 : decode cX6_isAt 8 = .ok (.if_icmp .ge 24, 3) := by decide +kernel
theorem dX6_isAt_11 : decode cX6_isAt 11 = .ok (.aload_n 0, 1) := by decide +kernel
theorem dX6_isAt_12 : decode cX6_isAt 12 = .ok (.getfield 19, 3) := by decide +kernel
theorem dX6_isAt_15 : decode cX6_isAt 15 = .ok (.aload_n 0, 1) := by decide +kernel
theorem dX6_isAt_16 : decode cX6_isAt 16 = .ok (.getfield 201, 3) := by decide +kernel
theorem dX6_isAt_19 : decode cX6_isAt 19 = .ok (.iaload, 1) := by decide +kernel
theorem dX6_isAt_20 : decode cX6_isAt 20 = .ok (.iload_n 1, 1) := by decide +kernel
theorem dX6_isAt_21 : decode cX6_isAt 21 = .ok (.iload_n 2, 1) := by decide +kernel
theorem dX6_isAt_22 : decode cX6_isAt 22 = .ok (.invokestatic 48, 3) := by decide +kernel
theorem dX6_isAt_25 : decode cX6_isAt 25 = .ok (.ifCond .eq 7, 3) := by decide +kernel
theorem dX6_isAt_28 : decode cX6_isAt 28 = .ok (.iconst 1, 1) := by decide +kernel
theorem dX6_isAt_29 : decode cX6_isAt 29 = .ok (.goto 4, 3) := by decide +kernel
theorem dX6_isAt_32 : decode cX6_isAt 32 = .ok (.iconst 0, 1) := by decide +kernel
theorem dX6_isAt_33 : decode cX6_isAt 33 = .ok (.ireturn, 1) := by decide +kernel
set_option maxRecDepth 20000 in
theorem ggX6_sign_X6_isAt : GoodIn wsX6_sign wsX6_isAt := goodIn_r _ [6, 1, 7, 8, 9, 10, 5, 11, 12, 13, 14, 15, 16, 17, 18, 19, 20, 21, 22, 23, 24, 25, 26, 27] (by decide +kernel) (by decide +kernel)
set_option maxRecDepth 20000 in
theorem gX6_sign_X6_isAt : GoodIn wsX6_sign (wsV RX6 204 RX6 yX6_isAt wsX6_isAt) := goodIn_app (goodIn_of _ (by decide +kernel)) ggX6_sign_X6_isAt
theorem dX6_sign_0 : decode cX6_sign 0 = .ok (.aload_n 0, 1) := by decide +kernel
theorem dX6_sign_1 : decode cX6_sign 1 = .ok (.iload_n 1, 1) := by decide +kernel
theorem dX6_sign_2 : decode cX6_sign 2 = .ok (.iload_n 1, 1) := by decide +kernel
theorem dX6_sign_3 : decode cX6_sign 3 = .ok (.invokevirtual 204, 3) := by decide +kernel
theorem dX6_sign_6 : decode cX6_sign 6 = .ok (.istore_n 2, 1) := by decide +kernel
theorem dX6_sign_7 : decode cX6_sign 7 = .ok (.aload_n 0, 1) := by decide +kernel
theorem dX6_sign_8 : decode cX6_sign 8 = .ok (.dup, 1) := by decide +kernel
theorem dX6_sign_9 : decode cX6_sign 9 = .ok (.getfield 201, 3) := by decide +kernel
theorem dX6_sign_12 : decode cX6_sign 12 = .ok (.iload_n 2, 1) := by decide +kernel
theorem dX6_sign_13 : decode cX6_sign 13 = .ok (.ifCond .eq 7, 3) := by decide +kernel
theorem dX6_sign_16 : decode cX6_sign 16 = .ok (.iconst 1, 1) := by decide +kernel
theorem dX6_sign_17 : decode cX6_sign 17 = .ok (.goto 4, 3) := by decide +kernel
theorem dX6_sign_20 : decode cX6_sign 20 = .ok (.iconst 0, 1) := by decide +kernel
theorem dX6_sign_21 : decode cX6_sign 21 = .ok (.iadd, 1) := by decide +kernel
theorem dX6_sign_22 : decode cX6_sign 22 = .ok (.putfield 201, 3) := by decide +kernel
theorem dX6_sign_25 : decode cX6_sign 25 = .ok (.iload_n 2, 1) := by decide +kernel
theorem dX6_sign_26 : decode cX6_sign 26 = .ok (.ireturn, 1) := by decide +kernel
set_option maxRecDepth 20000 in
theorem ggX6_numbered_X6_isAt : GoodIn wsX6_numbered wsX6_isAt := goodIn_r _ [8, 1, 9, 3, 10, 11, 7, 12, 13, 14, 15, 16, 17, 18, 19, 20, 21, 22, 23, 24, 25, 26, 27, 28] (by decide +kernel) (by decide +kernel)
set_option maxRecDepth 20000 in
theorem gX6_numbered_X6_isAt : GoodIn wsX6_numbered (wsV RX6 204 RX6 yX6_isAt wsX6_isAt) := goodIn_app (goodIn_of _ (by decide +kernel)) ggX6_numbered_X6_isAt
theorem dX6_numbered_0 : decode cX6_numbered 0 = .ok (.aload_n 0, 1) := by decide +kernel
theorem dX6_numbered_1 : decode cX6_numbered 1 = .ok (.getfield 201, 3) := by decide +kernel
theorem dX6_numbered_4 : decode cX6_numbered 4 = .ok (.istore_n 2, 1) := by decide +kernel
theorem dX6_numbered_5 : decode cX6_numbered 5 = .ok (.aload_n 0, 1) := by decide +kernel
theorem dX6_numbered_6 : decode cX6_numbered 6 = .ok (.getfield 25, 3) := by decide +kernel
theorem dX6_numbered_9 : decode cX6_numbered 9 = .ok (.iload_n 1, 1) := by decide +kernel
theorem dX6_numbered_10 : decode cX6_numbered 10 = .ok (.iconst 0, 1) := by decide +kernel
theorem dX6_numbered_11 : decode cX6_numbered 11 = .ok (.iastore, 1) := by decide +kernel
theorem dX6_numbered_12 : decode cX6_numbered 12 = .ok (.aload_n 0, 1) := by decide +kernel
theorem dX6_numbered_13 : decode cX6_numbered 13 = .ok (.bipush 48, 2) := by decide +kernel
theorem dX6_numbered_15 : decode cX6_numbered 15 = .ok (.bipush 57, 2) := by decide +kernel
theorem dX6_numbered_17 : decode cX6_numbered 17 = .ok (.invokevirtual 204, 3) := by decide +kernel
theorem dX6_numbered_20 : decode cX6_numbered 20 = .ok (.ifCond .eq 54, 3) := by decide +kernel
theorem dX6_numbered_23 : decode cX6_numbered 23 = .ok (.aload_n 0, 1) := by decide +kernel
theorem dX6_numbered_24 : decode cX6_numbered 24 = .ok (.getfield 201, 3) := by decide +kernel
theorem dX6_numbered_27 : decode cX6_numbered 27 = .ok (.iload_n 2, 1) := by decide +kernel
theorem dX6_numbered_28 : decode cX6_numbered 28 = .ok (.isub, 1) := by decide +kernel
theorem dX6_numbered_29 : decode cX6_numbered 29 = .ok (.iconst 3, 1) := by decide +kernel
theorem dX6_numbered_30 : decode cX6_numbered 30 = .ok (.if_icmp .ge 44, 3) := by decide +kernel
theorem dX6_numbered_33 : decode cX6_numbered 33 = .ok (.aload_n 0, 1) := by decide +kernel
theorem dX6_numbered_34 : decode cX6_numbered 34 = .ok (.getfield 25, 3) := by decide +kernel
theorem dX6_numbered_37 : decode cX6_numbered 37 = .ok (.iload_n 1, 1) := by decide +kernel
theorem dX6_numbered_38 : decode cX6_numbered 38 = .ok (.bipush 10, 2) := by decide +kernel
theorem dX6_numbered_40 : decode cX6_numbered 40 = .ok (.aload_n 0, 1) := by decide +kernel
theorem dX6_numbered_41 : decode cX6_numbered 41 = .ok (.getfield 25, 3) := by decide +kernel
theorem dX6_numbered_44 : decode cX6_numbered 44 = .ok (.iload_n 1, 1) := by decide +kernel
theorem dX6_numbered_45 : decode cX6_numbered 45 = .ok (.iaload, 1) := by decide +kernel
theorem dX6_numbered_46 : decode cX6_numbered 46 = .ok (.imul, 1) := by decide +kernel
theorem dX6_numbered_47 : decode cX6_numbered 47 = .ok (.aload_n 0, 1) := by decide +kernel
theorem dX6_numbered_48 : decode cX6_numbered 48 = .ok (.getfield 19, 3) := by decide +kernel
theorem dX6_numbered_51 : decode cX6_numbered 51 = .ok (.aload_n 0, 1) := by decide +kernel
theorem dX6_numbered_52 : decode cX6_numbered 52 = .ok (.getfield 201, 3) := by decide +kernel
theorem dX6_numbered_55 : decode cX6_numbered 55 = .ok (.iaload, 1) := by decide +kernel
theorem dX6_numbered_56 : decode cX6_numbered 56 = .ok (.iadd, 1) := by decide +kernel
theorem dX6_numbered_57 : decode cX6_numbered 57 = .ok (.bipush 48, 2) := by decide +kernel
theorem dX6_numbered_59 : decode cX6_numbered 59 = .ok (.isub, 1) := by decide +kernel
theorem dX6_numbered_60 : decode cX6_numbered 60 = .ok (.iastore, 1) := by decide +kernel
theorem dX6_numbered_61 : decode cX6_numbered 61 = .ok (.aload_n 0, 1) := by decide +kernel
theorem dX6_numbered_62 : decode cX6_numbered 62 = .ok (.dup, 1) := by decide +kernel
theorem dX6_numbered_63 : decode cX6_numbered 63 = .ok (.getfield 201, 3) := by decide +kernel
theorem dX6_numbered_66 : decode cX6_numbered 66 = .ok (.iconst 1, 1) := by decide +kernel
theorem dX6_numbered_67 : decode cX6_numbered 67 = .ok (.iadd, 1) := by decide +kernel
theorem dX6_numbered_68 : decode cX6_numbered 68 = .ok (.putfield 201, 3) := by decide +kernel
theorem dX6_numbered_71 : decode cX6_numbered 71 = .ok (.goto (-59), 3) := by decide +kernel
theorem dX6_numbered_74 : decode cX6_numbered 74 = .ok (.aload_n 0, 1) := by decide +kernel
theorem dX6_numbered_75 : decode cX6_numbered 75 = .ok (.getfield 201, 3) := by decide +kernel
theorem dX6_numbered_78 : decode cX6_numbered 78 = .ok (.iload_n 2, 1) := by decide +kernel
theorem dX6_numbered_79 : decode cX6_numbered 79 = .ok (.if_icmp .le 7, 3) := by decide +kernel
theorem dX6_numbered_82 : decode cX6_numbered 82 = .ok (.iconst 1, 1) := by decide +kernel
theorem dX6_numbered_83 : decode cX6_numbered 83 = .ok (.goto 4, 3) := by decide +kernel
theorem dX6_numbered_86 : decode cX6_numbered 86 = .ok (.iconst 0, 1) := by decide +kernel
theorem dX6_numbered_87 : decode cX6_numbered 87 = .ok (.ireturn, 1) := by decide +kernel
theorem dX6_numbersOf_0 : decode cX6_numbersOf 0 = .ok (.iload_n 0, 1) := by decide +kernel
theorem dX6_numbersOf_1 : decode cX6_numbersOf 1 = .ok (.bipush 119, 2) := by decide +kernel
theorem dX6_numbersOf_3 : decode cX6_numbersOf 3 = .ok (.if_icmp .ne 7, 3) := by decide +kernel
theorem dX6_numbersOf_6 : decode cX6_numbersOf 6 = .ok (.iconst 3, 1) := by decide +kernel
theorem dX6_numbersOf_7 : decode cX6_numbersOf 7 = .ok (.goto 40, 3) := by decide +kernel
theorem dX6_numbersOf_10 : decode cX6_numbersOf 10 = .ok (.iload_n 0, 1) := by decide +kernel
theorem dX6_numbersOf_11 : decode cX6_numbersOf 11 = .ok (.bipush 102, 2) := by decide +kernel
theorem dX6_numbersOf_13 : decode cX6_numbersOf 13 = .ok (.if_icmp .ne 7, 3) := by decide +kernel
theorem dX6_numbersOf_16 : decode cX6_numbersOf 16 = .ok (.iconst 4, 1) := by decide +kernel
theorem dX6_numbersOf_17 : decode cX6_numbersOf 17 = .ok (.goto 30, 3) := by decide +kernel
theorem dX6_numbersOf_20 : decode cX6_numbersOf 20 = .ok (.iload_n 0, 1) := by decide +kernel
theorem dX6_numbersOf_21 : decode cX6_numbersOf 21 = .ok (.bipush 109, 2) := by decide +kernel
theorem dX6_numbersOf_23 : decode cX6_numbersOf 23 = .ok (.if_icmp .ne 7, 3) := by decide +kernel
theorem dX6_numbersOf_26 : decode cX6_numbersOf 26 = .ok (.iconst 2, 1) := by decide +kernel
theorem dX6_numbersOf_27 : decode cX6_numbersOf 27 = .ok (.goto 20, 3) := by decide +kernel
theorem dX6_numbersOf_30 : decode cX6_numbersOf 30 = .ok (.iload_n 0, 1) := by decide +kernel
theorem dX6_numbersOf_31 : decode cX6_numbersOf 31 = .ok (.bipush 98, 2) := by decide +kernel
theorem dX6_numbersOf_33 : decode cX6_numbersOf 33 = .ok (.if_icmp .eq 9, 3) := by decide +kernel
theorem dX6_numbersOf_36 : decode cX6_numbersOf 36 = .ok (.iload_n 0, 1) := by decide +kernel
theorem dX6_numbersOf_37 : decode cX6_numbersOf 37 = .ok (.bipush 120, 2) := by decide +kernel
theorem dX6_numbersOf_39 : decode cX6_numbersOf 39 = .ok (.if_icmp .ne 7, 3) := by decide +kernel
theorem dX6_numbersOf_42 : decode cX6_numbersOf 42 = .ok (.iconst 1, 1) := by decide +kernel
theorem dX6_numbersOf_43 : decode cX6_numbersOf 43 = .ok (.goto 4, 3) := by decide +kernel
theorem dX6_numbersOf_46 : decode cX6_numbersOf 46 = .ok (.iconst 0, 1) := by decide +kernel
theorem dX6_numbersOf_47 : decode cX6_numbersOf 47 = .ok (.ireturn, 1) := by decide +kernel
set_option maxRecDepth 20000 in
theorem ggX6_reads_X6_isAt : GoodIn wsX6_reads wsX6_isAt := goodIn_r _ [8, 2, 9, 1, 10, 11, 7, 12, 25, 26, 27, 28, 29, 30, 31, 32, 33, 34, 35, 36, 37, 38, 39, 40] (by decide +kernel) (by decide +kernel)
set_option maxRecDepth 20000 in
theorem gX6_reads_X6_isAt : GoodIn wsX6_reads (wsV RX6 204 RX6 yX6_isAt wsX6_isAt) := goodIn_app (goodIn_of _ (by decide +kernel)) ggX6_reads_X6_isAt
set_option maxRecDepth 20000 in
theorem ggX6_reads_X6_numbersOf : GoodIn wsX6_reads wsX6_numbersOf := goodIn_r _ [15] (by decide +kernel) (by decide +kernel)
set_option maxRecDepth 20000 in
theorem gX6_reads_X6_numbersOf : GoodIn wsX6_reads (va_wsS RX6 210 yX6_numbersOf wsX6_numbersOf) := goodIn_app (goodIn_of _ (by decide +kernel)) ggX6_reads_X6_numbersOf
set_option maxRecDepth 20000 in
theorem ggX6_reads_X6_numbered : GoodIn wsX6_reads wsX6_numbered := goodIn_r _ [19, 2, 20, 1, 4, 5, 6, 7, 8, 9, 10, 11, 12, 25, 26, 27, 28, 29, 30, 31, 32, 33, 34, 35, 36, 37, 38, 39, 40] (by decide +kernel) (by decide +kernel)
set_option maxRecDepth 20000 in
theorem gX6_reads_X6_numbered : GoodIn wsX6_reads (wsV RX6 213 RX6 yX6_numbered wsX6_numbered) := goodIn_app (goodIn_of _ (by decide +kernel)) ggX6_reads_X6_numbered
set_option maxRecDepth 20000 in
theorem ggX6_reads_X6_sign : GoodIn wsX6_reads wsX6_sign := goodIn_r _ [24, 2, 4, 5, 6, 7, 8, 9, 1, 10, 11, 12, 25, 26, 27, 28, 29, 30, 31, 32, 33, 34, 35, 36, 37, 38, 39, 40] (by decide +kernel) (by decide +kernel)
set_option maxRecDepth 20000 in
theorem gX6_reads_X6_sign : GoodIn wsX6_reads (wsV RX6 216 RX6 yX6_sign wsX6_sign) := goodIn_app (goodIn_of _ (by decide +kernel)) ggX6_reads_X6_sign
theorem dX6_reads_0 : decode cX6_reads 0 = .ok (.aload_n 0, 1) := by decide +kernel
theorem dX6_reads_1 : decode cX6_reads 1 = .ok (.aload_n 0, 1) := by decide +kernel
