theorem dX4_init_9 : decode cX4_init 9 = .ok (.invokespecial 11, 3) := by decide +kernel
theorem dX4_init_12 : decode cX4_init 12 = .ok (.putfield 12, 3) := by decide +kernel
theorem dX4_init_15 : decode cX4_init 15 = .ok (.aload_n 0, 1) := by decide +kernel
theorem dX4_init_16 : decode cX4_init 16 = .ok (.new 18, 3) := by decide +kernel
theorem dX4_init_19 : decode cX4_init 19 = .ok (.dup, 1) := by decide +kernel
theorem dX4_init_20 : decode cX4_init 20 = .ok (.invokespecial 20, 3) := by decide +kernel
theorem dX4_init_23 : decode cX4_init 23 = .ok (.putfield 21, 3) := by decide +kernel
theorem dX4_init_26 : decode cX4_init 26 = .ok (.aload_n 0, 1) := by decide +kernel
theorem dX4_init_27 : decode cX4_init 27 = .ok (.iconst 4, 1) := by decide +kernel
theorem dX4_init_28 : decode cX4_init 28 = .ok (.newarray .int, 2) := by decide +kernel
theorem dX4_init_30 : decode cX4_init 30 = .ok (.putfield 25, 3) := by decide +kernel
theorem dX4_init_33 : decode cX4_init 33 = .ok (.aload_n 0, 1) := by decide +kernel
theorem dX4_init_34 : decode cX4_init 34 = .ok (.bipush 48, 2) := by decide +kernel
theorem dX4_init_36 : decode cX4_init 36 = .ok (.newarray .int, 2) := by decide +kernel
theorem dX4_init_38 : decode cX4_init 38 = .ok (.putfield 29, 3) := by decide +kernel
theorem dX4_init_41 : decode cX4_init 41 = .ok (.aload_n 0, 1) := by decide +kernel
theorem dX4_init_42 : decode cX4_init 42 = .ok (.iconst 1, 1) := by decide +kernel
theorem dX4_init_43 : decode cX4_init 43 = .ok (.putfield 32, 3) := by decide +kernel
theorem dX4_init_46 : decode cX4_init 46 = .ok (.aload_n 0, 1) := by decide +kernel
theorem dX4_init_47 : decode cX4_init 47 = .ok (.iconst 0, 1) := by decide +kernel
theorem dX4_init_48 : decode cX4_init 48 = .ok (.putfield 36, 3) := by decide +kernel
theorem dX4_init_51 : decode cX4_init 51 = .ok (.iconst 1, 1) := by decide +kernel
theorem dX4_init_52 : decode cX4_init 52 = .ok (.istore_n 1, 1) := by decide +kernel
theorem dX4_init_53 : decode cX4_init 53 = .ok (.iload_n 1, 1) := by decide +kernel
theorem dX4_init_54 : decode cX4_init 54 = .ok (.iconst 4, 1) := by decide +kernel
theorem dX4_init_55 : decode cX4_init 55 = .ok (.if_icmp .ge 16, 3) := by decide +kernel
theorem dX4_init_58 : decode cX4_init 58 = .ok (.aload_n 0, 1) := by decide +kernel
theorem dX4_init_59 : decode cX4_init 59 = .ok (.getfield 25, 3) := by decide +kernel
theorem dX4_init_62 : decode cX4_init 62 = .ok (.iload_n 1, 1) := by decide +kernel
theorem dX4_init_63 : decode cX4_init 63 = .ok (.iconst (-1), 1) := by decide +kernel
theorem dX4_init_64 : decode cX4_init 64 = .ok (.iastore, 1) := by decide +kernel
theorem dX4_init_65 : decode cX4_init 65 = .ok (.iinc 1 1, 3) := by decide +kernel
theorem dX4_init_68 : decode cX4_init 68 = .ok (.goto (-15), 3) := by decide +kernel
theorem dX4_init_71 : decode cX4_init 71 = .ok (.return_, 1) := by decide +kernel
set_option maxRecDepth 20000 in
theorem ggX4_becomeLike_X0_becomeLike : GoodIn wsX4_becomeLike wsX0_becomeLike := goodIn_r _ [14, 15, 16, 5, 6, 7, 17, 18, 19, 37, 38, 39, 40] (by decide +kernel) (by decide +kernel)
set_option maxRecDepth 20000 in
theorem gX4_becomeLike_X0_becomeLike : GoodIn wsX4_becomeLike (wsV RX4 39 RX0 yX0_becomeLike wsX0_becomeLike) := goodIn_app (goodIn_of _ (by decide +kernel)) ggX4_becomeLike_X0_becomeLike
set_option maxRecDepth 20000 in
theorem ggX4_becomeLike_X3_becomeLike : GoodIn wsX4_becomeLike wsX3_becomeLike := goodIn_r _ [24, 25, 26, 5, 6, 7, 27, 28, 29, 30, 41, 42, 43, 44, 45] (by decide +kernel) (by decide +kernel)
set_option maxRecDepth 20000 in
theorem gX4_becomeLike_X3_becomeLike : GoodIn wsX4_becomeLike (wsV RX4 43 RX3 yX3_becomeLike wsX3_becomeLike) := goodIn_app (goodIn_of _ (by decide +kernel)) ggX4_becomeLike_X3_becomeLike
theorem dX4_becomeLike_0 : decode cX4_becomeLike 0 = .ok (.aload_n 0, 1) := by decide +kernel
theorem dX4_becomeLike_1 : decode cX4_becomeLike 1 = .ok (.getfield 12, 3) := by decide +kernel
theorem dX4_becomeLike_4 : decode cX4_becomeLike 4 = .ok (.aload_n 1, 1) := by decide +kernel
theorem dX4_becomeLike_5 : decode cX4_becomeLike 5 = .ok (.getfield 12, 3) := by decide +kernel
theorem dX4_becomeLike_8 : decode cX4_becomeLike 8 = .ok (.invokevirtual 39, 3) := by decide +kernel
theorem dX4_becomeLike_11 : decode cX4_becomeLike 11 = .ok (.aload_n 0, 1) := by decide +kernel
theorem dX4_becomeLike_12 : decode cX4_becomeLike 12 = .ok (.getfield 21, 3) := by decide +kernel
theorem dX4_becomeLike_15 : decode cX4_becomeLike 15 = .ok (.aload_n 1, 1) := by decide +kernel
theorem dX4_becomeLike_16 : decode cX4_becomeLike 16 = .ok (.getfield 21, 3) := by decide +kernel
theorem dX4_becomeLike_19 : decode cX4_becomeLike 19 = .ok (.invokevirtual 43, 3) := by decide +kernel
theorem dX4_becomeLike_22 : decode cX4_becomeLike 22 = .ok (.aload_n 1, 1) := by decide +kernel
theorem dX4_becomeLike_23 : decode cX4_becomeLike 23 = .ok (.getfield 25, 3) := by decide +kernel
theorem dX4_becomeLike_26 : decode cX4_becomeLike 26 = .ok (.iconst 0, 1) := by decide +kernel
theorem dX4_becomeLike_27 : decode cX4_becomeLike 27 = .ok (.aload_n 0, 1) := by decide +kernel
theorem dX4_becomeLike_28 : decode cX4_becomeLike 28 = .ok (.getfield 25, 3) := by decide +kernel
theorem dX4_becomeLike_31 : decode cX4_becomeLike 31 = .ok (.iconst 0, 1) := by decide +kernel
theorem dX4_becomeLike_32 : decode cX4_becomeLike 32 = .ok (.aload_n 0, 1) := by decide +kernel
theorem dX4_becomeLike_33 : decode cX4_becomeLike 33 = .ok (.getfield 25, 3) := by decide +kernel
theorem dX4_becomeLike_36 : decode cX4_becomeLike 36 = .ok (.arraylength, 1) := by decide +kernel
theorem dX4_becomeLike_37 : decode cX4_becomeLike 37 = .ok (.invokestatic 46, 3) := by decide +kernel
theorem dX4_becomeLike_40 : decode cX4_becomeLike 40 = .ok (.aload_n 0, 1) := by decide +kernel
theorem dX4_becomeLike_41 : decode cX4_becomeLike 41 = .ok (.aload_n 1, 1) := by decide +kernel
theorem dX4_becomeLike_42 : decode cX4_becomeLike 42 = .ok (.getfield 32, 3) := by decide +kernel
theorem dX4_becomeLike_45 : decode cX4_becomeLike 45 = .ok (.putfield 32, 3) := by decide +kernel
theorem dX4_becomeLike_48 : decode cX4_becomeLike 48 = .ok (.aload_n 0, 1) := by decide +kernel
theorem dX4_becomeLike_49 : decode cX4_becomeLike 49 = .ok (.aload_n 1, 1) := by decide +kernel
theorem dX4_becomeLike_50 : decode cX4_becomeLike 50 = .ok (.getfield 36, 3) := by decide +kernel
theorem dX4_becomeLike_53 : decode cX4_becomeLike 53 = .ok (.putfield 36, 3) := by decide +kernel
theorem dX4_becomeLike_56 : decode cX4_becomeLike 56 = .ok (.return_, 1) := by decide +kernel
set_option maxRecDepth 20000 in
theorem ggX4_isBranch_X5_isIndex : GoodIn wsX4_isBranch wsX5_isIndex := goodIn_r _ [4] (by decide +kernel) (by decide +kernel)
set_option maxRecDepth 20000 in
theorem gX4_isBranch_X5_isIndex_n52 : GoodIn wsX4_isBranch (wsX5_isIndex) := ggX4_isBranch_X5_isIndex
theorem dX4_isBranch_0 : decode cX4_isBranch 0 = .ok (.iload_n 1, 1) := by decide +kernel
theorem dX4_isBranch_1 : decode cX4_isBranch 1 = .ok (.iconst 4, 1) := by decide +kernel
theorem dX4_isBranch_2 : decode cX4_isBranch 2 = .ok (.invokestatic 52, 3) := by decide +kernel
theorem dX4_isBranch_5 : decode cX4_isBranch 5 = .ok (.ifCond .eq 17, 3) := by decide +kernel
theorem dX4_isBranch_8 : decode cX4_isBranch 8 = .ok (.aload_n 0, 1) := by decide +kernel
theorem dX4_isBranch_9 : decode cX4_isBranch 9 = .ok (.getfield 25, 3) := by decide +kernel
theorem dX4_isBranch_12 : decode cX4_isBranch 12 = .ok (.iload_n 1, 1) := by decide +kernel
theorem dX4_isBranch_13 : decode cX4_isBranch 13 = .ok (.iaload, 1) := by decide +kernel
theorem dX4_isBranch_14 : decode cX4_isBranch 14 = .ok (.iconst (-1), 1) := by decide +kernel
theorem dX4_isBranch_15 : decode cX4_isBranch 15 = .ok (.if_icmp .eq 7, 3) := by decide +kernel
theorem dX4_isBranch_18 : decode cX4_isBranch 18 = .ok (.iconst 1, 1) := by decide +kernel
theorem dX4_isBranch_19 : decode cX4_isBranch 19 = .ok (.goto 4, 3) := by decide +kernel
theorem dX4_isBranch_22 : decode cX4_isBranch 22 = .ok (.iconst 0, 1) := by decide +kernel
theorem dX4_isBranch_23 : decode cX4_isBranch 23 = .ok (.ireturn, 1) := by decide +kernel
set_option maxRecDepth 20000 in
theorem ggX4_headSlot_X4_isBranch : GoodIn wsX4_headSlot wsX4_isBranch := goodIn_r _ [7, 2, 8, 9, 10, 18, 19, 20, 21, 22, 23] (by decide +kernel) (by decide +kernel)
set_option maxRecDepth 20000 in
theorem gX4_headSlot_X4_isBranch : GoodIn wsX4_headSlot (wsV RX4 56 RX4 yX4_isBranch wsX4_isBranch) := goodIn_app (goodIn_of _ (by decide +kernel)) ggX4_headSlot_X4_isBranch
set_option maxRecDepth 20000 in
theorem ggX4_headSlot_X3_slotOf : GoodIn wsX4_headSlot wsX3_slotOf := goodIn_r _ [15, 16, 17, 24, 25, 26, 27, 28] (by decide +kernel) (by decide +kernel)
set_option maxRecDepth 20000 in
theorem gX4_headSlot_X3_slotOf : GoodIn wsX4_headSlot (wsV RX4 60 RX3 yX3_slotOf wsX3_slotOf) := goodIn_app (goodIn_of _ (by decide +kernel)) ggX4_headSlot_X3_slotOf
theorem dX4_headSlot_0 : decode cX4_headSlot 0 = .ok (.aload_n 0, 1) := by decide +kernel
theorem dX4_headSlot_1 : decode cX4_headSlot 1 = .ok (.iload_n 1, 1) := by decide +kernel
theorem dX4_headSlot_2 : decode cX4_headSlot 2 = .ok (.invokevirtual 56, 3) := by decide +kernel
theorem dX4_headSlot_5 : decode cX4_headSlot 5 = .ok (.ifCond .eq 19, 3) := by decide +kernel
theorem dX4_headSlot_8 : decode cX4_headSlot 8 = .ok (.aload_n 0, 1) := by decide +kernel
theorem dX4_headSlot_9 : decode cX4_headSlot 9 = .ok (.getfield 21, 3) := by decide +kernel
theorem dX4_headSlot_12 : decode cX4_headSlot 12 = .ok (.aload_n 0, 1) := by decide +kernel
theorem dX4_headSlot_13 : decode cX4_headSlot 13 = .ok (.getfield 25, 3) := by decide +kernel
theorem dX4_headSlot_16 : decode cX4_headSlot 16 = .ok (.iload_n 1, 1) := by decide +kernel
theorem dX4_headSlot_17 : decode cX4_headSlot 17 = .ok (.iaload, 1) := by decide +kernel
theorem dX4_headSlot_18 : decode cX4_headSlot 18 = .ok (.invokevirtual 60, 3) := by decide +kernel
theorem dX4_headSlot_21 : decode cX4_headSlot 21 = .ok (.goto 4, 3) := by decide +kernel
theorem dX4_headSlot_24 : decode cX4_headSlot 24 = .ok (.iconst (-1), 1) := by decide +kernel
theorem dX4_headSlot_25 : decode cX4_headSlot 25 = .ok (.ireturn, 1) := by decide +kernel
theorem dX4_branchesThere_0 : decode cX4_branchesThere 0 = .ok (.iconst 0, 1) := by decide +kernel
theorem dX4_branchesThere_1 : decode cX4_branchesThere 1 = .ok (.istore_n 1, 1) := by decide +kernel
theorem dX4_branchesThere_2 : decode cX4_branchesThere 2 = .ok (.iconst 0, 1) := by decide +kernel
theorem dX4_branchesThere_3 : decode cX4_branchesThere 3 = .ok (.istore_n 2, 1) := by decide +kernel
theorem dX4_branchesThere_4 : decode cX4_branchesThere 4 = .ok (.iload_n 2, 1) := by decide +kernel
theorem dX4_branchesThere_5 : decode cX4_branchesThere 5 = .ok (.iconst 4, 1) := by decide +kernel
theorem dX4_branchesThere_6 : decode cX4_branchesThere 6 = .ok (.if_icmp .ge 27, 3) := by decide +kernel
theorem dX4_branchesThere_9 : decode cX4_branchesThere 9 = .ok (.iload_n 1, 1) := by decide +kernel
theorem dX4_branchesThere_10 : decode cX4_branchesThere 10 = .ok (.aload_n 0, 1) := by decide +kernel
theorem dX4_branchesThere_11 : decode cX4_branchesThere 11 = .ok (.getfield 25, 3) := by decide +kernel
theorem dX4_branchesThere_14 : decode cX4_branchesThere 14 = .ok (.iload_n 2, 1) := by decide +kernel
theorem dX4_branchesThere_15 : decode cX4_branchesThere 15 = .ok (.iaload, 1) := by decide +kernel
theorem dX4_branchesThere_16 : decode cX4_branchesThere 16 = .ok (.iconst (-1), 1) := by decide +kernel
theorem dX4_branchesThere_17 : decode cX4_branchesThere 17 = .ok (.if_icmp .eq 7, 3) := by decide +kernel
theorem dX4_branchesThere_20 : decode cX4_branchesThere 20 = .ok (.iconst 1, 1) := by decide +kernel
theorem dX4_branchesThere_21 : decode cX4_branchesThere 21 = .ok (.goto 4, 3) := by decide +kernel
theorem dX4_branchesThere_24 : decode cX4_branchesThere 24 = .ok (.iconst 0, 1) := by decide +kernel
theorem dX4_branchesThere_25 : decode cX4_branchesThere 25 = .ok (.iadd, 1) := by decide +kernel
theorem dX4_branchesThere_26 : decode cX4_branchesThere 26 = .ok (.istore_n 1, 1) := by decide +kernel
theorem dX4_branchesThere_27 : decode cX4_branchesThere 27 = .ok (.iinc 2 1, 3) := by decide +kernel
theorem dX4_branchesThere_30 : decode cX4_branchesThere 30 = .ok (.goto (-26), 3) := by decide +kernel
theorem dX4_branchesThere_33 : decode cX4_branchesThere 33 = .ok (.iload_n 1, 1) := by decide +kernel
theorem dX4_branchesThere_34 : decode cX4_branchesThere 34 = .ok (.ireturn, 1) := by decide +kernel
theorem dX4_branchesAt_0 : decode cX4_branchesAt 0 = .ok (.iconst 0, 1) := by decide +kernel
theorem dX4_branchesAt_1 : decode cX4_branchesAt 1 = .ok (.istore_n 2, 1) := by decide +kernel
theorem dX4_branchesAt_2 : decode cX4_branchesAt 2 = .ok (.iconst 0, 1) := by decide +kernel
theorem dX4_branchesAt_3 : decode cX4_branchesAt 3 = .ok (.istore_n 3, 1) := by decide +kernel
theorem dX4_branchesAt_4 : decode cX4_branchesAt 4 = .ok (.iload_n 3, 1) := by decide +kernel
theorem dX4_branchesAt_5 : decode cX4_branchesAt 5 = .ok (.iconst 4, 1) := by decide +kernel
theorem dX4_branchesAt_6 : decode cX4_branchesAt 6 = .ok (.if_icmp .ge 25, 3) := by decide +kernel
theorem dX4_branchesAt_9 : decode cX4_branchesAt 9 = .ok (.aload_n 0, 1) := by decide +kernel
theorem dX4_branchesAt_10 : decode cX4_branchesAt 10 = .ok (.getfield 25, 3) := by decide +kernel
theorem dX4_branchesAt_13 : decode cX4_branchesAt 13 = .ok (.iload_n 3, 1) := by decide +kernel
theorem dX4_branchesAt_14 : decode cX4_branchesAt 14 = .ok (.iaload, 1) := by decide +kernel
theorem dX4_branchesAt_15 : decode cX4_branchesAt 15 = .ok (.iload_n 1, 1) := by decide +kernel
theorem dX4_branchesAt_16 : decode cX4_branchesAt 16 = .ok (.if_icmp .ne 9, 3) := by decide +kernel
theorem dX4_branchesAt_19 : decode cX4_branchesAt 19 = .ok (.iload_n 2, 1) := by decide +kernel
theorem dX4_branchesAt_20 : decode cX4_branchesAt 20 = .ok (.iconst 1, 1) := by decide +kernel
theorem dX4_branchesAt_21 : decode cX4_branchesAt 21 = .ok (.iload_n 3, 1) := by decide +kernel
theorem dX4_branchesAt_22 : decode cX4_branchesAt 22 = .ok (.ishl, 1) := by decide +kernel
theorem dX4_branchesAt_23 : decode cX4_branchesAt 23 = .ok (.ior, 1) := by decide +kernel
theorem dX4_branchesAt_24 : decode cX4_branchesAt 24 = .ok (.istore_n 2, 1) := by decide +kernel
theorem dX4_branchesAt_25 : decode cX4_branchesAt 25 = .ok (.iinc 3 1, 3) := by decide +kernel
theorem dX4_branchesAt_28 : decode cX4_branchesAt 28 = .ok (.goto (-24), 3) := by decide +kernel
theorem dX4_branchesAt_31 : decode cX4_branchesAt 31 = .ok (.iload_n 2, 1) := by decide +kernel
theorem dX4_branchesAt_32 : decode cX4_branchesAt 32 = .ok (.ireturn, 1) := by decide +kernel
set_option maxRecDepth 20000 in
theorem ggX4_cellAt_X3_block : GoodIn wsX4_cellAt wsX3_block := goodIn_r _ [7, 8, 9, 22, 23, 24, 25, 26] (by decide +kernel) (by decide +kernel)
set_option maxRecDepth 20000 in
theorem gX4_cellAt_X3_block : GoodIn wsX4_cellAt (wsV RX4 64 RX3 yX3_block wsX3_block) := goodIn_app (goodIn_of _ (by decide +kernel)) ggX4_cellAt_X3_block
set_option maxRecDepth 20000 in
theorem ggX4_cellAt_X0_cellOf : GoodIn wsX4_cellAt wsX0_cellOf := goodIn_r _ [14, 15, 27, 28, 29, 30] (by decide +kernel) (by decide +kernel)
set_option maxRecDepth 20000 in
theorem gX4_cellAt_X0_cellOf : GoodIn wsX4_cellAt (wsV RX4 68 RX0 yX0_cellOf wsX0_cellOf) := goodIn_app (goodIn_of _ (by decide +kernel)) ggX4_cellAt_X0_cellOf
theorem dX4_cellAt_0 : decode cX4_cellAt 0 = .ok (.aload_n 0, 1) := by decide +kernel
theorem dX4_cellAt_1 : decode cX4_cellAt 1 = .ok (.getfield 12, 3) := by decide +kernel
theorem dX4_cellAt_4 : decode cX4_cellAt 4 = .ok (.aload_n 0, 1) := by decide +kernel
theorem dX4_cellAt_5 : decode cX4_cellAt 5 = .ok (.getfield 21, 3) := by decide +kernel
theorem dX4_cellAt_8 : decode cX4_cellAt 8 = .ok (.iload_n 1, 1) := by decide +kernel
theorem dX4_cellAt_9 : decode cX4_cellAt 9 = .ok (.iload_n 2, 1) := by decide +kernel
theorem dX4_cellAt_10 : decode cX4_cellAt 10 = .ok (.bipush 8, 2) := by decide +kernel
theorem dX4_cellAt_12 : decode cX4_cellAt 12 = .ok (.idiv, 1) := by decide +kernel
theorem dX4_cellAt_13 : decode cX4_cellAt 13 = .ok (.invokevirtual 64, 3) := by decide +kernel
theorem dX4_cellAt_16 : decode cX4_cellAt 16 = .ok (.iload_n 2, 1) := by decide +kernel
theorem dX4_cellAt_17 : decode cX4_cellAt 17 = .ok (.bipush 8, 2) := by decide +kernel
theorem dX4_cellAt_19 : decode cX4_cellAt 19 = .ok (.irem, 1) := by decide +kernel
theorem dX4_cellAt_20 : decode cX4_cellAt 20 = .ok (.invokevirtual 68, 3) := by decide +kernel
theorem dX4_cellAt_23 : decode cX4_cellAt 23 = .ok (.ireturn, 1) := by decide +kernel
set_option maxRecDepth 20000 in
theorem ggX4_sumOfState_X3_block : GoodIn wsX4_sumOfState wsX3_block := goodIn_r _ [7, 8, 9, 26, 27, 28, 29, 30] (by decide +kernel) (by decide +kernel)
set_option maxRecDepth 20000 in
theorem gX4_sumOfState_X3_block : GoodIn wsX4_sumOfState (wsV RX4 64 RX3 yX3_block wsX3_block) := goodIn_app (goodIn_of _ (by decide +kernel)) ggX4_sumOfState_X3_block
set_option maxRecDepth 20000 in
theorem ggX4_sumOfState_X0_sumOf : GoodIn wsX4_sumOfState wsX0_sumOf := goodIn_r _ [14, 15, 16, 17, 13, 18, 19, 31, 32, 33, 34] (by decide +kernel) (by decide +kernel)
set_option maxRecDepth 20000 in
theorem gX4_sumOfState_X0_sumOf : GoodIn wsX4_sumOfState (wsV RX4 71 RX0 yX0_sumOf wsX0_sumOf) := goodIn_app (goodIn_of _ (by decide +kernel)) ggX4_sumOfState_X0_sumOf
theorem dX4_sumOfState_0 : decode cX4_sumOfState 0 = .ok (.iconst 0, 1) := by decide +kernel
theorem dX4_sumOfState_1 : decode cX4_sumOfState 1 = .ok (.istore_n 2, 1) := by decide +kernel
theorem dX4_sumOfState_2 : decode cX4_sumOfState 2 = .ok (.iconst 0, 1) := by decide +kernel
theorem dX4_sumOfState_3 : decode cX4_sumOfState 3 = .ok (.istore_n 3, 1) := by decide +kernel
theorem dX4_sumOfState_4 : decode cX4_sumOfState 4 = .ok (.iload_n 3, 1) := by decide +kernel
theorem dX4_sumOfState_5 : decode cX4_sumOfState 5 = .ok (.bipush 6, 2) := by decide +kernel
theorem dX4_sumOfState_7 : decode cX4_sumOfState 7 = .ok (.if_icmp .ge 28, 3) := by decide +kernel
theorem dX4_sumOfState_10 : decode cX4_sumOfState 10 = .ok (.iload_n 2, 1) := by decide +kernel
theorem dX4_sumOfState_11 : decode cX4_sumOfState 11 = .ok (.aload_n 0, 1) := by decide +kernel
theorem dX4_sumOfState_12 : decode cX4_sumOfState 12 = .ok (.getfield 12, 3) := by decide +kernel
theorem dX4_sumOfState_15 : decode cX4_sumOfState 15 = .ok (.aload_n 0, 1) := by decide +kernel
theorem dX4_sumOfState_16 : decode cX4_sumOfState 16 = .ok (.getfield 21, 3) := by decide +kernel
theorem dX4_sumOfState_19 : decode cX4_sumOfState 19 = .ok (.iload_n 1, 1) := by decide +kernel
theorem dX4_sumOfState_20 : decode cX4_sumOfState 20 = .ok (.iload_n 3, 1) := by decide +kernel
theorem dX4_sumOfState_21 : decode cX4_sumOfState 21 = .ok (.invokevirtual 64, 3) := by decide +kernel
theorem dX4_sumOfState_24 : decode cX4_sumOfState 24 = .ok (.invokevirtual 71, 3) := by decide +kernel
theorem dX4_sumOfState_27 : decode cX4_sumOfState 27 = .ok (.iadd, 1) := by decide +kernel
theorem dX4_sumOfState_28 : decode cX4_sumOfState 28 = .ok (.istore_n 2, 1) := by decide +kernel
theorem dX4_sumOfState_29 : decode cX4_sumOfState 29 = .ok (.iinc 3 1, 3) := by decide +kernel
theorem dX4_sumOfState_32 : decode cX4_sumOfState 32 = .ok (.goto (-28), 3) := by decide +kernel
theorem dX4_sumOfState_35 : decode cX4_sumOfState 35 = .ok (.iload_n 2, 1) := by decide +kernel
theorem dX4_sumOfState_36 : decode cX4_sumOfState 36 = .ok (.ireturn, 1) := by decide +kernel
set_option maxRecDepth 20000 in
theorem ggX4_unlikeCells_X4_cellAt : GoodIn wsX4_unlikeCells wsX4_cellAt := goodIn_r _ [5, 6, 7, 8, 9, 10, 11, 12, 13, 14, 15, 16, 17, 18, 19, 20, 21, 22, 23, 24, 25, 26, 27, 28, 29, 30, 31, 32, 33, 34, 35] (by decide +kernel) (by decide +kernel)
set_option maxRecDepth 20000 in
theorem gX4_unlikeCells_X4_cellAt : GoodIn wsX4_unlikeCells (wsV RX4 74 RX4 yX4_cellAt wsX4_cellAt) := goodIn_app (goodIn_of _ (by decide +kernel)) ggX4_unlikeCells_X4_cellAt
theorem dX4_unlikeCells_0 : decode cX4_unlikeCells 0 = .ok (.iconst 0, 1) := by decide +kernel
theorem dX4_unlikeCells_1 : decode cX4_unlikeCells 1 = .ok (.istore_n 3, 1) := by decide +kernel
theorem dX4_unlikeCells_2 : decode cX4_unlikeCells 2 = .ok (.iconst 0, 1) := by decide +kernel
theorem dX4_unlikeCells_3 : decode cX4_unlikeCells 3 = .ok (.istore 4, 2) := by decide +kernel
theorem dX4_unlikeCells_5 : decode cX4_unlikeCells 5 = .ok (.iload 4, 2) := by decide +kernel
theorem dX4_unlikeCells_7 : decode cX4_unlikeCells 7 = .ok (.bipush 48, 2) := by decide +kernel
theorem dX4_unlikeCells_9 : decode cX4_unlikeCells 9 = .ok (.if_icmp .ge 34, 3) := by decide +kernel
theorem dX4_unlikeCells_12 : decode cX4_unlikeCells 12 = .ok (.iload_n 3, 1) := by decide +kernel
theorem dX4_unlikeCells_13 : decode cX4_unlikeCells 13 = .ok (.aload_n 0, 1) := by decide +kernel
theorem dX4_unlikeCells_14 : decode cX4_unlikeCells 14 = .ok (.iload_n 1, 1) := by decide +kernel
theorem dX4_unlikeCells_15 : decode cX4_unlikeCells 15 = .ok (.iload 4, 2) := by decide +kernel
theorem dX4_unlikeCells_17 : decode cX4_unlikeCells 17 = .ok (.invokevirtual 74, 3) := by decide +kernel
theorem dX4_unlikeCells_20 : decode cX4_unlikeCells 20 = .ok (.aload_n 0, 1) := by decide +kernel
theorem dX4_unlikeCells_21 : decode cX4_unlikeCells 21 = .ok (.iload_n 2, 1) := by decide +kernel
theorem dX4_unlikeCells_22 : decode cX4_unlikeCells 22 = .ok (.iload 4, 2) := by decide +kernel
theorem dX4_unlikeCells_24 : decode cX4_unlikeCells 24 = .ok (.invokevirtual 74, 3) := by decide +kernel
theorem dX4_unlikeCells_27 : decode cX4_unlikeCells 27 = .ok (.if_icmp .eq 7, 3) := by decide +kernel
theorem dX4_unlikeCells_30 : decode cX4_unlikeCells 30 = .ok (.iconst 1, 1) := by decide +kernel
theorem dX4_unlikeCells_31 : decode cX4_unlikeCells 31 = .ok (.goto 4, 3) := by decide +kernel
theorem dX4_unlikeCells_34 : decode cX4_unlikeCells 34 = .ok (.iconst 0, 1) := by decide +kernel
theorem dX4_unlikeCells_35 : decode cX4_unlikeCells 35 = .ok (.iadd, 1) := by decide +kernel
theorem dX4_unlikeCells_36 : decode cX4_unlikeCells 36 = .ok (.istore_n 3, 1) := by decide +kernel
theorem dX4_unlikeCells_37 : decode cX4_unlikeCells 37 = .ok (.iinc 4 1, 3) := by decide +kernel
theorem dX4_unlikeCells_40 : decode cX4_unlikeCells 40 = .ok (.goto (-35), 3) := by decide +kernel
theorem dX4_unlikeCells_43 : decode cX4_unlikeCells 43 = .ok (.iload_n 3, 1) := by decide +kernel
theorem dX4_unlikeCells_44 : decode cX4_unlikeCells 44 = .ok (.ireturn, 1) := by decide +kernel
set_option maxRecDepth 20000 in
theorem ggX4_firstUnlikeCell_X4_cellAt : GoodIn wsX4_firstUnlikeCell wsX4_cellAt := goodIn_r _ [5, 6, 7, 8, 9, 10, 11, 12, 13, 14, 15, 16, 17, 18, 19, 20, 21, 22, 23, 24, 25, 26, 27, 28, 29, 30, 31, 32, 33, 34, 35] (by decide +kernel) (by decide +kernel)
set_option maxRecDepth 20000 in
theorem gX4_firstUnlikeCell_X4_cellAt : GoodIn wsX4_firstUnlikeCell (wsV RX4 74 RX4 yX4_cellAt wsX4_cellAt) := goodIn_app (goodIn_of _ (by decide +kernel)) ggX4_firstUnlikeCell_X4_cellAt
theorem dX4_firstUnlikeCell_0 : decode cX4_firstUnlikeCell 0 = .ok (.iconst 0, 1) := by decide +kernel
theorem dX4_firstUnlikeCell_1 : decode cX4_firstUnlikeCell 1 = .ok (.istore_n 3, 1) := by decide +kernel
theorem dX4_firstUnlikeCell_2 : decode cX4_firstUnlikeCell 2 = .ok (.iload_n 3, 1) := by decide +kernel
theorem dX4_firstUnlikeCell_3 : decode cX4_firstUnlikeCell 3 = .ok (.bipush 48, 2) := by decide +kernel
theorem dX4_firstUnlikeCell_5 : decode cX4_firstUnlikeCell 5 = .ok (.if_icmp .ge 26, 3) := by decide +kernel
theorem dX4_firstUnlikeCell_8 : decode cX4_firstUnlikeCell 8 = .ok (.aload_n 0, 1) := by decide +kernel
theorem dX4_firstUnlikeCell_9 : decode cX4_firstUnlikeCell 9 = .ok (.iload_n 1, 1) := by decide +kernel
theorem dX4_firstUnlikeCell_10 : decode cX4_firstUnlikeCell 10 = .ok (.iload_n 3, 1) := by decide +kernel
theorem dX4_firstUnlikeCell_11 : decode cX4_firstUnlikeCell 11 = .ok (.invokevirtual 74, 3) := by decide +kernel
theorem dX4_firstUnlikeCell_14 : decode cX4_firstUnlikeCell 14 = .ok (.aload_n 0, 1) := by decide +kernel
theorem dX4_firstUnlikeCell_15 : decode cX4_firstUnlikeCell 15 = .ok (.iload_n 2, 1) := by decide +kernel
theorem dX4_firstUnlikeCell_16 : decode cX4_firstUnlikeCell 16 = .ok (.iload_n 3, 1) := by decide +kernel
theorem dX4_firstUnlikeCell_17 : decode cX4_firstUnlikeCell 17 = .ok (.invokevirtual 74, 3) := by decide +kernel
theorem dX4_firstUnlikeCell_20 : decode cX4_firstUnlikeCell 20 = .ok (.if_icmp .eq 5, 3) := by decide +kernel
theorem dX4_firstUnlikeCell_23 : decode cX4_firstUnlikeCell 23 = .ok (.iload_n 3, 1) := by decide +kernel
theorem dX4_firstUnlikeCell_24 : decode cX4_firstUnlikeCell 24 = .ok (.ireturn, 1) := by decide +kernel
theorem dX4_firstUnlikeCell_25 : decode cX4_firstUnlikeCell 25 = .ok (.iinc 3 1, 3) := by decide +kernel
theorem dX4_firstUnlikeCell_28 : decode cX4_firstUnlikeCell 28 = .ok (.goto (-26), 3) := by decide +kernel
theorem dX4_firstUnlikeCell_31 : decode cX4_firstUnlikeCell 31 = .ok (.iconst (-1), 1) := by decide +kernel
theorem dX4_firstUnlikeCell_32 : decode cX4_firstUnlikeCell 32 = .ok (.ireturn, 1) := by decide +kernel
set_option maxRecDepth 20000 in
theorem ggX4_isItsOwn_X3_block : GoodIn wsX4_isItsOwn wsX3_block := goodIn_r _ [7, 8, 9, 30, 31, 32, 33, 34] (by decide +kernel) (by decide +kernel)
set_option maxRecDepth 20000 in
theorem gX4_isItsOwn_X3_block : GoodIn wsX4_isItsOwn (wsV RX4 64 RX3 yX3_block wsX3_block) := goodIn_app (goodIn_of _ (by decide +kernel)) ggX4_isItsOwn_X3_block
set_option maxRecDepth 20000 in
theorem ggX4_isItsOwn_X0_usesOf : GoodIn wsX4_isItsOwn wsX0_usesOf := goodIn_r _ [14, 15, 16, 17, 18, 35, 36, 37, 38] (by decide +kernel) (by decide +kernel)
set_option maxRecDepth 20000 in
theorem gX4_isItsOwn_X0_usesOf : GoodIn wsX4_isItsOwn (wsV RX4 77 RX0 yX0_usesOf wsX0_usesOf) := goodIn_app (goodIn_of _ (by decide +kernel)) ggX4_isItsOwn_X0_usesOf
set_option maxRecDepth 20000 in
theorem ggX4_isItsOwn_X3_placesWith : GoodIn wsX4_isItsOwn wsX3_placesWith := goodIn_r _ [22, 23, 4, 5, 6, 7, 8, 9, 30, 31, 32, 33, 34] (by decide +kernel) (by decide +kernel)
set_option maxRecDepth 20000 in
theorem gX4_isItsOwn_X3_placesWith : GoodIn wsX4_isItsOwn (wsV RX4 80 RX3 yX3_placesWith wsX3_placesWith) := goodIn_app (goodIn_of _ (by decide +kernel)) ggX4_isItsOwn_X3_placesWith
theorem dX4_isItsOwn_0 : decode cX4_isItsOwn 0 = .ok (.aload_n 0, 1) := by decide +kernel
theorem dX4_isItsOwn_1 : decode cX4_isItsOwn 1 = .ok (.getfield 21, 3) := by decide +kernel
theorem dX4_isItsOwn_4 : decode cX4_isItsOwn 4 = .ok (.iload_n 1, 1) := by decide +kernel
theorem dX4_isItsOwn_5 : decode cX4_isItsOwn 5 = .ok (.iload_n 2, 1) := by decide +kernel
theorem dX4_isItsOwn_6 : decode cX4_isItsOwn 6 = .ok (.invokevirtual 64, 3) := by decide +kernel
theorem dX4_isItsOwn_9 : decode cX4_isItsOwn 9 = .ok (.istore_n 3, 1) := by decide +kernel
theorem dX4_isItsOwn_10 : decode cX4_isItsOwn 10 = .ok (.aload_n 0, 1) := by decide +kernel
theorem dX4_isItsOwn_11 : decode cX4_isItsOwn 11 = .ok (.getfield 12, 3) := by decide +kernel
theorem dX4_isItsOwn_14 : decode cX4_isItsOwn 14 = .ok (.iload_n 3, 1) := by decide +kernel
theorem dX4_isItsOwn_15 : decode cX4_isItsOwn 15 = .ok (.invokevirtual 77, 3) := by decide +kernel
theorem dX4_isItsOwn_18 : decode cX4_isItsOwn 18 = .ok (.aload_n 0, 1) := by decide +kernel
theorem dX4_isItsOwn_19 : decode cX4_isItsOwn 19 = .ok (.getfield 21, 3) := by decide +kernel
theorem dX4_isItsOwn_22 : decode cX4_isItsOwn 22 = .ok (.iload_n 1, 1) := by decide +kernel
theorem dX4_isItsOwn_23 : decode cX4_isItsOwn 23 = .ok (.iload_n 3, 1) := by decide +kernel
theorem dX4_isItsOwn_24 : decode cX4_isItsOwn 24 = .ok (.invokevirtual 80, 3) := by decide +kernel
theorem dX4_isItsOwn_27 : decode cX4_isItsOwn 27 = .ok (.if_icmp .ne 7, 3) := by decide +kernel
theorem dX4_isItsOwn_30 : decode cX4_isItsOwn 30 = .ok (.iconst 1, 1) := by decide +kernel
theorem dX4_isItsOwn_31 : decode cX4_isItsOwn 31 = .ok (.goto 4, 3) := by decide +kernel
theorem dX4_isItsOwn_34 : decode cX4_isItsOwn 34 = .ok (.iconst 0, 1) := by decide +kernel
theorem dX4_isItsOwn_35 : decode cX4_isItsOwn 35 = .ok (.ireturn, 1) := by decide +kernel
set_option maxRecDepth 20000 in
theorem ggX4_placesOfItsOwn_X4_isItsOwn : GoodIn wsX4_placesOfItsOwn wsX4_isItsOwn := goodIn_r _ [5, 6, 7, 8, 9, 10, 11, 12, 13, 14, 15, 16, 17, 18, 19, 20, 21, 22, 23, 24, 25, 26, 27, 28, 29, 30, 31, 32, 33, 34, 35, 36, 37, 38, 39, 40, 41, 42, 43] (by decide +kernel) (by decide +kernel)
set_option maxRecDepth 20000 in
theorem gX4_placesOfItsOwn_X4_isItsOwn : GoodIn wsX4_placesOfItsOwn (wsV RX4 83 RX4 yX4_isItsOwn wsX4_isItsOwn) := goodIn_app (goodIn_of _ (by decide +kernel)) ggX4_placesOfItsOwn_X4_isItsOwn
theorem dX4_placesOfItsOwn_0 : decode cX4_placesOfItsOwn 0 = .ok (.iconst 0, 1) := by decide +kernel
theorem dX4_placesOfItsOwn_1 : decode cX4_placesOfItsOwn 1 = .ok (.istore_n 2, 1) := by decide +kernel
theorem dX4_placesOfItsOwn_2 : decode cX4_placesOfItsOwn 2 = .ok (.iconst 0, 1) := by decide +kernel
theorem dX4_placesOfItsOwn_3 : decode cX4_placesOfItsOwn 3 = .ok (.istore_n 3, 1) := by decide +kernel
theorem dX4_placesOfItsOwn_4 : decode cX4_placesOfItsOwn 4 = .ok (.iload_n 3, 1) := by decide +kernel
theorem dX4_placesOfItsOwn_5 : decode cX4_placesOfItsOwn 5 = .ok (.bipush 6, 2) := by decide +kernel
theorem dX4_placesOfItsOwn_7 : decode cX4_placesOfItsOwn 7 = .ok (.if_icmp .ge 26, 3) := by decide +kernel
theorem dX4_placesOfItsOwn_10 : decode cX4_placesOfItsOwn 10 = .ok (.iload_n 2, 1) := by decide +kernel
theorem dX4_placesOfItsOwn_11 : decode cX4_placesOfItsOwn 11 = .ok (.aload_n 0, 1) := by decide +kernel
theorem dX4_placesOfItsOwn_12 : decode cX4_placesOfItsOwn 12 = .ok (.iload_n 1, 1) := by decide +kernel
theorem dX4_placesOfItsOwn_13 : decode cX4_placesOfItsOwn 13 = .ok (.iload_n 3, 1) := by decide +kernel
theorem dX4_placesOfItsOwn_14 : decode cX4_placesOfItsOwn 14 = .ok (.invokevirtual 83, 3) := by decide +kernel
theorem dX4_placesOfItsOwn_17 : decode cX4_placesOfItsOwn 17 = .ok (.ifCond .eq 7, 3) := by decide +kernel
theorem dX4_placesOfItsOwn_20 : decode cX4_placesOfItsOwn 20 = .ok (.iconst 1, 1) := by decide +kernel
theorem dX4_placesOfItsOwn_21 : decode cX4_placesOfItsOwn 21 = .ok (.goto 4, 3) := by decide +kernel
theorem dX4_placesOfItsOwn_24 : decode cX4_placesOfItsOwn 24 = .ok (.iconst 0, 1) := by decide +kernel
theorem dX4_placesOfItsOwn_25 : decode cX4_placesOfItsOwn 25 = .ok (.iadd, 1) := by decide +kernel
theorem dX4_placesOfItsOwn_26 : decode cX4_placesOfItsOwn 26 = .ok (.istore_n 2, 1) := by decide +kernel
theorem dX4_placesOfItsOwn_27 : decode cX4_placesOfItsOwn 27 = .ok (.iinc 3 1, 3) := by decide +kernel
theorem dX4_placesOfItsOwn_30 : decode cX4_placesOfItsOwn 30 = .ok (.goto (-26), 3) := by decide +kernel
theorem dX4_placesOfItsOwn_33 : decode cX4_placesOfItsOwn 33 = .ok (.iload_n 2, 1) := by decide +kernel
theorem dX4_placesOfItsOwn_34 : decode cX4_placesOfItsOwn 34 = .ok (.ireturn, 1) := by decide +kernel
set_option maxRecDepth 20000 in
theorem ggX4_blocksOfItsOwn_X4_isItsOwn : GoodIn wsX4_blocksOfItsOwn wsX4_isItsOwn := goodIn_r _ [6, 1, 7, 8, 9, 10, 11, 12, 13, 14, 15, 16, 17, 18, 19, 20, 21, 22, 23, 24, 25, 26, 27, 28, 33, 34, 35, 36, 37, 38, 39, 40, 41, 42, 43, 44, 45, 46, 47] (by decide +kernel) (by decide +kernel)
set_option maxRecDepth 20000 in
theorem gX4_blocksOfItsOwn_X4_isItsOwn : GoodIn wsX4_blocksOfItsOwn (wsV RX4 83 RX4 yX4_isItsOwn wsX4_isItsOwn) := goodIn_app (goodIn_of _ (by decide +kernel)) ggX4_blocksOfItsOwn_X4_isItsOwn
set_option maxRecDepth 20000 in
theorem ggX4_blocksOfItsOwn_X3_isFirstPlace : GoodIn wsX4_blocksOfItsOwn wsX3_isFirstPlace := goodIn_r _ [32, 28, 9, 10, 11, 12, 13, 14, 39, 40, 41, 42, 43] (by decide +kernel) (by decide +kernel)
set_option maxRecDepth 20000 in
theorem gX4_blocksOfItsOwn_X3_isFirstPlace : GoodIn wsX4_blocksOfItsOwn (wsV RX4 86 RX3 yX3_isFirstPlace wsX3_isFirstPlace) := goodIn_app (goodIn_of _ (by decide +kernel)) ggX4_blocksOfItsOwn_X3_isFirstPlace
theorem dX4_blocksOfItsOwn_0 : decode cX4_blocksOfItsOwn 0 = .ok (.iconst 0, 1) := by decide +kernel
theorem dX4_blocksOfItsOwn_1 : decode cX4_blocksOfItsOwn 1 = .ok (.istore_n 2, 1) := by decide +kernel
theorem dX4_blocksOfItsOwn_2 : decode cX4_blocksOfItsOwn 2 = .ok (.iconst 0, 1) := by decide +kernel
theorem dX4_blocksOfItsOwn_3 : decode cX4_blocksOfItsOwn 3 = .ok (.istore_n 3, 1) := by decide +kernel
theorem dX4_blocksOfItsOwn_4 : decode cX4_blocksOfItsOwn 4 = .ok (.iload_n 3, 1) := by decide +kernel
theorem dX4_blocksOfItsOwn_5 : decode cX4_blocksOfItsOwn 5 = .ok (.bipush 6, 2) := by decide +kernel
theorem dX4_blocksOfItsOwn_7 : decode cX4_blocksOfItsOwn 7 = .ok (.if_icmp .ge 38, 3) := by decide +kernel
theorem dX4_blocksOfItsOwn_10 : decode cX4_blocksOfItsOwn 10 = .ok (.iload_n 2, 1) := by decide +kernel
theorem dX4_blocksOfItsOwn_11 : decode cX4_blocksOfItsOwn 11 = .ok (.aload_n 0, 1) := by decide +kernel
theorem dX4_blocksOfItsOwn_12 : decode cX4_blocksOfItsOwn 12 = .ok (.iload_n 1, 1) := by decide +kernel
theorem dX4_blocksOfItsOwn_13 : decode cX4_blocksOfItsOwn 13 = .ok (.iload_n 3, 1) := by decide +kernel
theorem dX4_blocksOfItsOwn_14 : decode cX4_blocksOfItsOwn 14 = .ok (.invokevirtual 83, 3) := by decide +kernel
theorem dX4_blocksOfItsOwn_17 : decode cX4_blocksOfItsOwn 17 = .ok (.ifCond .eq 19, 3) := by decide +kernel
theorem dX4_blocksOfItsOwn_20 : decode cX4_blocksOfItsOwn 20 = .ok (.aload_n 0, 1) := by decide +kernel
theorem dX4_blocksOfItsOwn_21 : decode cX4_blocksOfItsOwn 21 = .ok (.getfield 21, 3) := by decide +kernel
theorem dX4_blocksOfItsOwn_24 : decode cX4_blocksOfItsOwn 24 = .ok (.iload_n 1, 1) := by decide +kernel
theorem dX4_blocksOfItsOwn_25 : decode cX4_blocksOfItsOwn 25 = .ok (.iload_n 3, 1) := by decide +kernel
theorem dX4_blocksOfItsOwn_26 : decode cX4_blocksOfItsOwn 26 = .ok (.invokevirtual 86, 3) := by decide +kernel
theorem dX4_blocksOfItsOwn_29 : decode cX4_blocksOfItsOwn 29 = .ok (.ifCond .eq 7, 3) := by decide +kernel
theorem dX4_blocksOfItsOwn_32 : decode cX4_blocksOfItsOwn 32 = .ok (.iconst 1, 1) := by decide +kernel
theorem dX4_blocksOfItsOwn_33 : decode cX4_blocksOfItsOwn 33 = .ok (.goto 4, 3) := by decide +kernel
theorem dX4_blocksOfItsOwn_36 : decode cX4_blocksOfItsOwn 36 = .ok (.iconst 0, 1) := by decide +kernel
theorem dX4_blocksOfItsOwn_37 : decode cX4_blocksOfItsOwn 37 = .ok (.iadd, 1) := by decide +kernel
theorem dX4_blocksOfItsOwn_38 : decode cX4_blocksOfItsOwn 38 = .ok (.istore_n 2, 1) := by decide +kernel
theorem dX4_blocksOfItsOwn_39 : decode cX4_blocksOfItsOwn 39 = .ok (.iinc 3 1, 3) := by decide +kernel
theorem dX4_blocksOfItsOwn_42 : decode cX4_blocksOfItsOwn 42 = .ok (.goto (-38), 3) := by decide +kernel
theorem dX4_blocksOfItsOwn_45 : decode cX4_blocksOfItsOwn 45 = .ok (.iload_n 2, 1) := by decide +kernel
theorem dX4_blocksOfItsOwn_46 : decode cX4_blocksOfItsOwn 46 = .ok (.ireturn, 1) := by decide +kernel
set_option maxRecDepth 20000 in
theorem ggX4_canForget_X3_numberOf : GoodIn wsX4_canForget wsX3_numberOf := goodIn_r _ [6, 7, 8, 21, 22, 23, 24, 25] (by decide +kernel) (by decide +kernel)
set_option maxRecDepth 20000 in
theorem gX4_canForget_X3_numberOf : GoodIn wsX4_canForget (wsV RX4 89 RX3 yX3_numberOf wsX3_numberOf) := goodIn_app (goodIn_of _ (by decide +kernel)) ggX4_canForget_X3_numberOf
set_option maxRecDepth 20000 in
theorem ggX4_canForget_X4_branchesAt : GoodIn wsX4_canForget wsX4_branchesAt := goodIn_r _ [13, 14, 15, 16, 17, 18, 19, 20] (by decide +kernel) (by decide +kernel)
set_option maxRecDepth 20000 in
theorem gX4_canForget_X4_branchesAt : GoodIn wsX4_canForget (wsV RX4 92 RX4 yX4_branchesAt wsX4_branchesAt) := goodIn_app (goodIn_of _ (by decide +kernel)) ggX4_canForget_X4_branchesAt
theorem dX4_canForget_0 : decode cX4_canForget 0 = .ok (.iload_n 1, 1) := by decide +kernel
theorem dX4_canForget_1 : decode cX4_canForget 1 = .ok (.ifCond .le 22, 3) := by decide +kernel
theorem dX4_canForget_4 : decode cX4_canForget 4 = .ok (.aload_n 0, 1) := by decide +kernel
theorem dX4_canForget_5 : decode cX4_canForget 5 = .ok (.aload_n 0, 1) := by decide +kernel
theorem dX4_canForget_6 : decode cX4_canForget 6 = .ok (.getfield 21, 3) := by decide +kernel
theorem dX4_canForget_9 : decode cX4_canForget 9 = .ok (.iload_n 1, 1) := by decide +kernel
theorem dX4_canForget_10 : decode cX4_canForget 10 = .ok (.invokevirtual 89, 3) := by decide +kernel
theorem dX4_canForget_13 : decode cX4_canForget 13 = .ok (.invokevirtual 92, 3) := by decide +kernel
theorem dX4_canForget_16 : decode cX4_canForget 16 = .ok (.ifCond .ne 7, 3) := by decide +kernel
theorem dX4_canForget_19 : decode cX4_canForget 19 = .ok (.iconst 1, 1) := by decide +kernel
theorem dX4_canForget_20 : decode cX4_canForget 20 = .ok (.goto 4, 3) := by decide +kernel
theorem dX4_canForget_23 : decode cX4_canForget 23 = .ok (.iconst 0, 1) := by decide +kernel
theorem dX4_canForget_24 : decode cX4_canForget 24 = .ok (.ireturn, 1) := by decide +kernel
set_option maxRecDepth 20000 in
theorem ggX4_draftState_X4_cellAt : GoodIn wsX4_draftState wsX4_cellAt := goodIn_r _ [6, 7, 8, 9, 10, 11, 12, 13, 14, 15, 16, 17, 18, 19, 20, 21, 22, 23, 24, 25, 26, 27, 28, 29, 30, 31, 32, 33, 34, 35, 36] (by decide +kernel) (by decide +kernel)
set_option maxRecDepth 20000 in
theorem gX4_draftState_X4_cellAt : GoodIn wsX4_draftState (wsV RX4 74 RX4 yX4_cellAt wsX4_cellAt) := goodIn_app (goodIn_of _ (by decide +kernel)) ggX4_draftState_X4_cellAt
theorem dX4_draftState_0 : decode cX4_draftState 0 = .ok (.iconst 0, 1) := by decide +kernel
theorem dX4_draftState_1 : decode cX4_draftState 1 = .ok (.istore_n 2, 1) := by decide +kernel
theorem dX4_draftState_2 : decode cX4_draftState 2 = .ok (.iload_n 2, 1) := by decide +kernel
theorem dX4_draftState_3 : decode cX4_draftState 3 = .ok (.bipush 48, 2) := by decide +kernel
theorem dX4_draftState_5 : decode cX4_draftState 5 = .ok (.if_icmp .ge 21, 3) := by decide +kernel
theorem dX4_draftState_8 : decode cX4_draftState 8 = .ok (.aload_n 0, 1) := by decide +kernel
theorem dX4_draftState_9 : decode cX4_draftState 9 = .ok (.getfield 29, 3) := by decide +kernel
theorem dX4_draftState_12 : decode cX4_draftState 12 = .ok (.iload_n 2, 1) := by decide +kernel
theorem dX4_draftState_13 : decode cX4_draftState 13 = .ok (.aload_n 0, 1) := by decide +kernel
theorem dX4_draftState_14 : decode cX4_draftState 14 = .ok (.iload_n 1, 1) := by decide +kernel
theorem dX4_draftState_15 : decode cX4_draftState 15 = .ok (.iload_n 2, 1) := by decide +kernel
theorem dX4_draftState_16 : decode cX4_draftState 16 = .ok (.invokevirtual 74, 3) := by decide +kernel
theorem dX4_draftState_19 : decode cX4_draftState 19 = .ok (.iastore, 1) := by decide +kernel
theorem dX4_draftState_20 : decode cX4_draftState 20 = .ok (.iinc 2 1, 3) := by decide +kernel
theorem dX4_draftState_23 : decode cX4_draftState 23 = .ok (.goto (-21), 3) := by decide +kernel
theorem dX4_draftState_26 : decode cX4_draftState 26 = .ok (.return_, 1) := by decide +kernel
set_option maxRecDepth 20000 in
theorem ggX4_fillCells_X4_headSlot : GoodIn wsX4_fillCells wsX4_headSlot := goodIn_r _ [7, 8, 9, 10, 11, 12, 6, 13, 14, 15, 16, 17, 18, 19, 20, 21, 22, 23, 89, 90, 91, 92, 93, 94, 95, 96, 97, 98, 99] (by decide +kernel) (by decide +kernel)
set_option maxRecDepth 20000 in
theorem gX4_fillCells_X4_headSlot : GoodIn wsX4_fillCells (wsV RX4 95 RX4 yX4_headSlot wsX4_headSlot) := goodIn_app (goodIn_of _ (by decide +kernel)) ggX4_fillCells_X4_headSlot
set_option maxRecDepth 20000 in
theorem ggX4_fillCells_X5_isRange : GoodIn wsX4_fillCells wsX5_isRange := goodIn_r _ [25, 26, 14, 15, 16] (by decide +kernel) (by decide +kernel)
set_option maxRecDepth 20000 in
theorem gX4_fillCells_X5_isRange_n98 : GoodIn wsX4_fillCells (wsX5_isRange) := ggX4_fillCells_X5_isRange
set_option maxRecDepth 20000 in
theorem ggX4_fillCells_X5_isIndex : GoodIn wsX4_fillCells wsX5_isIndex := goodIn_r _ [16] (by decide +kernel) (by decide +kernel)
set_option maxRecDepth 20000 in
theorem gX4_fillCells_X5_isIndex_n52 : GoodIn wsX4_fillCells (wsX5_isIndex) := ggX4_fillCells_X5_isIndex
set_option maxRecDepth 20000 in
theorem ggX4_fillCells_X4_draftState : GoodIn wsX4_fillCells wsX4_draftState := goodIn_r _ [30, 2, 31, 32, 33, 6, 34, 35, 8, 36, 37, 38, 20, 39, 22, 40, 41, 42, 43, 44, 45, 46, 89, 90, 91, 92, 93, 94, 95, 96, 97, 98, 99, 100, 101, 102, 103] (by decide +kernel) (by decide +kernel)
set_option maxRecDepth 20000 in
theorem gX4_fillCells_X4_draftState : GoodIn wsX4_fillCells (wsV RX4 102 RX4 yX4_draftState wsX4_draftState) := goodIn_app (goodIn_of _ (by decide +kernel)) ggX4_fillCells_X4_draftState
set_option maxRecDepth 20000 in
theorem ggX4_fillCells_X4_addDraft : GoodIn wsX4_fillCells wsX4_addDraft := goodIn_r _ [50, 8, 51, 52, 35, 2, 53, 54, 55, 9, 36, 37, 38, 20, 39, 22, 40, 56, 57, 58, 44, 59, 60, 46, 61, 62, 63, 64, 65, 66, 67, 68, 69, 70, 71, 72, 73, 74, 75, 76, 77, 78, 14, 15, 16, 79, 80, 81, 82, 23, 83, 84, 85, 86, 87, 88, 89, 90, 91, 92, 93, 94, 95, 96, 97, 98, 99, 100, 101, 102, 103] (by decide +kernel) (by decide +kernel)
set_option maxRecDepth 20000 in
theorem gX4_fillCells_X4_addDraft : GoodIn wsX4_fillCells (wsV RX4 106 RX4 yX4_addDraft wsX4_addDraft) := goodIn_app (goodIn_of _ (by decide +kernel)) ggX4_fillCells_X4_addDraft
theorem dX4_fillCells_0 : decode cX4_fillCells 0 = .ok (.aload_n 0, 1) := by decide +kernel
theorem dX4_fillCells_1 : decode cX4_fillCells 1 = .ok (.iload_n 1, 1) := by decide +kernel
theorem dX4_fillCells_2 : decode cX4_fillCells 2 = .ok (.invokevirtual 95, 3) := by decide +kernel
theorem dX4_fillCells_5 : decode cX4_fillCells 5 = .ok (.istore 5, 2) := by decide +kernel
theorem dX4_fillCells_7 : decode cX4_fillCells 7 = .ok (.iload 5, 2) := by decide +kernel
theorem dX4_fillCells_9 : decode cX4_fillCells 9 = .ok (.ifCond .lt 22, 3) := by decide +kernel
theorem dX4_fillCells_12 : decode cX4_fillCells 12 = .ok (.iload_n 2, 1) := by decide +kernel
theorem dX4_fillCells_13 : decode cX4_fillCells 13 = .ok (.iload_n 3, 1) := by decide +kernel
theorem dX4_fillCells_14 : decode cX4_fillCells 14 = .ok (.invokestatic 98, 3) := by decide +kernel
theorem dX4_fillCells_17 : decode cX4_fillCells 17 = .ok (.ifCond .eq 14, 3) := by decide +kernel
theorem dX4_fillCells_20 : decode cX4_fillCells 20 = .ok (.iload 4, 2) := by decide +kernel
theorem dX4_fillCells_22 : decode cX4_fillCells 22 = .ok (.sipush 1000, 3) := by decide +kernel
theorem dX4_fillCells_25 : decode cX4_fillCells 25 = .ok (.invokestatic 52, 3) := by decide +kernel
theorem dX4_fillCells_28 : decode cX4_fillCells 28 = .ok (.ifCond .ne 6, 3) := by decide +kernel
theorem dX4_fillCells_31 : decode cX4_fillCells 31 = .ok (.ldc 101, 2) := by decide +kernel
theorem dX4_fillCells_33 : decode cX4_fillCells 33 = .ok (.ireturn, 1) := by decide +kernel
theorem dX4_fillCells_34 : decode cX4_fillCells 34 = .ok (.aload_n 0, 1) := by decide +kernel
theorem dX4_fillCells_35 : decode cX4_fillCells 35 = .ok (.iload 5, 2) := by decide +kernel
theorem dX4_fillCells_37 : decode cX4_fillCells 37 = .ok (.invokevirtual 102, 3) := by decide +kernel
theorem dX4_fillCells_40 : decode cX4_fillCells 40 = .ok (.iconst 0, 1) := by decide +kernel
theorem dX4_fillCells_41 : decode cX4_fillCells 41 = .ok (.istore 6, 2) := by decide +kernel
theorem dX4_fillCells_43 : decode cX4_fillCells 43 = .ok (.iload 6, 2) := by decide +kernel
theorem dX4_fillCells_45 : decode cX4_fillCells 45 = .ok (.iload_n 3, 1) := by decide +kernel
theorem dX4_fillCells_46 : decode cX4_fillCells 46 = .ok (.if_icmp .ge 20, 3) := by decide +kernel
theorem dX4_fillCells_49 : decode cX4_fillCells 49 = .ok (.aload_n 0, 1) := by decide +kernel
theorem dX4_fillCells_50 : decode cX4_fillCells 50 = .ok (.getfield 29, 3) := by decide +kernel
theorem dX4_fillCells_53 : decode cX4_fillCells 53 = .ok (.iload_n 2, 1) := by decide +kernel
theorem dX4_fillCells_54 : decode cX4_fillCells 54 = .ok (.iload 6, 2) := by decide +kernel
theorem dX4_fillCells_56 : decode cX4_fillCells 56 = .ok (.iadd, 1) := by decide +kernel
theorem dX4_fillCells_57 : decode cX4_fillCells 57 = .ok (.iload 4, 2) := by decide +kernel
theorem dX4_fillCells_59 : decode cX4_fillCells 59 = .ok (.iastore, 1) := by decide +kernel
theorem dX4_fillCells_60 : decode cX4_fillCells 60 = .ok (.iinc 6 1, 3) := by decide +kernel
theorem dX4_fillCells_63 : decode cX4_fillCells 63 = .ok (.goto (-20), 3) := by decide +kernel
theorem dX4_fillCells_66 : decode cX4_fillCells 66 = .ok (.aload_n 0, 1) := by decide +kernel
theorem dX4_fillCells_67 : decode cX4_fillCells 67 = .ok (.iload_n 1, 1) := by decide +kernel
theorem dX4_fillCells_68 : decode cX4_fillCells 68 = .ok (.iload 5, 2) := by decide +kernel
theorem dX4_fillCells_70 : decode cX4_fillCells 70 = .ok (.invokevirtual 106, 3) := by decide +kernel
theorem dX4_fillCells_73 : decode cX4_fillCells 73 = .ok (.ireturn, 1) := by decide +kernel
set_option maxRecDepth 20000 in
theorem ggX4_copyCells_X4_headSlot : GoodIn wsX4_copyCells wsX4_headSlot := goodIn_r _ [8, 1, 9, 10, 11, 12, 7, 13, 14, 15, 16, 17, 18, 19, 20, 21, 22, 23, 89, 90, 91, 92, 93, 94, 95, 96, 97, 98, 99] (by decide +kernel) (by decide +kernel)
set_option maxRecDepth 20000 in
theorem gX4_copyCells_X4_headSlot : GoodIn wsX4_copyCells (wsV RX4 95 RX4 yX4_headSlot wsX4_headSlot) := goodIn_app (goodIn_of _ (by decide +kernel)) ggX4_copyCells_X4_headSlot
set_option maxRecDepth 20000 in
theorem ggX4_copyCells_X3_slotOf : GoodIn wsX4_copyCells wsX3_slotOf := goodIn_r _ [21, 22, 23, 95, 96, 97, 98, 99] (by decide +kernel) (by decide +kernel)
set_option maxRecDepth 20000 in
theorem gX4_copyCells_X3_slotOf : GoodIn wsX4_copyCells (wsV RX4 60 RX3 yX3_slotOf wsX3_slotOf) := goodIn_app (goodIn_of _ (by decide +kernel)) ggX4_copyCells_X3_slotOf
set_option maxRecDepth 20000 in
theorem ggX4_copyCells_X5_isRange : GoodIn wsX4_copyCells wsX5_isRange := goodIn_r _ [25, 26, 14, 15, 16] (by decide +kernel) (by decide +kernel)
set_option maxRecDepth 20000 in
theorem gX4_copyCells_X5_isRange_n98 : GoodIn wsX4_copyCells (wsX5_isRange) := ggX4_copyCells_X5_isRange
set_option maxRecDepth 20000 in
theorem ggX4_copyCells_X4_draftState : GoodIn wsX4_copyCells wsX4_draftState := goodIn_r _ [30, 3, 31, 32, 33, 7, 34, 35, 1, 36, 37, 38, 20, 39, 22, 40, 41, 42, 43, 44, 45, 46, 89, 90, 91, 92, 93, 94, 95, 96, 97, 98, 99, 100, 101, 102, 103] (by decide +kernel) (by decide +kernel)
set_option maxRecDepth 20000 in
theorem gX4_copyCells_X4_draftState : GoodIn wsX4_copyCells (wsV RX4 102 RX4 yX4_draftState wsX4_draftState) := goodIn_app (goodIn_of _ (by decide +kernel)) ggX4_copyCells_X4_draftState
set_option maxRecDepth 20000 in
theorem ggX4_copyCells_X4_cellAt : GoodIn wsX4_copyCells wsX4_cellAt := goodIn_r _ [34, 35, 1, 36, 37, 38, 20, 39, 22, 40, 41, 42, 43, 44, 45, 46, 89, 90, 91, 92, 93, 94, 95, 96, 97, 98, 99, 100, 101, 102, 103] (by decide +kernel) (by decide +kernel)
set_option maxRecDepth 20000 in
theorem gX4_copyCells_X4_cellAt : GoodIn wsX4_copyCells (wsV RX4 74 RX4 yX4_cellAt wsX4_cellAt) := goodIn_app (goodIn_of _ (by decide +kernel)) ggX4_copyCells_X4_cellAt
set_option maxRecDepth 20000 in
theorem ggX4_copyCells_X4_addDraft : GoodIn wsX4_copyCells wsX4_addDraft := goodIn_r _ [50, 1, 51, 52, 35, 3, 53, 54, 55, 9, 36, 37, 38, 20, 39, 22, 40, 56, 57, 58, 44, 59, 60, 46, 61, 62, 63, 64, 65, 66, 67, 68, 69, 70, 71, 72, 73, 74, 75, 76, 77, 78, 14, 15, 16, 79, 80, 81, 82, 23, 83, 84, 85, 86, 87, 88, 89, 90, 91, 92, 93, 94, 95, 96, 97, 98, 99, 100, 101, 102, 103] (by decide +kernel) (by decide +kernel)
set_option maxRecDepth 20000 in
theorem gX4_copyCells_X4_addDraft : GoodIn wsX4_copyCells (wsV RX4 106 RX4 yX4_addDraft wsX4_addDraft) := goodIn_app (goodIn_of _ (by decide +kernel)) ggX4_copyCells_X4_addDraft
theorem dX4_copyCells_0 : decode cX4_copyCells 0 = .ok (.aload_n 0, 1) := by decide +kernel
theorem dX4_copyCells_1 : decode cX4_copyCells 1 = .ok (.iload_n 1, 1) := by decide +kernel
theorem dX4_copyCells_2 : decode cX4_copyCells 2 = .ok (.invokevirtual 95, 3) := by decide +kernel
theorem dX4_copyCells_5 : decode cX4_copyCells 5 = .ok (.istore 6, 2) := by decide +kernel
theorem dX4_copyCells_7 : decode cX4_copyCells 7 = .ok (.aload_n 0, 1) := by decide +kernel
theorem dX4_copyCells_8 : decode cX4_copyCells 8 = .ok (.getfield 21, 3) := by decide +kernel
theorem dX4_copyCells_11 : decode cX4_copyCells 11 = .ok (.iload_n 2, 1) := by decide +kernel
theorem dX4_copyCells_12 : decode cX4_copyCells 12 = .ok (.invokevirtual 60, 3) := by decide +kernel
theorem dX4_copyCells_15 : decode cX4_copyCells 15 = .ok (.istore 7, 2) := by decide +kernel
theorem dX4_copyCells_17 : decode cX4_copyCells 17 = .ok (.iload 6, 2) := by decide +kernel
theorem dX4_copyCells_19 : decode cX4_copyCells 19 = .ok (.ifCond .lt 27, 3) := by decide +kernel
theorem dX4_copyCells_22 : decode cX4_copyCells 22 = .ok (.iload 7, 2) := by decide +kernel
theorem dX4_copyCells_24 : decode cX4_copyCells 24 = .ok (.ifCond .lt 22, 3) := by decide +kernel
theorem dX4_copyCells_27 : decode cX4_copyCells 27 = .ok (.iload_n 3, 1) := by decide +kernel
theorem dX4_copyCells_28 : decode cX4_copyCells 28 = .ok (.iload 5, 2) := by decide +kernel
theorem dX4_copyCells_30 : decode cX4_copyCells 30 = .ok (.invokestatic 98, 3) := by decide +kernel
theorem dX4_copyCells_33 : decode cX4_copyCells 33 = .ok (.ifCond .eq 13, 3) := by decide +kernel
theorem dX4_copyCells_36 : decode cX4_copyCells 36 = .ok (.iload 4, 2) := by decide +kernel
theorem dX4_copyCells_38 : decode cX4_copyCells 38 = .ok (.iload 5, 2) := by decide +kernel
theorem dX4_copyCells_40 : decode cX4_copyCells 40 = .ok (.invokestatic 98, 3) := by decide +kernel
theorem dX4_copyCells_43 : decode cX4_copyCells 43 = .ok (.ifCond .ne 6, 3) := by decide +kernel
theorem dX4_copyCells_46 : decode cX4_copyCells 46 = .ok (.ldc 101, 2) := by decide +kernel
theorem dX4_copyCells_48 : decode cX4_copyCells 48 = .ok (.ireturn, 1) := by decide +kernel
theorem dX4_copyCells_49 : decode cX4_copyCells 49 = .ok (.aload_n 0, 1) := by decide +kernel
theorem dX4_copyCells_50 : decode cX4_copyCells 50 = .ok (.iload 6, 2) := by decide +kernel
theorem dX4_copyCells_52 : decode cX4_copyCells 52 = .ok (.invokevirtual 102, 3) := by decide +kernel
theorem dX4_copyCells_55 : decode cX4_copyCells 55 = .ok (.iconst 0, 1) := by decide +kernel
theorem dX4_copyCells_56 : decode cX4_copyCells 56 = .ok (.istore 8, 2) := by decide +kernel
theorem dX4_copyCells_58 : decode cX4_copyCells 58 = .ok (.iload 8, 2) := by decide +kernel
theorem dX4_copyCells_60 : decode cX4_copyCells 60 = .ok (.iload 5, 2) := by decide +kernel
theorem dX4_copyCells_62 : decode cX4_copyCells 62 = .ok (.if_icmp .ge 29, 3) := by decide +kernel
theorem dX4_copyCells_65 : decode cX4_copyCells 65 = .ok (.aload_n 0, 1) := by decide +kernel
theorem dX4_copyCells_66 : decode cX4_copyCells 66 = .ok (.getfield 29, 3) := by decide +kernel
theorem dX4_copyCells_69 : decode cX4_copyCells 69 = .ok (.iload 4, 2) := by decide +kernel
theorem dX4_copyCells_71 : decode cX4_copyCells 71 = .ok (.iload 8, 2) := by decide +kernel
theorem dX4_copyCells_73 : decode cX4_copyCells 73 = .ok (.iadd, 1) := by decide +kernel
theorem dX4_copyCells_74 : decode cX4_copyCells 74 = .ok (.aload_n 0, 1) := by decide +kernel
theorem dX4_copyCells_75 : decode cX4_copyCells 75 = .ok (.iload 7, 2) := by decide +kernel
theorem dX4_copyCells_77 : decode cX4_copyCells 77 = .ok (.iload_n 3, 1) := by decide +kernel
theorem dX4_copyCells_78 : decode cX4_copyCells 78 = .ok (.iload 8, 2) := by decide +kernel
theorem dX4_copyCells_80 : decode cX4_copyCells 80 = .ok (.iadd, 1) := by decide +kernel
theorem dX4_copyCells_81 : decode cX4_copyCells 81 = .ok (.invokevirtual 74, 3) := by decide +kernel
theorem dX4_copyCells_84 : decode cX4_copyCells 84 = .ok (.iastore, 1) := by decide +kernel
theorem dX4_copyCells_85 : decode cX4_copyCells 85 = .ok (.iinc 8 1, 3) := by decide +kernel
theorem dX4_copyCells_88 : decode cX4_copyCells 88 = .ok (.goto (-30), 3) := by decide +kernel
theorem dX4_copyCells_91 : decode cX4_copyCells 91 = .ok (.aload_n 0, 1) := by decide +kernel
theorem dX4_copyCells_92 : decode cX4_copyCells 92 = .ok (.iload_n 1, 1) := by decide +kernel
theorem dX4_copyCells_93 : decode cX4_copyCells 93 = .ok (.iload 6, 2) := by decide +kernel
theorem dX4_copyCells_95 : decode cX4_copyCells 95 = .ok (.invokevirtual 106, 3) := by decide +kernel
theorem dX4_copyCells_98 : decode cX4_copyCells 98 = .ok (.ireturn, 1) := by decide +kernel
set_option maxRecDepth 20000 in
theorem ggX4_mergeState_X4_headSlot : GoodIn wsX4_mergeState wsX4_headSlot := goodIn_r _ [8, 1, 9, 10, 11, 12, 7, 13, 14, 15, 16, 17, 18, 19, 20, 21, 22, 23, 100, 101, 102, 103, 104, 105, 106, 107, 108, 109, 110] (by decide +kernel) (by decide +kernel)
set_option maxRecDepth 20000 in
theorem gX4_mergeState_X4_headSlot : GoodIn wsX4_mergeState (wsV RX4 95 RX4 yX4_headSlot wsX4_headSlot) := goodIn_app (goodIn_of _ (by decide +kernel)) ggX4_mergeState_X4_headSlot
set_option maxRecDepth 20000 in
theorem ggX4_mergeState_X3_slotOf : GoodIn wsX4_mergeState wsX3_slotOf := goodIn_r _ [21, 22, 23, 106, 107, 108, 109, 110] (by decide +kernel) (by decide +kernel)
set_option maxRecDepth 20000 in
theorem gX4_mergeState_X3_slotOf : GoodIn wsX4_mergeState (wsV RX4 60 RX3 yX3_slotOf wsX3_slotOf) := goodIn_app (goodIn_of _ (by decide +kernel)) ggX4_mergeState_X3_slotOf
set_option maxRecDepth 20000 in
theorem ggX4_mergeState_X3_commonSlot : GoodIn wsX4_mergeState wsX3_commonSlot := goodIn_r _ [27, 28, 29, 30, 20, 31, 32, 33, 34, 35, 22, 36, 37, 18, 19, 21, 23, 106, 107, 108, 109, 110] (by decide +kernel) (by decide +kernel)
set_option maxRecDepth 20000 in
theorem gX4_mergeState_X3_commonSlot : GoodIn wsX4_mergeState (wsV RX4 109 RX3 yX3_commonSlot wsX3_commonSlot) := goodIn_app (goodIn_of _ (by decide +kernel)) ggX4_mergeState_X3_commonSlot
set_option maxRecDepth 20000 in
theorem ggX4_mergeState_X4_draftMerge : GoodIn wsX4_mergeState wsX4_draftMerge := goodIn_r _ [41, 42, 43, 44, 45, 7, 46, 47, 1, 48, 49, 50, 20, 51, 22, 52, 53, 54, 55, 56, 57, 58, 100, 101, 102, 103, 104, 105, 106, 107, 108, 109, 110, 111, 112, 113, 114] (by decide +kernel) (by decide +kernel)
set_option maxRecDepth 20000 in
theorem gX4_mergeState_X4_draftMerge : GoodIn wsX4_mergeState (wsV RX4 112 RX4 yX4_draftMerge wsX4_draftMerge) := goodIn_app (goodIn_of _ (by decide +kernel)) ggX4_mergeState_X4_draftMerge
set_option maxRecDepth 20000 in
theorem ggX4_mergeState_X4_addDraft : GoodIn wsX4_mergeState wsX4_addDraft := goodIn_r _ [62, 1, 63, 64, 47, 42, 65, 66, 67, 9, 48, 49, 50, 20, 51, 22, 52, 68, 69, 70, 56, 71, 72, 58, 73, 74, 75, 76, 77, 78, 79, 80, 81, 82, 83, 84, 85, 86, 87, 88, 89, 90, 14, 15, 16, 91, 92, 93, 94, 23, 95, 96, 97, 98, 99, 36, 100, 101, 102, 103, 104, 105, 106, 107, 108, 109, 110, 111, 112, 113, 114] (by decide +kernel) (by decide +kernel)
set_option maxRecDepth 20000 in
theorem gX4_mergeState_X4_addDraft : GoodIn wsX4_mergeState (wsV RX4 106 RX4 yX4_addDraft wsX4_addDraft) := goodIn_app (goodIn_of _ (by decide +kernel)) ggX4_mergeState_X4_addDraft
theorem dX4_mergeState_0 : decode cX4_mergeState 0 = .ok (.aload_n 0, 1) := by decide +kernel
theorem dX4_mergeState_1 : decode cX4_mergeState 1 = .ok (.iload_n 1, 1) := by decide +kernel
theorem dX4_mergeState_2 : decode cX4_mergeState 2 = .ok (.invokevirtual 95, 3) := by decide +kernel
theorem dX4_mergeState_5 : decode cX4_mergeState 5 = .ok (.istore_n 3, 1) := by decide +kernel
theorem dX4_mergeState_6 : decode cX4_mergeState 6 = .ok (.aload_n 0, 1) := by decide +kernel
theorem dX4_mergeState_7 : decode cX4_mergeState 7 = .ok (.getfield 21, 3) := by decide +kernel
theorem dX4_mergeState_10 : decode cX4_mergeState 10 = .ok (.iload_n 2, 1) := by decide +kernel
theorem dX4_mergeState_11 : decode cX4_mergeState 11 = .ok (.invokevirtual 60, 3) := by decide +kernel
theorem dX4_mergeState_14 : decode cX4_mergeState 14 = .ok (.istore 4, 2) := by decide +kernel
theorem dX4_mergeState_16 : decode cX4_mergeState 16 = .ok (.iload_n 3, 1) := by decide +kernel
theorem dX4_mergeState_17 : decode cX4_mergeState 17 = .ok (.ifCond .lt 8, 3) := by decide +kernel
theorem dX4_mergeState_20 : decode cX4_mergeState 20 = .ok (.iload 4, 2) := by decide +kernel
theorem dX4_mergeState_22 : decode cX4_mergeState 22 = .ok (.ifCond .ge 6, 3) := by decide +kernel
theorem dX4_mergeState_25 : decode cX4_mergeState 25 = .ok (.ldc 101, 2) := by decide +kernel
theorem dX4_mergeState_27 : decode cX4_mergeState 27 = .ok (.ireturn, 1) := by decide +kernel
theorem dX4_mergeState_28 : decode cX4_mergeState 28 = .ok (.aload_n 0, 1) := by decide +kernel
theorem dX4_mergeState_29 : decode cX4_mergeState 29 = .ok (.aload_n 0, 1) := by decide +kernel
theorem dX4_mergeState_30 : decode cX4_mergeState 30 = .ok (.getfield 21, 3) := by decide +kernel
theorem dX4_mergeState_33 : decode cX4_mergeState 33 = .ok (.iload_n 3, 1) := by decide +kernel
theorem dX4_mergeState_34 : decode cX4_mergeState 34 = .ok (.iload 4, 2) := by decide +kernel
theorem dX4_mergeState_36 : decode cX4_mergeState 36 = .ok (.invokevirtual 109, 3) := by decide +kernel
theorem dX4_mergeState_39 : decode cX4_mergeState 39 = .ok (.iload_n 3, 1) := by decide +kernel
theorem dX4_mergeState_40 : decode cX4_mergeState 40 = .ok (.iload 4, 2) := by decide +kernel
theorem dX4_mergeState_42 : decode cX4_mergeState 42 = .ok (.invokevirtual 112, 3) := by decide +kernel
theorem dX4_mergeState_45 : decode cX4_mergeState 45 = .ok (.istore 5, 2) := by decide +kernel
theorem dX4_mergeState_47 : decode cX4_mergeState 47 = .ok (.aload_n 0, 1) := by decide +kernel
theorem dX4_mergeState_48 : decode cX4_mergeState 48 = .ok (.iload_n 1, 1) := by decide +kernel
theorem dX4_mergeState_49 : decode cX4_mergeState 49 = .ok (.iload_n 3, 1) := by decide +kernel
theorem dX4_mergeState_50 : decode cX4_mergeState 50 = .ok (.invokevirtual 106, 3) := by decide +kernel
theorem dX4_mergeState_53 : decode cX4_mergeState 53 = .ok (.istore 6, 2) := by decide +kernel
theorem dX4_mergeState_55 : decode cX4_mergeState 55 = .ok (.iload 6, 2) := by decide +kernel
theorem dX4_mergeState_57 : decode cX4_mergeState 57 = .ok (.ifCond .ge 6, 3) := by decide +kernel
theorem dX4_mergeState_60 : decode cX4_mergeState 60 = .ok (.iload 6, 2) := by decide +kernel
theorem dX4_mergeState_62 : decode cX4_mergeState 62 = .ok (.ireturn, 1) := by decide +kernel
theorem dX4_mergeState_63 : decode cX4_mergeState 63 = .ok (.aload_n 0, 1) := by decide +kernel
theorem dX4_mergeState_64 : decode cX4_mergeState 64 = .ok (.dup, 1) := by decide +kernel
theorem dX4_mergeState_65 : decode cX4_mergeState 65 = .ok (.getfield 36, 3) := by decide +kernel
theorem dX4_mergeState_68 : decode cX4_mergeState 68 = .ok (.iload 5, 2) := by decide +kernel
theorem dX4_mergeState_70 : decode cX4_mergeState 70 = .ok (.iadd, 1) := by decide +kernel
theorem dX4_mergeState_71 : decode cX4_mergeState 71 = .ok (.putfield 36, 3) := by decide +kernel
theorem dX4_mergeState_74 : decode cX4_mergeState 74 = .ok (.iload 5, 2) := by decide +kernel
theorem dX4_mergeState_76 : decode cX4_mergeState 76 = .ok (.ireturn, 1) := by decide +kernel
set_option maxRecDepth 20000 in
theorem ggX4_draftMerge_X4_cellAt : GoodIn wsX4_draftMerge wsX4_cellAt := goodIn_r _ [6, 7, 8, 9, 10, 11, 12, 13, 14, 15, 16, 17, 18, 19, 20, 21, 22, 23, 24, 25, 26, 27, 28, 29, 30, 31, 32, 33, 34, 35, 36] (by decide +kernel) (by decide +kernel)
set_option maxRecDepth 20000 in
theorem gX4_draftMerge_X4_cellAt : GoodIn wsX4_draftMerge (wsV RX4 74 RX4 yX4_cellAt wsX4_cellAt) := goodIn_app (goodIn_of _ (by decide +kernel)) ggX4_draftMerge_X4_cellAt
theorem dX4_draftMerge_0 : decode cX4_draftMerge 0 = .ok (.iconst 0, 1) := by decide +kernel
theorem dX4_draftMerge_1 : decode cX4_draftMerge 1 = .ok (.istore 4, 2) := by decide +kernel
theorem dX4_draftMerge_3 : decode cX4_draftMerge 3 = .ok (.iconst 0, 1) := by decide +kernel
theorem dX4_draftMerge_4 : decode cX4_draftMerge 4 = .ok (.istore 5, 2) := by decide +kernel
theorem dX4_draftMerge_6 : decode cX4_draftMerge 6 = .ok (.iload 5, 2) := by decide +kernel
theorem dX4_draftMerge_8 : decode cX4_draftMerge 8 = .ok (.bipush 48, 2) := by decide +kernel
theorem dX4_draftMerge_10 : decode cX4_draftMerge 10 = .ok (.if_icmp .ge 105, 3) := by decide +kernel
theorem dX4_draftMerge_13 : decode cX4_draftMerge 13 = .ok (.aload_n 0, 1) := by decide +kernel
theorem dX4_draftMerge_14 : decode cX4_draftMerge 14 = .ok (.iload_n 1, 1) := by decide +kernel
theorem dX4_draftMerge_15 : decode cX4_draftMerge 15 = .ok (.iload 5, 2) := by decide +kernel
theorem dX4_draftMerge_17 : decode cX4_draftMerge 17 = .ok (.invokevirtual 74, 3) := by decide +kernel
theorem dX4_draftMerge_20 : decode cX4_draftMerge 20 = .ok (.istore 6, 2) := by decide +kernel
theorem dX4_draftMerge_22 : decode cX4_draftMerge 22 = .ok (.aload_n 0, 1) := by decide +kernel
theorem dX4_draftMerge_23 : decode cX4_draftMerge 23 = .ok (.iload_n 2, 1) := by decide +kernel
theorem dX4_draftMerge_24 : decode cX4_draftMerge 24 = .ok (.iload 5, 2) := by decide +kernel
theorem dX4_draftMerge_26 : decode cX4_draftMerge 26 = .ok (.invokevirtual 74, 3) := by decide +kernel
theorem dX4_draftMerge_29 : decode cX4_draftMerge 29 = .ok (.istore 7, 2) := by decide +kernel
theorem dX4_draftMerge_31 : decode cX4_draftMerge 31 = .ok (.aload_n 0, 1) := by decide +kernel
theorem dX4_draftMerge_32 : decode cX4_draftMerge 32 = .ok (.iload_n 3, 1) := by decide +kernel
theorem dX4_draftMerge_33 : decode cX4_draftMerge 33 = .ok (.iload 5, 2) := by decide +kernel
theorem dX4_draftMerge_35 : decode cX4_draftMerge 35 = .ok (.invokevirtual 74, 3) := by decide +kernel
theorem dX4_draftMerge_38 : decode cX4_draftMerge 38 = .ok (.istore 8, 2) := by decide +kernel
theorem dX4_draftMerge_40 : decode cX4_draftMerge 40 = .ok (.iload 8, 2) := by decide +kernel
theorem dX4_draftMerge_42 : decode cX4_draftMerge 42 = .ok (.iload 6, 2) := by decide +kernel
theorem dX4_draftMerge_44 : decode cX4_draftMerge 44 = .ok (.if_icmp .eq 21, 3) := by decide +kernel
theorem dX4_draftMerge_47 : decode cX4_draftMerge 47 = .ok (.iload 7, 2) := by decide +kernel
theorem dX4_draftMerge_49 : decode cX4_draftMerge 49 = .ok (.iload 6, 2) := by decide +kernel
theorem dX4_draftMerge_51 : decode cX4_draftMerge 51 = .ok (.if_icmp .eq 14, 3) := by decide +kernel
theorem dX4_draftMerge_54 : decode cX4_draftMerge 54 = .ok (.iload 7, 2) := by decide +kernel
theorem dX4_draftMerge_56 : decode cX4_draftMerge 56 = .ok (.iload 8, 2) := by decide +kernel
theorem dX4_draftMerge_58 : decode cX4_draftMerge 58 = .ok (.if_icmp .eq 7, 3) := by decide +kernel
theorem dX4_draftMerge_61 : decode cX4_draftMerge 61 = .ok (.iconst 1, 1) := by decide +kernel
theorem dX4_draftMerge_62 : decode cX4_draftMerge 62 = .ok (.goto 4, 3) := by decide +kernel
theorem dX4_draftMerge_65 : decode cX4_draftMerge 65 = .ok (.iconst 0, 1) := by decide +kernel
theorem dX4_draftMerge_66 : decode cX4_draftMerge 66 = .ok (.istore 9, 2) := by decide +kernel
theorem dX4_draftMerge_68 : decode cX4_draftMerge 68 = .ok (.aload_n 0, 1) := by decide +kernel
theorem dX4_draftMerge_69 : decode cX4_draftMerge 69 = .ok (.getfield 29, 3) := by decide +kernel
theorem dX4_draftMerge_72 : decode cX4_draftMerge 72 = .ok (.iload 5, 2) := by decide +kernel
theorem dX4_draftMerge_74 : decode cX4_draftMerge 74 = .ok (.iload 8, 2) := by decide +kernel
theorem dX4_draftMerge_76 : decode cX4_draftMerge 76 = .ok (.iload 6, 2) := by decide +kernel
theorem dX4_draftMerge_78 : decode cX4_draftMerge 78 = .ok (.if_icmp .eq 8, 3) := by decide +kernel
theorem dX4_draftMerge_81 : decode cX4_draftMerge 81 = .ok (.iload 9, 2) := by decide +kernel
theorem dX4_draftMerge_83 : decode cX4_draftMerge 83 = .ok (.ifCond .eq 8, 3) := by decide +kernel
theorem dX4_draftMerge_86 : decode cX4_draftMerge 86 = .ok (.iload 7, 2) := by decide +kernel
theorem dX4_draftMerge_88 : decode cX4_draftMerge 88 = .ok (.goto 5, 3) := by decide +kernel
theorem dX4_draftMerge_91 : decode cX4_draftMerge 91 = .ok (.iload 8, 2) := by decide +kernel
theorem dX4_draftMerge_93 : decode cX4_draftMerge 93 = .ok (.iastore, 1) := by decide +kernel
theorem dX4_draftMerge_94 : decode cX4_draftMerge 94 = .ok (.iload 4, 2) := by decide +kernel
theorem dX4_draftMerge_96 : decode cX4_draftMerge 96 = .ok (.iload 9, 2) := by decide +kernel
theorem dX4_draftMerge_98 : decode cX4_draftMerge 98 = .ok (.ifCond .eq 7, 3) := by decide +kernel
theorem dX4_draftMerge_101 : decode cX4_draftMerge 101 = .ok (.iconst 1, 1) := by decide +kernel
theorem dX4_draftMerge_102 : decode cX4_draftMerge 102 = .ok (.goto 4, 3) := by decide +kernel
theorem dX4_draftMerge_105 : decode cX4_draftMerge 105 = .ok (.iconst 0, 1) := by decide +kernel
theorem dX4_draftMerge_106 : decode cX4_draftMerge 106 = .ok (.iadd, 1) := by decide +kernel
theorem dX4_draftMerge_107 : decode cX4_draftMerge 107 = .ok (.istore 4, 2) := by decide +kernel
theorem dX4_draftMerge_109 : decode cX4_draftMerge 109 = .ok (.iinc 5 1, 3) := by decide +kernel
theorem dX4_draftMerge_112 : decode cX4_draftMerge 112 = .ok (.goto (-106), 3) := by decide +kernel
theorem dX4_draftMerge_115 : decode cX4_draftMerge 115 = .ok (.iload 4, 2) := by decide +kernel
theorem dX4_draftMerge_117 : decode cX4_draftMerge 117 = .ok (.ireturn, 1) := by decide +kernel
set_option maxRecDepth 20000 in
theorem ggX4_addDraft_X3_block : GoodIn wsX4_addDraft wsX3_block := goodIn_r _ [14, 15, 16, 62, 63, 64, 65, 66] (by decide +kernel) (by decide +kernel)
set_option maxRecDepth 20000 in
theorem gX4_addDraft_X3_block : GoodIn wsX4_addDraft (wsV RX4 64 RX3 yX3_block wsX3_block) := goodIn_app (goodIn_of _ (by decide +kernel)) ggX4_addDraft_X3_block
set_option maxRecDepth 20000 in
theorem ggX4_addDraft_X0_holds : GoodIn wsX4_addDraft wsX0_holds := goodIn_r _ [21, 22, 23, 67, 68, 69, 70] (by decide +kernel) (by decide +kernel)
set_option maxRecDepth 20000 in
theorem gX4_addDraft_X0_holds : GoodIn wsX4_addDraft (wsV RX4 120 RX0 yX0_holds wsX0_holds) := goodIn_app (goodIn_of _ (by decide +kernel)) ggX4_addDraft_X0_holds
set_option maxRecDepth 20000 in
theorem ggX4_addDraft_X0_lowestHolding : GoodIn wsX4_addDraft wsX0_lowestHolding := goodIn_r _ [27, 28, 18, 19, 20, 21, 22, 23, 67, 68, 69, 70] (by decide +kernel) (by decide +kernel)
set_option maxRecDepth 20000 in
theorem gX4_addDraft_X0_lowestHolding : GoodIn wsX4_addDraft (wsV RX4 124 RX0 yX0_lowestHolding wsX0_lowestHolding) := goodIn_app (goodIn_of _ (by decide +kernel)) ggX4_addDraft_X0_lowestHolding
set_option maxRecDepth 20000 in
theorem ggX4_addDraft_X0_make : GoodIn wsX4_addDraft wsX0_make := goodIn_r _ [32, 22, 23, 33, 34, 35, 36, 37, 67, 68, 69, 70] (by decide +kernel) (by decide +kernel)
set_option maxRecDepth 20000 in
theorem gX4_addDraft_X0_make : GoodIn wsX4_addDraft (wsV RX4 131 RX0 yX0_make wsX0_make) := goodIn_app (goodIn_of _ (by decide +kernel)) ggX4_addDraft_X0_make
set_option maxRecDepth 20000 in
theorem ggX4_addDraft_X0_addUses : GoodIn wsX4_addDraft wsX0_addUses := goodIn_r _ [41, 22, 42, 43, 44, 67, 68, 69, 70] (by decide +kernel) (by decide +kernel)
set_option maxRecDepth 20000 in
theorem gX4_addDraft_X0_addUses : GoodIn wsX4_addDraft (wsV RX4 134 RX0 yX0_addUses wsX0_addUses) := goodIn_app (goodIn_of _ (by decide +kernel)) ggX4_addDraft_X0_addUses
set_option maxRecDepth 20000 in
theorem ggX4_addDraft_X3_numberOf : GoodIn wsX4_addDraft wsX3_numberOf := goodIn_r _ [48, 15, 49, 62, 63, 64, 65, 66] (by decide +kernel) (by decide +kernel)
set_option maxRecDepth 20000 in
theorem gX4_addDraft_X3_numberOf : GoodIn wsX4_addDraft (wsV RX4 89 RX3 yX3_numberOf wsX3_numberOf) := goodIn_app (goodIn_of _ (by decide +kernel)) ggX4_addDraft_X3_numberOf
set_option maxRecDepth 20000 in
theorem ggX4_addDraft_X3_add : GoodIn wsX4_addDraft wsX3_add := goodIn_r _ [53, 49, 15, 54, 55, 62, 63, 64, 65, 66] (by decide +kernel) (by decide +kernel)
set_option maxRecDepth 20000 in
theorem gX4_addDraft_X3_add : GoodIn wsX4_addDraft (wsV RX4 141 RX3 yX3_add wsX3_add) := goodIn_app (goodIn_of _ (by decide +kernel)) ggX4_addDraft_X3_add
theorem dX4_addDraft_0 : decode cX4_addDraft 0 = .ok (.aload_n 0, 1) := by decide +kernel
theorem dX4_addDraft_1 : decode cX4_addDraft 1 = .ok (.getfield 21, 3) := by decide +kernel
theorem dX4_addDraft_4 : decode cX4_addDraft 4 = .ok (.getfield 116, 3) := by decide +kernel
theorem dX4_addDraft_7 : decode cX4_addDraft 7 = .ok (.bipush 16, 2) := by decide +kernel
theorem dX4_addDraft_9 : decode cX4_addDraft 9 = .ok (.if_icmp .lt 6, 3) := by decide +kernel
theorem dX4_addDraft_12 : decode cX4_addDraft 12 = .ok (.ldc 119, 2) := by decide +kernel
theorem dX4_addDraft_14 : decode cX4_addDraft 14 = .ok (.ireturn, 1) := by decide +kernel
theorem dX4_addDraft_15 : decode cX4_addDraft 15 = .ok (.iconst 0, 1) := by decide +kernel
theorem dX4_addDraft_16 : decode cX4_addDraft 16 = .ok (.istore_n 3, 1) := by decide +kernel
theorem dX4_addDraft_17 : decode cX4_addDraft 17 = .ok (.iload_n 3, 1) := by decide +kernel
theorem dX4_addDraft_18 : decode cX4_addDraft 18 = .ok (.bipush 6, 2) := by decide +kernel
theorem dX4_addDraft_20 : decode cX4_addDraft 20 = .ok (.if_icmp .ge 158, 3) := by decide +kernel
theorem dX4_addDraft_23 : decode cX4_addDraft 23 = .ok (.iload_n 3, 1) := by decide +kernel
theorem dX4_addDraft_24 : decode cX4_addDraft 24 = .ok (.bipush 8, 2) := by decide +kernel
theorem dX4_addDraft_26 : decode cX4_addDraft 26 = .ok (.imul, 1) := by decide +kernel
theorem dX4_addDraft_27 : decode cX4_addDraft 27 = .ok (.istore 4, 2) := by decide +kernel
theorem dX4_addDraft_29 : decode cX4_addDraft 29 = .ok (.aload_n 0, 1) := by decide +kernel
theorem dX4_addDraft_30 : decode cX4_addDraft 30 = .ok (.getfield 21, 3) := by decide +kernel
theorem dX4_addDraft_33 : decode cX4_addDraft 33 = .ok (.iload_n 2, 1) := by decide +kernel
theorem dX4_addDraft_34 : decode cX4_addDraft 34 = .ok (.iload_n 3, 1) := by decide +kernel
theorem dX4_addDraft_35 : decode cX4_addDraft 35 = .ok (.invokevirtual 64, 3) := by decide +kernel
theorem dX4_addDraft_38 : decode cX4_addDraft 38 = .ok (.istore 5, 2) := by decide +kernel
theorem dX4_addDraft_40 : decode cX4_addDraft 40 = .ok (.aload_n 0, 1) := by decide +kernel
theorem dX4_addDraft_41 : decode cX4_addDraft 41 = .ok (.getfield 12, 3) := by decide +kernel
theorem dX4_addDraft_44 : decode cX4_addDraft 44 = .ok (.iload 5, 2) := by decide +kernel
theorem dX4_addDraft_46 : decode cX4_addDraft 46 = .ok (.aload_n 0, 1) := by decide +kernel
theorem dX4_addDraft_47 : decode cX4_addDraft 47 = .ok (.getfield 29, 3) := by decide +kernel
theorem dX4_addDraft_50 : decode cX4_addDraft 50 = .ok (.iload 4, 2) := by decide +kernel
theorem dX4_addDraft_52 : decode cX4_addDraft 52 = .ok (.invokevirtual 120, 3) := by decide +kernel
theorem dX4_addDraft_55 : decode cX4_addDraft 55 = .ok (.ifCond .ne 77, 3) := by decide +kernel
theorem dX4_addDraft_58 : decode cX4_addDraft 58 = .ok (.aload_n 0, 1) := by decide +kernel
theorem dX4_addDraft_59 : decode cX4_addDraft 59 = .ok (.getfield 32, 3) := by decide +kernel
theorem dX4_addDraft_62 : decode cX4_addDraft 62 = .ok (.iconst 1, 1) := by decide +kernel
theorem dX4_addDraft_63 : decode cX4_addDraft 63 = .ok (.if_icmp .ne 19, 3) := by decide +kernel
theorem dX4_addDraft_66 : decode cX4_addDraft 66 = .ok (.aload_n 0, 1) := by decide +kernel
theorem dX4_addDraft_67 : decode cX4_addDraft 67 = .ok (.getfield 12, 3) := by decide +kernel
theorem dX4_addDraft_70 : decode cX4_addDraft 70 = .ok (.aload_n 0, 1) := by decide +kernel
theorem dX4_addDraft_71 : decode cX4_addDraft 71 = .ok (.getfield 29, 3) := by decide +kernel
theorem dX4_addDraft_74 : decode cX4_addDraft 74 = .ok (.iload 4, 2) := by decide +kernel
theorem dX4_addDraft_76 : decode cX4_addDraft 76 = .ok (.invokevirtual 124, 3) := by decide +kernel
theorem dX4_addDraft_79 : decode cX4_addDraft 79 = .ok (.goto 4, 3) := by decide +kernel
theorem dX4_addDraft_82 : decode cX4_addDraft 82 = .ok (.iconst (-1), 1) := by decide +kernel
theorem dX4_addDraft_83 : decode cX4_addDraft 83 = .ok (.istore 6, 2) := by decide +kernel
theorem dX4_addDraft_85 : decode cX4_addDraft 85 = .ok (.aload_n 0, 1) := by decide +kernel
theorem dX4_addDraft_86 : decode cX4_addDraft 86 = .ok (.getfield 12, 3) := by decide +kernel
theorem dX4_addDraft_89 : decode cX4_addDraft 89 = .ok (.dup, 1) := by decide +kernel
theorem dX4_addDraft_90 : decode cX4_addDraft 90 = .ok (.getfield 128, 3) := by decide +kernel
theorem dX4_addDraft_93 : decode cX4_addDraft 93 = .ok (.iload 6, 2) := by decide +kernel
theorem dX4_addDraft_95 : decode cX4_addDraft 95 = .ok (.ifCond .lt 7, 3) := by decide +kernel
theorem dX4_addDraft_98 : decode cX4_addDraft 98 = .ok (.iconst 1, 1) := by decide +kernel
theorem dX4_addDraft_99 : decode cX4_addDraft 99 = .ok (.goto 4, 3) := by decide +kernel
theorem dX4_addDraft_102 : decode cX4_addDraft 102 = .ok (.iconst 0, 1) := by decide +kernel
theorem dX4_addDraft_103 : decode cX4_addDraft 103 = .ok (.iadd, 1) := by decide +kernel
theorem dX4_addDraft_104 : decode cX4_addDraft 104 = .ok (.putfield 128, 3) := by decide +kernel
theorem dX4_addDraft_107 : decode cX4_addDraft 107 = .ok (.iload 6, 2) := by decide +kernel
theorem dX4_addDraft_109 : decode cX4_addDraft 109 = .ok (.ifCond .lt 8, 3) := by decide +kernel
theorem dX4_addDraft_112 : decode cX4_addDraft 112 = .ok (.iload 6, 2) := by decide +kernel
theorem dX4_addDraft_114 : decode cX4_addDraft 114 = .ok (.goto 16, 3) := by decide +kernel
theorem dX4_addDraft_117 : decode cX4_addDraft 117 = .ok (.aload_n 0, 1) := by decide +kernel
theorem dX4_addDraft_118 : decode cX4_addDraft 118 = .ok (.getfield 12, 3) := by decide +kernel
theorem dX4_addDraft_121 : decode cX4_addDraft 121 = .ok (.aload_n 0, 1) := by decide +kernel
theorem dX4_addDraft_122 : decode cX4_addDraft 122 = .ok (.getfield 29, 3) := by decide +kernel
theorem dX4_addDraft_125 : decode cX4_addDraft 125 = .ok (.iload 4, 2) := by decide +kernel
theorem dX4_addDraft_127 : decode cX4_addDraft 127 = .ok (.invokevirtual 131, 3) := by decide +kernel
theorem dX4_addDraft_130 : decode cX4_addDraft 130 = .ok (.istore 5, 2) := by decide +kernel
theorem dX4_addDraft_132 : decode cX4_addDraft 132 = .ok (.iload 5, 2) := by decide +kernel
theorem dX4_addDraft_134 : decode cX4_addDraft 134 = .ok (.ifCond .ge 6, 3) := by decide +kernel
theorem dX4_addDraft_137 : decode cX4_addDraft 137 = .ok (.ldc 119, 2) := by decide +kernel
theorem dX4_addDraft_139 : decode cX4_addDraft 139 = .ok (.ireturn, 1) := by decide +kernel
theorem dX4_addDraft_140 : decode cX4_addDraft 140 = .ok (.aload_n 0, 1) := by decide +kernel
theorem dX4_addDraft_141 : decode cX4_addDraft 141 = .ok (.getfield 12, 3) := by decide +kernel
theorem dX4_addDraft_144 : decode cX4_addDraft 144 = .ok (.iload 5, 2) := by decide +kernel
theorem dX4_addDraft_146 : decode cX4_addDraft 146 = .ok (.iconst 1, 1) := by decide +kernel
theorem dX4_addDraft_147 : decode cX4_addDraft 147 = .ok (.invokevirtual 134, 3) := by decide +kernel
theorem dX4_addDraft_150 : decode cX4_addDraft 150 = .ok (.aload_n 0, 1) := by decide +kernel
theorem dX4_addDraft_151 : decode cX4_addDraft 151 = .ok (.getfield 21, 3) := by decide +kernel
theorem dX4_addDraft_154 : decode cX4_addDraft 154 = .ok (.getfield 138, 3) := by decide +kernel
theorem dX4_addDraft_157 : decode cX4_addDraft 157 = .ok (.aload_n 0, 1) := by decide +kernel
theorem dX4_addDraft_158 : decode cX4_addDraft 158 = .ok (.getfield 21, 3) := by decide +kernel
theorem dX4_addDraft_161 : decode cX4_addDraft 161 = .ok (.getfield 116, 3) := by decide +kernel
theorem dX4_addDraft_164 : decode cX4_addDraft 164 = .ok (.bipush 6, 2) := by decide +kernel
theorem dX4_addDraft_166 : decode cX4_addDraft 166 = .ok (.imul, 1) := by decide +kernel
theorem dX4_addDraft_167 : decode cX4_addDraft 167 = .ok (.iload_n 3, 1) := by decide +kernel
theorem dX4_addDraft_168 : decode cX4_addDraft 168 = .ok (.iadd, 1) := by decide +kernel
theorem dX4_addDraft_169 : decode cX4_addDraft 169 = .ok (.iload 5, 2) := by decide +kernel
theorem dX4_addDraft_171 : decode cX4_addDraft 171 = .ok (.iastore, 1) := by decide +kernel
theorem dX4_addDraft_172 : decode cX4_addDraft 172 = .ok (.iinc 3 1, 3) := by decide +kernel
theorem dX4_addDraft_175 : decode cX4_addDraft 175 = .ok (.goto (-158), 3) := by decide +kernel
theorem dX4_addDraft_178 : decode cX4_addDraft 178 = .ok (.aload_n 0, 1) := by decide +kernel
theorem dX4_addDraft_179 : decode cX4_addDraft 179 = .ok (.getfield 25, 3) := by decide +kernel
theorem dX4_addDraft_182 : decode cX4_addDraft 182 = .ok (.iload_n 1, 1) := by decide +kernel
theorem dX4_addDraft_183 : decode cX4_addDraft 183 = .ok (.aload_n 0, 1) := by decide +kernel
theorem dX4_addDraft_184 : decode cX4_addDraft 184 = .ok (.getfield 21, 3) := by decide +kernel
theorem dX4_addDraft_187 : decode cX4_addDraft 187 = .ok (.aload_n 0, 1) := by decide +kernel
theorem dX4_addDraft_188 : decode cX4_addDraft 188 = .ok (.getfield 21, 3) := by decide +kernel
theorem dX4_addDraft_191 : decode cX4_addDraft 191 = .ok (.iload_n 2, 1) := by decide +kernel
theorem dX4_addDraft_192 : decode cX4_addDraft 192 = .ok (.invokevirtual 89, 3) := by decide +kernel
theorem dX4_addDraft_195 : decode cX4_addDraft 195 = .ok (.invokevirtual 141, 3) := by decide +kernel
theorem dX4_addDraft_198 : decode cX4_addDraft 198 = .ok (.iastore, 1) := by decide +kernel
theorem dX4_addDraft_199 : decode cX4_addDraft 199 = .ok (.aload_n 0, 1) := by decide +kernel
theorem dX4_addDraft_200 : decode cX4_addDraft 200 = .ok (.getfield 25, 3) := by decide +kernel
theorem dX4_addDraft_203 : decode cX4_addDraft 203 = .ok (.iload_n 1, 1) := by decide +kernel
theorem dX4_addDraft_204 : decode cX4_addDraft 204 = .ok (.iaload, 1) := by decide +kernel
theorem dX4_addDraft_205 : decode cX4_addDraft 205 = .ok (.ireturn, 1) := by decide +kernel
set_option maxRecDepth 20000 in
theorem ggX4_addBranch_X3_slotOf : GoodIn wsX4_addBranch wsX3_slotOf := goodIn_r _ [9, 10, 11, 18, 19, 20, 21, 22] (by decide +kernel) (by decide +kernel)
set_option maxRecDepth 20000 in
theorem gX4_addBranch_X3_slotOf : GoodIn wsX4_addBranch (wsV RX4 60 RX3 yX3_slotOf wsX3_slotOf) := goodIn_app (goodIn_of _ (by decide +kernel)) ggX4_addBranch_X3_slotOf
theorem dX4_addBranch_0 : decode cX4_addBranch 0 = .ok (.aload_n 0, 1) := by decide +kernel
theorem dX4_addBranch_1 : decode cX4_addBranch 1 = .ok (.getfield 21, 3) := by decide +kernel
theorem dX4_addBranch_4 : decode cX4_addBranch 4 = .ok (.iload_n 1, 1) := by decide +kernel
theorem dX4_addBranch_5 : decode cX4_addBranch 5 = .ok (.invokevirtual 60, 3) := by decide +kernel
theorem dX4_addBranch_8 : decode cX4_addBranch 8 = .ok (.ifCond .ge 6, 3) := by decide +kernel
theorem dX4_addBranch_11 : decode cX4_addBranch 11 = .ok (.ldc 101, 2) := by decide +kernel
theorem dX4_addBranch_13 : decode cX4_addBranch 13 = .ok (.ireturn, 1) := by decide +kernel
theorem dX4_addBranch_14 : decode cX4_addBranch 14 = .ok (.iconst 0, 1) := by decide +kernel
theorem dX4_addBranch_15 : decode cX4_addBranch 15 = .ok (.istore_n 2, 1) := by decide +kernel
theorem dX4_addBranch_16 : decode cX4_addBranch 16 = .ok (.iload_n 2, 1) := by decide +kernel
theorem dX4_addBranch_17 : decode cX4_addBranch 17 = .ok (.iconst 4, 1) := by decide +kernel
theorem dX4_addBranch_18 : decode cX4_addBranch 18 = .ok (.if_icmp .ge 28, 3) := by decide +kernel
theorem dX4_addBranch_21 : decode cX4_addBranch 21 = .ok (.aload_n 0, 1) := by decide +kernel
theorem dX4_addBranch_22 : decode cX4_addBranch 22 = .ok (.getfield 25, 3) := by decide +kernel
theorem dX4_addBranch_25 : decode cX4_addBranch 25 = .ok (.iload_n 2, 1) := by decide +kernel
theorem dX4_addBranch_26 : decode cX4_addBranch 26 = .ok (.iaload, 1) := by decide +kernel
theorem dX4_addBranch_27 : decode cX4_addBranch 27 = .ok (.iconst (-1), 1) := by decide +kernel
theorem dX4_addBranch_28 : decode cX4_addBranch 28 = .ok (.if_icmp .ne 12, 3) := by decide +kernel
theorem dX4_addBranch_31 : decode cX4_addBranch 31 = .ok (.aload_n 0, 1) := by decide +kernel
theorem dX4_addBranch_32 : decode cX4_addBranch 32 = .ok (.getfield 25, 3) := by decide +kernel
theorem dX4_addBranch_35 : decode cX4_addBranch 35 = .ok (.iload_n 2, 1) := by decide +kernel
theorem dX4_addBranch_36 : decode cX4_addBranch 36 = .ok (.iload_n 1, 1) := by decide +kernel
theorem dX4_addBranch_37 : decode cX4_addBranch 37 = .ok (.iastore, 1) := by decide +kernel
theorem dX4_addBranch_38 : decode cX4_addBranch 38 = .ok (.iload_n 2, 1) := by decide +kernel
theorem dX4_addBranch_39 : decode cX4_addBranch 39 = .ok (.ireturn, 1) := by decide +kernel
theorem dX4_addBranch_40 : decode cX4_addBranch 40 = .ok (.iinc 2 1, 3) := by decide +kernel
theorem dX4_addBranch_43 : decode cX4_addBranch 43 = .ok (.goto (-27), 3) := by decide +kernel
theorem dX4_addBranch_46 : decode cX4_addBranch 46 = .ok (.ldc 119, 2) := by decide +kernel
theorem dX4_addBranch_48 : decode cX4_addBranch 48 = .ok (.ireturn, 1) := by decide +kernel
set_option maxRecDepth 20000 in
theorem ggX4_dropBranch_X4_isBranch : GoodIn wsX4_dropBranch wsX4_isBranch := goodIn_r _ [8, 3, 9, 10, 11, 16, 17, 18, 19, 20, 21] (by decide +kernel) (by decide +kernel)
set_option maxRecDepth 20000 in
theorem gX4_dropBranch_X4_isBranch : GoodIn wsX4_dropBranch (wsV RX4 56 RX4 yX4_isBranch wsX4_isBranch) := goodIn_app (goodIn_of _ (by decide +kernel)) ggX4_dropBranch_X4_isBranch
set_option maxRecDepth 20000 in
theorem ggX4_dropBranch_X4_branchesThere : GoodIn wsX4_dropBranch wsX4_branchesThere := goodIn_r _ [15, 3, 16, 17, 18, 19, 20, 21] (by decide +kernel) (by decide +kernel)
set_option maxRecDepth 20000 in
theorem gX4_dropBranch_X4_branchesThere : GoodIn wsX4_dropBranch (wsV RX4 144 RX4 yX4_branchesThere wsX4_branchesThere) := goodIn_app (goodIn_of _ (by decide +kernel)) ggX4_dropBranch_X4_branchesThere
theorem dX4_dropBranch_0 : decode cX4_dropBranch 0 = .ok (.aload_n 0, 1) := by decide +kernel
theorem dX4_dropBranch_1 : decode cX4_dropBranch 1 = .ok (.iload_n 1, 1) := by decide +kernel
theorem dX4_dropBranch_2 : decode cX4_dropBranch 2 = .ok (.invokevirtual 56, 3) := by decide +kernel
theorem dX4_dropBranch_5 : decode cX4_dropBranch 5 = .ok (.ifCond .ne 6, 3) := by decide +kernel
theorem dX4_dropBranch_8 : decode cX4_dropBranch 8 = .ok (.ldc 101, 2) := by decide +kernel
theorem dX4_dropBranch_10 : decode cX4_dropBranch 10 = .ok (.ireturn, 1) := by decide +kernel
theorem dX4_dropBranch_11 : decode cX4_dropBranch 11 = .ok (.aload_n 0, 1) := by decide +kernel
theorem dX4_dropBranch_12 : decode cX4_dropBranch 12 = .ok (.invokevirtual 144, 3) := by decide +kernel
theorem dX4_dropBranch_15 : decode cX4_dropBranch 15 = .ok (.iconst 1, 1) := by decide +kernel
theorem dX4_dropBranch_16 : decode cX4_dropBranch 16 = .ok (.if_icmp .ne 6, 3) := by decide +kernel
theorem dX4_dropBranch_19 : decode cX4_dropBranch 19 = .ok (.ldc 148, 2) := by decide +kernel
theorem dX4_dropBranch_21 : decode cX4_dropBranch 21 = .ok (.ireturn, 1) := by decide +kernel
theorem dX4_dropBranch_22 : decode cX4_dropBranch 22 = .ok (.aload_n 0, 1) := by decide +kernel
theorem dX4_dropBranch_23 : decode cX4_dropBranch 23 = .ok (.getfield 25, 3) := by decide +kernel
theorem dX4_dropBranch_26 : decode cX4_dropBranch 26 = .ok (.iload_n 1, 1) := by decide +kernel
theorem dX4_dropBranch_27 : decode cX4_dropBranch 27 = .ok (.iconst (-1), 1) := by decide +kernel
theorem dX4_dropBranch_28 : decode cX4_dropBranch 28 = .ok (.iastore, 1) := by decide +kernel
theorem dX4_dropBranch_29 : decode cX4_dropBranch 29 = .ok (.aload_n 0, 1) := by decide +kernel
theorem dX4_dropBranch_30 : decode cX4_dropBranch 30 = .ok (.invokevirtual 144, 3) := by decide +kernel
theorem dX4_dropBranch_33 : decode cX4_dropBranch 33 = .ok (.ireturn, 1) := by decide +kernel
set_option maxRecDepth 20000 in
theorem ggX4_stepBack_X4_headSlot : GoodIn wsX4_stepBack wsX4_headSlot := goodIn_r _ [9, 4, 3, 10, 11, 12, 8, 13, 14, 15, 16, 17, 18, 19, 20, 21, 22, 23, 29, 30, 31, 32, 33, 34, 35, 36, 37, 38, 39] (by decide +kernel) (by decide +kernel)
set_option maxRecDepth 20000 in
theorem gX4_stepBack_X4_headSlot : GoodIn wsX4_stepBack (wsV RX4 95 RX4 yX4_headSlot wsX4_headSlot) := goodIn_app (goodIn_of _ (by decide +kernel)) ggX4_stepBack_X4_headSlot
set_option maxRecDepth 20000 in
theorem ggX4_stepBack_X3_parentOf : GoodIn wsX4_stepBack wsX3_parentOf := goodIn_r _ [27, 22, 28, 35, 36, 37, 38, 39] (by decide +kernel) (by decide +kernel)
set_option maxRecDepth 20000 in
theorem gX4_stepBack_X3_parentOf : GoodIn wsX4_stepBack (wsV RX4 149 RX3 yX3_parentOf wsX3_parentOf) := goodIn_app (goodIn_of _ (by decide +kernel)) ggX4_stepBack_X3_parentOf
theorem dX4_stepBack_0 : decode cX4_stepBack 0 = .ok (.aload_n 0, 1) := by decide +kernel
theorem dX4_stepBack_1 : decode cX4_stepBack 1 = .ok (.iload_n 1, 1) := by decide +kernel
theorem dX4_stepBack_2 : decode cX4_stepBack 2 = .ok (.invokevirtual 95, 3) := by decide +kernel
theorem dX4_stepBack_5 : decode cX4_stepBack 5 = .ok (.istore_n 2, 1) := by decide +kernel
theorem dX4_stepBack_6 : decode cX4_stepBack 6 = .ok (.iload_n 2, 1) := by decide +kernel
theorem dX4_stepBack_7 : decode cX4_stepBack 7 = .ok (.ifCond .ge 6, 3) := by decide +kernel
theorem dX4_stepBack_10 : decode cX4_stepBack 10 = .ok (.ldc 101, 2) := by decide +kernel
theorem dX4_stepBack_12 : decode cX4_stepBack 12 = .ok (.ireturn, 1) := by decide +kernel
theorem dX4_stepBack_13 : decode cX4_stepBack 13 = .ok (.iload_n 2, 1) := by decide +kernel
theorem dX4_stepBack_14 : decode cX4_stepBack 14 = .ok (.ifCond .ne 6, 3) := by decide +kernel
theorem dX4_stepBack_17 : decode cX4_stepBack 17 = .ok (.ldc 148, 2) := by decide +kernel
theorem dX4_stepBack_19 : decode cX4_stepBack 19 = .ok (.ireturn, 1) := by decide +kernel
theorem dX4_stepBack_20 : decode cX4_stepBack 20 = .ok (.aload_n 0, 1) := by decide +kernel
theorem dX4_stepBack_21 : decode cX4_stepBack 21 = .ok (.getfield 25, 3) := by decide +kernel
theorem dX4_stepBack_24 : decode cX4_stepBack 24 = .ok (.iload_n 1, 1) := by decide +kernel
theorem dX4_stepBack_25 : decode cX4_stepBack 25 = .ok (.aload_n 0, 1) := by decide +kernel
theorem dX4_stepBack_26 : decode cX4_stepBack 26 = .ok (.getfield 21, 3) := by decide +kernel
theorem dX4_stepBack_29 : decode cX4_stepBack 29 = .ok (.iload_n 2, 1) := by decide +kernel
theorem dX4_stepBack_30 : decode cX4_stepBack 30 = .ok (.invokevirtual 149, 3) := by decide +kernel
theorem dX4_stepBack_33 : decode cX4_stepBack 33 = .ok (.iastore, 1) := by decide +kernel
theorem dX4_stepBack_34 : decode cX4_stepBack 34 = .ok (.aload_n 0, 1) := by decide +kernel
theorem dX4_stepBack_35 : decode cX4_stepBack 35 = .ok (.getfield 25, 3) := by decide +kernel
theorem dX4_stepBack_38 : decode cX4_stepBack 38 = .ok (.iload_n 1, 1) := by decide +kernel
theorem dX4_stepBack_39 : decode cX4_stepBack 39 = .ok (.iaload, 1) := by decide +kernel
theorem dX4_stepBack_40 : decode cX4_stepBack 40 = .ok (.ireturn, 1) := by decide +kernel
set_option maxRecDepth 20000 in
theorem ggX4_forgetState_X3_slotOf : GoodIn wsX4_forgetState wsX3_slotOf := goodIn_r _ [9, 10, 11, 63, 64, 65, 66, 67] (by decide +kernel) (by decide +kernel)
set_option maxRecDepth 20000 in
theorem gX4_forgetState_X3_slotOf : GoodIn wsX4_forgetState (wsV RX4 60 RX3 yX3_slotOf wsX3_slotOf) := goodIn_app (goodIn_of _ (by decide +kernel)) ggX4_forgetState_X3_slotOf
set_option maxRecDepth 20000 in
theorem ggX4_forgetState_X4_canForget : GoodIn wsX4_forgetState wsX4_canForget := goodIn_r _ [16, 1, 17, 18, 19, 8, 20, 10, 11, 21, 22, 23, 15, 24, 25, 57, 58, 59, 60, 61, 62, 63, 64, 65, 66, 67] (by decide +kernel) (by decide +kernel)
set_option maxRecDepth 20000 in
theorem gX4_forgetState_X4_canForget : GoodIn wsX4_forgetState (wsV RX4 152 RX4 yX4_canForget wsX4_canForget) := goodIn_app (goodIn_of _ (by decide +kernel)) ggX4_forgetState_X4_canForget
set_option maxRecDepth 20000 in
theorem ggX4_forgetState_X0_there : GoodIn wsX4_forgetState wsX0_there := goodIn_r _ [30, 31, 32, 33, 29, 34, 35, 68, 69, 70, 71] (by decide +kernel) (by decide +kernel)
set_option maxRecDepth 20000 in
theorem gX4_forgetState_X0_there : GoodIn wsX4_forgetState (wsV RX4 155 RX0 yX0_there wsX0_there) := goodIn_app (goodIn_of _ (by decide +kernel)) ggX4_forgetState_X0_there
set_option maxRecDepth 20000 in
theorem ggX4_forgetState_X3_block : GoodIn wsX4_forgetState wsX3_block := goodIn_r _ [39, 10, 40, 63, 64, 65, 66, 67] (by decide +kernel) (by decide +kernel)
set_option maxRecDepth 20000 in
theorem gX4_forgetState_X3_block : GoodIn wsX4_forgetState (wsV RX4 64 RX3 yX3_block wsX3_block) := goodIn_app (goodIn_of _ (by decide +kernel)) ggX4_forgetState_X3_block
set_option maxRecDepth 20000 in
theorem ggX4_forgetState_X0_addUses : GoodIn wsX4_forgetState wsX0_addUses := goodIn_r _ [44, 35, 45, 46, 47, 68, 69, 70, 71] (by decide +kernel) (by decide +kernel)
set_option maxRecDepth 20000 in
theorem gX4_forgetState_X0_addUses : GoodIn wsX4_forgetState (wsV RX4 134 RX0 yX0_addUses wsX0_addUses) := goodIn_app (goodIn_of _ (by decide +kernel)) ggX4_forgetState_X0_addUses
set_option maxRecDepth 20000 in
theorem ggX4_forgetState_X3_remove : GoodIn wsX4_forgetState wsX3_remove := goodIn_r _ [51, 10, 52, 11, 53, 54, 55, 56, 40, 45, 46, 47, 63, 64, 65, 66, 67] (by decide +kernel) (by decide +kernel)
set_option maxRecDepth 20000 in
theorem gX4_forgetState_X3_remove : GoodIn wsX4_forgetState (wsV RX4 158 RX3 yX3_remove wsX3_remove) := goodIn_app (goodIn_of _ (by decide +kernel)) ggX4_forgetState_X3_remove
theorem dX4_forgetState_0 : decode cX4_forgetState 0 = .ok (.aload_n 0, 1) := by decide +kernel
theorem dX4_forgetState_1 : decode cX4_forgetState 1 = .ok (.getfield 21, 3) := by decide +kernel
theorem dX4_forgetState_4 : decode cX4_forgetState 4 = .ok (.iload_n 1, 1) := by decide +kernel
theorem dX4_forgetState_5 : decode cX4_forgetState 5 = .ok (.invokevirtual 60, 3) := by decide +kernel
theorem dX4_forgetState_8 : decode cX4_forgetState 8 = .ok (.istore_n 2, 1) := by decide +kernel
theorem dX4_forgetState_9 : decode cX4_forgetState 9 = .ok (.iload_n 2, 1) := by decide +kernel
theorem dX4_forgetState_10 : decode cX4_forgetState 10 = .ok (.ifCond .ge 6, 3) := by decide +kernel
theorem dX4_forgetState_13 : decode cX4_forgetState 13 = .ok (.ldc 101, 2) := by decide +kernel
theorem dX4_forgetState_15 : decode cX4_forgetState 15 = .ok (.ireturn, 1) := by decide +kernel
theorem dX4_forgetState_16 : decode cX4_forgetState 16 = .ok (.aload_n 0, 1) := by decide +kernel
theorem dX4_forgetState_17 : decode cX4_forgetState 17 = .ok (.iload_n 2, 1) := by decide +kernel
theorem dX4_forgetState_18 : decode cX4_forgetState 18 = .ok (.invokevirtual 152, 3) := by decide +kernel
theorem dX4_forgetState_21 : decode cX4_forgetState 21 = .ok (.ifCond .ne 6, 3) := by decide +kernel
theorem dX4_forgetState_24 : decode cX4_forgetState 24 = .ok (.ldc 148, 2) := by decide +kernel
theorem dX4_forgetState_26 : decode cX4_forgetState 26 = .ok (.ireturn, 1) := by decide +kernel
theorem dX4_forgetState_27 : decode cX4_forgetState 27 = .ok (.aload_n 0, 1) := by decide +kernel
theorem dX4_forgetState_28 : decode cX4_forgetState 28 = .ok (.getfield 12, 3) := by decide +kernel
theorem dX4_forgetState_31 : decode cX4_forgetState 31 = .ok (.invokevirtual 155, 3) := by decide +kernel
theorem dX4_forgetState_34 : decode cX4_forgetState 34 = .ok (.istore_n 3, 1) := by decide +kernel
theorem dX4_forgetState_35 : decode cX4_forgetState 35 = .ok (.iconst 0, 1) := by decide +kernel
theorem dX4_forgetState_36 : decode cX4_forgetState 36 = .ok (.istore 4, 2) := by decide +kernel
theorem dX4_forgetState_38 : decode cX4_forgetState 38 = .ok (.iload 4, 2) := by decide +kernel
theorem dX4_forgetState_40 : decode cX4_forgetState 40 = .ok (.bipush 6, 2) := by decide +kernel
theorem dX4_forgetState_42 : decode cX4_forgetState 42 = .ok (.if_icmp .ge 27, 3) := by decide +kernel
theorem dX4_forgetState_45 : decode cX4_forgetState 45 = .ok (.aload_n 0, 1) := by decide +kernel
theorem dX4_forgetState_46 : decode cX4_forgetState 46 = .ok (.getfield 12, 3) := by decide +kernel
theorem dX4_forgetState_49 : decode cX4_forgetState 49 = .ok (.aload_n 0, 1) := by decide +kernel
theorem dX4_forgetState_50 : decode cX4_forgetState 50 = .ok (.getfield 21, 3) := by decide +kernel
theorem dX4_forgetState_53 : decode cX4_forgetState 53 = .ok (.iload_n 2, 1) := by decide +kernel
theorem dX4_forgetState_54 : decode cX4_forgetState 54 = .ok (.iload 4, 2) := by decide +kernel
theorem dX4_forgetState_56 : decode cX4_forgetState 56 = .ok (.invokevirtual 64, 3) := by decide +kernel
theorem dX4_forgetState_59 : decode cX4_forgetState 59 = .ok (.iconst (-1), 1) := by decide +kernel
theorem dX4_forgetState_60 : decode cX4_forgetState 60 = .ok (.invokevirtual 134, 3) := by decide +kernel
theorem dX4_forgetState_63 : decode cX4_forgetState 63 = .ok (.iinc 4 1, 3) := by decide +kernel
theorem dX4_forgetState_66 : decode cX4_forgetState 66 = .ok (.goto (-28), 3) := by decide +kernel
theorem dX4_forgetState_69 : decode cX4_forgetState 69 = .ok (.aload_n 0, 1) := by decide +kernel
theorem dX4_forgetState_70 : decode cX4_forgetState 70 = .ok (.getfield 21, 3) := by decide +kernel
theorem dX4_forgetState_73 : decode cX4_forgetState 73 = .ok (.iload_n 2, 1) := by decide +kernel
theorem dX4_forgetState_74 : decode cX4_forgetState 74 = .ok (.invokevirtual 158, 3) := by decide +kernel
theorem dX4_forgetState_77 : decode cX4_forgetState 77 = .ok (.iload_n 3, 1) := by decide +kernel
theorem dX4_forgetState_78 : decode cX4_forgetState 78 = .ok (.aload_n 0, 1) := by decide +kernel
theorem dX4_forgetState_79 : decode cX4_forgetState 79 = .ok (.getfield 12, 3) := by decide +kernel
theorem dX4_forgetState_82 : decode cX4_forgetState 82 = .ok (.invokevirtual 155, 3) := by decide +kernel
theorem dX4_forgetState_85 : decode cX4_forgetState 85 = .ok (.isub, 1) := by decide +kernel
theorem dX4_forgetState_86 : decode cX4_forgetState 86 = .ok (.ireturn, 1) := by decide +kernel
set_option maxRecDepth 20000 in
theorem ggX4_shareBlocks_X0_there : GoodIn wsX4_shareBlocks wsX0_there := goodIn_r _ [10, 11, 12, 13, 9, 14, 15, 43, 44, 45, 46] (by decide +kernel) (by decide +kernel)
set_option maxRecDepth 20000 in
theorem gX4_shareBlocks_X0_there : GoodIn wsX4_shareBlocks (wsV RX4 155 RX0 yX0_there wsX0_there) := goodIn_app (goodIn_of _ (by decide +kernel)) ggX4_shareBlocks_X0_there
set_option maxRecDepth 20000 in
theorem ggX4_shareBlocks_X0_lowestHolding : GoodIn wsX4_shareBlocks wsX0_lowestHolding := goodIn_r _ [19, 20, 21, 22, 9, 23, 15, 24, 43, 44, 45, 46] (by decide +kernel) (by decide +kernel)
set_option maxRecDepth 20000 in
theorem gX4_shareBlocks_X0_lowestHolding : GoodIn wsX4_shareBlocks (wsV RX4 124 RX0 yX0_lowestHolding wsX0_lowestHolding) := goodIn_app (goodIn_of _ (by decide +kernel)) ggX4_shareBlocks_X0_lowestHolding
set_option maxRecDepth 20000 in
theorem ggX4_shareBlocks_X0_addUses : GoodIn wsX4_shareBlocks wsX0_addUses := goodIn_r _ [28, 15, 29, 30, 31, 43, 44, 45, 46] (by decide +kernel) (by decide +kernel)
set_option maxRecDepth 20000 in
theorem gX4_shareBlocks_X0_addUses : GoodIn wsX4_shareBlocks (wsV RX4 134 RX0 yX0_addUses wsX0_addUses) := goodIn_app (goodIn_of _ (by decide +kernel)) ggX4_shareBlocks_X0_addUses
theorem dX4_shareBlocks_0 : decode cX4_shareBlocks 0 = .ok (.aload_n 0, 1) := by decide +kernel
theorem dX4_shareBlocks_1 : decode cX4_shareBlocks 1 = .ok (.getfield 12, 3) := by decide +kernel
theorem dX4_shareBlocks_4 : decode cX4_shareBlocks 4 = .ok (.invokevirtual 155, 3) := by decide +kernel
theorem dX4_shareBlocks_7 : decode cX4_shareBlocks 7 = .ok (.istore_n 1, 1) := by decide +kernel
theorem dX4_shareBlocks_8 : decode cX4_shareBlocks 8 = .ok (.iconst 0, 1) := by decide +kernel
theorem dX4_shareBlocks_9 : decode cX4_shareBlocks 9 = .ok (.istore_n 2, 1) := by decide +kernel
theorem dX4_shareBlocks_10 : decode cX4_shareBlocks 10 = .ok (.iload_n 2, 1) := by decide +kernel
theorem dX4_shareBlocks_11 : decode cX4_shareBlocks 11 = .ok (.aload_n 0, 1) := by decide +kernel
theorem dX4_shareBlocks_12 : decode cX4_shareBlocks 12 = .ok (.getfield 21, 3) := by decide +kernel
theorem dX4_shareBlocks_15 : decode cX4_shareBlocks 15 = .ok (.getfield 116, 3) := by decide +kernel
theorem dX4_shareBlocks_18 : decode cX4_shareBlocks 18 = .ok (.bipush 6, 2) := by decide +kernel
theorem dX4_shareBlocks_20 : decode cX4_shareBlocks 20 = .ok (.imul, 1) := by decide +kernel
theorem dX4_shareBlocks_21 : decode cX4_shareBlocks 21 = .ok (.if_icmp .ge 80, 3) := by decide +kernel
theorem dX4_shareBlocks_24 : decode cX4_shareBlocks 24 = .ok (.aload_n 0, 1) := by decide +kernel
theorem dX4_shareBlocks_25 : decode cX4_shareBlocks 25 = .ok (.getfield 21, 3) := by decide +kernel
theorem dX4_shareBlocks_28 : decode cX4_shareBlocks 28 = .ok (.getfield 138, 3) := by decide +kernel
theorem dX4_shareBlocks_31 : decode cX4_shareBlocks 31 = .ok (.iload_n 2, 1) := by decide +kernel
theorem dX4_shareBlocks_32 : decode cX4_shareBlocks 32 = .ok (.iaload, 1) := by decide +kernel
theorem dX4_shareBlocks_33 : decode cX4_shareBlocks 33 = .ok (.istore_n 3, 1) := by decide +kernel
theorem dX4_shareBlocks_34 : decode cX4_shareBlocks 34 = .ok (.aload_n 0, 1) := by decide +kernel
theorem dX4_shareBlocks_35 : decode cX4_shareBlocks 35 = .ok (.getfield 12, 3) := by decide +kernel
theorem dX4_shareBlocks_38 : decode cX4_shareBlocks 38 = .ok (.aload_n 0, 1) := by decide +kernel
theorem dX4_shareBlocks_39 : decode cX4_shareBlocks 39 = .ok (.getfield 12, 3) := by decide +kernel
theorem dX4_shareBlocks_42 : decode cX4_shareBlocks 42 = .ok (.getfield 161, 3) := by decide +kernel
theorem dX4_shareBlocks_45 : decode cX4_shareBlocks 45 = .ok (.iload_n 3, 1) := by decide +kernel
theorem dX4_shareBlocks_46 : decode cX4_shareBlocks 46 = .ok (.bipush 8, 2) := by decide +kernel
theorem dX4_shareBlocks_48 : decode cX4_shareBlocks 48 = .ok (.imul, 1) := by decide +kernel
theorem dX4_shareBlocks_49 : decode cX4_shareBlocks 49 = .ok (.invokevirtual 124, 3) := by decide +kernel
theorem dX4_shareBlocks_52 : decode cX4_shareBlocks 52 = .ok (.istore 4, 2) := by decide +kernel
theorem dX4_shareBlocks_54 : decode cX4_shareBlocks 54 = .ok (.iload 4, 2) := by decide +kernel
theorem dX4_shareBlocks_56 : decode cX4_shareBlocks 56 = .ok (.ifCond .lt 39, 3) := by decide +kernel
theorem dX4_shareBlocks_59 : decode cX4_shareBlocks 59 = .ok (.iload 4, 2) := by decide +kernel
theorem dX4_shareBlocks_61 : decode cX4_shareBlocks 61 = .ok (.iload_n 3, 1) := by decide +kernel
theorem dX4_shareBlocks_62 : decode cX4_shareBlocks 62 = .ok (.if_icmp .ge 33, 3) := by decide +kernel
theorem dX4_shareBlocks_65 : decode cX4_shareBlocks 65 = .ok (.aload_n 0, 1) := by decide +kernel
theorem dX4_shareBlocks_66 : decode cX4_shareBlocks 66 = .ok (.getfield 12, 3) := by decide +kernel
theorem dX4_shareBlocks_69 : decode cX4_shareBlocks 69 = .ok (.iload_n 3, 1) := by decide +kernel
theorem dX4_shareBlocks_70 : decode cX4_shareBlocks 70 = .ok (.iconst (-1), 1) := by decide +kernel
theorem dX4_shareBlocks_71 : decode cX4_shareBlocks 71 = .ok (.invokevirtual 134, 3) := by decide +kernel
theorem dX4_shareBlocks_74 : decode cX4_shareBlocks 74 = .ok (.aload_n 0, 1) := by decide +kernel
theorem dX4_shareBlocks_75 : decode cX4_shareBlocks 75 = .ok (.getfield 12, 3) := by decide +kernel
theorem dX4_shareBlocks_78 : decode cX4_shareBlocks 78 = .ok (.iload 4, 2) := by decide +kernel
theorem dX4_shareBlocks_80 : decode cX4_shareBlocks 80 = .ok (.iconst 1, 1) := by decide +kernel
theorem dX4_shareBlocks_81 : decode cX4_shareBlocks 81 = .ok (.invokevirtual 134, 3) := by decide +kernel
theorem dX4_shareBlocks_84 : decode cX4_shareBlocks 84 = .ok (.aload_n 0, 1) := by decide +kernel
theorem dX4_shareBlocks_85 : decode cX4_shareBlocks 85 = .ok (.getfield 21, 3) := by decide +kernel
theorem dX4_shareBlocks_88 : decode cX4_shareBlocks 88 = .ok (.getfield 138, 3) := by decide +kernel
theorem dX4_shareBlocks_91 : decode cX4_shareBlocks 91 = .ok (.iload_n 2, 1) := by decide +kernel
theorem dX4_shareBlocks_92 : decode cX4_shareBlocks 92 = .ok (.iload 4, 2) := by decide +kernel
theorem dX4_shareBlocks_94 : decode cX4_shareBlocks 94 = .ok (.iastore, 1) := by decide +kernel
theorem dX4_shareBlocks_95 : decode cX4_shareBlocks 95 = .ok (.iinc 2 1, 3) := by decide +kernel
theorem dX4_shareBlocks_98 : decode cX4_shareBlocks 98 = .ok (.goto (-88), 3) := by decide +kernel
theorem dX4_shareBlocks_101 : decode cX4_shareBlocks 101 = .ok (.iload_n 1, 1) := by decide +kernel
theorem dX4_shareBlocks_102 : decode cX4_shareBlocks 102 = .ok (.aload_n 0, 1) := by decide +kernel
theorem dX4_shareBlocks_103 : decode cX4_shareBlocks 103 = .ok (.getfield 12, 3) := by decide +kernel
theorem dX4_shareBlocks_106 : decode cX4_shareBlocks 106 = .ok (.invokevirtual 155, 3) := by decide +kernel
theorem dX4_shareBlocks_109 : decode cX4_shareBlocks 109 = .ok (.isub, 1) := by decide +kernel
theorem dX4_shareBlocks_110 : decode cX4_shareBlocks 110 = .ok (.ireturn, 1) := by decide +kernel
set_option maxRecDepth 20000 in
theorem ggX4_changeSetting_X5_isIndex : GoodIn wsX4_changeSetting wsX5_isIndex := goodIn_r _ [5] (by decide +kernel) (by decide +kernel)
set_option maxRecDepth 20000 in
theorem gX4_changeSetting_X5_isIndex_n52 : GoodIn wsX4_changeSetting (wsX5_isIndex) := ggX4_changeSetting_X5_isIndex
theorem dX4_changeSetting_0 : decode cX4_changeSetting 0 = .ok (.iload_n 1, 1) := by decide +kernel
theorem dX4_changeSetting_1 : decode cX4_changeSetting 1 = .ok (.ifCond .ne 11, 3) := by decide +kernel
theorem dX4_changeSetting_4 : decode cX4_changeSetting 4 = .ok (.iload_n 2, 1) := by decide +kernel
theorem dX4_changeSetting_5 : decode cX4_changeSetting 5 = .ok (.iconst 2, 1) := by decide +kernel
theorem dX4_changeSetting_6 : decode cX4_changeSetting 6 = .ok (.invokestatic 52, 3) := by decide +kernel
theorem dX4_changeSetting_9 : decode cX4_changeSetting 9 = .ok (.ifCond .ne 6, 3) := by decide +kernel
theorem dX4_changeSetting_12 : decode cX4_changeSetting 12 = .ok (.ldc 101, 2) := by decide +kernel
theorem dX4_changeSetting_14 : decode cX4_changeSetting 14 = .ok (.ireturn, 1) := by decide +kernel
theorem dX4_changeSetting_15 : decode cX4_changeSetting 15 = .ok (.aload_n 0, 1) := by decide +kernel
theorem dX4_changeSetting_16 : decode cX4_changeSetting 16 = .ok (.getfield 32, 3) := by decide +kernel
theorem dX4_changeSetting_19 : decode cX4_changeSetting 19 = .ok (.istore_n 3, 1) := by decide +kernel
theorem dX4_changeSetting_20 : decode cX4_changeSetting 20 = .ok (.aload_n 0, 1) := by decide +kernel
theorem dX4_changeSetting_21 : decode cX4_changeSetting 21 = .ok (.iload_n 2, 1) := by decide +kernel
theorem dX4_changeSetting_22 : decode cX4_changeSetting 22 = .ok (.putfield 32, 3) := by decide +kernel
theorem dX4_changeSetting_25 : decode cX4_changeSetting 25 = .ok (.iload_n 3, 1) := by decide +kernel
theorem dX4_changeSetting_26 : decode cX4_changeSetting 26 = .ok (.ireturn, 1) := by decide +kernel
set_option maxRecDepth 20000 in
theorem ggX5_init_X4_init : GoodIn wsX5_init wsX4_init := goodIn_r _ [19, 20, 2, 3, 21, 22, 23, 24, 25, 26, 27, 28, 29, 30, 31, 32, 33, 34, 35, 36, 37, 38, 39, 40, 41, 42, 43, 44, 45, 46, 47, 48, 49, 50, 92, 93, 94, 95, 71, 72, 73, 74, 75, 76, 96, 97, 98, 99, 100] (by decide +kernel) (by decide +kernel)
set_option maxRecDepth 20000 in
theorem gX5_init_X4_init : GoodIn wsX5_init (wsX4_init) := ggX5_init_X4_init
set_option maxRecDepth 20000 in
theorem ggX5_init_X1_init : GoodIn wsX5_init wsX1_init := goodIn_r _ [53, 54, 2, 3, 55, 56, 57, 58, 5, 6, 59, 18, 19, 20, 21, 22, 23, 24, 25, 26, 27, 28, 29, 30, 31, 32, 33, 34, 35, 36, 37, 38, 39, 40, 41, 42, 43, 44, 45, 46, 47, 48, 49, 50, 81, 82, 83, 71, 72, 73, 74, 75, 76, 92, 93, 94, 95, 96, 97, 98, 99, 100] (by decide +kernel) (by decide +kernel)
set_option maxRecDepth 20000 in
theorem gX5_init_X1_init : GoodIn wsX5_init (wsX1_init) := ggX5_init_X1_init
set_option maxRecDepth 20000 in
theorem ggX5_init_X2_init : GoodIn wsX5_init wsX2_init := goodIn_r _ [61, 62, 2, 3, 29, 63, 64, 65, 66, 67, 68, 69, 70, 84, 85, 86, 87, 88, 89, 90, 91] (by decide +kernel) (by decide +kernel)
set_option maxRecDepth 20000 in
theorem gX5_init_X2_init_n28 : GoodIn wsX5_init (wsX2_init) := ggX5_init_X2_init
theorem dX5_init_0 : decode cX5_init 0 = .ok (.aload_n 0, 1) := by decide +kernel
theorem dX5_init_1 : decode cX5_init 1 = .ok (.invokespecial 1, 3) := by decide +kernel
theorem dX5_init_4 : decode cX5_init 4 = .ok (.aload_n 0, 1) := by decide +kernel
theorem dX5_init_5 : decode cX5_init 5 = .ok (.new 7, 3) := by decide +kernel
theorem dX5_init_8 : decode cX5_init 8 = .ok (.dup, 1) := by decide +kernel
theorem dX5_init_9 : decode cX5_init 9 = .ok (.invokespecial 9, 3) := by decide +kernel
theorem dX5_init_12 : decode cX5_init 12 = .ok (.putfield 10, 3) := by decide +kernel
theorem dX5_init_15 : decode cX5_init 15 = .ok (.aload_n 0, 1) := by decide +kernel
theorem dX5_init_16 : decode cX5_init 16 = .ok (.new 7, 3) := by decide +kernel
theorem dX5_init_19 : decode cX5_init 19 = .ok (.dup, 1) := by decide +kernel
theorem dX5_init_20 : decode cX5_init 20 = .ok (.invokespecial 9, 3) := by decide +kernel
theorem dX5_init_23 : decode cX5_init 23 = .ok (.putfield 16, 3) := by decide +kernel
theorem dX5_init_26 : decode cX5_init 26 = .ok (.aload_n 0, 1) := by decide +kernel
theorem dX5_init_27 : decode cX5_init 27 = .ok (.new 19, 3) := by decide +kernel
theorem dX5_init_30 : decode cX5_init 30 = .ok (.dup, 1) := by decide +kernel
theorem dX5_init_31 : decode cX5_init 31 = .ok (.invokespecial 21, 3) := by decide +kernel
theorem dX5_init_34 : decode cX5_init 34 = .ok (.putfield 22, 3) := by decide +kernel
theorem dX5_init_37 : decode cX5_init 37 = .ok (.aload_n 0, 1) := by decide +kernel
theorem dX5_init_38 : decode cX5_init 38 = .ok (.new 26, 3) := by decide +kernel
theorem dX5_init_41 : decode cX5_init 41 = .ok (.dup, 1) := by decide +kernel
theorem dX5_init_42 : decode cX5_init 42 = .ok (.invokespecial 28, 3) := by decide +kernel
theorem dX5_init_45 : decode cX5_init 45 = .ok (.putfield 29, 3) := by decide +kernel
theorem dX5_init_48 : decode cX5_init 48 = .ok (.return_, 1) := by decide +kernel
set_option maxRecDepth 20000 in
theorem ggX5_write_X5_startTrial : GoodIn wsX5_write wsX5_startTrial := goodIn_r _ [5, 6, 7, 8, 9, 10, 11, 12, 13, 14, 15, 16, 17, 18, 19, 20, 21, 22, 23, 24, 25, 26, 27, 28, 29, 30, 31, 32, 33, 34, 35, 36, 37, 38, 39, 40, 41, 42, 128, 129, 130, 131, 132, 133, 134, 135, 136, 137, 138, 139, 140, 141, 142, 143, 144, 145, 146] (by decide +kernel) (by decide +kernel)
set_option maxRecDepth 20000 in
theorem gX5_write_X5_startTrial : GoodIn wsX5_write (wsV RX5 33 RX5 yX5_startTrial wsX5_startTrial) := goodIn_app (goodIn_of _ (by decide +kernel)) ggX5_write_X5_startTrial
set_option maxRecDepth 20000 in
theorem ggX5_write_X4_fillCells : GoodIn wsX5_write wsX4_fillCells := goodIn_r _ [46, 47, 48, 49, 50, 51, 11, 52, 14, 15, 53, 54, 55, 56, 57, 4, 58, 59, 60, 61, 35, 62, 41, 37, 63, 64, 65, 66, 67, 68, 69, 70, 71, 72, 73, 13, 74, 75, 76, 77, 40, 78, 79, 80, 25, 81, 27, 82, 83, 84, 85, 86, 87, 20, 88, 89, 90, 91, 92, 93, 29, 94, 95, 96, 97, 98, 99, 100, 101, 102, 28, 17, 18, 19, 30, 103, 104, 105, 106, 107, 108, 109, 110, 111, 112, 113, 114, 42, 39, 132, 133, 134, 135, 136, 137, 142, 143, 144, 145, 146, 138, 139, 140, 141] (by decide +kernel) (by decide +kernel)
set_option maxRecDepth 20000 in
theorem gX5_write_X4_fillCells : GoodIn wsX5_write (wsV RX5 37 RX4 yX4_fillCells wsX4_fillCells) := goodIn_app (goodIn_of _ (by decide +kernel)) ggX5_write_X4_fillCells
set_option maxRecDepth 20000 in
theorem ggX5_write_X5_keepTrial : GoodIn wsX5_write wsX5_keepTrial := goodIn_r _ [118, 7, 6, 119, 120, 121, 122, 123, 124, 125, 126, 127, 128, 129, 130, 131, 147, 148, 149] (by decide +kernel) (by decide +kernel)
set_option maxRecDepth 20000 in
theorem gX5_write_X5_keepTrial : GoodIn wsX5_write (wsV RX5 41 RX5 yX5_keepTrial wsX5_keepTrial) := goodIn_app (goodIn_of _ (by decide +kernel)) ggX5_write_X5_keepTrial
theorem dX5_write_0 : decode cX5_write 0 = .ok (.aload_n 0, 1) := by decide +kernel
theorem dX5_write_1 : decode cX5_write 1 = .ok (.aload_n 0, 1) := by decide +kernel
theorem dX5_write_2 : decode cX5_write 2 = .ok (.invokevirtual 33, 3) := by decide +kernel
theorem dX5_write_5 : decode cX5_write 5 = .ok (.iload_n 1, 1) := by decide +kernel
theorem dX5_write_6 : decode cX5_write 6 = .ok (.iload_n 2, 1) := by decide +kernel
theorem dX5_write_7 : decode cX5_write 7 = .ok (.iconst 1, 1) := by decide +kernel
theorem dX5_write_8 : decode cX5_write 8 = .ok (.iload_n 3, 1) := by decide +kernel
theorem dX5_write_9 : decode cX5_write 9 = .ok (.invokevirtual 37, 3) := by decide +kernel
theorem dX5_write_12 : decode cX5_write 12 = .ok (.invokevirtual 41, 3) := by decide +kernel
theorem dX5_write_15 : decode cX5_write 15 = .ok (.ireturn, 1) := by decide +kernel
set_option maxRecDepth 20000 in
theorem ggX5_fill_X5_startTrial : GoodIn wsX5_fill wsX5_startTrial := goodIn_r _ [5, 6, 7, 8, 9, 10, 11, 12, 13, 14, 15, 16, 17, 18, 19, 20, 21, 22, 23, 24, 25, 26, 27, 28, 29, 30, 31, 32, 33, 34, 35, 36, 37, 38, 39, 40, 41, 42, 128, 129, 130, 131, 132, 133, 134, 135, 136, 137, 138, 139, 140, 141, 142, 143, 144, 145, 146] (by decide +kernel) (by decide +kernel)
set_option maxRecDepth 20000 in
theorem gX5_fill_X5_startTrial : GoodIn wsX5_fill (wsV RX5 33 RX5 yX5_startTrial wsX5_startTrial) := goodIn_app (goodIn_of _ (by decide +kernel)) ggX5_fill_X5_startTrial
set_option maxRecDepth 20000 in
theorem ggX5_fill_X4_fillCells : GoodIn wsX5_fill wsX4_fillCells := goodIn_r _ [46, 47, 48, 49, 50, 51, 11, 52, 14, 15, 53, 54, 55, 56, 57, 4, 58, 59, 60, 61, 35, 62, 41, 37, 63, 64, 65, 66, 67, 68, 69, 70, 71, 72, 73, 13, 74, 75, 76, 77, 40, 78, 79, 80, 25, 81, 27, 82, 83, 84, 85, 86, 87, 20, 88, 89, 90, 91, 92, 93, 29, 94, 95, 96, 97, 98, 99, 100, 101, 102, 28, 17, 18, 19, 30, 103, 104, 105, 106, 107, 108, 109, 110, 111, 112, 113, 114, 42, 39, 132, 133, 134, 135, 136, 137, 142, 143, 144, 145, 146, 138, 139, 140, 141] (by decide +kernel) (by decide +kernel)
set_option maxRecDepth 20000 in
theorem gX5_fill_X4_fillCells : GoodIn wsX5_fill (wsV RX5 37 RX4 yX4_fillCells wsX4_fillCells) := goodIn_app (goodIn_of _ (by decide +kernel)) ggX5_fill_X4_fillCells
set_option maxRecDepth 20000 in
theorem ggX5_fill_X5_keepTrial : GoodIn wsX5_fill wsX5_keepTrial := goodIn_r _ [118, 7, 6, 119, 120, 121, 122, 123, 124, 125, 126, 127, 128, 129, 130, 131, 147, 148, 149] (by decide +kernel) (by decide +kernel)
set_option maxRecDepth 20000 in
theorem gX5_fill_X5_keepTrial : GoodIn wsX5_fill (wsV RX5 41 RX5 yX5_keepTrial wsX5_keepTrial) := goodIn_app (goodIn_of _ (by decide +kernel)) ggX5_fill_X5_keepTrial
theorem dX5_fill_0 : decode cX5_fill 0 = .ok (.aload_n 0, 1) := by decide +kernel
theorem dX5_fill_1 : decode cX5_fill 1 = .ok (.aload_n 0, 1) := by decide +kernel
theorem dX5_fill_2 : decode cX5_fill 2 = .ok (.invokevirtual 33, 3) := by decide +kernel
theorem dX5_fill_5 : decode cX5_fill 5 = .ok (.iload_n 1, 1) := by decide +kernel
theorem dX5_fill_6 : decode cX5_fill 6 = .ok (.iload_n 2, 1) := by decide +kernel
theorem dX5_fill_7 : decode cX5_fill 7 = .ok (.iload_n 3, 1) := by decide +kernel
theorem dX5_fill_8 : decode cX5_fill 8 = .ok (.iload 4, 2) := by decide +kernel
theorem dX5_fill_10 : decode cX5_fill 10 = .ok (.invokevirtual 37, 3) := by decide +kernel
theorem dX5_fill_13 : decode cX5_fill 13 = .ok (.invokevirtual 41, 3) := by decide +kernel
theorem dX5_fill_16 : decode cX5_fill 16 = .ok (.ireturn, 1) := by decide +kernel
set_option maxRecDepth 20000 in
theorem ggX5_copy_X5_startTrial : GoodIn wsX5_copy wsX5_startTrial := goodIn_r _ [5, 6, 7, 8, 9, 10, 11, 12, 13, 14, 15, 16, 17, 18, 19, 20, 21, 22, 23, 24, 25, 26, 27, 28, 29, 30, 31, 32, 33, 34, 35, 36, 37, 38, 39, 40, 41, 42, 128, 129, 130, 131, 132, 133, 134, 135, 136, 137, 138, 139, 140, 141, 142, 143, 144, 145, 146] (by decide +kernel) (by decide +kernel)
set_option maxRecDepth 20000 in
theorem gX5_copy_X5_startTrial : GoodIn wsX5_copy (wsV RX5 33 RX5 yX5_startTrial wsX5_startTrial) := goodIn_app (goodIn_of _ (by decide +kernel)) ggX5_copy_X5_startTrial
set_option maxRecDepth 20000 in
theorem ggX5_copy_X4_copyCells : GoodIn wsX5_copy wsX4_copyCells := goodIn_r _ [46, 14, 47, 48, 49, 50, 51, 11, 52, 15, 53, 54, 55, 56, 57, 4, 58, 59, 60, 61, 35, 62, 41, 37, 63, 64, 65, 66, 67, 68, 69, 70, 71, 72, 73, 13, 74, 75, 76, 77, 40, 78, 79, 80, 25, 81, 27, 82, 83, 84, 85, 86, 87, 20, 88, 89, 90, 91, 92, 93, 29, 94, 95, 96, 97, 98, 99, 100, 101, 102, 28, 17, 18, 19, 30, 103, 104, 105, 106, 107, 108, 109, 110, 111, 112, 113, 114, 42, 39, 132, 133, 134, 135, 136, 137, 142, 143, 144, 145, 146, 138, 139, 140, 141] (by decide +kernel) (by decide +kernel)
set_option maxRecDepth 20000 in
theorem gX5_copy_X4_copyCells : GoodIn wsX5_copy (wsV RX5 45 RX4 yX4_copyCells wsX4_copyCells) := goodIn_app (goodIn_of _ (by decide +kernel)) ggX5_copy_X4_copyCells
set_option maxRecDepth 20000 in
theorem ggX5_copy_X5_keepTrial : GoodIn wsX5_copy wsX5_keepTrial := goodIn_r _ [118, 7, 6, 119, 120, 121, 122, 123, 124, 125, 126, 127, 128, 129, 130, 131, 147, 148, 149] (by decide +kernel) (by decide +kernel)
set_option maxRecDepth 20000 in
theorem gX5_copy_X5_keepTrial : GoodIn wsX5_copy (wsV RX5 41 RX5 yX5_keepTrial wsX5_keepTrial) := goodIn_app (goodIn_of _ (by decide +kernel)) ggX5_copy_X5_keepTrial
theorem dX5_copy_0 : decode cX5_copy 0 = .ok (.aload_n 0, 1) := by decide +kernel
theorem dX5_copy_1 : decode cX5_copy 1 = .ok (.aload_n 0, 1) := by decide +kernel
theorem dX5_copy_2 : decode cX5_copy 2 = .ok (.invokevirtual 33, 3) := by decide +kernel
theorem dX5_copy_5 : decode cX5_copy 5 = .ok (.iload_n 1, 1) := by decide +kernel
theorem dX5_copy_6 : decode cX5_copy 6 = .ok (.iload_n 2, 1) := by decide +kernel
theorem dX5_copy_7 : decode cX5_copy 7 = .ok (.iload_n 3, 1) := by decide +kernel
theorem dX5_copy_8 : decode cX5_copy 8 = .ok (.iload 4, 2) := by decide +kernel
theorem dX5_copy_10 : decode cX5_copy 10 = .ok (.iload 5, 2) := by decide +kernel
theorem dX5_copy_12 : decode cX5_copy 12 = .ok (.invokevirtual 45, 3) := by decide +kernel
theorem dX5_copy_15 : decode cX5_copy 15 = .ok (.invokevirtual 41, 3) := by decide +kernel
theorem dX5_copy_18 : decode cX5_copy 18 = .ok (.ireturn, 1) := by decide +kernel
set_option maxRecDepth 20000 in
theorem ggX5_merge_X5_startTrial : GoodIn wsX5_merge wsX5_startTrial := goodIn_r _ [5, 6, 7, 8, 9, 10, 11, 12, 13, 14, 15, 16, 17, 18, 19, 20, 21, 22, 23, 24, 25, 26, 27, 28, 29, 30, 31, 32, 33, 34, 35, 36, 37, 38, 39, 40, 41, 42, 138, 139, 140, 141, 142, 143, 144, 145, 146, 147, 148, 149, 150, 151, 152, 153, 154, 155, 156] (by decide +kernel) (by decide +kernel)
set_option maxRecDepth 20000 in
theorem gX5_merge_X5_startTrial : GoodIn wsX5_merge (wsV RX5 33 RX5 yX5_startTrial wsX5_startTrial) := goodIn_app (goodIn_of _ (by decide +kernel)) ggX5_merge_X5_startTrial
set_option maxRecDepth 20000 in
theorem ggX5_merge_X4_mergeState : GoodIn wsX5_merge wsX4_mergeState := goodIn_r _ [46, 14, 47, 21, 48, 49, 50, 11, 51, 15, 52, 53, 54, 55, 56, 4, 57, 58, 59, 60, 35, 61, 41, 37, 62, 63, 64, 65, 66, 67, 68, 69, 70, 71, 72, 73, 39, 74, 75, 76, 77, 78, 79, 80, 81, 82, 83, 13, 84, 85, 86, 87, 40, 88, 89, 90, 25, 91, 27, 92, 93, 94, 95, 96, 97, 20, 98, 99, 100, 101, 102, 103, 29, 104, 105, 106, 107, 108, 109, 110, 111, 112, 28, 17, 18, 19, 30, 113, 114, 115, 116, 117, 118, 119, 120, 121, 122, 123, 124, 42, 142, 143, 144, 145, 146, 147, 152, 153, 154, 155, 156, 148, 149, 150, 151] (by decide +kernel) (by decide +kernel)
set_option maxRecDepth 20000 in
theorem gX5_merge_X4_mergeState : GoodIn wsX5_merge (wsV RX5 49 RX4 yX4_mergeState wsX4_mergeState) := goodIn_app (goodIn_of _ (by decide +kernel)) ggX5_merge_X4_mergeState
set_option maxRecDepth 20000 in
theorem ggX5_merge_X5_keepTrial : GoodIn wsX5_merge wsX5_keepTrial := goodIn_r _ [128, 7, 6, 129, 130, 131, 132, 133, 134, 135, 136, 137, 138, 139, 140, 141, 157, 158, 159] (by decide +kernel) (by decide +kernel)
set_option maxRecDepth 20000 in
theorem gX5_merge_X5_keepTrial : GoodIn wsX5_merge (wsV RX5 41 RX5 yX5_keepTrial wsX5_keepTrial) := goodIn_app (goodIn_of _ (by decide +kernel)) ggX5_merge_X5_keepTrial
theorem dX5_merge_0 : decode cX5_merge 0 = .ok (.aload_n 0, 1) := by decide +kernel
theorem dX5_merge_1 : decode cX5_merge 1 = .ok (.aload_n 0, 1) := by decide +kernel
theorem dX5_merge_2 : decode cX5_merge 2 = .ok (.invokevirtual 33, 3) := by decide +kernel
theorem dX5_merge_5 : decode cX5_merge 5 = .ok (.iload_n 1, 1) := by decide +kernel
theorem dX5_merge_6 : decode cX5_merge 6 = .ok (.iload_n 2, 1) := by decide +kernel
theorem dX5_merge_7 : decode cX5_merge 7 = .ok (.invokevirtual 49, 3) := by decide +kernel
theorem dX5_merge_10 : decode cX5_merge 10 = .ok (.invokevirtual 41, 3) := by decide +kernel
theorem dX5_merge_13 : decode cX5_merge 13 = .ok (.ireturn, 1) := by decide +kernel
set_option maxRecDepth 20000 in
theorem ggX5_branch_X5_startTrial : GoodIn wsX5_branch wsX5_startTrial := goodIn_r _ [5, 6, 7, 8, 9, 10, 11, 12, 13, 14, 15, 16, 17, 18, 19, 20, 21, 22, 23, 24, 25, 26, 27, 28, 29, 30, 31, 32, 33, 34, 35, 36, 37, 38, 39, 40, 41, 42, 66, 67, 68, 69, 70, 71, 72, 73, 74, 75, 76, 77, 78, 79, 80, 81, 82, 83, 84] (by decide +kernel) (by decide +kernel)
set_option maxRecDepth 20000 in
theorem gX5_branch_X5_startTrial : GoodIn wsX5_branch (wsV RX5 33 RX5 yX5_startTrial wsX5_startTrial) := goodIn_app (goodIn_of _ (by decide +kernel)) ggX5_branch_X5_startTrial
set_option maxRecDepth 20000 in
theorem ggX5_branch_X4_addBranch : GoodIn wsX5_branch wsX4_addBranch := goodIn_r _ [46, 14, 47, 15, 48, 49, 50, 51, 35, 52, 41, 37, 70, 71, 72, 73, 74, 75, 80, 81, 82, 83, 84] (by decide +kernel) (by decide +kernel)
set_option maxRecDepth 20000 in
theorem gX5_branch_X4_addBranch : GoodIn wsX5_branch (wsV RX5 53 RX4 yX4_addBranch wsX4_addBranch) := goodIn_app (goodIn_of _ (by decide +kernel)) ggX5_branch_X4_addBranch
set_option maxRecDepth 20000 in
theorem ggX5_branch_X5_keepTrial : GoodIn wsX5_branch wsX5_keepTrial := goodIn_r _ [56, 7, 6, 57, 58, 59, 60, 61, 62, 63, 64, 65, 66, 67, 68, 69, 85, 86, 87] (by decide +kernel) (by decide +kernel)
set_option maxRecDepth 20000 in
theorem gX5_branch_X5_keepTrial : GoodIn wsX5_branch (wsV RX5 41 RX5 yX5_keepTrial wsX5_keepTrial) := goodIn_app (goodIn_of _ (by decide +kernel)) ggX5_branch_X5_keepTrial
theorem dX5_branch_0 : decode cX5_branch 0 = .ok (.aload_n 0, 1) := by decide +kernel
theorem dX5_branch_1 : decode cX5_branch 1 = .ok (.aload_n 0, 1) := by decide +kernel
theorem dX5_branch_2 : decode cX5_branch 2 = .ok (.invokevirtual 33, 3) := by decide +kernel
theorem dX5_branch_5 : decode cX5_branch 5 = .ok (.iload_n 1, 1) := by decide +kernel
theorem dX5_branch_6 : decode cX5_branch 6 = .ok (.invokevirtual 53, 3) := by decide +kernel
theorem dX5_branch_9 : decode cX5_branch 9 = .ok (.invokevirtual 41, 3) := by decide +kernel
theorem dX5_branch_12 : decode cX5_branch 12 = .ok (.ireturn, 1) := by decide +kernel
set_option maxRecDepth 20000 in
theorem ggX5_leave_X5_startTrial : GoodIn wsX5_leave wsX5_startTrial := goodIn_r _ [5, 6, 7, 8, 9, 10, 11, 12, 13, 14, 15, 16, 17, 18, 19, 20, 21, 22, 23, 24, 25, 26, 27, 28, 29, 30, 31, 32, 33, 34, 35, 36, 37, 38, 39, 40, 41, 42, 72, 73, 74, 75, 76, 77, 78, 79, 80, 81, 82, 83, 84, 85, 86, 87, 88, 89, 90] (by decide +kernel) (by decide +kernel)
set_option maxRecDepth 20000 in
theorem gX5_leave_X5_startTrial : GoodIn wsX5_leave (wsV RX5 33 RX5 yX5_startTrial wsX5_startTrial) := goodIn_app (goodIn_of _ (by decide +kernel)) ggX5_leave_X5_startTrial
set_option maxRecDepth 20000 in
theorem ggX5_leave_X4_dropBranch : GoodIn wsX5_leave wsX4_dropBranch := goodIn_r _ [46, 47, 48, 15, 49, 50, 51, 11, 52, 53, 4, 54, 55, 56, 57, 58, 76, 77, 78, 79, 80, 81] (by decide +kernel) (by decide +kernel)
set_option maxRecDepth 20000 in
theorem gX5_leave_X4_dropBranch : GoodIn wsX5_leave (wsV RX5 56 RX4 yX4_dropBranch wsX4_dropBranch) := goodIn_app (goodIn_of _ (by decide +kernel)) ggX5_leave_X4_dropBranch
set_option maxRecDepth 20000 in
theorem ggX5_leave_X5_keepTrial : GoodIn wsX5_leave wsX5_keepTrial := goodIn_r _ [62, 7, 6, 63, 64, 65, 66, 67, 68, 69, 70, 71, 72, 73, 74, 75, 91, 92, 93] (by decide +kernel) (by decide +kernel)
set_option maxRecDepth 20000 in
theorem gX5_leave_X5_keepTrial : GoodIn wsX5_leave (wsV RX5 41 RX5 yX5_keepTrial wsX5_keepTrial) := goodIn_app (goodIn_of _ (by decide +kernel)) ggX5_leave_X5_keepTrial
theorem dX5_leave_0 : decode cX5_leave 0 = .ok (.aload_n 0, 1) := by decide +kernel
theorem dX5_leave_1 : decode cX5_leave 1 = .ok (.aload_n 0, 1) := by decide +kernel
theorem dX5_leave_2 : decode cX5_leave 2 = .ok (.invokevirtual 33, 3) := by decide +kernel
theorem dX5_leave_5 : decode cX5_leave 5 = .ok (.iload_n 1, 1) := by decide +kernel
theorem dX5_leave_6 : decode cX5_leave 6 = .ok (.invokevirtual 56, 3) := by decide +kernel
theorem dX5_leave_9 : decode cX5_leave 9 = .ok (.invokevirtual 41, 3) := by decide +kernel
theorem dX5_leave_12 : decode cX5_leave 12 = .ok (.ireturn, 1) := by decide +kernel
set_option maxRecDepth 20000 in
theorem ggX5_back_X5_startTrial : GoodIn wsX5_back wsX5_startTrial := goodIn_r _ [5, 6, 7, 8, 9, 10, 11, 12, 13, 14, 15, 16, 17, 18, 19, 20, 21, 22, 23, 24, 25, 26, 27, 28, 29, 30, 31, 32, 33, 34, 35, 36, 37, 38, 39, 40, 41, 42, 80, 81, 82, 83, 84, 85, 86, 87, 88, 89, 90, 91, 92, 93, 94, 95, 96, 97, 98] (by decide +kernel) (by decide +kernel)
set_option maxRecDepth 20000 in
theorem gX5_back_X5_startTrial : GoodIn wsX5_back (wsV RX5 33 RX5 yX5_startTrial wsX5_startTrial) := goodIn_app (goodIn_of _ (by decide +kernel)) ggX5_back_X5_startTrial
set_option maxRecDepth 20000 in
theorem ggX5_back_X4_stepBack : GoodIn wsX5_back wsX4_stepBack := goodIn_r _ [46, 47, 48, 15, 14, 49, 50, 51, 11, 52, 53, 54, 55, 56, 57, 4, 58, 59, 60, 61, 35, 62, 41, 37, 63, 64, 65, 66, 39, 84, 85, 86, 87, 88, 89, 94, 95, 96, 97, 98] (by decide +kernel) (by decide +kernel)
set_option maxRecDepth 20000 in
theorem gX5_back_X4_stepBack : GoodIn wsX5_back (wsV RX5 59 RX4 yX4_stepBack wsX4_stepBack) := goodIn_app (goodIn_of _ (by decide +kernel)) ggX5_back_X4_stepBack
set_option maxRecDepth 20000 in
theorem ggX5_back_X5_keepTrial : GoodIn wsX5_back wsX5_keepTrial := goodIn_r _ [70, 7, 6, 71, 72, 73, 74, 75, 76, 77, 78, 79, 80, 81, 82, 83, 99, 100, 101] (by decide +kernel) (by decide +kernel)
set_option maxRecDepth 20000 in
theorem gX5_back_X5_keepTrial : GoodIn wsX5_back (wsV RX5 41 RX5 yX5_keepTrial wsX5_keepTrial) := goodIn_app (goodIn_of _ (by decide +kernel)) ggX5_back_X5_keepTrial
theorem dX5_back_0 : decode cX5_back 0 = .ok (.aload_n 0, 1) := by decide +kernel
theorem dX5_back_1 : decode cX5_back 1 = .ok (.aload_n 0, 1) := by decide +kernel
theorem dX5_back_2 : decode cX5_back 2 = .ok (.invokevirtual 33, 3) := by decide +kernel
theorem dX5_back_5 : decode cX5_back 5 = .ok (.iload_n 1, 1) := by decide +kernel
theorem dX5_back_6 : decode cX5_back 6 = .ok (.invokevirtual 59, 3) := by decide +kernel
theorem dX5_back_9 : decode cX5_back 9 = .ok (.invokevirtual 41, 3) := by decide +kernel
theorem dX5_back_12 : decode cX5_back 12 = .ok (.ireturn, 1) := by decide +kernel
set_option maxRecDepth 20000 in
theorem ggX5_forget_X5_startTrial : GoodIn wsX5_forget wsX5_startTrial := goodIn_r _ [5, 6, 7, 8, 9, 10, 11, 12, 13, 14, 15, 16, 17, 18, 19, 20, 21, 22, 23, 24, 25, 26, 27, 28, 29, 30, 31, 32, 33, 34, 35, 36, 37, 38, 39, 40, 41, 42, 100, 101, 102, 103, 104, 105, 106, 107, 108, 109, 110, 111, 112, 113, 114, 115, 116, 117, 118] (by decide +kernel) (by decide +kernel)
set_option maxRecDepth 20000 in
theorem gX5_forget_X5_startTrial : GoodIn wsX5_forget (wsV RX5 33 RX5 yX5_startTrial wsX5_startTrial) := goodIn_app (goodIn_of _ (by decide +kernel)) ggX5_forget_X5_startTrial
set_option maxRecDepth 20000 in
theorem ggX5_forget_X4_forgetState : GoodIn wsX5_forget wsX4_forgetState := goodIn_r _ [46, 14, 47, 48, 13, 49, 50, 51, 35, 52, 41, 37, 53, 54, 55, 11, 56, 57, 58, 59, 60, 61, 62, 63, 64, 15, 65, 66, 67, 25, 68, 69, 70, 71, 72, 29, 73, 74, 75, 76, 40, 77, 78, 79, 80, 81, 4, 82, 83, 84, 85, 86, 39, 38, 17, 18, 19, 104, 105, 106, 107, 108, 109, 114, 115, 116, 117, 118, 110, 111, 112, 113] (by decide +kernel) (by decide +kernel)
set_option maxRecDepth 20000 in
theorem gX5_forget_X4_forgetState : GoodIn wsX5_forget (wsV RX5 62 RX4 yX4_forgetState wsX4_forgetState) := goodIn_app (goodIn_of _ (by decide +kernel)) ggX5_forget_X4_forgetState
set_option maxRecDepth 20000 in
theorem ggX5_forget_X5_keepTrial : GoodIn wsX5_forget wsX5_keepTrial := goodIn_r _ [90, 7, 6, 91, 92, 93, 94, 95, 96, 97, 98, 99, 100, 101, 102, 103, 119, 120, 121] (by decide +kernel) (by decide +kernel)
set_option maxRecDepth 20000 in
theorem gX5_forget_X5_keepTrial : GoodIn wsX5_forget (wsV RX5 41 RX5 yX5_keepTrial wsX5_keepTrial) := goodIn_app (goodIn_of _ (by decide +kernel)) ggX5_forget_X5_keepTrial
theorem dX5_forget_0 : decode cX5_forget 0 = .ok (.aload_n 0, 1) := by decide +kernel
theorem dX5_forget_1 : decode cX5_forget 1 = .ok (.aload_n 0, 1) := by decide +kernel
theorem dX5_forget_2 : decode cX5_forget 2 = .ok (.invokevirtual 33, 3) := by decide +kernel
theorem dX5_forget_5 : decode cX5_forget 5 = .ok (.iload_n 1, 1) := by decide +kernel
theorem dX5_forget_6 : decode cX5_forget 6 = .ok (.invokevirtual 62, 3) := by decide +kernel
theorem dX5_forget_9 : decode cX5_forget 9 = .ok (.invokevirtual 41, 3) := by decide +kernel
theorem dX5_forget_12 : decode cX5_forget 12 = .ok (.ireturn, 1) := by decide +kernel
set_option maxRecDepth 20000 in
theorem ggX5_share_X5_startTrial : GoodIn wsX5_share wsX5_startTrial := goodIn_r _ [5, 6, 7, 8, 9, 10, 11, 12, 13, 14, 15, 16, 17, 18, 19, 20, 21, 22, 23, 24, 25, 26, 27, 28, 29, 30, 31, 32, 33, 34, 35, 36, 37, 38, 39, 40, 41, 42, 85, 86, 87, 88, 89, 90, 91, 92, 93, 94, 95, 96, 97, 98, 99, 100, 101, 102, 103] (by decide +kernel) (by decide +kernel)
set_option maxRecDepth 20000 in
theorem gX5_share_X5_startTrial : GoodIn wsX5_share (wsV RX5 33 RX5 yX5_startTrial wsX5_startTrial) := goodIn_app (goodIn_of _ (by decide +kernel)) ggX5_share_X5_startTrial
set_option maxRecDepth 20000 in
theorem ggX5_share_X4_shareBlocks : GoodIn wsX5_share wsX4_shareBlocks := goodIn_r _ [46, 13, 14, 47, 48, 49, 50, 51, 52, 25, 53, 54, 55, 56, 57, 29, 58, 59, 60, 61, 62, 63, 64, 65, 27, 66, 67, 68, 69, 70, 4, 71, 89, 90, 91, 92, 93, 94, 99, 100, 101, 102, 103, 95, 96, 97, 98] (by decide +kernel) (by decide +kernel)
set_option maxRecDepth 20000 in
theorem gX5_share_X4_shareBlocks : GoodIn wsX5_share (wsV RX5 65 RX4 yX4_shareBlocks wsX4_shareBlocks) := goodIn_app (goodIn_of _ (by decide +kernel)) ggX5_share_X4_shareBlocks
set_option maxRecDepth 20000 in
theorem ggX5_share_X5_keepTrial : GoodIn wsX5_share wsX5_keepTrial := goodIn_r _ [75, 7, 6, 76, 77, 78, 79, 80, 81, 82, 83, 84, 85, 86, 87, 88, 104, 105, 106] (by decide +kernel) (by decide +kernel)
set_option maxRecDepth 20000 in
theorem gX5_share_X5_keepTrial : GoodIn wsX5_share (wsV RX5 41 RX5 yX5_keepTrial wsX5_keepTrial) := goodIn_app (goodIn_of _ (by decide +kernel)) ggX5_share_X5_keepTrial
theorem dX5_share_0 : decode cX5_share 0 = .ok (.aload_n 0, 1) := by decide +kernel
theorem dX5_share_1 : decode cX5_share 1 = .ok (.aload_n 0, 1) := by decide +kernel
theorem dX5_share_2 : decode cX5_share 2 = .ok (.invokevirtual 33, 3) := by decide +kernel
theorem dX5_share_5 : decode cX5_share 5 = .ok (.invokevirtual 65, 3) := by decide +kernel
theorem dX5_share_8 : decode cX5_share 8 = .ok (.invokevirtual 41, 3) := by decide +kernel
theorem dX5_share_11 : decode cX5_share 11 = .ok (.ireturn, 1) := by decide +kernel
set_option maxRecDepth 20000 in
theorem ggX5_set_X5_startTrial : GoodIn wsX5_set wsX5_startTrial := goodIn_r _ [5, 6, 7, 8, 9, 10, 11, 12, 13, 14, 15, 16, 17, 18, 19, 20, 21, 22, 23, 24, 25, 26, 27, 28, 29, 30, 31, 32, 33, 34, 35, 36, 37, 38, 39, 40, 41, 42, 63, 64, 65, 66, 67, 68, 69, 70, 71, 72, 73, 74, 75, 76, 77, 78, 79, 80, 81] (by decide +kernel) (by decide +kernel)
set_option maxRecDepth 20000 in
theorem gX5_set_X5_startTrial : GoodIn wsX5_set (wsV RX5 33 RX5 yX5_startTrial wsX5_startTrial) := goodIn_app (goodIn_of _ (by decide +kernel)) ggX5_set_X5_startTrial
set_option maxRecDepth 20000 in
theorem ggX5_set_X4_changeSetting : GoodIn wsX5_set wsX4_changeSetting := goodIn_r _ [46, 47, 20, 48, 4, 49, 67, 68, 69, 70, 71, 72] (by decide +kernel) (by decide +kernel)
set_option maxRecDepth 20000 in
theorem gX5_set_X4_changeSetting : GoodIn wsX5_set (wsV RX5 69 RX4 yX4_changeSetting wsX4_changeSetting) := goodIn_app (goodIn_of _ (by decide +kernel)) ggX5_set_X4_changeSetting
set_option maxRecDepth 20000 in
theorem ggX5_set_X5_keepTrial : GoodIn wsX5_set wsX5_keepTrial := goodIn_r _ [53, 7, 6, 54, 55, 56, 57, 58, 59, 60, 61, 62, 63, 64, 65, 66, 82, 83, 84] (by decide +kernel) (by decide +kernel)
set_option maxRecDepth 20000 in
theorem gX5_set_X5_keepTrial : GoodIn wsX5_set (wsV RX5 41 RX5 yX5_keepTrial wsX5_keepTrial) := goodIn_app (goodIn_of _ (by decide +kernel)) ggX5_set_X5_keepTrial
theorem dX5_set_0 : decode cX5_set 0 = .ok (.aload_n 0, 1) := by decide +kernel
theorem dX5_set_1 : decode cX5_set 1 = .ok (.aload_n 0, 1) := by decide +kernel
theorem dX5_set_2 : decode cX5_set 2 = .ok (.invokevirtual 33, 3) := by decide +kernel
theorem dX5_set_5 : decode cX5_set 5 = .ok (.iload_n 1, 1) := by decide +kernel
theorem dX5_set_6 : decode cX5_set 6 = .ok (.iload_n 2, 1) := by decide +kernel
theorem dX5_set_7 : decode cX5_set 7 = .ok (.invokevirtual 69, 3) := by decide +kernel
theorem dX5_set_10 : decode cX5_set 10 = .ok (.invokevirtual 41, 3) := by decide +kernel
theorem dX5_set_13 : decode cX5_set 13 = .ok (.ireturn, 1) := by decide +kernel
set_option maxRecDepth 20000 in
theorem ggX5_read_X3_slotOf : GoodIn wsX5_read wsX3_slotOf := goodIn_r _ [8, 9, 10, 43, 44, 45, 46, 47] (by decide +kernel) (by decide +kernel)
set_option maxRecDepth 20000 in
theorem gX5_read_X3_slotOf : GoodIn wsX5_read (wsV RX5 76 RX3 yX3_slotOf wsX3_slotOf) := goodIn_app (goodIn_of _ (by decide +kernel)) ggX5_read_X3_slotOf
set_option maxRecDepth 20000 in
theorem ggX5_read_X5_isIndex : GoodIn wsX5_read wsX5_isIndex := goodIn_r _ [14] (by decide +kernel) (by decide +kernel)
set_option maxRecDepth 20000 in
theorem gX5_read_X5_isIndex : GoodIn wsX5_read (va_wsS RX5 81 yX5_isIndex wsX5_isIndex) := goodIn_app (goodIn_of _ (by decide +kernel)) ggX5_read_X5_isIndex
set_option maxRecDepth 20000 in
theorem ggX5_read_X4_cellAt : GoodIn wsX5_read wsX4_cellAt := goodIn_r _ [19, 20, 21, 22, 23, 24, 7, 25, 9, 26, 27, 28, 29, 30, 31, 32, 37, 38, 39, 40, 41, 42, 43, 44, 45, 46, 47, 48, 49, 50, 51] (by decide +kernel) (by decide +kernel)
set_option maxRecDepth 20000 in
theorem gX5_read_X4_cellAt : GoodIn wsX5_read (wsV RX5 86 RX4 yX4_cellAt wsX4_cellAt) := goodIn_app (goodIn_of _ (by decide +kernel)) ggX5_read_X4_cellAt
theorem dX5_read_0 : decode cX5_read 0 = .ok (.aload_n 0, 1) := by decide +kernel
theorem dX5_read_1 : decode cX5_read 1 = .ok (.getfield 10, 3) := by decide +kernel
theorem dX5_read_4 : decode cX5_read 4 = .ok (.getfield 72, 3) := by decide +kernel
theorem dX5_read_7 : decode cX5_read 7 = .ok (.iload_n 1, 1) := by decide +kernel
theorem dX5_read_8 : decode cX5_read 8 = .ok (.invokevirtual 76, 3) := by decide +kernel
theorem dX5_read_11 : decode cX5_read 11 = .ok (.istore_n 3, 1) := by decide +kernel
theorem dX5_read_12 : decode cX5_read 12 = .ok (.iload_n 3, 1) := by decide +kernel
theorem dX5_read_13 : decode cX5_read 13 = .ok (.ifCond .lt 12, 3) := by decide +kernel
theorem dX5_read_16 : decode cX5_read 16 = .ok (.iload_n 2, 1) := by decide +kernel
theorem dX5_read_17 : decode cX5_read 17 = .ok (.bipush 48, 2) := by decide +kernel
theorem dX5_read_19 : decode cX5_read 19 = .ok (.invokestatic 81, 3) := by decide +kernel
theorem dX5_read_22 : decode cX5_read 22 = .ok (.ifCond .ne 6, 3) := by decide +kernel
