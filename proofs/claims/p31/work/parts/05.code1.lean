theorem dX0_init_0 : decode cX0_init 0 = .ok (.aload_n 0, 1) := by decide +kernel
theorem dX0_init_1 : decode cX0_init 1 = .ok (.invokespecial 3, 3) := by decide +kernel
theorem dX0_init_4 : decode cX0_init 4 = .ok (.aload_n 0, 1) := by decide +kernel
theorem dX0_init_5 : decode cX0_init 5 = .ok (.sipush 320, 3) := by decide +kernel
theorem dX0_init_8 : decode cX0_init 8 = .ok (.newarray .int, 2) := by decide +kernel
theorem dX0_init_10 : decode cX0_init 10 = .ok (.putfield 9, 3) := by decide +kernel
theorem dX0_init_13 : decode cX0_init 13 = .ok (.aload_n 0, 1) := by decide +kernel
theorem dX0_init_14 : decode cX0_init 14 = .ok (.bipush 40, 2) := by decide +kernel
theorem dX0_init_16 : decode cX0_init 16 = .ok (.newarray .int, 2) := by decide +kernel
theorem dX0_init_18 : decode cX0_init 18 = .ok (.putfield 15, 3) := by decide +kernel
theorem dX0_init_21 : decode cX0_init 21 = .ok (.aload_n 0, 1) := by decide +kernel
theorem dX0_init_22 : decode cX0_init 22 = .ok (.iconst 1, 1) := by decide +kernel
theorem dX0_init_23 : decode cX0_init 23 = .ok (.putfield 18, 3) := by decide +kernel
theorem dX0_init_26 : decode cX0_init 26 = .ok (.aload_n 0, 1) := by decide +kernel
theorem dX0_init_27 : decode cX0_init 27 = .ok (.iconst 0, 1) := by decide +kernel
theorem dX0_init_28 : decode cX0_init 28 = .ok (.putfield 22, 3) := by decide +kernel
theorem dX0_init_31 : decode cX0_init 31 = .ok (.aload_n 0, 1) := by decide +kernel
theorem dX0_init_32 : decode cX0_init 32 = .ok (.getfield 15, 3) := by decide +kernel
theorem dX0_init_35 : decode cX0_init 35 = .ok (.iconst 0, 1) := by decide +kernel
theorem dX0_init_36 : decode cX0_init 36 = .ok (.bipush 6, 2) := by decide +kernel
theorem dX0_init_38 : decode cX0_init 38 = .ok (.iastore, 1) := by decide +kernel
theorem dX0_init_39 : decode cX0_init 39 = .ok (.return_, 1) := by decide +kernel
theorem dX0_becomeLike_0 : decode cX0_becomeLike 0 = .ok (.aload_n 1, 1) := by decide +kernel
theorem dX0_becomeLike_1 : decode cX0_becomeLike 1 = .ok (.getfield 9, 3) := by decide +kernel
theorem dX0_becomeLike_4 : decode cX0_becomeLike 4 = .ok (.iconst 0, 1) := by decide +kernel
theorem dX0_becomeLike_5 : decode cX0_becomeLike 5 = .ok (.aload_n 0, 1) := by decide +kernel
theorem dX0_becomeLike_6 : decode cX0_becomeLike 6 = .ok (.getfield 9, 3) := by decide +kernel
theorem dX0_becomeLike_9 : decode cX0_becomeLike 9 = .ok (.iconst 0, 1) := by decide +kernel
theorem dX0_becomeLike_10 : decode cX0_becomeLike 10 = .ok (.aload_n 0, 1) := by decide +kernel
theorem dX0_becomeLike_11 : decode cX0_becomeLike 11 = .ok (.getfield 9, 3) := by decide +kernel
theorem dX0_becomeLike_14 : decode cX0_becomeLike 14 = .ok (.arraylength, 1) := by decide +kernel
theorem dX0_becomeLike_15 : decode cX0_becomeLike 15 = .ok (.invokestatic 25, 3) := by decide +kernel
theorem dX0_becomeLike_18 : decode cX0_becomeLike 18 = .ok (.aload_n 1, 1) := by decide +kernel
theorem dX0_becomeLike_19 : decode cX0_becomeLike 19 = .ok (.getfield 15, 3) := by decide +kernel
theorem dX0_becomeLike_22 : decode cX0_becomeLike 22 = .ok (.iconst 0, 1) := by decide +kernel
theorem dX0_becomeLike_23 : decode cX0_becomeLike 23 = .ok (.aload_n 0, 1) := by decide +kernel
theorem dX0_becomeLike_24 : decode cX0_becomeLike 24 = .ok (.getfield 15, 3) := by decide +kernel
theorem dX0_becomeLike_27 : decode cX0_becomeLike 27 = .ok (.iconst 0, 1) := by decide +kernel
theorem dX0_becomeLike_28 : decode cX0_becomeLike 28 = .ok (.aload_n 0, 1) := by decide +kernel
theorem dX0_becomeLike_29 : decode cX0_becomeLike 29 = .ok (.getfield 15, 3) := by decide +kernel
theorem dX0_becomeLike_32 : decode cX0_becomeLike 32 = .ok (.arraylength, 1) := by decide +kernel
theorem dX0_becomeLike_33 : decode cX0_becomeLike 33 = .ok (.invokestatic 25, 3) := by decide +kernel
theorem dX0_becomeLike_36 : decode cX0_becomeLike 36 = .ok (.aload_n 0, 1) := by decide +kernel
theorem dX0_becomeLike_37 : decode cX0_becomeLike 37 = .ok (.aload_n 1, 1) := by decide +kernel
theorem dX0_becomeLike_38 : decode cX0_becomeLike 38 = .ok (.getfield 18, 3) := by decide +kernel
theorem dX0_becomeLike_41 : decode cX0_becomeLike 41 = .ok (.putfield 18, 3) := by decide +kernel
theorem dX0_becomeLike_44 : decode cX0_becomeLike 44 = .ok (.aload_n 0, 1) := by decide +kernel
theorem dX0_becomeLike_45 : decode cX0_becomeLike 45 = .ok (.aload_n 1, 1) := by decide +kernel
theorem dX0_becomeLike_46 : decode cX0_becomeLike 46 = .ok (.getfield 22, 3) := by decide +kernel
theorem dX0_becomeLike_49 : decode cX0_becomeLike 49 = .ok (.putfield 22, 3) := by decide +kernel
theorem dX0_becomeLike_52 : decode cX0_becomeLike 52 = .ok (.return_, 1) := by decide +kernel
set_option maxRecDepth 20000 in
theorem ggX0_usesOf_X5_isIndex : GoodIn wsX0_usesOf wsX5_isIndex := goodIn_r _ [4] (by decide +kernel) (by decide +kernel)
set_option maxRecDepth 20000 in
theorem gX0_usesOf_X5_isIndex_n31 : GoodIn wsX0_usesOf (wsX5_isIndex) := ggX0_usesOf_X5_isIndex
theorem dX0_usesOf_0 : decode cX0_usesOf 0 = .ok (.iload_n 1, 1) := by decide +kernel
theorem dX0_usesOf_1 : decode cX0_usesOf 1 = .ok (.bipush 40, 2) := by decide +kernel
theorem dX0_usesOf_3 : decode cX0_usesOf 3 = .ok (.invokestatic 31, 3) := by decide +kernel
theorem dX0_usesOf_6 : decode cX0_usesOf 6 = .ok (.ifCond .eq 12, 3) := by decide +kernel
theorem dX0_usesOf_9 : decode cX0_usesOf 9 = .ok (.aload_n 0, 1) := by decide +kernel
theorem dX0_usesOf_10 : decode cX0_usesOf 10 = .ok (.getfield 15, 3) := by decide +kernel
theorem dX0_usesOf_13 : decode cX0_usesOf 13 = .ok (.iload_n 1, 1) := by decide +kernel
theorem dX0_usesOf_14 : decode cX0_usesOf 14 = .ok (.iaload, 1) := by decide +kernel
theorem dX0_usesOf_15 : decode cX0_usesOf 15 = .ok (.goto 4, 3) := by decide +kernel
theorem dX0_usesOf_18 : decode cX0_usesOf 18 = .ok (.iconst 0, 1) := by decide +kernel
theorem dX0_usesOf_19 : decode cX0_usesOf 19 = .ok (.ireturn, 1) := by decide +kernel
set_option maxRecDepth 20000 in
theorem ggX0_addUses_X5_isIndex : GoodIn wsX0_addUses wsX5_isIndex := goodIn_r _ [4] (by decide +kernel) (by decide +kernel)
set_option maxRecDepth 20000 in
theorem gX0_addUses_X5_isIndex_n31 : GoodIn wsX0_addUses (wsX5_isIndex) := ggX0_addUses_X5_isIndex
theorem dX0_addUses_0 : decode cX0_addUses 0 = .ok (.iload_n 1, 1) := by decide +kernel
theorem dX0_addUses_1 : decode cX0_addUses 1 = .ok (.bipush 40, 2) := by decide +kernel
theorem dX0_addUses_3 : decode cX0_addUses 3 = .ok (.invokestatic 31, 3) := by decide +kernel
theorem dX0_addUses_6 : decode cX0_addUses 6 = .ok (.ifCond .eq 13, 3) := by decide +kernel
theorem dX0_addUses_9 : decode cX0_addUses 9 = .ok (.aload_n 0, 1) := by decide +kernel
theorem dX0_addUses_10 : decode cX0_addUses 10 = .ok (.getfield 15, 3) := by decide +kernel
theorem dX0_addUses_13 : decode cX0_addUses 13 = .ok (.iload_n 1, 1) := by decide +kernel
theorem dX0_addUses_14 : decode cX0_addUses 14 = .ok (.dup2, 1) := by decide +kernel
theorem dX0_addUses_15 : decode cX0_addUses 15 = .ok (.iaload, 1) := by decide +kernel
theorem dX0_addUses_16 : decode cX0_addUses 16 = .ok (.iload_n 2, 1) := by decide +kernel
theorem dX0_addUses_17 : decode cX0_addUses 17 = .ok (.iadd, 1) := by decide +kernel
theorem dX0_addUses_18 : decode cX0_addUses 18 = .ok (.iastore, 1) := by decide +kernel
theorem dX0_addUses_19 : decode cX0_addUses 19 = .ok (.return_, 1) := by decide +kernel
theorem dX0_isThere_0 : decode cX0_isThere 0 = .ok (.iload_n 1, 1) := by decide +kernel
theorem dX0_isThere_1 : decode cX0_isThere 1 = .ok (.ifCond .lt 22, 3) := by decide +kernel
theorem dX0_isThere_4 : decode cX0_isThere 4 = .ok (.iload_n 1, 1) := by decide +kernel
theorem dX0_isThere_5 : decode cX0_isThere 5 = .ok (.bipush 40, 2) := by decide +kernel
theorem dX0_isThere_7 : decode cX0_isThere 7 = .ok (.if_icmp .ge 16, 3) := by decide +kernel
theorem dX0_isThere_10 : decode cX0_isThere 10 = .ok (.aload_n 0, 1) := by decide +kernel
theorem dX0_isThere_11 : decode cX0_isThere 11 = .ok (.getfield 15, 3) := by decide +kernel
theorem dX0_isThere_14 : decode cX0_isThere 14 = .ok (.iload_n 1, 1) := by decide +kernel
theorem dX0_isThere_15 : decode cX0_isThere 15 = .ok (.iaload, 1) := by decide +kernel
theorem dX0_isThere_16 : decode cX0_isThere 16 = .ok (.ifCond .le 7, 3) := by decide +kernel
theorem dX0_isThere_19 : decode cX0_isThere 19 = .ok (.iconst 1, 1) := by decide +kernel
theorem dX0_isThere_20 : decode cX0_isThere 20 = .ok (.goto 4, 3) := by decide +kernel
theorem dX0_isThere_23 : decode cX0_isThere 23 = .ok (.iconst 0, 1) := by decide +kernel
theorem dX0_isThere_24 : decode cX0_isThere 24 = .ok (.ireturn, 1) := by decide +kernel
theorem dX0_cellOf_0 : decode cX0_cellOf 0 = .ok (.iload_n 1, 1) := by decide +kernel
theorem dX0_cellOf_1 : decode cX0_cellOf 1 = .ok (.bipush 8, 2) := by decide +kernel
theorem dX0_cellOf_3 : decode cX0_cellOf 3 = .ok (.imul, 1) := by decide +kernel
theorem dX0_cellOf_4 : decode cX0_cellOf 4 = .ok (.iload_n 2, 1) := by decide +kernel
theorem dX0_cellOf_5 : decode cX0_cellOf 5 = .ok (.iadd, 1) := by decide +kernel
theorem dX0_cellOf_6 : decode cX0_cellOf 6 = .ok (.istore_n 3, 1) := by decide +kernel
theorem dX0_cellOf_7 : decode cX0_cellOf 7 = .ok (.iload_n 3, 1) := by decide +kernel
theorem dX0_cellOf_8 : decode cX0_cellOf 8 = .ok (.ifCond .lt 21, 3) := by decide +kernel
theorem dX0_cellOf_11 : decode cX0_cellOf 11 = .ok (.iload_n 3, 1) := by decide +kernel
theorem dX0_cellOf_12 : decode cX0_cellOf 12 = .ok (.aload_n 0, 1) := by decide +kernel
theorem dX0_cellOf_13 : decode cX0_cellOf 13 = .ok (.getfield 9, 3) := by decide +kernel
theorem dX0_cellOf_16 : decode cX0_cellOf 16 = .ok (.arraylength, 1) := by decide +kernel
theorem dX0_cellOf_17 : decode cX0_cellOf 17 = .ok (.if_icmp .ge 12, 3) := by decide +kernel
theorem dX0_cellOf_20 : decode cX0_cellOf 20 = .ok (.aload_n 0, 1) := by decide +kernel
theorem dX0_cellOf_21 : decode cX0_cellOf 21 = .ok (.getfield 9, 3) := by decide +kernel
theorem dX0_cellOf_24 : decode cX0_cellOf 24 = .ok (.iload_n 3, 1) := by decide +kernel
theorem dX0_cellOf_25 : decode cX0_cellOf 25 = .ok (.iaload, 1) := by decide +kernel
theorem dX0_cellOf_26 : decode cX0_cellOf 26 = .ok (.goto 4, 3) := by decide +kernel
theorem dX0_cellOf_29 : decode cX0_cellOf 29 = .ok (.iconst 0, 1) := by decide +kernel
theorem dX0_cellOf_30 : decode cX0_cellOf 30 = .ok (.ireturn, 1) := by decide +kernel
set_option maxRecDepth 20000 in
theorem ggX0_there_X0_isThere : GoodIn wsX0_there wsX0_isThere := goodIn_r _ [5, 6, 7, 8, 9, 10] (by decide +kernel) (by decide +kernel)
set_option maxRecDepth 20000 in
theorem gX0_there_X0_isThere : GoodIn wsX0_there (wsV RX0 35 RX0 yX0_isThere wsX0_isThere) := goodIn_app (goodIn_of _ (by decide +kernel)) ggX0_there_X0_isThere
theorem dX0_there_0 : decode cX0_there 0 = .ok (.iconst 0, 1) := by decide +kernel
theorem dX0_there_1 : decode cX0_there 1 = .ok (.istore_n 1, 1) := by decide +kernel
theorem dX0_there_2 : decode cX0_there 2 = .ok (.iconst 0, 1) := by decide +kernel
theorem dX0_there_3 : decode cX0_there 3 = .ok (.istore_n 2, 1) := by decide +kernel
theorem dX0_there_4 : decode cX0_there 4 = .ok (.iload_n 2, 1) := by decide +kernel
theorem dX0_there_5 : decode cX0_there 5 = .ok (.bipush 40, 2) := by decide +kernel
theorem dX0_there_7 : decode cX0_there 7 = .ok (.if_icmp .ge 25, 3) := by decide +kernel
theorem dX0_there_10 : decode cX0_there 10 = .ok (.iload_n 1, 1) := by decide +kernel
theorem dX0_there_11 : decode cX0_there 11 = .ok (.aload_n 0, 1) := by decide +kernel
theorem dX0_there_12 : decode cX0_there 12 = .ok (.iload_n 2, 1) := by decide +kernel
theorem dX0_there_13 : decode cX0_there 13 = .ok (.invokevirtual 35, 3) := by decide +kernel
theorem dX0_there_16 : decode cX0_there 16 = .ok (.ifCond .eq 7, 3) := by decide +kernel
theorem dX0_there_19 : decode cX0_there 19 = .ok (.iconst 1, 1) := by decide +kernel
theorem dX0_there_20 : decode cX0_there 20 = .ok (.goto 4, 3) := by decide +kernel
theorem dX0_there_23 : decode cX0_there 23 = .ok (.iconst 0, 1) := by decide +kernel
theorem dX0_there_24 : decode cX0_there 24 = .ok (.iadd, 1) := by decide +kernel
theorem dX0_there_25 : decode cX0_there 25 = .ok (.istore_n 1, 1) := by decide +kernel
theorem dX0_there_26 : decode cX0_there 26 = .ok (.iinc 2 1, 3) := by decide +kernel
theorem dX0_there_29 : decode cX0_there 29 = .ok (.goto (-25), 3) := by decide +kernel
theorem dX0_there_32 : decode cX0_there 32 = .ok (.iload_n 1, 1) := by decide +kernel
theorem dX0_there_33 : decode cX0_there 33 = .ok (.ireturn, 1) := by decide +kernel
theorem dX0_holds_0 : decode cX0_holds 0 = .ok (.iload_n 1, 1) := by decide +kernel
theorem dX0_holds_1 : decode cX0_holds 1 = .ok (.ifCond .lt 18, 3) := by decide +kernel
theorem dX0_holds_4 : decode cX0_holds 4 = .ok (.iload_n 1, 1) := by decide +kernel
theorem dX0_holds_5 : decode cX0_holds 5 = .ok (.bipush 40, 2) := by decide +kernel
theorem dX0_holds_7 : decode cX0_holds 7 = .ok (.if_icmp .ge 12, 3) := by decide +kernel
theorem dX0_holds_10 : decode cX0_holds 10 = .ok (.aload_n 0, 1) := by decide +kernel
theorem dX0_holds_11 : decode cX0_holds 11 = .ok (.getfield 15, 3) := by decide +kernel
theorem dX0_holds_14 : decode cX0_holds 14 = .ok (.iload_n 1, 1) := by decide +kernel
theorem dX0_holds_15 : decode cX0_holds 15 = .ok (.iaload, 1) := by decide +kernel
theorem dX0_holds_16 : decode cX0_holds 16 = .ok (.ifCond .ne 5, 3) := by decide +kernel
theorem dX0_holds_19 : decode cX0_holds 19 = .ok (.iconst 0, 1) := by decide +kernel
theorem dX0_holds_20 : decode cX0_holds 20 = .ok (.ireturn, 1) := by decide +kernel
theorem dX0_holds_21 : decode cX0_holds 21 = .ok (.iload_n 3, 1) := by decide +kernel
theorem dX0_holds_22 : decode cX0_holds 22 = .ok (.ifCond .lt 12, 3) := by decide +kernel
theorem dX0_holds_25 : decode cX0_holds 25 = .ok (.iload_n 3, 1) := by decide +kernel
theorem dX0_holds_26 : decode cX0_holds 26 = .ok (.aload_n 2, 1) := by decide +kernel
theorem dX0_holds_27 : decode cX0_holds 27 = .ok (.arraylength, 1) := by decide +kernel
theorem dX0_holds_28 : decode cX0_holds 28 = .ok (.bipush 8, 2) := by decide +kernel
theorem dX0_holds_30 : decode cX0_holds 30 = .ok (.isub, 1) := by decide +kernel
theorem dX0_holds_31 : decode cX0_holds 31 = .ok (.if_icmp .le 5, 3) := by decide +kernel
theorem dX0_holds_34 : decode cX0_holds 34 = .ok (.iconst 0, 1) := by decide +kernel
theorem dX0_holds_35 : decode cX0_holds 35 = .ok (.ireturn, 1) := by decide +kernel
theorem dX0_holds_36 : decode cX0_holds 36 = .ok (.iconst 0, 1) := by decide +kernel
theorem dX0_holds_37 : decode cX0_holds 37 = .ok (.istore 4, 2) := by decide +kernel
theorem dX0_holds_39 : decode cX0_holds 39 = .ok (.iload 4, 2) := by decide +kernel
theorem dX0_holds_41 : decode cX0_holds 41 = .ok (.bipush 8, 2) := by decide +kernel
theorem dX0_holds_43 : decode cX0_holds 43 = .ok (.if_icmp .ge 32, 3) := by decide +kernel
theorem dX0_holds_46 : decode cX0_holds 46 = .ok (.aload_n 0, 1) := by decide +kernel
theorem dX0_holds_47 : decode cX0_holds 47 = .ok (.getfield 9, 3) := by decide +kernel
theorem dX0_holds_50 : decode cX0_holds 50 = .ok (.iload_n 1, 1) := by decide +kernel
theorem dX0_holds_51 : decode cX0_holds 51 = .ok (.bipush 8, 2) := by decide +kernel
theorem dX0_holds_53 : decode cX0_holds 53 = .ok (.imul, 1) := by decide +kernel
theorem dX0_holds_54 : decode cX0_holds 54 = .ok (.iload 4, 2) := by decide +kernel
theorem dX0_holds_56 : decode cX0_holds 56 = .ok (.iadd, 1) := by decide +kernel
theorem dX0_holds_57 : decode cX0_holds 57 = .ok (.iaload, 1) := by decide +kernel
theorem dX0_holds_58 : decode cX0_holds 58 = .ok (.aload_n 2, 1) := by decide +kernel
theorem dX0_holds_59 : decode cX0_holds 59 = .ok (.iload_n 3, 1) := by decide +kernel
theorem dX0_holds_60 : decode cX0_holds 60 = .ok (.iload 4, 2) := by decide +kernel
theorem dX0_holds_62 : decode cX0_holds 62 = .ok (.iadd, 1) := by decide +kernel
theorem dX0_holds_63 : decode cX0_holds 63 = .ok (.iaload, 1) := by decide +kernel
theorem dX0_holds_64 : decode cX0_holds 64 = .ok (.if_icmp .eq 5, 3) := by decide +kernel
theorem dX0_holds_67 : decode cX0_holds 67 = .ok (.iconst 0, 1) := by decide +kernel
theorem dX0_holds_68 : decode cX0_holds 68 = .ok (.ireturn, 1) := by decide +kernel
theorem dX0_holds_69 : decode cX0_holds 69 = .ok (.iinc 4 1, 3) := by decide +kernel
theorem dX0_holds_72 : decode cX0_holds 72 = .ok (.goto (-33), 3) := by decide +kernel
theorem dX0_holds_75 : decode cX0_holds 75 = .ok (.iconst 1, 1) := by decide +kernel
theorem dX0_holds_76 : decode cX0_holds 76 = .ok (.ireturn, 1) := by decide +kernel
set_option maxRecDepth 20000 in
theorem ggX0_lowestHolding_X0_holds : GoodIn wsX0_lowestHolding wsX0_holds := goodIn_r _ [5, 6, 7, 8, 9, 10, 11] (by decide +kernel) (by decide +kernel)
set_option maxRecDepth 20000 in
theorem gX0_lowestHolding_X0_holds : GoodIn wsX0_lowestHolding (wsV RX0 39 RX0 yX0_holds wsX0_holds) := goodIn_app (goodIn_of _ (by decide +kernel)) ggX0_lowestHolding_X0_holds
theorem dX0_lowestHolding_0 : decode cX0_lowestHolding 0 = .ok (.iconst 0, 1) := by decide +kernel
theorem dX0_lowestHolding_1 : decode cX0_lowestHolding 1 = .ok (.istore_n 3, 1) := by decide +kernel
theorem dX0_lowestHolding_2 : decode cX0_lowestHolding 2 = .ok (.iload_n 3, 1) := by decide +kernel
theorem dX0_lowestHolding_3 : decode cX0_lowestHolding 3 = .ok (.bipush 40, 2) := by decide +kernel
theorem dX0_lowestHolding_5 : decode cX0_lowestHolding 5 = .ok (.if_icmp .ge 21, 3) := by decide +kernel
theorem dX0_lowestHolding_8 : decode cX0_lowestHolding 8 = .ok (.aload_n 0, 1) := by decide +kernel
theorem dX0_lowestHolding_9 : decode cX0_lowestHolding 9 = .ok (.iload_n 3, 1) := by decide +kernel
theorem dX0_lowestHolding_10 : decode cX0_lowestHolding 10 = .ok (.aload_n 1, 1) := by decide +kernel
theorem dX0_lowestHolding_11 : decode cX0_lowestHolding 11 = .ok (.iload_n 2, 1) := by decide +kernel
theorem dX0_lowestHolding_12 : decode cX0_lowestHolding 12 = .ok (.invokevirtual 39, 3) := by decide +kernel
theorem dX0_lowestHolding_15 : decode cX0_lowestHolding 15 = .ok (.ifCond .eq 5, 3) := by decide +kernel
theorem dX0_lowestHolding_18 : decode cX0_lowestHolding 18 = .ok (.iload_n 3, 1) := by decide +kernel
theorem dX0_lowestHolding_19 : decode cX0_lowestHolding 19 = .ok (.ireturn, 1) := by decide +kernel
theorem dX0_lowestHolding_20 : decode cX0_lowestHolding 20 = .ok (.iinc 3 1, 3) := by decide +kernel
theorem dX0_lowestHolding_23 : decode cX0_lowestHolding 23 = .ok (.goto (-21), 3) := by decide +kernel
theorem dX0_lowestHolding_26 : decode cX0_lowestHolding 26 = .ok (.iconst (-1), 1) := by decide +kernel
theorem dX0_lowestHolding_27 : decode cX0_lowestHolding 27 = .ok (.ireturn, 1) := by decide +kernel
set_option maxRecDepth 20000 in
theorem ggX0_lowestOtherLike_X0_holds : GoodIn wsX0_lowestOtherLike wsX0_holds := goodIn_r _ [6, 7, 1, 8, 9, 10, 11] (by decide +kernel) (by decide +kernel)
set_option maxRecDepth 20000 in
theorem gX0_lowestOtherLike_X0_holds : GoodIn wsX0_lowestOtherLike (wsV RX0 39 RX0 yX0_holds wsX0_holds) := goodIn_app (goodIn_of _ (by decide +kernel)) ggX0_lowestOtherLike_X0_holds
theorem dX0_lowestOtherLike_0 : decode cX0_lowestOtherLike 0 = .ok (.iconst 0, 1) := by decide +kernel
theorem dX0_lowestOtherLike_1 : decode cX0_lowestOtherLike 1 = .ok (.istore_n 2, 1) := by decide +kernel
theorem dX0_lowestOtherLike_2 : decode cX0_lowestOtherLike 2 = .ok (.iload_n 2, 1) := by decide +kernel
theorem dX0_lowestOtherLike_3 : decode cX0_lowestOtherLike 3 = .ok (.bipush 40, 2) := by decide +kernel
theorem dX0_lowestOtherLike_5 : decode cX0_lowestOtherLike 5 = .ok (.if_icmp .ge 32, 3) := by decide +kernel
theorem dX0_lowestOtherLike_8 : decode cX0_lowestOtherLike 8 = .ok (.iload_n 2, 1) := by decide +kernel
theorem dX0_lowestOtherLike_9 : decode cX0_lowestOtherLike 9 = .ok (.iload_n 1, 1) := by decide +kernel
theorem dX0_lowestOtherLike_10 : decode cX0_lowestOtherLike 10 = .ok (.if_icmp .eq 21, 3) := by decide +kernel
theorem dX0_lowestOtherLike_13 : decode cX0_lowestOtherLike 13 = .ok (.aload_n 0, 1) := by decide +kernel
theorem dX0_lowestOtherLike_14 : decode cX0_lowestOtherLike 14 = .ok (.iload_n 2, 1) := by decide +kernel
theorem dX0_lowestOtherLike_15 : decode cX0_lowestOtherLike 15 = .ok (.aload_n 0, 1) := by decide +kernel
theorem dX0_lowestOtherLike_16 : decode cX0_lowestOtherLike 16 = .ok (.getfield 9, 3) := by decide +kernel
theorem dX0_lowestOtherLike_19 : decode cX0_lowestOtherLike 19 = .ok (.iload_n 1, 1) := by decide +kernel
theorem dX0_lowestOtherLike_20 : decode cX0_lowestOtherLike 20 = .ok (.bipush 8, 2) := by decide +kernel
theorem dX0_lowestOtherLike_22 : decode cX0_lowestOtherLike 22 = .ok (.imul, 1) := by decide +kernel
theorem dX0_lowestOtherLike_23 : decode cX0_lowestOtherLike 23 = .ok (.invokevirtual 39, 3) := by decide +kernel
theorem dX0_lowestOtherLike_26 : decode cX0_lowestOtherLike 26 = .ok (.ifCond .eq 5, 3) := by decide +kernel
theorem dX0_lowestOtherLike_29 : decode cX0_lowestOtherLike 29 = .ok (.iload_n 2, 1) := by decide +kernel
theorem dX0_lowestOtherLike_30 : decode cX0_lowestOtherLike 30 = .ok (.ireturn, 1) := by decide +kernel
theorem dX0_lowestOtherLike_31 : decode cX0_lowestOtherLike 31 = .ok (.iinc 2 1, 3) := by decide +kernel
theorem dX0_lowestOtherLike_34 : decode cX0_lowestOtherLike 34 = .ok (.goto (-32), 3) := by decide +kernel
theorem dX0_lowestOtherLike_37 : decode cX0_lowestOtherLike 37 = .ok (.iconst (-1), 1) := by decide +kernel
theorem dX0_lowestOtherLike_38 : decode cX0_lowestOtherLike 38 = .ok (.ireturn, 1) := by decide +kernel
theorem dX0_make_0 : decode cX0_make 0 = .ok (.iload_n 2, 1) := by decide +kernel
theorem dX0_make_1 : decode cX0_make 1 = .ok (.ifCond .lt 12, 3) := by decide +kernel
theorem dX0_make_4 : decode cX0_make 4 = .ok (.iload_n 2, 1) := by decide +kernel
theorem dX0_make_5 : decode cX0_make 5 = .ok (.aload_n 1, 1) := by decide +kernel
theorem dX0_make_6 : decode cX0_make 6 = .ok (.arraylength, 1) := by decide +kernel
theorem dX0_make_7 : decode cX0_make 7 = .ok (.bipush 8, 2) := by decide +kernel
theorem dX0_make_9 : decode cX0_make 9 = .ok (.isub, 1) := by decide +kernel
theorem dX0_make_10 : decode cX0_make 10 = .ok (.if_icmp .le 5, 3) := by decide +kernel
theorem dX0_make_13 : decode cX0_make 13 = .ok (.iconst (-1), 1) := by decide +kernel
theorem dX0_make_14 : decode cX0_make 14 = .ok (.ireturn, 1) := by decide +kernel
theorem dX0_make_15 : decode cX0_make 15 = .ok (.iconst 0, 1) := by decide +kernel
theorem dX0_make_16 : decode cX0_make 16 = .ok (.istore_n 3, 1) := by decide +kernel
theorem dX0_make_17 : decode cX0_make 17 = .ok (.iload_n 3, 1) := by decide +kernel
theorem dX0_make_18 : decode cX0_make 18 = .ok (.bipush 40, 2) := by decide +kernel
theorem dX0_make_20 : decode cX0_make 20 = .ok (.if_icmp .ge 45, 3) := by decide +kernel
theorem dX0_make_23 : decode cX0_make 23 = .ok (.aload_n 0, 1) := by decide +kernel
theorem dX0_make_24 : decode cX0_make 24 = .ok (.getfield 15, 3) := by decide +kernel
theorem dX0_make_27 : decode cX0_make 27 = .ok (.iload_n 3, 1) := by decide +kernel
theorem dX0_make_28 : decode cX0_make 28 = .ok (.iaload, 1) := by decide +kernel
theorem dX0_make_29 : decode cX0_make 29 = .ok (.ifCond .ne 30, 3) := by decide +kernel
theorem dX0_make_32 : decode cX0_make 32 = .ok (.aload_n 1, 1) := by decide +kernel
theorem dX0_make_33 : decode cX0_make 33 = .ok (.iload_n 2, 1) := by decide +kernel
theorem dX0_make_34 : decode cX0_make 34 = .ok (.aload_n 0, 1) := by decide +kernel
theorem dX0_make_35 : decode cX0_make 35 = .ok (.getfield 9, 3) := by decide +kernel
theorem dX0_make_38 : decode cX0_make 38 = .ok (.iload_n 3, 1) := by decide +kernel
theorem dX0_make_39 : decode cX0_make 39 = .ok (.bipush 8, 2) := by decide +kernel
theorem dX0_make_41 : decode cX0_make 41 = .ok (.imul, 1) := by decide +kernel
theorem dX0_make_42 : decode cX0_make 42 = .ok (.bipush 8, 2) := by decide +kernel
theorem dX0_make_44 : decode cX0_make 44 = .ok (.invokestatic 25, 3) := by decide +kernel
theorem dX0_make_47 : decode cX0_make 47 = .ok (.aload_n 0, 1) := by decide +kernel
theorem dX0_make_48 : decode cX0_make 48 = .ok (.dup, 1) := by decide +kernel
theorem dX0_make_49 : decode cX0_make 49 = .ok (.getfield 18, 3) := by decide +kernel
theorem dX0_make_52 : decode cX0_make 52 = .ok (.iconst 1, 1) := by decide +kernel
theorem dX0_make_53 : decode cX0_make 53 = .ok (.iadd, 1) := by decide +kernel
theorem dX0_make_54 : decode cX0_make 54 = .ok (.putfield 18, 3) := by decide +kernel
theorem dX0_make_57 : decode cX0_make 57 = .ok (.iload_n 3, 1) := by decide +kernel
theorem dX0_make_58 : decode cX0_make 58 = .ok (.ireturn, 1) := by decide +kernel
theorem dX0_make_59 : decode cX0_make 59 = .ok (.iinc 3 1, 3) := by decide +kernel
theorem dX0_make_62 : decode cX0_make 62 = .ok (.goto (-45), 3) := by decide +kernel
theorem dX0_make_65 : decode cX0_make 65 = .ok (.iconst (-1), 1) := by decide +kernel
theorem dX0_make_66 : decode cX0_make 66 = .ok (.ireturn, 1) := by decide +kernel
set_option maxRecDepth 20000 in
theorem ggX0_sumOf_X0_cellOf : GoodIn wsX0_sumOf wsX0_cellOf := goodIn_r _ [5, 6, 7, 8, 9, 10] (by decide +kernel) (by decide +kernel)
set_option maxRecDepth 20000 in
theorem gX0_sumOf_X0_cellOf : GoodIn wsX0_sumOf (wsV RX0 43 RX0 yX0_cellOf wsX0_cellOf) := goodIn_app (goodIn_of _ (by decide +kernel)) ggX0_sumOf_X0_cellOf
theorem dX0_sumOf_0 : decode cX0_sumOf 0 = .ok (.iconst 0, 1) := by decide +kernel
theorem dX0_sumOf_1 : decode cX0_sumOf 1 = .ok (.istore_n 2, 1) := by decide +kernel
theorem dX0_sumOf_2 : decode cX0_sumOf 2 = .ok (.iconst 0, 1) := by decide +kernel
theorem dX0_sumOf_3 : decode cX0_sumOf 3 = .ok (.istore_n 3, 1) := by decide +kernel
theorem dX0_sumOf_4 : decode cX0_sumOf 4 = .ok (.iload_n 3, 1) := by decide +kernel
theorem dX0_sumOf_5 : decode cX0_sumOf 5 = .ok (.bipush 8, 2) := by decide +kernel
theorem dX0_sumOf_7 : decode cX0_sumOf 7 = .ok (.if_icmp .ge 18, 3) := by decide +kernel
theorem dX0_sumOf_10 : decode cX0_sumOf 10 = .ok (.iload_n 2, 1) := by decide +kernel
theorem dX0_sumOf_11 : decode cX0_sumOf 11 = .ok (.aload_n 0, 1) := by decide +kernel
theorem dX0_sumOf_12 : decode cX0_sumOf 12 = .ok (.iload_n 1, 1) := by decide +kernel
theorem dX0_sumOf_13 : decode cX0_sumOf 13 = .ok (.iload_n 3, 1) := by decide +kernel
theorem dX0_sumOf_14 : decode cX0_sumOf 14 = .ok (.invokevirtual 43, 3) := by decide +kernel
theorem dX0_sumOf_17 : decode cX0_sumOf 17 = .ok (.iadd, 1) := by decide +kernel
theorem dX0_sumOf_18 : decode cX0_sumOf 18 = .ok (.istore_n 2, 1) := by decide +kernel
theorem dX0_sumOf_19 : decode cX0_sumOf 19 = .ok (.iinc 3 1, 3) := by decide +kernel
theorem dX0_sumOf_22 : decode cX0_sumOf 22 = .ok (.goto (-18), 3) := by decide +kernel
theorem dX0_sumOf_25 : decode cX0_sumOf 25 = .ok (.iload_n 2, 1) := by decide +kernel
theorem dX0_sumOf_26 : decode cX0_sumOf 26 = .ok (.ireturn, 1) := by decide +kernel
set_option maxRecDepth 20000 in
theorem ggX0_nonZeroCells_X0_cellOf : GoodIn wsX0_nonZeroCells wsX0_cellOf := goodIn_r _ [5, 6, 7, 8, 9, 10] (by decide +kernel) (by decide +kernel)
set_option maxRecDepth 20000 in
theorem gX0_nonZeroCells_X0_cellOf : GoodIn wsX0_nonZeroCells (wsV RX0 43 RX0 yX0_cellOf wsX0_cellOf) := goodIn_app (goodIn_of _ (by decide +kernel)) ggX0_nonZeroCells_X0_cellOf
theorem dX0_nonZeroCells_0 : decode cX0_nonZeroCells 0 = .ok (.iconst 0, 1) := by decide +kernel
theorem dX0_nonZeroCells_1 : decode cX0_nonZeroCells 1 = .ok (.istore_n 2, 1) := by decide +kernel
theorem dX0_nonZeroCells_2 : decode cX0_nonZeroCells 2 = .ok (.iconst 0, 1) := by decide +kernel
theorem dX0_nonZeroCells_3 : decode cX0_nonZeroCells 3 = .ok (.istore_n 3, 1) := by decide +kernel
theorem dX0_nonZeroCells_4 : decode cX0_nonZeroCells 4 = .ok (.iload_n 3, 1) := by decide +kernel
theorem dX0_nonZeroCells_5 : decode cX0_nonZeroCells 5 = .ok (.bipush 8, 2) := by decide +kernel
theorem dX0_nonZeroCells_7 : decode cX0_nonZeroCells 7 = .ok (.if_icmp .ge 24, 3) := by decide +kernel
theorem dX0_nonZeroCells_10 : decode cX0_nonZeroCells 10 = .ok (.aload_n 0, 1) := by decide +kernel
theorem dX0_nonZeroCells_11 : decode cX0_nonZeroCells 11 = .ok (.iload_n 1, 1) := by decide +kernel
theorem dX0_nonZeroCells_12 : decode cX0_nonZeroCells 12 = .ok (.iload_n 3, 1) := by decide +kernel
theorem dX0_nonZeroCells_13 : decode cX0_nonZeroCells 13 = .ok (.invokevirtual 43, 3) := by decide +kernel
theorem dX0_nonZeroCells_16 : decode cX0_nonZeroCells 16 = .ok (.ifCond .eq 9, 3) := by decide +kernel
theorem dX0_nonZeroCells_19 : decode cX0_nonZeroCells 19 = .ok (.iload_n 2, 1) := by decide +kernel
theorem dX0_nonZeroCells_20 : decode cX0_nonZeroCells 20 = .ok (.iconst 1, 1) := by decide +kernel
theorem dX0_nonZeroCells_21 : decode cX0_nonZeroCells 21 = .ok (.iload_n 3, 1) := by decide +kernel
theorem dX0_nonZeroCells_22 : decode cX0_nonZeroCells 22 = .ok (.ishl, 1) := by decide +kernel
theorem dX0_nonZeroCells_23 : decode cX0_nonZeroCells 23 = .ok (.ior, 1) := by decide +kernel
theorem dX0_nonZeroCells_24 : decode cX0_nonZeroCells 24 = .ok (.istore_n 2, 1) := by decide +kernel
theorem dX0_nonZeroCells_25 : decode cX0_nonZeroCells 25 = .ok (.iinc 3 1, 3) := by decide +kernel
theorem dX0_nonZeroCells_28 : decode cX0_nonZeroCells 28 = .ok (.goto (-24), 3) := by decide +kernel
theorem dX0_nonZeroCells_31 : decode cX0_nonZeroCells 31 = .ok (.iload_n 2, 1) := by decide +kernel
theorem dX0_nonZeroCells_32 : decode cX0_nonZeroCells 32 = .ok (.ireturn, 1) := by decide +kernel
set_option maxRecDepth 20000 in
theorem ggX0_doubles_X0_isThere : GoodIn wsX0_doubles wsX0_isThere := goodIn_r _ [6, 7, 16, 17, 18, 19] (by decide +kernel) (by decide +kernel)
set_option maxRecDepth 20000 in
theorem gX0_doubles_X0_isThere : GoodIn wsX0_doubles (wsV RX0 35 RX0 yX0_isThere wsX0_isThere) := goodIn_app (goodIn_of _ (by decide +kernel)) ggX0_doubles_X0_isThere
set_option maxRecDepth 20000 in
theorem ggX0_doubles_X0_lowestHolding : GoodIn wsX0_doubles wsX0_lowestHolding := goodIn_r _ [11, 12, 13, 14, 5, 15, 7, 1, 16, 17, 18, 19] (by decide +kernel) (by decide +kernel)
set_option maxRecDepth 20000 in
theorem gX0_doubles_X0_lowestHolding : GoodIn wsX0_doubles (wsV RX0 47 RX0 yX0_lowestHolding wsX0_lowestHolding) := goodIn_app (goodIn_of _ (by decide +kernel)) ggX0_doubles_X0_lowestHolding
theorem dX0_doubles_0 : decode cX0_doubles 0 = .ok (.iconst 0, 1) := by decide +kernel
theorem dX0_doubles_1 : decode cX0_doubles 1 = .ok (.istore_n 1, 1) := by decide +kernel
theorem dX0_doubles_2 : decode cX0_doubles 2 = .ok (.iconst 0, 1) := by decide +kernel
theorem dX0_doubles_3 : decode cX0_doubles 3 = .ok (.istore_n 2, 1) := by decide +kernel
theorem dX0_doubles_4 : decode cX0_doubles 4 = .ok (.iload_n 2, 1) := by decide +kernel
theorem dX0_doubles_5 : decode cX0_doubles 5 = .ok (.bipush 40, 2) := by decide +kernel
theorem dX0_doubles_7 : decode cX0_doubles 7 = .ok (.if_icmp .ge 36, 3) := by decide +kernel
theorem dX0_doubles_10 : decode cX0_doubles 10 = .ok (.aload_n 0, 1) := by decide +kernel
theorem dX0_doubles_11 : decode cX0_doubles 11 = .ok (.iload_n 2, 1) := by decide +kernel
theorem dX0_doubles_12 : decode cX0_doubles 12 = .ok (.invokevirtual 35, 3) := by decide +kernel
theorem dX0_doubles_15 : decode cX0_doubles 15 = .ok (.ifCond .eq 22, 3) := by decide +kernel
theorem dX0_doubles_18 : decode cX0_doubles 18 = .ok (.aload_n 0, 1) := by decide +kernel
theorem dX0_doubles_19 : decode cX0_doubles 19 = .ok (.aload_n 0, 1) := by decide +kernel
theorem dX0_doubles_20 : decode cX0_doubles 20 = .ok (.getfield 9, 3) := by decide +kernel
theorem dX0_doubles_23 : decode cX0_doubles 23 = .ok (.iload_n 2, 1) := by decide +kernel
theorem dX0_doubles_24 : decode cX0_doubles 24 = .ok (.bipush 8, 2) := by decide +kernel
theorem dX0_doubles_26 : decode cX0_doubles 26 = .ok (.imul, 1) := by decide +kernel
theorem dX0_doubles_27 : decode cX0_doubles 27 = .ok (.invokevirtual 47, 3) := by decide +kernel
theorem dX0_doubles_30 : decode cX0_doubles 30 = .ok (.iload_n 2, 1) := by decide +kernel
theorem dX0_doubles_31 : decode cX0_doubles 31 = .ok (.if_icmp .ge 6, 3) := by decide +kernel
theorem dX0_doubles_34 : decode cX0_doubles 34 = .ok (.iinc 1 1, 3) := by decide +kernel
theorem dX0_doubles_37 : decode cX0_doubles 37 = .ok (.iinc 2 1, 3) := by decide +kernel
theorem dX0_doubles_40 : decode cX0_doubles 40 = .ok (.goto (-36), 3) := by decide +kernel
theorem dX0_doubles_43 : decode cX0_doubles 43 = .ok (.iload_n 1, 1) := by decide +kernel
theorem dX0_doubles_44 : decode cX0_doubles 44 = .ok (.ireturn, 1) := by decide +kernel
set_option maxRecDepth 20000 in
theorem ggX1_init_X4_init : GoodIn wsX1_init wsX4_init := goodIn_r _ [12, 13, 2, 3, 14, 15, 16, 17, 18, 19, 20, 21, 22, 23, 24, 25, 26, 27, 28, 29, 30, 31, 32, 33, 34, 35, 36, 37, 38, 39, 40, 41, 42, 43, 53, 54, 55, 56, 47, 48, 49, 50, 51, 52, 57, 58, 59, 60, 61] (by decide +kernel) (by decide +kernel)
set_option maxRecDepth 20000 in
theorem gX1_init_X4_init : GoodIn wsX1_init (wsX4_init) := ggX1_init_X4_init
theorem dX1_init_0 : decode cX1_init 0 = .ok (.aload_n 0, 1) := by decide +kernel
theorem dX1_init_1 : decode cX1_init 1 = .ok (.invokespecial 3, 3) := by decide +kernel
theorem dX1_init_4 : decode cX1_init 4 = .ok (.aload_n 0, 1) := by decide +kernel
theorem dX1_init_5 : decode cX1_init 5 = .ok (.iconst 4, 1) := by decide +kernel
theorem dX1_init_6 : decode cX1_init 6 = .ok (.anewarray 9, 3) := by decide +kernel
theorem dX1_init_9 : decode cX1_init 9 = .ok (.putfield 11, 3) := by decide +kernel
theorem dX1_init_12 : decode cX1_init 12 = .ok (.aload_n 0, 1) := by decide +kernel
theorem dX1_init_13 : decode cX1_init 13 = .ok (.iconst 0, 1) := by decide +kernel
theorem dX1_init_14 : decode cX1_init 14 = .ok (.putfield 17, 3) := by decide +kernel
theorem dX1_init_17 : decode cX1_init 17 = .ok (.aload_n 0, 1) := by decide +kernel
theorem dX1_init_18 : decode cX1_init 18 = .ok (.iconst 0, 1) := by decide +kernel
theorem dX1_init_19 : decode cX1_init 19 = .ok (.putfield 21, 3) := by decide +kernel
theorem dX1_init_22 : decode cX1_init 22 = .ok (.iconst 0, 1) := by decide +kernel
theorem dX1_init_23 : decode cX1_init 23 = .ok (.istore_n 1, 1) := by decide +kernel
theorem dX1_init_24 : decode cX1_init 24 = .ok (.iload_n 1, 1) := by decide +kernel
theorem dX1_init_25 : decode cX1_init 25 = .ok (.iconst 4, 1) := by decide +kernel
theorem dX1_init_26 : decode cX1_init 26 = .ok (.if_icmp .ge 22, 3) := by decide +kernel
theorem dX1_init_29 : decode cX1_init 29 = .ok (.aload_n 0, 1) := by decide +kernel
theorem dX1_init_30 : decode cX1_init 30 = .ok (.getfield 11, 3) := by decide +kernel
theorem dX1_init_33 : decode cX1_init 33 = .ok (.iload_n 1, 1) := by decide +kernel
theorem dX1_init_34 : decode cX1_init 34 = .ok (.new 9, 3) := by decide +kernel
theorem dX1_init_37 : decode cX1_init 37 = .ok (.dup, 1) := by decide +kernel
theorem dX1_init_38 : decode cX1_init 38 = .ok (.invokespecial 24, 3) := by decide +kernel
theorem dX1_init_41 : decode cX1_init 41 = .ok (.aastore, 1) := by decide +kernel
theorem dX1_init_42 : decode cX1_init 42 = .ok (.iinc 1 1, 3) := by decide +kernel
theorem dX1_init_45 : decode cX1_init 45 = .ok (.goto (-21), 3) := by decide +kernel
theorem dX1_init_48 : decode cX1_init 48 = .ok (.return_, 1) := by decide +kernel
theorem dX1_add_0 : decode cX1_add 0 = .ok (.aload_n 0, 1) := by decide +kernel
theorem dX1_add_1 : decode cX1_add 1 = .ok (.getfield 17, 3) := by decide +kernel
theorem dX1_add_4 : decode cX1_add 4 = .ok (.aload_n 0, 1) := by decide +kernel
theorem dX1_add_5 : decode cX1_add 5 = .ok (.getfield 21, 3) := by decide +kernel
theorem dX1_add_8 : decode cX1_add 8 = .ok (.iadd, 1) := by decide +kernel
theorem dX1_add_9 : decode cX1_add 9 = .ok (.iconst 4, 1) := by decide +kernel
theorem dX1_add_10 : decode cX1_add 10 = .ok (.irem, 1) := by decide +kernel
theorem dX1_add_11 : decode cX1_add 11 = .ok (.istore_n 2, 1) := by decide +kernel
theorem dX1_add_12 : decode cX1_add 12 = .ok (.aload_n 0, 1) := by decide +kernel
theorem dX1_add_13 : decode cX1_add 13 = .ok (.getfield 11, 3) := by decide +kernel
theorem dX1_add_16 : decode cX1_add 16 = .ok (.iload_n 2, 1) := by decide +kernel
theorem dX1_add_17 : decode cX1_add 17 = .ok (.aaload, 1) := by decide +kernel
theorem dX1_add_18 : decode cX1_add 18 = .ok (.astore_n 3, 1) := by decide +kernel
theorem dX1_add_19 : decode cX1_add 19 = .ok (.aload_n 0, 1) := by decide +kernel
theorem dX1_add_20 : decode cX1_add 20 = .ok (.getfield 11, 3) := by decide +kernel
theorem dX1_add_23 : decode cX1_add 23 = .ok (.iload_n 2, 1) := by decide +kernel
theorem dX1_add_24 : decode cX1_add 24 = .ok (.aload_n 1, 1) := by decide +kernel
theorem dX1_add_25 : decode cX1_add 25 = .ok (.aastore, 1) := by decide +kernel
theorem dX1_add_26 : decode cX1_add 26 = .ok (.aload_n 0, 1) := by decide +kernel
theorem dX1_add_27 : decode cX1_add 27 = .ok (.getfield 21, 3) := by decide +kernel
theorem dX1_add_30 : decode cX1_add 30 = .ok (.iconst 4, 1) := by decide +kernel
theorem dX1_add_31 : decode cX1_add 31 = .ok (.if_icmp .ge 16, 3) := by decide +kernel
theorem dX1_add_34 : decode cX1_add 34 = .ok (.aload_n 0, 1) := by decide +kernel
theorem dX1_add_35 : decode cX1_add 35 = .ok (.dup, 1) := by decide +kernel
theorem dX1_add_36 : decode cX1_add 36 = .ok (.getfield 21, 3) := by decide +kernel
theorem dX1_add_39 : decode cX1_add 39 = .ok (.iconst 1, 1) := by decide +kernel
theorem dX1_add_40 : decode cX1_add 40 = .ok (.iadd, 1) := by decide +kernel
theorem dX1_add_41 : decode cX1_add 41 = .ok (.putfield 21, 3) := by decide +kernel
theorem dX1_add_44 : decode cX1_add 44 = .ok (.goto 15, 3) := by decide +kernel
theorem dX1_add_47 : decode cX1_add 47 = .ok (.aload_n 0, 1) := by decide +kernel
theorem dX1_add_48 : decode cX1_add 48 = .ok (.aload_n 0, 1) := by decide +kernel
theorem dX1_add_49 : decode cX1_add 49 = .ok (.getfield 17, 3) := by decide +kernel
theorem dX1_add_52 : decode cX1_add 52 = .ok (.iconst 1, 1) := by decide +kernel
theorem dX1_add_53 : decode cX1_add 53 = .ok (.iadd, 1) := by decide +kernel
theorem dX1_add_54 : decode cX1_add 54 = .ok (.iconst 4, 1) := by decide +kernel
theorem dX1_add_55 : decode cX1_add 55 = .ok (.irem, 1) := by decide +kernel
theorem dX1_add_56 : decode cX1_add 56 = .ok (.putfield 17, 3) := by decide +kernel
theorem dX1_add_59 : decode cX1_add 59 = .ok (.aload_n 3, 1) := by decide +kernel
theorem dX1_add_60 : decode cX1_add 60 = .ok (.areturn, 1) := by decide +kernel
theorem dX2_init_0 : decode cX2_init 0 = .ok (.aload_n 0, 1) := by decide +kernel
theorem dX2_init_1 : decode cX2_init 1 = .ok (.invokespecial 3, 3) := by decide +kernel
theorem dX2_init_4 : decode cX2_init 4 = .ok (.aload_n 0, 1) := by decide +kernel
theorem dX2_init_5 : decode cX2_init 5 = .ok (.bipush 60, 2) := by decide +kernel
theorem dX2_init_7 : decode cX2_init 7 = .ok (.newarray .int, 2) := by decide +kernel
theorem dX2_init_9 : decode cX2_init 9 = .ok (.putfield 9, 3) := by decide +kernel
theorem dX2_init_12 : decode cX2_init 12 = .ok (.aload_n 0, 1) := by decide +kernel
theorem dX2_init_13 : decode cX2_init 13 = .ok (.iconst 4, 1) := by decide +kernel
theorem dX2_init_14 : decode cX2_init 14 = .ok (.newarray .int, 2) := by decide +kernel
theorem dX2_init_16 : decode cX2_init 16 = .ok (.putfield 15, 3) := by decide +kernel
theorem dX2_init_19 : decode cX2_init 19 = .ok (.aload_n 0, 1) := by decide +kernel
theorem dX2_init_20 : decode cX2_init 20 = .ok (.iconst 0, 1) := by decide +kernel
theorem dX2_init_21 : decode cX2_init 21 = .ok (.putfield 18, 3) := by decide +kernel
theorem dX2_init_24 : decode cX2_init 24 = .ok (.aload_n 0, 1) := by decide +kernel
theorem dX2_init_25 : decode cX2_init 25 = .ok (.iconst 0, 1) := by decide +kernel
theorem dX2_init_26 : decode cX2_init 26 = .ok (.putfield 22, 3) := by decide +kernel
theorem dX2_init_29 : decode cX2_init 29 = .ok (.aload_n 0, 1) := by decide +kernel
theorem dX2_init_30 : decode cX2_init 30 = .ok (.iconst 0, 1) := by decide +kernel
theorem dX2_init_31 : decode cX2_init 31 = .ok (.putfield 25, 3) := by decide +kernel
theorem dX2_init_34 : decode cX2_init 34 = .ok (.aload_n 0, 1) := by decide +kernel
theorem dX2_init_35 : decode cX2_init 35 = .ok (.iconst 0, 1) := by decide +kernel
theorem dX2_init_36 : decode cX2_init 36 = .ok (.putfield 28, 3) := by decide +kernel
theorem dX2_init_39 : decode cX2_init 39 = .ok (.aload_n 0, 1) := by decide +kernel
theorem dX2_init_40 : decode cX2_init 40 = .ok (.iconst 0, 1) := by decide +kernel
theorem dX2_init_41 : decode cX2_init 41 = .ok (.putfield 31, 3) := by decide +kernel
theorem dX2_init_44 : decode cX2_init 44 = .ok (.aload_n 0, 1) := by decide +kernel
theorem dX2_init_45 : decode cX2_init 45 = .ok (.iconst 0, 1) := by decide +kernel
theorem dX2_init_46 : decode cX2_init 46 = .ok (.putfield 34, 3) := by decide +kernel
theorem dX2_init_49 : decode cX2_init 49 = .ok (.return_, 1) := by decide +kernel
theorem dX3_init_0 : decode cX3_init 0 = .ok (.aload_n 0, 1) := by decide +kernel
theorem dX3_init_1 : decode cX3_init 1 = .ok (.invokespecial 3, 3) := by decide +kernel
theorem dX3_init_4 : decode cX3_init 4 = .ok (.aload_n 0, 1) := by decide +kernel
theorem dX3_init_5 : decode cX3_init 5 = .ok (.bipush 16, 2) := by decide +kernel
theorem dX3_init_7 : decode cX3_init 7 = .ok (.newarray .int, 2) := by decide +kernel
theorem dX3_init_9 : decode cX3_init 9 = .ok (.putfield 9, 3) := by decide +kernel
theorem dX3_init_12 : decode cX3_init 12 = .ok (.aload_n 0, 1) := by decide +kernel
theorem dX3_init_13 : decode cX3_init 13 = .ok (.bipush 16, 2) := by decide +kernel
theorem dX3_init_15 : decode cX3_init 15 = .ok (.newarray .int, 2) := by decide +kernel
theorem dX3_init_17 : decode cX3_init 17 = .ok (.putfield 15, 3) := by decide +kernel
theorem dX3_init_20 : decode cX3_init 20 = .ok (.aload_n 0, 1) := by decide +kernel
theorem dX3_init_21 : decode cX3_init 21 = .ok (.bipush 96, 2) := by decide +kernel
theorem dX3_init_23 : decode cX3_init 23 = .ok (.newarray .int, 2) := by decide +kernel
theorem dX3_init_25 : decode cX3_init 25 = .ok (.putfield 18, 3) := by decide +kernel
theorem dX3_init_28 : decode cX3_init 28 = .ok (.aload_n 0, 1) := by decide +kernel
theorem dX3_init_29 : decode cX3_init 29 = .ok (.iconst 1, 1) := by decide +kernel
theorem dX3_init_30 : decode cX3_init 30 = .ok (.putfield 21, 3) := by decide +kernel
theorem dX3_init_33 : decode cX3_init 33 = .ok (.aload_n 0, 1) := by decide +kernel
theorem dX3_init_34 : decode cX3_init 34 = .ok (.iconst 1, 1) := by decide +kernel
theorem dX3_init_35 : decode cX3_init 35 = .ok (.putfield 25, 3) := by decide +kernel
theorem dX3_init_38 : decode cX3_init 38 = .ok (.aload_n 0, 1) := by decide +kernel
theorem dX3_init_39 : decode cX3_init 39 = .ok (.getfield 15, 3) := by decide +kernel
theorem dX3_init_42 : decode cX3_init 42 = .ok (.iconst 0, 1) := by decide +kernel
theorem dX3_init_43 : decode cX3_init 43 = .ok (.iconst (-1), 1) := by decide +kernel
theorem dX3_init_44 : decode cX3_init 44 = .ok (.iastore, 1) := by decide +kernel
theorem dX3_init_45 : decode cX3_init 45 = .ok (.return_, 1) := by decide +kernel
theorem dX3_becomeLike_0 : decode cX3_becomeLike 0 = .ok (.aload_n 1, 1) := by decide +kernel
theorem dX3_becomeLike_1 : decode cX3_becomeLike 1 = .ok (.getfield 9, 3) := by decide +kernel
theorem dX3_becomeLike_4 : decode cX3_becomeLike 4 = .ok (.iconst 0, 1) := by decide +kernel
theorem dX3_becomeLike_5 : decode cX3_becomeLike 5 = .ok (.aload_n 0, 1) := by decide +kernel
theorem dX3_becomeLike_6 : decode cX3_becomeLike 6 = .ok (.getfield 9, 3) := by decide +kernel
theorem dX3_becomeLike_9 : decode cX3_becomeLike 9 = .ok (.iconst 0, 1) := by decide +kernel
theorem dX3_becomeLike_10 : decode cX3_becomeLike 10 = .ok (.aload_n 0, 1) := by decide +kernel
theorem dX3_becomeLike_11 : decode cX3_becomeLike 11 = .ok (.getfield 9, 3) := by decide +kernel
theorem dX3_becomeLike_14 : decode cX3_becomeLike 14 = .ok (.arraylength, 1) := by decide +kernel
theorem dX3_becomeLike_15 : decode cX3_becomeLike 15 = .ok (.invokestatic 28, 3) := by decide +kernel
theorem dX3_becomeLike_18 : decode cX3_becomeLike 18 = .ok (.aload_n 1, 1) := by decide +kernel
theorem dX3_becomeLike_19 : decode cX3_becomeLike 19 = .ok (.getfield 15, 3) := by decide +kernel
theorem dX3_becomeLike_22 : decode cX3_becomeLike 22 = .ok (.iconst 0, 1) := by decide +kernel
theorem dX3_becomeLike_23 : decode cX3_becomeLike 23 = .ok (.aload_n 0, 1) := by decide +kernel
theorem dX3_becomeLike_24 : decode cX3_becomeLike 24 = .ok (.getfield 15, 3) := by decide +kernel
theorem dX3_becomeLike_27 : decode cX3_becomeLike 27 = .ok (.iconst 0, 1) := by decide +kernel
theorem dX3_becomeLike_28 : decode cX3_becomeLike 28 = .ok (.aload_n 0, 1) := by decide +kernel
theorem dX3_becomeLike_29 : decode cX3_becomeLike 29 = .ok (.getfield 15, 3) := by decide +kernel
theorem dX3_becomeLike_32 : decode cX3_becomeLike 32 = .ok (.arraylength, 1) := by decide +kernel
theorem dX3_becomeLike_33 : decode cX3_becomeLike 33 = .ok (.invokestatic 28, 3) := by decide +kernel
theorem dX3_becomeLike_36 : decode cX3_becomeLike 36 = .ok (.aload_n 1, 1) := by decide +kernel
theorem dX3_becomeLike_37 : decode cX3_becomeLike 37 = .ok (.getfield 18, 3) := by decide +kernel
theorem dX3_becomeLike_40 : decode cX3_becomeLike 40 = .ok (.iconst 0, 1) := by decide +kernel
theorem dX3_becomeLike_41 : decode cX3_becomeLike 41 = .ok (.aload_n 0, 1) := by decide +kernel
theorem dX3_becomeLike_42 : decode cX3_becomeLike 42 = .ok (.getfield 18, 3) := by decide +kernel
theorem dX3_becomeLike_45 : decode cX3_becomeLike 45 = .ok (.iconst 0, 1) := by decide +kernel
theorem dX3_becomeLike_46 : decode cX3_becomeLike 46 = .ok (.aload_n 0, 1) := by decide +kernel
theorem dX3_becomeLike_47 : decode cX3_becomeLike 47 = .ok (.getfield 18, 3) := by decide +kernel
theorem dX3_becomeLike_50 : decode cX3_becomeLike 50 = .ok (.arraylength, 1) := by decide +kernel
theorem dX3_becomeLike_51 : decode cX3_becomeLike 51 = .ok (.invokestatic 28, 3) := by decide +kernel
theorem dX3_becomeLike_54 : decode cX3_becomeLike 54 = .ok (.aload_n 0, 1) := by decide +kernel
theorem dX3_becomeLike_55 : decode cX3_becomeLike 55 = .ok (.aload_n 1, 1) := by decide +kernel
theorem dX3_becomeLike_56 : decode cX3_becomeLike 56 = .ok (.getfield 21, 3) := by decide +kernel
theorem dX3_becomeLike_59 : decode cX3_becomeLike 59 = .ok (.putfield 21, 3) := by decide +kernel
theorem dX3_becomeLike_62 : decode cX3_becomeLike 62 = .ok (.aload_n 0, 1) := by decide +kernel
theorem dX3_becomeLike_63 : decode cX3_becomeLike 63 = .ok (.aload_n 1, 1) := by decide +kernel
theorem dX3_becomeLike_64 : decode cX3_becomeLike 64 = .ok (.getfield 25, 3) := by decide +kernel
theorem dX3_becomeLike_67 : decode cX3_becomeLike 67 = .ok (.putfield 25, 3) := by decide +kernel
theorem dX3_becomeLike_70 : decode cX3_becomeLike 70 = .ok (.return_, 1) := by decide +kernel
theorem dX3_slotOf_0 : decode cX3_slotOf 0 = .ok (.iconst 0, 1) := by decide +kernel
theorem dX3_slotOf_1 : decode cX3_slotOf 1 = .ok (.istore_n 2, 1) := by decide +kernel
theorem dX3_slotOf_2 : decode cX3_slotOf 2 = .ok (.iload_n 2, 1) := by decide +kernel
theorem dX3_slotOf_3 : decode cX3_slotOf 3 = .ok (.aload_n 0, 1) := by decide +kernel
theorem dX3_slotOf_4 : decode cX3_slotOf 4 = .ok (.getfield 21, 3) := by decide +kernel
theorem dX3_slotOf_7 : decode cX3_slotOf 7 = .ok (.if_icmp .ge 21, 3) := by decide +kernel
theorem dX3_slotOf_10 : decode cX3_slotOf 10 = .ok (.aload_n 0, 1) := by decide +kernel
theorem dX3_slotOf_11 : decode cX3_slotOf 11 = .ok (.getfield 9, 3) := by decide +kernel
theorem dX3_slotOf_14 : decode cX3_slotOf 14 = .ok (.iload_n 2, 1) := by decide +kernel
theorem dX3_slotOf_15 : decode cX3_slotOf 15 = .ok (.iaload, 1) := by decide +kernel
theorem dX3_slotOf_16 : decode cX3_slotOf 16 = .ok (.iload_n 1, 1) := by decide +kernel
theorem dX3_slotOf_17 : decode cX3_slotOf 17 = .ok (.if_icmp .ne 5, 3) := by decide +kernel
theorem dX3_slotOf_20 : decode cX3_slotOf 20 = .ok (.iload_n 2, 1) := by decide +kernel
theorem dX3_slotOf_21 : decode cX3_slotOf 21 = .ok (.ireturn, 1) := by decide +kernel
theorem dX3_slotOf_22 : decode cX3_slotOf 22 = .ok (.iinc 2 1, 3) := by decide +kernel
theorem dX3_slotOf_25 : decode cX3_slotOf 25 = .ok (.goto (-23), 3) := by decide +kernel
theorem dX3_slotOf_28 : decode cX3_slotOf 28 = .ok (.iconst (-1), 1) := by decide +kernel
theorem dX3_slotOf_29 : decode cX3_slotOf 29 = .ok (.ireturn, 1) := by decide +kernel
theorem dX3_numberOf_0 : decode cX3_numberOf 0 = .ok (.iload_n 1, 1) := by decide +kernel
theorem dX3_numberOf_1 : decode cX3_numberOf 1 = .ok (.ifCond .lt 20, 3) := by decide +kernel
theorem dX3_numberOf_4 : decode cX3_numberOf 4 = .ok (.iload_n 1, 1) := by decide +kernel
theorem dX3_numberOf_5 : decode cX3_numberOf 5 = .ok (.aload_n 0, 1) := by decide +kernel
theorem dX3_numberOf_6 : decode cX3_numberOf 6 = .ok (.getfield 21, 3) := by decide +kernel
theorem dX3_numberOf_9 : decode cX3_numberOf 9 = .ok (.if_icmp .ge 12, 3) := by decide +kernel
theorem dX3_numberOf_12 : decode cX3_numberOf 12 = .ok (.aload_n 0, 1) := by decide +kernel
theorem dX3_numberOf_13 : decode cX3_numberOf 13 = .ok (.getfield 9, 3) := by decide +kernel
theorem dX3_numberOf_16 : decode cX3_numberOf 16 = .ok (.iload_n 1, 1) := by decide +kernel
theorem dX3_numberOf_17 : decode cX3_numberOf 17 = .ok (.iaload, 1) := by decide +kernel
theorem dX3_numberOf_18 : decode cX3_numberOf 18 = .ok (.goto 4, 3) := by decide +kernel
theorem dX3_numberOf_21 : decode cX3_numberOf 21 = .ok (.iconst (-1), 1) := by decide +kernel
theorem dX3_numberOf_22 : decode cX3_numberOf 22 = .ok (.ireturn, 1) := by decide +kernel
theorem dX3_parentOf_0 : decode cX3_parentOf 0 = .ok (.iload_n 1, 1) := by decide +kernel
theorem dX3_parentOf_1 : decode cX3_parentOf 1 = .ok (.ifCond .lt 20, 3) := by decide +kernel
theorem dX3_parentOf_4 : decode cX3_parentOf 4 = .ok (.iload_n 1, 1) := by decide +kernel
theorem dX3_parentOf_5 : decode cX3_parentOf 5 = .ok (.aload_n 0, 1) := by decide +kernel
theorem dX3_parentOf_6 : decode cX3_parentOf 6 = .ok (.getfield 21, 3) := by decide +kernel
theorem dX3_parentOf_9 : decode cX3_parentOf 9 = .ok (.if_icmp .ge 12, 3) := by decide +kernel
theorem dX3_parentOf_12 : decode cX3_parentOf 12 = .ok (.aload_n 0, 1) := by decide +kernel
theorem dX3_parentOf_13 : decode cX3_parentOf 13 = .ok (.getfield 15, 3) := by decide +kernel
theorem dX3_parentOf_16 : decode cX3_parentOf 16 = .ok (.iload_n 1, 1) := by decide +kernel
theorem dX3_parentOf_17 : decode cX3_parentOf 17 = .ok (.iaload, 1) := by decide +kernel
theorem dX3_parentOf_18 : decode cX3_parentOf 18 = .ok (.goto 4, 3) := by decide +kernel
theorem dX3_parentOf_21 : decode cX3_parentOf 21 = .ok (.iconst (-1), 1) := by decide +kernel
theorem dX3_parentOf_22 : decode cX3_parentOf 22 = .ok (.ireturn, 1) := by decide +kernel
set_option maxRecDepth 20000 in
theorem ggX3_parentSlot_X3_parentOf : GoodIn wsX3_parentSlot wsX3_parentOf := goodIn_r _ [5, 6, 7, 13, 14, 15, 16, 17] (by decide +kernel) (by decide +kernel)
set_option maxRecDepth 20000 in
theorem gX3_parentSlot_X3_parentOf : GoodIn wsX3_parentSlot (wsV RX3 34 RX3 yX3_parentOf wsX3_parentOf) := goodIn_app (goodIn_of _ (by decide +kernel)) ggX3_parentSlot_X3_parentOf
set_option maxRecDepth 20000 in
theorem ggX3_parentSlot_X3_slotOf : GoodIn wsX3_parentSlot wsX3_slotOf := goodIn_r _ [11, 6, 12, 13, 14, 15, 16, 17] (by decide +kernel) (by decide +kernel)
set_option maxRecDepth 20000 in
theorem gX3_parentSlot_X3_slotOf : GoodIn wsX3_parentSlot (wsV RX3 38 RX3 yX3_slotOf wsX3_slotOf) := goodIn_app (goodIn_of _ (by decide +kernel)) ggX3_parentSlot_X3_slotOf
theorem dX3_parentSlot_0 : decode cX3_parentSlot 0 = .ok (.aload_n 0, 1) := by decide +kernel
theorem dX3_parentSlot_1 : decode cX3_parentSlot 1 = .ok (.aload_n 0, 1) := by decide +kernel
theorem dX3_parentSlot_2 : decode cX3_parentSlot 2 = .ok (.iload_n 1, 1) := by decide +kernel
theorem dX3_parentSlot_3 : decode cX3_parentSlot 3 = .ok (.invokevirtual 34, 3) := by decide +kernel
theorem dX3_parentSlot_6 : decode cX3_parentSlot 6 = .ok (.invokevirtual 38, 3) := by decide +kernel
theorem dX3_parentSlot_9 : decode cX3_parentSlot 9 = .ok (.ireturn, 1) := by decide +kernel
theorem dX3_block_0 : decode cX3_block 0 = .ok (.iload_n 1, 1) := by decide +kernel
theorem dX3_block_1 : decode cX3_block 1 = .ok (.ifCond .lt 25, 3) := by decide +kernel
theorem dX3_block_4 : decode cX3_block 4 = .ok (.iload_n 1, 1) := by decide +kernel
theorem dX3_block_5 : decode cX3_block 5 = .ok (.aload_n 0, 1) := by decide +kernel
theorem dX3_block_6 : decode cX3_block 6 = .ok (.getfield 21, 3) := by decide +kernel
theorem dX3_block_9 : decode cX3_block 9 = .ok (.if_icmp .ge 17, 3) := by decide +kernel
theorem dX3_block_12 : decode cX3_block 12 = .ok (.iload_n 2, 1) := by decide +kernel
theorem dX3_block_13 : decode cX3_block 13 = .ok (.ifCond .lt 13, 3) := by decide +kernel
theorem dX3_block_16 : decode cX3_block 16 = .ok (.iload_n 2, 1) := by decide +kernel
theorem dX3_block_17 : decode cX3_block 17 = .ok (.bipush 6, 2) := by decide +kernel
theorem dX3_block_19 : decode cX3_block 19 = .ok (.if_icmp .ge 7, 3) := by decide +kernel
theorem dX3_block_22 : decode cX3_block 22 = .ok (.iconst 1, 1) := by decide +kernel
theorem dX3_block_23 : decode cX3_block 23 = .ok (.goto 4, 3) := by decide +kernel
theorem dX3_block_26 : decode cX3_block 26 = .ok (.iconst 0, 1) := by decide +kernel
theorem dX3_block_27 : decode cX3_block 27 = .ok (.istore_n 3, 1) := by decide +kernel
theorem dX3_block_28 : decode cX3_block 28 = .ok (.iload_n 3, 1) := by decide +kernel
theorem dX3_block_29 : decode cX3_block 29 = .ok (.ifCond .eq 17, 3) := by decide +kernel
theorem dX3_block_32 : decode cX3_block 32 = .ok (.aload_n 0, 1) := by decide +kernel
theorem dX3_block_33 : decode cX3_block 33 = .ok (.getfield 18, 3) := by decide +kernel
theorem dX3_block_36 : decode cX3_block 36 = .ok (.iload_n 1, 1) := by decide +kernel
theorem dX3_block_37 : decode cX3_block 37 = .ok (.bipush 6, 2) := by decide +kernel
theorem dX3_block_39 : decode cX3_block 39 = .ok (.imul, 1) := by decide +kernel
theorem dX3_block_40 : decode cX3_block 40 = .ok (.iload_n 2, 1) := by decide +kernel
theorem dX3_block_41 : decode cX3_block 41 = .ok (.iadd, 1) := by decide +kernel
theorem dX3_block_42 : decode cX3_block 42 = .ok (.iaload, 1) := by decide +kernel
theorem dX3_block_43 : decode cX3_block 43 = .ok (.goto 4, 3) := by decide +kernel
theorem dX3_block_46 : decode cX3_block 46 = .ok (.iconst (-1), 1) := by decide +kernel
theorem dX3_block_47 : decode cX3_block 47 = .ok (.ireturn, 1) := by decide +kernel
theorem dX3_add_0 : decode cX3_add 0 = .ok (.aload_n 0, 1) := by decide +kernel
theorem dX3_add_1 : decode cX3_add 1 = .ok (.getfield 9, 3) := by decide +kernel
theorem dX3_add_4 : decode cX3_add 4 = .ok (.aload_n 0, 1) := by decide +kernel
theorem dX3_add_5 : decode cX3_add 5 = .ok (.getfield 21, 3) := by decide +kernel
theorem dX3_add_8 : decode cX3_add 8 = .ok (.aload_n 0, 1) := by decide +kernel
theorem dX3_add_9 : decode cX3_add 9 = .ok (.getfield 25, 3) := by decide +kernel
theorem dX3_add_12 : decode cX3_add 12 = .ok (.iastore, 1) := by decide +kernel
theorem dX3_add_13 : decode cX3_add 13 = .ok (.aload_n 0, 1) := by decide +kernel
theorem dX3_add_14 : decode cX3_add 14 = .ok (.getfield 15, 3) := by decide +kernel
theorem dX3_add_17 : decode cX3_add 17 = .ok (.aload_n 0, 1) := by decide +kernel
theorem dX3_add_18 : decode cX3_add 18 = .ok (.getfield 21, 3) := by decide +kernel
theorem dX3_add_21 : decode cX3_add 21 = .ok (.iload_n 1, 1) := by decide +kernel
theorem dX3_add_22 : decode cX3_add 22 = .ok (.iastore, 1) := by decide +kernel
theorem dX3_add_23 : decode cX3_add 23 = .ok (.aload_n 0, 1) := by decide +kernel
theorem dX3_add_24 : decode cX3_add 24 = .ok (.dup, 1) := by decide +kernel
theorem dX3_add_25 : decode cX3_add 25 = .ok (.getfield 21, 3) := by decide +kernel
theorem dX3_add_28 : decode cX3_add 28 = .ok (.iconst 1, 1) := by decide +kernel
theorem dX3_add_29 : decode cX3_add 29 = .ok (.iadd, 1) := by decide +kernel
theorem dX3_add_30 : decode cX3_add 30 = .ok (.putfield 21, 3) := by decide +kernel
theorem dX3_add_33 : decode cX3_add 33 = .ok (.aload_n 0, 1) := by decide +kernel
theorem dX3_add_34 : decode cX3_add 34 = .ok (.dup, 1) := by decide +kernel
theorem dX3_add_35 : decode cX3_add 35 = .ok (.getfield 25, 3) := by decide +kernel
theorem dX3_add_38 : decode cX3_add 38 = .ok (.iconst 1, 1) := by decide +kernel
theorem dX3_add_39 : decode cX3_add 39 = .ok (.iadd, 1) := by decide +kernel
theorem dX3_add_40 : decode cX3_add 40 = .ok (.putfield 25, 3) := by decide +kernel
theorem dX3_add_43 : decode cX3_add 43 = .ok (.aload_n 0, 1) := by decide +kernel
theorem dX3_add_44 : decode cX3_add 44 = .ok (.getfield 25, 3) := by decide +kernel
theorem dX3_add_47 : decode cX3_add 47 = .ok (.iconst 1, 1) := by decide +kernel
theorem dX3_add_48 : decode cX3_add 48 = .ok (.isub, 1) := by decide +kernel
theorem dX3_add_49 : decode cX3_add 49 = .ok (.ireturn, 1) := by decide +kernel
set_option maxRecDepth 20000 in
theorem ggX3_remove_X5_isIndex : GoodIn wsX3_remove wsX5_isIndex := goodIn_r _ [11] (by decide +kernel) (by decide +kernel)
set_option maxRecDepth 20000 in
theorem gX3_remove_X5_isIndex_n41 : GoodIn wsX3_remove (wsX5_isIndex) := ggX3_remove_X5_isIndex
theorem dX3_remove_0 : decode cX3_remove 0 = .ok (.iload_n 1, 1) := by decide +kernel
theorem dX3_remove_1 : decode cX3_remove 1 = .ok (.aload_n 0, 1) := by decide +kernel
theorem dX3_remove_2 : decode cX3_remove 2 = .ok (.getfield 21, 3) := by decide +kernel
theorem dX3_remove_5 : decode cX3_remove 5 = .ok (.invokestatic 41, 3) := by decide +kernel
theorem dX3_remove_8 : decode cX3_remove 8 = .ok (.ifCond .ne 4, 3) := by decide +kernel
theorem dX3_remove_11 : decode cX3_remove 11 = .ok (.return_, 1) := by decide +kernel
theorem dX3_remove_12 : decode cX3_remove 12 = .ok (.iload_n 1, 1) := by decide +kernel
theorem dX3_remove_13 : decode cX3_remove 13 = .ok (.iconst 1, 1) := by decide +kernel
theorem dX3_remove_14 : decode cX3_remove 14 = .ok (.iadd, 1) := by decide +kernel
theorem dX3_remove_15 : decode cX3_remove 15 = .ok (.istore_n 2, 1) := by decide +kernel
theorem dX3_remove_16 : decode cX3_remove 16 = .ok (.iload_n 2, 1) := by decide +kernel
theorem dX3_remove_17 : decode cX3_remove 17 = .ok (.aload_n 0, 1) := by decide +kernel
theorem dX3_remove_18 : decode cX3_remove 18 = .ok (.getfield 21, 3) := by decide +kernel
theorem dX3_remove_21 : decode cX3_remove 21 = .ok (.if_icmp .ge 36, 3) := by decide +kernel
theorem dX3_remove_24 : decode cX3_remove 24 = .ok (.aload_n 0, 1) := by decide +kernel
theorem dX3_remove_25 : decode cX3_remove 25 = .ok (.getfield 15, 3) := by decide +kernel
theorem dX3_remove_28 : decode cX3_remove 28 = .ok (.iload_n 2, 1) := by decide +kernel
theorem dX3_remove_29 : decode cX3_remove 29 = .ok (.iaload, 1) := by decide +kernel
theorem dX3_remove_30 : decode cX3_remove 30 = .ok (.aload_n 0, 1) := by decide +kernel
theorem dX3_remove_31 : decode cX3_remove 31 = .ok (.getfield 9, 3) := by decide +kernel
theorem dX3_remove_34 : decode cX3_remove 34 = .ok (.iload_n 1, 1) := by decide +kernel
theorem dX3_remove_35 : decode cX3_remove 35 = .ok (.iaload, 1) := by decide +kernel
theorem dX3_remove_36 : decode cX3_remove 36 = .ok (.if_icmp .ne 15, 3) := by decide +kernel
theorem dX3_remove_39 : decode cX3_remove 39 = .ok (.aload_n 0, 1) := by decide +kernel
theorem dX3_remove_40 : decode cX3_remove 40 = .ok (.getfield 15, 3) := by decide +kernel
theorem dX3_remove_43 : decode cX3_remove 43 = .ok (.iload_n 2, 1) := by decide +kernel
theorem dX3_remove_44 : decode cX3_remove 44 = .ok (.aload_n 0, 1) := by decide +kernel
theorem dX3_remove_45 : decode cX3_remove 45 = .ok (.getfield 15, 3) := by decide +kernel
theorem dX3_remove_48 : decode cX3_remove 48 = .ok (.iload_n 1, 1) := by decide +kernel
theorem dX3_remove_49 : decode cX3_remove 49 = .ok (.iaload, 1) := by decide +kernel
theorem dX3_remove_50 : decode cX3_remove 50 = .ok (.iastore, 1) := by decide +kernel
theorem dX3_remove_51 : decode cX3_remove 51 = .ok (.iinc 2 1, 3) := by decide +kernel
theorem dX3_remove_54 : decode cX3_remove 54 = .ok (.goto (-38), 3) := by decide +kernel
theorem dX3_remove_57 : decode cX3_remove 57 = .ok (.aload_n 0, 1) := by decide +kernel
theorem dX3_remove_58 : decode cX3_remove 58 = .ok (.getfield 21, 3) := by decide +kernel
theorem dX3_remove_61 : decode cX3_remove 61 = .ok (.iload_n 1, 1) := by decide +kernel
theorem dX3_remove_62 : decode cX3_remove 62 = .ok (.isub, 1) := by decide +kernel
theorem dX3_remove_63 : decode cX3_remove 63 = .ok (.iconst 1, 1) := by decide +kernel
theorem dX3_remove_64 : decode cX3_remove 64 = .ok (.isub, 1) := by decide +kernel
theorem dX3_remove_65 : decode cX3_remove 65 = .ok (.istore_n 2, 1) := by decide +kernel
theorem dX3_remove_66 : decode cX3_remove 66 = .ok (.aload_n 0, 1) := by decide +kernel
theorem dX3_remove_67 : decode cX3_remove 67 = .ok (.getfield 9, 3) := by decide +kernel
theorem dX3_remove_70 : decode cX3_remove 70 = .ok (.iload_n 1, 1) := by decide +kernel
theorem dX3_remove_71 : decode cX3_remove 71 = .ok (.iconst 1, 1) := by decide +kernel
theorem dX3_remove_72 : decode cX3_remove 72 = .ok (.iadd, 1) := by decide +kernel
theorem dX3_remove_73 : decode cX3_remove 73 = .ok (.aload_n 0, 1) := by decide +kernel
theorem dX3_remove_74 : decode cX3_remove 74 = .ok (.getfield 9, 3) := by decide +kernel
theorem dX3_remove_77 : decode cX3_remove 77 = .ok (.iload_n 1, 1) := by decide +kernel
theorem dX3_remove_78 : decode cX3_remove 78 = .ok (.iload_n 2, 1) := by decide +kernel
theorem dX3_remove_79 : decode cX3_remove 79 = .ok (.invokestatic 28, 3) := by decide +kernel
theorem dX3_remove_82 : decode cX3_remove 82 = .ok (.aload_n 0, 1) := by decide +kernel
theorem dX3_remove_83 : decode cX3_remove 83 = .ok (.getfield 15, 3) := by decide +kernel
theorem dX3_remove_86 : decode cX3_remove 86 = .ok (.iload_n 1, 1) := by decide +kernel
theorem dX3_remove_87 : decode cX3_remove 87 = .ok (.iconst 1, 1) := by decide +kernel
theorem dX3_remove_88 : decode cX3_remove 88 = .ok (.iadd, 1) := by decide +kernel
theorem dX3_remove_89 : decode cX3_remove 89 = .ok (.aload_n 0, 1) := by decide +kernel
theorem dX3_remove_90 : decode cX3_remove 90 = .ok (.getfield 15, 3) := by decide +kernel
theorem dX3_remove_93 : decode cX3_remove 93 = .ok (.iload_n 1, 1) := by decide +kernel
theorem dX3_remove_94 : decode cX3_remove 94 = .ok (.iload_n 2, 1) := by decide +kernel
theorem dX3_remove_95 : decode cX3_remove 95 = .ok (.invokestatic 28, 3) := by decide +kernel
theorem dX3_remove_98 : decode cX3_remove 98 = .ok (.aload_n 0, 1) := by decide +kernel
theorem dX3_remove_99 : decode cX3_remove 99 = .ok (.getfield 18, 3) := by decide +kernel
theorem dX3_remove_102 : decode cX3_remove 102 = .ok (.iload_n 1, 1) := by decide +kernel
theorem dX3_remove_103 : decode cX3_remove 103 = .ok (.iconst 1, 1) := by decide +kernel
theorem dX3_remove_104 : decode cX3_remove 104 = .ok (.iadd, 1) := by decide +kernel
theorem dX3_remove_105 : decode cX3_remove 105 = .ok (.bipush 6, 2) := by decide +kernel
theorem dX3_remove_107 : decode cX3_remove 107 = .ok (.imul, 1) := by decide +kernel
theorem dX3_remove_108 : decode cX3_remove 108 = .ok (.aload_n 0, 1) := by decide +kernel
theorem dX3_remove_109 : decode cX3_remove 109 = .ok (.getfield 18, 3) := by decide +kernel
theorem dX3_remove_112 : decode cX3_remove 112 = .ok (.iload_n 1, 1) := by decide +kernel
theorem dX3_remove_113 : decode cX3_remove 113 = .ok (.bipush 6, 2) := by decide +kernel
theorem dX3_remove_115 : decode cX3_remove 115 = .ok (.imul, 1) := by decide +kernel
theorem dX3_remove_116 : decode cX3_remove 116 = .ok (.iload_n 2, 1) := by decide +kernel
theorem dX3_remove_117 : decode cX3_remove 117 = .ok (.bipush 6, 2) := by decide +kernel
theorem dX3_remove_119 : decode cX3_remove 119 = .ok (.imul, 1) := by decide +kernel
theorem dX3_remove_120 : decode cX3_remove 120 = .ok (.invokestatic 28, 3) := by decide +kernel
theorem dX3_remove_123 : decode cX3_remove 123 = .ok (.aload_n 0, 1) := by decide +kernel
theorem dX3_remove_124 : decode cX3_remove 124 = .ok (.dup, 1) := by decide +kernel
theorem dX3_remove_125 : decode cX3_remove 125 = .ok (.getfield 21, 3) := by decide +kernel
theorem dX3_remove_128 : decode cX3_remove 128 = .ok (.iconst 1, 1) := by decide +kernel
theorem dX3_remove_129 : decode cX3_remove 129 = .ok (.isub, 1) := by decide +kernel
theorem dX3_remove_130 : decode cX3_remove 130 = .ok (.putfield 21, 3) := by decide +kernel
theorem dX3_remove_133 : decode cX3_remove 133 = .ok (.return_, 1) := by decide +kernel
set_option maxRecDepth 20000 in
theorem ggX3_childrenOf_X3_numberOf : GoodIn wsX3_childrenOf wsX3_numberOf := goodIn_r _ [7, 1, 8, 9, 10, 11, 12, 13] (by decide +kernel) (by decide +kernel)
set_option maxRecDepth 20000 in
theorem gX3_childrenOf_X3_numberOf : GoodIn wsX3_childrenOf (wsV RX3 45 RX3 yX3_numberOf wsX3_numberOf) := goodIn_app (goodIn_of _ (by decide +kernel)) ggX3_childrenOf_X3_numberOf
theorem dX3_childrenOf_0 : decode cX3_childrenOf 0 = .ok (.iconst 0, 1) := by decide +kernel
theorem dX3_childrenOf_1 : decode cX3_childrenOf 1 = .ok (.istore_n 2, 1) := by decide +kernel
theorem dX3_childrenOf_2 : decode cX3_childrenOf 2 = .ok (.iload_n 1, 1) := by decide +kernel
theorem dX3_childrenOf_3 : decode cX3_childrenOf 3 = .ok (.iconst 1, 1) := by decide +kernel
theorem dX3_childrenOf_4 : decode cX3_childrenOf 4 = .ok (.iadd, 1) := by decide +kernel
theorem dX3_childrenOf_5 : decode cX3_childrenOf 5 = .ok (.istore_n 3, 1) := by decide +kernel
theorem dX3_childrenOf_6 : decode cX3_childrenOf 6 = .ok (.iload_n 3, 1) := by decide +kernel
theorem dX3_childrenOf_7 : decode cX3_childrenOf 7 = .ok (.aload_n 0, 1) := by decide +kernel
theorem dX3_childrenOf_8 : decode cX3_childrenOf 8 = .ok (.getfield 21, 3) := by decide +kernel
theorem dX3_childrenOf_11 : decode cX3_childrenOf 11 = .ok (.if_icmp .ge 31, 3) := by decide +kernel
theorem dX3_childrenOf_14 : decode cX3_childrenOf 14 = .ok (.iload_n 2, 1) := by decide +kernel
theorem dX3_childrenOf_15 : decode cX3_childrenOf 15 = .ok (.aload_n 0, 1) := by decide +kernel
theorem dX3_childrenOf_16 : decode cX3_childrenOf 16 = .ok (.getfield 15, 3) := by decide +kernel
theorem dX3_childrenOf_19 : decode cX3_childrenOf 19 = .ok (.iload_n 3, 1) := by decide +kernel
theorem dX3_childrenOf_20 : decode cX3_childrenOf 20 = .ok (.iaload, 1) := by decide +kernel
theorem dX3_childrenOf_21 : decode cX3_childrenOf 21 = .ok (.aload_n 0, 1) := by decide +kernel
theorem dX3_childrenOf_22 : decode cX3_childrenOf 22 = .ok (.iload_n 1, 1) := by decide +kernel
theorem dX3_childrenOf_23 : decode cX3_childrenOf 23 = .ok (.invokevirtual 45, 3) := by decide +kernel
theorem dX3_childrenOf_26 : decode cX3_childrenOf 26 = .ok (.if_icmp .ne 7, 3) := by decide +kernel
theorem dX3_childrenOf_29 : decode cX3_childrenOf 29 = .ok (.iconst 1, 1) := by decide +kernel
theorem dX3_childrenOf_30 : decode cX3_childrenOf 30 = .ok (.goto 4, 3) := by decide +kernel
theorem dX3_childrenOf_33 : decode cX3_childrenOf 33 = .ok (.iconst 0, 1) := by decide +kernel
theorem dX3_childrenOf_34 : decode cX3_childrenOf 34 = .ok (.iadd, 1) := by decide +kernel
theorem dX3_childrenOf_35 : decode cX3_childrenOf 35 = .ok (.istore_n 2, 1) := by decide +kernel
theorem dX3_childrenOf_36 : decode cX3_childrenOf 36 = .ok (.iinc 3 1, 3) := by decide +kernel
theorem dX3_childrenOf_39 : decode cX3_childrenOf 39 = .ok (.goto (-33), 3) := by decide +kernel
theorem dX3_childrenOf_42 : decode cX3_childrenOf 42 = .ok (.iload_n 2, 1) := by decide +kernel
theorem dX3_childrenOf_43 : decode cX3_childrenOf 43 = .ok (.ireturn, 1) := by decide +kernel
set_option maxRecDepth 20000 in
theorem ggX3_stepsFrom_X3_parentSlot : GoodIn wsX3_stepsFrom wsX3_parentSlot := goodIn_r _ [5, 6, 7, 8, 4, 9, 10, 11, 12, 13, 14, 15, 16, 17, 18, 19, 20, 21] (by decide +kernel) (by decide +kernel)
set_option maxRecDepth 20000 in
theorem gX3_stepsFrom_X3_parentSlot : GoodIn wsX3_stepsFrom (wsV RX3 48 RX3 yX3_parentSlot wsX3_parentSlot) := goodIn_app (goodIn_of _ (by decide +kernel)) ggX3_stepsFrom_X3_parentSlot
theorem dX3_stepsFrom_0 : decode cX3_stepsFrom 0 = .ok (.iconst 0, 1) := by decide +kernel
theorem dX3_stepsFrom_1 : decode cX3_stepsFrom 1 = .ok (.istore_n 2, 1) := by decide +kernel
theorem dX3_stepsFrom_2 : decode cX3_stepsFrom 2 = .ok (.iload_n 1, 1) := by decide +kernel
theorem dX3_stepsFrom_3 : decode cX3_stepsFrom 3 = .ok (.istore_n 3, 1) := by decide +kernel
theorem dX3_stepsFrom_4 : decode cX3_stepsFrom 4 = .ok (.iconst 0, 1) := by decide +kernel
theorem dX3_stepsFrom_5 : decode cX3_stepsFrom 5 = .ok (.istore 4, 2) := by decide +kernel
theorem dX3_stepsFrom_7 : decode cX3_stepsFrom 7 = .ok (.iload 4, 2) := by decide +kernel
theorem dX3_stepsFrom_9 : decode cX3_stepsFrom 9 = .ok (.bipush 16, 2) := by decide +kernel
theorem dX3_stepsFrom_11 : decode cX3_stepsFrom 11 = .ok (.if_icmp .ge 22, 3) := by decide +kernel
theorem dX3_stepsFrom_14 : decode cX3_stepsFrom 14 = .ok (.iload_n 3, 1) := by decide +kernel
theorem dX3_stepsFrom_15 : decode cX3_stepsFrom 15 = .ok (.ifCond .le 18, 3) := by decide +kernel
theorem dX3_stepsFrom_18 : decode cX3_stepsFrom 18 = .ok (.aload_n 0, 1) := by decide +kernel
theorem dX3_stepsFrom_19 : decode cX3_stepsFrom 19 = .ok (.iload_n 3, 1) := by decide +kernel
theorem dX3_stepsFrom_20 : decode cX3_stepsFrom 20 = .ok (.invokevirtual 48, 3) := by decide +kernel
theorem dX3_stepsFrom_23 : decode cX3_stepsFrom 23 = .ok (.istore_n 3, 1) := by decide +kernel
theorem dX3_stepsFrom_24 : decode cX3_stepsFrom 24 = .ok (.iinc 2 1, 3) := by decide +kernel
theorem dX3_stepsFrom_27 : decode cX3_stepsFrom 27 = .ok (.iinc 4 1, 3) := by decide +kernel
theorem dX3_stepsFrom_30 : decode cX3_stepsFrom 30 = .ok (.goto (-23), 3) := by decide +kernel
theorem dX3_stepsFrom_33 : decode cX3_stepsFrom 33 = .ok (.iload_n 2, 1) := by decide +kernel
theorem dX3_stepsFrom_34 : decode cX3_stepsFrom 34 = .ok (.ireturn, 1) := by decide +kernel
set_option maxRecDepth 20000 in
theorem ggX3_commonSlot_X3_parentSlot : GoodIn wsX3_commonSlot wsX3_parentSlot := goodIn_r _ [5, 6, 7, 8, 4, 9, 10, 11, 12, 13, 14, 15, 16, 17, 18, 19, 20, 21] (by decide +kernel) (by decide +kernel)
set_option maxRecDepth 20000 in
theorem gX3_commonSlot_X3_parentSlot : GoodIn wsX3_commonSlot (wsV RX3 48 RX3 yX3_parentSlot wsX3_parentSlot) := goodIn_app (goodIn_of _ (by decide +kernel)) ggX3_commonSlot_X3_parentSlot
theorem dX3_commonSlot_0 : decode cX3_commonSlot 0 = .ok (.iload_n 1, 1) := by decide +kernel
theorem dX3_commonSlot_1 : decode cX3_commonSlot 1 = .ok (.istore_n 3, 1) := by decide +kernel
theorem dX3_commonSlot_2 : decode cX3_commonSlot 2 = .ok (.iload_n 2, 1) := by decide +kernel
theorem dX3_commonSlot_3 : decode cX3_commonSlot 3 = .ok (.istore 4, 2) := by decide +kernel
theorem dX3_commonSlot_5 : decode cX3_commonSlot 5 = .ok (.iconst 0, 1) := by decide +kernel
theorem dX3_commonSlot_6 : decode cX3_commonSlot 6 = .ok (.istore 5, 2) := by decide +kernel
theorem dX3_commonSlot_8 : decode cX3_commonSlot 8 = .ok (.iload 5, 2) := by decide +kernel
theorem dX3_commonSlot_10 : decode cX3_commonSlot 10 = .ok (.bipush 32, 2) := by decide +kernel
theorem dX3_commonSlot_12 : decode cX3_commonSlot 12 = .ok (.if_icmp .ge 38, 3) := by decide +kernel
theorem dX3_commonSlot_15 : decode cX3_commonSlot 15 = .ok (.iload_n 3, 1) := by decide +kernel
theorem dX3_commonSlot_16 : decode cX3_commonSlot 16 = .ok (.iload 4, 2) := by decide +kernel
theorem dX3_commonSlot_18 : decode cX3_commonSlot 18 = .ok (.if_icmp .eq 32, 3) := by decide +kernel
theorem dX3_commonSlot_21 : decode cX3_commonSlot 21 = .ok (.iload_n 3, 1) := by decide +kernel
theorem dX3_commonSlot_22 : decode cX3_commonSlot 22 = .ok (.iload 4, 2) := by decide +kernel
theorem dX3_commonSlot_24 : decode cX3_commonSlot 24 = .ok (.if_icmp .le 12, 3) := by decide +kernel
theorem dX3_commonSlot_27 : decode cX3_commonSlot 27 = .ok (.aload_n 0, 1) := by decide +kernel
theorem dX3_commonSlot_28 : decode cX3_commonSlot 28 = .ok (.iload_n 3, 1) := by decide +kernel
theorem dX3_commonSlot_29 : decode cX3_commonSlot 29 = .ok (.invokevirtual 48, 3) := by decide +kernel
theorem dX3_commonSlot_32 : decode cX3_commonSlot 32 = .ok (.istore_n 3, 1) := by decide +kernel
theorem dX3_commonSlot_33 : decode cX3_commonSlot 33 = .ok (.goto 11, 3) := by decide +kernel
theorem dX3_commonSlot_36 : decode cX3_commonSlot 36 = .ok (.aload_n 0, 1) := by decide +kernel
theorem dX3_commonSlot_37 : decode cX3_commonSlot 37 = .ok (.iload 4, 2) := by decide +kernel
theorem dX3_commonSlot_39 : decode cX3_commonSlot 39 = .ok (.invokevirtual 48, 3) := by decide +kernel
theorem dX3_commonSlot_42 : decode cX3_commonSlot 42 = .ok (.istore 4, 2) := by decide +kernel
theorem dX3_commonSlot_44 : decode cX3_commonSlot 44 = .ok (.iinc 5 1, 3) := by decide +kernel
theorem dX3_commonSlot_47 : decode cX3_commonSlot 47 = .ok (.goto (-39), 3) := by decide +kernel
theorem dX3_commonSlot_50 : decode cX3_commonSlot 50 = .ok (.iload_n 3, 1) := by decide +kernel
theorem dX3_commonSlot_51 : decode cX3_commonSlot 51 = .ok (.ireturn, 1) := by decide +kernel
set_option maxRecDepth 20000 in
theorem ggX3_unlikePlaces_X3_block : GoodIn wsX3_unlikePlaces wsX3_block := goodIn_r _ [5, 6, 7, 8, 9, 10, 11, 12] (by decide +kernel) (by decide +kernel)
set_option maxRecDepth 20000 in
theorem gX3_unlikePlaces_X3_block : GoodIn wsX3_unlikePlaces (wsV RX3 51 RX3 yX3_block wsX3_block) := goodIn_app (goodIn_of _ (by decide +kernel)) ggX3_unlikePlaces_X3_block
theorem dX3_unlikePlaces_0 : decode cX3_unlikePlaces 0 = .ok (.iconst 0, 1) := by decide +kernel
theorem dX3_unlikePlaces_1 : decode cX3_unlikePlaces 1 = .ok (.istore_n 3, 1) := by decide +kernel
theorem dX3_unlikePlaces_2 : decode cX3_unlikePlaces 2 = .ok (.iconst 0, 1) := by decide +kernel
theorem dX3_unlikePlaces_3 : decode cX3_unlikePlaces 3 = .ok (.istore 4, 2) := by decide +kernel
theorem dX3_unlikePlaces_5 : decode cX3_unlikePlaces 5 = .ok (.iload 4, 2) := by decide +kernel
theorem dX3_unlikePlaces_7 : decode cX3_unlikePlaces 7 = .ok (.bipush 6, 2) := by decide +kernel
theorem dX3_unlikePlaces_9 : decode cX3_unlikePlaces 9 = .ok (.if_icmp .ge 34, 3) := by decide +kernel
theorem dX3_unlikePlaces_12 : decode cX3_unlikePlaces 12 = .ok (.iload_n 3, 1) := by decide +kernel
theorem dX3_unlikePlaces_13 : decode cX3_unlikePlaces 13 = .ok (.aload_n 0, 1) := by decide +kernel
theorem dX3_unlikePlaces_14 : decode cX3_unlikePlaces 14 = .ok (.iload_n 1, 1) := by decide +kernel
theorem dX3_unlikePlaces_15 : decode cX3_unlikePlaces 15 = .ok (.iload 4, 2) := by decide +kernel
theorem dX3_unlikePlaces_17 : decode cX3_unlikePlaces 17 = .ok (.invokevirtual 51, 3) := by decide +kernel
theorem dX3_unlikePlaces_20 : decode cX3_unlikePlaces 20 = .ok (.aload_n 0, 1) := by decide +kernel
theorem dX3_unlikePlaces_21 : decode cX3_unlikePlaces 21 = .ok (.iload_n 2, 1) := by decide +kernel
theorem dX3_unlikePlaces_22 : decode cX3_unlikePlaces 22 = .ok (.iload 4, 2) := by decide +kernel
theorem dX3_unlikePlaces_24 : decode cX3_unlikePlaces 24 = .ok (.invokevirtual 51, 3) := by decide +kernel
theorem dX3_unlikePlaces_27 : decode cX3_unlikePlaces 27 = .ok (.if_icmp .eq 7, 3) := by decide +kernel
theorem dX3_unlikePlaces_30 : decode cX3_unlikePlaces 30 = .ok (.iconst 1, 1) := by decide +kernel
theorem dX3_unlikePlaces_31 : decode cX3_unlikePlaces 31 = .ok (.goto 4, 3) := by decide +kernel
theorem dX3_unlikePlaces_34 : decode cX3_unlikePlaces 34 = .ok (.iconst 0, 1) := by decide +kernel
theorem dX3_unlikePlaces_35 : decode cX3_unlikePlaces 35 = .ok (.iadd, 1) := by decide +kernel
theorem dX3_unlikePlaces_36 : decode cX3_unlikePlaces 36 = .ok (.istore_n 3, 1) := by decide +kernel
theorem dX3_unlikePlaces_37 : decode cX3_unlikePlaces 37 = .ok (.iinc 4 1, 3) := by decide +kernel
theorem dX3_unlikePlaces_40 : decode cX3_unlikePlaces 40 = .ok (.goto (-35), 3) := by decide +kernel
theorem dX3_unlikePlaces_43 : decode cX3_unlikePlaces 43 = .ok (.iload_n 3, 1) := by decide +kernel
theorem dX3_unlikePlaces_44 : decode cX3_unlikePlaces 44 = .ok (.ireturn, 1) := by decide +kernel
set_option maxRecDepth 20000 in
theorem ggX3_placesWith_X3_block : GoodIn wsX3_placesWith wsX3_block := goodIn_r _ [5, 6, 7, 8, 9, 10, 11, 12] (by decide +kernel) (by decide +kernel)
set_option maxRecDepth 20000 in
theorem gX3_placesWith_X3_block : GoodIn wsX3_placesWith (wsV RX3 51 RX3 yX3_block wsX3_block) := goodIn_app (goodIn_of _ (by decide +kernel)) ggX3_placesWith_X3_block
theorem dX3_placesWith_0 : decode cX3_placesWith 0 = .ok (.iconst 0, 1) := by decide +kernel
theorem dX3_placesWith_1 : decode cX3_placesWith 1 = .ok (.istore_n 3, 1) := by decide +kernel
theorem dX3_placesWith_2 : decode cX3_placesWith 2 = .ok (.iconst 0, 1) := by decide +kernel
theorem dX3_placesWith_3 : decode cX3_placesWith 3 = .ok (.istore 4, 2) := by decide +kernel
theorem dX3_placesWith_5 : decode cX3_placesWith 5 = .ok (.iload 4, 2) := by decide +kernel
theorem dX3_placesWith_7 : decode cX3_placesWith 7 = .ok (.bipush 6, 2) := by decide +kernel
theorem dX3_placesWith_9 : decode cX3_placesWith 9 = .ok (.if_icmp .ge 28, 3) := by decide +kernel
theorem dX3_placesWith_12 : decode cX3_placesWith 12 = .ok (.iload_n 3, 1) := by decide +kernel
theorem dX3_placesWith_13 : decode cX3_placesWith 13 = .ok (.aload_n 0, 1) := by decide +kernel
theorem dX3_placesWith_14 : decode cX3_placesWith 14 = .ok (.iload_n 1, 1) := by decide +kernel
theorem dX3_placesWith_15 : decode cX3_placesWith 15 = .ok (.iload 4, 2) := by decide +kernel
theorem dX3_placesWith_17 : decode cX3_placesWith 17 = .ok (.invokevirtual 51, 3) := by decide +kernel
theorem dX3_placesWith_20 : decode cX3_placesWith 20 = .ok (.iload_n 2, 1) := by decide +kernel
theorem dX3_placesWith_21 : decode cX3_placesWith 21 = .ok (.if_icmp .ne 7, 3) := by decide +kernel
theorem dX3_placesWith_24 : decode cX3_placesWith 24 = .ok (.iconst 1, 1) := by decide +kernel
theorem dX3_placesWith_25 : decode cX3_placesWith 25 = .ok (.goto 4, 3) := by decide +kernel
theorem dX3_placesWith_28 : decode cX3_placesWith 28 = .ok (.iconst 0, 1) := by decide +kernel
theorem dX3_placesWith_29 : decode cX3_placesWith 29 = .ok (.iadd, 1) := by decide +kernel
theorem dX3_placesWith_30 : decode cX3_placesWith 30 = .ok (.istore_n 3, 1) := by decide +kernel
theorem dX3_placesWith_31 : decode cX3_placesWith 31 = .ok (.iinc 4 1, 3) := by decide +kernel
theorem dX3_placesWith_34 : decode cX3_placesWith 34 = .ok (.goto (-29), 3) := by decide +kernel
theorem dX3_placesWith_37 : decode cX3_placesWith 37 = .ok (.iload_n 3, 1) := by decide +kernel
theorem dX3_placesWith_38 : decode cX3_placesWith 38 = .ok (.ireturn, 1) := by decide +kernel
set_option maxRecDepth 20000 in
theorem ggX3_statesWith_X3_placesWith : GoodIn wsX3_statesWith wsX3_placesWith := goodIn_r _ [6, 7, 8, 9, 5, 10, 1, 11, 12, 13, 14, 15, 16] (by decide +kernel) (by decide +kernel)
set_option maxRecDepth 20000 in
theorem gX3_statesWith_X3_placesWith : GoodIn wsX3_statesWith (wsV RX3 55 RX3 yX3_placesWith wsX3_placesWith) := goodIn_app (goodIn_of _ (by decide +kernel)) ggX3_statesWith_X3_placesWith
theorem dX3_statesWith_0 : decode cX3_statesWith 0 = .ok (.iconst 0, 1) := by decide +kernel
theorem dX3_statesWith_1 : decode cX3_statesWith 1 = .ok (.istore_n 2, 1) := by decide +kernel
theorem dX3_statesWith_2 : decode cX3_statesWith 2 = .ok (.iconst 0, 1) := by decide +kernel
theorem dX3_statesWith_3 : decode cX3_statesWith 3 = .ok (.istore_n 3, 1) := by decide +kernel
theorem dX3_statesWith_4 : decode cX3_statesWith 4 = .ok (.iload_n 3, 1) := by decide +kernel
theorem dX3_statesWith_5 : decode cX3_statesWith 5 = .ok (.aload_n 0, 1) := by decide +kernel
theorem dX3_statesWith_6 : decode cX3_statesWith 6 = .ok (.getfield 21, 3) := by decide +kernel
theorem dX3_statesWith_9 : decode cX3_statesWith 9 = .ok (.if_icmp .ge 26, 3) := by decide +kernel
theorem dX3_statesWith_12 : decode cX3_statesWith 12 = .ok (.iload_n 2, 1) := by decide +kernel
theorem dX3_statesWith_13 : decode cX3_statesWith 13 = .ok (.aload_n 0, 1) := by decide +kernel
theorem dX3_statesWith_14 : decode cX3_statesWith 14 = .ok (.iload_n 3, 1) := by decide +kernel
theorem dX3_statesWith_15 : decode cX3_statesWith 15 = .ok (.iload_n 1, 1) := by decide +kernel
theorem dX3_statesWith_16 : decode cX3_statesWith 16 = .ok (.invokevirtual 55, 3) := by decide +kernel
theorem dX3_statesWith_19 : decode cX3_statesWith 19 = .ok (.ifCond .le 7, 3) := by decide +kernel
theorem dX3_statesWith_22 : decode cX3_statesWith 22 = .ok (.iconst 1, 1) := by decide +kernel
theorem dX3_statesWith_23 : decode cX3_statesWith 23 = .ok (.goto 4, 3) := by decide +kernel
theorem dX3_statesWith_26 : decode cX3_statesWith 26 = .ok (.iconst 0, 1) := by decide +kernel
theorem dX3_statesWith_27 : decode cX3_statesWith 27 = .ok (.iadd, 1) := by decide +kernel
theorem dX3_statesWith_28 : decode cX3_statesWith 28 = .ok (.istore_n 2, 1) := by decide +kernel
theorem dX3_statesWith_29 : decode cX3_statesWith 29 = .ok (.iinc 3 1, 3) := by decide +kernel
theorem dX3_statesWith_32 : decode cX3_statesWith 32 = .ok (.goto (-28), 3) := by decide +kernel
theorem dX3_statesWith_35 : decode cX3_statesWith 35 = .ok (.iload_n 2, 1) := by decide +kernel
theorem dX3_statesWith_36 : decode cX3_statesWith 36 = .ok (.ireturn, 1) := by decide +kernel
set_option maxRecDepth 20000 in
theorem ggX3_isFirstPlace_X3_block : GoodIn wsX3_isFirstPlace wsX3_block := goodIn_r _ [5, 6, 7, 8, 9, 10, 11, 12] (by decide +kernel) (by decide +kernel)
set_option maxRecDepth 20000 in
theorem gX3_isFirstPlace_X3_block : GoodIn wsX3_isFirstPlace (wsV RX3 51 RX3 yX3_block wsX3_block) := goodIn_app (goodIn_of _ (by decide +kernel)) ggX3_isFirstPlace_X3_block
theorem dX3_isFirstPlace_0 : decode cX3_isFirstPlace 0 = .ok (.iconst 0, 1) := by decide +kernel
theorem dX3_isFirstPlace_1 : decode cX3_isFirstPlace 1 = .ok (.istore_n 3, 1) := by decide +kernel
theorem dX3_isFirstPlace_2 : decode cX3_isFirstPlace 2 = .ok (.iload_n 3, 1) := by decide +kernel
theorem dX3_isFirstPlace_3 : decode cX3_isFirstPlace 3 = .ok (.iload_n 2, 1) := by decide +kernel
theorem dX3_isFirstPlace_4 : decode cX3_isFirstPlace 4 = .ok (.if_icmp .ge 26, 3) := by decide +kernel
theorem dX3_isFirstPlace_7 : decode cX3_isFirstPlace 7 = .ok (.aload_n 0, 1) := by decide +kernel
theorem dX3_isFirstPlace_8 : decode cX3_isFirstPlace 8 = .ok (.iload_n 1, 1) := by decide +kernel
theorem dX3_isFirstPlace_9 : decode cX3_isFirstPlace 9 = .ok (.iload_n 3, 1) := by decide +kernel
theorem dX3_isFirstPlace_10 : decode cX3_isFirstPlace 10 = .ok (.invokevirtual 51, 3) := by decide +kernel
theorem dX3_isFirstPlace_13 : decode cX3_isFirstPlace 13 = .ok (.aload_n 0, 1) := by decide +kernel
theorem dX3_isFirstPlace_14 : decode cX3_isFirstPlace 14 = .ok (.iload_n 1, 1) := by decide +kernel
theorem dX3_isFirstPlace_15 : decode cX3_isFirstPlace 15 = .ok (.iload_n 2, 1) := by decide +kernel
theorem dX3_isFirstPlace_16 : decode cX3_isFirstPlace 16 = .ok (.invokevirtual 51, 3) := by decide +kernel
theorem dX3_isFirstPlace_19 : decode cX3_isFirstPlace 19 = .ok (.if_icmp .ne 5, 3) := by decide +kernel
theorem dX3_isFirstPlace_22 : decode cX3_isFirstPlace 22 = .ok (.iconst 0, 1) := by decide +kernel
theorem dX3_isFirstPlace_23 : decode cX3_isFirstPlace 23 = .ok (.ireturn, 1) := by decide +kernel
theorem dX3_isFirstPlace_24 : decode cX3_isFirstPlace 24 = .ok (.iinc 3 1, 3) := by decide +kernel
theorem dX3_isFirstPlace_27 : decode cX3_isFirstPlace 27 = .ok (.goto (-25), 3) := by decide +kernel
theorem dX3_isFirstPlace_30 : decode cX3_isFirstPlace 30 = .ok (.iconst 1, 1) := by decide +kernel
theorem dX3_isFirstPlace_31 : decode cX3_isFirstPlace 31 = .ok (.ireturn, 1) := by decide +kernel
set_option maxRecDepth 20000 in
theorem ggX3_blocksIn_X3_isFirstPlace : GoodIn wsX3_blocksIn wsX3_isFirstPlace := goodIn_r _ [5, 6, 7, 8, 4, 9, 10, 11, 12, 13, 14, 15, 16] (by decide +kernel) (by decide +kernel)
set_option maxRecDepth 20000 in
theorem gX3_blocksIn_X3_isFirstPlace : GoodIn wsX3_blocksIn (wsV RX3 58 RX3 yX3_isFirstPlace wsX3_isFirstPlace) := goodIn_app (goodIn_of _ (by decide +kernel)) ggX3_blocksIn_X3_isFirstPlace
theorem dX3_blocksIn_0 : decode cX3_blocksIn 0 = .ok (.iconst 0, 1) := by decide +kernel
theorem dX3_blocksIn_1 : decode cX3_blocksIn 1 = .ok (.istore_n 2, 1) := by decide +kernel
theorem dX3_blocksIn_2 : decode cX3_blocksIn 2 = .ok (.iconst 0, 1) := by decide +kernel
theorem dX3_blocksIn_3 : decode cX3_blocksIn 3 = .ok (.istore_n 3, 1) := by decide +kernel
theorem dX3_blocksIn_4 : decode cX3_blocksIn 4 = .ok (.iload_n 3, 1) := by decide +kernel
theorem dX3_blocksIn_5 : decode cX3_blocksIn 5 = .ok (.bipush 6, 2) := by decide +kernel
theorem dX3_blocksIn_7 : decode cX3_blocksIn 7 = .ok (.if_icmp .ge 26, 3) := by decide +kernel
theorem dX3_blocksIn_10 : decode cX3_blocksIn 10 = .ok (.iload_n 2, 1) := by decide +kernel
theorem dX3_blocksIn_11 : decode cX3_blocksIn 11 = .ok (.aload_n 0, 1) := by decide +kernel
theorem dX3_blocksIn_12 : decode cX3_blocksIn 12 = .ok (.iload_n 1, 1) := by decide +kernel
theorem dX3_blocksIn_13 : decode cX3_blocksIn 13 = .ok (.iload_n 3, 1) := by decide +kernel
theorem dX3_blocksIn_14 : decode cX3_blocksIn 14 = .ok (.invokevirtual 58, 3) := by decide +kernel
theorem dX3_blocksIn_17 : decode cX3_blocksIn 17 = .ok (.ifCond .eq 7, 3) := by decide +kernel
theorem dX3_blocksIn_20 : decode cX3_blocksIn 20 = .ok (.iconst 1, 1) := by decide +kernel
theorem dX3_blocksIn_21 : decode cX3_blocksIn 21 = .ok (.goto 4, 3) := by decide +kernel
theorem dX3_blocksIn_24 : decode cX3_blocksIn 24 = .ok (.iconst 0, 1) := by decide +kernel
theorem dX3_blocksIn_25 : decode cX3_blocksIn 25 = .ok (.iadd, 1) := by decide +kernel
theorem dX3_blocksIn_26 : decode cX3_blocksIn 26 = .ok (.istore_n 2, 1) := by decide +kernel
theorem dX3_blocksIn_27 : decode cX3_blocksIn 27 = .ok (.iinc 3 1, 3) := by decide +kernel
theorem dX3_blocksIn_30 : decode cX3_blocksIn 30 = .ok (.goto (-26), 3) := by decide +kernel
theorem dX3_blocksIn_33 : decode cX3_blocksIn 33 = .ok (.iload_n 2, 1) := by decide +kernel
theorem dX3_blocksIn_34 : decode cX3_blocksIn 34 = .ok (.ireturn, 1) := by decide +kernel
set_option maxRecDepth 20000 in
theorem ggX4_init_X0_init : GoodIn wsX4_init wsX0_init := goodIn_r _ [19, 20, 2, 3, 12, 21, 22, 23, 24, 34, 35, 36, 37] (by decide +kernel) (by decide +kernel)
set_option maxRecDepth 20000 in
theorem gX4_init_X0_init : GoodIn wsX4_init (wsX0_init) := ggX4_init_X0_init
set_option maxRecDepth 20000 in
theorem ggX4_init_X3_init : GoodIn wsX4_init wsX3_init := goodIn_r _ [27, 28, 2, 3, 12, 29, 30, 31, 32, 33, 44, 45, 46, 47, 48] (by decide +kernel) (by decide +kernel)
set_option maxRecDepth 20000 in
theorem gX4_init_X3_init : GoodIn wsX4_init (wsX3_init) := ggX4_init_X3_init
theorem dX4_init_0 : decode cX4_init 0 = .ok (.aload_n 0, 1) := by decide +kernel
theorem dX4_init_1 : decode cX4_init 1 = .ok (.invokespecial 3, 3) := by decide +kernel
theorem dX4_init_4 : decode cX4_init 4 = .ok (.aload_n 0, 1) := by decide +kernel
theorem dX4_init_5 : decode cX4_init 5 = .ok (.new 9, 3) := by decide +kernel
theorem dX4_init_8 : decode cX4_init 8 = .ok (.dup, 1) := by decide +kernel
theorem dX4_init_9 : decode cX4_init 9 = .ok (.invokespecial 11, 3) := by decide +kernel
theorem dX4_init_12 : decode cX4_init 12 = .ok (.putfield 12, 3) := by decide +kernel
theorem dX4_init_15 : decode cX4_init 15 = .ok (.aload_n 0, 1) := by decide +kernel
theorem dX4_init_16 : decode cX4_init 16 = .ok (.new 18, 3) := by decide +kernel
theorem dX4_init_19 : decode cX4_init 19 = .ok (.dup, 1) := by decide +kernel
theorem dX4_init_20 : decode cX4_init 20 = .ok (.invokespecial 20, 3) := by decide +kernel
theorem dX4_init_23 : decode cX4_init 23 = .ok (.putfield 21, 3) := by decide +kernel
theorem dX4_init_26 : decode cX4_init 26 = .ok (.aload_n 0, 1) := by decide +kernel
theorem dX4_init_27 : decode cX4_init 27 = .ok (.iconst 4, 1) := by decide +kernel
theorem dX4_init_28 : decode cX4_init 28 = .ok (.newarray .int, 2) := by decide +kernel
theorem dX4_init_30 : decode cX4_init 30 = .ok (.putfield 25, 3) := by decide +kernel
theorem dX4_init_33 : decode cX4_init 33 = .ok (.aload_n 0, 1) := by decide +kernel
theorem dX4_init_34 : decode cX4_init 34 = .ok (.bipush 48, 2) := by decide +kernel
theorem dX4_init_36 : decode cX4_init 36 = .ok (.newarray .int, 2) := by decide +kernel
theorem dX4_init_38 : decode cX4_init 38 = .ok (.putfield 29, 3) := by decide +kernel
theorem dX4_init_41 : decode cX4_init 41 = .ok (.aload_n 0, 1) := by decide +kernel
theorem dX4_init_42 : decode cX4_init 42 = .ok (.iconst 1, 1) := by decide +kernel
theorem dX4_init_43 : decode cX4_init 43 = .ok (.putfield 32, 3) := by decide +kernel
theorem dX4_init_46 : decode cX4_init 46 = .ok (.aload_n 0, 1) := by decide +kernel
theorem dX4_init_47 : decode cX4_init 47 = .ok (.iconst 0, 1) := by decide +kernel
theorem dX4_init_48 : decode cX4_init 48 = .ok (.putfield 36, 3) := by decide +kernel
theorem dX4_init_51 : decode cX4_init 51 = .ok (.iconst 1, 1) := by decide +kernel
theorem dX4_init_52 : decode cX4_init 52 = .ok (.istore_n 1, 1) := by decide +kernel
theorem dX4_init_53 : decode cX4_init 53 = .ok (.iload_n 1, 1) := by decide +kernel
theorem dX4_init_54 : decode cX4_init 54 = .ok (.iconst 4, 1) := by decide +kernel
theorem dX4_init_55 : decode cX4_init 55 = .ok (.if_icmp .ge 16, 3) := by decide +kernel
theorem dX4_init_58 : decode cX4_init 58 = .ok (.aload_n 0, 1) := by decide +kernel
theorem dX4_init_59 : decode cX4_init 59 = .ok (.getfield 25, 3) := by decide +kernel
theorem dX4_init_62 : decode cX4_init 62 = .ok (.iload_n 1, 1) := by decide +kernel
theorem dX4_init_63 : decode cX4_init 63 = .ok (.iconst (-1), 1) := by decide +kernel
theorem dX4_init_64 : decode cX4_init 64 = .ok (.iastore, 1) := by decide +kernel
theorem dX4_init_65 : decode cX4_init 65 = .ok (.iinc 1 1, 3) := by decide +kernel
theorem dX4_init_68 : decode cX4_init 68 = .ok (.goto (-15), 3) := by decide +kernel
theorem dX4_init_71 : decode cX4_init 71 = .ok (.return_, 1) := by decide +kernel
set_option maxRecDepth 20000 in
theorem ggX4_becomeLike_X0_becomeLike : GoodIn wsX4_becomeLike wsX0_becomeLike := goodIn_r _ [14, 15, 16, 5, 6, 7, 17, 18, 19, 37, 38, 39, 40] (by decide +kernel) (by decide +kernel)
set_option maxRecDepth 20000 in
theorem gX4_becomeLike_X0_becomeLike : GoodIn wsX4_becomeLike (wsV RX4 39 RX0 yX0_becomeLike wsX0_becomeLike) := goodIn_app (goodIn_of _ (by decide +kernel)) ggX4_becomeLike_X0_becomeLike
set_option maxRecDepth 20000 in
theorem ggX4_becomeLike_X3_becomeLike : GoodIn wsX4_becomeLike wsX3_becomeLike := goodIn_r _ [24, 25, 26, 5, 6, 7, 27, 28, 29, 30, 41, 42, 43, 44, 45] (by decide +kernel) (by decide +kernel)
set_option maxRecDepth 20000 in
theorem gX4_becomeLike_X3_becomeLike : GoodIn wsX4_becomeLike (wsV RX4 43 RX3 yX3_becomeLike wsX3_becomeLike) := goodIn_app (goodIn_of _ (by decide +kernel)) ggX4_becomeLike_X3_becomeLike
theorem dX4_becomeLike_0 : decode cX4_becomeLike 0 = .ok (.aload_n 0, 1) := by decide +kernel
theorem dX4_becomeLike_1 : decode cX4_becomeLike 1 = .ok (.getfield 12, 3) := by decide +kernel
theorem dX4_becomeLike_4 : decode cX4_becomeLike 4 = .ok (.aload_n 1, 1) := by decide +kernel
theorem dX4_becomeLike_5 : decode cX4_becomeLike 5 = .ok (.getfield 12, 3) := by decide +kernel
theorem dX4_becomeLike_8 : decode cX4_becomeLike 8 = .ok (.invokevirtual 39, 3) := by decide +kernel
theorem dX4_becomeLike_11 : decode cX4_becomeLike 11 = .ok (.aload_n 0, 1) := by decide +kernel
theorem dX4_becomeLike_12 : decode cX4_becomeLike 12 = .ok (.getfield 21, 3) := by decide +kernel
theorem dX4_becomeLike_15 : decode cX4_becomeLike 15 = .ok (.aload_n 1, 1) := by decide +kernel
theorem dX4_becomeLike_16 : decode cX4_becomeLike 16 = .ok (.getfield 21, 3) := by decide +kernel
theorem dX4_becomeLike_19 : decode cX4_becomeLike 19 = .ok (.invokevirtual 43, 3) := by decide +kernel
theorem dX4_becomeLike_22 : decode cX4_becomeLike 22 = .ok (.aload_n 1, 1) := by decide +kernel
theorem dX4_becomeLike_23 : decode cX4_becomeLike 23 = .ok (.getfield 25, 3) := by decide +kernel
theorem dX4_becomeLike_26 : decode cX4_becomeLike 26 = .ok (.iconst 0, 1) := by decide +kernel
theorem dX4_becomeLike_27 : decode cX4_becomeLike 27 = .ok (.aload_n 0, 1) := by decide +kernel
theorem dX4_becomeLike_28 : decode cX4_becomeLike 28 = .ok (.getfield 25, 3) := by decide +kernel
theorem dX4_becomeLike_31 : decode cX4_becomeLike 31 = .ok (.iconst 0, 1) := by decide +kernel
theorem dX4_becomeLike_32 : decode cX4_becomeLike 32 = .ok (.aload_n 0, 1) := by decide +kernel
theorem dX4_becomeLike_33 : decode cX4_becomeLike 33 = .ok (.getfield 25, 3) := by decide +kernel
theorem dX4_becomeLike_36 : decode cX4_becomeLike 36 = .ok (.arraylength, 1) := by decide +kernel
theorem dX4_becomeLike_37 : decode cX4_becomeLike 37 = .ok (.invokestatic 46, 3) := by decide +kernel
theorem dX4_becomeLike_40 : decode cX4_becomeLike 40 = .ok (.aload_n 0, 1) := by decide +kernel
theorem dX4_becomeLike_41 : decode cX4_becomeLike 41 = .ok (.aload_n 1, 1) := by decide +kernel
theorem dX4_becomeLike_42 : decode cX4_becomeLike 42 = .ok (.getfield 32, 3) := by decide +kernel
theorem dX4_becomeLike_45 : decode cX4_becomeLike 45 = .ok (.putfield 32, 3) := by decide +kernel
theorem dX4_becomeLike_48 : decode cX4_becomeLike 48 = .ok (.aload_n 0, 1) := by decide +kernel
theorem dX4_becomeLike_49 : decode cX4_becomeLike 49 = .ok (.aload_n 1, 1) := by decide +kernel
theorem dX4_becomeLike_50 : decode cX4_becomeLike 50 = .ok (.getfield 36, 3) := by decide +kernel
theorem dX4_becomeLike_53 : decode cX4_becomeLike 53 = .ok (.putfield 36, 3) := by decide +kernel
theorem dX4_becomeLike_56 : decode cX4_becomeLike 56 = .ok (.return_, 1) := by decide +kernel
set_option maxRecDepth 20000 in
theorem ggX4_isBranch_X5_isIndex : GoodIn wsX4_isBranch wsX5_isIndex := goodIn_r _ [4] (by decide +kernel) (by decide +kernel)
set_option maxRecDepth 20000 in
theorem gX4_isBranch_X5_isIndex_n52 : GoodIn wsX4_isBranch (wsX5_isIndex) := ggX4_isBranch_X5_isIndex
theorem dX4_isBranch_0 : decode cX4_isBranch 0 = .ok (.iload_n 1, 1) := by decide +kernel
theorem dX4_isBranch_1 : decode cX4_isBranch 1 = .ok (.iconst 4, 1) := by decide +kernel
theorem dX4_isBranch_2 : decode cX4_isBranch 2 = .ok (.invokestatic 52, 3) := by decide +kernel
theorem dX4_isBranch_5 : decode cX4_isBranch 5 = .ok (.ifCond .eq 17, 3) := by decide +kernel
theorem dX4_isBranch_8 : decode cX4_isBranch 8 = .ok (.aload_n 0, 1) := by decide +kernel
theorem dX4_isBranch_9 : decode cX4_isBranch 9 = .ok (.getfield 25, 3) := by decide +kernel
theorem dX4_isBranch_12 : decode cX4_isBranch 12 = .ok (.iload_n 1, 1) := by decide +kernel
theorem dX4_isBranch_13 : decode cX4_isBranch 13 = .ok (.iaload, 1) := by decide +kernel
theorem dX4_isBranch_14 : decode cX4_isBranch 14 = .ok (.iconst (-1), 1) := by decide +kernel
theorem dX4_isBranch_15 : decode cX4_isBranch 15 = .ok (.if_icmp .eq 7, 3) := by decide +kernel
theorem dX4_isBranch_18 : decode cX4_isBranch 18 = .ok (.iconst 1, 1) := by decide +kernel
theorem dX4_isBranch_19 : decode cX4_isBranch 19 = .ok (.goto 4, 3) := by decide +kernel
theorem dX4_isBranch_22 : decode cX4_isBranch 22 = .ok (.iconst 0, 1) := by decide +kernel
theorem dX4_isBranch_23 : decode cX4_isBranch 23 = .ok (.ireturn, 1) := by decide +kernel
set_option maxRecDepth 20000 in
theorem ggX4_headSlot_X4_isBranch : GoodIn wsX4_headSlot wsX4_isBranch := goodIn_r _ [7, 2, 8, 9, 10, 18, 19, 20, 21, 22, 23] (by decide +kernel) (by decide +kernel)
set_option maxRecDepth 20000 in
theorem gX4_headSlot_X4_isBranch : GoodIn wsX4_headSlot (wsV RX4 56 RX4 yX4_isBranch wsX4_isBranch) := goodIn_app (goodIn_of _ (by decide +kernel)) ggX4_headSlot_X4_isBranch
set_option maxRecDepth 20000 in
theorem ggX4_headSlot_X3_slotOf : GoodIn wsX4_headSlot wsX3_slotOf := goodIn_r _ [15, 16, 17, 24, 25, 26, 27, 28] (by decide +kernel) (by decide +kernel)
set_option maxRecDepth 20000 in
theorem gX4_headSlot_X3_slotOf : GoodIn wsX4_headSlot (wsV RX4 60 RX3 yX3_slotOf wsX3_slotOf) := goodIn_app (goodIn_of _ (by decide +kernel)) ggX4_headSlot_X3_slotOf
theorem dX4_headSlot_0 : decode cX4_headSlot 0 = .ok (.aload_n 0, 1) := by decide +kernel
theorem dX4_headSlot_1 : decode cX4_headSlot 1 = .ok (.iload_n 1, 1) := by decide +kernel
theorem dX4_headSlot_2 : decode cX4_headSlot 2 = .ok (.invokevirtual 56, 3) := by decide +kernel
theorem dX4_headSlot_5 : decode cX4_headSlot 5 = .ok (.ifCond .eq 19, 3) := by decide +kernel
theorem dX4_headSlot_8 : decode cX4_headSlot 8 = .ok (.aload_n 0, 1) := by decide +kernel
theorem dX4_headSlot_9 : decode cX4_headSlot 9 = .ok (.getfield 21, 3) := by decide +kernel
theorem dX4_headSlot_12 : decode cX4_headSlot 12 = .ok (.aload_n 0, 1) := by decide +kernel
theorem dX4_headSlot_13 : decode cX4_headSlot 13 = .ok (.getfield 25, 3) := by decide +kernel
theorem dX4_headSlot_16 : decode cX4_headSlot 16 = .ok (.iload_n 1, 1) := by decide +kernel
theorem dX4_headSlot_17 : decode cX4_headSlot 17 = .ok (.iaload, 1) := by decide +kernel
theorem dX4_headSlot_18 : decode cX4_headSlot 18 = .ok (.invokevirtual 60, 3) := by decide +kernel
theorem dX4_headSlot_21 : decode cX4_headSlot 21 = .ok (.goto 4, 3) := by decide +kernel
theorem dX4_headSlot_24 : decode cX4_headSlot 24 = .ok (.iconst (-1), 1) := by decide +kernel
theorem dX4_headSlot_25 : decode cX4_headSlot 25 = .ok (.ireturn, 1) := by decide +kernel
theorem dX4_branchesThere_0 : decode cX4_branchesThere 0 = .ok (.iconst 0, 1) := by decide +kernel
theorem dX4_branchesThere_1 : decode cX4_branchesThere 1 = .ok (.istore_n 1, 1) := by decide +kernel
theorem dX4_branchesThere_2 : decode cX4_branchesThere 2 = .ok (.iconst 0, 1) := by decide +kernel
theorem dX4_branchesThere_3 : decode cX4_branchesThere 3 = .ok (.istore_n 2, 1) := by decide +kernel
theorem dX4_branchesThere_4 : decode cX4_branchesThere 4 = .ok (.iload_n 2, 1) := by decide +kernel
theorem dX4_branchesThere_5 : decode cX4_branchesThere 5 = .ok (.iconst 4, 1) := by decide +kernel
theorem dX4_branchesThere_6 : decode cX4_branchesThere 6 = .ok (.if_icmp .ge 27, 3) := by decide +kernel
theorem dX4_branchesThere_9 : decode cX4_branchesThere 9 = .ok (.iload_n 1, 1) := by decide +kernel
theorem dX4_branchesThere_10 : decode cX4_branchesThere 10 = .ok (.aload_n 0, 1) := by decide +kernel
theorem dX4_branchesThere_11 : decode cX4_branchesThere 11 = .ok (.getfield 25, 3) := by decide +kernel
theorem dX4_branchesThere_14 : decode cX4_branchesThere 14 = .ok (.iload_n 2, 1) := by decide +kernel
theorem dX4_branchesThere_15 : decode cX4_branchesThere 15 = .ok (.iaload, 1) := by decide +kernel
theorem dX4_branchesThere_16 : decode cX4_branchesThere 16 = .ok (.iconst (-1), 1) := by decide +kernel
theorem dX4_branchesThere_17 : decode cX4_branchesThere 17 = .ok (.if_icmp .eq 7, 3) := by decide +kernel
theorem dX4_branchesThere_20 : decode cX4_branchesThere 20 = .ok (.iconst 1, 1) := by decide +kernel
theorem dX4_branchesThere_21 : decode cX4_branchesThere 21 = .ok (.goto 4, 3) := by decide +kernel
theorem dX4_branchesThere_24 : decode cX4_branchesThere 24 = .ok (.iconst 0, 1) := by decide +kernel
theorem dX4_branchesThere_25 : decode cX4_branchesThere 25 = .ok (.iadd, 1) := by decide +kernel
theorem dX4_branchesThere_26 : decode cX4_branchesThere 26 = .ok (.istore_n 1, 1) := by decide +kernel
theorem dX4_branchesThere_27 : decode cX4_branchesThere 27 = .ok (.iinc 2 1, 3) := by decide +kernel
theorem dX4_branchesThere_30 : decode cX4_branchesThere 30 = .ok (.goto (-26), 3) := by decide +kernel
theorem dX4_branchesThere_33 : decode cX4_branchesThere 33 = .ok (.iload_n 1, 1) := by decide +kernel
theorem dX4_branchesThere_34 : decode cX4_branchesThere 34 = .ok (.ireturn, 1) := by decide +kernel
theorem dX4_branchesAt_0 : decode cX4_branchesAt 0 = .ok (.iconst 0, 1) := by decide +kernel
theorem dX4_branchesAt_1 : decode cX4_branchesAt 1 = .ok (.istore_n 2, 1) := by decide +kernel
theorem dX4_branchesAt_2 : decode cX4_branchesAt 2 = .ok (.iconst 0, 1) := by decide +kernel
theorem dX4_branchesAt_3 : decode cX4_branchesAt 3 = .ok (.istore_n 3, 1) := by decide +kernel
theorem dX4_branchesAt_4 : decode cX4_branchesAt 4 = .ok (.iload_n 3, 1) := by decide +kernel
theorem dX4_branchesAt_5 : decode cX4_branchesAt 5 = .ok (.iconst 4, 1) := by decide +kernel
theorem dX4_branchesAt_6 : decode cX4_branchesAt 6 = .ok (.if_icmp .ge 25, 3) := by decide +kernel
theorem dX4_branchesAt_9 : decode cX4_branchesAt 9 = .ok (.aload_n 0, 1) := by decide +kernel
theorem dX4_branchesAt_10 : decode cX4_branchesAt 10 = .ok (.getfield 25, 3) := by decide +kernel
theorem dX4_branchesAt_13 : decode cX4_branchesAt 13 = .ok (.iload_n 3, 1) := by decide +kernel
theorem dX4_branchesAt_14 : decode cX4_branchesAt 14 = .ok (.iaload, 1) := by decide +kernel
theorem dX4_branchesAt_15 : decode cX4_branchesAt 15 = .ok (.iload_n 1, 1) := by decide +kernel
theorem dX4_branchesAt_16 : decode cX4_branchesAt 16 = .ok (.if_icmp .ne 9, 3) := by decide +kernel
theorem dX4_branchesAt_19 : decode cX4_branchesAt 19 = .ok (.iload_n 2, 1) := by decide +kernel
theorem dX4_branchesAt_20 : decode cX4_branchesAt 20 = .ok (.iconst 1, 1) := by decide +kernel
theorem dX4_branchesAt_21 : decode cX4_branchesAt 21 = .ok (.iload_n 3, 1) := by decide +kernel
theorem dX4_branchesAt_22 : decode cX4_branchesAt 22 = .ok (.ishl, 1) := by decide +kernel
theorem dX4_branchesAt_23 : decode cX4_branchesAt 23 = .ok (.ior, 1) := by decide +kernel
theorem dX4_branchesAt_24 : decode cX4_branchesAt 24 = .ok (.istore_n 2, 1) := by decide +kernel
theorem dX4_branchesAt_25 : decode cX4_branchesAt 25 = .ok (.iinc 3 1, 3) := by decide +kernel
theorem dX4_branchesAt_28 : decode cX4_branchesAt 28 = .ok (.goto (-24), 3) := by decide +kernel
theorem dX4_branchesAt_31 : decode cX4_branchesAt 31 = .ok (.iload_n 2, 1) := by decide +kernel
theorem dX4_branchesAt_32 : decode cX4_branchesAt 32 = .ok (.ireturn, 1) := by decide +kernel
set_option maxRecDepth 20000 in
theorem ggX4_cellAt_X3_block : GoodIn wsX4_cellAt wsX3_block := goodIn_r _ [7, 8, 9, 22, 23, 24, 25, 26] (by decide +kernel) (by decide +kernel)
set_option maxRecDepth 20000 in
theorem gX4_cellAt_X3_block : GoodIn wsX4_cellAt (wsV RX4 64 RX3 yX3_block wsX3_block) := goodIn_app (goodIn_of _ (by decide +kernel)) ggX4_cellAt_X3_block
set_option maxRecDepth 20000 in
theorem ggX4_cellAt_X0_cellOf : GoodIn wsX4_cellAt wsX0_cellOf := goodIn_r _ [14, 15, 27, 28, 29, 30] (by decide +kernel) (by decide +kernel)
set_option maxRecDepth 20000 in
theorem gX4_cellAt_X0_cellOf : GoodIn wsX4_cellAt (wsV RX4 68 RX0 yX0_cellOf wsX0_cellOf) := goodIn_app (goodIn_of _ (by decide +kernel)) ggX4_cellAt_X0_cellOf
theorem dX4_cellAt_0 : decode cX4_cellAt 0 = .ok (.aload_n 0, 1) := by decide +kernel
theorem dX4_cellAt_1 : decode cX4_cellAt 1 = .ok (.getfield 12, 3) := by decide +kernel
theorem dX4_cellAt_4 : decode cX4_cellAt 4 = .ok (.aload_n 0, 1) := by decide +kernel
theorem dX4_cellAt_5 : decode cX4_cellAt 5 = .ok (.getfield 21, 3) := by decide +kernel
theorem dX4_cellAt_8 : decode cX4_cellAt 8 = .ok (.iload_n 1, 1) := by decide +kernel
theorem dX4_cellAt_9 : decode cX4_cellAt 9 = .ok (.iload_n 2, 1) := by decide +kernel
theorem dX4_cellAt_10 : decode cX4_cellAt 10 = .ok (.bipush 8, 2) := by decide +kernel
theorem dX4_cellAt_12 : decode cX4_cellAt 12 = .ok (.idiv, 1) := by decide +kernel
theorem dX4_cellAt_13 : decode cX4_cellAt 13 = .ok (.invokevirtual 64, 3) := by decide +kernel
theorem dX4_cellAt_16 : decode cX4_cellAt 16 = .ok (.iload_n 2, 1) := by decide +kernel
theorem dX4_cellAt_17 : decode cX4_cellAt 17 = .ok (.bipush 8, 2) := by decide +kernel
theorem dX4_cellAt_19 : decode cX4_cellAt 19 = .ok (.irem, 1) := by decide +kernel
theorem dX4_cellAt_20 : decode cX4_cellAt 20 = .ok (.invokevirtual 68, 3) := by decide +kernel
theorem dX4_cellAt_23 : decode cX4_cellAt 23 = .ok (.ireturn, 1) := by decide +kernel
set_option maxRecDepth 20000 in
theorem ggX4_sumOfState_X3_block : GoodIn wsX4_sumOfState wsX3_block := goodIn_r _ [7, 8, 9, 26, 27, 28, 29, 30] (by decide +kernel) (by decide +kernel)
set_option maxRecDepth 20000 in
theorem gX4_sumOfState_X3_block : GoodIn wsX4_sumOfState (wsV RX4 64 RX3 yX3_block wsX3_block) := goodIn_app (goodIn_of _ (by decide +kernel)) ggX4_sumOfState_X3_block
set_option maxRecDepth 20000 in
theorem ggX4_sumOfState_X0_sumOf : GoodIn wsX4_sumOfState wsX0_sumOf := goodIn_r _ [14, 15, 16, 17, 13, 18, 19, 31, 32, 33, 34] (by decide +kernel) (by decide +kernel)
set_option maxRecDepth 20000 in
theorem gX4_sumOfState_X0_sumOf : GoodIn wsX4_sumOfState (wsV RX4 71 RX0 yX0_sumOf wsX0_sumOf) := goodIn_app (goodIn_of _ (by decide +kernel)) ggX4_sumOfState_X0_sumOf
theorem dX4_sumOfState_0 : decode cX4_sumOfState 0 = .ok (.iconst 0, 1) := by decide +kernel
theorem dX4_sumOfState_1 : decode cX4_sumOfState 1 = .ok (.istore_n 2, 1) := by decide +kernel
theorem dX4_sumOfState_2 : decode cX4_sumOfState 2 = .ok (.iconst 0, 1) := by decide +kernel
theorem dX4_sumOfState_3 : decode cX4_sumOfState 3 = .ok (.istore_n 3, 1) := by decide +kernel
theorem dX4_sumOfState_4 : decode cX4_sumOfState 4 = .ok (.iload_n 3, 1) := by decide +kernel
theorem dX4_sumOfState_5 : decode cX4_sumOfState 5 = .ok (.bipush 6, 2) := by decide +kernel
theorem dX4_sumOfState_7 : decode cX4_sumOfState 7 = .ok (.if_icmp .ge 28, 3) := by decide +kernel
theorem dX4_sumOfState_10 : decode cX4_sumOfState 10 = .ok (.iload_n 2, 1) := by decide +kernel
theorem dX4_sumOfState_11 : decode cX4_sumOfState 11 = .ok (.aload_n 0, 1) := by decide +kernel
theorem dX4_sumOfState_12 : decode cX4_sumOfState 12 = .ok (.getfield 12, 3) := by decide +kernel
theorem dX4_sumOfState_15 : decode cX4_sumOfState 15 = .ok (.aload_n 0, 1) := by decide +kernel
theorem dX4_sumOfState_16 : decode cX4_sumOfState 16 = .ok (.getfield 21, 3) := by decide +kernel
theorem dX4_sumOfState_19 : decode cX4_sumOfState 19 = .ok (.iload_n 1, 1) := by decide +kernel
theorem dX4_sumOfState_20 : decode cX4_sumOfState 20 = .ok (.iload_n 3, 1) := by decide +kernel
theorem dX4_sumOfState_21 : decode cX4_sumOfState 21 = .ok (.invokevirtual 64, 3) := by decide +kernel
theorem dX4_sumOfState_24 : decode cX4_sumOfState 24 = .ok (.invokevirtual 71, 3) := by decide +kernel
theorem dX4_sumOfState_27 : decode cX4_sumOfState 27 = .ok (.iadd, 1) := by decide +kernel
theorem dX4_sumOfState_28 : decode cX4_sumOfState 28 = .ok (.istore_n 2, 1) := by decide +kernel
theorem dX4_sumOfState_29 : decode cX4_sumOfState 29 = .ok (.iinc 3 1, 3) := by decide +kernel
theorem dX4_sumOfState_32 : decode cX4_sumOfState 32 = .ok (.goto (-28), 3) := by decide +kernel
theorem dX4_sumOfState_35 : decode cX4_sumOfState 35 = .ok (.iload_n 2, 1) := by decide +kernel
theorem dX4_sumOfState_36 : decode cX4_sumOfState 36 = .ok (.ireturn, 1) := by decide +kernel
set_option maxRecDepth 20000 in
theorem ggX4_isItsOwn_X3_block : GoodIn wsX4_isItsOwn wsX3_block := goodIn_r _ [7, 8, 9, 30, 31, 32, 33, 34] (by decide +kernel) (by decide +kernel)
set_option maxRecDepth 20000 in
theorem gX4_isItsOwn_X3_block : GoodIn wsX4_isItsOwn (wsV RX4 64 RX3 yX3_block wsX3_block) := goodIn_app (goodIn_of _ (by decide +kernel)) ggX4_isItsOwn_X3_block
set_option maxRecDepth 20000 in
theorem ggX4_isItsOwn_X0_usesOf : GoodIn wsX4_isItsOwn wsX0_usesOf := goodIn_r _ [14, 15, 16, 17, 18, 35, 36, 37, 38] (by decide +kernel) (by decide +kernel)
set_option maxRecDepth 20000 in
theorem gX4_isItsOwn_X0_usesOf : GoodIn wsX4_isItsOwn (wsV RX4 77 RX0 yX0_usesOf wsX0_usesOf) := goodIn_app (goodIn_of _ (by decide +kernel)) ggX4_isItsOwn_X0_usesOf
set_option maxRecDepth 20000 in
theorem ggX4_isItsOwn_X3_placesWith : GoodIn wsX4_isItsOwn wsX3_placesWith := goodIn_r _ [22, 23, 4, 5, 6, 7, 8, 9, 30, 31, 32, 33, 34] (by decide +kernel) (by decide +kernel)
set_option maxRecDepth 20000 in
theorem gX4_isItsOwn_X3_placesWith : GoodIn wsX4_isItsOwn (wsV RX4 80 RX3 yX3_placesWith wsX3_placesWith) := goodIn_app (goodIn_of _ (by decide +kernel)) ggX4_isItsOwn_X3_placesWith
theorem dX4_isItsOwn_0 : decode cX4_isItsOwn 0 = .ok (.aload_n 0, 1) := by decide +kernel
theorem dX4_isItsOwn_1 : decode cX4_isItsOwn 1 = .ok (.getfield 21, 3) := by decide +kernel
theorem dX4_isItsOwn_4 : decode cX4_isItsOwn 4 = .ok (.iload_n 1, 1) := by decide +kernel
theorem dX4_isItsOwn_5 : decode cX4_isItsOwn 5 = .ok (.iload_n 2, 1) := by decide +kernel
theorem dX4_isItsOwn_6 : decode cX4_isItsOwn 6 = .ok (.invokevirtual 64, 3) := by decide +kernel
theorem dX4_isItsOwn_9 : decode cX4_isItsOwn 9 = .ok (.istore_n 3, 1) := by decide +kernel
theorem dX4_isItsOwn_10 : decode cX4_isItsOwn 10 = .ok (.aload_n 0, 1) := by decide +kernel
theorem dX4_isItsOwn_11 : decode cX4_isItsOwn 11 = .ok (.getfield 12, 3) := by decide +kernel
theorem dX4_isItsOwn_14 : decode cX4_isItsOwn 14 = .ok (.iload_n 3, 1) := by decide +kernel
theorem dX4_isItsOwn_15 : decode cX4_isItsOwn 15 = .ok (.invokevirtual 77, 3) := by decide +kernel
theorem dX4_isItsOwn_18 : decode cX4_isItsOwn 18 = .ok (.aload_n 0, 1) := by decide +kernel
theorem dX4_isItsOwn_19 : decode cX4_isItsOwn 19 = .ok (.getfield 21, 3) := by decide +kernel
theorem dX4_isItsOwn_22 : decode cX4_isItsOwn 22 = .ok (.iload_n 1, 1) := by decide +kernel
theorem dX4_isItsOwn_23 : decode cX4_isItsOwn 23 = .ok (.iload_n 3, 1) := by decide +kernel
theorem dX4_isItsOwn_24 : decode cX4_isItsOwn 24 = .ok (.invokevirtual 80, 3) := by decide +kernel
theorem dX4_isItsOwn_27 : decode cX4_isItsOwn 27 = .ok (.if_icmp .ne 7, 3) := by decide +kernel
theorem dX4_isItsOwn_30 : decode cX4_isItsOwn 30 = .ok (.iconst 1, 1) := by decide +kernel
theorem dX4_isItsOwn_31 : decode cX4_isItsOwn 31 = .ok (.goto 4, 3) := by decide +kernel
theorem dX4_isItsOwn_34 : decode cX4_isItsOwn 34 = .ok (.iconst 0, 1) := by decide +kernel
theorem dX4_isItsOwn_35 : decode cX4_isItsOwn 35 = .ok (.ireturn, 1) := by decide +kernel
set_option maxRecDepth 20000 in
theorem ggX4_placesOfItsOwn_X4_isItsOwn : GoodIn wsX4_placesOfItsOwn wsX4_isItsOwn := goodIn_r _ [5, 6, 7, 8, 9, 10, 11, 12, 13, 14, 15, 16, 17, 18, 19, 20, 21, 22, 23, 24, 25, 26, 27, 28, 29, 30, 31, 32, 33, 34, 35, 36, 37, 38, 39, 40, 41, 42, 43] (by decide +kernel) (by decide +kernel)
set_option maxRecDepth 20000 in
theorem gX4_placesOfItsOwn_X4_isItsOwn : GoodIn wsX4_placesOfItsOwn (wsV RX4 83 RX4 yX4_isItsOwn wsX4_isItsOwn) := goodIn_app (goodIn_of _ (by decide +kernel)) ggX4_placesOfItsOwn_X4_isItsOwn
theorem dX4_placesOfItsOwn_0 : decode cX4_placesOfItsOwn 0 = .ok (.iconst 0, 1) := by decide +kernel
theorem dX4_placesOfItsOwn_1 : decode cX4_placesOfItsOwn 1 = .ok (.istore_n 2, 1) := by decide +kernel
theorem dX4_placesOfItsOwn_2 : decode cX4_placesOfItsOwn 2 = .ok (.iconst 0, 1) := by decide +kernel
theorem dX4_placesOfItsOwn_3 : decode cX4_placesOfItsOwn 3 = .ok (.istore_n 3, 1) := by decide +kernel
theorem dX4_placesOfItsOwn_4 : decode cX4_placesOfItsOwn 4 = .ok (.iload_n 3, 1) := by decide +kernel
theorem dX4_placesOfItsOwn_5 : decode cX4_placesOfItsOwn 5 = .ok (.bipush 6, 2) := by decide +kernel
theorem dX4_placesOfItsOwn_7 : decode cX4_placesOfItsOwn 7 = .ok (.if_icmp .ge 26, 3) := by decide +kernel
theorem dX4_placesOfItsOwn_10 : decode cX4_placesOfItsOwn 10 = .ok (.iload_n 2, 1) := by decide +kernel
theorem dX4_placesOfItsOwn_11 : decode cX4_placesOfItsOwn 11 = .ok (.aload_n 0, 1) := by decide +kernel
theorem dX4_placesOfItsOwn_12 : decode cX4_placesOfItsOwn 12 = .ok (.iload_n 1, 1) := by decide +kernel
theorem dX4_placesOfItsOwn_13 : decode cX4_placesOfItsOwn 13 = .ok (.iload_n 3, 1) := by decide +kernel
theorem dX4_placesOfItsOwn_14 : decode cX4_placesOfItsOwn 14 = .ok (.invokevirtual 83, 3) := by decide +kernel
theorem dX4_placesOfItsOwn_17 : decode cX4_placesOfItsOwn 17 = .ok (.ifCond .eq 7, 3) := by decide +kernel
theorem dX4_placesOfItsOwn_20 : decode cX4_placesOfItsOwn 20 = .ok (.iconst 1, 1) := by decide +kernel
theorem dX4_placesOfItsOwn_21 : decode cX4_placesOfItsOwn 21 = .ok (.goto 4, 3) := by decide +kernel
theorem dX4_placesOfItsOwn_24 : decode cX4_placesOfItsOwn 24 = .ok (.iconst 0, 1) := by decide +kernel
theorem dX4_placesOfItsOwn_25 : decode cX4_placesOfItsOwn 25 = .ok (.iadd, 1) := by decide +kernel
theorem dX4_placesOfItsOwn_26 : decode cX4_placesOfItsOwn 26 = .ok (.istore_n 2, 1) := by decide +kernel
theorem dX4_placesOfItsOwn_27 : decode cX4_placesOfItsOwn 27 = .ok (.iinc 3 1, 3) := by decide +kernel
theorem dX4_placesOfItsOwn_30 : decode cX4_placesOfItsOwn 30 = .ok (.goto (-26), 3) := by decide +kernel
theorem dX4_placesOfItsOwn_33 : decode cX4_placesOfItsOwn 33 = .ok (.iload_n 2, 1) := by decide +kernel
theorem dX4_placesOfItsOwn_34 : decode cX4_placesOfItsOwn 34 = .ok (.ireturn, 1) := by decide +kernel
set_option maxRecDepth 20000 in
theorem ggX4_canForget_X3_numberOf : GoodIn wsX4_canForget wsX3_numberOf := goodIn_r _ [6, 7, 8, 21, 22, 23, 24, 25] (by decide +kernel) (by decide +kernel)
set_option maxRecDepth 20000 in
theorem gX4_canForget_X3_numberOf : GoodIn wsX4_canForget (wsV RX4 89 RX3 yX3_numberOf wsX3_numberOf) := goodIn_app (goodIn_of _ (by decide +kernel)) ggX4_canForget_X3_numberOf
set_option maxRecDepth 20000 in
theorem ggX4_canForget_X4_branchesAt : GoodIn wsX4_canForget wsX4_branchesAt := goodIn_r _ [13, 14, 15, 16, 17, 18, 19, 20] (by decide +kernel) (by decide +kernel)
set_option maxRecDepth 20000 in
theorem gX4_canForget_X4_branchesAt : GoodIn wsX4_canForget (wsV RX4 92 RX4 yX4_branchesAt wsX4_branchesAt) := goodIn_app (goodIn_of _ (by decide +kernel)) ggX4_canForget_X4_branchesAt
theorem dX4_canForget_0 : decode cX4_canForget 0 = .ok (.iload_n 1, 1) := by decide +kernel
theorem dX4_canForget_1 : decode cX4_canForget 1 = .ok (.ifCond .le 22, 3) := by decide +kernel
theorem dX4_canForget_4 : decode cX4_canForget 4 = .ok (.aload_n 0, 1) := by decide +kernel
theorem dX4_canForget_5 : decode cX4_canForget 5 = .ok (.aload_n 0, 1) := by decide +kernel
theorem dX4_canForget_6 : decode cX4_canForget 6 = .ok (.getfield 21, 3) := by decide +kernel
theorem dX4_canForget_9 : decode cX4_canForget 9 = .ok (.iload_n 1, 1) := by decide +kernel
theorem dX4_canForget_10 : decode cX4_canForget 10 = .ok (.invokevirtual 89, 3) := by decide +kernel
theorem dX4_canForget_13 : decode cX4_canForget 13 = .ok (.invokevirtual 92, 3) := by decide +kernel
theorem dX4_canForget_16 : decode cX4_canForget 16 = .ok (.ifCond .ne 7, 3) := by decide +kernel
theorem dX4_canForget_19 : decode cX4_canForget 19 = .ok (.iconst 1, 1) := by decide +kernel
theorem dX4_canForget_20 : decode cX4_canForget 20 = .ok (.goto 4, 3) := by decide +kernel
theorem dX4_canForget_23 : decode cX4_canForget 23 = .ok (.iconst 0, 1) := by decide +kernel
theorem dX4_canForget_24 : decode cX4_canForget 24 = .ok (.ireturn, 1) := by decide +kernel
set_option maxRecDepth 20000 in
theorem ggX4_draftState_X4_cellAt : GoodIn wsX4_draftState wsX4_cellAt := goodIn_r _ [6, 7, 8, 9, 10, 11, 12, 13, 14, 15, 16, 17, 18, 19, 20, 21, 22, 23, 24, 25, 26, 27, 28, 29, 30, 31, 32, 33, 34, 35, 36] (by decide +kernel) (by decide +kernel)
set_option maxRecDepth 20000 in
theorem gX4_draftState_X4_cellAt : GoodIn wsX4_draftState (wsV RX4 74 RX4 yX4_cellAt wsX4_cellAt) := goodIn_app (goodIn_of _ (by decide +kernel)) ggX4_draftState_X4_cellAt
theorem dX4_draftState_0 : decode cX4_draftState 0 = .ok (.iconst 0, 1) := by decide +kernel
theorem dX4_draftState_1 : decode cX4_draftState 1 = .ok (.istore_n 2, 1) := by decide +kernel
theorem dX4_draftState_2 : decode cX4_draftState 2 = .ok (.iload_n 2, 1) := by decide +kernel
theorem dX4_draftState_3 : decode cX4_draftState 3 = .ok (.bipush 48, 2) := by decide +kernel
theorem dX4_draftState_5 : decode cX4_draftState 5 = .ok (.if_icmp .ge 21, 3) := by decide +kernel
theorem dX4_draftState_8 : decode cX4_draftState 8 = .ok (.aload_n 0, 1) := by decide +kernel
theorem dX4_draftState_9 : decode cX4_draftState 9 = .ok (.getfield 29, 3) := by decide +kernel
theorem dX4_draftState_12 : decode cX4_draftState 12 = .ok (.iload_n 2, 1) := by decide +kernel
theorem dX4_draftState_13 : decode cX4_draftState 13 = .ok (.aload_n 0, 1) := by decide +kernel
theorem dX4_draftState_14 : decode cX4_draftState 14 = .ok (.iload_n 1, 1) := by decide +kernel
theorem dX4_draftState_15 : decode cX4_draftState 15 = .ok (.iload_n 2, 1) := by decide +kernel
theorem dX4_draftState_16 : decode cX4_draftState 16 = .ok (.invokevirtual 74, 3) := by decide +kernel
theorem dX4_draftState_19 : decode cX4_draftState 19 = .ok (.iastore, 1) := by decide +kernel
theorem dX4_draftState_20 : decode cX4_draftState 20 = .ok (.iinc 2 1, 3) := by decide +kernel
theorem dX4_draftState_23 : decode cX4_draftState 23 = .ok (.goto (-21), 3) := by decide +kernel
theorem dX4_draftState_26 : decode cX4_draftState 26 = .ok (.return_, 1) := by decide +kernel
set_option maxRecDepth 20000 in
theorem ggX4_fillCells_X4_headSlot : GoodIn wsX4_fillCells wsX4_headSlot := goodIn_r _ [7, 8, 9, 10, 11, 12, 6, 13, 14, 15, 16, 17, 18, 19, 20, 21, 22, 23, 89, 90, 91, 92, 93, 94, 95, 96, 97, 98, 99] (by decide +kernel) (by decide +kernel)
set_option maxRecDepth 20000 in
theorem gX4_fillCells_X4_headSlot : GoodIn wsX4_fillCells (wsV RX4 95 RX4 yX4_headSlot wsX4_headSlot) := goodIn_app (goodIn_of _ (by decide +kernel)) ggX4_fillCells_X4_headSlot
set_option maxRecDepth 20000 in
theorem ggX4_fillCells_X5_isRange : GoodIn wsX4_fillCells wsX5_isRange := goodIn_r _ [25, 26, 14, 15, 16] (by decide +kernel) (by decide +kernel)
set_option maxRecDepth 20000 in
theorem gX4_fillCells_X5_isRange_n98 : GoodIn wsX4_fillCells (wsX5_isRange) := ggX4_fillCells_X5_isRange
set_option maxRecDepth 20000 in
theorem ggX4_fillCells_X5_isIndex : GoodIn wsX4_fillCells wsX5_isIndex := goodIn_r _ [16] (by decide +kernel) (by decide +kernel)
set_option maxRecDepth 20000 in
theorem gX4_fillCells_X5_isIndex_n52 : GoodIn wsX4_fillCells (wsX5_isIndex) := ggX4_fillCells_X5_isIndex
set_option maxRecDepth 20000 in
theorem ggX4_fillCells_X4_draftState : GoodIn wsX4_fillCells wsX4_draftState := goodIn_r _ [30, 2, 31, 32, 33, 6, 34, 35, 8, 36, 37, 38, 20, 39, 22, 40, 41, 42, 43, 44, 45, 46, 89, 90, 91, 92, 93, 94, 95, 96, 97, 98, 99, 100, 101, 102, 103] (by decide +kernel) (by decide +kernel)
set_option maxRecDepth 20000 in
theorem gX4_fillCells_X4_draftState : GoodIn wsX4_fillCells (wsV RX4 102 RX4 yX4_draftState wsX4_draftState) := goodIn_app (goodIn_of _ (by decide +kernel)) ggX4_fillCells_X4_draftState
set_option maxRecDepth 20000 in
theorem ggX4_fillCells_X4_addDraft : GoodIn wsX4_fillCells wsX4_addDraft := goodIn_r _ [50, 8, 51, 52, 35, 2, 53, 54, 55, 9, 36, 37, 38, 20, 39, 22, 40, 56, 57, 58, 44, 59, 60, 46, 61, 62, 63, 64, 65, 66, 67, 68, 69, 70, 71, 72, 73, 74, 75, 76, 77, 78, 14, 15, 16, 79, 80, 81, 82, 23, 83, 84, 85, 86, 87, 88, 89, 90, 91, 92, 93, 94, 95, 96, 97, 98, 99, 100, 101, 102, 103] (by decide +kernel) (by decide +kernel)
set_option maxRecDepth 20000 in
theorem gX4_fillCells_X4_addDraft : GoodIn wsX4_fillCells (wsV RX4 106 RX4 yX4_addDraft wsX4_addDraft) := goodIn_app (goodIn_of _ (by decide +kernel)) ggX4_fillCells_X4_addDraft
theorem dX4_fillCells_0 : decode cX4_fillCells 0 = .ok (.aload_n 0, 1) := by decide +kernel
theorem dX4_fillCells_1 : decode cX4_fillCells 1 = .ok (.iload_n 1, 1) := by decide +kernel
theorem dX4_fillCells_2 : decode cX4_fillCells 2 = .ok (.invokevirtual 95, 3) := by decide +kernel
theorem dX4_fillCells_5 : decode cX4_fillCells 5 = .ok (.istore 5, 2) := by decide +kernel
theorem dX4_fillCells_7 : decode cX4_fillCells 7 = .ok (.iload 5, 2) := by decide +kernel
theorem dX4_fillCells_9 : decode cX4_fillCells 9 = .ok (.ifCond .lt 22, 3) := by decide +kernel
theorem dX4_fillCells_12 : decode cX4_fillCells 12 = .ok (.iload_n 2, 1) := by decide +kernel
theorem dX4_fillCells_13 : decode cX4_fillCells 13 = .ok (.iload_n 3, 1) := by decide +kernel
theorem dX4_fillCells_14 : decode cX4_fillCells 14 = .ok (.invokestatic 98, 3) := by decide +kernel
theorem dX4_fillCells_17 : decode cX4_fillCells 17 = .ok (.ifCond .eq 14, 3) := by decide +kernel
theorem dX4_fillCells_20 : decode cX4_fillCells 20 = .ok (.iload 4, 2) := by decide +kernel
