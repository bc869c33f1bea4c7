theorem dX0_init_0 : decode cX0_init 0 = .ok (.aload_n 0, 1) := by decide +kernel
theorem dX0_init_1 : decode cX0_init 1 = .ok (.invokespecial 3, 3) := by decide +kernel
theorem dX0_init_4 : decode cX0_init 4 = .ok (.aload_n 0, 1) := by decide +kernel
theorem dX0_init_5 : decode cX0_init 5 = .ok (.sipush 320, 3) := by decide +kernel
theorem dX0_init_8 : decode cX0_init 8 = .ok (.newarray .int, 2) := by decide +kernel
theorem dX0_init_10 : decode cX0_init 10 = .ok (.putfield 9, 3) := by decide +kernel
theorem dX0_init_13 : decode cX0_init 13 = .ok (.aload_n 0, 1) := by decide +kernel
theorem dX0_init_14 : decode cX0_init 14 = .ok (.bipush 40, 2) := by decide +kernel
theorem dX0_init_16 : decode cX0_init 16 = .ok (.newarray .int, 2) := by decide +kernel
theorem dX0_init_18 : decode cX0_init 18 = .ok (.putfield 15, 3) := by decide +kernel
theorem dX0_init_21 : decode cX0_init 21 = .ok (.aload_n 0, 1) := by decide +kernel
theorem dX0_init_22 : decode cX0_init 22 = .ok (.iconst 1, 1) := by decide +kernel
theorem dX0_init_23 : decode cX0_init 23 = .ok (.putfield 18, 3) := by decide +kernel
theorem dX0_init_26 : decode cX0_init 26 = .ok (.aload_n 0, 1) := by decide +kernel
theorem dX0_init_27 : decode cX0_init 27 = .ok (.iconst 0, 1) := by decide +kernel
theorem dX0_init_28 : decode cX0_init 28 = .ok (.putfield 22, 3) := by decide +kernel
theorem dX0_init_31 : decode cX0_init 31 = .ok (.aload_n 0, 1) := by decide +kernel
theorem dX0_init_32 : decode cX0_init 32 = .ok (.getfield 15, 3) := by decide +kernel
theorem dX0_init_35 : decode cX0_init 35 = .ok (.iconst 0, 1) := by decide +kernel
theorem dX0_init_36 : decode cX0_init 36 = .ok (.bipush 6, 2) := by decide +kernel
theorem dX0_init_38 : decode cX0_init 38 = .ok (.iastore, 1) := by decide +kernel
theorem dX0_init_39 : decode cX0_init 39 = .ok (.return_, 1) := by decide +kernel
theorem dX0_becomeLike_0 : decode cX0_becomeLike 0 = .ok (.aload_n 1, 1) := by decide +kernel
theorem dX0_becomeLike_1 : decode cX0_becomeLike 1 = .ok (.getfield 9, 3) := by decide +kernel
theorem dX0_becomeLike_4 : decode cX0_becomeLike 4 = .ok (.iconst 0, 1) := by decide +kernel
theorem dX0_becomeLike_5 : decode cX0_becomeLike 5 = .ok (.aload_n 0, 1) := by decide +kernel
theorem dX0_becomeLike_6 : decode cX0_becomeLike 6 = .ok (.getfield 9, 3) := by decide +kernel
theorem dX0_becomeLike_9 : decode cX0_becomeLike 9 = .ok (.iconst 0, 1) := by decide +kernel
theorem dX0_becomeLike_10 : decode cX0_becomeLike 10 = .ok (.aload_n 0, 1) := by decide +kernel
theorem dX0_becomeLike_11 : decode cX0_becomeLike 11 = .ok (.getfield 9, 3) := by decide +kernel
theorem dX0_becomeLike_14 : decode cX0_becomeLike 14 = .ok (.arraylength, 1) := by decide +kernel
theorem dX0_becomeLike_15 : decode cX0_becomeLike 15 = .ok (.invokestatic 25, 3) := by decide +kernel
theorem dX0_becomeLike_18 : decode cX0_becomeLike 18 = .ok (.aload_n 1, 1) := by decide +kernel
theorem dX0_becomeLike_19 : decode cX0_becomeLike 19 = .ok (.getfield 15, 3) := by decide +kernel
theorem dX0_becomeLike_22 : decode cX0_becomeLike 22 = .ok (.iconst 0, 1) := by decide +kernel
theorem dX0_becomeLike_23 : decode cX0_becomeLike 23 = .ok (.aload_n 0, 1) := by decide +kernel
theorem dX0_becomeLike_24 : decode cX0_becomeLike 24 = .ok (.getfield 15, 3) := by decide +kernel
theorem dX0_becomeLike_27 : decode cX0_becomeLike 27 = .ok (.iconst 0, 1) := by decide +kernel
theorem dX0_becomeLike_28 : decode cX0_becomeLike 28 = .ok (.aload_n 0, 1) := by decide +kernel
theorem dX0_becomeLike_29 : decode cX0_becomeLike 29 = .ok (.getfield 15, 3) := by decide +kernel
theorem dX0_becomeLike_32 : decode cX0_becomeLike 32 = .ok (.arraylength, 1) := by decide +kernel
theorem dX0_becomeLike_33 : decode cX0_becomeLike 33 = .ok (.invokestatic 25, 3) := by decide +kernel
theorem dX0_becomeLike_36 : decode cX0_becomeLike 36 = .ok (.aload_n 0, 1) := by decide +kernel
theorem dX0_becomeLike_37 : decode cX0_becomeLike 37 = .ok (.aload_n 1, 1) := by decide +kernel
theorem dX0_becomeLike_38 : decode cX0_becomeLike 38 = .ok (.getfield 18, 3) := by decide +kernel
theorem dX0_becomeLike_41 : decode cX0_becomeLike 41 = .ok (.putfield 18, 3) := by decide +kernel
theorem dX0_becomeLike_44 : decode cX0_becomeLike 44 = .ok (.aload_n 0, 1) := by decide +kernel
theorem dX0_becomeLike_45 : decode cX0_becomeLike 45 = .ok (.aload_n 1, 1) := by decide +kernel
theorem dX0_becomeLike_46 : decode cX0_becomeLike 46 = .ok (.getfield 22, 3) := by decide +kernel
theorem dX0_becomeLike_49 : decode cX0_becomeLike 49 = .ok (.putfield 22, 3) := by decide +kernel
theorem dX0_becomeLike_52 : decode cX0_becomeLike 52 = .ok (.return_, 1) := by decide +kernel
set_option maxRecDepth 20000 in
theorem ggX0_usesOf_X5_isIndex : GoodIn wsX0_usesOf wsX5_isIndex := goodIn_r _ [4] (by decide +kernel) (by decide +kernel)
set_option maxRecDepth 20000 in
theorem gX0_usesOf_X5_isIndex_n31 : GoodIn wsX0_usesOf (wsX5_isIndex) := ggX0_usesOf_X5_isIndex
theorem dX0_usesOf_0 : decode cX0_usesOf 0 = .ok (.iload_n 1, 1) := by decide +kernel
theorem dX0_usesOf_1 : decode cX0_usesOf 1 = .ok (.bipush 40, 2) := by decide +kernel
theorem dX0_usesOf_3 : decode cX0_usesOf 3 = .ok (.invokestatic 31, 3) := by decide +kernel
theorem dX0_usesOf_6 : decode cX0_usesOf 6 = .ok (.ifCond .eq 12, 3) := by decide +kernel
theorem dX0_usesOf_9 : decode cX0_usesOf 9 = .ok (.aload_n 0, 1) := by decide +kernel
theorem dX0_usesOf_10 : decode cX0_usesOf 10 = .ok (.getfield 15, 3) := by decide +kernel
theorem dX0_usesOf_13 : decode cX0_usesOf 13 = .ok (.iload_n 1, 1) := by decide +kernel
theorem dX0_usesOf_14 : decode cX0_usesOf 14 = .ok (.iaload, 1) := by decide +kernel
theorem dX0_usesOf_15 : decode cX0_usesOf 15 = .ok (.goto 4, 3) := by decide +kernel
theorem dX0_usesOf_18 : decode cX0_usesOf 18 = .ok (.iconst 0, 1) := by decide +kernel
theorem dX0_usesOf_19 : decode cX0_usesOf 19 = .ok (.ireturn, 1) := by decide +kernel
set_option maxRecDepth 20000 in
theorem ggX0_addUses_X5_isIndex : GoodIn wsX0_addUses wsX5_isIndex := goodIn_r _ [4] (by decide +kernel) (by decide +kernel)
set_option maxRecDepth 20000 in
theorem gX0_addUses_X5_isIndex_n31 : GoodIn wsX0_addUses (wsX5_isIndex) := ggX0_addUses_X5_isIndex
theorem dX0_addUses_0 : decode cX0_addUses 0 = .ok (.iload_n 1, 1) := by decide +kernel
theorem dX0_addUses_1 : decode cX0_addUses 1 = .ok (.bipush 40, 2) := by decide +kernel
theorem dX0_addUses_3 : decode cX0_addUses 3 = .ok (.invokestatic 31, 3) := by decide +kernel
theorem dX0_addUses_6 : decode cX0_addUses 6 = .ok (.ifCond .eq 13, 3) := by decide +kernel
theorem dX0_addUses_9 : decode cX0_addUses 9 = .ok (.aload_n 0, 1) := by decide +kernel
theorem dX0_addUses_10 : decode cX0_addUses 10 = .ok (.getfield 15, 3) := by decide +kernel
theorem dX0_addUses_13 : decode cX0_addUses 13 = .ok (.iload_n 1, 1) := by decide +kernel
theorem dX0_addUses_14 : decode cX0_addUses 14 = .ok (.dup2, 1) := by decide +kernel
theorem dX0_addUses_15 : decode cX0_addUses 15 = .ok (.iaload, 1) := by decide +kernel
theorem dX0_addUses_16 : decode cX0_addUses 16 = .ok (.iload_n 2, 1) := by decide +kernel
theorem dX0_addUses_17 : decode cX0_addUses 17 = .ok (.iadd, 1) := by decide +kernel
theorem dX0_addUses_18 : decode cX0_addUses 18 = .ok (.iastore, 1) := by decide +kernel
theorem dX0_addUses_19 : decode cX0_addUses 19 = .ok (.return_, 1) := by decide +kernel
theorem dX0_isThere_0 : decode cX0_isThere 0 = .ok (.iload_n 1, 1) := by decide +kernel
theorem dX0_isThere_1 : decode cX0_isThere 1 = .ok (.ifCond .lt 22, 3) := by decide +kernel
theorem dX0_isThere_4 : decode cX0_isThere 4 = .ok (.iload_n 1, 1) := by decide +kernel
theorem dX0_isThere_5 : decode cX0_isThere 5 = .ok (.bipush 40, 2) := by decide +kernel
theorem dX0_isThere_7 : decode cX0_isThere 7 = .ok (.if_icmp .ge 16, 3) := by decide +kernel
theorem dX0_isThere_10 : decode cX0_isThere 10 = .ok (.aload_n 0, 1) := by decide +kernel
theorem dX0_isThere_11 : decode cX0_isThere 11 = .ok (.getfield 15, 3) := by decide +kernel
theorem dX0_isThere_14 : decode cX0_isThere 14 = .ok (.iload_n 1, 1) := by decide +kernel
theorem dX0_isThere_15 : decode cX0_isThere 15 = .ok (.iaload, 1) := by decide +kernel
theorem dX0_isThere_16 : decode cX0_isThere 16 = .ok (.ifCond .le 7, 3) := by decide +kernel
theorem dX0_isThere_19 : decode cX0_isThere 19 = .ok (.iconst 1, 1) := by decide +kernel
theorem dX0_isThere_20 : decode cX0_isThere 20 = .ok (.goto 4, 3) := by decide +kernel
theorem dX0_isThere_23 : decode cX0_isThere 23 = .ok (.iconst 0, 1) := by decide +kernel
theorem dX0_isThere_24 : decode cX0_isThere 24 = .ok (.ireturn, 1) := by decide +kernel
theorem dX0_cellOf_0 : decode cX0_cellOf 0 = .ok (.iload_n 1, 1) := by decide +kernel
theorem dX0_cellOf_1 : decode cX0_cellOf 1 = .ok (.bipush 8, 2) := by decide +kernel
theorem dX0_cellOf_3 : decode cX0_cellOf 3 = .ok (.imul, 1) := by decide +kernel
theorem dX0_cellOf_4 : decode cX0_cellOf 4 = .ok (.iload_n 2, 1) := by decide +kernel
theorem dX0_cellOf_5 : decode cX0_cellOf 5 = .ok (.iadd, 1) := by decide +kernel
theorem dX0_cellOf_6 : decode cX0_cellOf 6 = .ok (.istore_n 3, 1) := by decide +kernel
theorem dX0_cellOf_7 : decode cX0_cellOf 7 = .ok (.iload_n 3, 1) := by decide +kernel
theorem dX0_cellOf_8 : decode cX0_cellOf 8 = .ok (.ifCond .lt 21, 3) := by decide +kernel
theorem dX0_cellOf_11 : decode cX0_cellOf 11 = .ok (.iload_n 3, 1) := by decide +kernel
theorem dX0_cellOf_12 : decode cX0_cellOf 12 = .ok (.aload_n 0, 1) := by decide +kernel
theorem dX0_cellOf_13 : decode cX0_cellOf 13 = .ok (.getfield 9, 3) := by decide +kernel
theorem dX0_cellOf_16 : decode cX0_cellOf 16 = .ok (.arraylength, 1) := by decide +kernel
theorem dX0_cellOf_17 : decode cX0_cellOf 17 = .ok (.if_icmp .ge 12, 3) := by decide +kernel
theorem dX0_cellOf_20 : decode cX0_cellOf 20 = .ok (.aload_n 0, 1) := by decide +kernel
theorem dX0_cellOf_21 : decode cX0_cellOf 21 = .ok (.getfield 9, 3) := by decide +kernel
theorem dX0_cellOf_24 : decode cX0_cellOf 24 = .ok (.iload_n 3, 1) := by decide +kernel
theorem dX0_cellOf_25 : decode cX0_cellOf 25 = .ok (.iaload, 1) := by decide +kernel
theorem dX0_cellOf_26 : decode cX0_cellOf 26 = .ok (.goto 4, 3) := by decide +kernel
theorem dX0_cellOf_29 : decode cX0_cellOf 29 = .ok (.iconst 0, 1) := by decide +kernel
theorem dX0_cellOf_30 : decode cX0_cellOf 30 = .ok (.ireturn, 1) := by decide +kernel
set_option maxRecDepth 20000 in
theorem ggX0_there_X0_isThere : GoodIn wsX0_there wsX0_isThere := goodIn_r _ [5, 6, 7, 8, 9, 10] (by decide +kernel) (by decide +kernel)
set_option maxRecDepth 20000 in
theorem gX0_there_X0_isThere : GoodIn wsX0_there (wsV RX0 35 RX0 yX0_isThere wsX0_isThere) := goodIn_app (goodIn_of _ (by decide +kernel)) ggX0_there_X0_isThere
theorem dX0_there_0 : decode cX0_there 0 = .ok (.iconst 0, 1) := by decide +kernel
theorem dX0_there_1 : decode cX0_there 1 = .ok (.istore_n 1, 1) := by decide +kernel
theorem dX0_there_2 : decode cX0_there 2 = .ok (.iconst 0, 1) := by decide +kernel
theorem dX0_there_3 : decode cX0_there 3 = .ok (.istore_n 2, 1) := by decide +kernel
theorem dX0_there_4 : decode cX0_there 4 = .ok (.iload_n 2, 1) := by decide +kernel
theorem dX0_there_5 : decode cX0_there 5 = .ok (.bipush 40, 2) := by decide +kernel
theorem dX0_there_7 : decode cX0_there 7 = .ok (.if_icmp .ge 25, 3) := by decide +kernel
theorem dX0_there_10 : decode cX0_there 10 = .ok (.iload_n 1, 1) := by decide +kernel
theorem dX0_there_11 : decode cX0_there 11 = .ok (.aload_n 0, 1) := by decide +kernel
theorem dX0_there_12 : decode cX0_there 12 = .ok (.iload_n 2, 1) := by decide +kernel
theorem dX0_there_13 : decode cX0_there 13 = .ok (.invokevirtual 35, 3) := by decide +kernel
theorem dX0_there_16 : decode cX0_there 16 = .ok (.ifCond .eq 7, 3) := by decide +kernel
theorem dX0_there_19 : decode cX0_there 19 = .ok (.iconst 1, 1) := by decide +kernel
theorem dX0_there_20 : decode cX0_there 20 = .ok (.goto 4, 3) := by decide +kernel
theorem dX0_there_23 : decode cX0_there 23 = .ok (.iconst 0, 1) := by decide +kernel
theorem dX0_there_24 : decode cX0_there 24 = .ok (.iadd, 1) := by decide +kernel
theorem dX0_there_25 : decode cX0_there 25 = .ok (.istore_n 1, 1) := by decide +kernel
theorem dX0_there_26 : decode cX0_there 26 = .ok (.iinc 2 1, 3) := by decide +kernel
theorem dX0_there_29 : decode cX0_there 29 = .ok (.goto (-25), 3) := by decide +kernel
theorem dX0_there_32 : decode cX0_there 32 = .ok (.iload_n 1, 1) := by decide +kernel
theorem dX0_there_33 : decode cX0_there 33 = .ok (.ireturn, 1) := by decide +kernel
theorem dX0_holds_0 : decode cX0_holds 0 = .ok (.iload_n 1, 1) := by decide +kernel
theorem dX0_holds_1 : decode cX0_holds 1 = .ok (.ifCond .lt 18, 3) := by decide +kernel
theorem dX0_holds_4 : decode cX0_holds 4 = .ok (.iload_n 1, 1) := by decide +kernel
theorem dX0_holds_5 : decode cX0_holds 5 = .ok (.bipush 40, 2) := by decide +kernel
theorem dX0_holds_7 : decode cX0_holds 7 = .ok (.if_icmp .ge 12, 3) := by decide +kernel
theorem dX0_holds_10 : decode cX0_holds 10 = .ok (.aload_n 0, 1) := by decide +kernel
theorem dX0_holds_11 : decode cX0_holds 11 = .ok (.getfield 15, 3) := by decide +kernel
theorem dX0_holds_14 : decode cX0_holds 14 = .ok (.iload_n 1, 1) := by decide +kernel
theorem dX0_holds_15 : decode cX0_holds 15 = .ok (.iaload, 1) := by decide +kernel
theorem dX0_holds_16 : decode cX0_holds 16 = .ok (.ifCond .ne 5, 3) := by decide +kernel
theorem dX0_holds_19 : decode cX0_holds 19 = .ok (.iconst 0, 1) := by decide +kernel
theorem dX0_holds_20 : decode cX0_holds 20 = .ok (.ireturn, 1) := by decide +kernel
theorem dX0_holds_21 : decode cX0_holds 21 = .ok (.iload_n 3, 1) := by decide +kernel
theorem dX0_holds_22 : decode cX0_holds 22 = .ok (.ifCond .lt 12, 3) := by decide +kernel
theorem dX0_holds_25 : decode cX0_holds 25 = .ok (.iload_n 3, 1) := by decide +kernel
theorem dX0_holds_26 : decode cX0_holds 26 = .ok (.aload_n 2, 1) := by decide +kernel
theorem dX0_holds_27 : decode cX0_holds 27 = .ok (.arraylength, 1) := by decide +kernel
theorem dX0_holds_28 : decode cX0_holds 28 = .ok (.bipush 8, 2) := by decide +kernel
theorem dX0_holds_30 : decode cX0_holds 30 = .ok (.isub, 1) := by decide +kernel
theorem dX0_holds_31 : decode cX0_holds 31 = .ok (.if_icmp .le 5, 3) := by decide +kernel
theorem dX0_holds_34 : decode cX0_holds 34 = .ok (.iconst 0, 1) := by decide +kernel
theorem dX0_holds_35 : decode cX0_holds 35 = .ok (.ireturn, 1) := by decide +kernel
theorem dX0_holds_36 : decode cX0_holds 36 = .ok (.iconst 0, 1) := by decide +kernel
theorem dX0_holds_37 : decode cX0_holds 37 = .ok (.istore 4, 2) := by decide +kernel
theorem dX0_holds_39 : decode cX0_holds 39 = .ok (.iload 4, 2) := by decide +kernel
theorem dX0_holds_41 : decode cX0_holds 41 = .ok (.bipush 8, 2) := by decide +kernel
theorem dX0_holds_43 : decode cX0_holds 43 = .ok (.if_icmp .ge 32, 3) := by decide +kernel
theorem dX0_holds_46 : decode cX0_holds 46 = .ok (.aload_n 0, 1) := by decide +kernel
theorem dX0_holds_47 : decode cX0_holds 47 = .ok (.getfield 9, 3) := by decide +kernel
theorem dX0_holds_50 : decode cX0_holds 50 = .ok (.iload_n 1, 1) := by decide +kernel
theorem dX0_holds_51 : decode cX0_holds 51 = .ok (.bipush 8, 2) := by decide +kernel
theorem dX0_holds_53 : decode cX0_holds 53 = .ok (.imul, 1) := by decide +kernel
theorem dX0_holds_54 : decode cX0_holds 54 = .ok (.iload 4, 2) := by decide +kernel
theorem dX0_holds_56 : decode cX0_holds 56 = .ok (.iadd, 1) := by decide +kernel
theorem dX0_holds_57 : decode cX0_holds 57 = .ok (.iaload, 1) := by decide +kernel
theorem dX0_holds_58 : decode cX0_holds 58 = .ok (.aload_n 2, 1) := by decide +kernel
theorem dX0_holds_59 : decode cX0_holds 59 = .ok (.iload_n 3, 1) := by decide +kernel
theorem dX0_holds_60 : decode cX0_holds 60 = .ok (.iload 4, 2) := by decide +kernel
theorem dX0_holds_62 : decode cX0_holds 62 = .ok (.iadd, 1) := by decide +kernel
theorem dX0_holds_63 : decode cX0_holds 63 = .ok (.iaload, 1) := by decide +kernel
theorem dX0_holds_64 : decode cX0_holds 64 = .ok (.if_icmp .eq 5, 3) := by decide +kernel
theorem dX0_holds_67 : decode cX0_holds 67 = .ok (.iconst 0, 1) := by decide +kernel
theorem dX0_holds_68 : decode cX0_holds 68 = .ok (.ireturn, 1) := by decide +kernel
theorem dX0_holds_69 : decode cX0_holds 69 = .ok (.iinc 4 1, 3) := by decide +kernel
theorem dX0_holds_72 : decode cX0_holds 72 = .ok (.goto (-33), 3) := by decide +kernel
theorem dX0_holds_75 : decode cX0_holds 75 = .ok (.iconst 1, 1) := by decide +kernel
theorem dX0_holds_76 : decode cX0_holds 76 = .ok (.ireturn, 1) := by decide +kernel
set_option maxRecDepth 20000 in
theorem ggX0_lowestHolding_X0_holds : GoodIn wsX0_lowestHolding wsX0_holds := goodIn_r _ [5, 6, 7, 8, 9, 10, 11] (by decide +kernel) (by decide +kernel)
set_option maxRecDepth 20000 in
theorem gX0_lowestHolding_X0_holds : GoodIn wsX0_lowestHolding (wsV RX0 39 RX0 yX0_holds wsX0_holds) := goodIn_app (goodIn_of _ (by decide +kernel)) ggX0_lowestHolding_X0_holds
theorem dX0_lowestHolding_0 : decode cX0_lowestHolding 0 = .ok (.iconst 0, 1) := by decide +kernel
theorem dX0_lowestHolding_1 : decode cX0_lowestHolding 1 = .ok (.istore_n 3, 1) := by decide +kernel
theorem dX0_lowestHolding_2 : decode cX0_lowestHolding 2 = .ok (.iload_n 3, 1) := by decide +kernel
theorem dX0_lowestHolding_3 : decode cX0_lowestHolding 3 = .ok (.bipush 40, 2) := by decide +kernel
theorem dX0_lowestHolding_5 : decode cX0_lowestHolding 5 = .ok (.if_icmp .ge 21, 3) := by decide +kernel
theorem dX0_lowestHolding_8 : decode cX0_lowestHolding 8 = .ok (.aload_n 0, 1) := by decide +kernel
theorem dX0_lowestHolding_9 : decode cX0_lowestHolding 9 = .ok (.iload_n 3, 1) := by decide +kernel
theorem dX0_lowestHolding_10 : decode cX0_lowestHolding 10 = .ok (.aload_n 1, 1) := by decide +kernel
theorem dX0_lowestHolding_11 : decode cX0_lowestHolding 11 = .ok (.iload_n 2, 1) := by decide +kernel
theorem dX0_lowestHolding_12 : decode cX0_lowestHolding 12 = .ok (.invokevirtual 39, 3) := by decide +kernel
theorem dX0_lowestHolding_15 : decode cX0_lowestHolding 15 = .ok (.ifCond .eq 5, 3) := by decide +kernel
theorem dX0_lowestHolding_18 : decode cX0_lowestHolding 18 = .ok (.iload_n 3, 1) := by decide +kernel
theorem dX0_lowestHolding_19 : decode cX0_lowestHolding 19 = .ok (.ireturn, 1) := by decide +kernel
theorem dX0_lowestHolding_20 : decode cX0_lowestHolding 20 = .ok (.iinc 3 1, 3) := by decide +kernel
theorem dX0_lowestHolding_23 : decode cX0_lowestHolding 23 = .ok (.goto (-21), 3) := by decide +kernel
theorem dX0_lowestHolding_26 : decode cX0_lowestHolding 26 = .ok (.iconst (-1), 1) := by decide +kernel
theorem dX0_lowestHolding_27 : decode cX0_lowestHolding 27 = .ok (.ireturn, 1) := by decide +kernel
set_option maxRecDepth 20000 in
theorem ggX0_lowestOtherLike_X0_holds : GoodIn wsX0_lowestOtherLike wsX0_holds := goodIn_r _ [6, 7, 1, 8, 9, 10, 11] (by decide +kernel) (by decide +kernel)
set_option maxRecDepth 20000 in
theorem gX0_lowestOtherLike_X0_holds : GoodIn wsX0_lowestOtherLike (wsV RX0 39 RX0 yX0_holds wsX0_holds) := goodIn_app (goodIn_of _ (by decide +kernel)) ggX0_lowestOtherLike_X0_holds
theorem dX0_lowestOtherLike_0 : decode cX0_lowestOtherLike 0 = .ok (.iconst 0, 1) := by decide +kernel
theorem dX0_lowestOtherLike_1 : decode cX0_lowestOtherLike 1 = .ok (.istore_n 2, 1) := by decide +kernel
theorem dX0_lowestOtherLike_2 : decode cX0_lowestOtherLike 2 = .ok (.iload_n 2, 1) := by decide +kernel
theorem dX0_lowestOtherLike_3 : decode cX0_lowestOtherLike 3 = .ok (.bipush 40, 2) := by decide +kernel
theorem dX0_lowestOtherLike_5 : decode cX0_lowestOtherLike 5 = .ok (.if_icmp .ge 32, 3) := by decide +kernel
theorem dX0_lowestOtherLike_8 : decode cX0_lowestOtherLike 8 = .ok (.iload_n 2, 1) := by decide +kernel
theorem dX0_lowestOtherLike_9 : decode cX0_lowestOtherLike 9 = .ok (.iload_n 1, 1) := by decide +kernel
theorem dX0_lowestOtherLike_10 : decode cX0_lowestOtherLike 10 = .ok (.if_icmp .eq 21, 3) := by decide +kernel
theorem dX0_lowestOtherLike_13 : decode cX0_lowestOtherLike 13 = .ok (.aload_n 0, 1) := by decide +kernel
theorem dX0_lowestOtherLike_14 : decode cX0_lowestOtherLike 14 = .ok (.iload_n 2, 1) := by decide +kernel
theorem dX0_lowestOtherLike_15 : decode cX0_lowestOtherLike 15 = .ok (.aload_n 0, 1) := by decide +kernel
theorem dX0_lowestOtherLike_16 : decode cX0_lowestOtherLike 16 = .ok (.getfield 9, 3) := by decide +kernel
theorem dX0_lowestOtherLike_19 : decode cX0_lowestOtherLike 19 = .ok (.iload_n 1, 1) := by decide +kernel
theorem dX0_lowestOtherLike_20 : decode cX0_lowestOtherLike 20 = .ok (.bipush 8, 2) := by decide +kernel
theorem dX0_lowestOtherLike_22 : decode cX0_lowestOtherLike 22 = .ok (.imul, 1) := by decide +kernel
theorem dX0_lowestOtherLike_23 : decode cX0_lowestOtherLike 23 = .ok (.invokevirtual 39, 3) := by decide +kernel
theorem dX0_lowestOtherLike_26 : decode cX0_lowestOtherLike 26 = .ok (.ifCond .eq 5, 3) := by decide +kernel
theorem dX0_lowestOtherLike_29 : decode cX0_lowestOtherLike 29 = .ok (.iload_n 2, 1) := by decide +kernel
theorem dX0_lowestOtherLike_30 : decode cX0_lowestOtherLike 30 = .ok (.ireturn, 1) := by decide +kernel
theorem dX0_lowestOtherLike_31 : decode cX0_lowestOtherLike 31 = .ok (.iinc 2 1, 3) := by decide +kernel
theorem dX0_lowestOtherLike_34 : decode cX0_lowestOtherLike 34 = .ok (.goto (-32), 3) := by decide +kernel
theorem dX0_lowestOtherLike_37 : decode cX0_lowestOtherLike 37 = .ok (.iconst (-1), 1) := by decide +kernel
theorem dX0_lowestOtherLike_38 : decode cX0_lowestOtherLike 38 = .ok (.ireturn, 1) := by decide +kernel
theorem dX0_make_0 : decode cX0_make 0 = .ok (.iload_n 2, 1) := by decide +kernel
theorem dX0_make_1 : decode cX0_make 1 = .ok (.ifCond .lt 12, 3) := by decide +kernel
theorem dX0_make_4 : decode cX0_make 4 = .ok (.iload_n 2, 1) := by decide +kernel
theorem dX0_make_5 : decode cX0_make 5 = .ok (.aload_n 1, 1) := by decide +kernel
theorem dX0_make_6 : decode cX0_make 6 = .ok (.arraylength, 1) := by decide +kernel
theorem dX0_make_7 : decode cX0_make 7 = .ok (.bipush 8, 2) := by decide +kernel
theorem dX0_make_9 : decode cX0_make 9 = .ok (.isub, 1) := by decide +kernel
theorem dX0_make_10 : decode cX0_make 10 = .ok (.if_icmp .le 5, 3) := by decide +kernel
theorem dX0_make_13 : decode cX0_make 13 = .ok (.iconst (-1), 1) := by decide +kernel
theorem dX0_make_14 : decode cX0_make 14 = .ok (.ireturn, 1) := by decide +kernel
theorem dX0_make_15 : decode cX0_make 15 = .ok (.iconst 0, 1) := by decide +kernel
theorem dX0_make_16 : decode cX0_make 16 = .ok (.istore_n 3, 1) := by decide +kernel
theorem dX0_make_17 : decode cX0_make 17 = .ok (.iload_n 3, 1) := by decide +kernel
theorem dX0_make_18 : decode cX0_make 18 = .ok (.bipush 40, 2) := by decide +kernel
theorem dX0_make_20 : decode cX0_make 20 = .ok (.if_icmp .ge 45, 3) := by decide +kernel
theorem dX0_make_23 : decode cX0_make 23 = .ok (.aload_n 0, 1) := by decide +kernel
theorem dX0_make_24 : decode cX0_make 24 = .ok (.getfield 15, 3) := by decide +kernel
theorem dX0_make_27 : decode cX0_make 27 = .ok (.iload_n 3, 1) := by decide +kernel
theorem dX0_make_28 : decode cX0_make 28 = .ok (.iaload, 1) := by decide +kernel
theorem dX0_make_29 : decode cX0_make 29 = .ok (.ifCond .ne 30, 3) := by decide +kernel
theorem dX0_make_32 : decode cX0_make 32 = .ok (.aload_n 1, 1) := by decide +kernel
theorem dX0_make_33 : decode cX0_make 33 = .ok (.iload_n 2, 1) := by decide +kernel
theorem dX0_make_34 : decode cX0_make 34 = .ok (.aload_n 0, 1) := by decide +kernel
theorem dX0_make_35 : decode cX0_make 35 = .ok (.getfield 9, 3) := by decide +kernel
theorem dX0_make_38 : decode cX0_make 38 = .ok (.iload_n 3, 1) := by decide +kernel
theorem dX0_make_39 : decode cX0_make 39 = .ok (.bipush 8, 2) := by decide +kernel
theorem dX0_make_41 : decode cX0_make 41 = .ok (.imul, 1) := by decide +kernel
theorem dX0_make_42 : decode cX0_make 42 = .ok (.bipush 8, 2) := by decide +kernel
theorem dX0_make_44 : decode cX0_make 44 = .ok (.invokestatic 25, 3) := by decide +kernel
theorem dX0_make_47 : decode cX0_make 47 = .ok (.aload_n 0, 1) := by decide +kernel
theorem dX0_make_48 : decode cX0_make 48 = .ok (.dup, 1) := by decide +kernel
theorem dX0_make_49 : decode cX0_make 49 = .ok (.getfield 18, 3) := by decide +kernel
theorem dX0_make_52 : decode cX0_make 52 = .ok (.iconst 1, 1) := by decide +kernel
theorem dX0_make_53 : decode cX0_make 53 = .ok (.iadd, 1) := by decide +kernel
theorem dX0_make_54 : decode cX0_make 54 = .ok (.putfield 18, 3) := by decide +kernel
theorem dX0_make_57 : decode cX0_make 57 = .ok (.iload_n 3, 1) := by decide +kernel
theorem dX0_make_58 : decode cX0_make 58 = .ok (.ireturn, 1) := by decide +kernel
theorem dX0_make_59 : decode cX0_make 59 = .ok (.iinc 3 1, 3) := by decide +kernel
theorem dX0_make_62 : decode cX0_make 62 = .ok (.goto (-45), 3) := by decide +kernel
theorem dX0_make_65 : decode cX0_make 65 = .ok (.iconst (-1), 1) := by decide +kernel
theorem dX0_make_66 : decode cX0_make 66 = .ok (.ireturn, 1) := by decide +kernel
set_option maxRecDepth 20000 in
theorem ggX0_sumOf_X0_cellOf : GoodIn wsX0_sumOf wsX0_cellOf := goodIn_r _ [5, 6, 7, 8, 9, 10] (by decide +kernel) (by decide +kernel)
set_option maxRecDepth 20000 in
theorem gX0_sumOf_X0_cellOf : GoodIn wsX0_sumOf (wsV RX0 43 RX0 yX0_cellOf wsX0_cellOf) := goodIn_app (goodIn_of _ (by decide +kernel)) ggX0_sumOf_X0_cellOf
theorem dX0_sumOf_0 : decode cX0_sumOf 0 = .ok (.iconst 0, 1) := by decide +kernel
theorem dX0_sumOf_1 : decode cX0_sumOf 1 = .ok (.istore_n 2, 1) := by decide +kernel
theorem dX0_sumOf_2 : decode cX0_sumOf 2 = .ok (.iconst 0, 1) := by decide +kernel
theorem dX0_sumOf_3 : decode cX0_sumOf 3 = .ok (.istore_n 3, 1) := by decide +kernel
theorem dX0_sumOf_4 : decode cX0_sumOf 4 = .ok (.iload_n 3, 1) := by decide +kernel
theorem dX0_sumOf_5 : decode cX0_sumOf 5 = .ok (.bipush 8, 2) := by decide +kernel
theorem dX0_sumOf_7 : decode cX0_sumOf 7 = .ok (.if_icmp .ge 18, 3) := by decide +kernel
theorem dX0_sumOf_10 : decode cX0_sumOf 10 = .ok (.iload_n 2, 1) := by decide +kernel
theorem dX0_sumOf_11 : decode cX0_sumOf 11 = .ok (.aload_n 0, 1) := by decide +kernel
theorem dX0_sumOf_12 : decode cX0_sumOf 12 = .ok (.iload_n 1, 1) := by decide +kernel
theorem dX0_sumOf_13 : decode cX0_sumOf 13 = .ok (.iload_n 3, 1) := by decide +kernel
theorem dX0_sumOf_14 : decode cX0_sumOf 14 = .ok (.invokevirtual 43, 3) := by decide +kernel
theorem dX0_sumOf_17 : decode cX0_sumOf 17 = .ok (.iadd, 1) := by decide +kernel
theorem dX0_sumOf_18 : decode cX0_sumOf 18 = .ok (.istore_n 2, 1) := by decide +kernel
theorem dX0_sumOf_19 : decode cX0_sumOf 19 = .ok (.iinc 3 1, 3) := by decide +kernel
theorem dX0_sumOf_22 : decode cX0_sumOf 22 = .ok (.goto (-18), 3) := by decide +kernel
theorem dX0_sumOf_25 : decode cX0_sumOf 25 = .ok (.iload_n 2, 1) := by decide +kernel
theorem dX0_sumOf_26 : decode cX0_sumOf 26 = .ok (.ireturn, 1) := by decide +kernel
set_option maxRecDepth 20000 in
theorem ggX0_nonZeroCells_X0_cellOf : GoodIn wsX0_nonZeroCells wsX0_cellOf := goodIn_r _ [5, 6, 7, 8, 9, 10] (by decide +kernel) (by decide +kernel)
set_option maxRecDepth 20000 in
theorem gX0_nonZeroCells_X0_cellOf : GoodIn wsX0_nonZeroCells (wsV RX0 43 RX0 yX0_cellOf wsX0_cellOf) := goodIn_app (goodIn_of _ (by decide +kernel)) ggX0_nonZeroCells_X0_cellOf
theorem dX0_nonZeroCells_0 : decode cX0_nonZeroCells 0 = .ok (.iconst 0, 1) := by decide +kernel
theorem dX0_nonZeroCells_1 : decode cX0_nonZeroCells 1 = .ok (.istore_n 2, 1) := by decide +kernel
theorem dX0_nonZeroCells_2 : decode cX0_nonZeroCells 2 = .ok (.iconst 0, 1) := by decide +kernel
theorem dX0_nonZeroCells_3 : decode cX0_nonZeroCells 3 = .ok (.istore_n 3, 1) := by decide +kernel
theorem dX0_nonZeroCells_4 : decode cX0_nonZeroCells 4 = .ok (.iload_n 3, 1) := by decide +kernel
theorem dX0_nonZeroCells_5 : decode cX0_nonZeroCells 5 = .ok (.bipush 8, 2) := by decide +kernel
theorem dX0_nonZeroCells_7 : decode cX0_nonZeroCells 7 = .ok (.if_icmp .ge 24, 3) := by decide +kernel
theorem dX0_nonZeroCells_10 : decode cX0_nonZeroCells 10 = .ok (.aload_n 0, 1) := by decide +kernel
theorem dX0_nonZeroCells_11 : decode cX0_nonZeroCells 11 = .ok (.iload_n 1, 1) := by decide +kernel
theorem dX0_nonZeroCells_12 : decode cX0_nonZeroCells 12 = .ok (.iload_n 3, 1) := by decide +kernel
theorem dX0_nonZeroCells_13 : decode cX0_nonZeroCells 13 = .ok (.invokevirtual 43, 3) := by decide +kernel
theorem dX0_nonZeroCells_16 : decode cX0_nonZeroCells 16 = .ok (.ifCond .eq 9, 3) := by decide +kernel
theorem dX0_nonZeroCells_19 : decode cX0_nonZeroCells 19 = .ok (.iload_n 2, 1) := by decide +kernel
theorem dX0_nonZeroCells_20 : decode cX0_nonZeroCells 20 = .ok (.iconst 1, 1) := by decide +kernel
theorem dX0_nonZeroCells_21 : decode cX0_nonZeroCells 21 = .ok (.iload_n 3, 1) := by decide +kernel
theorem dX0_nonZeroCells_22 : decode cX0_nonZeroCells 22 = .ok (.ishl, 1) := by decide +kernel
theorem dX0_nonZeroCells_23 : decode cX0_nonZeroCells 23 = .ok (.ior, 1) := by decide +kernel
theorem dX0_nonZeroCells_24 : decode cX0_nonZeroCells 24 = .ok (.istore_n 2, 1) := by decide +kernel
theorem dX0_nonZeroCells_25 : decode cX0_nonZeroCells 25 = .ok (.iinc 3 1, 3) := by decide +kernel
theorem dX0_nonZeroCells_28 : decode cX0_nonZeroCells 28 = .ok (.goto (-24), 3) := by decide +kernel
theorem dX0_nonZeroCells_31 : decode cX0_nonZeroCells 31 = .ok (.iload_n 2, 1) := by decide +kernel
theorem dX0_nonZeroCells_32 : decode cX0_nonZeroCells 32 = .ok (.ireturn, 1) := by decide +kernel
set_option maxRecDepth 20000 in
theorem ggX0_doubles_X0_isThere : GoodIn wsX0_doubles wsX0_isThere := goodIn_r _ [6, 7, 16, 17, 18, 19] (by decide +kernel) (by decide +kernel)
set_option maxRecDepth 20000 in
theorem gX0_doubles_X0_isThere : GoodIn wsX0_doubles (wsV RX0 35 RX0 yX0_isThere wsX0_isThere) := goodIn_app (goodIn_of _ (by decide +kernel)) ggX0_doubles_X0_isThere
set_option maxRecDepth 20000 in
theorem ggX0_doubles_X0_lowestHolding : GoodIn wsX0_doubles wsX0_lowestHolding := goodIn_r _ [11, 12, 13, 14, 5, 15, 7, 1, 16, 17, 18, 19] (by decide +kernel) (by decide +kernel)
set_option maxRecDepth 20000 in
theorem gX0_doubles_X0_lowestHolding : GoodIn wsX0_doubles (wsV RX0 47 RX0 yX0_lowestHolding wsX0_lowestHolding) := goodIn_app (goodIn_of _ (by decide +kernel)) ggX0_doubles_X0_lowestHolding
theorem dX0_doubles_0 : decode cX0_doubles 0 = .ok (.iconst 0, 1) := by decide +kernel
theorem dX0_doubles_1 : decode cX0_doubles 1 = .ok (.istore_n 1, 1) := by decide +kernel
theorem dX0_doubles_2 : decode cX0_doubles 2 = .ok (.iconst 0, 1) := by decide +kernel
theorem dX0_doubles_3 : decode cX0_doubles 3 = .ok (.istore_n 2, 1) := by decide +kernel
theorem dX0_doubles_4 : decode cX0_doubles 4 = .ok (.iload_n 2, 1) := by decide +kernel
theorem dX0_doubles_5 : decode cX0_doubles 5 = .ok (.bipush 40, 2) := by decide +kernel
theorem dX0_doubles_7 : decode cX0_doubles 7 = .ok (.if_icmp .ge 36, 3) := by decide +kernel
theorem dX0_doubles_10 : decode cX0_doubles 10 = .ok (.aload_n 0, 1) := by decide +kernel
theorem dX0_doubles_11 : decode cX0_doubles 11 = .ok (.iload_n 2, 1) := by decide +kernel
theorem dX0_doubles_12 : decode cX0_doubles 12 = .ok (.invokevirtual 35, 3) := by decide +kernel
theorem dX0_doubles_15 : decode cX0_doubles 15 = .ok (.ifCond .eq 22, 3) := by decide +kernel
theorem dX0_doubles_18 : decode cX0_doubles 18 = .ok (.aload_n 0, 1) := by decide +kernel
theorem dX0_doubles_19 : decode cX0_doubles 19 = .ok (.aload_n 0, 1) := by decide +kernel
theorem dX0_doubles_20 : decode cX0_doubles 20 = .ok (.getfield 9, 3) := by decide +kernel
theorem dX0_doubles_23 : decode cX0_doubles 23 = .ok (.iload_n 2, 1) := by decide +kernel
theorem dX0_doubles_24 : decode cX0_doubles 24 = .ok (.bipush 8, 2) := by decide +kernel
theorem dX0_doubles_26 : decode cX0_doubles 26 = .ok (.imul, 1) := by decide +kernel
theorem dX0_doubles_27 : decode cX0_doubles 27 = .ok (.invokevirtual 47, 3) := by decide +kernel
theorem dX0_doubles_30 : decode cX0_doubles 30 = .ok (.iload_n 2, 1) := by decide +kernel
theorem dX0_doubles_31 : decode cX0_doubles 31 = .ok (.if_icmp .ge 6, 3) := by decide +kernel
theorem dX0_doubles_34 : decode cX0_doubles 34 = .ok (.iinc 1 1, 3) := by decide +kernel
theorem dX0_doubles_37 : decode cX0_doubles 37 = .ok (.iinc 2 1, 3) := by decide +kernel
theorem dX0_doubles_40 : decode cX0_doubles 40 = .ok (.goto (-36), 3) := by decide +kernel
theorem dX0_doubles_43 : decode cX0_doubles 43 = .ok (.iload_n 1, 1) := by decide +kernel
theorem dX0_doubles_44 : decode cX0_doubles 44 = .ok (.ireturn, 1) := by decide +kernel
set_option maxRecDepth 20000 in
theorem ggX1_init_X4_init : GoodIn wsX1_init wsX4_init := goodIn_r _ [12, 13, 2, 3, 14, 15, 16, 17, 18, 19, 20, 21, 22, 23, 24, 25, 26, 27, 28, 29, 30, 31, 32, 33, 34, 35, 36, 37, 38, 39, 40, 41, 42, 43, 53, 54, 55, 56, 47, 48, 49, 50, 51, 52, 57, 58, 59, 60, 61] (by decide +kernel) (by decide +kernel)
set_option maxRecDepth 20000 in
theorem gX1_init_X4_init : GoodIn wsX1_init (wsX4_init) := ggX1_init_X4_init
theorem dX1_init_0 : decode cX1_init 0 = .ok (.aload_n 0, 1) := by decide +kernel
theorem dX1_init_1 : decode cX1_init 1 = .ok (.invokespecial 3, 3) := by decide +kernel
theorem dX1_init_4 : decode cX1_init 4 = .ok (.aload_n 0, 1) := by decide +kernel
theorem dX1_init_5 : decode cX1_init 5 = .ok (.iconst 4, 1) := by decide +kernel
theorem dX1_init_6 : decode cX1_init 6 = .ok (.anewarray 9, 3) := by decide +kernel
theorem dX1_init_9 : decode cX1_init 9 = .ok (.putfield 11, 3) := by decide +kernel
theorem dX1_init_12 : decode cX1_init 12 = .ok (.aload_n 0, 1) := by decide +kernel
theorem dX1_init_13 : decode cX1_init 13 = .ok (.iconst 0, 1) := by decide +kernel
theorem dX1_init_14 : decode cX1_init 14 = .ok (.putfield 17, 3) := by decide +kernel
theorem dX1_init_17 : decode cX1_init 17 = .ok (.aload_n 0, 1) := by decide +kernel
theorem dX1_init_18 : decode cX1_init 18 = .ok (.iconst 0, 1) := by decide +kernel
theorem dX1_init_19 : decode cX1_init 19 = .ok (.putfield 21, 3) := by decide +kernel
theorem dX1_init_22 : decode cX1_init 22 = .ok (.iconst 0, 1) := by decide +kernel
theorem dX1_init_23 : decode cX1_init 23 = .ok (.istore_n 1, 1) := by decide +kernel
theorem dX1_init_24 : decode cX1_init 24 = .ok (.iload_n 1, 1) := by decide +kernel
theorem dX1_init_25 : decode cX1_init 25 = .ok (.iconst 4, 1) := by decide +kernel
theorem dX1_init_26 : decode cX1_init 26 = .ok (.if_icmp .ge 22, 3) := by decide +kernel
theorem dX1_init_29 : decode cX1_init 29 = .ok (.aload_n 0, 1) := by decide +kernel
theorem dX1_init_30 : decode cX1_init 30 = .ok (.getfield 11, 3) := by decide +kernel
theorem dX1_init_33 : decode cX1_init 33 = .ok (.iload_n 1, 1) := by decide +kernel
theorem dX1_init_34 : decode cX1_init 34 = .ok (.new 9, 3) := by decide +kernel
theorem dX1_init_37 : decode cX1_init 37 = .ok (.dup, 1) := by decide +kernel
theorem dX1_init_38 : decode cX1_init 38 = .ok (.invokespecial 24, 3) := by decide +kernel
theorem dX1_init_41 : decode cX1_init 41 = .ok (.aastore, 1) := by decide +kernel
theorem dX1_init_42 : decode cX1_init 42 = .ok (.iinc 1 1, 3) := by decide +kernel
theorem dX1_init_45 : decode cX1_init 45 = .ok (.goto (-21), 3) := by decide +kernel
theorem dX1_init_48 : decode cX1_init 48 = .ok (.return_, 1) := by decide +kernel
theorem dX1_add_0 : decode cX1_add 0 = .ok (.aload_n 0, 1) := by decide +kernel
theorem dX1_add_1 : decode cX1_add 1 = .ok (.getfield 17, 3) := by decide +kernel
theorem dX1_add_4 : decode cX1_add 4 = .ok (.aload_n 0, 1) := by decide +kernel
theorem dX1_add_5 : decode cX1_add 5 = .ok (.getfield 21, 3) := by decide +kernel
theorem dX1_add_8 : decode cX1_add 8 = .ok (.iadd, 1) := by decide +kernel
theorem dX1_add_9 : decode cX1_add 9 = .ok (.iconst 4, 1) := by decide +kernel
theorem dX1_add_10 : decode cX1_add 10 = .ok (.irem, 1) := by decide +kernel
theorem dX1_add_11 : decode cX1_add 11 = .ok (.istore_n 2, 1) := by decide +kernel
theorem dX1_add_12 : decode cX1_add 12 = .ok (.aload_n 0, 1) := by decide +kernel
theorem dX1_add_13 : decode cX1_add 13 = .ok (.getfield 11, 3) := by decide +kernel
theorem dX1_add_16 : decode cX1_add 16 = .ok (.iload_n 2, 1) := by decide +kernel
theorem dX1_add_17 : decode cX1_add 17 = .ok (.aaload, 1) := by decide +kernel
theorem dX1_add_18 : decode cX1_add 18 = .ok (.astore_n 3, 1) := by decide +kernel
theorem dX1_add_19 : decode cX1_add 19 = .ok (.aload_n 0, 1) := by decide +kernel
theorem dX1_add_20 : decode cX1_add 20 = .ok (.getfield 11, 3) := by decide +kernel
theorem dX1_add_23 : decode cX1_add 23 = .ok (.iload_n 2, 1) := by decide +kernel
theorem dX1_add_24 : decode cX1_add 24 = .ok (.aload_n 1, 1) := by decide +kernel
theorem dX1_add_25 : decode cX1_add 25 = .ok (.aastore, 1) := by decide +kernel
theorem dX1_add_26 : decode cX1_add 26 = .ok (.aload_n 0, 1) := by decide +kernel
theorem dX1_add_27 : decode cX1_add 27 = .ok (.getfield 21, 3) := by decide +kernel
theorem dX1_add_30 : decode cX1_add 30 = .ok (.iconst 4, 1) := by decide +kernel
theorem dX1_add_31 : decode cX1_add 31 = .ok (.if_icmp .ge 16, 3) := by decide +kernel
theorem dX1_add_34 : decode cX1_add 34 = .ok (.aload_n 0, 1) := by decide +kernel
theorem dX1_add_35 : decode cX1_add 35 = .ok (.dup, 1) := by decide +kernel
theorem dX1_add_36 : decode cX1_add 36 = .ok (.getfield 21, 3) := by decide +kernel
theorem dX1_add_39 : decode cX1_add 39 = .ok (.iconst 1, 1) := by decide +kernel
theorem dX1_add_40 : decode cX1_add 40 = .ok (.iadd, 1) := by decide +kernel
theorem dX1_add_41 : decode cX1_add 41 = .ok (.putfield 21, 3) := by decide +kernel
theorem dX1_add_44 : decode cX1_add 44 = .ok (.goto 15, 3) := by decide +kernel
theorem dX1_add_47 : decode cX1_add 47 = .ok (.aload_n 0, 1) := by decide +kernel
theorem dX1_add_48 : decode cX1_add 48 = .ok (.aload_n 0, 1) := by decide +kernel
theorem dX1_add_49 : decode cX1_add 49 = .ok (.getfield 17, 3) := by decide +kernel
theorem dX1_add_52 : decode cX1_add 52 = .ok (.iconst 1, 1) := by decide +kernel
theorem dX1_add_53 : decode cX1_add 53 = .ok (.iadd, 1) := by decide +kernel
theorem dX1_add_54 : decode cX1_add 54 = .ok (.iconst 4, 1) := by decide +kernel
theorem dX1_add_55 : decode cX1_add 55 = .ok (.irem, 1) := by decide +kernel
theorem dX1_add_56 : decode cX1_add 56 = .ok (.putfield 17, 3) := by decide +kernel
theorem dX1_add_59 : decode cX1_add 59 = .ok (.aload_n 3, 1) := by decide +kernel
theorem dX1_add_60 : decode cX1_add 60 = .ok (.areturn, 1) := by decide +kernel
theorem dX1_exchangeLatest_0 : decode cX1_exchangeLatest 0 = .ok (.aload_n 0, 1) := by decide +kernel
theorem dX1_exchangeLatest_1 : decode cX1_exchangeLatest 1 = .ok (.getfield 21, 3) := by decide +kernel
theorem dX1_exchangeLatest_4 : decode cX1_exchangeLatest 4 = .ok (.ifCond .ne 5, 3) := by decide +kernel
theorem dX1_exchangeLatest_7 : decode cX1_exchangeLatest 7 = .ok (.aload_n 1, 1) := by decide +kernel
theorem dX1_exchangeLatest_8 : decode cX1_exchangeLatest 8 = .ok (.areturn, 1) := by decide +kernel
theorem dX1_exchangeLatest_9 : decode cX1_exchangeLatest 9 = .ok (.aload_n 0, 1) := by decide +kernel
theorem dX1_exchangeLatest_10 : decode cX1_exchangeLatest 10 = .ok (.dup, 1) := by decide +kernel
theorem dX1_exchangeLatest_11 : decode cX1_exchangeLatest 11 = .ok (.getfield 21, 3) := by decide +kernel
theorem dX1_exchangeLatest_14 : decode cX1_exchangeLatest 14 = .ok (.iconst 1, 1) := by decide +kernel
theorem dX1_exchangeLatest_15 : decode cX1_exchangeLatest 15 = .ok (.isub, 1) := by decide +kernel
theorem dX1_exchangeLatest_16 : decode cX1_exchangeLatest 16 = .ok (.putfield 21, 3) := by decide +kernel
theorem dX1_exchangeLatest_19 : decode cX1_exchangeLatest 19 = .ok (.aload_n 0, 1) := by decide +kernel
theorem dX1_exchangeLatest_20 : decode cX1_exchangeLatest 20 = .ok (.getfield 17, 3) := by decide +kernel
theorem dX1_exchangeLatest_23 : decode cX1_exchangeLatest 23 = .ok (.aload_n 0, 1) := by decide +kernel
theorem dX1_exchangeLatest_24 : decode cX1_exchangeLatest 24 = .ok (.getfield 21, 3) := by decide +kernel
theorem dX1_exchangeLatest_27 : decode cX1_exchangeLatest 27 = .ok (.iadd, 1) := by decide +kernel
theorem dX1_exchangeLatest_28 : decode cX1_exchangeLatest 28 = .ok (.iconst 4, 1) := by decide +kernel
theorem dX1_exchangeLatest_29 : decode cX1_exchangeLatest 29 = .ok (.irem, 1) := by decide +kernel
theorem dX1_exchangeLatest_30 : decode cX1_exchangeLatest 30 = .ok (.istore_n 2, 1) := by decide +kernel
theorem dX1_exchangeLatest_31 : decode cX1_exchangeLatest 31 = .ok (.aload_n 0, 1) := by decide +kernel
theorem dX1_exchangeLatest_32 : decode cX1_exchangeLatest 32 = .ok (.getfield 11, 3) := by decide +kernel
theorem dX1_exchangeLatest_35 : decode cX1_exchangeLatest 35 = .ok (.iload_n 2, 1) := by decide +kernel
theorem dX1_exchangeLatest_36 : decode cX1_exchangeLatest 36 = .ok (.aaload, 1) := by decide +kernel
theorem dX1_exchangeLatest_37 : decode cX1_exchangeLatest 37 = .ok (.astore_n 3, 1) := by decide +kernel
theorem dX1_exchangeLatest_38 : decode cX1_exchangeLatest 38 = .ok (.aload_n 0, 1) := by decide +kernel
theorem dX1_exchangeLatest_39 : decode cX1_exchangeLatest 39 = .ok (.getfield 11, 3) := by decide +kernel
theorem dX1_exchangeLatest_42 : decode cX1_exchangeLatest 42 = .ok (.iload_n 2, 1) := by decide +kernel
theorem dX1_exchangeLatest_43 : decode cX1_exchangeLatest 43 = .ok (.aload_n 1, 1) := by decide +kernel
theorem dX1_exchangeLatest_44 : decode cX1_exchangeLatest 44 = .ok (.aastore, 1) := by decide +kernel
theorem dX1_exchangeLatest_45 : decode cX1_exchangeLatest 45 = .ok (.aload_n 3, 1) := by decide +kernel
theorem dX1_exchangeLatest_46 : decode cX1_exchangeLatest 46 = .ok (.areturn, 1) := by decide +kernel
theorem dX2_init_0 : decode cX2_init 0 = .ok (.aload_n 0, 1) := by decide +kernel
theorem dX2_init_1 : decode cX2_init 1 = .ok (.invokespecial 3, 3) := by decide +kernel
theorem dX2_init_4 : decode cX2_init 4 = .ok (.aload_n 0, 1) := by decide +kernel
theorem dX2_init_5 : decode cX2_init 5 = .ok (.bipush 60, 2) := by decide +kernel
theorem dX2_init_7 : decode cX2_init 7 = .ok (.newarray .int, 2) := by decide +kernel
theorem dX2_init_9 : decode cX2_init 9 = .ok (.putfield 9, 3) := by decide +kernel
theorem dX2_init_12 : decode cX2_init 12 = .ok (.aload_n 0, 1) := by decide +kernel
theorem dX2_init_13 : decode cX2_init 13 = .ok (.iconst 4, 1) := by decide +kernel
theorem dX2_init_14 : decode cX2_init 14 = .ok (.newarray .int, 2) := by decide +kernel
theorem dX2_init_16 : decode cX2_init 16 = .ok (.putfield 15, 3) := by decide +kernel
theorem dX2_init_19 : decode cX2_init 19 = .ok (.aload_n 0, 1) := by decide +kernel
theorem dX2_init_20 : decode cX2_init 20 = .ok (.iconst 0, 1) := by decide +kernel
theorem dX2_init_21 : decode cX2_init 21 = .ok (.putfield 18, 3) := by decide +kernel
theorem dX2_init_24 : decode cX2_init 24 = .ok (.aload_n 0, 1) := by decide +kernel
theorem dX2_init_25 : decode cX2_init 25 = .ok (.iconst 0, 1) := by decide +kernel
theorem dX2_init_26 : decode cX2_init 26 = .ok (.putfield 22, 3) := by decide +kernel
theorem dX2_init_29 : decode cX2_init 29 = .ok (.aload_n 0, 1) := by decide +kernel
theorem dX2_init_30 : decode cX2_init 30 = .ok (.iconst 0, 1) := by decide +kernel
theorem dX2_init_31 : decode cX2_init 31 = .ok (.putfield 25, 3) := by decide +kernel
theorem dX2_init_34 : decode cX2_init 34 = .ok (.aload_n 0, 1) := by decide +kernel
theorem dX2_init_35 : decode cX2_init 35 = .ok (.iconst 0, 1) := by decide +kernel
theorem dX2_init_36 : decode cX2_init 36 = .ok (.putfield 28, 3) := by decide +kernel
theorem dX2_init_39 : decode cX2_init 39 = .ok (.aload_n 0, 1) := by decide +kernel
theorem dX2_init_40 : decode cX2_init 40 = .ok (.iconst 0, 1) := by decide +kernel
theorem dX2_init_41 : decode cX2_init 41 = .ok (.putfield 31, 3) := by decide +kernel
theorem dX2_init_44 : decode cX2_init 44 = .ok (.aload_n 0, 1) := by decide +kernel
theorem dX2_init_45 : decode cX2_init 45 = .ok (.iconst 0, 1) := by decide +kernel
theorem dX2_init_46 : decode cX2_init 46 = .ok (.putfield 34, 3) := by decide +kernel
theorem dX2_init_49 : decode cX2_init 49 = .ok (.return_, 1) := by decide +kernel
theorem dX2_append_0 : decode cX2_append 0 = .ok (.aload_n 0, 1) := by decide +kernel
theorem dX2_append_1 : decode cX2_append 1 = .ok (.getfield 18, 3) := by decide +kernel
theorem dX2_append_4 : decode cX2_append 4 = .ok (.bipush 60, 2) := by decide +kernel
theorem dX2_append_6 : decode cX2_append 6 = .ok (.if_icmp .lt 5, 3) := by decide +kernel
theorem dX2_append_9 : decode cX2_append 9 = .ok (.iconst 0, 1) := by decide +kernel
theorem dX2_append_10 : decode cX2_append 10 = .ok (.ireturn, 1) := by decide +kernel
theorem dX2_append_11 : decode cX2_append 11 = .ok (.aload_n 0, 1) := by decide +kernel
theorem dX2_append_12 : decode cX2_append 12 = .ok (.getfield 9, 3) := by decide +kernel
theorem dX2_append_15 : decode cX2_append 15 = .ok (.aload_n 0, 1) := by decide +kernel
theorem dX2_append_16 : decode cX2_append 16 = .ok (.getfield 18, 3) := by decide +kernel
theorem dX2_append_19 : decode cX2_append 19 = .ok (.iload_n 1, 1) := by decide +kernel
theorem dX2_append_20 : decode cX2_append 20 = .ok (.iastore, 1) := by decide +kernel
theorem dX2_append_21 : decode cX2_append 21 = .ok (.aload_n 0, 1) := by decide +kernel
theorem dX2_append_22 : decode cX2_append 22 = .ok (.dup, 1) := by decide +kernel
theorem dX2_append_23 : decode cX2_append 23 = .ok (.getfield 18, 3) := by decide +kernel
theorem dX2_append_26 : decode cX2_append 26 = .ok (.iconst 1, 1) := by decide +kernel
theorem dX2_append_27 : decode cX2_append 27 = .ok (.iadd, 1) := by decide +kernel
theorem dX2_append_28 : decode cX2_append 28 = .ok (.putfield 18, 3) := by decide +kernel
theorem dX2_append_31 : decode cX2_append 31 = .ok (.iconst 1, 1) := by decide +kernel
theorem dX2_append_32 : decode cX2_append 32 = .ok (.ireturn, 1) := by decide +kernel
set_option maxRecDepth 20000 in
theorem ggX2_doAll_X2_readOrder : GoodIn wsX2_doAll wsX2_readOrder := goodIn_r _ [9, 1, 10, 11, 12, 8, 13, 3, 4, 14, 15, 16, 17, 18, 19, 20, 21, 177, 178, 179, 180, 181, 182, 183, 184] (by decide +kernel) (by decide +kernel)
set_option maxRecDepth 20000 in
theorem gX2_doAll_X2_readOrder : GoodIn wsX2_doAll (wsV RX2 37 RX2 yX2_readOrder wsX2_readOrder) := goodIn_app (goodIn_of _ (by decide +kernel)) ggX2_doAll_X2_readOrder
set_option maxRecDepth 20000 in
theorem ggX2_doAll_X2_keepFault : GoodIn wsX2_doAll wsX2_keepFault := goodIn_r _ [25, 26, 27, 28, 177, 178, 179, 180, 181, 182, 183, 184] (by decide +kernel) (by decide +kernel)
set_option maxRecDepth 20000 in
theorem gX2_doAll_X2_keepFault : GoodIn wsX2_doAll (wsV RX2 41 RX2 yX2_keepFault wsX2_keepFault) := goodIn_app (goodIn_of _ (by decide +kernel)) ggX2_doAll_X2_keepFault
set_option maxRecDepth 20000 in
theorem ggX2_doAll_X2_doOrder : GoodIn wsX2_doAll wsX2_doOrder := goodIn_r _ [32, 21, 33, 34, 35, 36, 37, 38, 39, 40, 41, 42, 43, 44, 45, 46, 47, 48, 49, 50, 51, 52, 53, 54, 55, 56, 57, 58, 59, 60, 61, 62, 63, 64, 65, 66, 67, 68, 69, 70, 71, 72, 73, 74, 75, 76, 77, 78, 79, 80, 81, 82, 83, 84, 85, 86, 87, 88, 89, 90, 91, 92, 93, 94, 95, 96, 97, 98, 99, 100, 101, 102, 103, 104, 105, 106, 107, 108, 109, 110, 111, 112, 113, 114, 115, 116, 117, 118, 119, 120, 121, 122, 123, 124, 125, 126, 127, 128, 129, 130, 131, 132, 133, 134, 135, 136, 137, 138, 139, 140, 141, 142, 143, 144, 145, 146, 147, 148, 149, 150, 151, 152, 153, 154, 155, 156, 157, 158, 159, 160, 161, 162, 163, 164, 165, 166, 167, 168, 169, 170, 171, 172, 173, 174, 175, 176, 177, 178, 179, 180, 181, 182, 183, 184, 185, 186, 187, 188, 189, 190, 191, 192, 193, 194, 195, 196, 197, 198, 199] (by decide +kernel) (by decide +kernel)
set_option maxRecDepth 20000 in
theorem gX2_doAll_X2_doOrder : GoodIn wsX2_doAll (wsV RX2 45 RX2 yX2_doOrder wsX2_doOrder) := goodIn_app (goodIn_of _ (by decide +kernel)) ggX2_doAll_X2_doOrder
theorem dX2_doAll_0 : decode cX2_doAll 0 = .ok (.aload_n 0, 1) := by decide +kernel
theorem dX2_doAll_1 : decode cX2_doAll 1 = .ok (.iconst 0, 1) := by decide +kernel
theorem dX2_doAll_2 : decode cX2_doAll 2 = .ok (.putfield 22, 3) := by decide +kernel
theorem dX2_doAll_5 : decode cX2_doAll 5 = .ok (.aload_n 0, 1) := by decide +kernel
theorem dX2_doAll_6 : decode cX2_doAll 6 = .ok (.iconst 0, 1) := by decide +kernel
theorem dX2_doAll_7 : decode cX2_doAll 7 = .ok (.putfield 25, 3) := by decide +kernel
theorem dX2_doAll_10 : decode cX2_doAll 10 = .ok (.iconst 0, 1) := by decide +kernel
theorem dX2_doAll_11 : decode cX2_doAll 11 = .ok (.istore_n 2, 1) := by decide +kernel
theorem dX2_doAll_12 : decode cX2_doAll 12 = .ok (.iload_n 2, 1) := by decide +kernel
theorem dX2_doAll_13 : decode cX2_doAll 13 = .ok (.bipush 60, 2) := by decide +kernel
theorem dX2_doAll_15 : decode cX2_doAll 15 = .ok (.if_icmp .ge 82, 3) := by decide +kernel
theorem dX2_doAll_18 : decode cX2_doAll 18 = .ok (.aload_n 0, 1) := by decide +kernel
theorem dX2_doAll_19 : decode cX2_doAll 19 = .ok (.getfield 22, 3) := by decide +kernel
theorem dX2_doAll_22 : decode cX2_doAll 22 = .ok (.aload_n 0, 1) := by decide +kernel
theorem dX2_doAll_23 : decode cX2_doAll 23 = .ok (.getfield 18, 3) := by decide +kernel
theorem dX2_doAll_26 : decode cX2_doAll 26 = .ok (.if_icmp .ge 71, 3) := by decide +kernel
theorem dX2_doAll_29 : decode cX2_doAll 29 = .ok (.aload_n 0, 1) := by decide +kernel
theorem dX2_doAll_30 : decode cX2_doAll 30 = .ok (.getfield 22, 3) := by decide +kernel
theorem dX2_doAll_33 : decode cX2_doAll 33 = .ok (.istore_n 3, 1) := by decide +kernel
theorem dX2_doAll_34 : decode cX2_doAll 34 = .ok (.aload_n 0, 1) := by decide +kernel
theorem dX2_doAll_35 : decode cX2_doAll 35 = .ok (.invokevirtual 37, 3) := by decide +kernel
theorem dX2_doAll_38 : decode cX2_doAll 38 = .ok (.ifCond .ne 16, 3) := by decide +kernel
theorem dX2_doAll_41 : decode cX2_doAll 41 = .ok (.aload_n 0, 1) := by decide +kernel
theorem dX2_doAll_42 : decode cX2_doAll 42 = .ok (.iload_n 3, 1) := by decide +kernel
theorem dX2_doAll_43 : decode cX2_doAll 43 = .ok (.iconst 1, 1) := by decide +kernel
theorem dX2_doAll_44 : decode cX2_doAll 44 = .ok (.aload_n 0, 1) := by decide +kernel
theorem dX2_doAll_45 : decode cX2_doAll 45 = .ok (.getfield 22, 3) := by decide +kernel
theorem dX2_doAll_48 : decode cX2_doAll 48 = .ok (.iload_n 3, 1) := by decide +kernel
theorem dX2_doAll_49 : decode cX2_doAll 49 = .ok (.isub, 1) := by decide +kernel
theorem dX2_doAll_50 : decode cX2_doAll 50 = .ok (.invokevirtual 41, 3) := by decide +kernel
theorem dX2_doAll_53 : decode cX2_doAll 53 = .ok (.ireturn, 1) := by decide +kernel
theorem dX2_doAll_54 : decode cX2_doAll 54 = .ok (.aload_n 0, 1) := by decide +kernel
theorem dX2_doAll_55 : decode cX2_doAll 55 = .ok (.aload_n 1, 1) := by decide +kernel
theorem dX2_doAll_56 : decode cX2_doAll 56 = .ok (.aload_n 0, 1) := by decide +kernel
theorem dX2_doAll_57 : decode cX2_doAll 57 = .ok (.getfield 9, 3) := by decide +kernel
theorem dX2_doAll_60 : decode cX2_doAll 60 = .ok (.iload_n 3, 1) := by decide +kernel
theorem dX2_doAll_61 : decode cX2_doAll 61 = .ok (.iaload, 1) := by decide +kernel
theorem dX2_doAll_62 : decode cX2_doAll 62 = .ok (.invokevirtual 45, 3) := by decide +kernel
theorem dX2_doAll_65 : decode cX2_doAll 65 = .ok (.istore 4, 2) := by decide +kernel
theorem dX2_doAll_67 : decode cX2_doAll 67 = .ok (.iload 4, 2) := by decide +kernel
theorem dX2_doAll_69 : decode cX2_doAll 69 = .ok (.ifCond .ge 12, 3) := by decide +kernel
theorem dX2_doAll_72 : decode cX2_doAll 72 = .ok (.aload_n 0, 1) := by decide +kernel
theorem dX2_doAll_73 : decode cX2_doAll 73 = .ok (.iload_n 3, 1) := by decide +kernel
theorem dX2_doAll_74 : decode cX2_doAll 74 = .ok (.iconst 2, 1) := by decide +kernel
theorem dX2_doAll_75 : decode cX2_doAll 75 = .ok (.iload 4, 2) := by decide +kernel
theorem dX2_doAll_77 : decode cX2_doAll 77 = .ok (.invokevirtual 41, 3) := by decide +kernel
theorem dX2_doAll_80 : decode cX2_doAll 80 = .ok (.ireturn, 1) := by decide +kernel
theorem dX2_doAll_81 : decode cX2_doAll 81 = .ok (.aload_n 0, 1) := by decide +kernel
theorem dX2_doAll_82 : decode cX2_doAll 82 = .ok (.dup, 1) := by decide +kernel
theorem dX2_doAll_83 : decode cX2_doAll 83 = .ok (.getfield 25, 3) := by decide +kernel
theorem dX2_doAll_86 : decode cX2_doAll 86 = .ok (.iconst 1, 1) := by decide +kernel
theorem dX2_doAll_87 : decode cX2_doAll 87 = .ok (.iadd, 1) := by decide +kernel
theorem dX2_doAll_88 : decode cX2_doAll 88 = .ok (.putfield 25, 3) := by decide +kernel
theorem dX2_doAll_91 : decode cX2_doAll 91 = .ok (.iinc 2 1, 3) := by decide +kernel
theorem dX2_doAll_94 : decode cX2_doAll 94 = .ok (.goto (-82), 3) := by decide +kernel
theorem dX2_doAll_97 : decode cX2_doAll 97 = .ok (.iconst 1, 1) := by decide +kernel
theorem dX2_doAll_98 : decode cX2_doAll 98 = .ok (.ireturn, 1) := by decide +kernel
theorem dX2_keepFault_0 : decode cX2_keepFault 0 = .ok (.aload_n 0, 1) := by decide +kernel
theorem dX2_keepFault_1 : decode cX2_keepFault 1 = .ok (.iload_n 1, 1) := by decide +kernel
theorem dX2_keepFault_2 : decode cX2_keepFault 2 = .ok (.putfield 28, 3) := by decide +kernel
theorem dX2_keepFault_5 : decode cX2_keepFault 5 = .ok (.aload_n 0, 1) := by decide +kernel
theorem dX2_keepFault_6 : decode cX2_keepFault 6 = .ok (.iload_n 2, 1) := by decide +kernel
theorem dX2_keepFault_7 : decode cX2_keepFault 7 = .ok (.putfield 31, 3) := by decide +kernel
theorem dX2_keepFault_10 : decode cX2_keepFault 10 = .ok (.aload_n 0, 1) := by decide +kernel
theorem dX2_keepFault_11 : decode cX2_keepFault 11 = .ok (.iload_n 3, 1) := by decide +kernel
theorem dX2_keepFault_12 : decode cX2_keepFault 12 = .ok (.putfield 34, 3) := by decide +kernel
theorem dX2_keepFault_15 : decode cX2_keepFault 15 = .ok (.iconst 0, 1) := by decide +kernel
theorem dX2_keepFault_16 : decode cX2_keepFault 16 = .ok (.ireturn, 1) := by decide +kernel
set_option maxRecDepth 20000 in
theorem ggX2_readOrder_X2_signHere : GoodIn wsX2_readOrder wsX2_signHere := goodIn_r _ [6, 1, 7, 8, 17, 18, 19, 20, 21, 22, 23, 24] (by decide +kernel) (by decide +kernel)
set_option maxRecDepth 20000 in
theorem gX2_readOrder_X2_signHere : GoodIn wsX2_readOrder (wsV RX2 49 RX2 yX2_signHere wsX2_signHere) := goodIn_app (goodIn_of _ (by decide +kernel)) ggX2_readOrder_X2_signHere
set_option maxRecDepth 20000 in
theorem ggX2_readOrder_X2_numbersOf : GoodIn wsX2_readOrder wsX2_numbersOf := goodIn_r _ [11] (by decide +kernel) (by decide +kernel)
set_option maxRecDepth 20000 in
theorem gX2_readOrder_X2_numbersOf : GoodIn wsX2_readOrder (va_wsS RX2 53 yX2_numbersOf wsX2_numbersOf) := goodIn_app (goodIn_of _ (by decide +kernel)) ggX2_readOrder_X2_numbersOf
set_option maxRecDepth 20000 in
theorem ggX2_readOrder_X2_readNumber : GoodIn wsX2_readOrder wsX2_readNumber := goodIn_r _ [15, 1, 16, 2, 3, 4, 5, 6, 7, 8, 17, 18, 19, 20, 21, 22, 23, 24] (by decide +kernel) (by decide +kernel)
set_option maxRecDepth 20000 in
theorem gX2_readOrder_X2_readNumber : GoodIn wsX2_readOrder (wsV RX2 57 RX2 yX2_readNumber wsX2_readNumber) := goodIn_app (goodIn_of _ (by decide +kernel)) ggX2_readOrder_X2_readNumber
theorem dX2_readOrder_0 : decode cX2_readOrder 0 = .ok (.aload_n 0, 1) := by decide +kernel
theorem dX2_readOrder_1 : decode cX2_readOrder 1 = .ok (.invokevirtual 49, 3) := by decide +kernel
theorem dX2_readOrder_4 : decode cX2_readOrder 4 = .ok (.invokestatic 53, 3) := by decide +kernel
theorem dX2_readOrder_7 : decode cX2_readOrder 7 = .ok (.istore_n 1, 1) := by decide +kernel
theorem dX2_readOrder_8 : decode cX2_readOrder 8 = .ok (.iload_n 1, 1) := by decide +kernel
theorem dX2_readOrder_9 : decode cX2_readOrder 9 = .ok (.ifCond .ne 5, 3) := by decide +kernel
theorem dX2_readOrder_12 : decode cX2_readOrder 12 = .ok (.iconst 0, 1) := by decide +kernel
theorem dX2_readOrder_13 : decode cX2_readOrder 13 = .ok (.ireturn, 1) := by decide +kernel
theorem dX2_readOrder_14 : decode cX2_readOrder 14 = .ok (.aload_n 0, 1) := by decide +kernel
theorem dX2_readOrder_15 : decode cX2_readOrder 15 = .ok (.dup, 1) := by decide +kernel
theorem dX2_readOrder_16 : decode cX2_readOrder 16 = .ok (.getfield 22, 3) := by decide +kernel
theorem dX2_readOrder_19 : decode cX2_readOrder 19 = .ok (.iconst 1, 1) := by decide +kernel
theorem dX2_readOrder_20 : decode cX2_readOrder 20 = .ok (.iadd, 1) := by decide +kernel
theorem dX2_readOrder_21 : decode cX2_readOrder 21 = .ok (.putfield 22, 3) := by decide +kernel
theorem dX2_readOrder_24 : decode cX2_readOrder 24 = .ok (.iconst 0, 1) := by decide +kernel
theorem dX2_readOrder_25 : decode cX2_readOrder 25 = .ok (.istore_n 2, 1) := by decide +kernel
theorem dX2_readOrder_26 : decode cX2_readOrder 26 = .ok (.iload_n 2, 1) := by decide +kernel
theorem dX2_readOrder_27 : decode cX2_readOrder 27 = .ok (.iload_n 1, 1) := by decide +kernel
theorem dX2_readOrder_28 : decode cX2_readOrder 28 = .ok (.if_icmp .ge 50, 3) := by decide +kernel
theorem dX2_readOrder_31 : decode cX2_readOrder 31 = .ok (.aload_n 0, 1) := by decide +kernel
theorem dX2_readOrder_32 : decode cX2_readOrder 32 = .ok (.iload_n 2, 1) := by decide +kernel
theorem dX2_readOrder_33 : decode cX2_readOrder 33 = .ok (.invokevirtual 57, 3) := by decide +kernel
theorem dX2_readOrder_36 : decode cX2_readOrder 36 = .ok (.ifCond .eq 24, 3) := by decide +kernel
theorem dX2_readOrder_39 : decode cX2_readOrder 39 = .ok (.aload_n 0, 1) := by decide +kernel
theorem dX2_readOrder_40 : decode cX2_readOrder 40 = .ok (.invokevirtual 49, 3) := by decide +kernel
theorem dX2_readOrder_43 : decode cX2_readOrder 43 = .ok (.iload_n 2, 1) := by decide +kernel
theorem dX2_readOrder_44 : decode cX2_readOrder 44 = .ok (.iconst 1, 1) := by decide +kernel
theorem dX2_readOrder_45 : decode cX2_readOrder 45 = .ok (.iadd, 1) := by decide +kernel
theorem dX2_readOrder_46 : decode cX2_readOrder 46 = .ok (.iload_n 1, 1) := by decide +kernel
theorem dX2_readOrder_47 : decode cX2_readOrder 47 = .ok (.if_icmp .ge 8, 3) := by decide +kernel
theorem dX2_readOrder_50 : decode cX2_readOrder 50 = .ok (.bipush 44, 2) := by decide +kernel
theorem dX2_readOrder_52 : decode cX2_readOrder 52 = .ok (.goto 5, 3) := by decide +kernel
theorem dX2_readOrder_55 : decode cX2_readOrder 55 = .ok (.bipush 59, 2) := by decide +kernel
theorem dX2_readOrder_57 : decode cX2_readOrder 57 = .ok (.if_icmp .eq 5, 3) := by decide +kernel
theorem dX2_readOrder_60 : decode cX2_readOrder 60 = .ok (.iconst 0, 1) := by decide +kernel
theorem dX2_readOrder_61 : decode cX2_readOrder 61 = .ok (.ireturn, 1) := by decide +kernel
theorem dX2_readOrder_62 : decode cX2_readOrder 62 = .ok (.aload_n 0, 1) := by decide +kernel
theorem dX2_readOrder_63 : decode cX2_readOrder 63 = .ok (.dup, 1) := by decide +kernel
theorem dX2_readOrder_64 : decode cX2_readOrder 64 = .ok (.getfield 22, 3) := by decide +kernel
theorem dX2_readOrder_67 : decode cX2_readOrder 67 = .ok (.iconst 1, 1) := by decide +kernel
theorem dX2_readOrder_68 : decode cX2_readOrder 68 = .ok (.iadd, 1) := by decide +kernel
theorem dX2_readOrder_69 : decode cX2_readOrder 69 = .ok (.putfield 22, 3) := by decide +kernel
theorem dX2_readOrder_72 : decode cX2_readOrder 72 = .ok (.iinc 2 1, 3) := by decide +kernel
theorem dX2_readOrder_75 : decode cX2_readOrder 75 = .ok (.goto (-49), 3) := by decide +kernel
theorem dX2_readOrder_78 : decode cX2_readOrder 78 = .ok (.iconst 1, 1) := by decide +kernel
theorem dX2_readOrder_79 : decode cX2_readOrder 79 = .ok (.ireturn, 1) := by decide +kernel
theorem dX2_signHere_0 : decode cX2_signHere 0 = .ok (.aload_n 0, 1) := by decide +kernel
theorem dX2_signHere_1 : decode cX2_signHere 1 = .ok (.getfield 22, 3) := by decide +kernel
theorem dX2_signHere_4 : decode cX2_signHere 4 = .ok (.aload_n 0, 1) := by decide +kernel
theorem dX2_signHere_5 : decode cX2_signHere 5 = .ok (.getfield 18, 3) := by decide +kernel
theorem dX2_signHere_8 : decode cX2_signHere 8 = .ok (.if_icmp .ge 15, 3) := by decide +kernel
theorem dX2_signHere_11 : decode cX2_signHere 11 = .ok (.aload_n 0, 1) := by decide +kernel
theorem dX2_signHere_12 : decode cX2_signHere 12 = .ok (.getfield 9, 3) := by decide +kernel
theorem dX2_signHere_15 : decode cX2_signHere 15 = .ok (.aload_n 0, 1) := by decide +kernel
theorem dX2_signHere_16 : decode cX2_signHere 16 = .ok (.getfield 22, 3) := by decide +kernel
theorem dX2_signHere_19 : decode cX2_signHere 19 = .ok (.iaload, 1) := by decide +kernel
theorem dX2_signHere_20 : decode cX2_signHere 20 = .ok (.goto 4, 3) := by decide +kernel
theorem dX2_signHere_23 : decode cX2_signHere 23 = .ok (.iconst (-1), 1) := by decide +kernel
theorem dX2_signHere_24 : decode cX2_signHere 24 = .ok (.ireturn, 1) := by decide +kernel
set_option maxRecDepth 20000 in
theorem ggX2_readNumber_X2_signHere : GoodIn wsX2_readNumber wsX2_signHere := goodIn_r _ [7, 1, 8, 9, 10, 11, 12, 13, 14, 15, 16, 17] (by decide +kernel) (by decide +kernel)
set_option maxRecDepth 20000 in
theorem gX2_readNumber_X2_signHere : GoodIn wsX2_readNumber (wsV RX2 49 RX2 yX2_signHere wsX2_signHere) := goodIn_app (goodIn_of _ (by decide +kernel)) ggX2_readNumber_X2_signHere
theorem dX2_readNumber_0 : decode cX2_readNumber 0 = .ok (.iconst 0, 1) := by decide +kernel
theorem dX2_readNumber_1 : decode cX2_readNumber 1 = .ok (.istore_n 2, 1) := by decide +kernel
theorem dX2_readNumber_2 : decode cX2_readNumber 2 = .ok (.iconst 0, 1) := by decide +kernel
theorem dX2_readNumber_3 : decode cX2_readNumber 3 = .ok (.istore_n 3, 1) := by decide +kernel
theorem dX2_readNumber_4 : decode cX2_readNumber 4 = .ok (.iload_n 3, 1) := by decide +kernel
theorem dX2_readNumber_5 : decode cX2_readNumber 5 = .ok (.iconst 3, 1) := by decide +kernel
theorem dX2_readNumber_6 : decode cX2_readNumber 6 = .ok (.if_icmp .ge 50, 3) := by decide +kernel
theorem dX2_readNumber_9 : decode cX2_readNumber 9 = .ok (.aload_n 0, 1) := by decide +kernel
theorem dX2_readNumber_10 : decode cX2_readNumber 10 = .ok (.invokevirtual 49, 3) := by decide +kernel
theorem dX2_readNumber_13 : decode cX2_readNumber 13 = .ok (.bipush 48, 2) := by decide +kernel
theorem dX2_readNumber_15 : decode cX2_readNumber 15 = .ok (.if_icmp .lt 41, 3) := by decide +kernel
theorem dX2_readNumber_18 : decode cX2_readNumber 18 = .ok (.aload_n 0, 1) := by decide +kernel
theorem dX2_readNumber_19 : decode cX2_readNumber 19 = .ok (.invokevirtual 49, 3) := by decide +kernel
theorem dX2_readNumber_22 : decode cX2_readNumber 22 = .ok (.bipush 57, 2) := by decide +kernel
theorem dX2_readNumber_24 : decode cX2_readNumber 24 = .ok (.if_icmp .gt 32, 3) := by decide +kernel
theorem dX2_readNumber_27 : decode cX2_readNumber 27 = .ok (.iload_n 2, 1) := by decide +kernel
theorem dX2_readNumber_28 : decode cX2_readNumber 28 = .ok (.bipush 10, 2) := by decide +kernel
theorem dX2_readNumber_30 : decode cX2_readNumber 30 = .ok (.imul, 1) := by decide +kernel
theorem dX2_readNumber_31 : decode cX2_readNumber 31 = .ok (.aload_n 0, 1) := by decide +kernel
theorem dX2_readNumber_32 : decode cX2_readNumber 32 = .ok (.invokevirtual 49, 3) := by decide +kernel
theorem dX2_readNumber_35 : decode cX2_readNumber 35 = .ok (.iadd, 1) := by decide +kernel
theorem dX2_readNumber_36 : decode cX2_readNumber 36 = .ok (.bipush 48, 2) := by decide +kernel
theorem dX2_readNumber_38 : decode cX2_readNumber 38 = .ok (.isub, 1) := by decide +kernel
theorem dX2_readNumber_39 : decode cX2_readNumber 39 = .ok (.istore_n 2, 1) := by decide +kernel
theorem dX2_readNumber_40 : decode cX2_readNumber 40 = .ok (.iinc 3 1, 3) := by decide +kernel
theorem dX2_readNumber_43 : decode cX2_readNumber 43 = .ok (.aload_n 0, 1) := by decide +kernel
theorem dX2_readNumber_44 : decode cX2_readNumber 44 = .ok (.dup, 1) := by decide +kernel
theorem dX2_readNumber_45 : decode cX2_readNumber 45 = .ok (.getfield 22, 3) := by decide +kernel
theorem dX2_readNumber_48 : decode cX2_readNumber 48 = .ok (.iconst 1, 1) := by decide +kernel
theorem dX2_readNumber_49 : decode cX2_readNumber 49 = .ok (.iadd, 1) := by decide +kernel
theorem dX2_readNumber_50 : decode cX2_readNumber 50 = .ok (.putfield 22, 3) := by decide +kernel
theorem dX2_readNumber_53 : decode cX2_readNumber 53 = .ok (.goto (-49), 3) := by decide +kernel
theorem dX2_readNumber_56 : decode cX2_readNumber 56 = .ok (.aload_n 0, 1) := by decide +kernel
theorem dX2_readNumber_57 : decode cX2_readNumber 57 = .ok (.getfield 15, 3) := by decide +kernel
theorem dX2_readNumber_60 : decode cX2_readNumber 60 = .ok (.iload_n 1, 1) := by decide +kernel
theorem dX2_readNumber_61 : decode cX2_readNumber 61 = .ok (.iload_n 2, 1) := by decide +kernel
theorem dX2_readNumber_62 : decode cX2_readNumber 62 = .ok (.iastore, 1) := by decide +kernel
theorem dX2_readNumber_63 : decode cX2_readNumber 63 = .ok (.iload_n 3, 1) := by decide +kernel
theorem dX2_readNumber_64 : decode cX2_readNumber 64 = .ok (.ifCond .le 7, 3) := by decide +kernel
theorem dX2_readNumber_67 : decode cX2_readNumber 67 = .ok (.iconst 1, 1) := by decide +kernel
theorem dX2_readNumber_68 : decode cX2_readNumber 68 = .ok (.goto 4, 3) := by decide +kernel
theorem dX2_readNumber_71 : decode cX2_readNumber 71 = .ok (.iconst 0, 1) := by decide +kernel
theorem dX2_readNumber_72 : decode cX2_readNumber 72 = .ok (.ireturn, 1) := by decide +kernel
theorem dX2_numbersOf_0 : decode cX2_numbersOf 0 = .ok (.iload_n 0, 1) := by decide +kernel
theorem dX2_numbersOf_1 : decode cX2_numbersOf 1 = .ok (.lookupswitch 59 #[(98, 57), (102, 53), (109, 55), (119, 51), (120, 57)], 51) := by decide +kernel
theorem dX2_numbersOf_52 : decode cX2_numbersOf 52 = .ok (.iconst 3, 1) := by decide +kernel
theorem dX2_numbersOf_53 : decode cX2_numbersOf 53 = .ok (.ireturn, 1) := by decide +kernel
theorem dX2_numbersOf_54 : decode cX2_numbersOf 54 = .ok (.iconst 4, 1) := by decide +kernel
theorem dX2_numbersOf_55 : decode cX2_numbersOf 55 = .ok (.ireturn, 1) := by decide +kernel
theorem dX2_numbersOf_56 : decode cX2_numbersOf 56 = .ok (.iconst 2, 1) := by decide +kernel
theorem dX2_numbersOf_57 : decode cX2_numbersOf 57 = .ok (.ireturn, 1) := by decide +kernel
theorem dX2_numbersOf_58 : decode cX2_numbersOf 58 = .ok (.iconst 1, 1) := by decide +kernel
theorem dX2_numbersOf_59 : decode cX2_numbersOf 59 = .ok (.ireturn, 1) := by decide +kernel
theorem dX2_numbersOf_60 : decode cX2_numbersOf 60 = .ok (.iconst 0, 1) := by decide +kernel
theorem dX2_numbersOf_61 : decode cX2_numbersOf 61 = .ok (.ireturn, 1) := by decide +kernel
set_option maxRecDepth 20000 in
theorem ggX2_doOrder_X4_fillCells : GoodIn wsX2_doOrder wsX4_fillCells := goodIn_r _ [6, 7, 8, 9, 10, 11, 5, 12, 13, 14, 15, 16, 17, 18, 19, 20, 21, 22, 23, 24, 25, 26, 27, 28, 29, 30, 31, 32, 33, 34, 35, 36, 37, 38, 39, 40, 41, 42, 43, 44, 45, 46, 47, 48, 49, 50, 51, 52, 53, 54, 55, 56, 57, 58, 59, 60, 61, 62, 63, 64, 65, 66, 67, 68, 69, 70, 71, 72, 73, 74, 75, 76, 77, 78, 79, 80, 81, 82, 83, 84, 85, 86, 87, 88, 89, 90, 91, 92, 93, 154, 155, 156, 157, 158, 159, 160, 161, 162, 163, 164, 165, 166, 167, 168] (by decide +kernel) (by decide +kernel)
set_option maxRecDepth 20000 in
theorem gX2_doOrder_X4_fillCells : GoodIn wsX2_doOrder (wsV RX2 61 RX4 yX4_fillCells wsX4_fillCells) := goodIn_app (goodIn_of _ (by decide +kernel)) ggX2_doOrder_X4_fillCells
set_option maxRecDepth 20000 in
theorem ggX2_doOrder_X4_mergeState : GoodIn wsX2_doOrder wsX4_mergeState := goodIn_r _ [97, 13, 7, 98, 9, 10, 11, 5, 12, 14, 15, 16, 17, 18, 19, 20, 21, 22, 23, 24, 25, 26, 27, 28, 99, 100, 101, 102, 103, 104, 105, 106, 107, 108, 109, 110, 93, 111, 112, 113, 114, 115, 8, 36, 37, 38, 39, 40, 41, 42, 43, 44, 45, 46, 47, 48, 49, 50, 51, 52, 53, 54, 55, 56, 57, 58, 59, 60, 61, 62, 63, 64, 65, 66, 67, 68, 69, 70, 71, 72, 73, 74, 75, 76, 77, 78, 79, 80, 81, 82, 83, 84, 85, 86, 87, 88, 89, 90, 91, 92, 154, 155, 156, 157, 158, 159, 160, 161, 162, 163, 164, 165, 166, 167, 168] (by decide +kernel) (by decide +kernel)
set_option maxRecDepth 20000 in
theorem gX2_doOrder_X4_mergeState : GoodIn wsX2_doOrder (wsV RX2 67 RX4 yX4_mergeState wsX4_mergeState) := goodIn_app (goodIn_of _ (by decide +kernel)) ggX2_doOrder_X4_mergeState
set_option maxRecDepth 20000 in
theorem ggX2_doOrder_X4_addBranch : GoodIn wsX2_doOrder wsX4_addBranch := goodIn_r _ [119, 13, 7, 14, 57, 22, 23, 24, 25, 26, 27, 28, 154, 155, 156, 157, 158, 159, 160, 161, 162, 163, 164] (by decide +kernel) (by decide +kernel)
set_option maxRecDepth 20000 in
theorem gX2_doOrder_X4_addBranch : GoodIn wsX2_doOrder (wsV RX2 71 RX4 yX4_addBranch wsX4_addBranch) := goodIn_app (goodIn_of _ (by decide +kernel)) ggX2_doOrder_X4_addBranch
set_option maxRecDepth 20000 in
theorem ggX2_doOrder_X4_forgetState : GoodIn wsX2_doOrder wsX4_forgetState := goodIn_r _ [123, 13, 7, 124, 40, 22, 23, 24, 25, 26, 27, 28, 125, 126, 127, 5, 128, 84, 85, 86, 87, 129, 130, 131, 132, 14, 133, 134, 135, 49, 136, 137, 138, 139, 140, 65, 41, 42, 43, 44, 45, 80, 81, 82, 83, 19, 20, 21, 141, 142, 143, 144, 93, 145, 76, 77, 78, 154, 155, 156, 157, 158, 159, 160, 161, 162, 163, 164, 165, 166, 167, 168] (by decide +kernel) (by decide +kernel)
set_option maxRecDepth 20000 in
theorem gX2_doOrder_X4_forgetState : GoodIn wsX2_doOrder (wsV RX2 74 RX4 yX4_forgetState wsX4_forgetState) := goodIn_app (goodIn_of _ (by decide +kernel)) ggX2_doOrder_X4_forgetState
theorem dX2_doOrder_0 : decode cX2_doOrder 0 = .ok (.iload_n 2, 1) := by decide +kernel
theorem dX2_doOrder_1 : decode cX2_doOrder 1 = .ok (.lookupswitch 124 #[(98, 113), (102, 67), (109, 96), (119, 43)], 43) := by decide +kernel
theorem dX2_doOrder_44 : decode cX2_doOrder 44 = .ok (.aload_n 1, 1) := by decide +kernel
theorem dX2_doOrder_45 : decode cX2_doOrder 45 = .ok (.aload_n 0, 1) := by decide +kernel
theorem dX2_doOrder_46 : decode cX2_doOrder 46 = .ok (.getfield 15, 3) := by decide +kernel
theorem dX2_doOrder_49 : decode cX2_doOrder 49 = .ok (.iconst 0, 1) := by decide +kernel
theorem dX2_doOrder_50 : decode cX2_doOrder 50 = .ok (.iaload, 1) := by decide +kernel
theorem dX2_doOrder_51 : decode cX2_doOrder 51 = .ok (.aload_n 0, 1) := by decide +kernel
theorem dX2_doOrder_52 : decode cX2_doOrder 52 = .ok (.getfield 15, 3) := by decide +kernel
theorem dX2_doOrder_55 : decode cX2_doOrder 55 = .ok (.iconst 1, 1) := by decide +kernel
theorem dX2_doOrder_56 : decode cX2_doOrder 56 = .ok (.iaload, 1) := by decide +kernel
theorem dX2_doOrder_57 : decode cX2_doOrder 57 = .ok (.iconst 1, 1) := by decide +kernel
theorem dX2_doOrder_58 : decode cX2_doOrder 58 = .ok (.aload_n 0, 1) := by decide +kernel
theorem dX2_doOrder_59 : decode cX2_doOrder 59 = .ok (.getfield 15, 3) := by decide +kernel
theorem dX2_doOrder_62 : decode cX2_doOrder 62 = .ok (.iconst 2, 1) := by decide +kernel
theorem dX2_doOrder_63 : decode cX2_doOrder 63 = .ok (.iaload, 1) := by decide +kernel
theorem dX2_doOrder_64 : decode cX2_doOrder 64 = .ok (.invokevirtual 61, 3) := by decide +kernel
theorem dX2_doOrder_67 : decode cX2_doOrder 67 = .ok (.ireturn, 1) := by decide +kernel
theorem dX2_doOrder_68 : decode cX2_doOrder 68 = .ok (.aload_n 1, 1) := by decide +kernel
theorem dX2_doOrder_69 : decode cX2_doOrder 69 = .ok (.aload_n 0, 1) := by decide +kernel
theorem dX2_doOrder_70 : decode cX2_doOrder 70 = .ok (.getfield 15, 3) := by decide +kernel
theorem dX2_doOrder_73 : decode cX2_doOrder 73 = .ok (.iconst 0, 1) := by decide +kernel
theorem dX2_doOrder_74 : decode cX2_doOrder 74 = .ok (.iaload, 1) := by decide +kernel
theorem dX2_doOrder_75 : decode cX2_doOrder 75 = .ok (.aload_n 0, 1) := by decide +kernel
theorem dX2_doOrder_76 : decode cX2_doOrder 76 = .ok (.getfield 15, 3) := by decide +kernel
theorem dX2_doOrder_79 : decode cX2_doOrder 79 = .ok (.iconst 1, 1) := by decide +kernel
theorem dX2_doOrder_80 : decode cX2_doOrder 80 = .ok (.iaload, 1) := by decide +kernel
theorem dX2_doOrder_81 : decode cX2_doOrder 81 = .ok (.aload_n 0, 1) := by decide +kernel
theorem dX2_doOrder_82 : decode cX2_doOrder 82 = .ok (.getfield 15, 3) := by decide +kernel
theorem dX2_doOrder_85 : decode cX2_doOrder 85 = .ok (.iconst 2, 1) := by decide +kernel
theorem dX2_doOrder_86 : decode cX2_doOrder 86 = .ok (.iaload, 1) := by decide +kernel
theorem dX2_doOrder_87 : decode cX2_doOrder 87 = .ok (.aload_n 0, 1) := by decide +kernel
theorem dX2_doOrder_88 : decode cX2_doOrder 88 = .ok (.getfield 15, 3) := by decide +kernel
theorem dX2_doOrder_91 : decode cX2_doOrder 91 = .ok (.iconst 3, 1) := by decide +kernel
theorem dX2_doOrder_92 : decode cX2_doOrder 92 = .ok (.iaload, 1) := by decide +kernel
theorem dX2_doOrder_93 : decode cX2_doOrder 93 = .ok (.invokevirtual 61, 3) := by decide +kernel
theorem dX2_doOrder_96 : decode cX2_doOrder 96 = .ok (.ireturn, 1) := by decide +kernel
theorem dX2_doOrder_97 : decode cX2_doOrder 97 = .ok (.aload_n 1, 1) := by decide +kernel
theorem dX2_doOrder_98 : decode cX2_doOrder 98 = .ok (.aload_n 0, 1) := by decide +kernel
theorem dX2_doOrder_99 : decode cX2_doOrder 99 = .ok (.getfield 15, 3) := by decide +kernel
theorem dX2_doOrder_102 : decode cX2_doOrder 102 = .ok (.iconst 0, 1) := by decide +kernel
theorem dX2_doOrder_103 : decode cX2_doOrder 103 = .ok (.iaload, 1) := by decide +kernel
theorem dX2_doOrder_104 : decode cX2_doOrder 104 = .ok (.aload_n 0, 1) := by decide +kernel
theorem dX2_doOrder_105 : decode cX2_doOrder 105 = .ok (.getfield 15, 3) := by decide +kernel
theorem dX2_doOrder_108 : decode cX2_doOrder 108 = .ok (.iconst 1, 1) := by decide +kernel
theorem dX2_doOrder_109 : decode cX2_doOrder 109 = .ok (.iaload, 1) := by decide +kernel
theorem dX2_doOrder_110 : decode cX2_doOrder 110 = .ok (.invokevirtual 67, 3) := by decide +kernel
theorem dX2_doOrder_113 : decode cX2_doOrder 113 = .ok (.ireturn, 1) := by decide +kernel
theorem dX2_doOrder_114 : decode cX2_doOrder 114 = .ok (.aload_n 1, 1) := by decide +kernel
theorem dX2_doOrder_115 : decode cX2_doOrder 115 = .ok (.aload_n 0, 1) := by decide +kernel
theorem dX2_doOrder_116 : decode cX2_doOrder 116 = .ok (.getfield 15, 3) := by decide +kernel
theorem dX2_doOrder_119 : decode cX2_doOrder 119 = .ok (.iconst 0, 1) := by decide +kernel
theorem dX2_doOrder_120 : decode cX2_doOrder 120 = .ok (.iaload, 1) := by decide +kernel
theorem dX2_doOrder_121 : decode cX2_doOrder 121 = .ok (.invokevirtual 71, 3) := by decide +kernel
theorem dX2_doOrder_124 : decode cX2_doOrder 124 = .ok (.ireturn, 1) := by decide +kernel
theorem dX2_doOrder_125 : decode cX2_doOrder 125 = .ok (.aload_n 1, 1) := by decide +kernel
theorem dX2_doOrder_126 : decode cX2_doOrder 126 = .ok (.aload_n 0, 1) := by decide +kernel
theorem dX2_doOrder_127 : decode cX2_doOrder 127 = .ok (.getfield 15, 3) := by decide +kernel
theorem dX2_doOrder_130 : decode cX2_doOrder 130 = .ok (.iconst 0, 1) := by decide +kernel
theorem dX2_doOrder_131 : decode cX2_doOrder 131 = .ok (.iaload, 1) := by decide +kernel
theorem dX2_doOrder_132 : decode cX2_doOrder 132 = .ok (.invokevirtual 74, 3) := by decide +kernel
theorem dX2_doOrder_135 : decode cX2_doOrder 135 = .ok (.ireturn, 1) := by decide +kernel
theorem dX3_init_0 : decode cX3_init 0 = .ok (.aload_n 0, 1) := by decide +kernel
theorem dX3_init_1 : decode cX3_init 1 = .ok (.invokespecial 3, 3) := by decide +kernel
theorem dX3_init_4 : decode cX3_init 4 = .ok (.aload_n 0, 1) := by decide +kernel
theorem dX3_init_5 : decode cX3_init 5 = .ok (.bipush 16, 2) := by decide +kernel
theorem dX3_init_7 : decode cX3_init 7 = .ok (.newarray .int, 2) := by decide +kernel
theorem dX3_init_9 : decode cX3_init 9 = .ok (.putfield 9, 3) := by decide +kernel
theorem dX3_init_12 : decode cX3_init 12 = .ok (.aload_n 0, 1) := by decide +kernel
theorem dX3_init_13 : decode cX3_init 13 = .ok (.bipush 16, 2) := by decide +kernel
theorem dX3_init_15 : decode cX3_init 15 = .ok (.newarray .int, 2) := by decide +kernel
theorem dX3_init_17 : decode cX3_init 17 = .ok (.putfield 15, 3) := by decide +kernel
theorem dX3_init_20 : decode cX3_init 20 = .ok (.aload_n 0, 1) := by decide +kernel
theorem dX3_init_21 : decode cX3_init 21 = .ok (.bipush 96, 2) := by decide +kernel
theorem dX3_init_23 : decode cX3_init 23 = .ok (.newarray .int, 2) := by decide +kernel
theorem dX3_init_25 : decode cX3_init 25 = .ok (.putfield 18, 3) := by decide +kernel
theorem dX3_init_28 : decode cX3_init 28 = .ok (.aload_n 0, 1) := by decide +kernel
theorem dX3_init_29 : decode cX3_init 29 = .ok (.iconst 1, 1) := by decide +kernel
theorem dX3_init_30 : decode cX3_init 30 = .ok (.putfield 21, 3) := by decide +kernel
theorem dX3_init_33 : decode cX3_init 33 = .ok (.aload_n 0, 1) := by decide +kernel
theorem dX3_init_34 : decode cX3_init 34 = .ok (.iconst 1, 1) := by decide +kernel
theorem dX3_init_35 : decode cX3_init 35 = .ok (.putfield 25, 3) := by decide +kernel
theorem dX3_init_38 : decode cX3_init 38 = .ok (.aload_n 0, 1) := by decide +kernel
theorem dX3_init_39 : decode cX3_init 39 = .ok (.getfield 15, 3) := by decide +kernel
theorem dX3_init_42 : decode cX3_init 42 = .ok (.iconst 0, 1) := by decide +kernel
theorem dX3_init_43 : decode cX3_init 43 = .ok (.iconst (-1), 1) := by decide +kernel
theorem dX3_init_44 : decode cX3_init 44 = .ok (.iastore, 1) := by decide +kernel
theorem dX3_init_45 : decode cX3_init 45 = .ok (.return_, 1) := by decide +kernel
theorem dX3_becomeLike_0 : decode cX3_becomeLike 0 = .ok (.aload_n 1, 1) := by decide +kernel
theorem dX3_becomeLike_1 : decode cX3_becomeLike 1 = .ok (.getfield 9, 3) := by decide +kernel
theorem dX3_becomeLike_4 : decode cX3_becomeLike 4 = .ok (.iconst 0, 1) := by decide +kernel
theorem dX3_becomeLike_5 : decode cX3_becomeLike 5 = .ok (.aload_n 0, 1) := by decide +kernel
theorem dX3_becomeLike_6 : decode cX3_becomeLike 6 = .ok (.getfield 9, 3) := by decide +kernel
theorem dX3_becomeLike_9 : decode cX3_becomeLike 9 = .ok (.iconst 0, 1) := by decide +kernel
theorem dX3_becomeLike_10 : decode cX3_becomeLike 10 = .ok (.aload_n 0, 1) := by decide +kernel
theorem dX3_becomeLike_11 : decode cX3_becomeLike 11 = .ok (.getfield 9, 3) := by decide +kernel
theorem dX3_becomeLike_14 : decode cX3_becomeLike 14 = .ok (.arraylength, 1) := by decide +kernel
theorem dX3_becomeLike_15 : decode cX3_becomeLike 15 = .ok (.invokestatic 28, 3) := by decide +kernel
theorem dX3_becomeLike_18 : decode cX3_becomeLike 18 = .ok (.aload_n 1, 1) := by decide +kernel
theorem dX3_becomeLike_19 : decode cX3_becomeLike 19 = .ok (.getfield 15, 3) := by decide +kernel
theorem dX3_becomeLike_22 : decode cX3_becomeLike 22 = .ok (.iconst 0, 1) := by decide +kernel
theorem dX3_becomeLike_23 : decode cX3_becomeLike 23 = .ok (.aload_n 0, 1) := by decide +kernel
theorem dX3_becomeLike_24 : decode cX3_becomeLike 24 = .ok (.getfield 15, 3) := by decide +kernel
theorem dX3_becomeLike_27 : decode cX3_becomeLike 27 = .ok (.iconst 0, 1) := by decide +kernel
theorem dX3_becomeLike_28 : decode cX3_becomeLike 28 = .ok (.aload_n 0, 1) := by decide +kernel
theorem dX3_becomeLike_29 : decode cX3_becomeLike 29 = .ok (.getfield 15, 3) := by decide +kernel
theorem dX3_becomeLike_32 : decode cX3_becomeLike 32 = .ok (.arraylength, 1) := by decide +kernel
theorem dX3_becomeLike_33 : decode cX3_becomeLike 33 = .ok (.invokestatic 28, 3) := by decide +kernel
theorem dX3_becomeLike_36 : decode cX3_becomeLike 36 = .ok (.aload_n 1, 1) := by decide +kernel
theorem dX3_becomeLike_37 : decode cX3_becomeLike 37 = .ok (.getfield 18, 3) := by decide +kernel
theorem dX3_becomeLike_40 : decode cX3_becomeLike 40 = .ok (.iconst 0, 1) := by decide +kernel
theorem dX3_becomeLike_41 : decode cX3_becomeLike 41 = .ok (.aload_n 0, 1) := by decide +kernel
theorem dX3_becomeLike_42 : decode cX3_becomeLike 42 = .ok (.getfield 18, 3) := by decide +kernel
theorem dX3_becomeLike_45 : decode cX3_becomeLike 45 = .ok (.iconst 0, 1) := by decide +kernel
theorem dX3_becomeLike_46 : decode cX3_becomeLike 46 = .ok (.aload_n 0, 1) := by decide +kernel
theorem dX3_becomeLike_47 : decode cX3_becomeLike 47 = .ok (.getfield 18, 3) := by decide +kernel
theorem dX3_becomeLike_50 : decode cX3_becomeLike 50 = .ok (.arraylength, 1) := by decide +kernel
theorem dX3_becomeLike_51 : decode cX3_becomeLike 51 = .ok (.invokestatic 28, 3) := by decide +kernel
theorem dX3_becomeLike_54 : decode cX3_becomeLike 54 = .ok (.aload_n 0, 1) := by decide +kernel
theorem dX3_becomeLike_55 : decode cX3_becomeLike 55 = .ok (.aload_n 1, 1) := by decide +kernel
theorem dX3_becomeLike_56 : decode cX3_becomeLike 56 = .ok (.getfield 21, 3) := by decide +kernel
theorem dX3_becomeLike_59 : decode cX3_becomeLike 59 = .ok (.putfield 21, 3) := by decide +kernel
theorem dX3_becomeLike_62 : decode cX3_becomeLike 62 = .ok (.aload_n 0, 1) := by decide +kernel
theorem dX3_becomeLike_63 : decode cX3_becomeLike 63 = .ok (.aload_n 1, 1) := by decide +kernel
theorem dX3_becomeLike_64 : decode cX3_becomeLike 64 = .ok (.getfield 25, 3) := by decide +kernel
theorem dX3_becomeLike_67 : decode cX3_becomeLike 67 = .ok (.putfield 25, 3) := by decide +kernel
theorem dX3_becomeLike_70 : decode cX3_becomeLike 70 = .ok (.return_, 1) := by decide +kernel
theorem dX3_slotOf_0 : decode cX3_slotOf 0 = .ok (.iconst 0, 1) := by decide +kernel
theorem dX3_slotOf_1 : decode cX3_slotOf 1 = .ok (.istore_n 2, 1) := by decide +kernel
theorem dX3_slotOf_2 : decode cX3_slotOf 2 = .ok (.iload_n 2, 1) := by decide +kernel
theorem dX3_slotOf_3 : decode cX3_slotOf 3 = .ok (.aload_n 0, 1) := by decide +kernel
theorem dX3_slotOf_4 : decode cX3_slotOf 4 = .ok (.getfield 21, 3) := by decide +kernel
theorem dX3_slotOf_7 : decode cX3_slotOf 7 = .ok (.if_icmp .ge 21, 3) := by decide +kernel
theorem dX3_slotOf_10 : decode cX3_slotOf 10 = .ok (.aload_n 0, 1) := by decide +kernel
theorem dX3_slotOf_11 : decode cX3_slotOf 11 = .ok (.getfield 9, 3) := by decide +kernel
theorem dX3_slotOf_14 : decode cX3_slotOf 14 = .ok (.iload_n 2, 1) := by decide +kernel
theorem dX3_slotOf_15 : decode cX3_slotOf 15 = .ok (.iaload, 1) := by decide +kernel
theorem dX3_slotOf_16 : decode cX3_slotOf 16 = .ok (.iload_n 1, 1) := by decide +kernel
theorem dX3_slotOf_17 : decode cX3_slotOf 17 = .ok (.if_icmp .ne 5, 3) := by decide +kernel
theorem dX3_slotOf_20 : decode cX3_slotOf 20 = .ok (.iload_n 2, 1) := by decide +kernel
theorem dX3_slotOf_21 : decode cX3_slotOf 21 = .ok (.ireturn, 1) := by decide +kernel
theorem dX3_slotOf_22 : decode cX3_slotOf 22 = .ok (.iinc 2 1, 3) := by decide +kernel
theorem dX3_slotOf_25 : decode cX3_slotOf 25 = .ok (.goto (-23), 3) := by decide +kernel
theorem dX3_slotOf_28 : decode cX3_slotOf 28 = .ok (.iconst (-1), 1) := by decide +kernel
theorem dX3_slotOf_29 : decode cX3_slotOf 29 = .ok (.ireturn, 1) := by decide +kernel
theorem dX3_numberOf_0 : decode cX3_numberOf 0 = .ok (.iload_n 1, 1) := by decide +kernel
theorem dX3_numberOf_1 : decode cX3_numberOf 1 = .ok (.ifCond .lt 20, 3) := by decide +kernel
theorem dX3_numberOf_4 : decode cX3_numberOf 4 = .ok (.iload_n 1, 1) := by decide +kernel
theorem dX3_numberOf_5 : decode cX3_numberOf 5 = .ok (.aload_n 0, 1) := by decide +kernel
theorem dX3_numberOf_6 : decode cX3_numberOf 6 = .ok (.getfield 21, 3) := by decide +kernel
theorem dX3_numberOf_9 : decode cX3_numberOf 9 = .ok (.if_icmp .ge 12, 3) := by decide +kernel
theorem dX3_numberOf_12 : decode cX3_numberOf 12 = .ok (.aload_n 0, 1) := by decide +kernel
theorem dX3_numberOf_13 : decode cX3_numberOf 13 = .ok (.getfield 9, 3) := by decide +kernel
theorem dX3_numberOf_16 : decode cX3_numberOf 16 = .ok (.iload_n 1, 1) := by decide +kernel
theorem dX3_numberOf_17 : decode cX3_numberOf 17 = .ok (.iaload, 1) := by decide +kernel
theorem dX3_numberOf_18 : decode cX3_numberOf 18 = .ok (.goto 4, 3) := by decide +kernel
theorem dX3_numberOf_21 : decode cX3_numberOf 21 = .ok (.iconst (-1), 1) := by decide +kernel
theorem dX3_numberOf_22 : decode cX3_numberOf 22 = .ok (.ireturn, 1) := by decide +kernel
theorem dX3_parentOf_0 : decode cX3_parentOf 0 = .ok (.iload_n 1, 1) := by decide +kernel
theorem dX3_parentOf_1 : decode cX3_parentOf 1 = .ok (.ifCond .lt 20, 3) := by decide +kernel
theorem dX3_parentOf_4 : decode cX3_parentOf 4 = .ok (.iload_n 1, 1) := by decide +kernel
theorem dX3_parentOf_5 : decode cX3_parentOf 5 = .ok (.aload_n 0, 1) := by decide +kernel
theorem dX3_parentOf_6 : decode cX3_parentOf 6 = .ok (.getfield 21, 3) := by decide +kernel
theorem dX3_parentOf_9 : decode cX3_parentOf 9 = .ok (.if_icmp .ge 12, 3) := by decide +kernel
theorem dX3_parentOf_12 : decode cX3_parentOf 12 = .ok (.aload_n 0, 1) := by decide +kernel
theorem dX3_parentOf_13 : decode cX3_parentOf 13 = .ok (.getfield 15, 3) := by decide +kernel
theorem dX3_parentOf_16 : decode cX3_parentOf 16 = .ok (.iload_n 1, 1) := by decide +kernel
theorem dX3_parentOf_17 : decode cX3_parentOf 17 = .ok (.iaload, 1) := by decide +kernel
theorem dX3_parentOf_18 : decode cX3_parentOf 18 = .ok (.goto 4, 3) := by decide +kernel
theorem dX3_parentOf_21 : decode cX3_parentOf 21 = .ok (.iconst (-1), 1) := by decide +kernel
theorem dX3_parentOf_22 : decode cX3_parentOf 22 = .ok (.ireturn, 1) := by decide +kernel
set_option maxRecDepth 20000 in
theorem ggX3_parentSlot_X3_parentOf : GoodIn wsX3_parentSlot wsX3_parentOf := goodIn_r _ [5, 6, 7, 13, 14, 15, 16, 17] (by decide +kernel) (by decide +kernel)
set_option maxRecDepth 20000 in
theorem gX3_parentSlot_X3_parentOf : GoodIn wsX3_parentSlot (wsV RX3 34 RX3 yX3_parentOf wsX3_parentOf) := goodIn_app (goodIn_of _ (by decide +kernel)) ggX3_parentSlot_X3_parentOf
set_option maxRecDepth 20000 in
theorem ggX3_parentSlot_X3_slotOf : GoodIn wsX3_parentSlot wsX3_slotOf := goodIn_r _ [11, 6, 12, 13, 14, 15, 16, 17] (by decide +kernel) (by decide +kernel)
set_option maxRecDepth 20000 in
theorem gX3_parentSlot_X3_slotOf : GoodIn wsX3_parentSlot (wsV RX3 38 RX3 yX3_slotOf wsX3_slotOf) := goodIn_app (goodIn_of _ (by decide +kernel)) ggX3_parentSlot_X3_slotOf
theorem dX3_parentSlot_0 : decode cX3_parentSlot 0 = .ok (.aload_n 0, 1) := by decide +kernel
theorem dX3_parentSlot_1 : decode cX3_parentSlot 1 = .ok (.aload_n 0, 1) := by decide +kernel
theorem dX3_parentSlot_2 : decode cX3_parentSlot 2 = .ok (.iload_n 1, 1) := by decide +kernel
theorem dX3_parentSlot_3 : decode cX3_parentSlot 3 = .ok (.invokevirtual 34, 3) := by decide +kernel
theorem dX3_parentSlot_6 : decode cX3_parentSlot 6 = .ok (.invokevirtual 38, 3) := by decide +kernel
theorem dX3_parentSlot_9 : decode cX3_parentSlot 9 = .ok (.ireturn, 1) := by decide +kernel
theorem dX3_block_0 : decode cX3_block 0 = .ok (.iload_n 1, 1) := by decide +kernel
theorem dX3_block_1 : decode cX3_block 1 = .ok (.ifCond .lt 25, 3) := by decide +kernel
theorem dX3_block_4 : decode cX3_block 4 = .ok (.iload_n 1, 1) := by decide +kernel
theorem dX3_block_5 : decode cX3_block 5 = .ok (.aload_n 0, 1) := by decide +kernel
theorem dX3_block_6 : decode cX3_block 6 = .ok (.getfield 21, 3) := by decide +kernel
theorem dX3_block_9 : decode cX3_block 9 = .ok (.if_icmp .ge 17, 3) := by decide +kernel
theorem dX3_block_12 : decode cX3_block 12 = .ok (.iload_n 2, 1) := by decide +kernel
theorem dX3_block_13 : decode cX3_block 13 = .ok (.ifCond .lt 13, 3) := by decide +kernel
theorem dX3_block_16 : decode cX3_block 16 = .ok (.iload_n 2, 1) := by decide +kernel
theorem dX3_block_17 : decode cX3_block 17 = .ok (.bipush 6, 2) := by decide +kernel
theorem dX3_block_19 : decode cX3_block 19 = .ok (.if_icmp .ge 7, 3) := by decide +kernel
theorem dX3_block_22 : decode cX3_block 22 = .ok (.iconst 1, 1) := by decide +kernel
theorem dX3_block_23 : decode cX3_block 23 = .ok (.goto 4, 3) := by decide +kernel
theorem dX3_block_26 : decode cX3_block 26 = .ok (.iconst 0, 1) := by decide +kernel
theorem dX3_block_27 : decode cX3_block 27 = .ok (.istore_n 3, 1) := by decide +kernel
theorem dX3_block_28 : decode cX3_block 28 = .ok (.iload_n 3, 1) := by decide +kernel
theorem dX3_block_29 : decode cX3_block 29 = .ok (.ifCond .eq 17, 3) := by decide +kernel
theorem dX3_block_32 : decode cX3_block 32 = .ok (.aload_n 0, 1) := by decide +kernel
theorem dX3_block_33 : decode cX3_block 33 = .ok (.getfield 18, 3) := by decide +kernel
theorem dX3_block_36 : decode cX3_block 36 = .ok (.iload_n 1, 1) := by decide +kernel
theorem dX3_block_37 : decode cX3_block 37 = .ok (.bipush 6, 2) := by decide +kernel
theorem dX3_block_39 : decode cX3_block 39 = .ok (.imul, 1) := by decide +kernel
theorem dX3_block_40 : decode cX3_block 40 = .ok (.iload_n 2, 1) := by decide +kernel
theorem dX3_block_41 : decode cX3_block 41 = .ok (.iadd, 1) := by decide +kernel
theorem dX3_block_42 : decode cX3_block 42 = .ok (.iaload, 1) := by decide +kernel
theorem dX3_block_43 : decode cX3_block 43 = .ok (.goto 4, 3) := by decide +kernel
theorem dX3_block_46 : decode cX3_block 46 = .ok (.iconst (-1), 1) := by decide +kernel
theorem dX3_block_47 : decode cX3_block 47 = .ok (.ireturn, 1) := by decide +kernel
theorem dX3_add_0 : decode cX3_add 0 = .ok (.aload_n 0, 1) := by decide +kernel
theorem dX3_add_1 : decode cX3_add 1 = .ok (.getfield 9, 3) := by decide +kernel
theorem dX3_add_4 : decode cX3_add 4 = .ok (.aload_n 0, 1) := by decide +kernel
theorem dX3_add_5 : decode cX3_add 5 = .ok (.getfield 21, 3) := by decide +kernel
theorem dX3_add_8 : decode cX3_add 8 = .ok (.aload_n 0, 1) := by decide +kernel
theorem dX3_add_9 : decode cX3_add 9 = .ok (.getfield 25, 3) := by decide +kernel
theorem dX3_add_12 : decode cX3_add 12 = .ok (.iastore, 1) := by decide +kernel
theorem dX3_add_13 : decode cX3_add 13 = .ok (.aload_n 0, 1) := by decide +kernel
theorem dX3_add_14 : decode cX3_add 14 = .ok (.getfield 15, 3) := by decide +kernel
theorem dX3_add_17 : decode cX3_add 17 = .ok (.aload_n 0, 1) := by decide +kernel
theorem dX3_add_18 : decode cX3_add 18 = .ok (.getfield 21, 3) := by decide +kernel
theorem dX3_add_21 : decode cX3_add 21 = .ok (.iload_n 1, 1) := by decide +kernel
theorem dX3_add_22 : decode cX3_add 22 = .ok (.iastore, 1) := by decide +kernel
theorem dX3_add_23 : decode cX3_add 23 = .ok (.aload_n 0, 1) := by decide +kernel
theorem dX3_add_24 : decode cX3_add 24 = .ok (.dup, 1) := by decide +kernel
theorem dX3_add_25 : decode cX3_add 25 = .ok (.getfield 21, 3) := by decide +kernel
theorem dX3_add_28 : decode cX3_add 28 = .ok (.iconst 1, 1) := by decide +kernel
theorem dX3_add_29 : decode cX3_add 29 = .ok (.iadd, 1) := by decide +kernel
theorem dX3_add_30 : decode cX3_add 30 = .ok (.putfield 21, 3) := by decide +kernel
theorem dX3_add_33 : decode cX3_add 33 = .ok (.aload_n 0, 1) := by decide +kernel
theorem dX3_add_34 : decode cX3_add 34 = .ok (.dup, 1) := by decide +kernel
theorem dX3_add_35 : decode cX3_add 35 = .ok (.getfield 25, 3) := by decide +kernel
theorem dX3_add_38 : decode cX3_add 38 = .ok (.iconst 1, 1) := by decide +kernel
theorem dX3_add_39 : decode cX3_add 39 = .ok (.iadd, 1) := by decide +kernel
theorem dX3_add_40 : decode cX3_add 40 = .ok (.putfield 25, 3) := by decide +kernel
theorem dX3_add_43 : decode cX3_add 43 = .ok (.aload_n 0, 1) := by decide +kernel
theorem dX3_add_44 : decode cX3_add 44 = .ok (.getfield 25, 3) := by decide +kernel
theorem dX3_add_47 : decode cX3_add 47 = .ok (.iconst 1, 1) := by decide +kernel
theorem dX3_add_48 : decode cX3_add 48 = .ok (.isub, 1) := by decide +kernel
theorem dX3_add_49 : decode cX3_add 49 = .ok (.ireturn, 1) := by decide +kernel
set_option maxRecDepth 20000 in
theorem ggX3_remove_X5_isIndex : GoodIn wsX3_remove wsX5_isIndex := goodIn_r _ [11] (by decide +kernel) (by decide +kernel)
set_option maxRecDepth 20000 in
theorem gX3_remove_X5_isIndex_n41 : GoodIn wsX3_remove (wsX5_isIndex) := ggX3_remove_X5_isIndex
theorem dX3_remove_0 : decode cX3_remove 0 = .ok (.iload_n 1, 1) := by decide +kernel
theorem dX3_remove_1 : decode cX3_remove 1 = .ok (.aload_n 0, 1) := by decide +kernel
theorem dX3_remove_2 : decode cX3_remove 2 = .ok (.getfield 21, 3) := by decide +kernel
theorem dX3_remove_5 : decode cX3_remove 5 = .ok (.invokestatic 41, 3) := by decide +kernel
theorem dX3_remove_8 : decode cX3_remove 8 = .ok (.ifCond .ne 4, 3) := by decide +kernel
theorem dX3_remove_11 : decode cX3_remove 11 = .ok (.return_, 1) := by decide +kernel
theorem dX3_remove_12 : decode cX3_remove 12 = .ok (.iload_n 1, 1) := by decide +kernel
theorem dX3_remove_13 : decode cX3_remove 13 = .ok (.iconst 1, 1) := by decide +kernel
theorem dX3_remove_14 : decode cX3_remove 14 = .ok (.iadd, 1) := by decide +kernel
theorem dX3_remove_15 : decode cX3_remove 15 = .ok (.istore_n 2, 1) := by decide +kernel
theorem dX3_remove_16 : decode cX3_remove 16 = .ok (.iload_n 2, 1) := by decide +kernel
theorem dX3_remove_17 : decode cX3_remove 17 = .ok (.aload_n 0, 1) := by decide +kernel
theorem dX3_remove_18 : decode cX3_remove 18 = .ok (.getfield 21, 3) := by decide +kernel
theorem dX3_remove_21 : decode cX3_remove 21 = .ok (.if_icmp .ge 36, 3) := by decide +kernel
theorem dX3_remove_24 : decode cX3_remove 24 = .ok (.aload_n 0, 1) := by decide +kernel
theorem dX3_remove_25 : decode cX3_remove 25 = .ok (.getfield 15, 3) := by decide +kernel
theorem dX3_remove_28 : decode cX3_remove 28 = .ok (.iload_n 2, 1) := by decide +kernel
theorem dX3_remove_29 : decode cX3_remove 29 = .ok (.iaload, 1) := by decide +kernel
theorem dX3_remove_30 : decode cX3_remove 30 = .ok (.aload_n 0, 1) := by decide +kernel
theorem dX3_remove_31 : decode cX3_remove 31 = .ok (.getfield 9, 3) := by decide +kernel
theorem dX3_remove_34 : decode cX3_remove 34 = .ok (.iload_n 1, 1) := by decide +kernel
theorem dX3_remove_35 : decode cX3_remove 35 = .ok (.iaload, 1) := by decide +kernel
theorem dX3_remove_36 : decode cX3_remove 36 = .ok (.if_icmp .ne 15, 3) := by decide +kernel
theorem dX3_remove_39 : decode cX3_remove 39 = .ok (.aload_n 0, 1) := by decide +kernel
theorem dX3_remove_40 : decode cX3_remove 40 = .ok (.getfield 15, 3) := by decide +kernel
theorem dX3_remove_43 : decode cX3_remove 43 = .ok (.iload_n 2, 1) := by decide +kernel
theorem dX3_remove_44 : decode cX3_remove 44 = .ok (.aload_n 0, 1) := by decide +kernel
theorem dX3_remove_45 : decode cX3_remove 45 = .ok (.getfield 15, 3) := by decide +kernel
theorem dX3_remove_48 : decode cX3_remove 48 = .ok (.iload_n 1, 1) := by decide +kernel
theorem dX3_remove_49 : decode cX3_remove 49 = .ok (.iaload, 1) := by decide +kernel
theorem dX3_remove_50 : decode cX3_remove 50 = .ok (.iastore, 1) := by decide +kernel
theorem dX3_remove_51 : decode cX3_remove 51 = .ok (.iinc 2 1, 3) := by decide +kernel
theorem dX3_remove_54 : decode cX3_remove 54 = .ok (.goto (-38), 3) := by decide +kernel
theorem dX3_remove_57 : decode cX3_remove 57 = .ok (.aload_n 0, 1) := by decide +kernel
theorem dX3_remove_58 : decode cX3_remove 58 = .ok (.getfield 21, 3) := by decide +kernel
theorem dX3_remove_61 : decode cX3_remove 61 = .ok (.iload_n 1, 1) := by decide +kernel
theorem dX3_remove_62 : decode cX3_remove 62 = .ok (.isub, 1) := by decide +kernel
theorem dX3_remove_63 : decode cX3_remove 63 = .ok (.iconst 1, 1) := by decide +kernel
theorem dX3_remove_64 : decode cX3_remove 64 = .ok (.isub, 1) := by decide +kernel
theorem dX3_remove_65 : decode cX3_remove 65 = .ok (.istore_n 2, 1) := by decide +kernel
theorem dX3_remove_66 : decode cX3_remove 66 = .ok (.aload_n 0, 1) := by decide +kernel
theorem dX3_remove_67 : decode cX3_remove 67 = .ok (.getfield 9, 3) := by decide +kernel
theorem dX3_remove_70 : decode cX3_remove 70 = .ok (.iload_n 1, 1) := by decide +kernel
theorem dX3_remove_71 : decode cX3_remove 71 = .ok (.iconst 1, 1) := by decide +kernel
theorem dX3_remove_72 : decode cX3_remove 72 = .ok (.iadd, 1) := by decide +kernel
theorem dX3_remove_73 : decode cX3_remove 73 = .ok (.aload_n 0, 1) := by decide +kernel
theorem dX3_remove_74 : decode cX3_remove 74 = .ok (.getfield 9, 3) := by decide +kernel
theorem dX3_remove_77 : decode cX3_remove 77 = .ok (.iload_n 1, 1) := by decide +kernel
theorem dX3_remove_78 : decode cX3_remove 78 = .ok (.iload_n 2, 1) := by decide +kernel
theorem dX3_remove_79 : decode cX3_remove 79 = .ok (.invokestatic 28, 3) := by decide +kernel
theorem dX3_remove_82 : decode cX3_remove 82 = .ok (.aload_n 0, 1) := by decide +kernel
theorem dX3_remove_83 : decode cX3_remove 83 = .ok (.getfield 15, 3) := by decide +kernel
theorem dX3_remove_86 : decode cX3_remove 86 = .ok (.iload_n 1, 1) := by decide +kernel
theorem dX3_remove_87 : decode cX3_remove 87 = .ok (.iconst 1, 1) := by decide +kernel
theorem dX3_remove_88 : decode cX3_remove 88 = .ok (.iadd, 1) := by decide +kernel
theorem dX3_remove_89 : decode cX3_remove 89 = .ok (.aload_n 0, 1) := by decide +kernel
theorem dX3_remove_90 : decode cX3_remove 90 = .ok (.getfield 15, 3) := by decide +kernel
theorem dX3_remove_93 : decode cX3_remove 93 = .ok (.iload_n 1, 1) := by decide +kernel
theorem dX3_remove_94 : decode cX3_remove 94 = .ok (.iload_n 2, 1) := by decide +kernel
theorem dX3_remove_95 : decode cX3_remove 95 = .ok (.invokestatic 28, 3) := by decide +kernel
theorem dX3_remove_98 : decode cX3_remove 98 = .ok (.aload_n 0, 1) := by decide +kernel
theorem dX3_remove_99 : decode cX3_remove 99 = .ok (.getfield 18, 3) := by decide +kernel
theorem dX3_remove_102 : decode cX3_remove 102 = .ok (.iload_n 1, 1) := by decide +kernel
theorem dX3_remove_103 : decode cX3_remove 103 = .ok (.iconst 1, 1) := by decide +kernel
theorem dX3_remove_104 : decode cX3_remove 104 = .ok (.iadd, 1) := by decide +kernel
theorem dX3_remove_105 : decode cX3_remove 105 = .ok (.bipush 6, 2) := by decide +kernel
theorem dX3_remove_107 : decode cX3_remove 107 = .ok (.imul, 1) := by decide +kernel
theorem dX3_remove_108 : decode cX3_remove 108 = .ok (.aload_n 0, 1) := by decide +kernel
theorem dX3_remove_109 : decode cX3_remove 109 = .ok (.getfield 18, 3) := by decide +kernel
theorem dX3_remove_112 : decode cX3_remove 112 = .ok (.iload_n 1, 1) := by decide +kernel
theorem dX3_remove_113 : decode cX3_remove 113 = .ok (.bipush 6, 2) := by decide +kernel
theorem dX3_remove_115 : decode cX3_remove 115 = .ok (.imul, 1) := by decide +kernel
theorem dX3_remove_116 : decode cX3_remove 116 = .ok (.iload_n 2, 1) := by decide +kernel
theorem dX3_remove_117 : decode cX3_remove 117 = .ok (.bipush 6, 2) := by decide +kernel
theorem dX3_remove_119 : decode cX3_remove 119 = .ok (.imul, 1) := by decide +kernel
theorem dX3_remove_120 : decode cX3_remove 120 = .ok (.invokestatic 28, 3) := by decide +kernel
theorem dX3_remove_123 : decode cX3_remove 123 = .ok (.aload_n 0, 1) := by decide +kernel
theorem dX3_remove_124 : decode cX3_remove 124 = .ok (.dup, 1) := by decide +kernel
theorem dX3_remove_125 : decode cX3_remove 125 = .ok (.getfield 21, 3) := by decide +kernel
theorem dX3_remove_128 : decode cX3_remove 128 = .ok (.iconst 1, 1) := by decide +kernel
theorem dX3_remove_129 : decode cX3_remove 129 = .ok (.isub, 1) := by decide +kernel
theorem dX3_remove_130 : decode cX3_remove 130 = .ok (.putfield 21, 3) := by decide +kernel
theorem dX3_remove_133 : decode cX3_remove 133 = .ok (.return_, 1) := by decide +kernel
set_option maxRecDepth 20000 in
theorem ggX3_childrenOf_X3_numberOf : GoodIn wsX3_childrenOf wsX3_numberOf := goodIn_r _ [7, 1, 8, 9, 10, 11, 12, 13] (by decide +kernel) (by decide +kernel)
set_option maxRecDepth 20000 in
theorem gX3_childrenOf_X3_numberOf : GoodIn wsX3_childrenOf (wsV RX3 45 RX3 yX3_numberOf wsX3_numberOf) := goodIn_app (goodIn_of _ (by decide +kernel)) ggX3_childrenOf_X3_numberOf
theorem dX3_childrenOf_0 : decode cX3_childrenOf 0 = .ok (.iconst 0, 1) := by decide +kernel
theorem dX3_childrenOf_1 : decode cX3_childrenOf 1 = .ok (.istore_n 2, 1) := by decide +kernel
theorem dX3_childrenOf_2 : decode cX3_childrenOf 2 = .ok (.iload_n 1, 1) := by decide +kernel
theorem dX3_childrenOf_3 : decode cX3_childrenOf 3 = .ok (.iconst 1, 1) := by decide +kernel
theorem dX3_childrenOf_4 : decode cX3_childrenOf 4 = .ok (.iadd, 1) := by decide +kernel
theorem dX3_childrenOf_5 : decode cX3_childrenOf 5 = .ok (.istore_n 3, 1) := by decide +kernel
theorem dX3_childrenOf_6 : decode cX3_childrenOf 6 = .ok (.iload_n 3, 1) := by decide +kernel
theorem dX3_childrenOf_7 : decode cX3_childrenOf 7 = .ok (.aload_n 0, 1) := by decide +kernel
theorem dX3_childrenOf_8 : decode cX3_childrenOf 8 = .ok (.getfield 21, 3) := by decide +kernel
theorem dX3_childrenOf_11 : decode cX3_childrenOf 11 = .ok (.if_icmp .ge 31, 3) := by decide +kernel
theorem dX3_childrenOf_14 : decode cX3_childrenOf 14 = .ok (.iload_n 2, 1) := by decide +kernel
theorem dX3_childrenOf_15 : decode cX3_childrenOf 15 = .ok (.aload_n 0, 1) := by decide +kernel
theorem dX3_childrenOf_16 : decode cX3_childrenOf 16 = .ok (.getfield 15, 3) := by decide +kernel
theorem dX3_childrenOf_19 : decode cX3_childrenOf 19 = .ok (.iload_n 3, 1) := by decide +kernel
theorem dX3_childrenOf_20 : decode cX3_childrenOf 20 = .ok (.iaload, 1) := by decide +kernel
theorem dX3_childrenOf_21 : decode cX3_childrenOf 21 = .ok (.aload_n 0, 1) := by decide +kernel
theorem dX3_childrenOf_22 : decode cX3_childrenOf 22 = .ok (.iload_n 1, 1) := by decide +kernel
theorem dX3_childrenOf_23 : decode cX3_childrenOf 23 = .ok (.invokevirtual 45, 3) := by decide +kernel
theorem dX3_childrenOf_26 : decode cX3_childrenOf 26 = .ok (.if_icmp .ne 7, 3) := by decide +kernel
theorem dX3_childrenOf_29 : decode cX3_childrenOf 29 = .ok (.iconst 1, 1) := by decide +kernel
theorem dX3_childrenOf_30 : decode cX3_childrenOf 30 = .ok (.goto 4, 3) := by decide +kernel
theorem dX3_childrenOf_33 : decode cX3_childrenOf 33 = .ok (.iconst 0, 1) := by decide +kernel
theorem dX3_childrenOf_34 : decode cX3_childrenOf 34 = .ok (.iadd, 1) := by decide +kernel
theorem dX3_childrenOf_35 : decode cX3_childrenOf 35 = .ok (.istore_n 2, 1) := by decide +kernel
theorem dX3_childrenOf_36 : decode cX3_childrenOf 36 = .ok (.iinc 3 1, 3) := by decide +kernel
theorem dX3_childrenOf_39 : decode cX3_childrenOf 39 = .ok (.goto (-33), 3) := by decide +kernel
theorem dX3_childrenOf_42 : decode cX3_childrenOf 42 = .ok (.iload_n 2, 1) := by decide +kernel
theorem dX3_childrenOf_43 : decode cX3_childrenOf 43 = .ok (.ireturn, 1) := by decide +kernel
set_option maxRecDepth 20000 in
theorem ggX3_stepsFrom_X3_parentSlot : GoodIn wsX3_stepsFrom wsX3_parentSlot := goodIn_r _ [5, 6, 7, 8, 4, 9, 10, 11, 12, 13, 14, 15, 16, 17, 18, 19, 20, 21] (by decide +kernel) (by decide +kernel)
set_option maxRecDepth 20000 in
theorem gX3_stepsFrom_X3_parentSlot : GoodIn wsX3_stepsFrom (wsV RX3 48 RX3 yX3_parentSlot wsX3_parentSlot) := goodIn_app (goodIn_of _ (by decide +kernel)) ggX3_stepsFrom_X3_parentSlot
theorem dX3_stepsFrom_0 : decode cX3_stepsFrom 0 = .ok (.iconst 0, 1) := by decide +kernel
theorem dX3_stepsFrom_1 : decode cX3_stepsFrom 1 = .ok (.istore_n 2, 1) := by decide +kernel
theorem dX3_stepsFrom_2 : decode cX3_stepsFrom 2 = .ok (.iload_n 1, 1) := by decide +kernel
theorem dX3_stepsFrom_3 : decode cX3_stepsFrom 3 = .ok (.istore_n 3, 1) := by decide +kernel
theorem dX3_stepsFrom_4 : decode cX3_stepsFrom 4 = .ok (.iconst 0, 1) := by decide +kernel
theorem dX3_stepsFrom_5 : decode cX3_stepsFrom 5 = .ok (.istore 4, 2) := by decide +kernel
theorem dX3_stepsFrom_7 : decode cX3_stepsFrom 7 = .ok (.iload 4, 2) := by decide +kernel
theorem dX3_stepsFrom_9 : decode cX3_stepsFrom 9 = .ok (.bipush 16, 2) := by decide +kernel
theorem dX3_stepsFrom_11 : decode cX3_stepsFrom 11 = .ok (.if_icmp .ge 22, 3) := by decide +kernel
theorem dX3_stepsFrom_14 : decode cX3_stepsFrom 14 = .ok (.iload_n 3, 1) := by decide +kernel
theorem dX3_stepsFrom_15 : decode cX3_stepsFrom 15 = .ok (.ifCond .le 18, 3) := by decide +kernel
theorem dX3_stepsFrom_18 : decode cX3_stepsFrom 18 = .ok (.aload_n 0, 1) := by decide +kernel
theorem dX3_stepsFrom_19 : decode cX3_stepsFrom 19 = .ok (.iload_n 3, 1) := by decide +kernel
theorem dX3_stepsFrom_20 : decode cX3_stepsFrom 20 = .ok (.invokevirtual 48, 3) := by decide +kernel
theorem dX3_stepsFrom_23 : decode cX3_stepsFrom 23 = .ok (.istore_n 3, 1) := by decide +kernel
theorem dX3_stepsFrom_24 : decode cX3_stepsFrom 24 = .ok (.iinc 2 1, 3) := by decide +kernel
theorem dX3_stepsFrom_27 : decode cX3_stepsFrom 27 = .ok (.iinc 4 1, 3) := by decide +kernel
theorem dX3_stepsFrom_30 : decode cX3_stepsFrom 30 = .ok (.goto (-23), 3) := by decide +kernel
theorem dX3_stepsFrom_33 : decode cX3_stepsFrom 33 = .ok (.iload_n 2, 1) := by decide +kernel
theorem dX3_stepsFrom_34 : decode cX3_stepsFrom 34 = .ok (.ireturn, 1) := by decide +kernel
set_option maxRecDepth 20000 in
theorem ggX3_commonSlot_X3_parentSlot : GoodIn wsX3_commonSlot wsX3_parentSlot := goodIn_r _ [5, 6, 7, 8, 4, 9, 10, 11, 12, 13, 14, 15, 16, 17, 18, 19, 20, 21] (by decide +kernel) (by decide +kernel)
set_option maxRecDepth 20000 in
theorem gX3_commonSlot_X3_parentSlot : GoodIn wsX3_commonSlot (wsV RX3 48 RX3 yX3_parentSlot wsX3_parentSlot) := goodIn_app (goodIn_of _ (by decide +kernel)) ggX3_commonSlot_X3_parentSlot
theorem dX3_commonSlot_0 : decode cX3_commonSlot 0 = .ok (.iload_n 1, 1) := by decide +kernel
theorem dX3_commonSlot_1 : decode cX3_commonSlot 1 = .ok (.istore_n 3, 1) := by decide +kernel
theorem dX3_commonSlot_2 : decode cX3_commonSlot 2 = .ok (.iload_n 2, 1) := by decide +kernel
theorem dX3_commonSlot_3 : decode cX3_commonSlot 3 = .ok (.istore 4, 2) := by decide +kernel
theorem dX3_commonSlot_5 : decode cX3_commonSlot 5 = .ok (.iconst 0, 1) := by decide +kernel
theorem dX3_commonSlot_6 : decode cX3_commonSlot 6 = .ok (.istore 5, 2) := by decide +kernel
theorem dX3_commonSlot_8 : decode cX3_commonSlot 8 = .ok (.iload 5, 2) := by decide +kernel
theorem dX3_commonSlot_10 : decode cX3_commonSlot 10 = .ok (.bipush 32, 2) := by decide +kernel
theorem dX3_commonSlot_12 : decode cX3_commonSlot 12 = .ok (.if_icmp .ge 38, 3) := by decide +kernel
theorem dX3_commonSlot_15 : decode cX3_commonSlot 15 = .ok (.iload_n 3, 1) := by decide +kernel
theorem dX3_commonSlot_16 : decode cX3_commonSlot 16 = .ok (.iload 4, 2) := by decide +kernel
theorem dX3_commonSlot_18 : decode cX3_commonSlot 18 = .ok (.if_icmp .eq 32, 3) := by decide +kernel
theorem dX3_commonSlot_21 : decode cX3_commonSlot 21 = .ok (.iload_n 3, 1) := by decide +kernel
theorem dX3_commonSlot_22 : decode cX3_commonSlot 22 = .ok (.iload 4, 2) := by decide +kernel
theorem dX3_commonSlot_24 : decode cX3_commonSlot 24 = .ok (.if_icmp .le 12, 3) := by decide +kernel
theorem dX3_commonSlot_27 : decode cX3_commonSlot 27 = .ok (.aload_n 0, 1) := by decide +kernel
theorem dX3_commonSlot_28 : decode cX3_commonSlot 28 = .ok (.iload_n 3, 1) := by decide +kernel
theorem dX3_commonSlot_29 : decode cX3_commonSlot 29 = .ok (.invokevirtual 48, 3) := by decide +kernel
theorem dX3_commonSlot_32 : decode cX3_commonSlot 32 = .ok (.istore_n 3, 1) := by decide +kernel
theorem dX3_commonSlot_33 : decode cX3_commonSlot 33 = .ok (.goto 11, 3) := by decide +kernel
theorem dX3_commonSlot_36 : decode cX3_commonSlot 36 = .ok (.aload_n 0, 1) := by decide +kernel
theorem dX3_commonSlot_37 : decode cX3_commonSlot 37 = .ok (.iload 4, 2) := by decide +kernel
theorem dX3_commonSlot_39 : decode cX3_commonSlot 39 = .ok (.invokevirtual 48, 3) := by decide +kernel
theorem dX3_commonSlot_42 : decode cX3_commonSlot 42 = .ok (.istore 4, 2) := by decide +kernel
theorem dX3_commonSlot_44 : decode cX3_commonSlot 44 = .ok (.iinc 5 1, 3) := by decide +kernel
theorem dX3_commonSlot_47 : decode cX3_commonSlot 47 = .ok (.goto (-39), 3) := by decide +kernel
theorem dX3_commonSlot_50 : decode cX3_commonSlot 50 = .ok (.iload_n 3, 1) := by decide +kernel
theorem dX3_commonSlot_51 : decode cX3_commonSlot 51 = .ok (.ireturn, 1) := by decide +kernel
set_option maxRecDepth 20000 in
theorem ggX3_unlikePlaces_X3_block : GoodIn wsX3_unlikePlaces wsX3_block := goodIn_r _ [5, 6, 7, 8, 9, 10, 11, 12] (by decide +kernel) (by decide +kernel)
set_option maxRecDepth 20000 in
theorem gX3_unlikePlaces_X3_block : GoodIn wsX3_unlikePlaces (wsV RX3 51 RX3 yX3_block wsX3_block) := goodIn_app (goodIn_of _ (by decide +kernel)) ggX3_unlikePlaces_X3_block
theorem dX3_unlikePlaces_0 : decode cX3_unlikePlaces 0 = .ok (.iconst 0, 1) := by decide +kernel
theorem dX3_unlikePlaces_1 : decode cX3_unlikePlaces 1 = .ok (.istore_n 3, 1) := by decide +kernel
theorem dX3_unlikePlaces_2 : decode cX3_unlikePlaces 2 = .ok (.iconst 0, 1) := by decide +kernel
theorem dX3_unlikePlaces_3 : decode cX3_unlikePlaces 3 = .ok (.istore 4, 2) := by decide +kernel
theorem dX3_unlikePlaces_5 : decode cX3_unlikePlaces 5 = .ok (.iload 4, 2) := by decide +kernel
theorem dX3_unlikePlaces_7 : decode cX3_unlikePlaces 7 = .ok (.bipush 6, 2) := by decide +kernel
theorem dX3_unlikePlaces_9 : decode cX3_unlikePlaces 9 = .ok (.if_icmp .ge 34, 3) := by decide +kernel
theorem dX3_unlikePlaces_12 : decode cX3_unlikePlaces 12 = .ok (.iload_n 3, 1) := by decide +kernel
theorem dX3_unlikePlaces_13 : decode cX3_unlikePlaces 13 = .ok (.aload_n 0, 1) := by decide +kernel
theorem dX3_unlikePlaces_14 : decode cX3_unlikePlaces 14 = .ok (.iload_n 1, 1) := by decide +kernel
theorem dX3_unlikePlaces_15 : decode cX3_unlikePlaces 15 = .ok (.iload 4, 2) := by decide +kernel
theorem dX3_unlikePlaces_17 : decode cX3_unlikePlaces 17 = .ok (.invokevirtual 51, 3) := by decide +kernel
theorem dX3_unlikePlaces_20 : decode cX3_unlikePlaces 20 = .ok (.aload_n 0, 1) := by decide +kernel
theorem dX3_unlikePlaces_21 : decode cX3_unlikePlaces 21 = .ok (.iload_n 2, 1) := by decide +kernel
theorem dX3_unlikePlaces_22 : decode cX3_unlikePlaces 22 = .ok (.iload 4, 2) := by decide +kernel
theorem dX3_unlikePlaces_24 : decode cX3_unlikePlaces 24 = .ok (.invokevirtual 51, 3) := by decide +kernel
theorem dX3_unlikePlaces_27 : decode cX3_unlikePlaces 27 = .ok (.if_icmp .eq 7, 3) := by decide +kernel
theorem dX3_unlikePlaces_30 : decode cX3_unlikePlaces 30 = .ok (.iconst 1, 1) := by decide +kernel
theorem dX3_unlikePlaces_31 : decode cX3_unlikePlaces 31 = .ok (.goto 4, 3) := by decide +kernel
theorem dX3_unlikePlaces_34 : decode cX3_unlikePlaces 34 = .ok (.iconst 0, 1) := by decide +kernel
theorem dX3_unlikePlaces_35 : decode cX3_unlikePlaces 35 = .ok (.iadd, 1) := by decide +kernel
theorem dX3_unlikePlaces_36 : decode cX3_unlikePlaces 36 = .ok (.istore_n 3, 1) := by decide +kernel
theorem dX3_unlikePlaces_37 : decode cX3_unlikePlaces 37 = .ok (.iinc 4 1, 3) := by decide +kernel
theorem dX3_unlikePlaces_40 : decode cX3_unlikePlaces 40 = .ok (.goto (-35), 3) := by decide +kernel
theorem dX3_unlikePlaces_43 : decode cX3_unlikePlaces 43 = .ok (.iload_n 3, 1) := by decide +kernel
theorem dX3_unlikePlaces_44 : decode cX3_unlikePlaces 44 = .ok (.ireturn, 1) := by decide +kernel
set_option maxRecDepth 20000 in
theorem ggX3_placesWith_X3_block : GoodIn wsX3_placesWith wsX3_block := goodIn_r _ [5, 6, 7, 8, 9, 10, 11, 12] (by decide +kernel) (by decide +kernel)
set_option maxRecDepth 20000 in
theorem gX3_placesWith_X3_block : GoodIn wsX3_placesWith (wsV RX3 51 RX3 yX3_block wsX3_block) := goodIn_app (goodIn_of _ (by decide +kernel)) ggX3_placesWith_X3_block
theorem dX3_placesWith_0 : decode cX3_placesWith 0 = .ok (.iconst 0, 1) := by decide +kernel
theorem dX3_placesWith_1 : decode cX3_placesWith 1 = .ok (.istore_n 3, 1) := by decide +kernel
theorem dX3_placesWith_2 : decode cX3_placesWith 2 = .ok (.iconst 0, 1) := by decide +kernel
theorem dX3_placesWith_3 : decode cX3_placesWith 3 = .ok (.istore 4, 2) := by decide +kernel
theorem dX3_placesWith_5 : decode cX3_placesWith 5 = .ok (.iload 4, 2) := by decide +kernel
theorem dX3_placesWith_7 : decode cX3_placesWith 7 = .ok (.bipush 6, 2) := by decide +kernel
theorem dX3_placesWith_9 : decode cX3_placesWith 9 = .ok (.if_icmp .ge 28, 3) := by decide +kernel
theorem dX3_placesWith_12 : decode cX3_placesWith 12 = .ok (.iload_n 3, 1) := by decide +kernel
theorem dX3_placesWith_13 : decode cX3_placesWith 13 = .ok (.aload_n 0, 1) := by decide +kernel
theorem dX3_placesWith_14 : decode cX3_placesWith 14 = .ok (.iload_n 1, 1) := by decide +kernel
theorem dX3_placesWith_15 : decode cX3_placesWith 15 = .ok (.iload 4, 2) := by decide +kernel
theorem dX3_placesWith_17 : decode cX3_placesWith 17 = .ok (.invokevirtual 51, 3) := by decide +kernel
theorem dX3_placesWith_20 : decode cX3_placesWith 20 = .ok (.iload_n 2, 1) := by decide +kernel
theorem dX3_placesWith_21 : decode cX3_placesWith 21 = .ok (.if_icmp .ne 7, 3) := by decide +kernel
theorem dX3_placesWith_24 : decode cX3_placesWith 24 = .ok (.iconst 1, 1) := by decide +kernel
theorem dX3_placesWith_25 : decode cX3_placesWith 25 = .ok (.goto 4, 3) := by decide +kernel
theorem dX3_placesWith_28 : decode cX3_placesWith 28 = .ok (.iconst 0, 1) := by decide +kernel
theorem dX3_placesWith_29 : decode cX3_placesWith 29 = .ok (.iadd, 1) := by decide +kernel
theorem dX3_placesWith_30 : decode cX3_placesWith 30 = .ok (.istore_n 3, 1) := by decide +kernel
theorem dX3_placesWith_31 : decode cX3_placesWith 31 = .ok (.iinc 4 1, 3) := by decide +kernel
theorem dX3_placesWith_34 : decode cX3_placesWith 34 = .ok (.goto (-29), 3) := by decide +kernel
theorem dX3_placesWith_37 : decode cX3_placesWith 37 = .ok (.iload_n 3, 1) := by decide +kernel
theorem dX3_placesWith_38 : decode cX3_placesWith 38 = .ok (.ireturn, 1) := by decide +kernel
set_option maxRecDepth 20000 in
theorem ggX3_statesWith_X3_placesWith : GoodIn wsX3_statesWith wsX3_placesWith := goodIn_r _ [6, 7, 8, 9, 5, 10, 1, 11, 12, 13, 14, 15, 16] (by decide +kernel) (by decide +kernel)
set_option maxRecDepth 20000 in
theorem gX3_statesWith_X3_placesWith : GoodIn wsX3_statesWith (wsV RX3 55 RX3 yX3_placesWith wsX3_placesWith) := goodIn_app (goodIn_of _ (by decide +kernel)) ggX3_statesWith_X3_placesWith
theorem dX3_statesWith_0 : decode cX3_statesWith 0 = .ok (.iconst 0, 1) := by decide +kernel
theorem dX3_statesWith_1 : decode cX3_statesWith 1 = .ok (.istore_n 2, 1) := by decide +kernel
theorem dX3_statesWith_2 : decode cX3_statesWith 2 = .ok (.iconst 0, 1) := by decide +kernel
theorem dX3_statesWith_3 : decode cX3_statesWith 3 = .ok (.istore_n 3, 1) := by decide +kernel
theorem dX3_statesWith_4 : decode cX3_statesWith 4 = .ok (.iload_n 3, 1) := by decide +kernel
theorem dX3_statesWith_5 : decode cX3_statesWith 5 = .ok (.aload_n 0, 1) := by decide +kernel
theorem dX3_statesWith_6 : decode cX3_statesWith 6 = .ok (.getfield 21, 3) := by decide +kernel
theorem dX3_statesWith_9 : decode cX3_statesWith 9 = .ok (.if_icmp .ge 26, 3) := by decide +kernel
theorem dX3_statesWith_12 : decode cX3_statesWith 12 = .ok (.iload_n 2, 1) := by decide +kernel
theorem dX3_statesWith_13 : decode cX3_statesWith 13 = .ok (.aload_n 0, 1) := by decide +kernel
theorem dX3_statesWith_14 : decode cX3_statesWith 14 = .ok (.iload_n 3, 1) := by decide +kernel
theorem dX3_statesWith_15 : decode cX3_statesWith 15 = .ok (.iload_n 1, 1) := by decide +kernel
theorem dX3_statesWith_16 : decode cX3_statesWith 16 = .ok (.invokevirtual 55, 3) := by decide +kernel
theorem dX3_statesWith_19 : decode cX3_statesWith 19 = .ok (.ifCond .le 7, 3) := by decide +kernel
theorem dX3_statesWith_22 : decode cX3_statesWith 22 = .ok (.iconst 1, 1) := by decide +kernel
theorem dX3_statesWith_23 : decode cX3_statesWith 23 = .ok (.goto 4, 3) := by decide +kernel
theorem dX3_statesWith_26 : decode cX3_statesWith 26 = .ok (.iconst 0, 1) := by decide +kernel
theorem dX3_statesWith_27 : decode cX3_statesWith 27 = .ok (.iadd, 1) := by decide +kernel
theorem dX3_statesWith_28 : decode cX3_statesWith 28 = .ok (.istore_n 2, 1) := by decide +kernel
theorem dX3_statesWith_29 : decode cX3_statesWith 29 = .ok (.iinc 3 1, 3) := by decide +kernel
theorem dX3_statesWith_32 : decode cX3_statesWith 32 = .ok (.goto (-28), 3) := by decide +kernel
theorem dX3_statesWith_35 : decode cX3_statesWith 35 = .ok (.iload_n 2, 1) := by decide +kernel
theorem dX3_statesWith_36 : decode cX3_statesWith 36 = .ok (.ireturn, 1) := by decide +kernel
set_option maxRecDepth 20000 in
theorem ggX3_isFirstPlace_X3_block : GoodIn wsX3_isFirstPlace wsX3_block := goodIn_r _ [5, 6, 7, 8, 9, 10, 11, 12] (by decide +kernel) (by decide +kernel)
set_option maxRecDepth 20000 in
theorem gX3_isFirstPlace_X3_block : GoodIn wsX3_isFirstPlace (wsV RX3 51 RX3 yX3_block wsX3_block) := goodIn_app (goodIn_of _ (by decide +kernel)) ggX3_isFirstPlace_X3_block
theorem dX3_isFirstPlace_0 : decode cX3_isFirstPlace 0 = .ok (.iconst 0, 1) := by decide +kernel
theorem dX3_isFirstPlace_1 : decode cX3_isFirstPlace 1 = .ok (.istore_n 3, 1) := by decide +kernel
theorem dX3_isFirstPlace_2 : decode cX3_isFirstPlace 2 = .ok (.iload_n 3, 1) := by decide +kernel
theorem dX3_isFirstPlace_3 : decode cX3_isFirstPlace 3 = .ok (.iload_n 2, 1) := by decide +kernel
theorem dX3_isFirstPlace_4 : decode cX3_isFirstPlace 4 = .ok (.if_icmp .ge 26, 3) := by decide +kernel
theorem dX3_isFirstPlace_7 : decode cX3_isFirstPlace 7 = .ok (.aload_n 0, 1) := by decide +kernel
theorem dX3_isFirstPlace_8 : decode cX3_isFirstPlace 8 = .ok (.iload_n 1, 1) := by decide +kernel
theorem dX3_isFirstPlace_9 : decode cX3_isFirstPlace 9 = .ok (.iload_n 3, 1) := by decide +kernel
theorem dX3_isFirstPlace_10 : decode cX3_isFirstPlace 10 = .ok (.invokevirtual 51, 3) := by decide +kernel
theorem dX3_isFirstPlace_13 : decode cX3_isFirstPlace 13 = .ok (.aload_n 0, 1) := by decide +kernel
theorem dX3_isFirstPlace_14 : decode cX3_isFirstPlace 14 = .ok (.iload_n 1, 1) := by decide +kernel
theorem dX3_isFirstPlace_15 : decode cX3_isFirstPlace 15 = .ok (.iload_n 2, 1) := by decide +kernel
theorem dX3_isFirstPlace_16 : decode cX3_isFirstPlace 16 = .ok (.invokevirtual 51, 3) := by decide +kernel
theorem dX3_isFirstPlace_19 : decode cX3_isFirstPlace 19 = .ok (.if_icmp .ne 5, 3) := by decide +kernel
theorem dX3_isFirstPlace_22 : decode cX3_isFirstPlace 22 = .ok (.iconst 0, 1) := by decide +kernel
theorem dX3_isFirstPlace_23 : decode cX3_isFirstPlace 23 = .ok (.ireturn, 1) := by decide +kernel
theorem dX3_isFirstPlace_24 : decode cX3_isFirstPlace 24 = .ok (.iinc 3 1, 3) := by decide +kernel
theorem dX3_isFirstPlace_27 : decode cX3_isFirstPlace 27 = .ok (.goto (-25), 3) := by decide +kernel
theorem dX3_isFirstPlace_30 : decode cX3_isFirstPlace 30 = .ok (.iconst 1, 1) := by decide +kernel
theorem dX3_isFirstPlace_31 : decode cX3_isFirstPlace 31 = .ok (.ireturn, 1) := by decide +kernel
set_option maxRecDepth 20000 in
theorem ggX3_blocksIn_X3_isFirstPlace : GoodIn wsX3_blocksIn wsX3_isFirstPlace := goodIn_r _ [5, 6, 7, 8, 4, 9, 10, 11, 12, 13, 14, 15, 16] (by decide +kernel) (by decide +kernel)
set_option maxRecDepth 20000 in
theorem gX3_blocksIn_X3_isFirstPlace : GoodIn wsX3_blocksIn (wsV RX3 58 RX3 yX3_isFirstPlace wsX3_isFirstPlace) := goodIn_app (goodIn_of _ (by decide +kernel)) ggX3_blocksIn_X3_isFirstPlace
theorem dX3_blocksIn_0 : decode cX3_blocksIn 0 = .ok (.iconst 0, 1) := by decide +kernel
theorem dX3_blocksIn_1 : decode cX3_blocksIn 1 = .ok (.istore_n 2, 1) := by decide +kernel
theorem dX3_blocksIn_2 : decode cX3_blocksIn 2 = .ok (.iconst 0, 1) := by decide +kernel
theorem dX3_blocksIn_3 : decode cX3_blocksIn 3 = .ok (.istore_n 3, 1) := by decide +kernel
theorem dX3_blocksIn_4 : decode cX3_blocksIn 4 = .ok (.iload_n 3, 1) := by decide +kernel
theorem dX3_blocksIn_5 : decode cX3_blocksIn 5 = .ok (.bipush 6, 2) := by decide +kernel
theorem dX3_blocksIn_7 : decode cX3_blocksIn 7 = .ok (.if_icmp .ge 26, 3) := by decide +kernel
theorem dX3_blocksIn_10 : decode cX3_blocksIn 10 = .ok (.iload_n 2, 1) := by decide +kernel
theorem dX3_blocksIn_11 : decode cX3_blocksIn 11 = .ok (.aload_n 0, 1) := by decide +kernel
theorem dX3_blocksIn_12 : decode cX3_blocksIn 12 = .ok (.iload_n 1, 1) := by decide +kernel
theorem dX3_blocksIn_13 : decode cX3_blocksIn 13 = .ok (.iload_n 3, 1) := by decide +kernel
theorem dX3_blocksIn_14 : decode cX3_blocksIn 14 = .ok (.invokevirtual 58, 3) := by decide +kernel
theorem dX3_blocksIn_17 : decode cX3_blocksIn 17 = .ok (.ifCond .eq 7, 3) := by decide +kernel
theorem dX3_blocksIn_20 : decode cX3_blocksIn 20 = .ok (.iconst 1, 1) := by decide +kernel
theorem dX3_blocksIn_21 : decode cX3_blocksIn 21 = .ok (.goto 4, 3) := by decide +kernel
theorem dX3_blocksIn_24 : decode cX3_blocksIn 24 = .ok (.iconst 0, 1) := by decide +kernel
theorem dX3_blocksIn_25 : decode cX3_blocksIn 25 = .ok (.iadd, 1) := by decide +kernel
theorem dX3_blocksIn_26 : decode cX3_blocksIn 26 = .ok (.istore_n 2, 1) := by decide +kernel
theorem dX3_blocksIn_27 : decode cX3_blocksIn 27 = .ok (.iinc 3 1, 3) := by decide +kernel
theorem dX3_blocksIn_30 : decode cX3_blocksIn 30 = .ok (.goto (-26), 3) := by decide +kernel
theorem dX3_blocksIn_33 : decode cX3_blocksIn 33 = .ok (.iload_n 2, 1) := by decide +kernel
theorem dX3_blocksIn_34 : decode cX3_blocksIn 34 = .ok (.ireturn, 1) := by decide +kernel
set_option maxRecDepth 20000 in
theorem ggX4_init_X0_init : GoodIn wsX4_init wsX0_init := goodIn_r _ [19, 20, 2, 3, 12, 21, 22, 23, 24, 34, 35, 36, 37] (by decide +kernel) (by decide +kernel)
set_option maxRecDepth 20000 in
theorem gX4_init_X0_init : GoodIn wsX4_init (wsX0_init) := ggX4_init_X0_init
set_option maxRecDepth 20000 in
theorem ggX4_init_X3_init : GoodIn wsX4_init wsX3_init := goodIn_r _ [27, 28, 2, 3, 12, 29, 30, 31, 32, 33, 44, 45, 46, 47, 48] (by decide +kernel) (by decide +kernel)
set_option maxRecDepth 20000 in
theorem gX4_init_X3_init : GoodIn wsX4_init (wsX3_init) := ggX4_init_X3_init
theorem dX4_init_0 : decode cX4_init 0 = .ok (.aload_n 0, 1) := by decide +kernel
theorem dX4_init_1 : decode cX4_init 1 = .ok (.invokespecial 3, 3) := by decide +kernel
theorem dX4_init_4 : decode cX4_init 4 = .ok (.aload_n 0, 1) := by decide +kernel
theorem dX4_init_5 : decode cX4_init 5 = .ok (.new 9, 3) := by decide +kernel
theorem dX4_init_8 : decode cX4_init 8 = .ok (.dup, 1) := by decide +kernel
