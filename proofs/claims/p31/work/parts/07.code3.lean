theorem dL_find_9 : decode cL_find 9 = .ok (.aload_n 1, 1) := by decide +kernel
theorem dL_find_10 : decode cL_find 10 = .ok (.iload_n 3, 1) := by decide +kernel
theorem dL_find_11 : decode cL_find 11 = .ok (.iaload, 1) := by decide +kernel
theorem dL_find_12 : decode cL_find 12 = .ok (.iload_n 2, 1) := by decide +kernel
theorem dL_find_13 : decode cL_find 13 = .ok (.if_icmp .eq 9, 3) := by decide +kernel
theorem dL_find_16 : decode cL_find 16 = .ok (.iinc 3 1, 3) := by decide +kernel
theorem dL_find_19 : decode cL_find 19 = .ok (.goto (-17), 3) := by decide +kernel
theorem dL_find_22 : decode cL_find 22 = .ok (.iload_n 3, 1) := by decide +kernel
theorem dL_find_23 : decode cL_find 23 = .ok (.aload_n 0, 1) := by decide +kernel
theorem dL_find_24 : decode cL_find 24 = .ok (.iconst 0, 1) := by decide +kernel
theorem dL_find_25 : decode cL_find 25 = .ok (.iaload, 1) := by decide +kernel
theorem dL_find_26 : decode cL_find 26 = .ok (.if_icmp .ge 7, 3) := by decide +kernel
theorem dL_find_29 : decode cL_find 29 = .ok (.iload_n 3, 1) := by decide +kernel
theorem dL_find_30 : decode cL_find 30 = .ok (.goto 4, 3) := by decide +kernel
theorem dL_find_33 : decode cL_find 33 = .ok (.iconst (-1), 1) := by decide +kernel
theorem dL_find_34 : decode cL_find 34 = .ok (.ireturn, 1) := by decide +kernel
theorem dL_block_0 : decode cL_block 0 = .ok (.aload_n 0, 1) := by decide +kernel
theorem dL_block_1 : decode cL_block 1 = .ok (.iload_n 1, 1) := by decide +kernel
theorem dL_block_2 : decode cL_block 2 = .ok (.laload, 1) := by decide +kernel
theorem dL_block_3 : decode cL_block 3 = .ok (.bipush 6, 2) := by decide +kernel
theorem dL_block_5 : decode cL_block 5 = .ok (.iload_n 2, 1) := by decide +kernel
theorem dL_block_6 : decode cL_block 6 = .ok (.imul, 1) := by decide +kernel
theorem dL_block_7 : decode cL_block 7 = .ok (.lshr, 1) := by decide +kernel
theorem dL_block_8 : decode cL_block 8 = .ok (.ldc2_w 9, 3) := by decide +kernel
theorem dL_block_11 : decode cL_block 11 = .ok (.land, 1) := by decide +kernel
theorem dL_block_12 : decode cL_block 12 = .ok (.l2i, 1) := by decide +kernel
theorem dL_block_13 : decode cL_block 13 = .ok (.ireturn, 1) := by decide +kernel
theorem dL_inBlock_0 : decode cL_inBlock 0 = .ok (.iload_n 3, 1) := by decide +kernel
theorem dL_inBlock_1 : decode cL_inBlock 1 = .ok (.bipush 6, 2) := by decide +kernel
theorem dL_inBlock_3 : decode cL_inBlock 3 = .ok (.if_icmp .ge 18, 3) := by decide +kernel
theorem dL_inBlock_6 : decode cL_inBlock 6 = .ok (.aload_n 0, 1) := by decide +kernel
theorem dL_inBlock_7 : decode cL_inBlock 7 = .ok (.iload_n 2, 1) := by decide +kernel
theorem dL_inBlock_8 : decode cL_inBlock 8 = .ok (.laload, 1) := by decide +kernel
theorem dL_inBlock_9 : decode cL_inBlock 9 = .ok (.bipush 10, 2) := by decide +kernel
theorem dL_inBlock_11 : decode cL_inBlock 11 = .ok (.iload_n 3, 1) := by decide +kernel
theorem dL_inBlock_12 : decode cL_inBlock 12 = .ok (.imul, 1) := by decide +kernel
theorem dL_inBlock_13 : decode cL_inBlock 13 = .ok (.lshr, 1) := by decide +kernel
theorem dL_inBlock_14 : decode cL_inBlock 14 = .ok (.ldc2_w 11, 3) := by decide +kernel
theorem dL_inBlock_17 : decode cL_inBlock 17 = .ok (.land, 1) := by decide +kernel
theorem dL_inBlock_18 : decode cL_inBlock 18 = .ok (.goto 18, 3) := by decide +kernel
theorem dL_inBlock_21 : decode cL_inBlock 21 = .ok (.aload_n 1, 1) := by decide +kernel
theorem dL_inBlock_22 : decode cL_inBlock 22 = .ok (.iload_n 2, 1) := by decide +kernel
theorem dL_inBlock_23 : decode cL_inBlock 23 = .ok (.laload, 1) := by decide +kernel
theorem dL_inBlock_24 : decode cL_inBlock 24 = .ok (.bipush 10, 2) := by decide +kernel
theorem dL_inBlock_26 : decode cL_inBlock 26 = .ok (.iload_n 3, 1) := by decide +kernel
theorem dL_inBlock_27 : decode cL_inBlock 27 = .ok (.bipush 6, 2) := by decide +kernel
theorem dL_inBlock_29 : decode cL_inBlock 29 = .ok (.isub, 1) := by decide +kernel
theorem dL_inBlock_30 : decode cL_inBlock 30 = .ok (.imul, 1) := by decide +kernel
theorem dL_inBlock_31 : decode cL_inBlock 31 = .ok (.lshr, 1) := by decide +kernel
theorem dL_inBlock_32 : decode cL_inBlock 32 = .ok (.ldc2_w 11, 3) := by decide +kernel
theorem dL_inBlock_35 : decode cL_inBlock 35 = .ok (.land, 1) := by decide +kernel
theorem dL_inBlock_36 : decode cL_inBlock 36 = .ok (.l2i, 1) := by decide +kernel
theorem dL_inBlock_37 : decode cL_inBlock 37 = .ok (.ireturn, 1) := by decide +kernel
set_option maxRecDepth 20000 in
theorem ggL_read_L_block : GoodIn wsL_read wsL_block := goodIn_r _ [4, 5] (by decide +kernel) (by decide +kernel)
set_option maxRecDepth 20000 in
theorem gL_read_L_block : GoodIn wsL_read (va_wsS RL 13 yL_block wsL_block) := goodIn_app (goodIn_of _ (by decide +kernel)) ggL_read_L_block
set_option maxRecDepth 20000 in
theorem ggL_read_L_inBlock : GoodIn wsL_read wsL_inBlock := goodIn_r _ [8, 9] (by decide +kernel) (by decide +kernel)
set_option maxRecDepth 20000 in
theorem gL_read_L_inBlock : GoodIn wsL_read (va_wsS RL 19 yL_inBlock wsL_inBlock) := goodIn_app (goodIn_of _ (by decide +kernel)) ggL_read_L_inBlock
theorem dL_read_0 : decode cL_read 0 = .ok (.aload_n 1, 1) := by decide +kernel
theorem dL_read_1 : decode cL_read 1 = .ok (.aload_n 2, 1) := by decide +kernel
theorem dL_read_2 : decode cL_read 2 = .ok (.aload_n 0, 1) := by decide +kernel
theorem dL_read_3 : decode cL_read 3 = .ok (.iload_n 3, 1) := by decide +kernel
theorem dL_read_4 : decode cL_read 4 = .ok (.iload 4, 2) := by decide +kernel
theorem dL_read_6 : decode cL_read 6 = .ok (.bipush 8, 2) := by decide +kernel
theorem dL_read_8 : decode cL_read 8 = .ok (.idiv, 1) := by decide +kernel
theorem dL_read_9 : decode cL_read 9 = .ok (.invokestatic 13, 3) := by decide +kernel
theorem dL_read_12 : decode cL_read 12 = .ok (.iload 4, 2) := by decide +kernel
theorem dL_read_14 : decode cL_read 14 = .ok (.bipush 8, 2) := by decide +kernel
theorem dL_read_16 : decode cL_read 16 = .ok (.irem, 1) := by decide +kernel
theorem dL_read_17 : decode cL_read 17 = .ok (.invokestatic 19, 3) := by decide +kernel
theorem dL_read_20 : decode cL_read 20 = .ok (.ireturn, 1) := by decide +kernel
theorem dL_blocks_0 : decode cL_blocks 0 = .ok (.iconst 0, 1) := by decide +kernel
theorem dL_blocks_1 : decode cL_blocks 1 = .ok (.istore_n 1, 1) := by decide +kernel
theorem dL_blocks_2 : decode cL_blocks 2 = .ok (.iconst 0, 1) := by decide +kernel
theorem dL_blocks_3 : decode cL_blocks 3 = .ok (.istore_n 2, 1) := by decide +kernel
theorem dL_blocks_4 : decode cL_blocks 4 = .ok (.iload_n 2, 1) := by decide +kernel
theorem dL_blocks_5 : decode cL_blocks 5 = .ok (.bipush 40, 2) := by decide +kernel
theorem dL_blocks_7 : decode cL_blocks 7 = .ok (.if_icmp .ge 25, 3) := by decide +kernel
theorem dL_blocks_10 : decode cL_blocks 10 = .ok (.iload_n 1, 1) := by decide +kernel
theorem dL_blocks_11 : decode cL_blocks 11 = .ok (.aload_n 0, 1) := by decide +kernel
theorem dL_blocks_12 : decode cL_blocks 12 = .ok (.iload_n 2, 1) := by decide +kernel
theorem dL_blocks_13 : decode cL_blocks 13 = .ok (.laload, 1) := by decide +kernel
theorem dL_blocks_14 : decode cL_blocks 14 = .ok (.lconst 0, 1) := by decide +kernel
theorem dL_blocks_15 : decode cL_blocks 15 = .ok (.lcmp, 1) := by decide +kernel
theorem dL_blocks_16 : decode cL_blocks 16 = .ok (.ifCond .ge 7, 3) := by decide +kernel
theorem dL_blocks_19 : decode cL_blocks 19 = .ok (.iconst 0, 1) := by decide +kernel
theorem dL_blocks_20 : decode cL_blocks 20 = .ok (.goto 4, 3) := by decide +kernel
theorem dL_blocks_23 : decode cL_blocks 23 = .ok (.iconst 1, 1) := by decide +kernel
theorem dL_blocks_24 : decode cL_blocks 24 = .ok (.iadd, 1) := by decide +kernel
theorem dL_blocks_25 : decode cL_blocks 25 = .ok (.istore_n 1, 1) := by decide +kernel
theorem dL_blocks_26 : decode cL_blocks 26 = .ok (.iinc 2 1, 3) := by decide +kernel
theorem dL_blocks_29 : decode cL_blocks 29 = .ok (.goto (-25), 3) := by decide +kernel
theorem dL_blocks_32 : decode cL_blocks 32 = .ok (.iload_n 1, 1) := by decide +kernel
theorem dL_blocks_33 : decode cL_blocks 33 = .ok (.ireturn, 1) := by decide +kernel
set_option maxRecDepth 20000 in
theorem ggL_uses_L_block : GoodIn wsL_uses wsL_block := goodIn_r _ [4, 5] (by decide +kernel) (by decide +kernel)
set_option maxRecDepth 20000 in
theorem gL_uses_L_block : GoodIn wsL_uses (va_wsS RL 13 yL_block wsL_block) := goodIn_app (goodIn_of _ (by decide +kernel)) ggL_uses_L_block
theorem dL_uses_0 : decode cL_uses 0 = .ok (.iconst 0, 1) := by decide +kernel
theorem dL_uses_1 : decode cL_uses 1 = .ok (.istore 4, 2) := by decide +kernel
theorem dL_uses_3 : decode cL_uses 3 = .ok (.iconst 0, 1) := by decide +kernel
theorem dL_uses_4 : decode cL_uses 4 = .ok (.istore 5, 2) := by decide +kernel
theorem dL_uses_6 : decode cL_uses 6 = .ok (.iload 5, 2) := by decide +kernel
theorem dL_uses_8 : decode cL_uses 8 = .ok (.aload_n 0, 1) := by decide +kernel
theorem dL_uses_9 : decode cL_uses 9 = .ok (.iconst 0, 1) := by decide +kernel
theorem dL_uses_10 : decode cL_uses 10 = .ok (.iaload, 1) := by decide +kernel
theorem dL_uses_11 : decode cL_uses 11 = .ok (.if_icmp .ge 71, 3) := by decide +kernel
theorem dL_uses_14 : decode cL_uses 14 = .ok (.iconst 0, 1) := by decide +kernel
theorem dL_uses_15 : decode cL_uses 15 = .ok (.istore 6, 2) := by decide +kernel
theorem dL_uses_17 : decode cL_uses 17 = .ok (.iconst 0, 1) := by decide +kernel
theorem dL_uses_18 : decode cL_uses 18 = .ok (.istore 7, 2) := by decide +kernel
theorem dL_uses_20 : decode cL_uses 20 = .ok (.iload 7, 2) := by decide +kernel
theorem dL_uses_22 : decode cL_uses 22 = .ok (.bipush 6, 2) := by decide +kernel
theorem dL_uses_24 : decode cL_uses 24 = .ok (.if_icmp .ge 31, 3) := by decide +kernel
theorem dL_uses_27 : decode cL_uses 27 = .ok (.iload 6, 2) := by decide +kernel
theorem dL_uses_29 : decode cL_uses 29 = .ok (.aload_n 1, 1) := by decide +kernel
theorem dL_uses_30 : decode cL_uses 30 = .ok (.iload 5, 2) := by decide +kernel
theorem dL_uses_32 : decode cL_uses 32 = .ok (.iload 7, 2) := by decide +kernel
theorem dL_uses_34 : decode cL_uses 34 = .ok (.invokestatic 13, 3) := by decide +kernel
theorem dL_uses_37 : decode cL_uses 37 = .ok (.iload_n 2, 1) := by decide +kernel
theorem dL_uses_38 : decode cL_uses 38 = .ok (.if_icmp .ne 7, 3) := by decide +kernel
theorem dL_uses_41 : decode cL_uses 41 = .ok (.iconst 1, 1) := by decide +kernel
theorem dL_uses_42 : decode cL_uses 42 = .ok (.goto 4, 3) := by decide +kernel
theorem dL_uses_45 : decode cL_uses 45 = .ok (.iconst 0, 1) := by decide +kernel
theorem dL_uses_46 : decode cL_uses 46 = .ok (.iadd, 1) := by decide +kernel
theorem dL_uses_47 : decode cL_uses 47 = .ok (.istore 6, 2) := by decide +kernel
theorem dL_uses_49 : decode cL_uses 49 = .ok (.iinc 7 1, 3) := by decide +kernel
theorem dL_uses_52 : decode cL_uses 52 = .ok (.goto (-32), 3) := by decide +kernel
theorem dL_uses_55 : decode cL_uses 55 = .ok (.iload 4, 2) := by decide +kernel
theorem dL_uses_57 : decode cL_uses 57 = .ok (.iload_n 3, 1) := by decide +kernel
theorem dL_uses_58 : decode cL_uses 58 = .ok (.ifCond .eq 13, 3) := by decide +kernel
theorem dL_uses_61 : decode cL_uses 61 = .ok (.iload 6, 2) := by decide +kernel
theorem dL_uses_63 : decode cL_uses 63 = .ok (.iconst 1, 1) := by decide +kernel
theorem dL_uses_64 : decode cL_uses 64 = .ok (.if_icmp .le 7, 3) := by decide +kernel
theorem dL_uses_67 : decode cL_uses 67 = .ok (.iconst 1, 1) := by decide +kernel
theorem dL_uses_68 : decode cL_uses 68 = .ok (.goto 5, 3) := by decide +kernel
theorem dL_uses_71 : decode cL_uses 71 = .ok (.iload 6, 2) := by decide +kernel
theorem dL_uses_73 : decode cL_uses 73 = .ok (.iadd, 1) := by decide +kernel
theorem dL_uses_74 : decode cL_uses 74 = .ok (.istore 4, 2) := by decide +kernel
theorem dL_uses_76 : decode cL_uses 76 = .ok (.iinc 5 1, 3) := by decide +kernel
theorem dL_uses_79 : decode cL_uses 79 = .ok (.goto (-73), 3) := by decide +kernel
theorem dL_uses_82 : decode cL_uses 82 = .ok (.iload 4, 2) := by decide +kernel
theorem dL_uses_84 : decode cL_uses 84 = .ok (.ireturn, 1) := by decide +kernel
set_option maxRecDepth 20000 in
theorem ggL_sweep_L_uses : GoodIn wsL_sweep wsL_uses := goodIn_r _ [5, 6, 7, 4, 8, 9] (by decide +kernel) (by decide +kernel)
set_option maxRecDepth 20000 in
theorem gL_sweep_L_uses : GoodIn wsL_sweep (va_wsS RL 23 yL_uses wsL_uses) := goodIn_app (goodIn_of _ (by decide +kernel)) ggL_sweep_L_uses
theorem dL_sweep_0 : decode cL_sweep 0 = .ok (.iconst 0, 1) := by decide +kernel
theorem dL_sweep_1 : decode cL_sweep 1 = .ok (.istore_n 3, 1) := by decide +kernel
theorem dL_sweep_2 : decode cL_sweep 2 = .ok (.iconst 0, 1) := by decide +kernel
theorem dL_sweep_3 : decode cL_sweep 3 = .ok (.istore 4, 2) := by decide +kernel
theorem dL_sweep_5 : decode cL_sweep 5 = .ok (.iload 4, 2) := by decide +kernel
theorem dL_sweep_7 : decode cL_sweep 7 = .ok (.bipush 40, 2) := by decide +kernel
theorem dL_sweep_9 : decode cL_sweep 9 = .ok (.if_icmp .ge 39, 3) := by decide +kernel
theorem dL_sweep_12 : decode cL_sweep 12 = .ok (.aload_n 2, 1) := by decide +kernel
theorem dL_sweep_13 : decode cL_sweep 13 = .ok (.iload 4, 2) := by decide +kernel
theorem dL_sweep_15 : decode cL_sweep 15 = .ok (.laload, 1) := by decide +kernel
theorem dL_sweep_16 : decode cL_sweep 16 = .ok (.lconst 0, 1) := by decide +kernel
theorem dL_sweep_17 : decode cL_sweep 17 = .ok (.lcmp, 1) := by decide +kernel
theorem dL_sweep_18 : decode cL_sweep 18 = .ok (.ifCond .lt 24, 3) := by decide +kernel
theorem dL_sweep_21 : decode cL_sweep 21 = .ok (.aload_n 0, 1) := by decide +kernel
theorem dL_sweep_22 : decode cL_sweep 22 = .ok (.aload_n 1, 1) := by decide +kernel
theorem dL_sweep_23 : decode cL_sweep 23 = .ok (.iload 4, 2) := by decide +kernel
theorem dL_sweep_25 : decode cL_sweep 25 = .ok (.iconst 0, 1) := by decide +kernel
theorem dL_sweep_26 : decode cL_sweep 26 = .ok (.invokestatic 23, 3) := by decide +kernel
theorem dL_sweep_29 : decode cL_sweep 29 = .ok (.ifCond .ne 13, 3) := by decide +kernel
theorem dL_sweep_32 : decode cL_sweep 32 = .ok (.aload_n 2, 1) := by decide +kernel
theorem dL_sweep_33 : decode cL_sweep 33 = .ok (.iload 4, 2) := by decide +kernel
theorem dL_sweep_35 : decode cL_sweep 35 = .ok (.ldc2_w 27, 3) := by decide +kernel
theorem dL_sweep_38 : decode cL_sweep 38 = .ok (.lastore, 1) := by decide +kernel
theorem dL_sweep_39 : decode cL_sweep 39 = .ok (.iinc 3 1, 3) := by decide +kernel
theorem dL_sweep_42 : decode cL_sweep 42 = .ok (.iinc 4 1, 3) := by decide +kernel
theorem dL_sweep_45 : decode cL_sweep 45 = .ok (.goto (-40), 3) := by decide +kernel
theorem dL_sweep_48 : decode cL_sweep 48 = .ok (.iload_n 3, 1) := by decide +kernel
theorem dL_sweep_49 : decode cL_sweep 49 = .ok (.ireturn, 1) := by decide +kernel
theorem dL_like_0 : decode cL_like 0 = .ok (.iconst 0, 1) := by decide +kernel
theorem dL_like_1 : decode cL_like 1 = .ok (.istore 7, 2) := by decide +kernel
theorem dL_like_3 : decode cL_like 3 = .ok (.iload 7, 2) := by decide +kernel
theorem dL_like_5 : decode cL_like 5 = .ok (.bipush 40, 2) := by decide +kernel
theorem dL_like_7 : decode cL_like 7 = .ok (.if_icmp .ge 44, 3) := by decide +kernel
theorem dL_like_10 : decode cL_like 10 = .ok (.aload_n 1, 1) := by decide +kernel
theorem dL_like_11 : decode cL_like 11 = .ok (.iload 7, 2) := by decide +kernel
theorem dL_like_13 : decode cL_like 13 = .ok (.laload, 1) := by decide +kernel
theorem dL_like_14 : decode cL_like 14 = .ok (.lconst 0, 1) := by decide +kernel
theorem dL_like_15 : decode cL_like 15 = .ok (.lcmp, 1) := by decide +kernel
theorem dL_like_16 : decode cL_like 16 = .ok (.ifCond .lt 29, 3) := by decide +kernel
theorem dL_like_19 : decode cL_like 19 = .ok (.aload_n 0, 1) := by decide +kernel
theorem dL_like_20 : decode cL_like 20 = .ok (.iload 7, 2) := by decide +kernel
theorem dL_like_22 : decode cL_like 22 = .ok (.laload, 1) := by decide +kernel
theorem dL_like_23 : decode cL_like 23 = .ok (.lload_n 2, 1) := by decide +kernel
theorem dL_like_24 : decode cL_like 24 = .ok (.lcmp, 1) := by decide +kernel
theorem dL_like_25 : decode cL_like 25 = .ok (.ifCond .ne 20, 3) := by decide +kernel
theorem dL_like_28 : decode cL_like 28 = .ok (.aload_n 1, 1) := by decide +kernel
theorem dL_like_29 : decode cL_like 29 = .ok (.iload 7, 2) := by decide +kernel
theorem dL_like_31 : decode cL_like 31 = .ok (.laload, 1) := by decide +kernel
theorem dL_like_32 : decode cL_like 32 = .ok (.lload 4, 2) := by decide +kernel
theorem dL_like_34 : decode cL_like 34 = .ok (.lcmp, 1) := by decide +kernel
theorem dL_like_35 : decode cL_like 35 = .ok (.ifCond .ne 10, 3) := by decide +kernel
theorem dL_like_38 : decode cL_like 38 = .ok (.iload 7, 2) := by decide +kernel
theorem dL_like_40 : decode cL_like 40 = .ok (.iload 6, 2) := by decide +kernel
theorem dL_like_42 : decode cL_like 42 = .ok (.if_icmp .ne 9, 3) := by decide +kernel
theorem dL_like_45 : decode cL_like 45 = .ok (.iinc 7 1, 3) := by decide +kernel
theorem dL_like_48 : decode cL_like 48 = .ok (.goto (-45), 3) := by decide +kernel
theorem dL_like_51 : decode cL_like 51 = .ok (.iload 7, 2) := by decide +kernel
theorem dL_like_53 : decode cL_like 53 = .ok (.bipush 40, 2) := by decide +kernel
theorem dL_like_55 : decode cL_like 55 = .ok (.if_icmp .ge 8, 3) := by decide +kernel
theorem dL_like_58 : decode cL_like 58 = .ok (.iload 7, 2) := by decide +kernel
theorem dL_like_60 : decode cL_like 60 = .ok (.goto 4, 3) := by decide +kernel
theorem dL_like_63 : decode cL_like 63 = .ok (.iconst (-1), 1) := by decide +kernel
theorem dL_like_64 : decode cL_like 64 = .ok (.ireturn, 1) := by decide +kernel
set_option maxRecDepth 20000 in
theorem ggL_store_L_find : GoodIn wsL_store wsL_find := goodIn_r _ [5] (by decide +kernel) (by decide +kernel)
set_option maxRecDepth 20000 in
theorem gL_store_L_find : GoodIn wsL_store (va_wsS RL 29 yL_find wsL_find) := goodIn_app (goodIn_of _ (by decide +kernel)) ggL_store_L_find
set_option maxRecDepth 20000 in
theorem ggL_store_L_block : GoodIn wsL_store wsL_block := goodIn_r _ [8, 9] (by decide +kernel) (by decide +kernel)
set_option maxRecDepth 20000 in
theorem gL_store_L_block : GoodIn wsL_store (va_wsS RL 13 yL_block wsL_block) := goodIn_app (goodIn_of _ (by decide +kernel)) ggL_store_L_block
set_option maxRecDepth 20000 in
theorem ggL_store_L_like : GoodIn wsL_store wsL_like := goodIn_r _ [12] (by decide +kernel) (by decide +kernel)
set_option maxRecDepth 20000 in
theorem gL_store_L_like : GoodIn wsL_store (va_wsS RL 35 yL_like wsL_like) := goodIn_app (goodIn_of _ (by decide +kernel)) ggL_store_L_like
set_option maxRecDepth 20000 in
theorem ggL_store_L_sweep : GoodIn wsL_store wsL_sweep := goodIn_r _ [15, 16, 17, 18, 4, 19, 6, 7, 8, 9] (by decide +kernel) (by decide +kernel)
set_option maxRecDepth 20000 in
theorem gL_store_L_sweep : GoodIn wsL_store (va_wsS RL 39 yL_sweep wsL_sweep) := goodIn_app (goodIn_of _ (by decide +kernel)) ggL_store_L_sweep
theorem dL_store_0 : decode cL_store 0 = .ok (.aload_n 0, 1) := by decide +kernel
theorem dL_store_1 : decode cL_store 1 = .ok (.aload_n 2, 1) := by decide +kernel
theorem dL_store_2 : decode cL_store 2 = .ok (.aload_n 1, 1) := by decide +kernel
theorem dL_store_3 : decode cL_store 3 = .ok (.iload 7, 2) := by decide +kernel
theorem dL_store_5 : decode cL_store 5 = .ok (.iaload, 1) := by decide +kernel
theorem dL_store_6 : decode cL_store 6 = .ok (.invokestatic 29, 3) := by decide +kernel
theorem dL_store_9 : decode cL_store 9 = .ok (.istore 9, 2) := by decide +kernel
theorem dL_store_11 : decode cL_store 11 = .ok (.aload_n 0, 1) := by decide +kernel
theorem dL_store_12 : decode cL_store 12 = .ok (.iconst 0, 1) := by decide +kernel
theorem dL_store_13 : decode cL_store 13 = .ok (.iaload, 1) := by decide +kernel
theorem dL_store_14 : decode cL_store 14 = .ok (.istore 10, 2) := by decide +kernel
theorem dL_store_16 : decode cL_store 16 = .ok (.iconst 0, 1) := by decide +kernel
theorem dL_store_17 : decode cL_store 17 = .ok (.istore 11, 2) := by decide +kernel
theorem dL_store_19 : decode cL_store 19 = .ok (.iconst 0, 1) := by decide +kernel
theorem dL_store_20 : decode cL_store 20 = .ok (.istore 12, 2) := by decide +kernel
theorem dL_store_22 : decode cL_store 22 = .ok (.iconst 0, 1) := by decide +kernel
theorem dL_store_23 : decode cL_store 23 = .ok (.istore 13, 2) := by decide +kernel
theorem dL_store_25 : decode cL_store 25 = .ok (.lconst 0, 1) := by decide +kernel
theorem dL_store_26 : decode cL_store 26 = .ok (.lstore 14, 2) := by decide +kernel
theorem dL_store_28 : decode cL_store 28 = .ok (.iload 10, 2) := by decide +kernel
theorem dL_store_30 : decode cL_store 30 = .ok (.bipush 16, 2) := by decide +kernel
theorem dL_store_32 : decode cL_store 32 = .ok (.if_icmp .ne 5, 3) := by decide +kernel
theorem dL_store_35 : decode cL_store 35 = .ok (.iconst (-1), 1) := by decide +kernel
theorem dL_store_36 : decode cL_store 36 = .ok (.ireturn, 1) := by decide +kernel
theorem dL_store_37 : decode cL_store 37 = .ok (.iconst 0, 1) := by decide +kernel
theorem dL_store_38 : decode cL_store 38 = .ok (.istore 16, 2) := by decide +kernel
theorem dL_store_40 : decode cL_store 40 = .ok (.iload 16, 2) := by decide +kernel
theorem dL_store_42 : decode cL_store 42 = .ok (.bipush 6, 2) := by decide +kernel
theorem dL_store_44 : decode cL_store 44 = .ok (.if_icmp .ge 293, 3) := by decide +kernel
theorem dL_store_47 : decode cL_store 47 = .ok (.lconst 0, 1) := by decide +kernel
theorem dL_store_48 : decode cL_store 48 = .ok (.lstore 17, 2) := by decide +kernel
theorem dL_store_50 : decode cL_store 50 = .ok (.lconst 0, 1) := by decide +kernel
theorem dL_store_51 : decode cL_store 51 = .ok (.lstore 19, 2) := by decide +kernel
theorem dL_store_53 : decode cL_store 53 = .ok (.bipush 7, 2) := by decide +kernel
theorem dL_store_55 : decode cL_store 55 = .ok (.istore 21, 2) := by decide +kernel
theorem dL_store_57 : decode cL_store 57 = .ok (.iload 21, 2) := by decide +kernel
theorem dL_store_59 : decode cL_store 59 = .ok (.ifCond .lt 75, 3) := by decide +kernel
theorem dL_store_62 : decode cL_store 62 = .ok (.iload 21, 2) := by decide +kernel
theorem dL_store_64 : decode cL_store 64 = .ok (.bipush 6, 2) := by decide +kernel
theorem dL_store_66 : decode cL_store 66 = .ok (.if_icmp .ge 25, 3) := by decide +kernel
theorem dL_store_69 : decode cL_store 69 = .ok (.ldc2_w 33, 3) := by decide +kernel
theorem dL_store_72 : decode cL_store 72 = .ok (.lload 17, 2) := by decide +kernel
theorem dL_store_74 : decode cL_store 74 = .ok (.lmul, 1) := by decide +kernel
theorem dL_store_75 : decode cL_store 75 = .ok (.aload 8, 2) := by decide +kernel
theorem dL_store_77 : decode cL_store 77 = .ok (.bipush 8, 2) := by decide +kernel
theorem dL_store_79 : decode cL_store 79 = .ok (.iload 16, 2) := by decide +kernel
theorem dL_store_81 : decode cL_store 81 = .ok (.imul, 1) := by decide +kernel
theorem dL_store_82 : decode cL_store 82 = .ok (.iload 21, 2) := by decide +kernel
theorem dL_store_84 : decode cL_store 84 = .ok (.iadd, 1) := by decide +kernel
theorem dL_store_85 : decode cL_store 85 = .ok (.iaload, 1) := by decide +kernel
theorem dL_store_86 : decode cL_store 86 = .ok (.i2l, 1) := by decide +kernel
theorem dL_store_87 : decode cL_store 87 = .ok (.ladd, 1) := by decide +kernel
theorem dL_store_88 : decode cL_store 88 = .ok (.goto 5, 3) := by decide +kernel
theorem dL_store_91 : decode cL_store 91 = .ok (.lload 17, 2) := by decide +kernel
theorem dL_store_93 : decode cL_store 93 = .ok (.lstore 17, 2) := by decide +kernel
theorem dL_store_95 : decode cL_store 95 = .ok (.iload 21, 2) := by decide +kernel
theorem dL_store_97 : decode cL_store 97 = .ok (.bipush 6, 2) := by decide +kernel
theorem dL_store_99 : decode cL_store 99 = .ok (.if_icmp .ge 8, 3) := by decide +kernel
theorem dL_store_102 : decode cL_store 102 = .ok (.lload 19, 2) := by decide +kernel
theorem dL_store_104 : decode cL_store 104 = .ok (.goto 22, 3) := by decide +kernel
theorem dL_store_107 : decode cL_store 107 = .ok (.ldc2_w 33, 3) := by decide +kernel
theorem dL_store_110 : decode cL_store 110 = .ok (.lload 19, 2) := by decide +kernel
theorem dL_store_112 : decode cL_store 112 = .ok (.lmul, 1) := by decide +kernel
theorem dL_store_113 : decode cL_store 113 = .ok (.aload 8, 2) := by decide +kernel
theorem dL_store_115 : decode cL_store 115 = .ok (.bipush 8, 2) := by decide +kernel
theorem dL_store_117 : decode cL_store 117 = .ok (.iload 16, 2) := by decide +kernel
theorem dL_store_119 : decode cL_store 119 = .ok (.imul, 1) := by decide +kernel
theorem dL_store_120 : decode cL_store 120 = .ok (.iload 21, 2) := by decide +kernel
theorem dL_store_122 : decode cL_store 122 = .ok (.iadd, 1) := by decide +kernel
theorem dL_store_123 : decode cL_store 123 = .ok (.iaload, 1) := by decide +kernel
theorem dL_store_124 : decode cL_store 124 = .ok (.i2l, 1) := by decide +kernel
theorem dL_store_125 : decode cL_store 125 = .ok (.ladd, 1) := by decide +kernel
theorem dL_store_126 : decode cL_store 126 = .ok (.lstore 19, 2) := by decide +kernel
theorem dL_store_128 : decode cL_store 128 = .ok (.iinc 21 (-1), 3) := by decide +kernel
theorem dL_store_131 : decode cL_store 131 = .ok (.goto (-74), 3) := by decide +kernel
theorem dL_store_134 : decode cL_store 134 = .ok (.aload 4, 2) := by decide +kernel
theorem dL_store_136 : decode cL_store 136 = .ok (.iload 9, 2) := by decide +kernel
theorem dL_store_138 : decode cL_store 138 = .ok (.iload 16, 2) := by decide +kernel
theorem dL_store_140 : decode cL_store 140 = .ok (.invokestatic 13, 3) := by decide +kernel
theorem dL_store_143 : decode cL_store 143 = .ok (.istore 21, 2) := by decide +kernel
theorem dL_store_145 : decode cL_store 145 = .ok (.aload 5, 2) := by decide +kernel
theorem dL_store_147 : decode cL_store 147 = .ok (.iload 21, 2) := by decide +kernel
theorem dL_store_149 : decode cL_store 149 = .ok (.laload, 1) := by decide +kernel
theorem dL_store_150 : decode cL_store 150 = .ok (.lload 17, 2) := by decide +kernel
theorem dL_store_152 : decode cL_store 152 = .ok (.lcmp, 1) := by decide +kernel
theorem dL_store_153 : decode cL_store 153 = .ok (.ifCond .ne 19, 3) := by decide +kernel
theorem dL_store_156 : decode cL_store 156 = .ok (.aload 6, 2) := by decide +kernel
theorem dL_store_158 : decode cL_store 158 = .ok (.iload 21, 2) := by decide +kernel
theorem dL_store_160 : decode cL_store 160 = .ok (.laload, 1) := by decide +kernel
theorem dL_store_161 : decode cL_store 161 = .ok (.lload 19, 2) := by decide +kernel
theorem dL_store_163 : decode cL_store 163 = .ok (.lcmp, 1) := by decide +kernel
theorem dL_store_164 : decode cL_store 164 = .ok (.ifCond .ne 8, 3) := by decide +kernel
theorem dL_store_167 : decode cL_store 167 = .ok (.iload 21, 2) := by decide +kernel
theorem dL_store_169 : decode cL_store 169 = .ok (.goto 26, 3) := by decide +kernel
theorem dL_store_172 : decode cL_store 172 = .ok (.aload_n 0, 1) := by decide +kernel
theorem dL_store_173 : decode cL_store 173 = .ok (.iconst 5, 1) := by decide +kernel
theorem dL_store_174 : decode cL_store 174 = .ok (.iaload, 1) := by decide +kernel
theorem dL_store_175 : decode cL_store 175 = .ok (.iconst 1, 1) := by decide +kernel
theorem dL_store_176 : decode cL_store 176 = .ok (.if_icmp .ne 18, 3) := by decide +kernel
theorem dL_store_179 : decode cL_store 179 = .ok (.aload 5, 2) := by decide +kernel
theorem dL_store_181 : decode cL_store 181 = .ok (.aload 6, 2) := by decide +kernel
theorem dL_store_183 : decode cL_store 183 = .ok (.lload 17, 2) := by decide +kernel
theorem dL_store_185 : decode cL_store 185 = .ok (.lload 19, 2) := by decide +kernel
theorem dL_store_187 : decode cL_store 187 = .ok (.iconst (-1), 1) := by decide +kernel
theorem dL_store_188 : decode cL_store 188 = .ok (.invokestatic 35, 3) := by decide +kernel
theorem dL_store_191 : decode cL_store 191 = .ok (.goto 4, 3) := by decide +kernel
theorem dL_store_194 : decode cL_store 194 = .ok (.iconst (-1), 1) := by decide +kernel
theorem dL_store_195 : decode cL_store 195 = .ok (.istore 22, 2) := by decide +kernel
theorem dL_store_197 : decode cL_store 197 = .ok (.iload 12, 2) := by decide +kernel
theorem dL_store_199 : decode cL_store 199 = .ok (.iload 22, 2) := by decide +kernel
theorem dL_store_201 : decode cL_store 201 = .ok (.ifCond .lt 29, 3) := by decide +kernel
theorem dL_store_204 : decode cL_store 204 = .ok (.aload 5, 2) := by decide +kernel
theorem dL_store_206 : decode cL_store 206 = .ok (.iload 21, 2) := by decide +kernel
theorem dL_store_208 : decode cL_store 208 = .ok (.laload, 1) := by decide +kernel
theorem dL_store_209 : decode cL_store 209 = .ok (.lload 17, 2) := by decide +kernel
theorem dL_store_211 : decode cL_store 211 = .ok (.lcmp, 1) := by decide +kernel
theorem dL_store_212 : decode cL_store 212 = .ok (.ifCond .ne 14, 3) := by decide +kernel
theorem dL_store_215 : decode cL_store 215 = .ok (.aload 6, 2) := by decide +kernel
theorem dL_store_217 : decode cL_store 217 = .ok (.iload 21, 2) := by decide +kernel
theorem dL_store_219 : decode cL_store 219 = .ok (.laload, 1) := by decide +kernel
theorem dL_store_220 : decode cL_store 220 = .ok (.lload 19, 2) := by decide +kernel
theorem dL_store_222 : decode cL_store 222 = .ok (.lcmp, 1) := by decide +kernel
theorem dL_store_223 : decode cL_store 223 = .ok (.ifCond .eq 7, 3) := by decide +kernel
theorem dL_store_226 : decode cL_store 226 = .ok (.iconst 1, 1) := by decide +kernel
theorem dL_store_227 : decode cL_store 227 = .ok (.goto 4, 3) := by decide +kernel
theorem dL_store_230 : decode cL_store 230 = .ok (.iconst 0, 1) := by decide +kernel
theorem dL_store_231 : decode cL_store 231 = .ok (.iadd, 1) := by decide +kernel
theorem dL_store_232 : decode cL_store 232 = .ok (.istore 12, 2) := by decide +kernel
theorem dL_store_234 : decode cL_store 234 = .ok (.iconst 0, 1) := by decide +kernel
theorem dL_store_235 : decode cL_store 235 = .ok (.istore 23, 2) := by decide +kernel
theorem dL_store_237 : decode cL_store 237 = .ok (.iload 23, 2) := by decide +kernel
theorem dL_store_239 : decode cL_store 239 = .ok (.bipush 40, 2) := by decide +kernel
theorem dL_store_241 : decode cL_store 241 = .ok (.if_icmp .ge 19, 3) := by decide +kernel
theorem dL_store_244 : decode cL_store 244 = .ok (.aload 6, 2) := by decide +kernel
theorem dL_store_246 : decode cL_store 246 = .ok (.iload 23, 2) := by decide +kernel
theorem dL_store_248 : decode cL_store 248 = .ok (.laload, 1) := by decide +kernel
theorem dL_store_249 : decode cL_store 249 = .ok (.lconst 0, 1) := by decide +kernel
theorem dL_store_250 : decode cL_store 250 = .ok (.lcmp, 1) := by decide +kernel
theorem dL_store_251 : decode cL_store 251 = .ok (.ifCond .lt 9, 3) := by decide +kernel
theorem dL_store_254 : decode cL_store 254 = .ok (.iinc 23 1, 3) := by decide +kernel
theorem dL_store_257 : decode cL_store 257 = .ok (.goto (-20), 3) := by decide +kernel
theorem dL_store_260 : decode cL_store 260 = .ok (.iload 22, 2) := by decide +kernel
theorem dL_store_262 : decode cL_store 262 = .ok (.ifCond .ge 31, 3) := by decide +kernel
theorem dL_store_265 : decode cL_store 265 = .ok (.iload 23, 2) := by decide +kernel
theorem dL_store_267 : decode cL_store 267 = .ok (.bipush 40, 2) := by decide +kernel
theorem dL_store_269 : decode cL_store 269 = .ok (.if_icmp .ge 24, 3) := by decide +kernel
theorem dL_store_272 : decode cL_store 272 = .ok (.aload 5, 2) := by decide +kernel
theorem dL_store_274 : decode cL_store 274 = .ok (.iload 23, 2) := by decide +kernel
theorem dL_store_276 : decode cL_store 276 = .ok (.lload 17, 2) := by decide +kernel
theorem dL_store_278 : decode cL_store 278 = .ok (.lastore, 1) := by decide +kernel
theorem dL_store_279 : decode cL_store 279 = .ok (.aload 6, 2) := by decide +kernel
theorem dL_store_281 : decode cL_store 281 = .ok (.iload 23, 2) := by decide +kernel
theorem dL_store_283 : decode cL_store 283 = .ok (.lload 19, 2) := by decide +kernel
theorem dL_store_285 : decode cL_store 285 = .ok (.lastore, 1) := by decide +kernel
theorem dL_store_286 : decode cL_store 286 = .ok (.iinc 11 1, 3) := by decide +kernel
theorem dL_store_289 : decode cL_store 289 = .ok (.iload 23, 2) := by decide +kernel
theorem dL_store_291 : decode cL_store 291 = .ok (.istore 22, 2) := by decide +kernel
theorem dL_store_293 : decode cL_store 293 = .ok (.iload 13, 2) := by decide +kernel
theorem dL_store_295 : decode cL_store 295 = .ok (.iload 22, 2) := by decide +kernel
theorem dL_store_297 : decode cL_store 297 = .ok (.ifCond .lt 7, 3) := by decide +kernel
theorem dL_store_300 : decode cL_store 300 = .ok (.iconst 1, 1) := by decide +kernel
theorem dL_store_301 : decode cL_store 301 = .ok (.goto 4, 3) := by decide +kernel
theorem dL_store_304 : decode cL_store 304 = .ok (.iconst 0, 1) := by decide +kernel
theorem dL_store_305 : decode cL_store 305 = .ok (.iadd, 1) := by decide +kernel
theorem dL_store_306 : decode cL_store 306 = .ok (.istore 13, 2) := by decide +kernel
theorem dL_store_308 : decode cL_store 308 = .ok (.lload 14, 2) := by decide +kernel
theorem dL_store_310 : decode cL_store 310 = .ok (.iload 22, 2) := by decide +kernel
theorem dL_store_312 : decode cL_store 312 = .ok (.ifCond .ge 7, 3) := by decide +kernel
theorem dL_store_315 : decode cL_store 315 = .ok (.lconst 0, 1) := by decide +kernel
theorem dL_store_316 : decode cL_store 316 = .ok (.goto 6, 3) := by decide +kernel
theorem dL_store_319 : decode cL_store 319 = .ok (.iload 22, 2) := by decide +kernel
theorem dL_store_321 : decode cL_store 321 = .ok (.i2l, 1) := by decide +kernel
theorem dL_store_322 : decode cL_store 322 = .ok (.bipush 6, 2) := by decide +kernel
theorem dL_store_324 : decode cL_store 324 = .ok (.iload 16, 2) := by decide +kernel
theorem dL_store_326 : decode cL_store 326 = .ok (.imul, 1) := by decide +kernel
theorem dL_store_327 : decode cL_store 327 = .ok (.lshl, 1) := by decide +kernel
theorem dL_store_328 : decode cL_store 328 = .ok (.lor, 1) := by decide +kernel
theorem dL_store_329 : decode cL_store 329 = .ok (.lstore 14, 2) := by decide +kernel
theorem dL_store_331 : decode cL_store 331 = .ok (.iinc 16 1, 3) := by decide +kernel
theorem dL_store_334 : decode cL_store 334 = .ok (.goto (-294), 3) := by decide +kernel
theorem dL_store_337 : decode cL_store 337 = .ok (.iload 13, 2) := by decide +kernel
theorem dL_store_339 : decode cL_store 339 = .ok (.bipush 6, 2) := by decide +kernel
theorem dL_store_341 : decode cL_store 341 = .ok (.if_icmp .ge 25, 3) := by decide +kernel
theorem dL_store_344 : decode cL_store 344 = .ok (.aload_n 0, 1) := by decide +kernel
theorem dL_store_345 : decode cL_store 345 = .ok (.aload 4, 2) := by decide +kernel
theorem dL_store_347 : decode cL_store 347 = .ok (.aload 6, 2) := by decide +kernel
theorem dL_store_349 : decode cL_store 349 = .ok (.invokestatic 39, 3) := by decide +kernel
theorem dL_store_352 : decode cL_store 352 = .ok (.istore 16, 2) := by decide +kernel
theorem dL_store_354 : decode cL_store 354 = .ok (.iload 16, 2) := by decide +kernel
theorem dL_store_356 : decode cL_store 356 = .ok (.ifCond .ge 8, 3) := by decide +kernel
theorem dL_store_359 : decode cL_store 359 = .ok (.bipush (-2), 2) := by decide +kernel
theorem dL_store_361 : decode cL_store 361 = .ok (.goto 4, 3) := by decide +kernel
theorem dL_store_364 : decode cL_store 364 = .ok (.iconst (-1), 1) := by decide +kernel
theorem dL_store_365 : decode cL_store 365 = .ok (.ireturn, 1) := by decide +kernel
theorem dL_store_366 : decode cL_store 366 = .ok (.aload_n 2, 1) := by decide +kernel
theorem dL_store_367 : decode cL_store 367 = .ok (.iload 10, 2) := by decide +kernel
theorem dL_store_369 : decode cL_store 369 = .ok (.aload_n 0, 1) := by decide +kernel
theorem dL_store_370 : decode cL_store 370 = .ok (.iconst 1, 1) := by decide +kernel
theorem dL_store_371 : decode cL_store 371 = .ok (.iaload, 1) := by decide +kernel
theorem dL_store_372 : decode cL_store 372 = .ok (.iastore, 1) := by decide +kernel
theorem dL_store_373 : decode cL_store 373 = .ok (.aload_n 3, 1) := by decide +kernel
theorem dL_store_374 : decode cL_store 374 = .ok (.iload 10, 2) := by decide +kernel
theorem dL_store_376 : decode cL_store 376 = .ok (.aload_n 1, 1) := by decide +kernel
theorem dL_store_377 : decode cL_store 377 = .ok (.iload 7, 2) := by decide +kernel
theorem dL_store_379 : decode cL_store 379 = .ok (.iaload, 1) := by decide +kernel
theorem dL_store_380 : decode cL_store 380 = .ok (.iastore, 1) := by decide +kernel
theorem dL_store_381 : decode cL_store 381 = .ok (.aload 4, 2) := by decide +kernel
theorem dL_store_383 : decode cL_store 383 = .ok (.iload 10, 2) := by decide +kernel
theorem dL_store_385 : decode cL_store 385 = .ok (.lload 14, 2) := by decide +kernel
theorem dL_store_387 : decode cL_store 387 = .ok (.lastore, 1) := by decide +kernel
theorem dL_store_388 : decode cL_store 388 = .ok (.aload_n 1, 1) := by decide +kernel
theorem dL_store_389 : decode cL_store 389 = .ok (.iload 7, 2) := by decide +kernel
theorem dL_store_391 : decode cL_store 391 = .ok (.aload_n 0, 1) := by decide +kernel
theorem dL_store_392 : decode cL_store 392 = .ok (.iconst 1, 1) := by decide +kernel
theorem dL_store_393 : decode cL_store 393 = .ok (.iaload, 1) := by decide +kernel
theorem dL_store_394 : decode cL_store 394 = .ok (.iastore, 1) := by decide +kernel
theorem dL_store_395 : decode cL_store 395 = .ok (.aload_n 0, 1) := by decide +kernel
theorem dL_store_396 : decode cL_store 396 = .ok (.iconst 0, 1) := by decide +kernel
theorem dL_store_397 : decode cL_store 397 = .ok (.dup2, 1) := by decide +kernel
theorem dL_store_398 : decode cL_store 398 = .ok (.iaload, 1) := by decide +kernel
theorem dL_store_399 : decode cL_store 399 = .ok (.iconst 1, 1) := by decide +kernel
theorem dL_store_400 : decode cL_store 400 = .ok (.iadd, 1) := by decide +kernel
theorem dL_store_401 : decode cL_store 401 = .ok (.iastore, 1) := by decide +kernel
theorem dL_store_402 : decode cL_store 402 = .ok (.aload_n 0, 1) := by decide +kernel
theorem dL_store_403 : decode cL_store 403 = .ok (.iconst 1, 1) := by decide +kernel
theorem dL_store_404 : decode cL_store 404 = .ok (.dup2, 1) := by decide +kernel
theorem dL_store_405 : decode cL_store 405 = .ok (.iaload, 1) := by decide +kernel
theorem dL_store_406 : decode cL_store 406 = .ok (.iconst 1, 1) := by decide +kernel
theorem dL_store_407 : decode cL_store 407 = .ok (.iadd, 1) := by decide +kernel
theorem dL_store_408 : decode cL_store 408 = .ok (.iastore, 1) := by decide +kernel
theorem dL_store_409 : decode cL_store 409 = .ok (.aload_n 0, 1) := by decide +kernel
theorem dL_store_410 : decode cL_store 410 = .ok (.iconst 2, 1) := by decide +kernel
theorem dL_store_411 : decode cL_store 411 = .ok (.dup2, 1) := by decide +kernel
theorem dL_store_412 : decode cL_store 412 = .ok (.iaload, 1) := by decide +kernel
theorem dL_store_413 : decode cL_store 413 = .ok (.iload 11, 2) := by decide +kernel
theorem dL_store_415 : decode cL_store 415 = .ok (.iadd, 1) := by decide +kernel
theorem dL_store_416 : decode cL_store 416 = .ok (.iastore, 1) := by decide +kernel
theorem dL_store_417 : decode cL_store 417 = .ok (.aload_n 0, 1) := by decide +kernel
theorem dL_store_418 : decode cL_store 418 = .ok (.iconst 3, 1) := by decide +kernel
theorem dL_store_419 : decode cL_store 419 = .ok (.dup2, 1) := by decide +kernel
theorem dL_store_420 : decode cL_store 420 = .ok (.iaload, 1) := by decide +kernel
theorem dL_store_421 : decode cL_store 421 = .ok (.iload 12, 2) := by decide +kernel
theorem dL_store_423 : decode cL_store 423 = .ok (.iadd, 1) := by decide +kernel
theorem dL_store_424 : decode cL_store 424 = .ok (.iastore, 1) := by decide +kernel
theorem dL_store_425 : decode cL_store 425 = .ok (.aload_n 2, 1) := by decide +kernel
theorem dL_store_426 : decode cL_store 426 = .ok (.iload 10, 2) := by decide +kernel
theorem dL_store_428 : decode cL_store 428 = .ok (.iaload, 1) := by decide +kernel
theorem dL_store_429 : decode cL_store 429 = .ok (.ireturn, 1) := by decide +kernel
set_option maxRecDepth 20000 in
theorem ggL_common_L_find : GoodIn wsL_common wsL_find := goodIn_r _ [4] (by decide +kernel) (by decide +kernel)
set_option maxRecDepth 20000 in
theorem gL_common_L_find : GoodIn wsL_common (va_wsS RL 29 yL_find wsL_find) := goodIn_app (goodIn_of _ (by decide +kernel)) ggL_common_L_find
theorem dL_common_0 : decode cL_common 0 = .ok (.iload_n 3, 1) := by decide +kernel
theorem dL_common_1 : decode cL_common 1 = .ok (.istore 5, 2) := by decide +kernel
theorem dL_common_3 : decode cL_common 3 = .ok (.iload 4, 2) := by decide +kernel
theorem dL_common_5 : decode cL_common 5 = .ok (.istore 6, 2) := by decide +kernel
theorem dL_common_7 : decode cL_common 7 = .ok (.iload 5, 2) := by decide +kernel
theorem dL_common_9 : decode cL_common 9 = .ok (.iload 6, 2) := by decide +kernel
theorem dL_common_11 : decode cL_common 11 = .ok (.if_icmp .eq 38, 3) := by decide +kernel
theorem dL_common_14 : decode cL_common 14 = .ok (.iload 5, 2) := by decide +kernel
theorem dL_common_16 : decode cL_common 16 = .ok (.iload 6, 2) := by decide +kernel
theorem dL_common_18 : decode cL_common 18 = .ok (.if_icmp .le 17, 3) := by decide +kernel
theorem dL_common_21 : decode cL_common 21 = .ok (.aload_n 2, 1) := by decide +kernel
theorem dL_common_22 : decode cL_common 22 = .ok (.aload_n 0, 1) := by decide +kernel
theorem dL_common_23 : decode cL_common 23 = .ok (.aload_n 1, 1) := by decide +kernel
theorem dL_common_24 : decode cL_common 24 = .ok (.iload 5, 2) := by decide +kernel
theorem dL_common_26 : decode cL_common 26 = .ok (.invokestatic 29, 3) := by decide +kernel
theorem dL_common_29 : decode cL_common 29 = .ok (.iaload, 1) := by decide +kernel
theorem dL_common_30 : decode cL_common 30 = .ok (.istore 5, 2) := by decide +kernel
theorem dL_common_32 : decode cL_common 32 = .ok (.goto (-25), 3) := by decide +kernel
theorem dL_common_35 : decode cL_common 35 = .ok (.aload_n 2, 1) := by decide +kernel
theorem dL_common_36 : decode cL_common 36 = .ok (.aload_n 0, 1) := by decide +kernel
theorem dL_common_37 : decode cL_common 37 = .ok (.aload_n 1, 1) := by decide +kernel
theorem dL_common_38 : decode cL_common 38 = .ok (.iload 6, 2) := by decide +kernel
theorem dL_common_40 : decode cL_common 40 = .ok (.invokestatic 29, 3) := by decide +kernel
theorem dL_common_43 : decode cL_common 43 = .ok (.iaload, 1) := by decide +kernel
theorem dL_common_44 : decode cL_common 44 = .ok (.istore 6, 2) := by decide +kernel
theorem dL_common_46 : decode cL_common 46 = .ok (.goto (-39), 3) := by decide +kernel
theorem dL_common_49 : decode cL_common 49 = .ok (.iload 5, 2) := by decide +kernel
theorem dL_common_51 : decode cL_common 51 = .ok (.ireturn, 1) := by decide +kernel
set_option maxRecDepth 20000 in
theorem ggL_merge_L_find : GoodIn wsL_merge wsL_find := goodIn_r _ [4] (by decide +kernel) (by decide +kernel)
set_option maxRecDepth 20000 in
theorem gL_merge_L_find : GoodIn wsL_merge (va_wsS RL 29 yL_find wsL_find) := goodIn_app (goodIn_of _ (by decide +kernel)) ggL_merge_L_find
set_option maxRecDepth 20000 in
theorem ggL_merge_L_common : GoodIn wsL_merge wsL_common := goodIn_r _ [7, 1, 2, 3, 4] (by decide +kernel) (by decide +kernel)
set_option maxRecDepth 20000 in
theorem gL_merge_L_common : GoodIn wsL_merge (va_wsS RL 43 yL_common wsL_common) := goodIn_app (goodIn_of _ (by decide +kernel)) ggL_merge_L_common
set_option maxRecDepth 20000 in
theorem ggL_merge_L_read : GoodIn wsL_merge wsL_read := goodIn_r _ [10, 11, 12, 3, 13, 14, 15, 16, 17, 18] (by decide +kernel) (by decide +kernel)
set_option maxRecDepth 20000 in
theorem gL_merge_L_read : GoodIn wsL_merge (va_wsS RL 47 yL_read wsL_read) := goodIn_app (goodIn_of _ (by decide +kernel)) ggL_merge_L_read
theorem dL_merge_0 : decode cL_merge 0 = .ok (.aload_n 0, 1) := by decide +kernel
theorem dL_merge_1 : decode cL_merge 1 = .ok (.aload_n 2, 1) := by decide +kernel
theorem dL_merge_2 : decode cL_merge 2 = .ok (.aload_n 1, 1) := by decide +kernel
theorem dL_merge_3 : decode cL_merge 3 = .ok (.iload 7, 2) := by decide +kernel
theorem dL_merge_5 : decode cL_merge 5 = .ok (.iaload, 1) := by decide +kernel
theorem dL_merge_6 : decode cL_merge 6 = .ok (.invokestatic 29, 3) := by decide +kernel
theorem dL_merge_9 : decode cL_merge 9 = .ok (.istore 10, 2) := by decide +kernel
theorem dL_merge_11 : decode cL_merge 11 = .ok (.aload_n 0, 1) := by decide +kernel
theorem dL_merge_12 : decode cL_merge 12 = .ok (.aload_n 2, 1) := by decide +kernel
theorem dL_merge_13 : decode cL_merge 13 = .ok (.iload 8, 2) := by decide +kernel
theorem dL_merge_15 : decode cL_merge 15 = .ok (.invokestatic 29, 3) := by decide +kernel
theorem dL_merge_18 : decode cL_merge 18 = .ok (.istore 11, 2) := by decide +kernel
theorem dL_merge_20 : decode cL_merge 20 = .ok (.aload_n 0, 1) := by decide +kernel
theorem dL_merge_21 : decode cL_merge 21 = .ok (.aload_n 2, 1) := by decide +kernel
theorem dL_merge_22 : decode cL_merge 22 = .ok (.aload_n 0, 1) := by decide +kernel
theorem dL_merge_23 : decode cL_merge 23 = .ok (.aload_n 2, 1) := by decide +kernel
theorem dL_merge_24 : decode cL_merge 24 = .ok (.aload_n 3, 1) := by decide +kernel
theorem dL_merge_25 : decode cL_merge 25 = .ok (.aload_n 1, 1) := by decide +kernel
theorem dL_merge_26 : decode cL_merge 26 = .ok (.iload 7, 2) := by decide +kernel
theorem dL_merge_28 : decode cL_merge 28 = .ok (.iaload, 1) := by decide +kernel
theorem dL_merge_29 : decode cL_merge 29 = .ok (.iload 8, 2) := by decide +kernel
theorem dL_merge_31 : decode cL_merge 31 = .ok (.invokestatic 43, 3) := by decide +kernel
theorem dL_merge_34 : decode cL_merge 34 = .ok (.invokestatic 29, 3) := by decide +kernel
theorem dL_merge_37 : decode cL_merge 37 = .ok (.istore 12, 2) := by decide +kernel
theorem dL_merge_39 : decode cL_merge 39 = .ok (.iconst 0, 1) := by decide +kernel
theorem dL_merge_40 : decode cL_merge 40 = .ok (.istore 13, 2) := by decide +kernel
theorem dL_merge_42 : decode cL_merge 42 = .ok (.iconst 0, 1) := by decide +kernel
theorem dL_merge_43 : decode cL_merge 43 = .ok (.istore 14, 2) := by decide +kernel
theorem dL_merge_45 : decode cL_merge 45 = .ok (.iload 14, 2) := by decide +kernel
theorem dL_merge_47 : decode cL_merge 47 = .ok (.bipush 48, 2) := by decide +kernel
theorem dL_merge_49 : decode cL_merge 49 = .ok (.if_icmp .ge 104, 3) := by decide +kernel
theorem dL_merge_52 : decode cL_merge 52 = .ok (.aload 4, 2) := by decide +kernel
theorem dL_merge_54 : decode cL_merge 54 = .ok (.aload 5, 2) := by decide +kernel
theorem dL_merge_56 : decode cL_merge 56 = .ok (.aload 6, 2) := by decide +kernel
theorem dL_merge_58 : decode cL_merge 58 = .ok (.iload 10, 2) := by decide +kernel
theorem dL_merge_60 : decode cL_merge 60 = .ok (.iload 14, 2) := by decide +kernel
theorem dL_merge_62 : decode cL_merge 62 = .ok (.invokestatic 47, 3) := by decide +kernel
theorem dL_merge_65 : decode cL_merge 65 = .ok (.istore 15, 2) := by decide +kernel
theorem dL_merge_67 : decode cL_merge 67 = .ok (.aload 4, 2) := by decide +kernel
theorem dL_merge_69 : decode cL_merge 69 = .ok (.aload 5, 2) := by decide +kernel
theorem dL_merge_71 : decode cL_merge 71 = .ok (.aload 6, 2) := by decide +kernel
theorem dL_merge_73 : decode cL_merge 73 = .ok (.iload 11, 2) := by decide +kernel
theorem dL_merge_75 : decode cL_merge 75 = .ok (.iload 14, 2) := by decide +kernel
theorem dL_merge_77 : decode cL_merge 77 = .ok (.invokestatic 47, 3) := by decide +kernel
theorem dL_merge_80 : decode cL_merge 80 = .ok (.istore 16, 2) := by decide +kernel
theorem dL_merge_82 : decode cL_merge 82 = .ok (.aload 4, 2) := by decide +kernel
theorem dL_merge_84 : decode cL_merge 84 = .ok (.aload 5, 2) := by decide +kernel
theorem dL_merge_86 : decode cL_merge 86 = .ok (.aload 6, 2) := by decide +kernel
theorem dL_merge_88 : decode cL_merge 88 = .ok (.iload 12, 2) := by decide +kernel
theorem dL_merge_90 : decode cL_merge 90 = .ok (.iload 14, 2) := by decide +kernel
theorem dL_merge_92 : decode cL_merge 92 = .ok (.invokestatic 47, 3) := by decide +kernel
theorem dL_merge_95 : decode cL_merge 95 = .ok (.istore 17, 2) := by decide +kernel
theorem dL_merge_97 : decode cL_merge 97 = .ok (.aload 9, 2) := by decide +kernel
theorem dL_merge_99 : decode cL_merge 99 = .ok (.iload 14, 2) := by decide +kernel
theorem dL_merge_101 : decode cL_merge 101 = .ok (.iload 15, 2) := by decide +kernel
theorem dL_merge_103 : decode cL_merge 103 = .ok (.iload 17, 2) := by decide +kernel
theorem dL_merge_105 : decode cL_merge 105 = .ok (.if_icmp .ne 8, 3) := by decide +kernel
theorem dL_merge_108 : decode cL_merge 108 = .ok (.iload 16, 2) := by decide +kernel
theorem dL_merge_110 : decode cL_merge 110 = .ok (.goto 5, 3) := by decide +kernel
theorem dL_merge_113 : decode cL_merge 113 = .ok (.iload 15, 2) := by decide +kernel
theorem dL_merge_115 : decode cL_merge 115 = .ok (.iastore, 1) := by decide +kernel
theorem dL_merge_116 : decode cL_merge 116 = .ok (.iload 13, 2) := by decide +kernel
theorem dL_merge_118 : decode cL_merge 118 = .ok (.iload 15, 2) := by decide +kernel
theorem dL_merge_120 : decode cL_merge 120 = .ok (.iload 17, 2) := by decide +kernel
theorem dL_merge_122 : decode cL_merge 122 = .ok (.if_icmp .eq 21, 3) := by decide +kernel
theorem dL_merge_125 : decode cL_merge 125 = .ok (.iload 16, 2) := by decide +kernel
theorem dL_merge_127 : decode cL_merge 127 = .ok (.iload 17, 2) := by decide +kernel
theorem dL_merge_129 : decode cL_merge 129 = .ok (.if_icmp .eq 14, 3) := by decide +kernel
theorem dL_merge_132 : decode cL_merge 132 = .ok (.iload 15, 2) := by decide +kernel
theorem dL_merge_134 : decode cL_merge 134 = .ok (.iload 16, 2) := by decide +kernel
theorem dL_merge_136 : decode cL_merge 136 = .ok (.if_icmp .eq 7, 3) := by decide +kernel
theorem dL_merge_139 : decode cL_merge 139 = .ok (.iconst 1, 1) := by decide +kernel
theorem dL_merge_140 : decode cL_merge 140 = .ok (.goto 4, 3) := by decide +kernel
theorem dL_merge_143 : decode cL_merge 143 = .ok (.iconst 0, 1) := by decide +kernel
theorem dL_merge_144 : decode cL_merge 144 = .ok (.iadd, 1) := by decide +kernel
theorem dL_merge_145 : decode cL_merge 145 = .ok (.istore 13, 2) := by decide +kernel
theorem dL_merge_147 : decode cL_merge 147 = .ok (.iinc 14 1, 3) := by decide +kernel
theorem dL_merge_150 : decode cL_merge 150 = .ok (.goto (-105), 3) := by decide +kernel
theorem dL_merge_153 : decode cL_merge 153 = .ok (.iload 13, 2) := by decide +kernel
theorem dL_merge_155 : decode cL_merge 155 = .ok (.ireturn, 1) := by decide +kernel
set_option maxRecDepth 20000 in
theorem ggL_writes_L_find : GoodIn wsL_writes wsL_find := goodIn_r _ [6] (by decide +kernel) (by decide +kernel)
set_option maxRecDepth 20000 in
theorem gL_writes_L_find : GoodIn wsL_writes (va_wsS RL 29 yL_find wsL_find) := goodIn_app (goodIn_of _ (by decide +kernel)) ggL_writes_L_find
set_option maxRecDepth 20000 in
theorem ggL_writes_L_read : GoodIn wsL_writes wsL_read := goodIn_r _ [9, 10, 11, 5, 12, 13, 14, 15, 16, 17] (by decide +kernel) (by decide +kernel)
set_option maxRecDepth 20000 in
theorem gL_writes_L_read : GoodIn wsL_writes (va_wsS RL 47 yL_read wsL_read) := goodIn_app (goodIn_of _ (by decide +kernel)) ggL_writes_L_read
set_option maxRecDepth 20000 in
theorem ggL_writes_L_store : GoodIn wsL_writes wsL_store := goodIn_r _ [20, 21, 3, 4, 5, 6, 10, 11, 12, 13, 22, 23, 24, 25, 26, 27, 28, 29, 30, 31] (by decide +kernel) (by decide +kernel)
set_option maxRecDepth 20000 in
theorem gL_writes_L_store : GoodIn wsL_writes (va_wsS RL 51 yL_store wsL_store) := goodIn_app (goodIn_of _ (by decide +kernel)) ggL_writes_L_store
set_option maxRecDepth 20000 in
theorem ggL_writes_X5_write : GoodIn wsL_writes wsX5_write := goodIn_r _ [36, 37, 38, 39, 35, 40, 41, 42, 43, 44, 45, 46, 47, 48, 49, 50, 51, 52, 53, 54, 55, 56, 57, 58, 59, 60, 61, 62, 63, 64, 65, 66, 67, 68, 69, 70, 71, 72, 73, 74, 75, 76, 77, 78, 79, 80, 81, 82, 83, 84, 85, 86, 87, 88, 89, 90, 91, 92, 93, 94, 95, 96, 97, 98, 99, 100, 101, 102, 103, 104, 105, 106, 107, 108, 109, 110, 111, 112, 113, 114, 115, 116, 117, 118, 119, 120, 121, 122, 123, 124, 125, 126, 127, 128, 129, 130, 131, 132, 133, 134, 135, 136, 137, 138, 139, 140, 141, 142, 143, 144, 145, 146, 147, 148, 149, 150, 151, 152, 153, 154, 155, 156, 157, 158, 159, 160, 161, 162, 206, 207, 208, 209, 210, 211, 212, 213, 214, 215, 216, 217, 218, 219, 220, 221, 222, 223, 224, 225, 226, 227] (by decide +kernel) (by decide +kernel)
set_option maxRecDepth 20000 in
theorem gL_writes_X5_write : GoodIn wsL_writes (wsV RL 55 RX5 yX5_write wsX5_write) := goodIn_app (goodIn_of _ (by decide +kernel)) ggL_writes_X5_write
set_option maxRecDepth 20000 in
theorem ggL_writes_X5_fill : GoodIn wsL_writes wsX5_fill := goodIn_r _ [166, 37, 38, 39, 35, 40, 41, 42, 43, 44, 45, 46, 47, 48, 49, 50, 51, 52, 53, 54, 55, 56, 57, 58, 59, 60, 61, 62, 63, 64, 65, 66, 67, 68, 69, 70, 71, 72, 73, 74, 75, 76, 77, 78, 79, 80, 81, 82, 83, 84, 85, 86, 87, 88, 89, 90, 91, 92, 93, 94, 95, 96, 97, 98, 99, 100, 101, 102, 103, 104, 105, 106, 107, 108, 109, 110, 111, 112, 113, 114, 115, 116, 117, 118, 119, 120, 121, 122, 123, 124, 125, 126, 127, 128, 129, 130, 131, 132, 133, 134, 135, 136, 137, 138, 139, 140, 141, 142, 143, 144, 145, 146, 147, 148, 149, 150, 151, 152, 153, 154, 155, 156, 157, 158, 159, 160, 161, 162, 206, 207, 208, 209, 210, 211, 212, 213, 214, 215, 216, 217, 218, 219, 220, 221, 222, 223, 224, 225, 226, 227] (by decide +kernel) (by decide +kernel)
set_option maxRecDepth 20000 in
theorem gL_writes_X5_fill : GoodIn wsL_writes (wsV RL 62 RX5 yX5_fill wsX5_fill) := goodIn_app (goodIn_of _ (by decide +kernel)) ggL_writes_X5_fill
set_option maxRecDepth 20000 in
theorem ggL_writes_X5_copy : GoodIn wsL_writes wsX5_copy := goodIn_r _ [170, 37, 38, 39, 35, 40, 41, 42, 43, 44, 45, 46, 47, 48, 49, 50, 51, 52, 53, 54, 55, 56, 57, 58, 59, 60, 61, 62, 63, 64, 65, 66, 67, 68, 69, 70, 71, 72, 73, 74, 75, 76, 77, 171, 172, 173, 174, 82, 83, 84, 85, 86, 87, 88, 89, 90, 91, 92, 93, 94, 95, 96, 97, 98, 99, 100, 101, 102, 103, 104, 105, 106, 107, 108, 109, 110, 111, 112, 113, 114, 115, 116, 117, 118, 119, 120, 121, 122, 123, 124, 125, 126, 127, 128, 129, 130, 131, 132, 133, 134, 135, 136, 137, 138, 139, 140, 141, 142, 143, 144, 145, 146, 147, 148, 149, 150, 151, 152, 153, 154, 155, 156, 157, 158, 159, 160, 161, 162, 206, 207, 208, 209, 210, 211, 212, 213, 214, 215, 216, 217, 218, 219, 220, 221, 222, 223, 224, 225, 226, 227] (by decide +kernel) (by decide +kernel)
set_option maxRecDepth 20000 in
theorem gL_writes_X5_copy : GoodIn wsL_writes (wsV RL 66 RX5 yX5_copy wsX5_copy) := goodIn_app (goodIn_of _ (by decide +kernel)) ggL_writes_X5_copy
set_option maxRecDepth 20000 in
theorem ggL_writes_L_merge : GoodIn wsL_writes wsL_merge := goodIn_r _ [177, 3, 4, 5, 6, 178, 179, 180, 7, 8, 9, 10, 11, 12, 13, 14, 15, 16, 17] (by decide +kernel) (by decide +kernel)
set_option maxRecDepth 20000 in
theorem gL_writes_L_merge : GoodIn wsL_writes (va_wsS RL 70 yL_merge wsL_merge) := goodIn_app (goodIn_of _ (by decide +kernel)) ggL_writes_L_merge
set_option maxRecDepth 20000 in
theorem ggL_writes_X5_merge : GoodIn wsL_writes wsX5_merge := goodIn_r _ [184, 37, 38, 39, 35, 40, 41, 42, 43, 44, 45, 46, 47, 48, 49, 50, 51, 52, 53, 54, 55, 56, 57, 58, 59, 60, 61, 62, 63, 64, 65, 66, 67, 68, 69, 70, 71, 72, 73, 74, 75, 76, 77, 185, 186, 187, 188, 82, 84, 85, 86, 87, 88, 89, 90, 91, 92, 93, 94, 95, 96, 97, 189, 190, 191, 192, 193, 194, 195, 196, 197, 198, 199, 200, 201, 202, 203, 204, 205, 83, 105, 106, 107, 108, 109, 110, 111, 112, 113, 114, 115, 116, 117, 118, 119, 120, 121, 122, 123, 124, 125, 126, 127, 128, 129, 130, 131, 132, 133, 134, 135, 136, 137, 138, 139, 140, 141, 142, 143, 144, 145, 146, 147, 148, 149, 150, 151, 152, 153, 154, 155, 156, 157, 158, 159, 160, 161, 162, 206, 207, 208, 209, 210, 211, 212, 213, 214, 215, 216, 217, 218, 219, 220, 221, 222, 223, 224, 225, 226, 227] (by decide +kernel) (by decide +kernel)
set_option maxRecDepth 20000 in
theorem gL_writes_X5_merge : GoodIn wsL_writes (wsV RL 74 RX5 yX5_merge wsX5_merge) := goodIn_app (goodIn_of _ (by decide +kernel)) ggL_writes_X5_merge
theorem dL_writes_0 : decode cL_writes 0 = .ok (.iload 9, 2) := by decide +kernel
theorem dL_writes_2 : decode cL_writes 2 = .ok (.iconst 4, 1) := by decide +kernel
theorem dL_writes_3 : decode cL_writes 3 = .ok (.irem, 1) := by decide +kernel
theorem dL_writes_4 : decode cL_writes 4 = .ok (.istore 10, 2) := by decide +kernel
theorem dL_writes_6 : decode cL_writes 6 = .ok (.iconst 0, 1) := by decide +kernel
theorem dL_writes_7 : decode cL_writes 7 = .ok (.istore 11, 2) := by decide +kernel
theorem dL_writes_9 : decode cL_writes 9 = .ok (.iload 11, 2) := by decide +kernel
theorem dL_writes_11 : decode cL_writes 11 = .ok (.iconst 4, 1) := by decide +kernel
theorem dL_writes_12 : decode cL_writes 12 = .ok (.if_icmp .ge 29, 3) := by decide +kernel
theorem dL_writes_15 : decode cL_writes 15 = .ok (.aload_n 2, 1) := by decide +kernel
theorem dL_writes_16 : decode cL_writes 16 = .ok (.iload 10, 2) := by decide +kernel
theorem dL_writes_18 : decode cL_writes 18 = .ok (.iaload, 1) := by decide +kernel
theorem dL_writes_19 : decode cL_writes 19 = .ok (.ifCond .ge 12, 3) := by decide +kernel
theorem dL_writes_22 : decode cL_writes 22 = .ok (.iload 10, 2) := by decide +kernel
theorem dL_writes_24 : decode cL_writes 24 = .ok (.iconst 1, 1) := by decide +kernel
theorem dL_writes_25 : decode cL_writes 25 = .ok (.iadd, 1) := by decide +kernel
theorem dL_writes_26 : decode cL_writes 26 = .ok (.iconst 4, 1) := by decide +kernel
theorem dL_writes_27 : decode cL_writes 27 = .ok (.irem, 1) := by decide +kernel
theorem dL_writes_28 : decode cL_writes 28 = .ok (.goto 5, 3) := by decide +kernel
theorem dL_writes_31 : decode cL_writes 31 = .ok (.iload 10, 2) := by decide +kernel
theorem dL_writes_33 : decode cL_writes 33 = .ok (.istore 10, 2) := by decide +kernel
theorem dL_writes_35 : decode cL_writes 35 = .ok (.iinc 11 1, 3) := by decide +kernel
theorem dL_writes_38 : decode cL_writes 38 = .ok (.goto (-29), 3) := by decide +kernel
theorem dL_writes_41 : decode cL_writes 41 = .ok (.aload_n 1, 1) := by decide +kernel
theorem dL_writes_42 : decode cL_writes 42 = .ok (.aload_n 3, 1) := by decide +kernel
theorem dL_writes_43 : decode cL_writes 43 = .ok (.aload_n 2, 1) := by decide +kernel
theorem dL_writes_44 : decode cL_writes 44 = .ok (.iload 10, 2) := by decide +kernel
theorem dL_writes_46 : decode cL_writes 46 = .ok (.iaload, 1) := by decide +kernel
theorem dL_writes_47 : decode cL_writes 47 = .ok (.invokestatic 29, 3) := by decide +kernel
theorem dL_writes_50 : decode cL_writes 50 = .ok (.istore 11, 2) := by decide +kernel
theorem dL_writes_52 : decode cL_writes 52 = .ok (.bipush 48, 2) := by decide +kernel
theorem dL_writes_54 : decode cL_writes 54 = .ok (.newarray .int, 2) := by decide +kernel
theorem dL_writes_56 : decode cL_writes 56 = .ok (.astore 12, 2) := by decide +kernel
theorem dL_writes_58 : decode cL_writes 58 = .ok (.iconst 0, 1) := by decide +kernel
theorem dL_writes_59 : decode cL_writes 59 = .ok (.istore 13, 2) := by decide +kernel
theorem dL_writes_61 : decode cL_writes 61 = .ok (.iload 13, 2) := by decide +kernel
theorem dL_writes_63 : decode cL_writes 63 = .ok (.bipush 48, 2) := by decide +kernel
theorem dL_writes_65 : decode cL_writes 65 = .ok (.if_icmp .ge 27, 3) := by decide +kernel
theorem dL_writes_68 : decode cL_writes 68 = .ok (.aload 12, 2) := by decide +kernel
theorem dL_writes_70 : decode cL_writes 70 = .ok (.iload 13, 2) := by decide +kernel
theorem dL_writes_72 : decode cL_writes 72 = .ok (.aload 5, 2) := by decide +kernel
theorem dL_writes_74 : decode cL_writes 74 = .ok (.aload 6, 2) := by decide +kernel
theorem dL_writes_76 : decode cL_writes 76 = .ok (.aload 7, 2) := by decide +kernel
theorem dL_writes_78 : decode cL_writes 78 = .ok (.iload 11, 2) := by decide +kernel
theorem dL_writes_80 : decode cL_writes 80 = .ok (.iload 13, 2) := by decide +kernel
theorem dL_writes_82 : decode cL_writes 82 = .ok (.invokestatic 47, 3) := by decide +kernel
theorem dL_writes_85 : decode cL_writes 85 = .ok (.iastore, 1) := by decide +kernel
theorem dL_writes_86 : decode cL_writes 86 = .ok (.iinc 13 1, 3) := by decide +kernel
theorem dL_writes_89 : decode cL_writes 89 = .ok (.goto (-28), 3) := by decide +kernel
theorem dL_writes_92 : decode cL_writes 92 = .ok (.aload_n 3, 1) := by decide +kernel
theorem dL_writes_93 : decode cL_writes 93 = .ok (.iload 9, 2) := by decide +kernel
theorem dL_writes_95 : decode cL_writes 95 = .ok (.iconst 4, 1) := by decide +kernel
theorem dL_writes_96 : decode cL_writes 96 = .ok (.idiv, 1) := by decide +kernel
theorem dL_writes_97 : decode cL_writes 97 = .ok (.aload_n 1, 1) := by decide +kernel
theorem dL_writes_98 : decode cL_writes 98 = .ok (.iconst 0, 1) := by decide +kernel
theorem dL_writes_99 : decode cL_writes 99 = .ok (.iaload, 1) := by decide +kernel
theorem dL_writes_100 : decode cL_writes 100 = .ok (.irem, 1) := by decide +kernel
theorem dL_writes_101 : decode cL_writes 101 = .ok (.iaload, 1) := by decide +kernel
theorem dL_writes_102 : decode cL_writes 102 = .ok (.istore 13, 2) := by decide +kernel
theorem dL_writes_104 : decode cL_writes 104 = .ok (.iload 9, 2) := by decide +kernel
theorem dL_writes_106 : decode cL_writes 106 = .ok (.bipush 64, 2) := by decide +kernel
theorem dL_writes_108 : decode cL_writes 108 = .ok (.idiv, 1) := by decide +kernel
theorem dL_writes_109 : decode cL_writes 109 = .ok (.bipush 48, 2) := by decide +kernel
theorem dL_writes_111 : decode cL_writes 111 = .ok (.irem, 1) := by decide +kernel
theorem dL_writes_112 : decode cL_writes 112 = .ok (.istore 14, 2) := by decide +kernel
theorem dL_writes_114 : decode cL_writes 114 = .ok (.iload 9, 2) := by decide +kernel
theorem dL_writes_116 : decode cL_writes 116 = .ok (.bipush 7, 2) := by decide +kernel
theorem dL_writes_118 : decode cL_writes 118 = .ok (.idiv, 1) := by decide +kernel
theorem dL_writes_119 : decode cL_writes 119 = .ok (.iload 9, 2) := by decide +kernel
theorem dL_writes_121 : decode cL_writes 121 = .ok (.iconst 5, 1) := by decide +kernel
theorem dL_writes_122 : decode cL_writes 122 = .ok (.irem, 1) := by decide +kernel
theorem dL_writes_123 : decode cL_writes 123 = .ok (.ifCond .ne 9, 3) := by decide +kernel
theorem dL_writes_126 : decode cL_writes 126 = .ok (.sipush 1000, 3) := by decide +kernel
theorem dL_writes_129 : decode cL_writes 129 = .ok (.goto 4, 3) := by decide +kernel
theorem dL_writes_132 : decode cL_writes 132 = .ok (.iconst 4, 1) := by decide +kernel
theorem dL_writes_133 : decode cL_writes 133 = .ok (.irem, 1) := by decide +kernel
theorem dL_writes_134 : decode cL_writes 134 = .ok (.istore 15, 2) := by decide +kernel
theorem dL_writes_136 : decode cL_writes 136 = .ok (.iload 8, 2) := by decide +kernel
theorem dL_writes_138 : decode cL_writes 138 = .ok (.ifCond .ne 61, 3) := by decide +kernel
theorem dL_writes_141 : decode cL_writes 141 = .ok (.aload 12, 2) := by decide +kernel
theorem dL_writes_143 : decode cL_writes 143 = .ok (.iload 14, 2) := by decide +kernel
theorem dL_writes_145 : decode cL_writes 145 = .ok (.iload 15, 2) := by decide +kernel
theorem dL_writes_147 : decode cL_writes 147 = .ok (.iastore, 1) := by decide +kernel
theorem dL_writes_148 : decode cL_writes 148 = .ok (.aload_n 1, 1) := by decide +kernel
theorem dL_writes_149 : decode cL_writes 149 = .ok (.aload_n 2, 1) := by decide +kernel
theorem dL_writes_150 : decode cL_writes 150 = .ok (.aload_n 3, 1) := by decide +kernel
theorem dL_writes_151 : decode cL_writes 151 = .ok (.aload 4, 2) := by decide +kernel
theorem dL_writes_153 : decode cL_writes 153 = .ok (.aload 5, 2) := by decide +kernel
theorem dL_writes_155 : decode cL_writes 155 = .ok (.aload 6, 2) := by decide +kernel
theorem dL_writes_157 : decode cL_writes 157 = .ok (.aload 7, 2) := by decide +kernel
theorem dL_writes_159 : decode cL_writes 159 = .ok (.iload 10, 2) := by decide +kernel
theorem dL_writes_161 : decode cL_writes 161 = .ok (.aload 12, 2) := by decide +kernel
theorem dL_writes_163 : decode cL_writes 163 = .ok (.invokestatic 51, 3) := by decide +kernel
theorem dL_writes_166 : decode cL_writes 166 = .ok (.istore 16, 2) := by decide +kernel
theorem dL_writes_168 : decode cL_writes 168 = .ok (.aload_n 0, 1) := by decide +kernel
theorem dL_writes_169 : decode cL_writes 169 = .ok (.iload 10, 2) := by decide +kernel
theorem dL_writes_171 : decode cL_writes 171 = .ok (.iload 14, 2) := by decide +kernel
theorem dL_writes_173 : decode cL_writes 173 = .ok (.iload 15, 2) := by decide +kernel
theorem dL_writes_175 : decode cL_writes 175 = .ok (.invokevirtual 55, 3) := by decide +kernel
theorem dL_writes_178 : decode cL_writes 178 = .ok (.iload 16, 2) := by decide +kernel
theorem dL_writes_180 : decode cL_writes 180 = .ok (.ifCond .ge 8, 3) := by decide +kernel
theorem dL_writes_183 : decode cL_writes 183 = .ok (.ldc 61, 2) := by decide +kernel
theorem dL_writes_185 : decode cL_writes 185 = .ok (.goto 5, 3) := by decide +kernel
theorem dL_writes_188 : decode cL_writes 188 = .ok (.iload 16, 2) := by decide +kernel
theorem dL_writes_190 : decode cL_writes 190 = .ok (.if_icmp .ne 7, 3) := by decide +kernel
theorem dL_writes_193 : decode cL_writes 193 = .ok (.iconst 1, 1) := by decide +kernel
theorem dL_writes_194 : decode cL_writes 194 = .ok (.goto 4, 3) := by decide +kernel
theorem dL_writes_197 : decode cL_writes 197 = .ok (.iconst 0, 1) := by decide +kernel
theorem dL_writes_198 : decode cL_writes 198 = .ok (.ireturn, 1) := by decide +kernel
theorem dL_writes_199 : decode cL_writes 199 = .ok (.iload 8, 2) := by decide +kernel
theorem dL_writes_201 : decode cL_writes 201 = .ok (.iconst 1, 1) := by decide +kernel
theorem dL_writes_202 : decode cL_writes 202 = .ok (.if_icmp .ne 98, 3) := by decide +kernel
theorem dL_writes_205 : decode cL_writes 205 = .ok (.iconst 1, 1) := by decide +kernel
theorem dL_writes_206 : decode cL_writes 206 = .ok (.iload 9, 2) := by decide +kernel
theorem dL_writes_208 : decode cL_writes 208 = .ok (.bipush 11, 2) := by decide +kernel
theorem dL_writes_210 : decode cL_writes 210 = .ok (.idiv, 1) := by decide +kernel
theorem dL_writes_211 : decode cL_writes 211 = .ok (.bipush 48, 2) := by decide +kernel
theorem dL_writes_213 : decode cL_writes 213 = .ok (.iload 14, 2) := by decide +kernel
theorem dL_writes_215 : decode cL_writes 215 = .ok (.isub, 1) := by decide +kernel
theorem dL_writes_216 : decode cL_writes 216 = .ok (.irem, 1) := by decide +kernel
theorem dL_writes_217 : decode cL_writes 217 = .ok (.iadd, 1) := by decide +kernel
theorem dL_writes_218 : decode cL_writes 218 = .ok (.istore 16, 2) := by decide +kernel
theorem dL_writes_220 : decode cL_writes 220 = .ok (.iload 14, 2) := by decide +kernel
theorem dL_writes_222 : decode cL_writes 222 = .ok (.istore 17, 2) := by decide +kernel
theorem dL_writes_224 : decode cL_writes 224 = .ok (.iload 17, 2) := by decide +kernel
theorem dL_writes_226 : decode cL_writes 226 = .ok (.iload 14, 2) := by decide +kernel
theorem dL_writes_228 : decode cL_writes 228 = .ok (.iload 16, 2) := by decide +kernel
theorem dL_writes_230 : decode cL_writes 230 = .ok (.iadd, 1) := by decide +kernel
theorem dL_writes_231 : decode cL_writes 231 = .ok (.if_icmp .ge 16, 3) := by decide +kernel
theorem dL_writes_234 : decode cL_writes 234 = .ok (.aload 12, 2) := by decide +kernel
theorem dL_writes_236 : decode cL_writes 236 = .ok (.iload 17, 2) := by decide +kernel
theorem dL_writes_238 : decode cL_writes 238 = .ok (.iload 15, 2) := by decide +kernel
theorem dL_writes_240 : decode cL_writes 240 = .ok (.iastore, 1) := by decide +kernel
theorem dL_writes_241 : decode cL_writes 241 = .ok (.iinc 17 1, 3) := by decide +kernel
theorem dL_writes_244 : decode cL_writes 244 = .ok (.goto (-20), 3) := by decide +kernel
theorem dL_writes_247 : decode cL_writes 247 = .ok (.aload_n 1, 1) := by decide +kernel
theorem dL_writes_248 : decode cL_writes 248 = .ok (.aload_n 2, 1) := by decide +kernel
theorem dL_writes_249 : decode cL_writes 249 = .ok (.aload_n 3, 1) := by decide +kernel
theorem dL_writes_250 : decode cL_writes 250 = .ok (.aload 4, 2) := by decide +kernel
theorem dL_writes_252 : decode cL_writes 252 = .ok (.aload 5, 2) := by decide +kernel
theorem dL_writes_254 : decode cL_writes 254 = .ok (.aload 6, 2) := by decide +kernel
theorem dL_writes_256 : decode cL_writes 256 = .ok (.aload 7, 2) := by decide +kernel
theorem dL_writes_258 : decode cL_writes 258 = .ok (.iload 10, 2) := by decide +kernel
theorem dL_writes_260 : decode cL_writes 260 = .ok (.aload 12, 2) := by decide +kernel
theorem dL_writes_262 : decode cL_writes 262 = .ok (.invokestatic 51, 3) := by decide +kernel
theorem dL_writes_265 : decode cL_writes 265 = .ok (.istore 17, 2) := by decide +kernel
theorem dL_writes_267 : decode cL_writes 267 = .ok (.aload_n 0, 1) := by decide +kernel
theorem dL_writes_268 : decode cL_writes 268 = .ok (.iload 10, 2) := by decide +kernel
theorem dL_writes_270 : decode cL_writes 270 = .ok (.iload 14, 2) := by decide +kernel
theorem dL_writes_272 : decode cL_writes 272 = .ok (.iload 16, 2) := by decide +kernel
theorem dL_writes_274 : decode cL_writes 274 = .ok (.iload 15, 2) := by decide +kernel
theorem dL_writes_276 : decode cL_writes 276 = .ok (.invokevirtual 62, 3) := by decide +kernel
theorem dL_writes_279 : decode cL_writes 279 = .ok (.iload 17, 2) := by decide +kernel
theorem dL_writes_281 : decode cL_writes 281 = .ok (.ifCond .ge 8, 3) := by decide +kernel
theorem dL_writes_284 : decode cL_writes 284 = .ok (.ldc 61, 2) := by decide +kernel
theorem dL_writes_286 : decode cL_writes 286 = .ok (.goto 5, 3) := by decide +kernel
theorem dL_writes_289 : decode cL_writes 289 = .ok (.iload 17, 2) := by decide +kernel
theorem dL_writes_291 : decode cL_writes 291 = .ok (.if_icmp .ne 7, 3) := by decide +kernel
theorem dL_writes_294 : decode cL_writes 294 = .ok (.iconst 1, 1) := by decide +kernel
theorem dL_writes_295 : decode cL_writes 295 = .ok (.goto 4, 3) := by decide +kernel
theorem dL_writes_298 : decode cL_writes 298 = .ok (.iconst 0, 1) := by decide +kernel
theorem dL_writes_299 : decode cL_writes 299 = .ok (.ireturn, 1) := by decide +kernel
theorem dL_writes_300 : decode cL_writes 300 = .ok (.iload 8, 2) := by decide +kernel
theorem dL_writes_302 : decode cL_writes 302 = .ok (.iconst 2, 1) := by decide +kernel
theorem dL_writes_303 : decode cL_writes 303 = .ok (.if_icmp .ne 140, 3) := by decide +kernel
theorem dL_writes_306 : decode cL_writes 306 = .ok (.iload 9, 2) := by decide +kernel
theorem dL_writes_308 : decode cL_writes 308 = .ok (.bipush 13, 2) := by decide +kernel
theorem dL_writes_310 : decode cL_writes 310 = .ok (.idiv, 1) := by decide +kernel
theorem dL_writes_311 : decode cL_writes 311 = .ok (.bipush 48, 2) := by decide +kernel
theorem dL_writes_313 : decode cL_writes 313 = .ok (.irem, 1) := by decide +kernel
theorem dL_writes_314 : decode cL_writes 314 = .ok (.istore 16, 2) := by decide +kernel
theorem dL_writes_316 : decode cL_writes 316 = .ok (.iconst 1, 1) := by decide +kernel
theorem dL_writes_317 : decode cL_writes 317 = .ok (.iload 9, 2) := by decide +kernel
theorem dL_writes_319 : decode cL_writes 319 = .ok (.bipush 17, 2) := by decide +kernel
theorem dL_writes_321 : decode cL_writes 321 = .ok (.idiv, 1) := by decide +kernel
theorem dL_writes_322 : decode cL_writes 322 = .ok (.bipush 48, 2) := by decide +kernel
theorem dL_writes_324 : decode cL_writes 324 = .ok (.iload 14, 2) := by decide +kernel
theorem dL_writes_326 : decode cL_writes 326 = .ok (.iload 16, 2) := by decide +kernel
theorem dL_writes_328 : decode cL_writes 328 = .ok (.if_icmp .le 8, 3) := by decide +kernel
theorem dL_writes_331 : decode cL_writes 331 = .ok (.iload 14, 2) := by decide +kernel
theorem dL_writes_333 : decode cL_writes 333 = .ok (.goto 5, 3) := by decide +kernel
theorem dL_writes_336 : decode cL_writes 336 = .ok (.iload 16, 2) := by decide +kernel
theorem dL_writes_338 : decode cL_writes 338 = .ok (.isub, 1) := by decide +kernel
theorem dL_writes_339 : decode cL_writes 339 = .ok (.irem, 1) := by decide +kernel
theorem dL_writes_340 : decode cL_writes 340 = .ok (.iadd, 1) := by decide +kernel
theorem dL_writes_341 : decode cL_writes 341 = .ok (.istore 17, 2) := by decide +kernel
theorem dL_writes_343 : decode cL_writes 343 = .ok (.iconst 0, 1) := by decide +kernel
theorem dL_writes_344 : decode cL_writes 344 = .ok (.istore 18, 2) := by decide +kernel
theorem dL_writes_346 : decode cL_writes 346 = .ok (.iload 18, 2) := by decide +kernel
theorem dL_writes_348 : decode cL_writes 348 = .ok (.iload 17, 2) := by decide +kernel
theorem dL_writes_350 : decode cL_writes 350 = .ok (.if_icmp .ge 38, 3) := by decide +kernel
theorem dL_writes_353 : decode cL_writes 353 = .ok (.aload 12, 2) := by decide +kernel
theorem dL_writes_355 : decode cL_writes 355 = .ok (.iload 16, 2) := by decide +kernel
theorem dL_writes_357 : decode cL_writes 357 = .ok (.iload 18, 2) := by decide +kernel
theorem dL_writes_359 : decode cL_writes 359 = .ok (.iadd, 1) := by decide +kernel
theorem dL_writes_360 : decode cL_writes 360 = .ok (.aload 5, 2) := by decide +kernel
theorem dL_writes_362 : decode cL_writes 362 = .ok (.aload 6, 2) := by decide +kernel
theorem dL_writes_364 : decode cL_writes 364 = .ok (.aload 7, 2) := by decide +kernel
theorem dL_writes_366 : decode cL_writes 366 = .ok (.aload_n 1, 1) := by decide +kernel
theorem dL_writes_367 : decode cL_writes 367 = .ok (.aload_n 3, 1) := by decide +kernel
theorem dL_writes_368 : decode cL_writes 368 = .ok (.iload 13, 2) := by decide +kernel
theorem dL_writes_370 : decode cL_writes 370 = .ok (.invokestatic 29, 3) := by decide +kernel
theorem dL_writes_373 : decode cL_writes 373 = .ok (.iload 14, 2) := by decide +kernel
theorem dL_writes_375 : decode cL_writes 375 = .ok (.iload 18, 2) := by decide +kernel
theorem dL_writes_377 : decode cL_writes 377 = .ok (.iadd, 1) := by decide +kernel
theorem dL_writes_378 : decode cL_writes 378 = .ok (.invokestatic 47, 3) := by decide +kernel
theorem dL_writes_381 : decode cL_writes 381 = .ok (.iastore, 1) := by decide +kernel
theorem dL_writes_382 : decode cL_writes 382 = .ok (.iinc 18 1, 3) := by decide +kernel
theorem dL_writes_385 : decode cL_writes 385 = .ok (.goto (-39), 3) := by decide +kernel
theorem dL_writes_388 : decode cL_writes 388 = .ok (.aload_n 1, 1) := by decide +kernel
theorem dL_writes_389 : decode cL_writes 389 = .ok (.aload_n 2, 1) := by decide +kernel
theorem dL_writes_390 : decode cL_writes 390 = .ok (.aload_n 3, 1) := by decide +kernel
theorem dL_writes_391 : decode cL_writes 391 = .ok (.aload 4, 2) := by decide +kernel
theorem dL_writes_393 : decode cL_writes 393 = .ok (.aload 5, 2) := by decide +kernel
theorem dL_writes_395 : decode cL_writes 395 = .ok (.aload 6, 2) := by decide +kernel
theorem dL_writes_397 : decode cL_writes 397 = .ok (.aload 7, 2) := by decide +kernel
theorem dL_writes_399 : decode cL_writes 399 = .ok (.iload 10, 2) := by decide +kernel
theorem dL_writes_401 : decode cL_writes 401 = .ok (.aload 12, 2) := by decide +kernel
theorem dL_writes_403 : decode cL_writes 403 = .ok (.invokestatic 51, 3) := by decide +kernel
theorem dL_writes_406 : decode cL_writes 406 = .ok (.istore 18, 2) := by decide +kernel
theorem dL_writes_408 : decode cL_writes 408 = .ok (.aload_n 0, 1) := by decide +kernel
theorem dL_writes_409 : decode cL_writes 409 = .ok (.iload 10, 2) := by decide +kernel
theorem dL_writes_411 : decode cL_writes 411 = .ok (.iload 13, 2) := by decide +kernel
theorem dL_writes_413 : decode cL_writes 413 = .ok (.iload 14, 2) := by decide +kernel
theorem dL_writes_415 : decode cL_writes 415 = .ok (.iload 16, 2) := by decide +kernel
theorem dL_writes_417 : decode cL_writes 417 = .ok (.iload 17, 2) := by decide +kernel
theorem dL_writes_419 : decode cL_writes 419 = .ok (.invokevirtual 66, 3) := by decide +kernel
theorem dL_writes_422 : decode cL_writes 422 = .ok (.iload 18, 2) := by decide +kernel
theorem dL_writes_424 : decode cL_writes 424 = .ok (.ifCond .ge 8, 3) := by decide +kernel
theorem dL_writes_427 : decode cL_writes 427 = .ok (.ldc 61, 2) := by decide +kernel
theorem dL_writes_429 : decode cL_writes 429 = .ok (.goto 5, 3) := by decide +kernel
theorem dL_writes_432 : decode cL_writes 432 = .ok (.iload 18, 2) := by decide +kernel
theorem dL_writes_434 : decode cL_writes 434 = .ok (.if_icmp .ne 7, 3) := by decide +kernel
theorem dL_writes_437 : decode cL_writes 437 = .ok (.iconst 1, 1) := by decide +kernel
theorem dL_writes_438 : decode cL_writes 438 = .ok (.goto 4, 3) := by decide +kernel
theorem dL_writes_441 : decode cL_writes 441 = .ok (.iconst 0, 1) := by decide +kernel
theorem dL_writes_442 : decode cL_writes 442 = .ok (.ireturn, 1) := by decide +kernel
theorem dL_writes_443 : decode cL_writes 443 = .ok (.aload_n 1, 1) := by decide +kernel
theorem dL_writes_444 : decode cL_writes 444 = .ok (.aload_n 2, 1) := by decide +kernel
theorem dL_writes_445 : decode cL_writes 445 = .ok (.aload_n 3, 1) := by decide +kernel
theorem dL_writes_446 : decode cL_writes 446 = .ok (.aload 4, 2) := by decide +kernel
theorem dL_writes_448 : decode cL_writes 448 = .ok (.aload 5, 2) := by decide +kernel
theorem dL_writes_450 : decode cL_writes 450 = .ok (.aload 6, 2) := by decide +kernel
theorem dL_writes_452 : decode cL_writes 452 = .ok (.aload 7, 2) := by decide +kernel
theorem dL_writes_454 : decode cL_writes 454 = .ok (.iload 10, 2) := by decide +kernel
theorem dL_writes_456 : decode cL_writes 456 = .ok (.iload 13, 2) := by decide +kernel
theorem dL_writes_458 : decode cL_writes 458 = .ok (.aload 12, 2) := by decide +kernel
theorem dL_writes_460 : decode cL_writes 460 = .ok (.invokestatic 70, 3) := by decide +kernel
theorem dL_writes_463 : decode cL_writes 463 = .ok (.istore 16, 2) := by decide +kernel
theorem dL_writes_465 : decode cL_writes 465 = .ok (.aload_n 1, 1) := by decide +kernel
theorem dL_writes_466 : decode cL_writes 466 = .ok (.aload_n 2, 1) := by decide +kernel
theorem dL_writes_467 : decode cL_writes 467 = .ok (.aload_n 3, 1) := by decide +kernel
theorem dL_writes_468 : decode cL_writes 468 = .ok (.aload 4, 2) := by decide +kernel
theorem dL_writes_470 : decode cL_writes 470 = .ok (.aload 5, 2) := by decide +kernel
theorem dL_writes_472 : decode cL_writes 472 = .ok (.aload 6, 2) := by decide +kernel
theorem dL_writes_474 : decode cL_writes 474 = .ok (.aload 7, 2) := by decide +kernel
theorem dL_writes_476 : decode cL_writes 476 = .ok (.iload 10, 2) := by decide +kernel
theorem dL_writes_478 : decode cL_writes 478 = .ok (.aload 12, 2) := by decide +kernel
theorem dL_writes_480 : decode cL_writes 480 = .ok (.invokestatic 51, 3) := by decide +kernel
theorem dL_writes_483 : decode cL_writes 483 = .ok (.istore 17, 2) := by decide +kernel
theorem dL_writes_485 : decode cL_writes 485 = .ok (.aload_n 1, 1) := by decide +kernel
theorem dL_writes_486 : decode cL_writes 486 = .ok (.iconst 4, 1) := by decide +kernel
theorem dL_writes_487 : decode cL_writes 487 = .ok (.dup2, 1) := by decide +kernel
theorem dL_writes_488 : decode cL_writes 488 = .ok (.iaload, 1) := by decide +kernel
theorem dL_writes_489 : decode cL_writes 489 = .ok (.iload 17, 2) := by decide +kernel
theorem dL_writes_491 : decode cL_writes 491 = .ok (.ifCond .ge 7, 3) := by decide +kernel
theorem dL_writes_494 : decode cL_writes 494 = .ok (.iconst 0, 1) := by decide +kernel
theorem dL_writes_495 : decode cL_writes 495 = .ok (.goto 5, 3) := by decide +kernel
theorem dL_writes_498 : decode cL_writes 498 = .ok (.iload 16, 2) := by decide +kernel
theorem dL_writes_500 : decode cL_writes 500 = .ok (.iadd, 1) := by decide +kernel
theorem dL_writes_501 : decode cL_writes 501 = .ok (.iastore, 1) := by decide +kernel
theorem dL_writes_502 : decode cL_writes 502 = .ok (.aload_n 0, 1) := by decide +kernel
theorem dL_writes_503 : decode cL_writes 503 = .ok (.iload 10, 2) := by decide +kernel
theorem dL_writes_505 : decode cL_writes 505 = .ok (.iload 13, 2) := by decide +kernel
theorem dL_writes_507 : decode cL_writes 507 = .ok (.invokevirtual 74, 3) := by decide +kernel
theorem dL_writes_510 : decode cL_writes 510 = .ok (.iload 17, 2) := by decide +kernel
theorem dL_writes_512 : decode cL_writes 512 = .ok (.ifCond .ge 8, 3) := by decide +kernel
theorem dL_writes_515 : decode cL_writes 515 = .ok (.ldc 61, 2) := by decide +kernel
theorem dL_writes_517 : decode cL_writes 517 = .ok (.goto 5, 3) := by decide +kernel
theorem dL_writes_520 : decode cL_writes 520 = .ok (.iload 16, 2) := by decide +kernel
theorem dL_writes_522 : decode cL_writes 522 = .ok (.if_icmp .ne 7, 3) := by decide +kernel
theorem dL_writes_525 : decode cL_writes 525 = .ok (.iconst 1, 1) := by decide +kernel
theorem dL_writes_526 : decode cL_writes 526 = .ok (.goto 4, 3) := by decide +kernel
theorem dL_writes_529 : decode cL_writes 529 = .ok (.iconst 0, 1) := by decide +kernel
theorem dL_writes_530 : decode cL_writes 530 = .ok (.ireturn, 1) := by decide +kernel
set_option maxRecDepth 20000 in
theorem ggL_branches_X5_branch : GoodIn wsL_branches wsX5_branch := goodIn_r _ [8, 9, 10, 11, 7, 12, 13, 14, 15, 16, 17, 18, 19, 20, 21, 22, 23, 24, 25, 26, 27, 28, 29, 30, 31, 32, 33, 34, 35, 36, 37, 38, 39, 40, 41, 42, 43, 44, 45, 46, 47, 48, 49, 50, 51, 52, 53, 54, 55, 56, 57, 58, 59, 60, 61, 62, 63, 64, 65, 66, 67, 68, 69, 70, 71, 72, 186, 187, 188, 189, 190, 191, 192, 193, 194, 195, 196, 197, 198, 199, 200, 201, 202, 203, 204, 205, 206, 207] (by decide +kernel) (by decide +kernel)
set_option maxRecDepth 20000 in
theorem gL_branches_X5_branch : GoodIn wsL_branches (wsV RL 77 RX5 yX5_branch wsX5_branch) := goodIn_app (goodIn_of _ (by decide +kernel)) ggL_branches_X5_branch
set_option maxRecDepth 20000 in
theorem ggL_branches_X5_leave : GoodIn wsL_branches wsX5_leave := goodIn_r _ [76, 9, 10, 11, 7, 12, 13, 14, 15, 16, 17, 18, 19, 20, 21, 22, 23, 24, 25, 26, 27, 28, 29, 30, 31, 32, 33, 34, 35, 36, 37, 38, 39, 40, 41, 42, 43, 44, 45, 46, 47, 48, 49, 77, 78, 79, 80, 54, 81, 82, 83, 84, 85, 86, 87, 88, 89, 90, 91, 60, 61, 62, 63, 64, 65, 66, 67, 68, 69, 70, 71, 72, 186, 187, 188, 189, 190, 191, 192, 193, 194, 195, 196, 197, 198, 199, 200, 201, 202, 203, 204, 205, 206, 207] (by decide +kernel) (by decide +kernel)
set_option maxRecDepth 20000 in
theorem gL_branches_X5_leave : GoodIn wsL_branches (wsV RL 81 RX5 yX5_leave wsX5_leave) := goodIn_app (goodIn_of _ (by decide +kernel)) ggL_branches_X5_leave
set_option maxRecDepth 20000 in
theorem ggL_branches_X5_back : GoodIn wsL_branches wsX5_back := goodIn_r _ [95, 9, 10, 11, 7, 12, 13, 14, 15, 16, 17, 18, 19, 20, 21, 22, 23, 24, 25, 26, 27, 28, 29, 30, 31, 32, 33, 34, 35, 36, 37, 38, 39, 40, 41, 42, 43, 44, 45, 46, 47, 48, 49, 96, 97, 98, 99, 54, 81, 100, 101, 102, 103, 82, 83, 84, 85, 86, 87, 56, 57, 58, 59, 104, 105, 106, 107, 60, 61, 62, 63, 64, 65, 66, 67, 68, 69, 70, 71, 72, 186, 187, 188, 189, 190, 191, 192, 193, 194, 195, 196, 197, 198, 199, 200, 201, 202, 203, 204, 205, 206, 207] (by decide +kernel) (by decide +kernel)
set_option maxRecDepth 20000 in
theorem gL_branches_X5_back : GoodIn wsL_branches (wsV RL 85 RX5 yX5_back wsX5_back) := goodIn_app (goodIn_of _ (by decide +kernel)) ggL_branches_X5_back
set_option maxRecDepth 20000 in
theorem ggL_branches_X5_head : GoodIn wsL_branches wsX5_head := goodIn_r _ [111, 14, 112, 113, 114, 83, 84, 18, 85, 22, 86, 7, 87, 186, 187, 188, 189, 190, 191, 192, 193, 194, 195] (by decide +kernel) (by decide +kernel)
set_option maxRecDepth 20000 in
theorem gL_branches_X5_head : GoodIn wsL_branches (wsV RL 88 RX5 yX5_head wsX5_head) := goodIn_app (goodIn_of _ (by decide +kernel)) ggL_branches_X5_head
set_option maxRecDepth 20000 in
theorem ggL_branches_X5_merge : GoodIn wsL_branches wsX5_merge := goodIn_r _ [118, 9, 10, 11, 7, 12, 13, 14, 15, 16, 17, 18, 19, 20, 21, 22, 23, 24, 25, 26, 27, 28, 29, 30, 31, 32, 33, 34, 35, 36, 37, 38, 39, 40, 41, 42, 43, 44, 45, 46, 47, 48, 49, 119, 120, 121, 122, 54, 100, 101, 102, 103, 82, 83, 84, 85, 86, 87, 56, 57, 58, 59, 123, 124, 125, 126, 127, 128, 129, 130, 131, 105, 106, 107, 132, 133, 134, 135, 136, 137, 138, 139, 140, 141, 142, 143, 144, 145, 146, 147, 148, 149, 150, 151, 152, 153, 154, 55, 155, 156, 157, 158, 159, 160, 161, 162, 163, 164, 165, 166, 167, 168, 169, 170, 171, 172, 173, 174, 175, 176, 177, 178, 179, 180, 181, 60, 61, 62, 63, 64, 65, 66, 67, 68, 69, 70, 71, 72, 186, 187, 188, 189, 190, 191, 192, 193, 194, 195, 196, 197, 198, 199, 200, 201, 202, 203, 204, 205, 206, 207] (by decide +kernel) (by decide +kernel)
set_option maxRecDepth 20000 in
theorem gL_branches_X5_merge : GoodIn wsL_branches (wsV RL 74 RX5 yX5_merge wsX5_merge) := goodIn_app (goodIn_of _ (by decide +kernel)) ggL_branches_X5_merge
set_option maxRecDepth 20000 in
theorem ggL_branches_L_find : GoodIn wsL_branches wsL_find := goodIn_r _ [185] (by decide +kernel) (by decide +kernel)
set_option maxRecDepth 20000 in
theorem gL_branches_L_find : GoodIn wsL_branches (va_wsS RL 29 yL_find wsL_find) := goodIn_app (goodIn_of _ (by decide +kernel)) ggL_branches_L_find
theorem dL_branches_0 : decode cL_branches 0 = .ok (.aload_n 3, 1) := by decide +kernel
theorem dL_branches_1 : decode cL_branches 1 = .ok (.iload 6, 2) := by decide +kernel
theorem dL_branches_3 : decode cL_branches 3 = .ok (.iconst 4, 1) := by decide +kernel
theorem dL_branches_4 : decode cL_branches 4 = .ok (.idiv, 1) := by decide +kernel
theorem dL_branches_5 : decode cL_branches 5 = .ok (.aload_n 1, 1) := by decide +kernel
theorem dL_branches_6 : decode cL_branches 6 = .ok (.iconst 0, 1) := by decide +kernel
theorem dL_branches_7 : decode cL_branches 7 = .ok (.iaload, 1) := by decide +kernel
theorem dL_branches_8 : decode cL_branches 8 = .ok (.irem, 1) := by decide +kernel
theorem dL_branches_9 : decode cL_branches 9 = .ok (.iaload, 1) := by decide +kernel
theorem dL_branches_10 : decode cL_branches 10 = .ok (.istore 7, 2) := by decide +kernel
theorem dL_branches_12 : decode cL_branches 12 = .ok (.iconst 0, 1) := by decide +kernel
theorem dL_branches_13 : decode cL_branches 13 = .ok (.istore 8, 2) := by decide +kernel
theorem dL_branches_15 : decode cL_branches 15 = .ok (.iconst (-1), 1) := by decide +kernel
theorem dL_branches_16 : decode cL_branches 16 = .ok (.istore 9, 2) := by decide +kernel
theorem dL_branches_18 : decode cL_branches 18 = .ok (.iconst 3, 1) := by decide +kernel
theorem dL_branches_19 : decode cL_branches 19 = .ok (.istore 10, 2) := by decide +kernel
theorem dL_branches_21 : decode cL_branches 21 = .ok (.iload 10, 2) := by decide +kernel
theorem dL_branches_23 : decode cL_branches 23 = .ok (.ifCond .lt 42, 3) := by decide +kernel
theorem dL_branches_26 : decode cL_branches 26 = .ok (.iload 8, 2) := by decide +kernel
theorem dL_branches_28 : decode cL_branches 28 = .ok (.aload_n 2, 1) := by decide +kernel
theorem dL_branches_29 : decode cL_branches 29 = .ok (.iload 10, 2) := by decide +kernel
theorem dL_branches_31 : decode cL_branches 31 = .ok (.iaload, 1) := by decide +kernel
theorem dL_branches_32 : decode cL_branches 32 = .ok (.ifCond .ge 7, 3) := by decide +kernel
theorem dL_branches_35 : decode cL_branches 35 = .ok (.iconst 0, 1) := by decide +kernel
theorem dL_branches_36 : decode cL_branches 36 = .ok (.goto 4, 3) := by decide +kernel
theorem dL_branches_39 : decode cL_branches 39 = .ok (.iconst 1, 1) := by decide +kernel
theorem dL_branches_40 : decode cL_branches 40 = .ok (.iadd, 1) := by decide +kernel
theorem dL_branches_41 : decode cL_branches 41 = .ok (.istore 8, 2) := by decide +kernel
theorem dL_branches_43 : decode cL_branches 43 = .ok (.aload_n 2, 1) := by decide +kernel
theorem dL_branches_44 : decode cL_branches 44 = .ok (.iload 10, 2) := by decide +kernel
theorem dL_branches_46 : decode cL_branches 46 = .ok (.iaload, 1) := by decide +kernel
theorem dL_branches_47 : decode cL_branches 47 = .ok (.ifCond .ge 8, 3) := by decide +kernel
theorem dL_branches_50 : decode cL_branches 50 = .ok (.iload 10, 2) := by decide +kernel
theorem dL_branches_52 : decode cL_branches 52 = .ok (.goto 5, 3) := by decide +kernel
theorem dL_branches_55 : decode cL_branches 55 = .ok (.iload 9, 2) := by decide +kernel
theorem dL_branches_57 : decode cL_branches 57 = .ok (.istore 9, 2) := by decide +kernel
theorem dL_branches_59 : decode cL_branches 59 = .ok (.iinc 10 (-1), 3) := by decide +kernel
theorem dL_branches_62 : decode cL_branches 62 = .ok (.goto (-41), 3) := by decide +kernel
theorem dL_branches_65 : decode cL_branches 65 = .ok (.iload 5, 2) := by decide +kernel
theorem dL_branches_67 : decode cL_branches 67 = .ok (.ifCond .ne 41, 3) := by decide +kernel
theorem dL_branches_70 : decode cL_branches 70 = .ok (.iload 9, 2) := by decide +kernel
theorem dL_branches_72 : decode cL_branches 72 = .ok (.ifCond .lt 9, 3) := by decide +kernel
theorem dL_branches_75 : decode cL_branches 75 = .ok (.aload_n 2, 1) := by decide +kernel
theorem dL_branches_76 : decode cL_branches 76 = .ok (.iload 9, 2) := by decide +kernel
theorem dL_branches_78 : decode cL_branches 78 = .ok (.iload 7, 2) := by decide +kernel
theorem dL_branches_80 : decode cL_branches 80 = .ok (.iastore, 1) := by decide +kernel
theorem dL_branches_81 : decode cL_branches 81 = .ok (.aload_n 0, 1) := by decide +kernel
theorem dL_branches_82 : decode cL_branches 82 = .ok (.iload 7, 2) := by decide +kernel
theorem dL_branches_84 : decode cL_branches 84 = .ok (.invokevirtual 77, 3) := by decide +kernel
theorem dL_branches_87 : decode cL_branches 87 = .ok (.iload 9, 2) := by decide +kernel
theorem dL_branches_89 : decode cL_branches 89 = .ok (.ifCond .ge 8, 3) := by decide +kernel
theorem dL_branches_92 : decode cL_branches 92 = .ok (.ldc 61, 2) := by decide +kernel
theorem dL_branches_94 : decode cL_branches 94 = .ok (.goto 5, 3) := by decide +kernel
theorem dL_branches_97 : decode cL_branches 97 = .ok (.iload 9, 2) := by decide +kernel
theorem dL_branches_99 : decode cL_branches 99 = .ok (.if_icmp .ne 7, 3) := by decide +kernel
theorem dL_branches_102 : decode cL_branches 102 = .ok (.iconst 1, 1) := by decide +kernel
theorem dL_branches_103 : decode cL_branches 103 = .ok (.goto 4, 3) := by decide +kernel
theorem dL_branches_106 : decode cL_branches 106 = .ok (.iconst 0, 1) := by decide +kernel
theorem dL_branches_107 : decode cL_branches 107 = .ok (.ireturn, 1) := by decide +kernel
theorem dL_branches_108 : decode cL_branches 108 = .ok (.iload 6, 2) := by decide +kernel
theorem dL_branches_110 : decode cL_branches 110 = .ok (.iconst 4, 1) := by decide +kernel
theorem dL_branches_111 : decode cL_branches 111 = .ok (.irem, 1) := by decide +kernel
theorem dL_branches_112 : decode cL_branches 112 = .ok (.istore 10, 2) := by decide +kernel
theorem dL_branches_114 : decode cL_branches 114 = .ok (.aload_n 2, 1) := by decide +kernel
theorem dL_branches_115 : decode cL_branches 115 = .ok (.iload 10, 2) := by decide +kernel
theorem dL_branches_117 : decode cL_branches 117 = .ok (.iaload, 1) := by decide +kernel
theorem dL_branches_118 : decode cL_branches 118 = .ok (.ifCond .ge 54, 3) := by decide +kernel
theorem dL_branches_121 : decode cL_branches 121 = .ok (.aload_n 0, 1) := by decide +kernel
theorem dL_branches_122 : decode cL_branches 122 = .ok (.iload 10, 2) := by decide +kernel
theorem dL_branches_124 : decode cL_branches 124 = .ok (.invokevirtual 81, 3) := by decide +kernel
theorem dL_branches_127 : decode cL_branches 127 = .ok (.ldc 84, 2) := by decide +kernel
theorem dL_branches_129 : decode cL_branches 129 = .ok (.if_icmp .ne 41, 3) := by decide +kernel
theorem dL_branches_132 : decode cL_branches 132 = .ok (.aload_n 0, 1) := by decide +kernel
theorem dL_branches_133 : decode cL_branches 133 = .ok (.iload 10, 2) := by decide +kernel
theorem dL_branches_135 : decode cL_branches 135 = .ok (.invokevirtual 85, 3) := by decide +kernel
theorem dL_branches_138 : decode cL_branches 138 = .ok (.ldc 84, 2) := by decide +kernel
theorem dL_branches_140 : decode cL_branches 140 = .ok (.if_icmp .ne 30, 3) := by decide +kernel
theorem dL_branches_143 : decode cL_branches 143 = .ok (.aload_n 0, 1) := by decide +kernel
theorem dL_branches_144 : decode cL_branches 144 = .ok (.iload 10, 2) := by decide +kernel
theorem dL_branches_146 : decode cL_branches 146 = .ok (.invokevirtual 88, 3) := by decide +kernel
theorem dL_branches_149 : decode cL_branches 149 = .ok (.ldc 84, 2) := by decide +kernel
theorem dL_branches_151 : decode cL_branches 151 = .ok (.if_icmp .ne 19, 3) := by decide +kernel
theorem dL_branches_154 : decode cL_branches 154 = .ok (.aload_n 0, 1) := by decide +kernel
theorem dL_branches_155 : decode cL_branches 155 = .ok (.iload 10, 2) := by decide +kernel
theorem dL_branches_157 : decode cL_branches 157 = .ok (.iconst 0, 1) := by decide +kernel
theorem dL_branches_158 : decode cL_branches 158 = .ok (.invokevirtual 74, 3) := by decide +kernel
theorem dL_branches_161 : decode cL_branches 161 = .ok (.ldc 84, 2) := by decide +kernel
theorem dL_branches_163 : decode cL_branches 163 = .ok (.if_icmp .ne 7, 3) := by decide +kernel
theorem dL_branches_166 : decode cL_branches 166 = .ok (.iconst 1, 1) := by decide +kernel
theorem dL_branches_167 : decode cL_branches 167 = .ok (.goto 4, 3) := by decide +kernel
theorem dL_branches_170 : decode cL_branches 170 = .ok (.iconst 0, 1) := by decide +kernel
theorem dL_branches_171 : decode cL_branches 171 = .ok (.ireturn, 1) := by decide +kernel
theorem dL_branches_172 : decode cL_branches 172 = .ok (.iload 5, 2) := by decide +kernel
theorem dL_branches_174 : decode cL_branches 174 = .ok (.iconst 1, 1) := by decide +kernel
theorem dL_branches_175 : decode cL_branches 175 = .ok (.if_icmp .ne 51, 3) := by decide +kernel
theorem dL_branches_178 : decode cL_branches 178 = .ok (.aload_n 2, 1) := by decide +kernel
theorem dL_branches_179 : decode cL_branches 179 = .ok (.iload 10, 2) := by decide +kernel
theorem dL_branches_181 : decode cL_branches 181 = .ok (.iload 8, 2) := by decide +kernel
theorem dL_branches_183 : decode cL_branches 183 = .ok (.iconst 1, 1) := by decide +kernel
theorem dL_branches_184 : decode cL_branches 184 = .ok (.if_icmp .le 7, 3) := by decide +kernel
theorem dL_branches_187 : decode cL_branches 187 = .ok (.iconst (-1), 1) := by decide +kernel
theorem dL_branches_188 : decode cL_branches 188 = .ok (.goto 7, 3) := by decide +kernel
theorem dL_branches_191 : decode cL_branches 191 = .ok (.aload_n 2, 1) := by decide +kernel
theorem dL_branches_192 : decode cL_branches 192 = .ok (.iload 10, 2) := by decide +kernel
theorem dL_branches_194 : decode cL_branches 194 = .ok (.iaload, 1) := by decide +kernel
theorem dL_branches_195 : decode cL_branches 195 = .ok (.iastore, 1) := by decide +kernel
theorem dL_branches_196 : decode cL_branches 196 = .ok (.aload_n 0, 1) := by decide +kernel
theorem dL_branches_197 : decode cL_branches 197 = .ok (.iload 10, 2) := by decide +kernel
theorem dL_branches_199 : decode cL_branches 199 = .ok (.invokevirtual 81, 3) := by decide +kernel
theorem dL_branches_202 : decode cL_branches 202 = .ok (.iload 8, 2) := by decide +kernel
theorem dL_branches_204 : decode cL_branches 204 = .ok (.iconst 1, 1) := by decide +kernel
theorem dL_branches_205 : decode cL_branches 205 = .ok (.if_icmp .le 10, 3) := by decide +kernel
theorem dL_branches_208 : decode cL_branches 208 = .ok (.iload 8, 2) := by decide +kernel
theorem dL_branches_210 : decode cL_branches 210 = .ok (.iconst 1, 1) := by decide +kernel
theorem dL_branches_211 : decode cL_branches 211 = .ok (.isub, 1) := by decide +kernel
theorem dL_branches_212 : decode cL_branches 212 = .ok (.goto 5, 3) := by decide +kernel
theorem dL_branches_215 : decode cL_branches 215 = .ok (.ldc 91, 2) := by decide +kernel
theorem dL_branches_217 : decode cL_branches 217 = .ok (.if_icmp .ne 7, 3) := by decide +kernel
theorem dL_branches_220 : decode cL_branches 220 = .ok (.iconst 1, 1) := by decide +kernel
theorem dL_branches_221 : decode cL_branches 221 = .ok (.goto 4, 3) := by decide +kernel
theorem dL_branches_224 : decode cL_branches 224 = .ok (.iconst 0, 1) := by decide +kernel
theorem dL_branches_225 : decode cL_branches 225 = .ok (.ireturn, 1) := by decide +kernel
theorem dL_branches_226 : decode cL_branches 226 = .ok (.aload_n 2, 1) := by decide +kernel
theorem dL_branches_227 : decode cL_branches 227 = .ok (.iload 10, 2) := by decide +kernel
theorem dL_branches_229 : decode cL_branches 229 = .ok (.iaload, 1) := by decide +kernel
theorem dL_branches_230 : decode cL_branches 230 = .ok (.ifCond .ne 20, 3) := by decide +kernel
theorem dL_branches_233 : decode cL_branches 233 = .ok (.aload_n 0, 1) := by decide +kernel
theorem dL_branches_234 : decode cL_branches 234 = .ok (.iload 10, 2) := by decide +kernel
theorem dL_branches_236 : decode cL_branches 236 = .ok (.invokevirtual 85, 3) := by decide +kernel
theorem dL_branches_239 : decode cL_branches 239 = .ok (.ldc 91, 2) := by decide +kernel
theorem dL_branches_241 : decode cL_branches 241 = .ok (.if_icmp .ne 7, 3) := by decide +kernel
theorem dL_branches_244 : decode cL_branches 244 = .ok (.iconst 1, 1) := by decide +kernel
theorem dL_branches_245 : decode cL_branches 245 = .ok (.goto 4, 3) := by decide +kernel
theorem dL_branches_248 : decode cL_branches 248 = .ok (.iconst 0, 1) := by decide +kernel
theorem dL_branches_249 : decode cL_branches 249 = .ok (.ireturn, 1) := by decide +kernel
theorem dL_branches_250 : decode cL_branches 250 = .ok (.aload_n 2, 1) := by decide +kernel
theorem dL_branches_251 : decode cL_branches 251 = .ok (.iload 10, 2) := by decide +kernel
theorem dL_branches_253 : decode cL_branches 253 = .ok (.aload 4, 2) := by decide +kernel
theorem dL_branches_255 : decode cL_branches 255 = .ok (.aload_n 1, 1) := by decide +kernel
theorem dL_branches_256 : decode cL_branches 256 = .ok (.aload_n 3, 1) := by decide +kernel
theorem dL_branches_257 : decode cL_branches 257 = .ok (.aload_n 2, 1) := by decide +kernel
theorem dL_branches_258 : decode cL_branches 258 = .ok (.iload 10, 2) := by decide +kernel
theorem dL_branches_260 : decode cL_branches 260 = .ok (.iaload, 1) := by decide +kernel
theorem dL_branches_261 : decode cL_branches 261 = .ok (.invokestatic 29, 3) := by decide +kernel
theorem dL_branches_264 : decode cL_branches 264 = .ok (.iaload, 1) := by decide +kernel
theorem dL_branches_265 : decode cL_branches 265 = .ok (.iastore, 1) := by decide +kernel
theorem dL_branches_266 : decode cL_branches 266 = .ok (.aload_n 0, 1) := by decide +kernel
theorem dL_branches_267 : decode cL_branches 267 = .ok (.iload 10, 2) := by decide +kernel
theorem dL_branches_269 : decode cL_branches 269 = .ok (.invokevirtual 85, 3) := by decide +kernel
theorem dL_branches_272 : decode cL_branches 272 = .ok (.aload_n 2, 1) := by decide +kernel
theorem dL_branches_273 : decode cL_branches 273 = .ok (.iload 10, 2) := by decide +kernel
theorem dL_branches_275 : decode cL_branches 275 = .ok (.iaload, 1) := by decide +kernel
theorem dL_branches_276 : decode cL_branches 276 = .ok (.if_icmp .ne 7, 3) := by decide +kernel
theorem dL_branches_279 : decode cL_branches 279 = .ok (.iconst 1, 1) := by decide +kernel
theorem dL_branches_280 : decode cL_branches 280 = .ok (.goto 4, 3) := by decide +kernel
theorem dL_branches_283 : decode cL_branches 283 = .ok (.iconst 0, 1) := by decide +kernel
theorem dL_branches_284 : decode cL_branches 284 = .ok (.ireturn, 1) := by decide +kernel
theorem dL_stands_0 : decode cL_stands 0 = .ok (.aload_n 0, 1) := by decide +kernel
theorem dL_stands_1 : decode cL_stands 1 = .ok (.iconst 0, 1) := by decide +kernel
theorem dL_stands_2 : decode cL_stands 2 = .ok (.iaload, 1) := by decide +kernel
theorem dL_stands_3 : decode cL_stands 3 = .ok (.iload_n 1, 1) := by decide +kernel
theorem dL_stands_4 : decode cL_stands 4 = .ok (.if_icmp .eq 24, 3) := by decide +kernel
theorem dL_stands_7 : decode cL_stands 7 = .ok (.aload_n 0, 1) := by decide +kernel
theorem dL_stands_8 : decode cL_stands 8 = .ok (.iconst 1, 1) := by decide +kernel
theorem dL_stands_9 : decode cL_stands 9 = .ok (.iaload, 1) := by decide +kernel
theorem dL_stands_10 : decode cL_stands 10 = .ok (.iload_n 1, 1) := by decide +kernel
theorem dL_stands_11 : decode cL_stands 11 = .ok (.if_icmp .eq 17, 3) := by decide +kernel
theorem dL_stands_14 : decode cL_stands 14 = .ok (.aload_n 0, 1) := by decide +kernel
theorem dL_stands_15 : decode cL_stands 15 = .ok (.iconst 2, 1) := by decide +kernel
theorem dL_stands_16 : decode cL_stands 16 = .ok (.iaload, 1) := by decide +kernel
theorem dL_stands_17 : decode cL_stands 17 = .ok (.iload_n 1, 1) := by decide +kernel
theorem dL_stands_18 : decode cL_stands 18 = .ok (.if_icmp .eq 10, 3) := by decide +kernel
theorem dL_stands_21 : decode cL_stands 21 = .ok (.aload_n 0, 1) := by decide +kernel
theorem dL_stands_22 : decode cL_stands 22 = .ok (.iconst 3, 1) := by decide +kernel
theorem dL_stands_23 : decode cL_stands 23 = .ok (.iaload, 1) := by decide +kernel
theorem dL_stands_24 : decode cL_stands 24 = .ok (.iload_n 1, 1) := by decide +kernel
theorem dL_stands_25 : decode cL_stands 25 = .ok (.if_icmp .ne 7, 3) := by decide +kernel
theorem dL_stands_28 : decode cL_stands 28 = .ok (.iconst 1, 1) := by decide +kernel
theorem dL_stands_29 : decode cL_stands 29 = .ok (.goto 4, 3) := by decide +kernel
theorem dL_stands_32 : decode cL_stands 32 = .ok (.iconst 0, 1) := by decide +kernel
theorem dL_stands_33 : decode cL_stands 33 = .ok (.ireturn, 1) := by decide +kernel
set_option maxRecDepth 20000 in
theorem ggL_forget_L_sweep : GoodIn wsL_forget wsL_sweep := goodIn_r _ [4, 5, 6, 7, 3, 8, 9, 10, 11, 12] (by decide +kernel) (by decide +kernel)
set_option maxRecDepth 20000 in
theorem gL_forget_L_sweep : GoodIn wsL_forget (va_wsS RL 39 yL_sweep wsL_sweep) := goodIn_app (goodIn_of _ (by decide +kernel)) ggL_forget_L_sweep
theorem dL_forget_0 : decode cL_forget 0 = .ok (.aload_n 1, 1) := by decide +kernel
theorem dL_forget_1 : decode cL_forget 1 = .ok (.iload 5, 2) := by decide +kernel
theorem dL_forget_3 : decode cL_forget 3 = .ok (.iaload, 1) := by decide +kernel
theorem dL_forget_4 : decode cL_forget 4 = .ok (.istore 6, 2) := by decide +kernel
theorem dL_forget_6 : decode cL_forget 6 = .ok (.aload_n 2, 1) := by decide +kernel
theorem dL_forget_7 : decode cL_forget 7 = .ok (.iload 5, 2) := by decide +kernel
theorem dL_forget_9 : decode cL_forget 9 = .ok (.iaload, 1) := by decide +kernel
theorem dL_forget_10 : decode cL_forget 10 = .ok (.istore 7, 2) := by decide +kernel
theorem dL_forget_12 : decode cL_forget 12 = .ok (.aload_n 0, 1) := by decide +kernel
theorem dL_forget_13 : decode cL_forget 13 = .ok (.iconst 0, 1) := by decide +kernel
theorem dL_forget_14 : decode cL_forget 14 = .ok (.dup2, 1) := by decide +kernel
theorem dL_forget_15 : decode cL_forget 15 = .ok (.iaload, 1) := by decide +kernel
theorem dL_forget_16 : decode cL_forget 16 = .ok (.iconst 1, 1) := by decide +kernel
theorem dL_forget_17 : decode cL_forget 17 = .ok (.isub, 1) := by decide +kernel
theorem dL_forget_18 : decode cL_forget 18 = .ok (.iastore, 1) := by decide +kernel
theorem dL_forget_19 : decode cL_forget 19 = .ok (.iload 5, 2) := by decide +kernel
theorem dL_forget_21 : decode cL_forget 21 = .ok (.istore 8, 2) := by decide +kernel
theorem dL_forget_23 : decode cL_forget 23 = .ok (.iload 8, 2) := by decide +kernel
theorem dL_forget_25 : decode cL_forget 25 = .ok (.aload_n 0, 1) := by decide +kernel
theorem dL_forget_26 : decode cL_forget 26 = .ok (.iconst 0, 1) := by decide +kernel
theorem dL_forget_27 : decode cL_forget 27 = .ok (.iaload, 1) := by decide +kernel
theorem dL_forget_28 : decode cL_forget 28 = .ok (.if_icmp .ge 39, 3) := by decide +kernel
theorem dL_forget_31 : decode cL_forget 31 = .ok (.aload_n 1, 1) := by decide +kernel
theorem dL_forget_32 : decode cL_forget 32 = .ok (.iload 8, 2) := by decide +kernel
theorem dL_forget_34 : decode cL_forget 34 = .ok (.aload_n 1, 1) := by decide +kernel
theorem dL_forget_35 : decode cL_forget 35 = .ok (.iload 8, 2) := by decide +kernel
theorem dL_forget_37 : decode cL_forget 37 = .ok (.iconst 1, 1) := by decide +kernel
theorem dL_forget_38 : decode cL_forget 38 = .ok (.iadd, 1) := by decide +kernel
theorem dL_forget_39 : decode cL_forget 39 = .ok (.iaload, 1) := by decide +kernel
theorem dL_forget_40 : decode cL_forget 40 = .ok (.iastore, 1) := by decide +kernel
theorem dL_forget_41 : decode cL_forget 41 = .ok (.aload_n 2, 1) := by decide +kernel
theorem dL_forget_42 : decode cL_forget 42 = .ok (.iload 8, 2) := by decide +kernel
theorem dL_forget_44 : decode cL_forget 44 = .ok (.aload_n 2, 1) := by decide +kernel
theorem dL_forget_45 : decode cL_forget 45 = .ok (.iload 8, 2) := by decide +kernel
theorem dL_forget_47 : decode cL_forget 47 = .ok (.iconst 1, 1) := by decide +kernel
theorem dL_forget_48 : decode cL_forget 48 = .ok (.iadd, 1) := by decide +kernel
theorem dL_forget_49 : decode cL_forget 49 = .ok (.iaload, 1) := by decide +kernel
theorem dL_forget_50 : decode cL_forget 50 = .ok (.iastore, 1) := by decide +kernel
theorem dL_forget_51 : decode cL_forget 51 = .ok (.aload_n 3, 1) := by decide +kernel
theorem dL_forget_52 : decode cL_forget 52 = .ok (.iload 8, 2) := by decide +kernel
theorem dL_forget_54 : decode cL_forget 54 = .ok (.aload_n 3, 1) := by decide +kernel
theorem dL_forget_55 : decode cL_forget 55 = .ok (.iload 8, 2) := by decide +kernel
theorem dL_forget_57 : decode cL_forget 57 = .ok (.iconst 1, 1) := by decide +kernel
theorem dL_forget_58 : decode cL_forget 58 = .ok (.iadd, 1) := by decide +kernel
theorem dL_forget_59 : decode cL_forget 59 = .ok (.laload, 1) := by decide +kernel
theorem dL_forget_60 : decode cL_forget 60 = .ok (.lastore, 1) := by decide +kernel
theorem dL_forget_61 : decode cL_forget 61 = .ok (.iinc 8 1, 3) := by decide +kernel
theorem dL_forget_64 : decode cL_forget 64 = .ok (.goto (-41), 3) := by decide +kernel
theorem dL_forget_67 : decode cL_forget 67 = .ok (.iconst 0, 1) := by decide +kernel
theorem dL_forget_68 : decode cL_forget 68 = .ok (.istore 8, 2) := by decide +kernel
theorem dL_forget_70 : decode cL_forget 70 = .ok (.iload 8, 2) := by decide +kernel
theorem dL_forget_72 : decode cL_forget 72 = .ok (.aload_n 0, 1) := by decide +kernel
theorem dL_forget_73 : decode cL_forget 73 = .ok (.iconst 0, 1) := by decide +kernel
theorem dL_forget_74 : decode cL_forget 74 = .ok (.iaload, 1) := by decide +kernel
theorem dL_forget_75 : decode cL_forget 75 = .ok (.if_icmp .ge 31, 3) := by decide +kernel
theorem dL_forget_78 : decode cL_forget 78 = .ok (.aload_n 2, 1) := by decide +kernel
theorem dL_forget_79 : decode cL_forget 79 = .ok (.iload 8, 2) := by decide +kernel
theorem dL_forget_81 : decode cL_forget 81 = .ok (.aload_n 2, 1) := by decide +kernel
theorem dL_forget_82 : decode cL_forget 82 = .ok (.iload 8, 2) := by decide +kernel
theorem dL_forget_84 : decode cL_forget 84 = .ok (.iaload, 1) := by decide +kernel
theorem dL_forget_85 : decode cL_forget 85 = .ok (.iload 6, 2) := by decide +kernel
theorem dL_forget_87 : decode cL_forget 87 = .ok (.if_icmp .ne 8, 3) := by decide +kernel
theorem dL_forget_90 : decode cL_forget 90 = .ok (.iload 7, 2) := by decide +kernel
theorem dL_forget_92 : decode cL_forget 92 = .ok (.goto 7, 3) := by decide +kernel
theorem dL_forget_95 : decode cL_forget 95 = .ok (.aload_n 2, 1) := by decide +kernel
theorem dL_forget_96 : decode cL_forget 96 = .ok (.iload 8, 2) := by decide +kernel
theorem dL_forget_98 : decode cL_forget 98 = .ok (.iaload, 1) := by decide +kernel
theorem dL_forget_99 : decode cL_forget 99 = .ok (.iastore, 1) := by decide +kernel
theorem dL_forget_100 : decode cL_forget 100 = .ok (.iinc 8 1, 3) := by decide +kernel
theorem dL_forget_103 : decode cL_forget 103 = .ok (.goto (-33), 3) := by decide +kernel
theorem dL_forget_106 : decode cL_forget 106 = .ok (.aload_n 0, 1) := by decide +kernel
theorem dL_forget_107 : decode cL_forget 107 = .ok (.aload_n 3, 1) := by decide +kernel
theorem dL_forget_108 : decode cL_forget 108 = .ok (.aload 4, 2) := by decide +kernel
theorem dL_forget_110 : decode cL_forget 110 = .ok (.invokestatic 39, 3) := by decide +kernel
theorem dL_forget_113 : decode cL_forget 113 = .ok (.ireturn, 1) := by decide +kernel
set_option maxRecDepth 20000 in
theorem ggL_share_L_block : GoodIn wsL_share wsL_block := goodIn_r _ [4, 5] (by decide +kernel) (by decide +kernel)
set_option maxRecDepth 20000 in
theorem gL_share_L_block : GoodIn wsL_share (va_wsS RL 13 yL_block wsL_block) := goodIn_app (goodIn_of _ (by decide +kernel)) ggL_share_L_block
set_option maxRecDepth 20000 in
theorem ggL_share_L_like : GoodIn wsL_share wsL_like := goodIn_r _ [8] (by decide +kernel) (by decide +kernel)
set_option maxRecDepth 20000 in
theorem gL_share_L_like : GoodIn wsL_share (va_wsS RL 35 yL_like wsL_like) := goodIn_app (goodIn_of _ (by decide +kernel)) ggL_share_L_like
set_option maxRecDepth 20000 in
theorem ggL_share_L_sweep : GoodIn wsL_share wsL_sweep := goodIn_r _ [11, 12, 13, 14, 3, 15, 1, 2, 4, 5] (by decide +kernel) (by decide +kernel)
set_option maxRecDepth 20000 in
theorem gL_share_L_sweep : GoodIn wsL_share (va_wsS RL 39 yL_sweep wsL_sweep) := goodIn_app (goodIn_of _ (by decide +kernel)) ggL_share_L_sweep
theorem dL_share_0 : decode cL_share 0 = .ok (.iconst 0, 1) := by decide +kernel
theorem dL_share_1 : decode cL_share 1 = .ok (.istore 4, 2) := by decide +kernel
theorem dL_share_3 : decode cL_share 3 = .ok (.iload 4, 2) := by decide +kernel
theorem dL_share_5 : decode cL_share 5 = .ok (.aload_n 0, 1) := by decide +kernel
theorem dL_share_6 : decode cL_share 6 = .ok (.iconst 0, 1) := by decide +kernel
theorem dL_share_7 : decode cL_share 7 = .ok (.iaload, 1) := by decide +kernel
theorem dL_share_8 : decode cL_share 8 = .ok (.if_icmp .ge 70, 3) := by decide +kernel
theorem dL_share_11 : decode cL_share 11 = .ok (.lconst 0, 1) := by decide +kernel
theorem dL_share_12 : decode cL_share 12 = .ok (.lstore 5, 2) := by decide +kernel
theorem dL_share_14 : decode cL_share 14 = .ok (.iconst 0, 1) := by decide +kernel
theorem dL_share_15 : decode cL_share 15 = .ok (.istore 7, 2) := by decide +kernel
theorem dL_share_17 : decode cL_share 17 = .ok (.iload 7, 2) := by decide +kernel
theorem dL_share_19 : decode cL_share 19 = .ok (.bipush 6, 2) := by decide +kernel
theorem dL_share_21 : decode cL_share 21 = .ok (.if_icmp .ge 45, 3) := by decide +kernel
theorem dL_share_24 : decode cL_share 24 = .ok (.aload_n 1, 1) := by decide +kernel
theorem dL_share_25 : decode cL_share 25 = .ok (.iload 4, 2) := by decide +kernel
theorem dL_share_27 : decode cL_share 27 = .ok (.iload 7, 2) := by decide +kernel
theorem dL_share_29 : decode cL_share 29 = .ok (.invokestatic 13, 3) := by decide +kernel
theorem dL_share_32 : decode cL_share 32 = .ok (.istore 8, 2) := by decide +kernel
theorem dL_share_34 : decode cL_share 34 = .ok (.lload 5, 2) := by decide +kernel
theorem dL_share_36 : decode cL_share 36 = .ok (.aload_n 2, 1) := by decide +kernel
theorem dL_share_37 : decode cL_share 37 = .ok (.aload_n 3, 1) := by decide +kernel
theorem dL_share_38 : decode cL_share 38 = .ok (.aload_n 2, 1) := by decide +kernel
theorem dL_share_39 : decode cL_share 39 = .ok (.iload 8, 2) := by decide +kernel
theorem dL_share_41 : decode cL_share 41 = .ok (.laload, 1) := by decide +kernel
theorem dL_share_42 : decode cL_share 42 = .ok (.aload_n 3, 1) := by decide +kernel
theorem dL_share_43 : decode cL_share 43 = .ok (.iload 8, 2) := by decide +kernel
theorem dL_share_45 : decode cL_share 45 = .ok (.laload, 1) := by decide +kernel
theorem dL_share_46 : decode cL_share 46 = .ok (.iconst (-1), 1) := by decide +kernel
theorem dL_share_47 : decode cL_share 47 = .ok (.invokestatic 35, 3) := by decide +kernel
theorem dL_share_50 : decode cL_share 50 = .ok (.i2l, 1) := by decide +kernel
theorem dL_share_51 : decode cL_share 51 = .ok (.bipush 6, 2) := by decide +kernel
theorem dL_share_53 : decode cL_share 53 = .ok (.iload 7, 2) := by decide +kernel
theorem dL_share_55 : decode cL_share 55 = .ok (.imul, 1) := by decide +kernel
theorem dL_share_56 : decode cL_share 56 = .ok (.lshl, 1) := by decide +kernel
theorem dL_share_57 : decode cL_share 57 = .ok (.lor, 1) := by decide +kernel
theorem dL_share_58 : decode cL_share 58 = .ok (.lstore 5, 2) := by decide +kernel
theorem dL_share_60 : decode cL_share 60 = .ok (.iinc 7 1, 3) := by decide +kernel
theorem dL_share_63 : decode cL_share 63 = .ok (.goto (-46), 3) := by decide +kernel
theorem dL_share_66 : decode cL_share 66 = .ok (.aload_n 1, 1) := by decide +kernel
theorem dL_share_67 : decode cL_share 67 = .ok (.iload 4, 2) := by decide +kernel
theorem dL_share_69 : decode cL_share 69 = .ok (.lload 5, 2) := by decide +kernel
theorem dL_share_71 : decode cL_share 71 = .ok (.lastore, 1) := by decide +kernel
theorem dL_share_72 : decode cL_share 72 = .ok (.iinc 4 1, 3) := by decide +kernel
theorem dL_share_75 : decode cL_share 75 = .ok (.goto (-72), 3) := by decide +kernel
theorem dL_share_78 : decode cL_share 78 = .ok (.aload_n 0, 1) := by decide +kernel
theorem dL_share_79 : decode cL_share 79 = .ok (.aload_n 1, 1) := by decide +kernel
theorem dL_share_80 : decode cL_share 80 = .ok (.aload_n 3, 1) := by decide +kernel
theorem dL_share_81 : decode cL_share 81 = .ok (.invokestatic 39, 3) := by decide +kernel
theorem dL_share_84 : decode cL_share 84 = .ok (.ireturn, 1) := by decide +kernel
