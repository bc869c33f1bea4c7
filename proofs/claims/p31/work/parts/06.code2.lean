theorem dX4_fillCells_22 : decode cX4_fillCells 22 = .ok (.sipush 1000, 3) := by decide +kernel
theorem dX4_fillCells_25 : decode cX4_fillCells 25 = .ok (.invokestatic 52, 3) := by decide +kernel
theorem dX4_fillCells_28 : decode cX4_fillCells 28 = .ok (.ifCond .ne 6, 3) := by decide +kernel
theorem dX4_fillCells_31 : decode cX4_fillCells 31 = .ok (.ldc 101, 2) := by decide +kernel
theorem dX4_fillCells_33 : decode cX4_fillCells 33 = .ok (.ireturn, 1) := by decide +kernel
theorem dX4_fillCells_34 : decode cX4_fillCells 34 = .ok (.aload_n 0, 1) := by decide +kernel
theorem dX4_fillCells_35 : decode cX4_fillCells 35 = .ok (.iload 5, 2) := by decide +kernel
theorem dX4_fillCells_37 : decode cX4_fillCells 37 = .ok (.invokevirtual 102, 3) := by decide +kernel
theorem dX4_fillCells_40 : decode cX4_fillCells 40 = .ok (.iconst 0, 1) := by decide +kernel
theorem dX4_fillCells_41 : decode cX4_fillCells 41 = .ok (.istore 6, 2) := by decide +kernel
theorem dX4_fillCells_43 : decode cX4_fillCells 43 = .ok (.iload 6, 2) := by decide +kernel
theorem dX4_fillCells_45 : decode cX4_fillCells 45 = .ok (.iload_n 3, 1) := by decide +kernel
theorem dX4_fillCells_46 : decode cX4_fillCells 46 = .ok (.if_icmp .ge 20, 3) := by decide +kernel
theorem dX4_fillCells_49 : decode cX4_fillCells 49 = .ok (.aload_n 0, 1) := by decide +kernel
theorem dX4_fillCells_50 : decode cX4_fillCells 50 = .ok (.getfield 29, 3) := by decide +kernel
theorem dX4_fillCells_53 : decode cX4_fillCells 53 = .ok (.iload_n 2, 1) := by decide +kernel
theorem dX4_fillCells_54 : decode cX4_fillCells 54 = .ok (.iload 6, 2) := by decide +kernel
theorem dX4_fillCells_56 : decode cX4_fillCells 56 = .ok (.iadd, 1) := by decide +kernel
theorem dX4_fillCells_57 : decode cX4_fillCells 57 = .ok (.iload 4, 2) := by decide +kernel
theorem dX4_fillCells_59 : decode cX4_fillCells 59 = .ok (.iastore, 1) := by decide +kernel
theorem dX4_fillCells_60 : decode cX4_fillCells 60 = .ok (.iinc 6 1, 3) := by decide +kernel
theorem dX4_fillCells_63 : decode cX4_fillCells 63 = .ok (.goto (-20), 3) := by decide +kernel
theorem dX4_fillCells_66 : decode cX4_fillCells 66 = .ok (.aload_n 0, 1) := by decide +kernel
theorem dX4_fillCells_67 : decode cX4_fillCells 67 = .ok (.iload_n 1, 1) := by decide +kernel
theorem dX4_fillCells_68 : decode cX4_fillCells 68 = .ok (.iload 5, 2) := by decide +kernel
theorem dX4_fillCells_70 : decode cX4_fillCells 70 = .ok (.invokevirtual 106, 3) := by decide +kernel
theorem dX4_fillCells_73 : decode cX4_fillCells 73 = .ok (.ireturn, 1) := by decide +kernel
set_option maxRecDepth 20000 in
theorem ggX4_copyCells_X4_headSlot : GoodIn wsX4_copyCells wsX4_headSlot := goodIn_r _ [8, 1, 9, 10, 11, 12, 7, 13, 14, 15, 16, 17, 18, 19, 20, 21, 22, 23, 89, 90, 91, 92, 93, 94, 95, 96, 97, 98, 99] (by decide +kernel) (by decide +kernel)
set_option maxRecDepth 20000 in
theorem gX4_copyCells_X4_headSlot : GoodIn wsX4_copyCells (wsV RX4 95 RX4 yX4_headSlot wsX4_headSlot) := goodIn_app (goodIn_of _ (by decide +kernel)) ggX4_copyCells_X4_headSlot
set_option maxRecDepth 20000 in
theorem ggX4_copyCells_X3_slotOf : GoodIn wsX4_copyCells wsX3_slotOf := goodIn_r _ [21, 22, 23, 95, 96, 97, 98, 99] (by decide +kernel) (by decide +kernel)
set_option maxRecDepth 20000 in
theorem gX4_copyCells_X3_slotOf : GoodIn wsX4_copyCells (wsV RX4 60 RX3 yX3_slotOf wsX3_slotOf) := goodIn_app (goodIn_of _ (by decide +kernel)) ggX4_copyCells_X3_slotOf
set_option maxRecDepth 20000 in
theorem ggX4_copyCells_X5_isRange : GoodIn wsX4_copyCells wsX5_isRange := goodIn_r _ [25, 26, 14, 15, 16] (by decide +kernel) (by decide +kernel)
set_option maxRecDepth 20000 in
theorem gX4_copyCells_X5_isRange_n98 : GoodIn wsX4_copyCells (wsX5_isRange) := ggX4_copyCells_X5_isRange
set_option maxRecDepth 20000 in
theorem ggX4_copyCells_X4_draftState : GoodIn wsX4_copyCells wsX4_draftState := goodIn_r _ [30, 3, 31, 32, 33, 7, 34, 35, 1, 36, 37, 38, 20, 39, 22, 40, 41, 42, 43, 44, 45, 46, 89, 90, 91, 92, 93, 94, 95, 96, 97, 98, 99, 100, 101, 102, 103] (by decide +kernel) (by decide +kernel)
set_option maxRecDepth 20000 in
theorem gX4_copyCells_X4_draftState : GoodIn wsX4_copyCells (wsV RX4 102 RX4 yX4_draftState wsX4_draftState) := goodIn_app (goodIn_of _ (by decide +kernel)) ggX4_copyCells_X4_draftState
set_option maxRecDepth 20000 in
theorem ggX4_copyCells_X4_cellAt : GoodIn wsX4_copyCells wsX4_cellAt := goodIn_r _ [34, 35, 1, 36, 37, 38, 20, 39, 22, 40, 41, 42, 43, 44, 45, 46, 89, 90, 91, 92, 93, 94, 95, 96, 97, 98, 99, 100, 101, 102, 103] (by decide +kernel) (by decide +kernel)
set_option maxRecDepth 20000 in
theorem gX4_copyCells_X4_cellAt : GoodIn wsX4_copyCells (wsV RX4 74 RX4 yX4_cellAt wsX4_cellAt) := goodIn_app (goodIn_of _ (by decide +kernel)) ggX4_copyCells_X4_cellAt
set_option maxRecDepth 20000 in
theorem ggX4_copyCells_X4_addDraft : GoodIn wsX4_copyCells wsX4_addDraft := goodIn_r _ [50, 1, 51, 52, 35, 3, 53, 54, 55, 9, 36, 37, 38, 20, 39, 22, 40, 56, 57, 58, 44, 59, 60, 46, 61, 62, 63, 64, 65, 66, 67, 68, 69, 70, 71, 72, 73, 74, 75, 76, 77, 78, 14, 15, 16, 79, 80, 81, 82, 23, 83, 84, 85, 86, 87, 88, 89, 90, 91, 92, 93, 94, 95, 96, 97, 98, 99, 100, 101, 102, 103] (by decide +kernel) (by decide +kernel)
set_option maxRecDepth 20000 in
theorem gX4_copyCells_X4_addDraft : GoodIn wsX4_copyCells (wsV RX4 106 RX4 yX4_addDraft wsX4_addDraft) := goodIn_app (goodIn_of _ (by decide +kernel)) ggX4_copyCells_X4_addDraft
theorem dX4_copyCells_0 : decode cX4_copyCells 0 = .ok (.aload_n 0, 1) := by decide +kernel
theorem dX4_copyCells_1 : decode cX4_copyCells 1 = .ok (.iload_n 1, 1) := by decide +kernel
theorem dX4_copyCells_2 : decode cX4_copyCells 2 = .ok (.invokevirtual 95, 3) := by decide +kernel
theorem dX4_copyCells_5 : decode cX4_copyCells 5 = .ok (.istore 6, 2) := by decide +kernel
theorem dX4_copyCells_7 : decode cX4_copyCells 7 = .ok (.aload_n 0, 1) := by decide +kernel
theorem dX4_copyCells_8 : decode cX4_copyCells 8 = .ok (.getfield 21, 3) := by decide +kernel
theorem dX4_copyCells_11 : decode cX4_copyCells 11 = .ok (.iload_n 2, 1) := by decide +kernel
theorem dX4_copyCells_12 : decode cX4_copyCells 12 = .ok (.invokevirtual 60, 3) := by decide +kernel
theorem dX4_copyCells_15 : decode cX4_copyCells 15 = .ok (.istore 7, 2) := by decide +kernel
theorem dX4_copyCells_17 : decode cX4_copyCells 17 = .ok (.iload 6, 2) := by decide +kernel
theorem dX4_copyCells_19 : decode cX4_copyCells 19 = .ok (.ifCond .lt 27, 3) := by decide +kernel
theorem dX4_copyCells_22 : decode cX4_copyCells 22 = .ok (.iload 7, 2) := by decide +kernel
theorem dX4_copyCells_24 : decode cX4_copyCells 24 = .ok (.ifCond .lt 22, 3) := by decide +kernel
theorem dX4_copyCells_27 : decode cX4_copyCells 27 = .ok (.iload_n 3, 1) := by decide +kernel
theorem dX4_copyCells_28 : decode cX4_copyCells 28 = .ok (.iload 5, 2) := by decide +kernel
theorem dX4_copyCells_30 : decode cX4_copyCells 30 = .ok (.invokestatic 98, 3) := by decide +kernel
theorem dX4_copyCells_33 : decode cX4_copyCells 33 = .ok (.ifCond .eq 13, 3) := by decide +kernel
theorem dX4_copyCells_36 : decode cX4_copyCells 36 = .ok (.iload 4, 2) := by decide +kernel
theorem dX4_copyCells_38 : decode cX4_copyCells 38 = .ok (.iload 5, 2) := by decide +kernel
theorem dX4_copyCells_40 : decode cX4_copyCells 40 = .ok (.invokestatic 98, 3) := by decide +kernel
theorem dX4_copyCells_43 : decode cX4_copyCells 43 = .ok (.ifCond .ne 6, 3) := by decide +kernel
theorem dX4_copyCells_46 : decode cX4_copyCells 46 = .ok (.ldc 101, 2) := by decide +kernel
theorem dX4_copyCells_48 : decode cX4_copyCells 48 = .ok (.ireturn, 1) := by decide +kernel
theorem dX4_copyCells_49 : decode cX4_copyCells 49 = .ok (.aload_n 0, 1) := by decide +kernel
theorem dX4_copyCells_50 : decode cX4_copyCells 50 = .ok (.iload 6, 2) := by decide +kernel
theorem dX4_copyCells_52 : decode cX4_copyCells 52 = .ok (.invokevirtual 102, 3) := by decide +kernel
theorem dX4_copyCells_55 : decode cX4_copyCells 55 = .ok (.iconst 0, 1) := by decide +kernel
theorem dX4_copyCells_56 : decode cX4_copyCells 56 = .ok (.istore 8, 2) := by decide +kernel
theorem dX4_copyCells_58 : decode cX4_copyCells 58 = .ok (.iload 8, 2) := by decide +kernel
theorem dX4_copyCells_60 : decode cX4_copyCells 60 = .ok (.iload 5, 2) := by decide +kernel
theorem dX4_copyCells_62 : decode cX4_copyCells 62 = .ok (.if_icmp .ge 29, 3) := by decide +kernel
theorem dX4_copyCells_65 : decode cX4_copyCells 65 = .ok (.aload_n 0, 1) := by decide +kernel
theorem dX4_copyCells_66 : decode cX4_copyCells 66 = .ok (.getfield 29, 3) := by decide +kernel
theorem dX4_copyCells_69 : decode cX4_copyCells 69 = .ok (.iload 4, 2) := by decide +kernel
theorem dX4_copyCells_71 : decode cX4_copyCells 71 = .ok (.iload 8, 2) := by decide +kernel
theorem dX4_copyCells_73 : decode cX4_copyCells 73 = .ok (.iadd, 1) := by decide +kernel
theorem dX4_copyCells_74 : decode cX4_copyCells 74 = .ok (.aload_n 0, 1) := by decide +kernel
theorem dX4_copyCells_75 : decode cX4_copyCells 75 = .ok (.iload 7, 2) := by decide +kernel
theorem dX4_copyCells_77 : decode cX4_copyCells 77 = .ok (.iload_n 3, 1) := by decide +kernel
theorem dX4_copyCells_78 : decode cX4_copyCells 78 = .ok (.iload 8, 2) := by decide +kernel
theorem dX4_copyCells_80 : decode cX4_copyCells 80 = .ok (.iadd, 1) := by decide +kernel
theorem dX4_copyCells_81 : decode cX4_copyCells 81 = .ok (.invokevirtual 74, 3) := by decide +kernel
theorem dX4_copyCells_84 : decode cX4_copyCells 84 = .ok (.iastore, 1) := by decide +kernel
theorem dX4_copyCells_85 : decode cX4_copyCells 85 = .ok (.iinc 8 1, 3) := by decide +kernel
theorem dX4_copyCells_88 : decode cX4_copyCells 88 = .ok (.goto (-30), 3) := by decide +kernel
theorem dX4_copyCells_91 : decode cX4_copyCells 91 = .ok (.aload_n 0, 1) := by decide +kernel
theorem dX4_copyCells_92 : decode cX4_copyCells 92 = .ok (.iload_n 1, 1) := by decide +kernel
theorem dX4_copyCells_93 : decode cX4_copyCells 93 = .ok (.iload 6, 2) := by decide +kernel
theorem dX4_copyCells_95 : decode cX4_copyCells 95 = .ok (.invokevirtual 106, 3) := by decide +kernel
theorem dX4_copyCells_98 : decode cX4_copyCells 98 = .ok (.ireturn, 1) := by decide +kernel
set_option maxRecDepth 20000 in
theorem ggX4_mergeState_X4_headSlot : GoodIn wsX4_mergeState wsX4_headSlot := goodIn_r _ [8, 1, 9, 10, 11, 12, 7, 13, 14, 15, 16, 17, 18, 19, 20, 21, 22, 23, 100, 101, 102, 103, 104, 105, 106, 107, 108, 109, 110] (by decide +kernel) (by decide +kernel)
set_option maxRecDepth 20000 in
theorem gX4_mergeState_X4_headSlot : GoodIn wsX4_mergeState (wsV RX4 95 RX4 yX4_headSlot wsX4_headSlot) := goodIn_app (goodIn_of _ (by decide +kernel)) ggX4_mergeState_X4_headSlot
set_option maxRecDepth 20000 in
theorem ggX4_mergeState_X3_slotOf : GoodIn wsX4_mergeState wsX3_slotOf := goodIn_r _ [21, 22, 23, 106, 107, 108, 109, 110] (by decide +kernel) (by decide +kernel)
set_option maxRecDepth 20000 in
theorem gX4_mergeState_X3_slotOf : GoodIn wsX4_mergeState (wsV RX4 60 RX3 yX3_slotOf wsX3_slotOf) := goodIn_app (goodIn_of _ (by decide +kernel)) ggX4_mergeState_X3_slotOf
set_option maxRecDepth 20000 in
theorem ggX4_mergeState_X3_commonSlot : GoodIn wsX4_mergeState wsX3_commonSlot := goodIn_r _ [27, 28, 29, 30, 20, 31, 32, 33, 34, 35, 22, 36, 37, 18, 19, 21, 23, 106, 107, 108, 109, 110] (by decide +kernel) (by decide +kernel)
set_option maxRecDepth 20000 in
theorem gX4_mergeState_X3_commonSlot : GoodIn wsX4_mergeState (wsV RX4 109 RX3 yX3_commonSlot wsX3_commonSlot) := goodIn_app (goodIn_of _ (by decide +kernel)) ggX4_mergeState_X3_commonSlot
set_option maxRecDepth 20000 in
theorem ggX4_mergeState_X4_draftMerge : GoodIn wsX4_mergeState wsX4_draftMerge := goodIn_r _ [41, 42, 43, 44, 45, 7, 46, 47, 1, 48, 49, 50, 20, 51, 22, 52, 53, 54, 55, 56, 57, 58, 100, 101, 102, 103, 104, 105, 106, 107, 108, 109, 110, 111, 112, 113, 114] (by decide +kernel) (by decide +kernel)
set_option maxRecDepth 20000 in
theorem gX4_mergeState_X4_draftMerge : GoodIn wsX4_mergeState (wsV RX4 112 RX4 yX4_draftMerge wsX4_draftMerge) := goodIn_app (goodIn_of _ (by decide +kernel)) ggX4_mergeState_X4_draftMerge
set_option maxRecDepth 20000 in
theorem ggX4_mergeState_X4_addDraft : GoodIn wsX4_mergeState wsX4_addDraft := goodIn_r _ [62, 1, 63, 64, 47, 42, 65, 66, 67, 9, 48, 49, 50, 20, 51, 22, 52, 68, 69, 70, 56, 71, 72, 58, 73, 74, 75, 76, 77, 78, 79, 80, 81, 82, 83, 84, 85, 86, 87, 88, 89, 90, 14, 15, 16, 91, 92, 93, 94, 23, 95, 96, 97, 98, 99, 36, 100, 101, 102, 103, 104, 105, 106, 107, 108, 109, 110, 111, 112, 113, 114] (by decide +kernel) (by decide +kernel)
set_option maxRecDepth 20000 in
theorem gX4_mergeState_X4_addDraft : GoodIn wsX4_mergeState (wsV RX4 106 RX4 yX4_addDraft wsX4_addDraft) := goodIn_app (goodIn_of _ (by decide +kernel)) ggX4_mergeState_X4_addDraft
theorem dX4_mergeState_0 : decode cX4_mergeState 0 = .ok (.aload_n 0, 1) := by decide +kernel
theorem dX4_mergeState_1 : decode cX4_mergeState 1 = .ok (.iload_n 1, 1) := by decide +kernel
theorem dX4_mergeState_2 : decode cX4_mergeState 2 = .ok (.invokevirtual 95, 3) := by decide +kernel
theorem dX4_mergeState_5 : decode cX4_mergeState 5 = .ok (.istore_n 3, 1) := by decide +kernel
theorem dX4_mergeState_6 : decode cX4_mergeState 6 = .ok (.aload_n 0, 1) := by decide +kernel
theorem dX4_mergeState_7 : decode cX4_mergeState 7 = .ok (.getfield 21, 3) := by decide +kernel
theorem dX4_mergeState_10 : decode cX4_mergeState 10 = .ok (.iload_n 2, 1) := by decide +kernel
theorem dX4_mergeState_11 : decode cX4_mergeState 11 = .ok (.invokevirtual 60, 3) := by decide +kernel
theorem dX4_mergeState_14 : decode cX4_mergeState 14 = .ok (.istore 4, 2) := by decide +kernel
theorem dX4_mergeState_16 : decode cX4_mergeState 16 = .ok (.iload_n 3, 1) := by decide +kernel
theorem dX4_mergeState_17 : decode cX4_mergeState 17 = .ok (.ifCond .lt 8, 3) := by decide +kernel
theorem dX4_mergeState_20 : decode cX4_mergeState 20 = .ok (.iload 4, 2) := by decide +kernel
theorem dX4_mergeState_22 : decode cX4_mergeState 22 = .ok (.ifCond .ge 6, 3) := by decide +kernel
theorem dX4_mergeState_25 : decode cX4_mergeState 25 = .ok (.ldc 101, 2) := by decide +kernel
theorem dX4_mergeState_27 : decode cX4_mergeState 27 = .ok (.ireturn, 1) := by decide +kernel
theorem dX4_mergeState_28 : decode cX4_mergeState 28 = .ok (.aload_n 0, 1) := by decide +kernel
theorem dX4_mergeState_29 : decode cX4_mergeState 29 = .ok (.aload_n 0, 1) := by decide +kernel
theorem dX4_mergeState_30 : decode cX4_mergeState 30 = .ok (.getfield 21, 3) := by decide +kernel
theorem dX4_mergeState_33 : decode cX4_mergeState 33 = .ok (.iload_n 3, 1) := by decide +kernel
theorem dX4_mergeState_34 : decode cX4_mergeState 34 = .ok (.iload 4, 2) := by decide +kernel
theorem dX4_mergeState_36 : decode cX4_mergeState 36 = .ok (.invokevirtual 109, 3) := by decide +kernel
theorem dX4_mergeState_39 : decode cX4_mergeState 39 = .ok (.iload_n 3, 1) := by decide +kernel
theorem dX4_mergeState_40 : decode cX4_mergeState 40 = .ok (.iload 4, 2) := by decide +kernel
theorem dX4_mergeState_42 : decode cX4_mergeState 42 = .ok (.invokevirtual 112, 3) := by decide +kernel
theorem dX4_mergeState_45 : decode cX4_mergeState 45 = .ok (.istore 5, 2) := by decide +kernel
theorem dX4_mergeState_47 : decode cX4_mergeState 47 = .ok (.aload_n 0, 1) := by decide +kernel
theorem dX4_mergeState_48 : decode cX4_mergeState 48 = .ok (.iload_n 1, 1) := by decide +kernel
theorem dX4_mergeState_49 : decode cX4_mergeState 49 = .ok (.iload_n 3, 1) := by decide +kernel
theorem dX4_mergeState_50 : decode cX4_mergeState 50 = .ok (.invokevirtual 106, 3) := by decide +kernel
theorem dX4_mergeState_53 : decode cX4_mergeState 53 = .ok (.istore 6, 2) := by decide +kernel
theorem dX4_mergeState_55 : decode cX4_mergeState 55 = .ok (.iload 6, 2) := by decide +kernel
theorem dX4_mergeState_57 : decode cX4_mergeState 57 = .ok (.ifCond .ge 6, 3) := by decide +kernel
theorem dX4_mergeState_60 : decode cX4_mergeState 60 = .ok (.iload 6, 2) := by decide +kernel
theorem dX4_mergeState_62 : decode cX4_mergeState 62 = .ok (.ireturn, 1) := by decide +kernel
theorem dX4_mergeState_63 : decode cX4_mergeState 63 = .ok (.aload_n 0, 1) := by decide +kernel
theorem dX4_mergeState_64 : decode cX4_mergeState 64 = .ok (.dup, 1) := by decide +kernel
theorem dX4_mergeState_65 : decode cX4_mergeState 65 = .ok (.getfield 36, 3) := by decide +kernel
theorem dX4_mergeState_68 : decode cX4_mergeState 68 = .ok (.iload 5, 2) := by decide +kernel
theorem dX4_mergeState_70 : decode cX4_mergeState 70 = .ok (.iadd, 1) := by decide +kernel
theorem dX4_mergeState_71 : decode cX4_mergeState 71 = .ok (.putfield 36, 3) := by decide +kernel
theorem dX4_mergeState_74 : decode cX4_mergeState 74 = .ok (.iload 5, 2) := by decide +kernel
theorem dX4_mergeState_76 : decode cX4_mergeState 76 = .ok (.ireturn, 1) := by decide +kernel
set_option maxRecDepth 20000 in
theorem ggX4_draftMerge_X4_cellAt : GoodIn wsX4_draftMerge wsX4_cellAt := goodIn_r _ [6, 7, 8, 9, 10, 11, 12, 13, 14, 15, 16, 17, 18, 19, 20, 21, 22, 23, 24, 25, 26, 27, 28, 29, 30, 31, 32, 33, 34, 35, 36] (by decide +kernel) (by decide +kernel)
set_option maxRecDepth 20000 in
theorem gX4_draftMerge_X4_cellAt : GoodIn wsX4_draftMerge (wsV RX4 74 RX4 yX4_cellAt wsX4_cellAt) := goodIn_app (goodIn_of _ (by decide +kernel)) ggX4_draftMerge_X4_cellAt
theorem dX4_draftMerge_0 : decode cX4_draftMerge 0 = .ok (.iconst 0, 1) := by decide +kernel
theorem dX4_draftMerge_1 : decode cX4_draftMerge 1 = .ok (.istore 4, 2) := by decide +kernel
theorem dX4_draftMerge_3 : decode cX4_draftMerge 3 = .ok (.iconst 0, 1) := by decide +kernel
theorem dX4_draftMerge_4 : decode cX4_draftMerge 4 = .ok (.istore 5, 2) := by decide +kernel
theorem dX4_draftMerge_6 : decode cX4_draftMerge 6 = .ok (.iload 5, 2) := by decide +kernel
theorem dX4_draftMerge_8 : decode cX4_draftMerge 8 = .ok (.bipush 48, 2) := by decide +kernel
theorem dX4_draftMerge_10 : decode cX4_draftMerge 10 = .ok (.if_icmp .ge 105, 3) := by decide +kernel
theorem dX4_draftMerge_13 : decode cX4_draftMerge 13 = .ok (.aload_n 0, 1) := by decide +kernel
theorem dX4_draftMerge_14 : decode cX4_draftMerge 14 = .ok (.iload_n 1, 1) := by decide +kernel
theorem dX4_draftMerge_15 : decode cX4_draftMerge 15 = .ok (.iload 5, 2) := by decide +kernel
theorem dX4_draftMerge_17 : decode cX4_draftMerge 17 = .ok (.invokevirtual 74, 3) := by decide +kernel
theorem dX4_draftMerge_20 : decode cX4_draftMerge 20 = .ok (.istore 6, 2) := by decide +kernel
theorem dX4_draftMerge_22 : decode cX4_draftMerge 22 = .ok (.aload_n 0, 1) := by decide +kernel
theorem dX4_draftMerge_23 : decode cX4_draftMerge 23 = .ok (.iload_n 2, 1) := by decide +kernel
theorem dX4_draftMerge_24 : decode cX4_draftMerge 24 = .ok (.iload 5, 2) := by decide +kernel
theorem dX4_draftMerge_26 : decode cX4_draftMerge 26 = .ok (.invokevirtual 74, 3) := by decide +kernel
theorem dX4_draftMerge_29 : decode cX4_draftMerge 29 = .ok (.istore 7, 2) := by decide +kernel
theorem dX4_draftMerge_31 : decode cX4_draftMerge 31 = .ok (.aload_n 0, 1) := by decide +kernel
theorem dX4_draftMerge_32 : decode cX4_draftMerge 32 = .ok (.iload_n 3, 1) := by decide +kernel
theorem dX4_draftMerge_33 : decode cX4_draftMerge 33 = .ok (.iload 5, 2) := by decide +kernel
theorem dX4_draftMerge_35 : decode cX4_draftMerge 35 = .ok (.invokevirtual 74, 3) := by decide +kernel
theorem dX4_draftMerge_38 : decode cX4_draftMerge 38 = .ok (.istore 8, 2) := by decide +kernel
theorem dX4_draftMerge_40 : decode cX4_draftMerge 40 = .ok (.iload 8, 2) := by decide +kernel
theorem dX4_draftMerge_42 : decode cX4_draftMerge 42 = .ok (.iload 6, 2) := by decide +kernel
theorem dX4_draftMerge_44 : decode cX4_draftMerge 44 = .ok (.if_icmp .eq 21, 3) := by decide +kernel
theorem dX4_draftMerge_47 : decode cX4_draftMerge 47 = .ok (.iload 7, 2) := by decide +kernel
theorem dX4_draftMerge_49 : decode cX4_draftMerge 49 = .ok (.iload 6, 2) := by decide +kernel
theorem dX4_draftMerge_51 : decode cX4_draftMerge 51 = .ok (.if_icmp .eq 14, 3) := by decide +kernel
theorem dX4_draftMerge_54 : decode cX4_draftMerge 54 = .ok (.iload 7, 2) := by decide +kernel
theorem dX4_draftMerge_56 : decode cX4_draftMerge 56 = .ok (.iload 8, 2) := by decide +kernel
theorem dX4_draftMerge_58 : decode cX4_draftMerge 58 = .ok (.if_icmp .eq 7, 3) := by decide +kernel
theorem dX4_draftMerge_61 : decode cX4_draftMerge 61 = .ok (.iconst 1, 1) := by decide +kernel
theorem dX4_draftMerge_62 : decode cX4_draftMerge 62 = .ok (.goto 4, 3) := by decide +kernel
theorem dX4_draftMerge_65 : decode cX4_draftMerge 65 = .ok (.iconst 0, 1) := by decide +kernel
theorem dX4_draftMerge_66 : decode cX4_draftMerge 66 = .ok (.istore 9, 2) := by decide +kernel
theorem dX4_draftMerge_68 : decode cX4_draftMerge 68 = .ok (.aload_n 0, 1) := by decide +kernel
theorem dX4_draftMerge_69 : decode cX4_draftMerge 69 = .ok (.getfield 29, 3) := by decide +kernel
theorem dX4_draftMerge_72 : decode cX4_draftMerge 72 = .ok (.iload 5, 2) := by decide +kernel
theorem dX4_draftMerge_74 : decode cX4_draftMerge 74 = .ok (.iload 8, 2) := by decide +kernel
theorem dX4_draftMerge_76 : decode cX4_draftMerge 76 = .ok (.iload 6, 2) := by decide +kernel
theorem dX4_draftMerge_78 : decode cX4_draftMerge 78 = .ok (.if_icmp .eq 8, 3) := by decide +kernel
theorem dX4_draftMerge_81 : decode cX4_draftMerge 81 = .ok (.iload 9, 2) := by decide +kernel
theorem dX4_draftMerge_83 : decode cX4_draftMerge 83 = .ok (.ifCond .eq 8, 3) := by decide +kernel
theorem dX4_draftMerge_86 : decode cX4_draftMerge 86 = .ok (.iload 7, 2) := by decide +kernel
theorem dX4_draftMerge_88 : decode cX4_draftMerge 88 = .ok (.goto 5, 3) := by decide +kernel
theorem dX4_draftMerge_91 : decode cX4_draftMerge 91 = .ok (.iload 8, 2) := by decide +kernel
theorem dX4_draftMerge_93 : decode cX4_draftMerge 93 = .ok (.iastore, 1) := by decide +kernel
theorem dX4_draftMerge_94 : decode cX4_draftMerge 94 = .ok (.iload 4, 2) := by decide +kernel
theorem dX4_draftMerge_96 : decode cX4_draftMerge 96 = .ok (.iload 9, 2) := by decide +kernel
theorem dX4_draftMerge_98 : decode cX4_draftMerge 98 = .ok (.ifCond .eq 7, 3) := by decide +kernel
theorem dX4_draftMerge_101 : decode cX4_draftMerge 101 = .ok (.iconst 1, 1) := by decide +kernel
theorem dX4_draftMerge_102 : decode cX4_draftMerge 102 = .ok (.goto 4, 3) := by decide +kernel
theorem dX4_draftMerge_105 : decode cX4_draftMerge 105 = .ok (.iconst 0, 1) := by decide +kernel
theorem dX4_draftMerge_106 : decode cX4_draftMerge 106 = .ok (.iadd, 1) := by decide +kernel
theorem dX4_draftMerge_107 : decode cX4_draftMerge 107 = .ok (.istore 4, 2) := by decide +kernel
theorem dX4_draftMerge_109 : decode cX4_draftMerge 109 = .ok (.iinc 5 1, 3) := by decide +kernel
theorem dX4_draftMerge_112 : decode cX4_draftMerge 112 = .ok (.goto (-106), 3) := by decide +kernel
theorem dX4_draftMerge_115 : decode cX4_draftMerge 115 = .ok (.iload 4, 2) := by decide +kernel
theorem dX4_draftMerge_117 : decode cX4_draftMerge 117 = .ok (.ireturn, 1) := by decide +kernel
set_option maxRecDepth 20000 in
theorem ggX4_addDraft_X3_block : GoodIn wsX4_addDraft wsX3_block := goodIn_r _ [14, 15, 16, 62, 63, 64, 65, 66] (by decide +kernel) (by decide +kernel)
set_option maxRecDepth 20000 in
theorem gX4_addDraft_X3_block : GoodIn wsX4_addDraft (wsV RX4 64 RX3 yX3_block wsX3_block) := goodIn_app (goodIn_of _ (by decide +kernel)) ggX4_addDraft_X3_block
set_option maxRecDepth 20000 in
theorem ggX4_addDraft_X0_holds : GoodIn wsX4_addDraft wsX0_holds := goodIn_r _ [21, 22, 23, 67, 68, 69, 70] (by decide +kernel) (by decide +kernel)
set_option maxRecDepth 20000 in
theorem gX4_addDraft_X0_holds : GoodIn wsX4_addDraft (wsV RX4 120 RX0 yX0_holds wsX0_holds) := goodIn_app (goodIn_of _ (by decide +kernel)) ggX4_addDraft_X0_holds
set_option maxRecDepth 20000 in
theorem ggX4_addDraft_X0_lowestHolding : GoodIn wsX4_addDraft wsX0_lowestHolding := goodIn_r _ [27, 28, 18, 19, 20, 21, 22, 23, 67, 68, 69, 70] (by decide +kernel) (by decide +kernel)
set_option maxRecDepth 20000 in
theorem gX4_addDraft_X0_lowestHolding : GoodIn wsX4_addDraft (wsV RX4 124 RX0 yX0_lowestHolding wsX0_lowestHolding) := goodIn_app (goodIn_of _ (by decide +kernel)) ggX4_addDraft_X0_lowestHolding
set_option maxRecDepth 20000 in
theorem ggX4_addDraft_X0_make : GoodIn wsX4_addDraft wsX0_make := goodIn_r _ [32, 22, 23, 33, 34, 35, 36, 37, 67, 68, 69, 70] (by decide +kernel) (by decide +kernel)
set_option maxRecDepth 20000 in
theorem gX4_addDraft_X0_make : GoodIn wsX4_addDraft (wsV RX4 131 RX0 yX0_make wsX0_make) := goodIn_app (goodIn_of _ (by decide +kernel)) ggX4_addDraft_X0_make
set_option maxRecDepth 20000 in
theorem ggX4_addDraft_X0_addUses : GoodIn wsX4_addDraft wsX0_addUses := goodIn_r _ [41, 22, 42, 43, 44, 67, 68, 69, 70] (by decide +kernel) (by decide +kernel)
set_option maxRecDepth 20000 in
theorem gX4_addDraft_X0_addUses : GoodIn wsX4_addDraft (wsV RX4 134 RX0 yX0_addUses wsX0_addUses) := goodIn_app (goodIn_of _ (by decide +kernel)) ggX4_addDraft_X0_addUses
set_option maxRecDepth 20000 in
theorem ggX4_addDraft_X3_numberOf : GoodIn wsX4_addDraft wsX3_numberOf := goodIn_r _ [48, 15, 49, 62, 63, 64, 65, 66] (by decide +kernel) (by decide +kernel)
set_option maxRecDepth 20000 in
theorem gX4_addDraft_X3_numberOf : GoodIn wsX4_addDraft (wsV RX4 89 RX3 yX3_numberOf wsX3_numberOf) := goodIn_app (goodIn_of _ (by decide +kernel)) ggX4_addDraft_X3_numberOf
set_option maxRecDepth 20000 in
theorem ggX4_addDraft_X3_add : GoodIn wsX4_addDraft wsX3_add := goodIn_r _ [53, 49, 15, 54, 55, 62, 63, 64, 65, 66] (by decide +kernel) (by decide +kernel)
set_option maxRecDepth 20000 in
theorem gX4_addDraft_X3_add : GoodIn wsX4_addDraft (wsV RX4 141 RX3 yX3_add wsX3_add) := goodIn_app (goodIn_of _ (by decide +kernel)) ggX4_addDraft_X3_add
theorem dX4_addDraft_0 : decode cX4_addDraft 0 = .ok (.aload_n 0, 1) := by decide +kernel
theorem dX4_addDraft_1 : decode cX4_addDraft 1 = .ok (.getfield 21, 3) := by decide +kernel
theorem dX4_addDraft_4 : decode cX4_addDraft 4 = .ok (.getfield 116, 3) := by decide +kernel
theorem dX4_addDraft_7 : decode cX4_addDraft 7 = .ok (.bipush 16, 2) := by decide +kernel
theorem dX4_addDraft_9 : decode cX4_addDraft 9 = .ok (.if_icmp .lt 6, 3) := by decide +kernel
theorem dX4_addDraft_12 : decode cX4_addDraft 12 = .ok (.ldc 119, 2) := by decide +kernel
theorem dX4_addDraft_14 : decode cX4_addDraft 14 = .ok (.ireturn, 1) := by decide +kernel
theorem dX4_addDraft_15 : decode cX4_addDraft 15 = .ok (.iconst 0, 1) := by decide +kernel
theorem dX4_addDraft_16 : decode cX4_addDraft 16 = .ok (.istore_n 3, 1) := by decide +kernel
theorem dX4_addDraft_17 : decode cX4_addDraft 17 = .ok (.iload_n 3, 1) := by decide +kernel
theorem dX4_addDraft_18 : decode cX4_addDraft 18 = .ok (.bipush 6, 2) := by decide +kernel
theorem dX4_addDraft_20 : decode cX4_addDraft 20 = .ok (.if_icmp .ge 158, 3) := by decide +kernel
theorem dX4_addDraft_23 : decode cX4_addDraft 23 = .ok (.iload_n 3, 1) := by decide +kernel
theorem dX4_addDraft_24 : decode cX4_addDraft 24 = .ok (.bipush 8, 2) := by decide +kernel
theorem dX4_addDraft_26 : decode cX4_addDraft 26 = .ok (.imul, 1) := by decide +kernel
theorem dX4_addDraft_27 : decode cX4_addDraft 27 = .ok (.istore 4, 2) := by decide +kernel
theorem dX4_addDraft_29 : decode cX4_addDraft 29 = .ok (.aload_n 0, 1) := by decide +kernel
theorem dX4_addDraft_30 : decode cX4_addDraft 30 = .ok (.getfield 21, 3) := by decide +kernel
theorem dX4_addDraft_33 : decode cX4_addDraft 33 = .ok (.iload_n 2, 1) := by decide +kernel
theorem dX4_addDraft_34 : decode cX4_addDraft 34 = .ok (.iload_n 3, 1) := by decide +kernel
theorem dX4_addDraft_35 : decode cX4_addDraft 35 = .ok (.invokevirtual 64, 3) := by decide +kernel
theorem dX4_addDraft_38 : decode cX4_addDraft 38 = .ok (.istore 5, 2) := by decide +kernel
theorem dX4_addDraft_40 : decode cX4_addDraft 40 = .ok (.aload_n 0, 1) := by decide +kernel
theorem dX4_addDraft_41 : decode cX4_addDraft 41 = .ok (.getfield 12, 3) := by decide +kernel
theorem dX4_addDraft_44 : decode cX4_addDraft 44 = .ok (.iload 5, 2) := by decide +kernel
theorem dX4_addDraft_46 : decode cX4_addDraft 46 = .ok (.aload_n 0, 1) := by decide +kernel
theorem dX4_addDraft_47 : decode cX4_addDraft 47 = .ok (.getfield 29, 3) := by decide +kernel
theorem dX4_addDraft_50 : decode cX4_addDraft 50 = .ok (.iload 4, 2) := by decide +kernel
theorem dX4_addDraft_52 : decode cX4_addDraft 52 = .ok (.invokevirtual 120, 3) := by decide +kernel
theorem dX4_addDraft_55 : decode cX4_addDraft 55 = .ok (.ifCond .ne 77, 3) := by decide +kernel
theorem dX4_addDraft_58 : decode cX4_addDraft 58 = .ok (.aload_n 0, 1) := by decide +kernel
theorem dX4_addDraft_59 : decode cX4_addDraft 59 = .ok (.getfield 32, 3) := by decide +kernel
theorem dX4_addDraft_62 : decode cX4_addDraft 62 = .ok (.iconst 1, 1) := by decide +kernel
theorem dX4_addDraft_63 : decode cX4_addDraft 63 = .ok (.if_icmp .ne 19, 3) := by decide +kernel
theorem dX4_addDraft_66 : decode cX4_addDraft 66 = .ok (.aload_n 0, 1) := by decide +kernel
theorem dX4_addDraft_67 : decode cX4_addDraft 67 = .ok (.getfield 12, 3) := by decide +kernel
theorem dX4_addDraft_70 : decode cX4_addDraft 70 = .ok (.aload_n 0, 1) := by decide +kernel
theorem dX4_addDraft_71 : decode cX4_addDraft 71 = .ok (.getfield 29, 3) := by decide +kernel
theorem dX4_addDraft_74 : decode cX4_addDraft 74 = .ok (.iload 4, 2) := by decide +kernel
theorem dX4_addDraft_76 : decode cX4_addDraft 76 = .ok (.invokevirtual 124, 3) := by decide +kernel
theorem dX4_addDraft_79 : decode cX4_addDraft 79 = .ok (.goto 4, 3) := by decide +kernel
theorem dX4_addDraft_82 : decode cX4_addDraft 82 = .ok (.iconst (-1), 1) := by decide +kernel
theorem dX4_addDraft_83 : decode cX4_addDraft 83 = .ok (.istore 6, 2) := by decide +kernel
theorem dX4_addDraft_85 : decode cX4_addDraft 85 = .ok (.aload_n 0, 1) := by decide +kernel
theorem dX4_addDraft_86 : decode cX4_addDraft 86 = .ok (.getfield 12, 3) := by decide +kernel
theorem dX4_addDraft_89 : decode cX4_addDraft 89 = .ok (.dup, 1) := by decide +kernel
theorem dX4_addDraft_90 : decode cX4_addDraft 90 = .ok (.getfield 128, 3) := by decide +kernel
theorem dX4_addDraft_93 : decode cX4_addDraft 93 = .ok (.iload 6, 2) := by decide +kernel
theorem dX4_addDraft_95 : decode cX4_addDraft 95 = .ok (.ifCond .lt 7, 3) := by decide +kernel
theorem dX4_addDraft_98 : decode cX4_addDraft 98 = .ok (.iconst 1, 1) := by decide +kernel
theorem dX4_addDraft_99 : decode cX4_addDraft 99 = .ok (.goto 4, 3) := by decide +kernel
theorem dX4_addDraft_102 : decode cX4_addDraft 102 = .ok (.iconst 0, 1) := by decide +kernel
theorem dX4_addDraft_103 : decode cX4_addDraft 103 = .ok (.iadd, 1) := by decide +kernel
theorem dX4_addDraft_104 : decode cX4_addDraft 104 = .ok (.putfield 128, 3) := by decide +kernel
theorem dX4_addDraft_107 : decode cX4_addDraft 107 = .ok (.iload 6, 2) := by decide +kernel
theorem dX4_addDraft_109 : decode cX4_addDraft 109 = .ok (.ifCond .lt 8, 3) := by decide +kernel
theorem dX4_addDraft_112 : decode cX4_addDraft 112 = .ok (.iload 6, 2) := by decide +kernel
theorem dX4_addDraft_114 : decode cX4_addDraft 114 = .ok (.goto 16, 3) := by decide +kernel
theorem dX4_addDraft_117 : decode cX4_addDraft 117 = .ok (.aload_n 0, 1) := by decide +kernel
theorem dX4_addDraft_118 : decode cX4_addDraft 118 = .ok (.getfield 12, 3) := by decide +kernel
theorem dX4_addDraft_121 : decode cX4_addDraft 121 = .ok (.aload_n 0, 1) := by decide +kernel
theorem dX4_addDraft_122 : decode cX4_addDraft 122 = .ok (.getfield 29, 3) := by decide +kernel
theorem dX4_addDraft_125 : decode cX4_addDraft 125 = .ok (.iload 4, 2) := by decide +kernel
theorem dX4_addDraft_127 : decode cX4_addDraft 127 = .ok (.invokevirtual 131, 3) := by decide +kernel
theorem dX4_addDraft_130 : decode cX4_addDraft 130 = .ok (.istore 5, 2) := by decide +kernel
theorem dX4_addDraft_132 : decode cX4_addDraft 132 = .ok (.iload 5, 2) := by decide +kernel
theorem dX4_addDraft_134 : decode cX4_addDraft 134 = .ok (.ifCond .ge 6, 3) := by decide +kernel
theorem dX4_addDraft_137 : decode cX4_addDraft 137 = .ok (.ldc 119, 2) := by decide +kernel
theorem dX4_addDraft_139 : decode cX4_addDraft 139 = .ok (.ireturn, 1) := by decide +kernel
theorem dX4_addDraft_140 : decode cX4_addDraft 140 = .ok (.aload_n 0, 1) := by decide +kernel
theorem dX4_addDraft_141 : decode cX4_addDraft 141 = .ok (.getfield 12, 3) := by decide +kernel
theorem dX4_addDraft_144 : decode cX4_addDraft 144 = .ok (.iload 5, 2) := by decide +kernel
theorem dX4_addDraft_146 : decode cX4_addDraft 146 = .ok (.iconst 1, 1) := by decide +kernel
theorem dX4_addDraft_147 : decode cX4_addDraft 147 = .ok (.invokevirtual 134, 3) := by decide +kernel
theorem dX4_addDraft_150 : decode cX4_addDraft 150 = .ok (.aload_n 0, 1) := by decide +kernel
theorem dX4_addDraft_151 : decode cX4_addDraft 151 = .ok (.getfield 21, 3) := by decide +kernel
theorem dX4_addDraft_154 : decode cX4_addDraft 154 = .ok (.getfield 138, 3) := by decide +kernel
theorem dX4_addDraft_157 : decode cX4_addDraft 157 = .ok (.aload_n 0, 1) := by decide +kernel
theorem dX4_addDraft_158 : decode cX4_addDraft 158 = .ok (.getfield 21, 3) := by decide +kernel
theorem dX4_addDraft_161 : decode cX4_addDraft 161 = .ok (.getfield 116, 3) := by decide +kernel
theorem dX4_addDraft_164 : decode cX4_addDraft 164 = .ok (.bipush 6, 2) := by decide +kernel
theorem dX4_addDraft_166 : decode cX4_addDraft 166 = .ok (.imul, 1) := by decide +kernel
theorem dX4_addDraft_167 : decode cX4_addDraft 167 = .ok (.iload_n 3, 1) := by decide +kernel
theorem dX4_addDraft_168 : decode cX4_addDraft 168 = .ok (.iadd, 1) := by decide +kernel
theorem dX4_addDraft_169 : decode cX4_addDraft 169 = .ok (.iload 5, 2) := by decide +kernel
theorem dX4_addDraft_171 : decode cX4_addDraft 171 = .ok (.iastore, 1) := by decide +kernel
theorem dX4_addDraft_172 : decode cX4_addDraft 172 = .ok (.iinc 3 1, 3) := by decide +kernel
theorem dX4_addDraft_175 : decode cX4_addDraft 175 = .ok (.goto (-158), 3) := by decide +kernel
theorem dX4_addDraft_178 : decode cX4_addDraft 178 = .ok (.aload_n 0, 1) := by decide +kernel
theorem dX4_addDraft_179 : decode cX4_addDraft 179 = .ok (.getfield 25, 3) := by decide +kernel
theorem dX4_addDraft_182 : decode cX4_addDraft 182 = .ok (.iload_n 1, 1) := by decide +kernel
theorem dX4_addDraft_183 : decode cX4_addDraft 183 = .ok (.aload_n 0, 1) := by decide +kernel
theorem dX4_addDraft_184 : decode cX4_addDraft 184 = .ok (.getfield 21, 3) := by decide +kernel
theorem dX4_addDraft_187 : decode cX4_addDraft 187 = .ok (.aload_n 0, 1) := by decide +kernel
theorem dX4_addDraft_188 : decode cX4_addDraft 188 = .ok (.getfield 21, 3) := by decide +kernel
theorem dX4_addDraft_191 : decode cX4_addDraft 191 = .ok (.iload_n 2, 1) := by decide +kernel
theorem dX4_addDraft_192 : decode cX4_addDraft 192 = .ok (.invokevirtual 89, 3) := by decide +kernel
theorem dX4_addDraft_195 : decode cX4_addDraft 195 = .ok (.invokevirtual 141, 3) := by decide +kernel
theorem dX4_addDraft_198 : decode cX4_addDraft 198 = .ok (.iastore, 1) := by decide +kernel
theorem dX4_addDraft_199 : decode cX4_addDraft 199 = .ok (.aload_n 0, 1) := by decide +kernel
theorem dX4_addDraft_200 : decode cX4_addDraft 200 = .ok (.getfield 25, 3) := by decide +kernel
theorem dX4_addDraft_203 : decode cX4_addDraft 203 = .ok (.iload_n 1, 1) := by decide +kernel
theorem dX4_addDraft_204 : decode cX4_addDraft 204 = .ok (.iaload, 1) := by decide +kernel
theorem dX4_addDraft_205 : decode cX4_addDraft 205 = .ok (.ireturn, 1) := by decide +kernel
set_option maxRecDepth 20000 in
theorem ggX4_addBranch_X3_slotOf : GoodIn wsX4_addBranch wsX3_slotOf := goodIn_r _ [9, 10, 11, 18, 19, 20, 21, 22] (by decide +kernel) (by decide +kernel)
set_option maxRecDepth 20000 in
theorem gX4_addBranch_X3_slotOf : GoodIn wsX4_addBranch (wsV RX4 60 RX3 yX3_slotOf wsX3_slotOf) := goodIn_app (goodIn_of _ (by decide +kernel)) ggX4_addBranch_X3_slotOf
theorem dX4_addBranch_0 : decode cX4_addBranch 0 = .ok (.aload_n 0, 1) := by decide +kernel
theorem dX4_addBranch_1 : decode cX4_addBranch 1 = .ok (.getfield 21, 3) := by decide +kernel
theorem dX4_addBranch_4 : decode cX4_addBranch 4 = .ok (.iload_n 1, 1) := by decide +kernel
theorem dX4_addBranch_5 : decode cX4_addBranch 5 = .ok (.invokevirtual 60, 3) := by decide +kernel
theorem dX4_addBranch_8 : decode cX4_addBranch 8 = .ok (.ifCond .ge 6, 3) := by decide +kernel
theorem dX4_addBranch_11 : decode cX4_addBranch 11 = .ok (.ldc 101, 2) := by decide +kernel
theorem dX4_addBranch_13 : decode cX4_addBranch 13 = .ok (.ireturn, 1) := by decide +kernel
theorem dX4_addBranch_14 : decode cX4_addBranch 14 = .ok (.iconst 0, 1) := by decide +kernel
theorem dX4_addBranch_15 : decode cX4_addBranch 15 = .ok (.istore_n 2, 1) := by decide +kernel
theorem dX4_addBranch_16 : decode cX4_addBranch 16 = .ok (.iload_n 2, 1) := by decide +kernel
theorem dX4_addBranch_17 : decode cX4_addBranch 17 = .ok (.iconst 4, 1) := by decide +kernel
theorem dX4_addBranch_18 : decode cX4_addBranch 18 = .ok (.if_icmp .ge 28, 3) := by decide +kernel
theorem dX4_addBranch_21 : decode cX4_addBranch 21 = .ok (.aload_n 0, 1) := by decide +kernel
theorem dX4_addBranch_22 : decode cX4_addBranch 22 = .ok (.getfield 25, 3) := by decide +kernel
theorem dX4_addBranch_25 : decode cX4_addBranch 25 = .ok (.iload_n 2, 1) := by decide +kernel
theorem dX4_addBranch_26 : decode cX4_addBranch 26 = .ok (.iaload, 1) := by decide +kernel
theorem dX4_addBranch_27 : decode cX4_addBranch 27 = .ok (.iconst (-1), 1) := by decide +kernel
theorem dX4_addBranch_28 : decode cX4_addBranch 28 = .ok (.if_icmp .ne 12, 3) := by decide +kernel
theorem dX4_addBranch_31 : decode cX4_addBranch 31 = .ok (.aload_n 0, 1) := by decide +kernel
theorem dX4_addBranch_32 : decode cX4_addBranch 32 = .ok (.getfield 25, 3) := by decide +kernel
theorem dX4_addBranch_35 : decode cX4_addBranch 35 = .ok (.iload_n 2, 1) := by decide +kernel
theorem dX4_addBranch_36 : decode cX4_addBranch 36 = .ok (.iload_n 1, 1) := by decide +kernel
theorem dX4_addBranch_37 : decode cX4_addBranch 37 = .ok (.iastore, 1) := by decide +kernel
theorem dX4_addBranch_38 : decode cX4_addBranch 38 = .ok (.iload_n 2, 1) := by decide +kernel
theorem dX4_addBranch_39 : decode cX4_addBranch 39 = .ok (.ireturn, 1) := by decide +kernel
theorem dX4_addBranch_40 : decode cX4_addBranch 40 = .ok (.iinc 2 1, 3) := by decide +kernel
theorem dX4_addBranch_43 : decode cX4_addBranch 43 = .ok (.goto (-27), 3) := by decide +kernel
theorem dX4_addBranch_46 : decode cX4_addBranch 46 = .ok (.ldc 119, 2) := by decide +kernel
theorem dX4_addBranch_48 : decode cX4_addBranch 48 = .ok (.ireturn, 1) := by decide +kernel
set_option maxRecDepth 20000 in
theorem ggX4_dropBranch_X4_isBranch : GoodIn wsX4_dropBranch wsX4_isBranch := goodIn_r _ [8, 3, 9, 10, 11, 16, 17, 18, 19, 20, 21] (by decide +kernel) (by decide +kernel)
set_option maxRecDepth 20000 in
theorem gX4_dropBranch_X4_isBranch : GoodIn wsX4_dropBranch (wsV RX4 56 RX4 yX4_isBranch wsX4_isBranch) := goodIn_app (goodIn_of _ (by decide +kernel)) ggX4_dropBranch_X4_isBranch
set_option maxRecDepth 20000 in
theorem ggX4_dropBranch_X4_branchesThere : GoodIn wsX4_dropBranch wsX4_branchesThere := goodIn_r _ [15, 3, 16, 17, 18, 19, 20, 21] (by decide +kernel) (by decide +kernel)
set_option maxRecDepth 20000 in
theorem gX4_dropBranch_X4_branchesThere : GoodIn wsX4_dropBranch (wsV RX4 144 RX4 yX4_branchesThere wsX4_branchesThere) := goodIn_app (goodIn_of _ (by decide +kernel)) ggX4_dropBranch_X4_branchesThere
theorem dX4_dropBranch_0 : decode cX4_dropBranch 0 = .ok (.aload_n 0, 1) := by decide +kernel
theorem dX4_dropBranch_1 : decode cX4_dropBranch 1 = .ok (.iload_n 1, 1) := by decide +kernel
theorem dX4_dropBranch_2 : decode cX4_dropBranch 2 = .ok (.invokevirtual 56, 3) := by decide +kernel
theorem dX4_dropBranch_5 : decode cX4_dropBranch 5 = .ok (.ifCond .ne 6, 3) := by decide +kernel
theorem dX4_dropBranch_8 : decode cX4_dropBranch 8 = .ok (.ldc 101, 2) := by decide +kernel
theorem dX4_dropBranch_10 : decode cX4_dropBranch 10 = .ok (.ireturn, 1) := by decide +kernel
theorem dX4_dropBranch_11 : decode cX4_dropBranch 11 = .ok (.aload_n 0, 1) := by decide +kernel
theorem dX4_dropBranch_12 : decode cX4_dropBranch 12 = .ok (.invokevirtual 144, 3) := by decide +kernel
theorem dX4_dropBranch_15 : decode cX4_dropBranch 15 = .ok (.iconst 1, 1) := by decide +kernel
theorem dX4_dropBranch_16 : decode cX4_dropBranch 16 = .ok (.if_icmp .ne 6, 3) := by decide +kernel
theorem dX4_dropBranch_19 : decode cX4_dropBranch 19 = .ok (.ldc 148, 2) := by decide +kernel
theorem dX4_dropBranch_21 : decode cX4_dropBranch 21 = .ok (.ireturn, 1) := by decide +kernel
theorem dX4_dropBranch_22 : decode cX4_dropBranch 22 = .ok (.aload_n 0, 1) := by decide +kernel
theorem dX4_dropBranch_23 : decode cX4_dropBranch 23 = .ok (.getfield 25, 3) := by decide +kernel
theorem dX4_dropBranch_26 : decode cX4_dropBranch 26 = .ok (.iload_n 1, 1) := by decide +kernel
theorem dX4_dropBranch_27 : decode cX4_dropBranch 27 = .ok (.iconst (-1), 1) := by decide +kernel
theorem dX4_dropBranch_28 : decode cX4_dropBranch 28 = .ok (.iastore, 1) := by decide +kernel
theorem dX4_dropBranch_29 : decode cX4_dropBranch 29 = .ok (.aload_n 0, 1) := by decide +kernel
theorem dX4_dropBranch_30 : decode cX4_dropBranch 30 = .ok (.invokevirtual 144, 3) := by decide +kernel
theorem dX4_dropBranch_33 : decode cX4_dropBranch 33 = .ok (.ireturn, 1) := by decide +kernel
set_option maxRecDepth 20000 in
theorem ggX4_stepBack_X4_headSlot : GoodIn wsX4_stepBack wsX4_headSlot := goodIn_r _ [9, 4, 3, 10, 11, 12, 8, 13, 14, 15, 16, 17, 18, 19, 20, 21, 22, 23, 29, 30, 31, 32, 33, 34, 35, 36, 37, 38, 39] (by decide +kernel) (by decide +kernel)
set_option maxRecDepth 20000 in
theorem gX4_stepBack_X4_headSlot : GoodIn wsX4_stepBack (wsV RX4 95 RX4 yX4_headSlot wsX4_headSlot) := goodIn_app (goodIn_of _ (by decide +kernel)) ggX4_stepBack_X4_headSlot
set_option maxRecDepth 20000 in
theorem ggX4_stepBack_X3_parentOf : GoodIn wsX4_stepBack wsX3_parentOf := goodIn_r _ [27, 22, 28, 35, 36, 37, 38, 39] (by decide +kernel) (by decide +kernel)
set_option maxRecDepth 20000 in
theorem gX4_stepBack_X3_parentOf : GoodIn wsX4_stepBack (wsV RX4 149 RX3 yX3_parentOf wsX3_parentOf) := goodIn_app (goodIn_of _ (by decide +kernel)) ggX4_stepBack_X3_parentOf
theorem dX4_stepBack_0 : decode cX4_stepBack 0 = .ok (.aload_n 0, 1) := by decide +kernel
theorem dX4_stepBack_1 : decode cX4_stepBack 1 = .ok (.iload_n 1, 1) := by decide +kernel
theorem dX4_stepBack_2 : decode cX4_stepBack 2 = .ok (.invokevirtual 95, 3) := by decide +kernel
theorem dX4_stepBack_5 : decode cX4_stepBack 5 = .ok (.istore_n 2, 1) := by decide +kernel
theorem dX4_stepBack_6 : decode cX4_stepBack 6 = .ok (.iload_n 2, 1) := by decide +kernel
theorem dX4_stepBack_7 : decode cX4_stepBack 7 = .ok (.ifCond .ge 6, 3) := by decide +kernel
theorem dX4_stepBack_10 : decode cX4_stepBack 10 = .ok (.ldc 101, 2) := by decide +kernel
theorem dX4_stepBack_12 : decode cX4_stepBack 12 = .ok (.ireturn, 1) := by decide +kernel
theorem dX4_stepBack_13 : decode cX4_stepBack 13 = .ok (.iload_n 2, 1) := by decide +kernel
theorem dX4_stepBack_14 : decode cX4_stepBack 14 = .ok (.ifCond .ne 6, 3) := by decide +kernel
theorem dX4_stepBack_17 : decode cX4_stepBack 17 = .ok (.ldc 148, 2) := by decide +kernel
theorem dX4_stepBack_19 : decode cX4_stepBack 19 = .ok (.ireturn, 1) := by decide +kernel
theorem dX4_stepBack_20 : decode cX4_stepBack 20 = .ok (.aload_n 0, 1) := by decide +kernel
theorem dX4_stepBack_21 : decode cX4_stepBack 21 = .ok (.getfield 25, 3) := by decide +kernel
theorem dX4_stepBack_24 : decode cX4_stepBack 24 = .ok (.iload_n 1, 1) := by decide +kernel
theorem dX4_stepBack_25 : decode cX4_stepBack 25 = .ok (.aload_n 0, 1) := by decide +kernel
theorem dX4_stepBack_26 : decode cX4_stepBack 26 = .ok (.getfield 21, 3) := by decide +kernel
theorem dX4_stepBack_29 : decode cX4_stepBack 29 = .ok (.iload_n 2, 1) := by decide +kernel
theorem dX4_stepBack_30 : decode cX4_stepBack 30 = .ok (.invokevirtual 149, 3) := by decide +kernel
theorem dX4_stepBack_33 : decode cX4_stepBack 33 = .ok (.iastore, 1) := by decide +kernel
theorem dX4_stepBack_34 : decode cX4_stepBack 34 = .ok (.aload_n 0, 1) := by decide +kernel
theorem dX4_stepBack_35 : decode cX4_stepBack 35 = .ok (.getfield 25, 3) := by decide +kernel
theorem dX4_stepBack_38 : decode cX4_stepBack 38 = .ok (.iload_n 1, 1) := by decide +kernel
theorem dX4_stepBack_39 : decode cX4_stepBack 39 = .ok (.iaload, 1) := by decide +kernel
theorem dX4_stepBack_40 : decode cX4_stepBack 40 = .ok (.ireturn, 1) := by decide +kernel
set_option maxRecDepth 20000 in
theorem ggX4_forgetState_X3_slotOf : GoodIn wsX4_forgetState wsX3_slotOf := goodIn_r _ [9, 10, 11, 63, 64, 65, 66, 67] (by decide +kernel) (by decide +kernel)
set_option maxRecDepth 20000 in
theorem gX4_forgetState_X3_slotOf : GoodIn wsX4_forgetState (wsV RX4 60 RX3 yX3_slotOf wsX3_slotOf) := goodIn_app (goodIn_of _ (by decide +kernel)) ggX4_forgetState_X3_slotOf
set_option maxRecDepth 20000 in
theorem ggX4_forgetState_X4_canForget : GoodIn wsX4_forgetState wsX4_canForget := goodIn_r _ [16, 1, 17, 18, 19, 8, 20, 10, 11, 21, 22, 23, 15, 24, 25, 57, 58, 59, 60, 61, 62, 63, 64, 65, 66, 67] (by decide +kernel) (by decide +kernel)
set_option maxRecDepth 20000 in
theorem gX4_forgetState_X4_canForget : GoodIn wsX4_forgetState (wsV RX4 152 RX4 yX4_canForget wsX4_canForget) := goodIn_app (goodIn_of _ (by decide +kernel)) ggX4_forgetState_X4_canForget
set_option maxRecDepth 20000 in
theorem ggX4_forgetState_X0_there : GoodIn wsX4_forgetState wsX0_there := goodIn_r _ [30, 31, 32, 33, 29, 34, 35, 68, 69, 70, 71] (by decide +kernel) (by decide +kernel)
set_option maxRecDepth 20000 in
theorem gX4_forgetState_X0_there : GoodIn wsX4_forgetState (wsV RX4 155 RX0 yX0_there wsX0_there) := goodIn_app (goodIn_of _ (by decide +kernel)) ggX4_forgetState_X0_there
set_option maxRecDepth 20000 in
theorem ggX4_forgetState_X3_block : GoodIn wsX4_forgetState wsX3_block := goodIn_r _ [39, 10, 40, 63, 64, 65, 66, 67] (by decide +kernel) (by decide +kernel)
set_option maxRecDepth 20000 in
theorem gX4_forgetState_X3_block : GoodIn wsX4_forgetState (wsV RX4 64 RX3 yX3_block wsX3_block) := goodIn_app (goodIn_of _ (by decide +kernel)) ggX4_forgetState_X3_block
set_option maxRecDepth 20000 in
theorem ggX4_forgetState_X0_addUses : GoodIn wsX4_forgetState wsX0_addUses := goodIn_r _ [44, 35, 45, 46, 47, 68, 69, 70, 71] (by decide +kernel) (by decide +kernel)
set_option maxRecDepth 20000 in
theorem gX4_forgetState_X0_addUses : GoodIn wsX4_forgetState (wsV RX4 134 RX0 yX0_addUses wsX0_addUses) := goodIn_app (goodIn_of _ (by decide +kernel)) ggX4_forgetState_X0_addUses
set_option maxRecDepth 20000 in
theorem ggX4_forgetState_X3_remove : GoodIn wsX4_forgetState wsX3_remove := goodIn_r _ [51, 10, 52, 11, 53, 54, 55, 56, 40, 45, 46, 47, 63, 64, 65, 66, 67] (by decide +kernel) (by decide +kernel)
set_option maxRecDepth 20000 in
theorem gX4_forgetState_X3_remove : GoodIn wsX4_forgetState (wsV RX4 158 RX3 yX3_remove wsX3_remove) := goodIn_app (goodIn_of _ (by decide +kernel)) ggX4_forgetState_X3_remove
theorem dX4_forgetState_0 : decode cX4_forgetState 0 = .ok (.aload_n 0, 1) := by decide +kernel
theorem dX4_forgetState_1 : decode cX4_forgetState 1 = .ok (.getfield 21, 3) := by decide +kernel
theorem dX4_forgetState_4 : decode cX4_forgetState 4 = .ok (.iload_n 1, 1) := by decide +kernel
theorem dX4_forgetState_5 : decode cX4_forgetState 5 = .ok (.invokevirtual 60, 3) := by decide +kernel
theorem dX4_forgetState_8 : decode cX4_forgetState 8 = .ok (.istore_n 2, 1) := by decide +kernel
theorem dX4_forgetState_9 : decode cX4_forgetState 9 = .ok (.iload_n 2, 1) := by decide +kernel
theorem dX4_forgetState_10 : decode cX4_forgetState 10 = .ok (.ifCond .ge 6, 3) := by decide +kernel
theorem dX4_forgetState_13 : decode cX4_forgetState 13 = .ok (.ldc 101, 2) := by decide +kernel
theorem dX4_forgetState_15 : decode cX4_forgetState 15 = .ok (.ireturn, 1) := by decide +kernel
theorem dX4_forgetState_16 : decode cX4_forgetState 16 = .ok (.aload_n 0, 1) := by decide +kernel
theorem dX4_forgetState_17 : decode cX4_forgetState 17 = .ok (.iload_n 2, 1) := by decide +kernel
theorem dX4_forgetState_18 : decode cX4_forgetState 18 = .ok (.invokevirtual 152, 3) := by decide +kernel
theorem dX4_forgetState_21 : decode cX4_forgetState 21 = .ok (.ifCond .ne 6, 3) := by decide +kernel
theorem dX4_forgetState_24 : decode cX4_forgetState 24 = .ok (.ldc 148, 2) := by decide +kernel
theorem dX4_forgetState_26 : decode cX4_forgetState 26 = .ok (.ireturn, 1) := by decide +kernel
theorem dX4_forgetState_27 : decode cX4_forgetState 27 = .ok (.aload_n 0, 1) := by decide +kernel
theorem dX4_forgetState_28 : decode cX4_forgetState 28 = .ok (.getfield 12, 3) := by decide +kernel
theorem dX4_forgetState_31 : decode cX4_forgetState 31 = .ok (.invokevirtual 155, 3) := by decide +kernel
theorem dX4_forgetState_34 : decode cX4_forgetState 34 = .ok (.istore_n 3, 1) := by decide +kernel
theorem dX4_forgetState_35 : decode cX4_forgetState 35 = .ok (.iconst 0, 1) := by decide +kernel
theorem dX4_forgetState_36 : decode cX4_forgetState 36 = .ok (.istore 4, 2) := by decide +kernel
theorem dX4_forgetState_38 : decode cX4_forgetState 38 = .ok (.iload 4, 2) := by decide +kernel
theorem dX4_forgetState_40 : decode cX4_forgetState 40 = .ok (.bipush 6, 2) := by decide +kernel
theorem dX4_forgetState_42 : decode cX4_forgetState 42 = .ok (.if_icmp .ge 27, 3) := by decide +kernel
theorem dX4_forgetState_45 : decode cX4_forgetState 45 = .ok (.aload_n 0, 1) := by decide +kernel
theorem dX4_forgetState_46 : decode cX4_forgetState 46 = .ok (.getfield 12, 3) := by decide +kernel
theorem dX4_forgetState_49 : decode cX4_forgetState 49 = .ok (.aload_n 0, 1) := by decide +kernel
theorem dX4_forgetState_50 : decode cX4_forgetState 50 = .ok (.getfield 21, 3) := by decide +kernel
theorem dX4_forgetState_53 : decode cX4_forgetState 53 = .ok (.iload_n 2, 1) := by decide +kernel
theorem dX4_forgetState_54 : decode cX4_forgetState 54 = .ok (.iload 4, 2) := by decide +kernel
theorem dX4_forgetState_56 : decode cX4_forgetState 56 = .ok (.invokevirtual 64, 3) := by decide +kernel
theorem dX4_forgetState_59 : decode cX4_forgetState 59 = .ok (.iconst (-1), 1) := by decide +kernel
theorem dX4_forgetState_60 : decode cX4_forgetState 60 = .ok (.invokevirtual 134, 3) := by decide +kernel
theorem dX4_forgetState_63 : decode cX4_forgetState 63 = .ok (.iinc 4 1, 3) := by decide +kernel
theorem dX4_forgetState_66 : decode cX4_forgetState 66 = .ok (.goto (-28), 3) := by decide +kernel
theorem dX4_forgetState_69 : decode cX4_forgetState 69 = .ok (.aload_n 0, 1) := by decide +kernel
theorem dX4_forgetState_70 : decode cX4_forgetState 70 = .ok (.getfield 21, 3) := by decide +kernel
theorem dX4_forgetState_73 : decode cX4_forgetState 73 = .ok (.iload_n 2, 1) := by decide +kernel
theorem dX4_forgetState_74 : decode cX4_forgetState 74 = .ok (.invokevirtual 158, 3) := by decide +kernel
theorem dX4_forgetState_77 : decode cX4_forgetState 77 = .ok (.iload_n 3, 1) := by decide +kernel
theorem dX4_forgetState_78 : decode cX4_forgetState 78 = .ok (.aload_n 0, 1) := by decide +kernel
theorem dX4_forgetState_79 : decode cX4_forgetState 79 = .ok (.getfield 12, 3) := by decide +kernel
theorem dX4_forgetState_82 : decode cX4_forgetState 82 = .ok (.invokevirtual 155, 3) := by decide +kernel
theorem dX4_forgetState_85 : decode cX4_forgetState 85 = .ok (.isub, 1) := by decide +kernel
theorem dX4_forgetState_86 : decode cX4_forgetState 86 = .ok (.ireturn, 1) := by decide +kernel
set_option maxRecDepth 20000 in
theorem ggX4_shareBlocks_X0_there : GoodIn wsX4_shareBlocks wsX0_there := goodIn_r _ [10, 11, 12, 13, 9, 14, 15, 43, 44, 45, 46] (by decide +kernel) (by decide +kernel)
set_option maxRecDepth 20000 in
theorem gX4_shareBlocks_X0_there : GoodIn wsX4_shareBlocks (wsV RX4 155 RX0 yX0_there wsX0_there) := goodIn_app (goodIn_of _ (by decide +kernel)) ggX4_shareBlocks_X0_there
set_option maxRecDepth 20000 in
theorem ggX4_shareBlocks_X0_lowestHolding : GoodIn wsX4_shareBlocks wsX0_lowestHolding := goodIn_r _ [19, 20, 21, 22, 9, 23, 15, 24, 43, 44, 45, 46] (by decide +kernel) (by decide +kernel)
set_option maxRecDepth 20000 in
theorem gX4_shareBlocks_X0_lowestHolding : GoodIn wsX4_shareBlocks (wsV RX4 124 RX0 yX0_lowestHolding wsX0_lowestHolding) := goodIn_app (goodIn_of _ (by decide +kernel)) ggX4_shareBlocks_X0_lowestHolding
set_option maxRecDepth 20000 in
theorem ggX4_shareBlocks_X0_addUses : GoodIn wsX4_shareBlocks wsX0_addUses := goodIn_r _ [28, 15, 29, 30, 31, 43, 44, 45, 46] (by decide +kernel) (by decide +kernel)
set_option maxRecDepth 20000 in
theorem gX4_shareBlocks_X0_addUses : GoodIn wsX4_shareBlocks (wsV RX4 134 RX0 yX0_addUses wsX0_addUses) := goodIn_app (goodIn_of _ (by decide +kernel)) ggX4_shareBlocks_X0_addUses
theorem dX4_shareBlocks_0 : decode cX4_shareBlocks 0 = .ok (.aload_n 0, 1) := by decide +kernel
theorem dX4_shareBlocks_1 : decode cX4_shareBlocks 1 = .ok (.getfield 12, 3) := by decide +kernel
theorem dX4_shareBlocks_4 : decode cX4_shareBlocks 4 = .ok (.invokevirtual 155, 3) := by decide +kernel
theorem dX4_shareBlocks_7 : decode cX4_shareBlocks 7 = .ok (.istore_n 1, 1) := by decide +kernel
theorem dX4_shareBlocks_8 : decode cX4_shareBlocks 8 = .ok (.iconst 0, 1) := by decide +kernel
theorem dX4_shareBlocks_9 : decode cX4_shareBlocks 9 = .ok (.istore_n 2, 1) := by decide +kernel
theorem dX4_shareBlocks_10 : decode cX4_shareBlocks 10 = .ok (.iload_n 2, 1) := by decide +kernel
theorem dX4_shareBlocks_11 : decode cX4_shareBlocks 11 = .ok (.aload_n 0, 1) := by decide +kernel
theorem dX4_shareBlocks_12 : decode cX4_shareBlocks 12 = .ok (.getfield 21, 3) := by decide +kernel
theorem dX4_shareBlocks_15 : decode cX4_shareBlocks 15 = .ok (.getfield 116, 3) := by decide +kernel
theorem dX4_shareBlocks_18 : decode cX4_shareBlocks 18 = .ok (.bipush 6, 2) := by decide +kernel
theorem dX4_shareBlocks_20 : decode cX4_shareBlocks 20 = .ok (.imul, 1) := by decide +kernel
theorem dX4_shareBlocks_21 : decode cX4_shareBlocks 21 = .ok (.if_icmp .ge 80, 3) := by decide +kernel
theorem dX4_shareBlocks_24 : decode cX4_shareBlocks 24 = .ok (.aload_n 0, 1) := by decide +kernel
theorem dX4_shareBlocks_25 : decode cX4_shareBlocks 25 = .ok (.getfield 21, 3) := by decide +kernel
theorem dX4_shareBlocks_28 : decode cX4_shareBlocks 28 = .ok (.getfield 138, 3) := by decide +kernel
theorem dX4_shareBlocks_31 : decode cX4_shareBlocks 31 = .ok (.iload_n 2, 1) := by decide +kernel
theorem dX4_shareBlocks_32 : decode cX4_shareBlocks 32 = .ok (.iaload, 1) := by decide +kernel
theorem dX4_shareBlocks_33 : decode cX4_shareBlocks 33 = .ok (.istore_n 3, 1) := by decide +kernel
theorem dX4_shareBlocks_34 : decode cX4_shareBlocks 34 = .ok (.aload_n 0, 1) := by decide +kernel
theorem dX4_shareBlocks_35 : decode cX4_shareBlocks 35 = .ok (.getfield 12, 3) := by decide +kernel
theorem dX4_shareBlocks_38 : decode cX4_shareBlocks 38 = .ok (.aload_n 0, 1) := by decide +kernel
theorem dX4_shareBlocks_39 : decode cX4_shareBlocks 39 = .ok (.getfield 12, 3) := by decide +kernel
theorem dX4_shareBlocks_42 : decode cX4_shareBlocks 42 = .ok (.getfield 161, 3) := by decide +kernel
theorem dX4_shareBlocks_45 : decode cX4_shareBlocks 45 = .ok (.iload_n 3, 1) := by decide +kernel
theorem dX4_shareBlocks_46 : decode cX4_shareBlocks 46 = .ok (.bipush 8, 2) := by decide +kernel
theorem dX4_shareBlocks_48 : decode cX4_shareBlocks 48 = .ok (.imul, 1) := by decide +kernel
theorem dX4_shareBlocks_49 : decode cX4_shareBlocks 49 = .ok (.invokevirtual 124, 3) := by decide +kernel
theorem dX4_shareBlocks_52 : decode cX4_shareBlocks 52 = .ok (.istore 4, 2) := by decide +kernel
theorem dX4_shareBlocks_54 : decode cX4_shareBlocks 54 = .ok (.iload 4, 2) := by decide +kernel
theorem dX4_shareBlocks_56 : decode cX4_shareBlocks 56 = .ok (.ifCond .lt 39, 3) := by decide +kernel
theorem dX4_shareBlocks_59 : decode cX4_shareBlocks 59 = .ok (.iload 4, 2) := by decide +kernel
theorem dX4_shareBlocks_61 : decode cX4_shareBlocks 61 = .ok (.iload_n 3, 1) := by decide +kernel
theorem dX4_shareBlocks_62 : decode cX4_shareBlocks 62 = .ok (.if_icmp .ge 33, 3) := by decide +kernel
theorem dX4_shareBlocks_65 : decode cX4_shareBlocks 65 = .ok (.aload_n 0, 1) := by decide +kernel
theorem dX4_shareBlocks_66 : decode cX4_shareBlocks 66 = .ok (.getfield 12, 3) := by decide +kernel
theorem dX4_shareBlocks_69 : decode cX4_shareBlocks 69 = .ok (.iload_n 3, 1) := by decide +kernel
theorem dX4_shareBlocks_70 : decode cX4_shareBlocks 70 = .ok (.iconst (-1), 1) := by decide +kernel
theorem dX4_shareBlocks_71 : decode cX4_shareBlocks 71 = .ok (.invokevirtual 134, 3) := by decide +kernel
theorem dX4_shareBlocks_74 : decode cX4_shareBlocks 74 = .ok (.aload_n 0, 1) := by decide +kernel
theorem dX4_shareBlocks_75 : decode cX4_shareBlocks 75 = .ok (.getfield 12, 3) := by decide +kernel
theorem dX4_shareBlocks_78 : decode cX4_shareBlocks 78 = .ok (.iload 4, 2) := by decide +kernel
theorem dX4_shareBlocks_80 : decode cX4_shareBlocks 80 = .ok (.iconst 1, 1) := by decide +kernel
theorem dX4_shareBlocks_81 : decode cX4_shareBlocks 81 = .ok (.invokevirtual 134, 3) := by decide +kernel
theorem dX4_shareBlocks_84 : decode cX4_shareBlocks 84 = .ok (.aload_n 0, 1) := by decide +kernel
theorem dX4_shareBlocks_85 : decode cX4_shareBlocks 85 = .ok (.getfield 21, 3) := by decide +kernel
theorem dX4_shareBlocks_88 : decode cX4_shareBlocks 88 = .ok (.getfield 138, 3) := by decide +kernel
theorem dX4_shareBlocks_91 : decode cX4_shareBlocks 91 = .ok (.iload_n 2, 1) := by decide +kernel
theorem dX4_shareBlocks_92 : decode cX4_shareBlocks 92 = .ok (.iload 4, 2) := by decide +kernel
theorem dX4_shareBlocks_94 : decode cX4_shareBlocks 94 = .ok (.iastore, 1) := by decide +kernel
theorem dX4_shareBlocks_95 : decode cX4_shareBlocks 95 = .ok (.iinc 2 1, 3) := by decide +kernel
theorem dX4_shareBlocks_98 : decode cX4_shareBlocks 98 = .ok (.goto (-88), 3) := by decide +kernel
theorem dX4_shareBlocks_101 : decode cX4_shareBlocks 101 = .ok (.iload_n 1, 1) := by decide +kernel
theorem dX4_shareBlocks_102 : decode cX4_shareBlocks 102 = .ok (.aload_n 0, 1) := by decide +kernel
theorem dX4_shareBlocks_103 : decode cX4_shareBlocks 103 = .ok (.getfield 12, 3) := by decide +kernel
theorem dX4_shareBlocks_106 : decode cX4_shareBlocks 106 = .ok (.invokevirtual 155, 3) := by decide +kernel
theorem dX4_shareBlocks_109 : decode cX4_shareBlocks 109 = .ok (.isub, 1) := by decide +kernel
theorem dX4_shareBlocks_110 : decode cX4_shareBlocks 110 = .ok (.ireturn, 1) := by decide +kernel
set_option maxRecDepth 20000 in
theorem ggX4_changeSetting_X5_isIndex : GoodIn wsX4_changeSetting wsX5_isIndex := goodIn_r _ [5] (by decide +kernel) (by decide +kernel)
set_option maxRecDepth 20000 in
theorem gX4_changeSetting_X5_isIndex_n52 : GoodIn wsX4_changeSetting (wsX5_isIndex) := ggX4_changeSetting_X5_isIndex
theorem dX4_changeSetting_0 : decode cX4_changeSetting 0 = .ok (.iload_n 1, 1) := by decide +kernel
theorem dX4_changeSetting_1 : decode cX4_changeSetting 1 = .ok (.ifCond .ne 11, 3) := by decide +kernel
theorem dX4_changeSetting_4 : decode cX4_changeSetting 4 = .ok (.iload_n 2, 1) := by decide +kernel
theorem dX4_changeSetting_5 : decode cX4_changeSetting 5 = .ok (.iconst 2, 1) := by decide +kernel
theorem dX4_changeSetting_6 : decode cX4_changeSetting 6 = .ok (.invokestatic 52, 3) := by decide +kernel
theorem dX4_changeSetting_9 : decode cX4_changeSetting 9 = .ok (.ifCond .ne 6, 3) := by decide +kernel
theorem dX4_changeSetting_12 : decode cX4_changeSetting 12 = .ok (.ldc 101, 2) := by decide +kernel
theorem dX4_changeSetting_14 : decode cX4_changeSetting 14 = .ok (.ireturn, 1) := by decide +kernel
theorem dX4_changeSetting_15 : decode cX4_changeSetting 15 = .ok (.aload_n 0, 1) := by decide +kernel
theorem dX4_changeSetting_16 : decode cX4_changeSetting 16 = .ok (.getfield 32, 3) := by decide +kernel
theorem dX4_changeSetting_19 : decode cX4_changeSetting 19 = .ok (.istore_n 3, 1) := by decide +kernel
theorem dX4_changeSetting_20 : decode cX4_changeSetting 20 = .ok (.aload_n 0, 1) := by decide +kernel
theorem dX4_changeSetting_21 : decode cX4_changeSetting 21 = .ok (.iload_n 2, 1) := by decide +kernel
theorem dX4_changeSetting_22 : decode cX4_changeSetting 22 = .ok (.putfield 32, 3) := by decide +kernel
theorem dX4_changeSetting_25 : decode cX4_changeSetting 25 = .ok (.iload_n 3, 1) := by decide +kernel
theorem dX4_changeSetting_26 : decode cX4_changeSetting 26 = .ok (.ireturn, 1) := by decide +kernel
set_option maxRecDepth 20000 in
theorem ggX5_init_X4_init : GoodIn wsX5_init wsX4_init := goodIn_r _ [19, 20, 2, 3, 21, 22, 23, 24, 25, 26, 27, 28, 29, 30, 31, 32, 33, 34, 35, 36, 37, 38, 39, 40, 41, 42, 43, 44, 45, 46, 47, 48, 49, 50, 92, 93, 94, 95, 71, 72, 73, 74, 75, 76, 96, 97, 98, 99, 100] (by decide +kernel) (by decide +kernel)
set_option maxRecDepth 20000 in
theorem gX5_init_X4_init : GoodIn wsX5_init (wsX4_init) := ggX5_init_X4_init
set_option maxRecDepth 20000 in
theorem ggX5_init_X1_init : GoodIn wsX5_init wsX1_init := goodIn_r _ [53, 54, 2, 3, 55, 56, 57, 58, 5, 6, 59, 18, 19, 20, 21, 22, 23, 24, 25, 26, 27, 28, 29, 30, 31, 32, 33, 34, 35, 36, 37, 38, 39, 40, 41, 42, 43, 44, 45, 46, 47, 48, 49, 50, 81, 82, 83, 71, 72, 73, 74, 75, 76, 92, 93, 94, 95, 96, 97, 98, 99, 100] (by decide +kernel) (by decide +kernel)
set_option maxRecDepth 20000 in
theorem gX5_init_X1_init : GoodIn wsX5_init (wsX1_init) := ggX5_init_X1_init
set_option maxRecDepth 20000 in
theorem ggX5_init_X2_init : GoodIn wsX5_init wsX2_init := goodIn_r _ [61, 62, 2, 3, 29, 63, 64, 65, 66, 67, 68, 69, 70, 84, 85, 86, 87, 88, 89, 90, 91] (by decide +kernel) (by decide +kernel)
set_option maxRecDepth 20000 in
theorem gX5_init_X2_init_n28 : GoodIn wsX5_init (wsX2_init) := ggX5_init_X2_init
theorem dX5_init_0 : decode cX5_init 0 = .ok (.aload_n 0, 1) := by decide +kernel
theorem dX5_init_1 : decode cX5_init 1 = .ok (.invokespecial 1, 3) := by decide +kernel
theorem dX5_init_4 : decode cX5_init 4 = .ok (.aload_n 0, 1) := by decide +kernel
theorem dX5_init_5 : decode cX5_init 5 = .ok (.new 7, 3) := by decide +kernel
theorem dX5_init_8 : decode cX5_init 8 = .ok (.dup, 1) := by decide +kernel
theorem dX5_init_9 : decode cX5_init 9 = .ok (.invokespecial 9, 3) := by decide +kernel
theorem dX5_init_12 : decode cX5_init 12 = .ok (.putfield 10, 3) := by decide +kernel
theorem dX5_init_15 : decode cX5_init 15 = .ok (.aload_n 0, 1) := by decide +kernel
theorem dX5_init_16 : decode cX5_init 16 = .ok (.new 7, 3) := by decide +kernel
theorem dX5_init_19 : decode cX5_init 19 = .ok (.dup, 1) := by decide +kernel
theorem dX5_init_20 : decode cX5_init 20 = .ok (.invokespecial 9, 3) := by decide +kernel
theorem dX5_init_23 : decode cX5_init 23 = .ok (.putfield 16, 3) := by decide +kernel
theorem dX5_init_26 : decode cX5_init 26 = .ok (.aload_n 0, 1) := by decide +kernel
theorem dX5_init_27 : decode cX5_init 27 = .ok (.new 19, 3) := by decide +kernel
theorem dX5_init_30 : decode cX5_init 30 = .ok (.dup, 1) := by decide +kernel
theorem dX5_init_31 : decode cX5_init 31 = .ok (.invokespecial 21, 3) := by decide +kernel
theorem dX5_init_34 : decode cX5_init 34 = .ok (.putfield 22, 3) := by decide +kernel
theorem dX5_init_37 : decode cX5_init 37 = .ok (.aload_n 0, 1) := by decide +kernel
theorem dX5_init_38 : decode cX5_init 38 = .ok (.new 26, 3) := by decide +kernel
theorem dX5_init_41 : decode cX5_init 41 = .ok (.dup, 1) := by decide +kernel
theorem dX5_init_42 : decode cX5_init 42 = .ok (.invokespecial 28, 3) := by decide +kernel
theorem dX5_init_45 : decode cX5_init 45 = .ok (.putfield 29, 3) := by decide +kernel
theorem dX5_init_48 : decode cX5_init 48 = .ok (.return_, 1) := by decide +kernel
set_option maxRecDepth 20000 in
theorem ggX5_write_X5_startTrial : GoodIn wsX5_write wsX5_startTrial := goodIn_r _ [5, 6, 7, 8, 9, 10, 11, 12, 13, 14, 15, 16, 17, 18, 19, 20, 21, 22, 23, 24, 25, 26, 27, 28, 29, 30, 31, 32, 33, 34, 35, 36, 37, 38, 39, 40, 41, 42, 128, 129, 130, 131, 132, 133, 134, 135, 136, 137, 138, 139, 140, 141, 142, 143, 144, 145, 146] (by decide +kernel) (by decide +kernel)
set_option maxRecDepth 20000 in
theorem gX5_write_X5_startTrial : GoodIn wsX5_write (wsV RX5 33 RX5 yX5_startTrial wsX5_startTrial) := goodIn_app (goodIn_of _ (by decide +kernel)) ggX5_write_X5_startTrial
set_option maxRecDepth 20000 in
theorem ggX5_write_X4_fillCells : GoodIn wsX5_write wsX4_fillCells := goodIn_r _ [46, 47, 48, 49, 50, 51, 11, 52, 14, 15, 53, 54, 55, 56, 57, 4, 58, 59, 60, 61, 35, 62, 41, 37, 63, 64, 65, 66, 67, 68, 69, 70, 71, 72, 73, 13, 74, 75, 76, 77, 40, 78, 79, 80, 25, 81, 27, 82, 83, 84, 85, 86, 87, 20, 88, 89, 90, 91, 92, 93, 29, 94, 95, 96, 97, 98, 99, 100, 101, 102, 28, 17, 18, 19, 30, 103, 104, 105, 106, 107, 108, 109, 110, 111, 112, 113, 114, 42, 39, 132, 133, 134, 135, 136, 137, 142, 143, 144, 145, 146, 138, 139, 140, 141] (by decide +kernel) (by decide +kernel)
set_option maxRecDepth 20000 in
theorem gX5_write_X4_fillCells : GoodIn wsX5_write (wsV RX5 37 RX4 yX4_fillCells wsX4_fillCells) := goodIn_app (goodIn_of _ (by decide +kernel)) ggX5_write_X4_fillCells
set_option maxRecDepth 20000 in
theorem ggX5_write_X5_keepTrial : GoodIn wsX5_write wsX5_keepTrial := goodIn_r _ [118, 7, 6, 119, 120, 121, 122, 123, 124, 125, 126, 127, 128, 129, 130, 131, 147, 148, 149] (by decide +kernel) (by decide +kernel)
set_option maxRecDepth 20000 in
theorem gX5_write_X5_keepTrial : GoodIn wsX5_write (wsV RX5 41 RX5 yX5_keepTrial wsX5_keepTrial) := goodIn_app (goodIn_of _ (by decide +kernel)) ggX5_write_X5_keepTrial
theorem dX5_write_0 : decode cX5_write 0 = .ok (.aload_n 0, 1) := by decide +kernel
theorem dX5_write_1 : decode cX5_write 1 = .ok (.aload_n 0, 1) := by decide +kernel
theorem dX5_write_2 : decode cX5_write 2 = .ok (.invokevirtual 33, 3) := by decide +kernel
theorem dX5_write_5 : decode cX5_write 5 = .ok (.iload_n 1, 1) := by decide +kernel
theorem dX5_write_6 : decode cX5_write 6 = .ok (.iload_n 2, 1) := by decide +kernel
theorem dX5_write_7 : decode cX5_write 7 = .ok (.iconst 1, 1) := by decide +kernel
theorem dX5_write_8 : decode cX5_write 8 = .ok (.iload_n 3, 1) := by decide +kernel
theorem dX5_write_9 : decode cX5_write 9 = .ok (.invokevirtual 37, 3) := by decide +kernel
theorem dX5_write_12 : decode cX5_write 12 = .ok (.invokevirtual 41, 3) := by decide +kernel
theorem dX5_write_15 : decode cX5_write 15 = .ok (.ireturn, 1) := by decide +kernel
set_option maxRecDepth 20000 in
theorem ggX5_fill_X5_startTrial : GoodIn wsX5_fill wsX5_startTrial := goodIn_r _ [5, 6, 7, 8, 9, 10, 11, 12, 13, 14, 15, 16, 17, 18, 19, 20, 21, 22, 23, 24, 25, 26, 27, 28, 29, 30, 31, 32, 33, 34, 35, 36, 37, 38, 39, 40, 41, 42, 128, 129, 130, 131, 132, 133, 134, 135, 136, 137, 138, 139, 140, 141, 142, 143, 144, 145, 146] (by decide +kernel) (by decide +kernel)
set_option maxRecDepth 20000 in
theorem gX5_fill_X5_startTrial : GoodIn wsX5_fill (wsV RX5 33 RX5 yX5_startTrial wsX5_startTrial) := goodIn_app (goodIn_of _ (by decide +kernel)) ggX5_fill_X5_startTrial
set_option maxRecDepth 20000 in
theorem ggX5_fill_X4_fillCells : GoodIn wsX5_fill wsX4_fillCells := goodIn_r _ [46, 47, 48, 49, 50, 51, 11, 52, 14, 15, 53, 54, 55, 56, 57, 4, 58, 59, 60, 61, 35, 62, 41, 37, 63, 64, 65, 66, 67, 68, 69, 70, 71, 72, 73, 13, 74, 75, 76, 77, 40, 78, 79, 80, 25, 81, 27, 82, 83, 84, 85, 86, 87, 20, 88, 89, 90, 91, 92, 93, 29, 94, 95, 96, 97, 98, 99, 100, 101, 102, 28, 17, 18, 19, 30, 103, 104, 105, 106, 107, 108, 109, 110, 111, 112, 113, 114, 42, 39, 132, 133, 134, 135, 136, 137, 142, 143, 144, 145, 146, 138, 139, 140, 141] (by decide +kernel) (by decide +kernel)
set_option maxRecDepth 20000 in
theorem gX5_fill_X4_fillCells : GoodIn wsX5_fill (wsV RX5 37 RX4 yX4_fillCells wsX4_fillCells) := goodIn_app (goodIn_of _ (by decide +kernel)) ggX5_fill_X4_fillCells
set_option maxRecDepth 20000 in
theorem ggX5_fill_X5_keepTrial : GoodIn wsX5_fill wsX5_keepTrial := goodIn_r _ [118, 7, 6, 119, 120, 121, 122, 123, 124, 125, 126, 127, 128, 129, 130, 131, 147, 148, 149] (by decide +kernel) (by decide +kernel)
set_option maxRecDepth 20000 in
theorem gX5_fill_X5_keepTrial : GoodIn wsX5_fill (wsV RX5 41 RX5 yX5_keepTrial wsX5_keepTrial) := goodIn_app (goodIn_of _ (by decide +kernel)) ggX5_fill_X5_keepTrial
theorem dX5_fill_0 : decode cX5_fill 0 = .ok (.aload_n 0, 1) := by decide +kernel
theorem dX5_fill_1 : decode cX5_fill 1 = .ok (.aload_n 0, 1) := by decide +kernel
theorem dX5_fill_2 : decode cX5_fill 2 = .ok (.invokevirtual 33, 3) := by decide +kernel
theorem dX5_fill_5 : decode cX5_fill 5 = .ok (.iload_n 1, 1) := by decide +kernel
theorem dX5_fill_6 : decode cX5_fill 6 = .ok (.iload_n 2, 1) := by decide +kernel
theorem dX5_fill_7 : decode cX5_fill 7 = .ok (.iload_n 3, 1) := by decide +kernel
theorem dX5_fill_8 : decode cX5_fill 8 = .ok (.iload 4, 2) := by decide +kernel
theorem dX5_fill_10 : decode cX5_fill 10 = .ok (.invokevirtual 37, 3) := by decide +kernel
theorem dX5_fill_13 : decode cX5_fill 13 = .ok (.invokevirtual 41, 3) := by decide +kernel
theorem dX5_fill_16 : decode cX5_fill 16 = .ok (.ireturn, 1) := by decide +kernel
set_option maxRecDepth 20000 in
theorem ggX5_copy_X5_startTrial : GoodIn wsX5_copy wsX5_startTrial := goodIn_r _ [5, 6, 7, 8, 9, 10, 11, 12, 13, 14, 15, 16, 17, 18, 19, 20, 21, 22, 23, 24, 25, 26, 27, 28, 29, 30, 31, 32, 33, 34, 35, 36, 37, 38, 39, 40, 41, 42, 128, 129, 130, 131, 132, 133, 134, 135, 136, 137, 138, 139, 140, 141, 142, 143, 144, 145, 146] (by decide +kernel) (by decide +kernel)
set_option maxRecDepth 20000 in
theorem gX5_copy_X5_startTrial : GoodIn wsX5_copy (wsV RX5 33 RX5 yX5_startTrial wsX5_startTrial) := goodIn_app (goodIn_of _ (by decide +kernel)) ggX5_copy_X5_startTrial
set_option maxRecDepth 20000 in
theorem ggX5_copy_X4_copyCells : GoodIn wsX5_copy wsX4_copyCells := goodIn_r _ [46, 14, 47, 48, 49, 50, 51, 11, 52, 15, 53, 54, 55, 56, 57, 4, 58, 59, 60, 61, 35, 62, 41, 37, 63, 64, 65, 66, 67, 68, 69, 70, 71, 72, 73, 13, 74, 75, 76, 77, 40, 78, 79, 80, 25, 81, 27, 82, 83, 84, 85, 86, 87, 20, 88, 89, 90, 91, 92, 93, 29, 94, 95, 96, 97, 98, 99, 100, 101, 102, 28, 17, 18, 19, 30, 103, 104, 105, 106, 107, 108, 109, 110, 111, 112, 113, 114, 42, 39, 132, 133, 134, 135, 136, 137, 142, 143, 144, 145, 146, 138, 139, 140, 141] (by decide +kernel) (by decide +kernel)
set_option maxRecDepth 20000 in
theorem gX5_copy_X4_copyCells : GoodIn wsX5_copy (wsV RX5 45 RX4 yX4_copyCells wsX4_copyCells) := goodIn_app (goodIn_of _ (by decide +kernel)) ggX5_copy_X4_copyCells
set_option maxRecDepth 20000 in
theorem ggX5_copy_X5_keepTrial : GoodIn wsX5_copy wsX5_keepTrial := goodIn_r _ [118, 7, 6, 119, 120, 121, 122, 123, 124, 125, 126, 127, 128, 129, 130, 131, 147, 148, 149] (by decide +kernel) (by decide +kernel)
set_option maxRecDepth 20000 in
theorem gX5_copy_X5_keepTrial : GoodIn wsX5_copy (wsV RX5 41 RX5 yX5_keepTrial wsX5_keepTrial) := goodIn_app (goodIn_of _ (by decide +kernel)) ggX5_copy_X5_keepTrial
theorem dX5_copy_0 : decode cX5_copy 0 = .ok (.aload_n 0, 1) := by decide +kernel
theorem dX5_copy_1 : decode cX5_copy 1 = .ok (.aload_n 0, 1) := by decide +kernel
theorem dX5_copy_2 : decode cX5_copy 2 = .ok (.invokevirtual 33, 3) := by decide +kernel
theorem dX5_copy_5 : decode cX5_copy 5 = .ok (.iload_n 1, 1) := by decide +kernel
theorem dX5_copy_6 : decode cX5_copy 6 = .ok (.iload_n 2, 1) := by decide +kernel
theorem dX5_copy_7 : decode cX5_copy 7 = .ok (.iload_n 3, 1) := by decide +kernel
theorem dX5_copy_8 : decode cX5_copy 8 = .ok (.iload 4, 2) := by decide +kernel
theorem dX5_copy_10 : decode cX5_copy 10 = .ok (.iload 5, 2) := by decide +kernel
theorem dX5_copy_12 : decode cX5_copy 12 = .ok (.invokevirtual 45, 3) := by decide +kernel
theorem dX5_copy_15 : decode cX5_copy 15 = .ok (.invokevirtual 41, 3) := by decide +kernel
theorem dX5_copy_18 : decode cX5_copy 18 = .ok (.ireturn, 1) := by decide +kernel
set_option maxRecDepth 20000 in
theorem ggX5_merge_X5_startTrial : GoodIn wsX5_merge wsX5_startTrial := goodIn_r _ [5, 6, 7, 8, 9, 10, 11, 12, 13, 14, 15, 16, 17, 18, 19, 20, 21, 22, 23, 24, 25, 26, 27, 28, 29, 30, 31, 32, 33, 34, 35, 36, 37, 38, 39, 40, 41, 42, 138, 139, 140, 141, 142, 143, 144, 145, 146, 147, 148, 149, 150, 151, 152, 153, 154, 155, 156] (by decide +kernel) (by decide +kernel)
set_option maxRecDepth 20000 in
theorem gX5_merge_X5_startTrial : GoodIn wsX5_merge (wsV RX5 33 RX5 yX5_startTrial wsX5_startTrial) := goodIn_app (goodIn_of _ (by decide +kernel)) ggX5_merge_X5_startTrial
set_option maxRecDepth 20000 in
theorem ggX5_merge_X4_mergeState : GoodIn wsX5_merge wsX4_mergeState := goodIn_r _ [46, 14, 47, 21, 48, 49, 50, 11, 51, 15, 52, 53, 54, 55, 56, 4, 57, 58, 59, 60, 35, 61, 41, 37, 62, 63, 64, 65, 66, 67, 68, 69, 70, 71, 72, 73, 39, 74, 75, 76, 77, 78, 79, 80, 81, 82, 83, 13, 84, 85, 86, 87, 40, 88, 89, 90, 25, 91, 27, 92, 93, 94, 95, 96, 97, 20, 98, 99, 100, 101, 102, 103, 29, 104, 105, 106, 107, 108, 109, 110, 111, 112, 28, 17, 18, 19, 30, 113, 114, 115, 116, 117, 118, 119, 120, 121, 122, 123, 124, 42, 142, 143, 144, 145, 146, 147, 152, 153, 154, 155, 156, 148, 149, 150, 151] (by decide +kernel) (by decide +kernel)
set_option maxRecDepth 20000 in
theorem gX5_merge_X4_mergeState : GoodIn wsX5_merge (wsV RX5 49 RX4 yX4_mergeState wsX4_mergeState) := goodIn_app (goodIn_of _ (by decide +kernel)) ggX5_merge_X4_mergeState
set_option maxRecDepth 20000 in
theorem ggX5_merge_X5_keepTrial : GoodIn wsX5_merge wsX5_keepTrial := goodIn_r _ [128, 7, 6, 129, 130, 131, 132, 133, 134, 135, 136, 137, 138, 139, 140, 141, 157, 158, 159] (by decide +kernel) (by decide +kernel)
set_option maxRecDepth 20000 in
theorem gX5_merge_X5_keepTrial : GoodIn wsX5_merge (wsV RX5 41 RX5 yX5_keepTrial wsX5_keepTrial) := goodIn_app (goodIn_of _ (by decide +kernel)) ggX5_merge_X5_keepTrial
theorem dX5_merge_0 : decode cX5_merge 0 = .ok (.aload_n 0, 1) := by decide +kernel
theorem dX5_merge_1 : decode cX5_merge 1 = .ok (.aload_n 0, 1) := by decide +kernel
theorem dX5_merge_2 : decode cX5_merge 2 = .ok (.invokevirtual 33, 3) := by decide +kernel
theorem dX5_merge_5 : decode cX5_merge 5 = .ok (.iload_n 1, 1) := by decide +kernel
theorem dX5_merge_6 : decode cX5_merge 6 = .ok (.iload_n 2, 1) := by decide +kernel
theorem dX5_merge_7 : decode cX5_merge 7 = .ok (.invokevirtual 49, 3) := by decide +kernel
theorem dX5_merge_10 : decode cX5_merge 10 = .ok (.invokevirtual 41, 3) := by decide +kernel
theorem dX5_merge_13 : decode cX5_merge 13 = .ok (.ireturn, 1) := by decide +kernel
set_option maxRecDepth 20000 in
theorem ggX5_branch_X5_startTrial : GoodIn wsX5_branch wsX5_startTrial := goodIn_r _ [5, 6, 7, 8, 9, 10, 11, 12, 13, 14, 15, 16, 17, 18, 19, 20, 21, 22, 23, 24, 25, 26, 27, 28, 29, 30, 31, 32, 33, 34, 35, 36, 37, 38, 39, 40, 41, 42, 66, 67, 68, 69, 70, 71, 72, 73, 74, 75, 76, 77, 78, 79, 80, 81, 82, 83, 84] (by decide +kernel) (by decide +kernel)
set_option maxRecDepth 20000 in
theorem gX5_branch_X5_startTrial : GoodIn wsX5_branch (wsV RX5 33 RX5 yX5_startTrial wsX5_startTrial) := goodIn_app (goodIn_of _ (by decide +kernel)) ggX5_branch_X5_startTrial
set_option maxRecDepth 20000 in
theorem ggX5_branch_X4_addBranch : GoodIn wsX5_branch wsX4_addBranch := goodIn_r _ [46, 14, 47, 15, 48, 49, 50, 51, 35, 52, 41, 37, 70, 71, 72, 73, 74, 75, 80, 81, 82, 83, 84] (by decide +kernel) (by decide +kernel)
set_option maxRecDepth 20000 in
theorem gX5_branch_X4_addBranch : GoodIn wsX5_branch (wsV RX5 53 RX4 yX4_addBranch wsX4_addBranch) := goodIn_app (goodIn_of _ (by decide +kernel)) ggX5_branch_X4_addBranch
set_option maxRecDepth 20000 in
theorem ggX5_branch_X5_keepTrial : GoodIn wsX5_branch wsX5_keepTrial := goodIn_r _ [56, 7, 6, 57, 58, 59, 60, 61, 62, 63, 64, 65, 66, 67, 68, 69, 85, 86, 87] (by decide +kernel) (by decide +kernel)
set_option maxRecDepth 20000 in
theorem gX5_branch_X5_keepTrial : GoodIn wsX5_branch (wsV RX5 41 RX5 yX5_keepTrial wsX5_keepTrial) := goodIn_app (goodIn_of _ (by decide +kernel)) ggX5_branch_X5_keepTrial
theorem dX5_branch_0 : decode cX5_branch 0 = .ok (.aload_n 0, 1) := by decide +kernel
theorem dX5_branch_1 : decode cX5_branch 1 = .ok (.aload_n 0, 1) := by decide +kernel
theorem dX5_branch_2 : decode cX5_branch 2 = .ok (.invokevirtual 33, 3) := by decide +kernel
theorem dX5_branch_5 : decode cX5_branch 5 = .ok (.iload_n 1, 1) := by decide +kernel
theorem dX5_branch_6 : decode cX5_branch 6 = .ok (.invokevirtual 53, 3) := by decide +kernel
theorem dX5_branch_9 : decode cX5_branch 9 = .ok (.invokevirtual 41, 3) := by decide +kernel
theorem dX5_branch_12 : decode cX5_branch 12 = .ok (.ireturn, 1) := by decide +kernel
set_option maxRecDepth 20000 in
theorem ggX5_leave_X5_startTrial : GoodIn wsX5_leave wsX5_startTrial := goodIn_r _ [5, 6, 7, 8, 9, 10, 11, 12, 13, 14, 15, 16, 17, 18, 19, 20, 21, 22, 23, 24, 25, 26, 27, 28, 29, 30, 31, 32, 33, 34, 35, 36, 37, 38, 39, 40, 41, 42, 72, 73, 74, 75, 76, 77, 78, 79, 80, 81, 82, 83, 84, 85, 86, 87, 88, 89, 90] (by decide +kernel) (by decide +kernel)
set_option maxRecDepth 20000 in
theorem gX5_leave_X5_startTrial : GoodIn wsX5_leave (wsV RX5 33 RX5 yX5_startTrial wsX5_startTrial) := goodIn_app (goodIn_of _ (by decide +kernel)) ggX5_leave_X5_startTrial
set_option maxRecDepth 20000 in
theorem ggX5_leave_X4_dropBranch : GoodIn wsX5_leave wsX4_dropBranch := goodIn_r _ [46, 47, 48, 15, 49, 50, 51, 11, 52, 53, 4, 54, 55, 56, 57, 58, 76, 77, 78, 79, 80, 81] (by decide +kernel) (by decide +kernel)
set_option maxRecDepth 20000 in
theorem gX5_leave_X4_dropBranch : GoodIn wsX5_leave (wsV RX5 56 RX4 yX4_dropBranch wsX4_dropBranch) := goodIn_app (goodIn_of _ (by decide +kernel)) ggX5_leave_X4_dropBranch
set_option maxRecDepth 20000 in
theorem ggX5_leave_X5_keepTrial : GoodIn wsX5_leave wsX5_keepTrial := goodIn_r _ [62, 7, 6, 63, 64, 65, 66, 67, 68, 69, 70, 71, 72, 73, 74, 75, 91, 92, 93] (by decide +kernel) (by decide +kernel)
set_option maxRecDepth 20000 in
theorem gX5_leave_X5_keepTrial : GoodIn wsX5_leave (wsV RX5 41 RX5 yX5_keepTrial wsX5_keepTrial) := goodIn_app (goodIn_of _ (by decide +kernel)) ggX5_leave_X5_keepTrial
theorem dX5_leave_0 : decode cX5_leave 0 = .ok (.aload_n 0, 1) := by decide +kernel
theorem dX5_leave_1 : decode cX5_leave 1 = .ok (.aload_n 0, 1) := by decide +kernel
theorem dX5_leave_2 : decode cX5_leave 2 = .ok (.invokevirtual 33, 3) := by decide +kernel
theorem dX5_leave_5 : decode cX5_leave 5 = .ok (.iload_n 1, 1) := by decide +kernel
theorem dX5_leave_6 : decode cX5_leave 6 = .ok (.invokevirtual 56, 3) := by decide +kernel
theorem dX5_leave_9 : decode cX5_leave 9 = .ok (.invokevirtual 41, 3) := by decide +kernel
theorem dX5_leave_12 : decode cX5_leave 12 = .ok (.ireturn, 1) := by decide +kernel
set_option maxRecDepth 20000 in
theorem ggX5_back_X5_startTrial : GoodIn wsX5_back wsX5_startTrial := goodIn_r _ [5, 6, 7, 8, 9, 10, 11, 12, 13, 14, 15, 16, 17, 18, 19, 20, 21, 22, 23, 24, 25, 26, 27, 28, 29, 30, 31, 32, 33, 34, 35, 36, 37, 38, 39, 40, 41, 42, 80, 81, 82, 83, 84, 85, 86, 87, 88, 89, 90, 91, 92, 93, 94, 95, 96, 97, 98] (by decide +kernel) (by decide +kernel)
set_option maxRecDepth 20000 in
theorem gX5_back_X5_startTrial : GoodIn wsX5_back (wsV RX5 33 RX5 yX5_startTrial wsX5_startTrial) := goodIn_app (goodIn_of _ (by decide +kernel)) ggX5_back_X5_startTrial
set_option maxRecDepth 20000 in
theorem ggX5_back_X4_stepBack : GoodIn wsX5_back wsX4_stepBack := goodIn_r _ [46, 47, 48, 15, 14, 49, 50, 51, 11, 52, 53, 54, 55, 56, 57, 4, 58, 59, 60, 61, 35, 62, 41, 37, 63, 64, 65, 66, 39, 84, 85, 86, 87, 88, 89, 94, 95, 96, 97, 98] (by decide +kernel) (by decide +kernel)
set_option maxRecDepth 20000 in
theorem gX5_back_X4_stepBack : GoodIn wsX5_back (wsV RX5 59 RX4 yX4_stepBack wsX4_stepBack) := goodIn_app (goodIn_of _ (by decide +kernel)) ggX5_back_X4_stepBack
set_option maxRecDepth 20000 in
theorem ggX5_back_X5_keepTrial : GoodIn wsX5_back wsX5_keepTrial := goodIn_r _ [70, 7, 6, 71, 72, 73, 74, 75, 76, 77, 78, 79, 80, 81, 82, 83, 99, 100, 101] (by decide +kernel) (by decide +kernel)
set_option maxRecDepth 20000 in
theorem gX5_back_X5_keepTrial : GoodIn wsX5_back (wsV RX5 41 RX5 yX5_keepTrial wsX5_keepTrial) := goodIn_app (goodIn_of _ (by decide +kernel)) ggX5_back_X5_keepTrial
theorem dX5_back_0 : decode cX5_back 0 = .ok (.aload_n 0, 1) := by decide +kernel
theorem dX5_back_1 : decode cX5_back 1 = .ok (.aload_n 0, 1) := by decide +kernel
theorem dX5_back_2 : decode cX5_back 2 = .ok (.invokevirtual 33, 3) := by decide +kernel
theorem dX5_back_5 : decode cX5_back 5 = .ok (.iload_n 1, 1) := by decide +kernel
theorem dX5_back_6 : decode cX5_back 6 = .ok (.invokevirtual 59, 3) := by decide +kernel
theorem dX5_back_9 : decode cX5_back 9 = .ok (.invokevirtual 41, 3) := by decide +kernel
theorem dX5_back_12 : decode cX5_back 12 = .ok (.ireturn, 1) := by decide +kernel
set_option maxRecDepth 20000 in
theorem ggX5_forget_X5_startTrial : GoodIn wsX5_forget wsX5_startTrial := goodIn_r _ [5, 6, 7, 8, 9, 10, 11, 12, 13, 14, 15, 16, 17, 18, 19, 20, 21, 22, 23, 24, 25, 26, 27, 28, 29, 30, 31, 32, 33, 34, 35, 36, 37, 38, 39, 40, 41, 42, 100, 101, 102, 103, 104, 105, 106, 107, 108, 109, 110, 111, 112, 113, 114, 115, 116, 117, 118] (by decide +kernel) (by decide +kernel)
set_option maxRecDepth 20000 in
theorem gX5_forget_X5_startTrial : GoodIn wsX5_forget (wsV RX5 33 RX5 yX5_startTrial wsX5_startTrial) := goodIn_app (goodIn_of _ (by decide +kernel)) ggX5_forget_X5_startTrial
set_option maxRecDepth 20000 in
theorem ggX5_forget_X4_forgetState : GoodIn wsX5_forget wsX4_forgetState := goodIn_r _ [46, 14, 47, 48, 13, 49, 50, 51, 35, 52, 41, 37, 53, 54, 55, 11, 56, 57, 58, 59, 60, 61, 62, 63, 64, 15, 65, 66, 67, 25, 68, 69, 70, 71, 72, 29, 73, 74, 75, 76, 40, 77, 78, 79, 80, 81, 4, 82, 83, 84, 85, 86, 39, 38, 17, 18, 19, 104, 105, 106, 107, 108, 109, 114, 115, 116, 117, 118, 110, 111, 112, 113] (by decide +kernel) (by decide +kernel)
set_option maxRecDepth 20000 in
theorem gX5_forget_X4_forgetState : GoodIn wsX5_forget (wsV RX5 62 RX4 yX4_forgetState wsX4_forgetState) := goodIn_app (goodIn_of _ (by decide +kernel)) ggX5_forget_X4_forgetState
set_option maxRecDepth 20000 in
theorem ggX5_forget_X5_keepTrial : GoodIn wsX5_forget wsX5_keepTrial := goodIn_r _ [90, 7, 6, 91, 92, 93, 94, 95, 96, 97, 98, 99, 100, 101, 102, 103, 119, 120, 121] (by decide +kernel) (by decide +kernel)
set_option maxRecDepth 20000 in
theorem gX5_forget_X5_keepTrial : GoodIn wsX5_forget (wsV RX5 41 RX5 yX5_keepTrial wsX5_keepTrial) := goodIn_app (goodIn_of _ (by decide +kernel)) ggX5_forget_X5_keepTrial
theorem dX5_forget_0 : decode cX5_forget 0 = .ok (.aload_n 0, 1) := by decide +kernel
theorem dX5_forget_1 : decode cX5_forget 1 = .ok (.aload_n 0, 1) := by decide +kernel
theorem dX5_forget_2 : decode cX5_forget 2 = .ok (.invokevirtual 33, 3) := by decide +kernel
theorem dX5_forget_5 : decode cX5_forget 5 = .ok (.iload_n 1, 1) := by decide +kernel
theorem dX5_forget_6 : decode cX5_forget 6 = .ok (.invokevirtual 62, 3) := by decide +kernel
theorem dX5_forget_9 : decode cX5_forget 9 = .ok (.invokevirtual 41, 3) := by decide +kernel
theorem dX5_forget_12 : decode cX5_forget 12 = .ok (.ireturn, 1) := by decide +kernel
set_option maxRecDepth 20000 in
theorem ggX5_share_X5_startTrial : GoodIn wsX5_share wsX5_startTrial := goodIn_r _ [5, 6, 7, 8, 9, 10, 11, 12, 13, 14, 15, 16, 17, 18, 19, 20, 21, 22, 23, 24, 25, 26, 27, 28, 29, 30, 31, 32, 33, 34, 35, 36, 37, 38, 39, 40, 41, 42, 85, 86, 87, 88, 89, 90, 91, 92, 93, 94, 95, 96, 97, 98, 99, 100, 101, 102, 103] (by decide +kernel) (by decide +kernel)
set_option maxRecDepth 20000 in
theorem gX5_share_X5_startTrial : GoodIn wsX5_share (wsV RX5 33 RX5 yX5_startTrial wsX5_startTrial) := goodIn_app (goodIn_of _ (by decide +kernel)) ggX5_share_X5_startTrial
set_option maxRecDepth 20000 in
theorem ggX5_share_X4_shareBlocks : GoodIn wsX5_share wsX4_shareBlocks := goodIn_r _ [46, 13, 14, 47, 48, 49, 50, 51, 52, 25, 53, 54, 55, 56, 57, 29, 58, 59, 60, 61, 62, 63, 64, 65, 27, 66, 67, 68, 69, 70, 4, 71, 89, 90, 91, 92, 93, 94, 99, 100, 101, 102, 103, 95, 96, 97, 98] (by decide +kernel) (by decide +kernel)
set_option maxRecDepth 20000 in
theorem gX5_share_X4_shareBlocks : GoodIn wsX5_share (wsV RX5 65 RX4 yX4_shareBlocks wsX4_shareBlocks) := goodIn_app (goodIn_of _ (by decide +kernel)) ggX5_share_X4_shareBlocks
set_option maxRecDepth 20000 in
theorem ggX5_share_X5_keepTrial : GoodIn wsX5_share wsX5_keepTrial := goodIn_r _ [75, 7, 6, 76, 77, 78, 79, 80, 81, 82, 83, 84, 85, 86, 87, 88, 104, 105, 106] (by decide +kernel) (by decide +kernel)
set_option maxRecDepth 20000 in
theorem gX5_share_X5_keepTrial : GoodIn wsX5_share (wsV RX5 41 RX5 yX5_keepTrial wsX5_keepTrial) := goodIn_app (goodIn_of _ (by decide +kernel)) ggX5_share_X5_keepTrial
theorem dX5_share_0 : decode cX5_share 0 = .ok (.aload_n 0, 1) := by decide +kernel
theorem dX5_share_1 : decode cX5_share 1 = .ok (.aload_n 0, 1) := by decide +kernel
theorem dX5_share_2 : decode cX5_share 2 = .ok (.invokevirtual 33, 3) := by decide +kernel
theorem dX5_share_5 : decode cX5_share 5 = .ok (.invokevirtual 65, 3) := by decide +kernel
theorem dX5_share_8 : decode cX5_share 8 = .ok (.invokevirtual 41, 3) := by decide +kernel
theorem dX5_share_11 : decode cX5_share 11 = .ok (.ireturn, 1) := by decide +kernel
set_option maxRecDepth 20000 in
theorem ggX5_set_X5_startTrial : GoodIn wsX5_set wsX5_startTrial := goodIn_r _ [5, 6, 7, 8, 9, 10, 11, 12, 13, 14, 15, 16, 17, 18, 19, 20, 21, 22, 23, 24, 25, 26, 27, 28, 29, 30, 31, 32, 33, 34, 35, 36, 37, 38, 39, 40, 41, 42, 63, 64, 65, 66, 67, 68, 69, 70, 71, 72, 73, 74, 75, 76, 77, 78, 79, 80, 81] (by decide +kernel) (by decide +kernel)
set_option maxRecDepth 20000 in
theorem gX5_set_X5_startTrial : GoodIn wsX5_set (wsV RX5 33 RX5 yX5_startTrial wsX5_startTrial) := goodIn_app (goodIn_of _ (by decide +kernel)) ggX5_set_X5_startTrial
set_option maxRecDepth 20000 in
theorem ggX5_set_X4_changeSetting : GoodIn wsX5_set wsX4_changeSetting := goodIn_r _ [46, 47, 20, 48, 4, 49, 67, 68, 69, 70, 71, 72] (by decide +kernel) (by decide +kernel)
set_option maxRecDepth 20000 in
theorem gX5_set_X4_changeSetting : GoodIn wsX5_set (wsV RX5 69 RX4 yX4_changeSetting wsX4_changeSetting) := goodIn_app (goodIn_of _ (by decide +kernel)) ggX5_set_X4_changeSetting
set_option maxRecDepth 20000 in
theorem ggX5_set_X5_keepTrial : GoodIn wsX5_set wsX5_keepTrial := goodIn_r _ [53, 7, 6, 54, 55, 56, 57, 58, 59, 60, 61, 62, 63, 64, 65, 66, 82, 83, 84] (by decide +kernel) (by decide +kernel)
set_option maxRecDepth 20000 in
theorem gX5_set_X5_keepTrial : GoodIn wsX5_set (wsV RX5 41 RX5 yX5_keepTrial wsX5_keepTrial) := goodIn_app (goodIn_of _ (by decide +kernel)) ggX5_set_X5_keepTrial
theorem dX5_set_0 : decode cX5_set 0 = .ok (.aload_n 0, 1) := by decide +kernel
theorem dX5_set_1 : decode cX5_set 1 = .ok (.aload_n 0, 1) := by decide +kernel
theorem dX5_set_2 : decode cX5_set 2 = .ok (.invokevirtual 33, 3) := by decide +kernel
theorem dX5_set_5 : decode cX5_set 5 = .ok (.iload_n 1, 1) := by decide +kernel
theorem dX5_set_6 : decode cX5_set 6 = .ok (.iload_n 2, 1) := by decide +kernel
theorem dX5_set_7 : decode cX5_set 7 = .ok (.invokevirtual 69, 3) := by decide +kernel
theorem dX5_set_10 : decode cX5_set 10 = .ok (.invokevirtual 41, 3) := by decide +kernel
theorem dX5_set_13 : decode cX5_set 13 = .ok (.ireturn, 1) := by decide +kernel
set_option maxRecDepth 20000 in
theorem ggX5_read_X3_slotOf : GoodIn wsX5_read wsX3_slotOf := goodIn_r _ [8, 9, 10, 43, 44, 45, 46, 47] (by decide +kernel) (by decide +kernel)
set_option maxRecDepth 20000 in
theorem gX5_read_X3_slotOf : GoodIn wsX5_read (wsV RX5 76 RX3 yX3_slotOf wsX3_slotOf) := goodIn_app (goodIn_of _ (by decide +kernel)) ggX5_read_X3_slotOf
set_option maxRecDepth 20000 in
theorem ggX5_read_X5_isIndex : GoodIn wsX5_read wsX5_isIndex := goodIn_r _ [14] (by decide +kernel) (by decide +kernel)
set_option maxRecDepth 20000 in
theorem gX5_read_X5_isIndex : GoodIn wsX5_read (va_wsS RX5 81 yX5_isIndex wsX5_isIndex) := goodIn_app (goodIn_of _ (by decide +kernel)) ggX5_read_X5_isIndex
set_option maxRecDepth 20000 in
theorem ggX5_read_X4_cellAt : GoodIn wsX5_read wsX4_cellAt := goodIn_r _ [19, 20, 21, 22, 23, 24, 7, 25, 9, 26, 27, 28, 29, 30, 31, 32, 37, 38, 39, 40, 41, 42, 43, 44, 45, 46, 47, 48, 49, 50, 51] (by decide +kernel) (by decide +kernel)
set_option maxRecDepth 20000 in
theorem gX5_read_X4_cellAt : GoodIn wsX5_read (wsV RX5 86 RX4 yX4_cellAt wsX4_cellAt) := goodIn_app (goodIn_of _ (by decide +kernel)) ggX5_read_X4_cellAt
theorem dX5_read_0 : decode cX5_read 0 = .ok (.aload_n 0, 1) := by decide +kernel
theorem dX5_read_1 : decode cX5_read 1 = .ok (.getfield 10, 3) := by decide +kernel
theorem dX5_read_4 : decode cX5_read 4 = .ok (.getfield 72, 3) := by decide +kernel
theorem dX5_read_7 : decode cX5_read 7 = .ok (.iload_n 1, 1) := by decide +kernel
theorem dX5_read_8 : decode cX5_read 8 = .ok (.invokevirtual 76, 3) := by decide +kernel
theorem dX5_read_11 : decode cX5_read 11 = .ok (.istore_n 3, 1) := by decide +kernel
theorem dX5_read_12 : decode cX5_read 12 = .ok (.iload_n 3, 1) := by decide +kernel
theorem dX5_read_13 : decode cX5_read 13 = .ok (.ifCond .lt 12, 3) := by decide +kernel
theorem dX5_read_16 : decode cX5_read 16 = .ok (.iload_n 2, 1) := by decide +kernel
theorem dX5_read_17 : decode cX5_read 17 = .ok (.bipush 48, 2) := by decide +kernel
theorem dX5_read_19 : decode cX5_read 19 = .ok (.invokestatic 81, 3) := by decide +kernel
theorem dX5_read_22 : decode cX5_read 22 = .ok (.ifCond .ne 6, 3) := by decide +kernel
theorem dX5_read_25 : decode cX5_read 25 = .ok (.ldc 85, 2) := by decide +kernel
theorem dX5_read_27 : decode cX5_read 27 = .ok (.ireturn, 1) := by decide +kernel
theorem dX5_read_28 : decode cX5_read 28 = .ok (.aload_n 0, 1) := by decide +kernel
theorem dX5_read_29 : decode cX5_read 29 = .ok (.getfield 10, 3) := by decide +kernel
theorem dX5_read_32 : decode cX5_read 32 = .ok (.iload_n 3, 1) := by decide +kernel
theorem dX5_read_33 : decode cX5_read 33 = .ok (.iload_n 2, 1) := by decide +kernel
theorem dX5_read_34 : decode cX5_read 34 = .ok (.invokevirtual 86, 3) := by decide +kernel
theorem dX5_read_37 : decode cX5_read 37 = .ok (.ireturn, 1) := by decide +kernel
set_option maxRecDepth 20000 in
theorem ggX5_stateOf_X3_slotOf : GoodIn wsX5_stateOf wsX3_slotOf := goodIn_r _ [9, 10, 11, 109, 110, 111, 112, 113] (by decide +kernel) (by decide +kernel)
set_option maxRecDepth 20000 in
theorem gX5_stateOf_X3_slotOf : GoodIn wsX5_stateOf (wsV RX5 76 RX3 yX3_slotOf wsX3_slotOf) := goodIn_app (goodIn_of _ (by decide +kernel)) ggX5_stateOf_X3_slotOf
set_option maxRecDepth 20000 in
theorem ggX5_stateOf_X3_parentOf : GoodIn wsX5_stateOf wsX3_parentOf := goodIn_r _ [15, 10, 16, 109, 110, 111, 112, 113] (by decide +kernel) (by decide +kernel)
set_option maxRecDepth 20000 in
theorem gX5_stateOf_X3_parentOf : GoodIn wsX5_stateOf (wsV RX5 89 RX3 yX3_parentOf wsX3_parentOf) := goodIn_app (goodIn_of _ (by decide +kernel)) ggX5_stateOf_X3_parentOf
set_option maxRecDepth 20000 in
theorem ggX5_stateOf_X5_foundOr : GoodIn wsX5_stateOf wsX5_foundOr := goodIn_r _ [20, 4] (by decide +kernel) (by decide +kernel)
set_option maxRecDepth 20000 in
theorem gX5_stateOf_X5_foundOr : GoodIn wsX5_stateOf (va_wsS RX5 92 yX5_foundOr wsX5_foundOr) := goodIn_app (goodIn_of _ (by decide +kernel)) ggX5_stateOf_X5_foundOr
set_option maxRecDepth 20000 in
theorem ggX5_stateOf_X3_childrenOf : GoodIn wsX5_stateOf wsX3_childrenOf := goodIn_r _ [24, 10, 16, 25, 26, 27, 8, 28, 11, 109, 110, 111, 112, 113] (by decide +kernel) (by decide +kernel)
set_option maxRecDepth 20000 in
theorem gX5_stateOf_X3_childrenOf : GoodIn wsX5_stateOf (wsV RX5 95 RX3 yX3_childrenOf wsX3_childrenOf) := goodIn_app (goodIn_of _ (by decide +kernel)) ggX5_stateOf_X3_childrenOf
set_option maxRecDepth 20000 in
theorem ggX5_stateOf_X3_stepsFrom : GoodIn wsX5_stateOf wsX3_stepsFrom := goodIn_r _ [32, 33, 34, 35, 8, 36, 37, 13, 14, 15, 10, 16, 38, 6, 7, 9, 11, 109, 110, 111, 112, 113] (by decide +kernel) (by decide +kernel)
set_option maxRecDepth 20000 in
theorem gX5_stateOf_X3_stepsFrom : GoodIn wsX5_stateOf (wsV RX5 98 RX3 yX3_stepsFrom wsX3_stepsFrom) := goodIn_app (goodIn_of _ (by decide +kernel)) ggX5_stateOf_X3_stepsFrom
set_option maxRecDepth 20000 in
theorem ggX5_stateOf_X4_sumOfState : GoodIn wsX5_stateOf wsX4_sumOfState := goodIn_r _ [43, 44, 45, 46, 47, 48, 8, 49, 10, 50, 51, 52, 53, 54, 55, 56, 57, 58, 59, 60, 103, 104, 105, 106, 107, 108, 109, 110, 111, 112, 113, 114, 115, 116, 117] (by decide +kernel) (by decide +kernel)
set_option maxRecDepth 20000 in
theorem gX5_stateOf_X4_sumOfState : GoodIn wsX5_stateOf (wsV RX5 101 RX4 yX4_sumOfState wsX4_sumOfState) := goodIn_app (goodIn_of _ (by decide +kernel)) ggX5_stateOf_X4_sumOfState
set_option maxRecDepth 20000 in
theorem ggX5_stateOf_X3_parentSlot : GoodIn wsX5_stateOf wsX3_parentSlot := goodIn_r _ [36, 37, 13, 14, 8, 15, 10, 16, 38, 6, 7, 9, 11, 109, 110, 111, 112, 113] (by decide +kernel) (by decide +kernel)
set_option maxRecDepth 20000 in
theorem gX5_stateOf_X3_parentSlot : GoodIn wsX5_stateOf (wsV RX5 105 RX3 yX3_parentSlot wsX3_parentSlot) := goodIn_app (goodIn_of _ (by decide +kernel)) ggX5_stateOf_X3_parentSlot
set_option maxRecDepth 20000 in
theorem ggX5_stateOf_X3_unlikePlaces : GoodIn wsX5_stateOf wsX3_unlikePlaces := goodIn_r _ [65, 66, 47, 48, 8, 49, 10, 50, 109, 110, 111, 112, 113] (by decide +kernel) (by decide +kernel)
set_option maxRecDepth 20000 in
theorem gX5_stateOf_X3_unlikePlaces : GoodIn wsX5_stateOf (wsV RX5 108 RX3 yX3_unlikePlaces wsX3_unlikePlaces) := goodIn_app (goodIn_of _ (by decide +kernel)) ggX5_stateOf_X3_unlikePlaces
set_option maxRecDepth 20000 in
theorem ggX5_stateOf_X4_placesOfItsOwn : GoodIn wsX5_stateOf wsX4_placesOfItsOwn := goodIn_r _ [70, 71, 72, 73, 42, 74, 45, 44, 46, 47, 48, 8, 49, 10, 50, 75, 76, 77, 54, 78, 79, 80, 19, 81, 82, 83, 84, 85, 66, 103, 104, 105, 106, 107, 108, 109, 110, 111, 112, 113, 114, 115, 116, 117] (by decide +kernel) (by decide +kernel)
set_option maxRecDepth 20000 in
theorem gX5_stateOf_X4_placesOfItsOwn : GoodIn wsX5_stateOf (wsV RX5 111 RX4 yX4_placesOfItsOwn wsX4_placesOfItsOwn) := goodIn_app (goodIn_of _ (by decide +kernel)) ggX5_stateOf_X4_placesOfItsOwn
set_option maxRecDepth 20000 in
theorem ggX5_stateOf_X3_blocksIn : GoodIn wsX5_stateOf wsX3_blocksIn := goodIn_r _ [89, 90, 91, 92, 8, 93, 66, 47, 48, 49, 10, 50, 109, 110, 111, 112, 113] (by decide +kernel) (by decide +kernel)
set_option maxRecDepth 20000 in
theorem gX5_stateOf_X3_blocksIn : GoodIn wsX5_stateOf (wsV RX5 114 RX3 yX3_blocksIn wsX3_blocksIn) := goodIn_app (goodIn_of _ (by decide +kernel)) ggX5_stateOf_X3_blocksIn
set_option maxRecDepth 20000 in
theorem ggX5_stateOf_X4_branchesAt : GoodIn wsX5_stateOf wsX4_branchesAt := goodIn_r _ [97, 98, 103, 104, 105, 106, 107, 108] (by decide +kernel) (by decide +kernel)
set_option maxRecDepth 20000 in
theorem gX5_stateOf_X4_branchesAt : GoodIn wsX5_stateOf (wsV RX5 117 RX4 yX4_branchesAt wsX4_branchesAt) := goodIn_app (goodIn_of _ (by decide +kernel)) ggX5_stateOf_X4_branchesAt
theorem dX5_stateOf_0 : decode cX5_stateOf 0 = .ok (.aload_n 0, 1) := by decide +kernel
theorem dX5_stateOf_1 : decode cX5_stateOf 1 = .ok (.getfield 10, 3) := by decide +kernel
theorem dX5_stateOf_4 : decode cX5_stateOf 4 = .ok (.getfield 72, 3) := by decide +kernel
theorem dX5_stateOf_7 : decode cX5_stateOf 7 = .ok (.iload_n 1, 1) := by decide +kernel
theorem dX5_stateOf_8 : decode cX5_stateOf 8 = .ok (.invokevirtual 76, 3) := by decide +kernel
theorem dX5_stateOf_11 : decode cX5_stateOf 11 = .ok (.istore_n 3, 1) := by decide +kernel
theorem dX5_stateOf_12 : decode cX5_stateOf 12 = .ok (.iload_n 3, 1) := by decide +kernel
theorem dX5_stateOf_13 : decode cX5_stateOf 13 = .ok (.ifCond .ge 6, 3) := by decide +kernel
theorem dX5_stateOf_16 : decode cX5_stateOf 16 = .ok (.ldc 85, 2) := by decide +kernel
theorem dX5_stateOf_18 : decode cX5_stateOf 18 = .ok (.ireturn, 1) := by decide +kernel
theorem dX5_stateOf_19 : decode cX5_stateOf 19 = .ok (.iload_n 2, 1) := by decide +kernel
theorem dX5_stateOf_20 : decode cX5_stateOf 20 = .ok (.tableswitch 158 0 7 #[48, 63, 75, 87, 96, 128, 137, 149], 48) := by decide +kernel
theorem dX5_stateOf_68 : decode cX5_stateOf 68 = .ok (.aload_n 0, 1) := by decide +kernel
theorem dX5_stateOf_69 : decode cX5_stateOf 69 = .ok (.getfield 10, 3) := by decide +kernel
theorem dX5_stateOf_72 : decode cX5_stateOf 72 = .ok (.getfield 72, 3) := by decide +kernel
theorem dX5_stateOf_75 : decode cX5_stateOf 75 = .ok (.iload_n 3, 1) := by decide +kernel
theorem dX5_stateOf_76 : decode cX5_stateOf 76 = .ok (.invokevirtual 89, 3) := by decide +kernel
theorem dX5_stateOf_79 : decode cX5_stateOf 79 = .ok (.invokestatic 92, 3) := by decide +kernel
theorem dX5_stateOf_82 : decode cX5_stateOf 82 = .ok (.ireturn, 1) := by decide +kernel
theorem dX5_stateOf_83 : decode cX5_stateOf 83 = .ok (.aload_n 0, 1) := by decide +kernel
theorem dX5_stateOf_84 : decode cX5_stateOf 84 = .ok (.getfield 10, 3) := by decide +kernel
theorem dX5_stateOf_87 : decode cX5_stateOf 87 = .ok (.getfield 72, 3) := by decide +kernel
theorem dX5_stateOf_90 : decode cX5_stateOf 90 = .ok (.iload_n 3, 1) := by decide +kernel
theorem dX5_stateOf_91 : decode cX5_stateOf 91 = .ok (.invokevirtual 95, 3) := by decide +kernel
theorem dX5_stateOf_94 : decode cX5_stateOf 94 = .ok (.ireturn, 1) := by decide +kernel
theorem dX5_stateOf_95 : decode cX5_stateOf 95 = .ok (.aload_n 0, 1) := by decide +kernel
theorem dX5_stateOf_96 : decode cX5_stateOf 96 = .ok (.getfield 10, 3) := by decide +kernel
theorem dX5_stateOf_99 : decode cX5_stateOf 99 = .ok (.getfield 72, 3) := by decide +kernel
theorem dX5_stateOf_102 : decode cX5_stateOf 102 = .ok (.iload_n 3, 1) := by decide +kernel
theorem dX5_stateOf_103 : decode cX5_stateOf 103 = .ok (.invokevirtual 98, 3) := by decide +kernel
theorem dX5_stateOf_106 : decode cX5_stateOf 106 = .ok (.ireturn, 1) := by decide +kernel
theorem dX5_stateOf_107 : decode cX5_stateOf 107 = .ok (.aload_n 0, 1) := by decide +kernel
theorem dX5_stateOf_108 : decode cX5_stateOf 108 = .ok (.getfield 10, 3) := by decide +kernel
theorem dX5_stateOf_111 : decode cX5_stateOf 111 = .ok (.iload_n 3, 1) := by decide +kernel
theorem dX5_stateOf_112 : decode cX5_stateOf 112 = .ok (.invokevirtual 101, 3) := by decide +kernel
theorem dX5_stateOf_115 : decode cX5_stateOf 115 = .ok (.ireturn, 1) := by decide +kernel
theorem dX5_stateOf_116 : decode cX5_stateOf 116 = .ok (.iload_n 3, 1) := by decide +kernel
theorem dX5_stateOf_117 : decode cX5_stateOf 117 = .ok (.ifCond .ne 8, 3) := by decide +kernel
theorem dX5_stateOf_120 : decode cX5_stateOf 120 = .ok (.ldc 104, 2) := by decide +kernel
theorem dX5_stateOf_122 : decode cX5_stateOf 122 = .ok (.goto 25, 3) := by decide +kernel
theorem dX5_stateOf_125 : decode cX5_stateOf 125 = .ok (.aload_n 0, 1) := by decide +kernel
theorem dX5_stateOf_126 : decode cX5_stateOf 126 = .ok (.getfield 10, 3) := by decide +kernel
theorem dX5_stateOf_129 : decode cX5_stateOf 129 = .ok (.getfield 72, 3) := by decide +kernel
theorem dX5_stateOf_132 : decode cX5_stateOf 132 = .ok (.iload_n 3, 1) := by decide +kernel
theorem dX5_stateOf_133 : decode cX5_stateOf 133 = .ok (.aload_n 0, 1) := by decide +kernel
theorem dX5_stateOf_134 : decode cX5_stateOf 134 = .ok (.getfield 10, 3) := by decide +kernel
theorem dX5_stateOf_137 : decode cX5_stateOf 137 = .ok (.getfield 72, 3) := by decide +kernel
theorem dX5_stateOf_140 : decode cX5_stateOf 140 = .ok (.iload_n 3, 1) := by decide +kernel
theorem dX5_stateOf_141 : decode cX5_stateOf 141 = .ok (.invokevirtual 105, 3) := by decide +kernel
theorem dX5_stateOf_144 : decode cX5_stateOf 144 = .ok (.invokevirtual 108, 3) := by decide +kernel
theorem dX5_stateOf_147 : decode cX5_stateOf 147 = .ok (.ireturn, 1) := by decide +kernel
theorem dX5_stateOf_148 : decode cX5_stateOf 148 = .ok (.aload_n 0, 1) := by decide +kernel
theorem dX5_stateOf_149 : decode cX5_stateOf 149 = .ok (.getfield 10, 3) := by decide +kernel
theorem dX5_stateOf_152 : decode cX5_stateOf 152 = .ok (.iload_n 3, 1) := by decide +kernel
theorem dX5_stateOf_153 : decode cX5_stateOf 153 = .ok (.invokevirtual 111, 3) := by decide +kernel
theorem dX5_stateOf_156 : decode cX5_stateOf 156 = .ok (.ireturn, 1) := by decide +kernel
theorem dX5_stateOf_157 : decode cX5_stateOf 157 = .ok (.aload_n 0, 1) := by decide +kernel
theorem dX5_stateOf_158 : decode cX5_stateOf 158 = .ok (.getfield 10, 3) := by decide +kernel
theorem dX5_stateOf_161 : decode cX5_stateOf 161 = .ok (.getfield 72, 3) := by decide +kernel
theorem dX5_stateOf_164 : decode cX5_stateOf 164 = .ok (.iload_n 3, 1) := by decide +kernel
theorem dX5_stateOf_165 : decode cX5_stateOf 165 = .ok (.invokevirtual 114, 3) := by decide +kernel
theorem dX5_stateOf_168 : decode cX5_stateOf 168 = .ok (.ireturn, 1) := by decide +kernel
theorem dX5_stateOf_169 : decode cX5_stateOf 169 = .ok (.aload_n 0, 1) := by decide +kernel
theorem dX5_stateOf_170 : decode cX5_stateOf 170 = .ok (.getfield 10, 3) := by decide +kernel
theorem dX5_stateOf_173 : decode cX5_stateOf 173 = .ok (.iload_n 1, 1) := by decide +kernel
theorem dX5_stateOf_174 : decode cX5_stateOf 174 = .ok (.invokevirtual 117, 3) := by decide +kernel
theorem dX5_stateOf_177 : decode cX5_stateOf 177 = .ok (.ireturn, 1) := by decide +kernel
theorem dX5_stateOf_178 : decode cX5_stateOf 178 = .ok (.ldc 85, 2) := by decide +kernel
theorem dX5_stateOf_180 : decode cX5_stateOf 180 = .ok (.ireturn, 1) := by decide +kernel
set_option maxRecDepth 20000 in
theorem ggX5_number_X3_numberOf : GoodIn wsX5_number wsX3_numberOf := goodIn_r _ [8, 9, 10, 26, 27, 28, 29, 30] (by decide +kernel) (by decide +kernel)
set_option maxRecDepth 20000 in
theorem gX5_number_X3_numberOf : GoodIn wsX5_number (wsV RX5 120 RX3 yX3_numberOf wsX3_numberOf) := goodIn_app (goodIn_of _ (by decide +kernel)) ggX5_number_X3_numberOf
set_option maxRecDepth 20000 in
theorem ggX5_number_X5_foundOr : GoodIn wsX5_number wsX5_foundOr := goodIn_r _ [14, 15] (by decide +kernel) (by decide +kernel)
set_option maxRecDepth 20000 in
theorem gX5_number_X5_foundOr : GoodIn wsX5_number (va_wsS RX5 92 yX5_foundOr wsX5_foundOr) := goodIn_app (goodIn_of _ (by decide +kernel)) ggX5_number_X5_foundOr
theorem dX5_number_0 : decode cX5_number 0 = .ok (.iload_n 1, 1) := by decide +kernel
theorem dX5_number_1 : decode cX5_number 1 = .ok (.ifCond .ge 6, 3) := by decide +kernel
theorem dX5_number_4 : decode cX5_number 4 = .ok (.ldc 85, 2) := by decide +kernel
theorem dX5_number_6 : decode cX5_number 6 = .ok (.ireturn, 1) := by decide +kernel
theorem dX5_number_7 : decode cX5_number 7 = .ok (.aload_n 0, 1) := by decide +kernel
theorem dX5_number_8 : decode cX5_number 8 = .ok (.getfield 10, 3) := by decide +kernel
theorem dX5_number_11 : decode cX5_number 11 = .ok (.getfield 72, 3) := by decide +kernel
theorem dX5_number_14 : decode cX5_number 14 = .ok (.iload_n 1, 1) := by decide +kernel
theorem dX5_number_15 : decode cX5_number 15 = .ok (.invokevirtual 120, 3) := by decide +kernel
theorem dX5_number_18 : decode cX5_number 18 = .ok (.invokestatic 92, 3) := by decide +kernel
theorem dX5_number_21 : decode cX5_number 21 = .ok (.ireturn, 1) := by decide +kernel
set_option maxRecDepth 20000 in
theorem ggX5_blockAt_X3_slotOf : GoodIn wsX5_blockAt wsX3_slotOf := goodIn_r _ [8, 9, 10, 30, 31, 32, 33, 34] (by decide +kernel) (by decide +kernel)
set_option maxRecDepth 20000 in
theorem gX5_blockAt_X3_slotOf : GoodIn wsX5_blockAt (wsV RX5 76 RX3 yX3_slotOf wsX3_slotOf) := goodIn_app (goodIn_of _ (by decide +kernel)) ggX5_blockAt_X3_slotOf
set_option maxRecDepth 20000 in
theorem ggX5_blockAt_X5_isIndex : GoodIn wsX5_blockAt wsX5_isIndex := goodIn_r _ [14] (by decide +kernel) (by decide +kernel)
set_option maxRecDepth 20000 in
theorem gX5_blockAt_X5_isIndex : GoodIn wsX5_blockAt (va_wsS RX5 81 yX5_isIndex wsX5_isIndex) := goodIn_app (goodIn_of _ (by decide +kernel)) ggX5_blockAt_X5_isIndex
set_option maxRecDepth 20000 in
theorem ggX5_blockAt_X3_block : GoodIn wsX5_blockAt wsX3_block := goodIn_r _ [18, 9, 19, 30, 31, 32, 33, 34] (by decide +kernel) (by decide +kernel)
set_option maxRecDepth 20000 in
theorem gX5_blockAt_X3_block : GoodIn wsX5_blockAt (wsV RX5 123 RX3 yX3_block wsX3_block) := goodIn_app (goodIn_of _ (by decide +kernel)) ggX5_blockAt_X3_block
theorem dX5_blockAt_0 : decode cX5_blockAt 0 = .ok (.aload_n 0, 1) := by decide +kernel
theorem dX5_blockAt_1 : decode cX5_blockAt 1 = .ok (.getfield 10, 3) := by decide +kernel
theorem dX5_blockAt_4 : decode cX5_blockAt 4 = .ok (.getfield 72, 3) := by decide +kernel
theorem dX5_blockAt_7 : decode cX5_blockAt 7 = .ok (.iload_n 1, 1) := by decide +kernel
theorem dX5_blockAt_8 : decode cX5_blockAt 8 = .ok (.invokevirtual 76, 3) := by decide +kernel
theorem dX5_blockAt_11 : decode cX5_blockAt 11 = .ok (.istore_n 3, 1) := by decide +kernel
theorem dX5_blockAt_12 : decode cX5_blockAt 12 = .ok (.iload_n 3, 1) := by decide +kernel
theorem dX5_blockAt_13 : decode cX5_blockAt 13 = .ok (.ifCond .lt 12, 3) := by decide +kernel
theorem dX5_blockAt_16 : decode cX5_blockAt 16 = .ok (.iload_n 2, 1) := by decide +kernel
theorem dX5_blockAt_17 : decode cX5_blockAt 17 = .ok (.bipush 6, 2) := by decide +kernel
theorem dX5_blockAt_19 : decode cX5_blockAt 19 = .ok (.invokestatic 81, 3) := by decide +kernel
theorem dX5_blockAt_22 : decode cX5_blockAt 22 = .ok (.ifCond .ne 6, 3) := by decide +kernel
theorem dX5_blockAt_25 : decode cX5_blockAt 25 = .ok (.ldc 85, 2) := by decide +kernel
theorem dX5_blockAt_27 : decode cX5_blockAt 27 = .ok (.ireturn, 1) := by decide +kernel
theorem dX5_blockAt_28 : decode cX5_blockAt 28 = .ok (.aload_n 0, 1) := by decide +kernel
theorem dX5_blockAt_29 : decode cX5_blockAt 29 = .ok (.getfield 10, 3) := by decide +kernel
theorem dX5_blockAt_32 : decode cX5_blockAt 32 = .ok (.getfield 72, 3) := by decide +kernel
theorem dX5_blockAt_35 : decode cX5_blockAt 35 = .ok (.iload_n 3, 1) := by decide +kernel
theorem dX5_blockAt_36 : decode cX5_blockAt 36 = .ok (.iload_n 2, 1) := by decide +kernel
theorem dX5_blockAt_37 : decode cX5_blockAt 37 = .ok (.invokevirtual 123, 3) := by decide +kernel
theorem dX5_blockAt_40 : decode cX5_blockAt 40 = .ok (.ireturn, 1) := by decide +kernel
set_option maxRecDepth 20000 in
theorem ggX5_blockOf_X0_isThere : GoodIn wsX5_blockOf wsX0_isThere := goodIn_r _ [9, 10, 68, 69, 70, 71] (by decide +kernel) (by decide +kernel)
set_option maxRecDepth 20000 in
theorem gX5_blockOf_X0_isThere : GoodIn wsX5_blockOf (wsV RX5 130 RX0 yX0_isThere wsX0_isThere) := goodIn_app (goodIn_of _ (by decide +kernel)) ggX5_blockOf_X0_isThere
set_option maxRecDepth 20000 in
theorem ggX5_blockOf_X0_usesOf : GoodIn wsX5_blockOf wsX0_usesOf := goodIn_r _ [14, 10, 15, 16, 17, 68, 69, 70, 71] (by decide +kernel) (by decide +kernel)
set_option maxRecDepth 20000 in
theorem gX5_blockOf_X0_usesOf : GoodIn wsX5_blockOf (wsV RX5 136 RX0 yX0_usesOf wsX0_usesOf) := goodIn_app (goodIn_of _ (by decide +kernel)) ggX5_blockOf_X0_usesOf
set_option maxRecDepth 20000 in
theorem ggX5_blockOf_X3_statesWith : GoodIn wsX5_blockOf wsX3_statesWith := goodIn_r _ [22, 23, 24, 25, 26, 21, 27, 28, 29, 30, 31, 32, 72, 73, 74, 75, 76] (by decide +kernel) (by decide +kernel)
set_option maxRecDepth 20000 in
theorem gX5_blockOf_X3_statesWith : GoodIn wsX5_blockOf (wsV RX5 139 RX3 yX3_statesWith wsX3_statesWith) := goodIn_app (goodIn_of _ (by decide +kernel)) ggX5_blockOf_X3_statesWith
set_option maxRecDepth 20000 in
theorem ggX5_blockOf_X0_sumOf : GoodIn wsX5_blockOf wsX0_sumOf := goodIn_r _ [36, 37, 38, 39, 8, 40, 41, 68, 69, 70, 71] (by decide +kernel) (by decide +kernel)
set_option maxRecDepth 20000 in
theorem gX5_blockOf_X0_sumOf : GoodIn wsX5_blockOf (wsV RX5 142 RX0 yX0_sumOf wsX0_sumOf) := goodIn_app (goodIn_of _ (by decide +kernel)) ggX5_blockOf_X0_sumOf
set_option maxRecDepth 20000 in
theorem ggX5_blockOf_X0_nonZeroCells : GoodIn wsX5_blockOf wsX0_nonZeroCells := goodIn_r _ [45, 37, 38, 39, 8, 40, 41, 68, 69, 70, 71] (by decide +kernel) (by decide +kernel)
set_option maxRecDepth 20000 in
theorem gX5_blockOf_X0_nonZeroCells : GoodIn wsX5_blockOf (wsV RX5 145 RX0 yX0_nonZeroCells wsX0_nonZeroCells) := goodIn_app (goodIn_of _ (by decide +kernel)) ggX5_blockOf_X0_nonZeroCells
set_option maxRecDepth 20000 in
theorem ggX5_blockOf_X0_lowestOtherLike : GoodIn wsX5_blockOf wsX0_lowestOtherLike := goodIn_r _ [49, 41, 50, 51, 52, 8, 53, 10, 68, 69, 70, 71] (by decide +kernel) (by decide +kernel)
set_option maxRecDepth 20000 in
theorem gX5_blockOf_X0_lowestOtherLike : GoodIn wsX5_blockOf (wsV RX5 148 RX0 yX0_lowestOtherLike wsX0_lowestOtherLike) := goodIn_app (goodIn_of _ (by decide +kernel)) ggX5_blockOf_X0_lowestOtherLike
set_option maxRecDepth 20000 in
theorem ggX5_blockOf_X5_foundOr : GoodIn wsX5_blockOf wsX5_foundOr := goodIn_r _ [56, 57] (by decide +kernel) (by decide +kernel)
set_option maxRecDepth 20000 in
theorem gX5_blockOf_X5_foundOr : GoodIn wsX5_blockOf (va_wsS RX5 92 yX5_foundOr wsX5_foundOr) := goodIn_app (goodIn_of _ (by decide +kernel)) ggX5_blockOf_X5_foundOr
theorem dX5_blockOf_0 : decode cX5_blockOf 0 = .ok (.aload_n 0, 1) := by decide +kernel
theorem dX5_blockOf_1 : decode cX5_blockOf 1 = .ok (.getfield 10, 3) := by decide +kernel
theorem dX5_blockOf_4 : decode cX5_blockOf 4 = .ok (.getfield 126, 3) := by decide +kernel
theorem dX5_blockOf_7 : decode cX5_blockOf 7 = .ok (.iload_n 1, 1) := by decide +kernel
theorem dX5_blockOf_8 : decode cX5_blockOf 8 = .ok (.invokevirtual 130, 3) := by decide +kernel
theorem dX5_blockOf_11 : decode cX5_blockOf 11 = .ok (.ifCond .ne 6, 3) := by decide +kernel
theorem dX5_blockOf_14 : decode cX5_blockOf 14 = .ok (.ldc 85, 2) := by decide +kernel
theorem dX5_blockOf_16 : decode cX5_blockOf 16 = .ok (.ireturn, 1) := by decide +kernel
theorem dX5_blockOf_17 : decode cX5_blockOf 17 = .ok (.iload_n 2, 1) := by decide +kernel
theorem dX5_blockOf_18 : decode cX5_blockOf 18 = .ok (.tableswitch 97 0 4 #[34, 46, 58, 70, 82], 34) := by decide +kernel
theorem dX5_blockOf_52 : decode cX5_blockOf 52 = .ok (.aload_n 0, 1) := by decide +kernel
theorem dX5_blockOf_53 : decode cX5_blockOf 53 = .ok (.getfield 10, 3) := by decide +kernel
theorem dX5_blockOf_56 : decode cX5_blockOf 56 = .ok (.getfield 126, 3) := by decide +kernel
theorem dX5_blockOf_59 : decode cX5_blockOf 59 = .ok (.iload_n 1, 1) := by decide +kernel
theorem dX5_blockOf_60 : decode cX5_blockOf 60 = .ok (.invokevirtual 136, 3) := by decide +kernel
theorem dX5_blockOf_63 : decode cX5_blockOf 63 = .ok (.ireturn, 1) := by decide +kernel
theorem dX5_blockOf_64 : decode cX5_blockOf 64 = .ok (.aload_n 0, 1) := by decide +kernel
theorem dX5_blockOf_65 : decode cX5_blockOf 65 = .ok (.getfield 10, 3) := by decide +kernel
theorem dX5_blockOf_68 : decode cX5_blockOf 68 = .ok (.getfield 72, 3) := by decide +kernel
theorem dX5_blockOf_71 : decode cX5_blockOf 71 = .ok (.iload_n 1, 1) := by decide +kernel
theorem dX5_blockOf_72 : decode cX5_blockOf 72 = .ok (.invokevirtual 139, 3) := by decide +kernel
theorem dX5_blockOf_75 : decode cX5_blockOf 75 = .ok (.ireturn, 1) := by decide +kernel
theorem dX5_blockOf_76 : decode cX5_blockOf 76 = .ok (.aload_n 0, 1) := by decide +kernel
theorem dX5_blockOf_77 : decode cX5_blockOf 77 = .ok (.getfield 10, 3) := by decide +kernel
theorem dX5_blockOf_80 : decode cX5_blockOf 80 = .ok (.getfield 126, 3) := by decide +kernel
theorem dX5_blockOf_83 : decode cX5_blockOf 83 = .ok (.iload_n 1, 1) := by decide +kernel
theorem dX5_blockOf_84 : decode cX5_blockOf 84 = .ok (.invokevirtual 142, 3) := by decide +kernel
theorem dX5_blockOf_87 : decode cX5_blockOf 87 = .ok (.ireturn, 1) := by decide +kernel
theorem dX5_blockOf_88 : decode cX5_blockOf 88 = .ok (.aload_n 0, 1) := by decide +kernel
theorem dX5_blockOf_89 : decode cX5_blockOf 89 = .ok (.getfield 10, 3) := by decide +kernel
theorem dX5_blockOf_92 : decode cX5_blockOf 92 = .ok (.getfield 126, 3) := by decide +kernel
theorem dX5_blockOf_95 : decode cX5_blockOf 95 = .ok (.iload_n 1, 1) := by decide +kernel
theorem dX5_blockOf_96 : decode cX5_blockOf 96 = .ok (.invokevirtual 145, 3) := by decide +kernel
theorem dX5_blockOf_99 : decode cX5_blockOf 99 = .ok (.ireturn, 1) := by decide +kernel
theorem dX5_blockOf_100 : decode cX5_blockOf 100 = .ok (.aload_n 0, 1) := by decide +kernel
theorem dX5_blockOf_101 : decode cX5_blockOf 101 = .ok (.getfield 10, 3) := by decide +kernel
theorem dX5_blockOf_104 : decode cX5_blockOf 104 = .ok (.getfield 126, 3) := by decide +kernel
theorem dX5_blockOf_107 : decode cX5_blockOf 107 = .ok (.iload_n 1, 1) := by decide +kernel
theorem dX5_blockOf_108 : decode cX5_blockOf 108 = .ok (.invokevirtual 148, 3) := by decide +kernel
theorem dX5_blockOf_111 : decode cX5_blockOf 111 = .ok (.invokestatic 92, 3) := by decide +kernel
theorem dX5_blockOf_114 : decode cX5_blockOf 114 = .ok (.ireturn, 1) := by decide +kernel
theorem dX5_blockOf_115 : decode cX5_blockOf 115 = .ok (.ldc 85, 2) := by decide +kernel
theorem dX5_blockOf_117 : decode cX5_blockOf 117 = .ok (.ireturn, 1) := by decide +kernel
set_option maxRecDepth 20000 in
theorem ggX5_head_X4_isBranch : GoodIn wsX5_head wsX4_isBranch := goodIn_r _ [8, 9, 10, 11, 12, 17, 18, 19, 20, 21, 22] (by decide +kernel) (by decide +kernel)
set_option maxRecDepth 20000 in
theorem gX5_head_X4_isBranch : GoodIn wsX5_head (wsV RX5 151 RX4 yX4_isBranch wsX4_isBranch) := goodIn_app (goodIn_of _ (by decide +kernel)) ggX5_head_X4_isBranch
theorem dX5_head_0 : decode cX5_head 0 = .ok (.aload_n 0, 1) := by decide +kernel
theorem dX5_head_1 : decode cX5_head 1 = .ok (.getfield 10, 3) := by decide +kernel
theorem dX5_head_4 : decode cX5_head 4 = .ok (.iload_n 1, 1) := by decide +kernel
theorem dX5_head_5 : decode cX5_head 5 = .ok (.invokevirtual 151, 3) := by decide +kernel
theorem dX5_head_8 : decode cX5_head 8 = .ok (.ifCond .eq 15, 3) := by decide +kernel
theorem dX5_head_11 : decode cX5_head 11 = .ok (.aload_n 0, 1) := by decide +kernel
theorem dX5_head_12 : decode cX5_head 12 = .ok (.getfield 10, 3) := by decide +kernel
theorem dX5_head_15 : decode cX5_head 15 = .ok (.getfield 154, 3) := by decide +kernel
theorem dX5_head_18 : decode cX5_head 18 = .ok (.iload_n 1, 1) := by decide +kernel
theorem dX5_head_19 : decode cX5_head 19 = .ok (.iaload, 1) := by decide +kernel
theorem dX5_head_20 : decode cX5_head 20 = .ok (.goto 5, 3) := by decide +kernel
theorem dX5_head_23 : decode cX5_head 23 = .ok (.ldc 85, 2) := by decide +kernel
theorem dX5_head_25 : decode cX5_head 25 = .ok (.ireturn, 1) := by decide +kernel
set_option maxRecDepth 20000 in
theorem ggX5_count_X4_branchesThere : GoodIn wsX5_count wsX4_branchesThere := goodIn_r _ [19, 20, 48, 49, 50, 51, 52, 53] (by decide +kernel) (by decide +kernel)
set_option maxRecDepth 20000 in
theorem gX5_count_X4_branchesThere : GoodIn wsX5_count (wsV RX5 185 RX4 yX4_branchesThere wsX4_branchesThere) := goodIn_app (goodIn_of _ (by decide +kernel)) ggX5_count_X4_branchesThere
set_option maxRecDepth 20000 in
theorem ggX5_count_X0_there : GoodIn wsX5_count wsX0_there := goodIn_r _ [25, 26, 27, 28, 24, 29, 30, 59, 60, 61, 62] (by decide +kernel) (by decide +kernel)
set_option maxRecDepth 20000 in
theorem gX5_count_X0_there : GoodIn wsX5_count (wsV RX5 188 RX0 yX0_there wsX0_there) := goodIn_app (goodIn_of _ (by decide +kernel)) ggX5_count_X0_there
set_option maxRecDepth 20000 in
theorem ggX5_count_X0_doubles : GoodIn wsX5_count wsX0_doubles := goodIn_r _ [34, 35, 26, 27, 28, 24, 29, 30, 36, 37, 38, 39, 40, 41, 42, 43, 59, 60, 61, 62] (by decide +kernel) (by decide +kernel)
set_option maxRecDepth 20000 in
theorem gX5_count_X0_doubles : GoodIn wsX5_count (wsV RX5 191 RX0 yX0_doubles wsX0_doubles) := goodIn_app (goodIn_of _ (by decide +kernel)) ggX5_count_X0_doubles
theorem dX5_count_0 : decode cX5_count 0 = .ok (.iload_n 1, 1) := by decide +kernel
theorem dX5_count_1 : decode cX5_count 1 = .ok (.tableswitch 219 0 20 #[99, 110, 118, 129, 143, 154, 165, 176, 187, 195, 203, 219, 219, 219, 219, 219, 219, 219, 219, 219, 211], 99) := by decide +kernel
theorem dX5_count_100 : decode cX5_count 100 = .ok (.aload_n 0, 1) := by decide +kernel
theorem dX5_count_101 : decode cX5_count 101 = .ok (.getfield 10, 3) := by decide +kernel
theorem dX5_count_104 : decode cX5_count 104 = .ok (.getfield 72, 3) := by decide +kernel
theorem dX5_count_107 : decode cX5_count 107 = .ok (.getfield 167, 3) := by decide +kernel
theorem dX5_count_110 : decode cX5_count 110 = .ok (.ireturn, 1) := by decide +kernel
theorem dX5_count_111 : decode cX5_count 111 = .ok (.aload_n 0, 1) := by decide +kernel
theorem dX5_count_112 : decode cX5_count 112 = .ok (.getfield 10, 3) := by decide +kernel
theorem dX5_count_115 : decode cX5_count 115 = .ok (.invokevirtual 185, 3) := by decide +kernel
theorem dX5_count_118 : decode cX5_count 118 = .ok (.ireturn, 1) := by decide +kernel
theorem dX5_count_119 : decode cX5_count 119 = .ok (.aload_n 0, 1) := by decide +kernel
theorem dX5_count_120 : decode cX5_count 120 = .ok (.getfield 10, 3) := by decide +kernel
theorem dX5_count_123 : decode cX5_count 123 = .ok (.getfield 126, 3) := by decide +kernel
theorem dX5_count_126 : decode cX5_count 126 = .ok (.invokevirtual 188, 3) := by decide +kernel
theorem dX5_count_129 : decode cX5_count 129 = .ok (.ireturn, 1) := by decide +kernel
theorem dX5_count_130 : decode cX5_count 130 = .ok (.aload_n 0, 1) := by decide +kernel
theorem dX5_count_131 : decode cX5_count 131 = .ok (.getfield 10, 3) := by decide +kernel
theorem dX5_count_134 : decode cX5_count 134 = .ok (.getfield 72, 3) := by decide +kernel
theorem dX5_count_137 : decode cX5_count 137 = .ok (.getfield 167, 3) := by decide +kernel
theorem dX5_count_140 : decode cX5_count 140 = .ok (.bipush 6, 2) := by decide +kernel
theorem dX5_count_142 : decode cX5_count 142 = .ok (.imul, 1) := by decide +kernel
theorem dX5_count_143 : decode cX5_count 143 = .ok (.ireturn, 1) := by decide +kernel
theorem dX5_count_144 : decode cX5_count 144 = .ok (.aload_n 0, 1) := by decide +kernel
theorem dX5_count_145 : decode cX5_count 145 = .ok (.getfield 10, 3) := by decide +kernel
theorem dX5_count_148 : decode cX5_count 148 = .ok (.getfield 126, 3) := by decide +kernel
theorem dX5_count_151 : decode cX5_count 151 = .ok (.invokevirtual 191, 3) := by decide +kernel
theorem dX5_count_154 : decode cX5_count 154 = .ok (.ireturn, 1) := by decide +kernel
theorem dX5_count_155 : decode cX5_count 155 = .ok (.aload_n 0, 1) := by decide +kernel
theorem dX5_count_156 : decode cX5_count 156 = .ok (.getfield 10, 3) := by decide +kernel
theorem dX5_count_159 : decode cX5_count 159 = .ok (.getfield 72, 3) := by decide +kernel
theorem dX5_count_162 : decode cX5_count 162 = .ok (.getfield 194, 3) := by decide +kernel
theorem dX5_count_165 : decode cX5_count 165 = .ok (.ireturn, 1) := by decide +kernel
theorem dX5_count_166 : decode cX5_count 166 = .ok (.aload_n 0, 1) := by decide +kernel
theorem dX5_count_167 : decode cX5_count 167 = .ok (.getfield 10, 3) := by decide +kernel
theorem dX5_count_170 : decode cX5_count 170 = .ok (.getfield 126, 3) := by decide +kernel
theorem dX5_count_173 : decode cX5_count 173 = .ok (.getfield 197, 3) := by decide +kernel
theorem dX5_count_176 : decode cX5_count 176 = .ok (.ireturn, 1) := by decide +kernel
theorem dX5_count_177 : decode cX5_count 177 = .ok (.aload_n 0, 1) := by decide +kernel
theorem dX5_count_178 : decode cX5_count 178 = .ok (.getfield 10, 3) := by decide +kernel
theorem dX5_count_181 : decode cX5_count 181 = .ok (.getfield 126, 3) := by decide +kernel
theorem dX5_count_184 : decode cX5_count 184 = .ok (.getfield 198, 3) := by decide +kernel
theorem dX5_count_187 : decode cX5_count 187 = .ok (.ireturn, 1) := by decide +kernel
theorem dX5_count_188 : decode cX5_count 188 = .ok (.aload_n 0, 1) := by decide +kernel
theorem dX5_count_189 : decode cX5_count 189 = .ok (.getfield 10, 3) := by decide +kernel
theorem dX5_count_192 : decode cX5_count 192 = .ok (.getfield 201, 3) := by decide +kernel
theorem dX5_count_195 : decode cX5_count 195 = .ok (.ireturn, 1) := by decide +kernel
theorem dX5_count_196 : decode cX5_count 196 = .ok (.aload_n 0, 1) := by decide +kernel
theorem dX5_count_197 : decode cX5_count 197 = .ok (.getfield 22, 3) := by decide +kernel
theorem dX5_count_200 : decode cX5_count 200 = .ok (.getfield 204, 3) := by decide +kernel
theorem dX5_count_203 : decode cX5_count 203 = .ok (.ireturn, 1) := by decide +kernel
theorem dX5_count_204 : decode cX5_count 204 = .ok (.aload_n 0, 1) := by decide +kernel
theorem dX5_count_205 : decode cX5_count 205 = .ok (.getfield 29, 3) := by decide +kernel
theorem dX5_count_208 : decode cX5_count 208 = .ok (.getfield 205, 3) := by decide +kernel
theorem dX5_count_211 : decode cX5_count 211 = .ok (.ireturn, 1) := by decide +kernel
theorem dX5_count_212 : decode cX5_count 212 = .ok (.aload_n 0, 1) := by decide +kernel
theorem dX5_count_213 : decode cX5_count 213 = .ok (.getfield 10, 3) := by decide +kernel
theorem dX5_count_216 : decode cX5_count 216 = .ok (.getfield 208, 3) := by decide +kernel
theorem dX5_count_219 : decode cX5_count 219 = .ok (.ireturn, 1) := by decide +kernel
theorem dX5_count_220 : decode cX5_count 220 = .ok (.ldc 85, 2) := by decide +kernel
theorem dX5_count_222 : decode cX5_count 222 = .ok (.ireturn, 1) := by decide +kernel
set_option maxRecDepth 20000 in
theorem ggX5_startTrial_X4_becomeLike : GoodIn wsX5_startTrial wsX4_becomeLike := goodIn_r _ [7, 8, 9, 10, 11, 12, 13, 14, 15, 16, 17, 18, 19, 20, 21, 22, 23, 24, 25, 26, 27, 28, 29, 30, 31, 32, 33, 34, 35, 36, 37, 42, 43, 44, 45, 46, 47, 48, 49, 50, 51, 52, 53, 54, 55, 56] (by decide +kernel) (by decide +kernel)
set_option maxRecDepth 20000 in
theorem gX5_startTrial_X4_becomeLike : GoodIn wsX5_startTrial (wsV RX5 235 RX4 yX4_becomeLike wsX4_becomeLike) := goodIn_app (goodIn_of _ (by decide +kernel)) ggX5_startTrial_X4_becomeLike
theorem dX5_startTrial_0 : decode cX5_startTrial 0 = .ok (.aload_n 0, 1) := by decide +kernel
theorem dX5_startTrial_1 : decode cX5_startTrial 1 = .ok (.getfield 16, 3) := by decide +kernel
theorem dX5_startTrial_4 : decode cX5_startTrial 4 = .ok (.aload_n 0, 1) := by decide +kernel
theorem dX5_startTrial_5 : decode cX5_startTrial 5 = .ok (.getfield 10, 3) := by decide +kernel
theorem dX5_startTrial_8 : decode cX5_startTrial 8 = .ok (.invokevirtual 235, 3) := by decide +kernel
theorem dX5_startTrial_11 : decode cX5_startTrial 11 = .ok (.aload_n 0, 1) := by decide +kernel
theorem dX5_startTrial_12 : decode cX5_startTrial 12 = .ok (.getfield 16, 3) := by decide +kernel
theorem dX5_startTrial_15 : decode cX5_startTrial 15 = .ok (.areturn, 1) := by decide +kernel
set_option maxRecDepth 20000 in
theorem ggX5_keepTrial_X1_add : GoodIn wsX5_keepTrial wsX1_add := goodIn_r _ [8, 9, 10, 11, 16, 17, 18] (by decide +kernel) (by decide +kernel)
set_option maxRecDepth 20000 in
theorem gX5_keepTrial_X1_add : GoodIn wsX5_keepTrial (wsV RX5 239 RX1 yX1_add wsX1_add) := goodIn_app (goodIn_of _ (by decide +kernel)) ggX5_keepTrial_X1_add
theorem dX5_keepTrial_0 : decode cX5_keepTrial 0 = .ok (.iload_n 1, 1) := by decide +kernel
theorem dX5_keepTrial_1 : decode cX5_keepTrial 1 = .ok (.ifCond .lt 28, 3) := by decide +kernel
theorem dX5_keepTrial_4 : decode cX5_keepTrial 4 = .ok (.aload_n 0, 1) := by decide +kernel
theorem dX5_keepTrial_5 : decode cX5_keepTrial 5 = .ok (.getfield 10, 3) := by decide +kernel
theorem dX5_keepTrial_8 : decode cX5_keepTrial 8 = .ok (.astore_n 2, 1) := by decide +kernel
theorem dX5_keepTrial_9 : decode cX5_keepTrial 9 = .ok (.aload_n 0, 1) := by decide +kernel
theorem dX5_keepTrial_10 : decode cX5_keepTrial 10 = .ok (.aload_n 0, 1) := by decide +kernel
theorem dX5_keepTrial_11 : decode cX5_keepTrial 11 = .ok (.getfield 16, 3) := by decide +kernel
theorem dX5_keepTrial_14 : decode cX5_keepTrial 14 = .ok (.putfield 10, 3) := by decide +kernel
theorem dX5_keepTrial_17 : decode cX5_keepTrial 17 = .ok (.aload_n 0, 1) := by decide +kernel
theorem dX5_keepTrial_18 : decode cX5_keepTrial 18 = .ok (.aload_n 0, 1) := by decide +kernel
theorem dX5_keepTrial_19 : decode cX5_keepTrial 19 = .ok (.getfield 22, 3) := by decide +kernel
theorem dX5_keepTrial_22 : decode cX5_keepTrial 22 = .ok (.aload_n 2, 1) := by decide +kernel
theorem dX5_keepTrial_23 : decode cX5_keepTrial 23 = .ok (.invokevirtual 239, 3) := by decide +kernel
theorem dX5_keepTrial_26 : decode cX5_keepTrial 26 = .ok (.putfield 16, 3) := by decide +kernel
theorem dX5_keepTrial_29 : decode cX5_keepTrial 29 = .ok (.iload_n 1, 1) := by decide +kernel
theorem dX5_keepTrial_30 : decode cX5_keepTrial 30 = .ok (.ireturn, 1) := by decide +kernel
theorem dX5_isIndex_0 : decode cX5_isIndex 0 = .ok (.iload_n 0, 1) := by decide +kernel
theorem dX5_isIndex_1 : decode cX5_isIndex 1 = .ok (.ifCond .lt 12, 3) := by decide +kernel
theorem dX5_isIndex_4 : decode cX5_isIndex 4 = .ok (.iload_n 0, 1) := by decide +kernel
theorem dX5_isIndex_5 : decode cX5_isIndex 5 = .ok (.iload_n 1, 1) := by decide +kernel
theorem dX5_isIndex_6 : decode cX5_isIndex 6 = .ok (.if_icmp .ge 7, 3) := by decide +kernel
theorem dX5_isIndex_9 : decode cX5_isIndex 9 = .ok (.iconst 1, 1) := by decide +kernel
theorem dX5_isIndex_10 : decode cX5_isIndex 10 = .ok (.goto 4, 3) := by decide +kernel
theorem dX5_isIndex_13 : decode cX5_isIndex 13 = .ok (.iconst 0, 1) := by decide +kernel
theorem dX5_isIndex_14 : decode cX5_isIndex 14 = .ok (.ireturn, 1) := by decide +kernel
set_option maxRecDepth 20000 in
theorem ggX5_isRange_X5_isIndex : GoodIn wsX5_isRange wsX5_isIndex := goodIn_r _ [4] (by decide +kernel) (by decide +kernel)
set_option maxRecDepth 20000 in
theorem gX5_isRange_X5_isIndex : GoodIn wsX5_isRange (va_wsS RX5 81 yX5_isIndex wsX5_isIndex) := goodIn_app (goodIn_of _ (by decide +kernel)) ggX5_isRange_X5_isIndex
theorem dX5_isRange_0 : decode cX5_isRange 0 = .ok (.iload_n 0, 1) := by decide +kernel
theorem dX5_isRange_1 : decode cX5_isRange 1 = .ok (.bipush 48, 2) := by decide +kernel
theorem dX5_isRange_3 : decode cX5_isRange 3 = .ok (.invokestatic 81, 3) := by decide +kernel
theorem dX5_isRange_6 : decode cX5_isRange 6 = .ok (.ifCond .eq 20, 3) := by decide +kernel
theorem dX5_isRange_9 : decode cX5_isRange 9 = .ok (.iload_n 1, 1) := by decide +kernel
theorem dX5_isRange_10 : decode cX5_isRange 10 = .ok (.iconst 1, 1) := by decide +kernel
theorem dX5_isRange_11 : decode cX5_isRange 11 = .ok (.if_icmp .lt 15, 3) := by decide +kernel
theorem dX5_isRange_14 : decode cX5_isRange 14 = .ok (.iload_n 1, 1) := by decide +kernel
theorem dX5_isRange_15 : decode cX5_isRange 15 = .ok (.bipush 48, 2) := by decide +kernel
theorem dX5_isRange_17 : decode cX5_isRange 17 = .ok (.iload_n 0, 1) := by decide +kernel
theorem dX5_isRange_18 : decode cX5_isRange 18 = .ok (.isub, 1) := by decide +kernel
theorem dX5_isRange_19 : decode cX5_isRange 19 = .ok (.if_icmp .gt 7, 3) := by decide +kernel
theorem dX5_isRange_22 : decode cX5_isRange 22 = .ok (.iconst 1, 1) := by decide +kernel
theorem dX5_isRange_23 : decode cX5_isRange 23 = .ok (.goto 4, 3) := by decide +kernel
theorem dX5_isRange_26 : decode cX5_isRange 26 = .ok (.iconst 0, 1) := by decide +kernel
theorem dX5_isRange_27 : decode cX5_isRange 27 = .ok (.ireturn, 1) := by decide +kernel
theorem dX5_foundOr_0 : decode cX5_foundOr 0 = .ok (.iload_n 0, 1) := by decide +kernel
theorem dX5_foundOr_1 : decode cX5_foundOr 1 = .ok (.ifCond .lt 7, 3) := by decide +kernel
theorem dX5_foundOr_4 : decode cX5_foundOr 4 = .ok (.iload_n 0, 1) := by decide +kernel
theorem dX5_foundOr_5 : decode cX5_foundOr 5 = .ok (.goto 5, 3) := by decide +kernel
theorem dX5_foundOr_8 : decode cX5_foundOr 8 = .ok (.ldc 104, 2) := by decide +kernel
theorem dX5_foundOr_10 : decode cX5_foundOr 10 = .ok (.ireturn, 1) := by decide +kernel
theorem dL_cell_0 : decode cL_cell 0 = .ok (.iload_n 1, 1) := by decide +kernel
theorem dL_cell_1 : decode cL_cell 1 = .ok (.aload_n 0, 1) := by decide +kernel
theorem dL_cell_2 : decode cL_cell 2 = .ok (.arraylength, 1) := by decide +kernel
theorem dL_cell_3 : decode cL_cell 3 = .ok (.if_icmp .ge 9, 3) := by decide +kernel
theorem dL_cell_6 : decode cL_cell 6 = .ok (.aload_n 0, 1) := by decide +kernel
theorem dL_cell_7 : decode cL_cell 7 = .ok (.iload_n 1, 1) := by decide +kernel
theorem dL_cell_8 : decode cL_cell 8 = .ok (.iaload, 1) := by decide +kernel
theorem dL_cell_9 : decode cL_cell 9 = .ok (.goto 9, 3) := by decide +kernel
theorem dL_cell_12 : decode cL_cell 12 = .ok (.ldc 7, 2) := by decide +kernel
theorem dL_cell_14 : decode cL_cell 14 = .ok (.iload_n 1, 1) := by decide +kernel
theorem dL_cell_15 : decode cL_cell 15 = .ok (.iconst 3, 1) := by decide +kernel
theorem dL_cell_16 : decode cL_cell 16 = .ok (.iadd, 1) := by decide +kernel
theorem dL_cell_17 : decode cL_cell 17 = .ok (.imul, 1) := by decide +kernel
theorem dL_cell_18 : decode cL_cell 18 = .ok (.ireturn, 1) := by decide +kernel
theorem dL_low_0 : decode cL_low 0 = .ok (.iload_n 0, 1) := by decide +kernel
theorem dL_low_1 : decode cL_low 1 = .ok (.ldc 8, 2) := by decide +kernel
theorem dL_low_3 : decode cL_low 3 = .ok (.iand, 1) := by decide +kernel
theorem dL_low_4 : decode cL_low 4 = .ok (.iload_n 1, 1) := by decide +kernel
theorem dL_low_5 : decode cL_low 5 = .ok (.irem, 1) := by decide +kernel
theorem dL_low_6 : decode cL_low 6 = .ok (.ireturn, 1) := by decide +kernel
theorem dL_find_0 : decode cL_find 0 = .ok (.iconst 0, 1) := by decide +kernel
theorem dL_find_1 : decode cL_find 1 = .ok (.istore_n 3, 1) := by decide +kernel
theorem dL_find_2 : decode cL_find 2 = .ok (.iload_n 3, 1) := by decide +kernel
theorem dL_find_3 : decode cL_find 3 = .ok (.aload_n 0, 1) := by decide +kernel
theorem dL_find_4 : decode cL_find 4 = .ok (.iconst 0, 1) := by decide +kernel
theorem dL_find_5 : decode cL_find 5 = .ok (.iaload, 1) := by decide +kernel
theorem dL_find_6 : decode cL_find 6 = .ok (.if_icmp .ge 16, 3) := by decide +kernel
