theorem dX5_read_25 : decode cX5_read 25 = .ok (.ldc 85, 2) := by decide +kernel
theorem dX5_read_27 : decode cX5_read 27 = .ok (.ireturn, 1) := by decide +kernel
theorem dX5_read_28 : decode cX5_read 28 = .ok (.aload_n 0, 1) := by decide +kernel
theorem dX5_read_29 : decode cX5_read 29 = .ok (.getfield 10, 3) := by decide +kernel
theorem dX5_read_32 : decode cX5_read 32 = .ok (.iload_n 3, 1) := by decide +kernel
theorem dX5_read_33 : decode cX5_read 33 = .ok (.iload_n 2, 1) := by decide +kernel
theorem dX5_read_34 : decode cX5_read 34 = .ok (.invokevirtual 86, 3) := by decide +kernel
theorem dX5_read_37 : decode cX5_read 37 = .ok (.ireturn, 1) := by decide +kernel
set_option maxRecDepth 20000 in
theorem ggX5_stateOf_X3_slotOf : GoodIn wsX5_stateOf wsX3_slotOf := goodIn_r _ [9, 10, 11, 109, 110, 111, 112, 113] (by decide +kernel) (by decide +kernel)
set_option maxRecDepth 20000 in
theorem gX5_stateOf_X3_slotOf : GoodIn wsX5_stateOf (wsV RX5 76 RX3 yX3_slotOf wsX3_slotOf) := goodIn_app (goodIn_of _ (by decide +kernel)) ggX5_stateOf_X3_slotOf
set_option maxRecDepth 20000 in
theorem ggX5_stateOf_X3_parentOf : GoodIn wsX5_stateOf wsX3_parentOf := goodIn_r _ [15, 10, 16, 109, 110, 111, 112, 113] (by decide +kernel) (by decide +kernel)
set_option maxRecDepth 20000 in
theorem gX5_stateOf_X3_parentOf : GoodIn wsX5_stateOf (wsV RX5 89 RX3 yX3_parentOf wsX3_parentOf) := goodIn_app (goodIn_of _ (by decide +kernel)) ggX5_stateOf_X3_parentOf
set_option maxRecDepth 20000 in
theorem ggX5_stateOf_X5_foundOr : GoodIn wsX5_stateOf wsX5_foundOr := goodIn_r _ [20, 4] (by decide +kernel) (by decide +kernel)
set_option maxRecDepth 20000 in
theorem gX5_stateOf_X5_foundOr : GoodIn wsX5_stateOf (va_wsS RX5 92 yX5_foundOr wsX5_foundOr) := goodIn_app (goodIn_of _ (by decide +kernel)) ggX5_stateOf_X5_foundOr
set_option maxRecDepth 20000 in
theorem ggX5_stateOf_X3_childrenOf : GoodIn wsX5_stateOf wsX3_childrenOf := goodIn_r _ [24, 10, 16, 25, 26, 27, 8, 28, 11, 109, 110, 111, 112, 113] (by decide +kernel) (by decide +kernel)
set_option maxRecDepth 20000 in
theorem gX5_stateOf_X3_childrenOf : GoodIn wsX5_stateOf (wsV RX5 95 RX3 yX3_childrenOf wsX3_childrenOf) := goodIn_app (goodIn_of _ (by decide +kernel)) ggX5_stateOf_X3_childrenOf
set_option maxRecDepth 20000 in
theorem ggX5_stateOf_X3_stepsFrom : GoodIn wsX5_stateOf wsX3_stepsFrom := goodIn_r _ [32, 33, 34, 35, 8, 36, 37, 13, 14, 15, 10, 16, 38, 6, 7, 9, 11, 109, 110, 111, 112, 113] (by decide +kernel) (by decide +kernel)
set_option maxRecDepth 20000 in
theorem gX5_stateOf_X3_stepsFrom : GoodIn wsX5_stateOf (wsV RX5 98 RX3 yX3_stepsFrom wsX3_stepsFrom) := goodIn_app (goodIn_of _ (by decide +kernel)) ggX5_stateOf_X3_stepsFrom
set_option maxRecDepth 20000 in
theorem ggX5_stateOf_X4_sumOfState : GoodIn wsX5_stateOf wsX4_sumOfState := goodIn_r _ [43, 44, 45, 46, 47, 48, 8, 49, 10, 50, 51, 52, 53, 54, 55, 56, 57, 58, 59, 60, 103, 104, 105, 106, 107, 108, 109, 110, 111, 112, 113, 114, 115, 116, 117] (by decide +kernel) (by decide +kernel)
set_option maxRecDepth 20000 in
theorem gX5_stateOf_X4_sumOfState : GoodIn wsX5_stateOf (wsV RX5 101 RX4 yX4_sumOfState wsX4_sumOfState) := goodIn_app (goodIn_of _ (by decide +kernel)) ggX5_stateOf_X4_sumOfState
set_option maxRecDepth 20000 in
theorem ggX5_stateOf_X3_parentSlot : GoodIn wsX5_stateOf wsX3_parentSlot := goodIn_r _ [36, 37, 13, 14, 8, 15, 10, 16, 38, 6, 7, 9, 11, 109, 110, 111, 112, 113] (by decide +kernel) (by decide +kernel)
set_option maxRecDepth 20000 in
theorem gX5_stateOf_X3_parentSlot : GoodIn wsX5_stateOf (wsV RX5 105 RX3 yX3_parentSlot wsX3_parentSlot) := goodIn_app (goodIn_of _ (by decide +kernel)) ggX5_stateOf_X3_parentSlot
set_option maxRecDepth 20000 in
theorem ggX5_stateOf_X3_unlikePlaces : GoodIn wsX5_stateOf wsX3_unlikePlaces := goodIn_r _ [65, 66, 47, 48, 8, 49, 10, 50, 109, 110, 111, 112, 113] (by decide +kernel) (by decide +kernel)
set_option maxRecDepth 20000 in
theorem gX5_stateOf_X3_unlikePlaces : GoodIn wsX5_stateOf (wsV RX5 108 RX3 yX3_unlikePlaces wsX3_unlikePlaces) := goodIn_app (goodIn_of _ (by decide +kernel)) ggX5_stateOf_X3_unlikePlaces
set_option maxRecDepth 20000 in
theorem ggX5_stateOf_X4_placesOfItsOwn : GoodIn wsX5_stateOf wsX4_placesOfItsOwn := goodIn_r _ [70, 71, 72, 73, 42, 74, 45, 44, 46, 47, 48, 8, 49, 10, 50, 75, 76, 77, 54, 78, 79, 80, 19, 81, 82, 83, 84, 85, 66, 103, 104, 105, 106, 107, 108, 109, 110, 111, 112, 113, 114, 115, 116, 117] (by decide +kernel) (by decide +kernel)
set_option maxRecDepth 20000 in
theorem gX5_stateOf_X4_placesOfItsOwn : GoodIn wsX5_stateOf (wsV RX5 111 RX4 yX4_placesOfItsOwn wsX4_placesOfItsOwn) := goodIn_app (goodIn_of _ (by decide +kernel)) ggX5_stateOf_X4_placesOfItsOwn
set_option maxRecDepth 20000 in
theorem ggX5_stateOf_X3_blocksIn : GoodIn wsX5_stateOf wsX3_blocksIn := goodIn_r _ [89, 90, 91, 92, 8, 93, 66, 47, 48, 49, 10, 50, 109, 110, 111, 112, 113] (by decide +kernel) (by decide +kernel)
set_option maxRecDepth 20000 in
theorem gX5_stateOf_X3_blocksIn : GoodIn wsX5_stateOf (wsV RX5 114 RX3 yX3_blocksIn wsX3_blocksIn) := goodIn_app (goodIn_of _ (by decide +kernel)) ggX5_stateOf_X3_blocksIn
set_option maxRecDepth 20000 in
theorem ggX5_stateOf_X4_branchesAt : GoodIn wsX5_stateOf wsX4_branchesAt := goodIn_r _ [97, 98, 103, 104, 105, 106, 107, 108] (by decide +kernel) (by decide +kernel)
set_option maxRecDepth 20000 in
theorem gX5_stateOf_X4_branchesAt : GoodIn wsX5_stateOf (wsV RX5 117 RX4 yX4_branchesAt wsX4_branchesAt) := goodIn_app (goodIn_of _ (by decide +kernel)) ggX5_stateOf_X4_branchesAt
theorem dX5_stateOf_0 : decode cX5_stateOf 0 = .ok (.aload_n 0, 1) := by decide +kernel
theorem dX5_stateOf_1 : decode cX5_stateOf 1 = .ok (.getfield 10, 3) := by decide +kernel
theorem dX5_stateOf_4 : decode cX5_stateOf 4 = .ok (.getfield 72, 3) := by decide +kernel
theorem dX5_stateOf_7 : decode cX5_stateOf 7 = .ok (.iload_n 1, 1) := by decide +kernel
theorem dX5_stateOf_8 : decode cX5_stateOf 8 = .ok (.invokevirtual 76, 3) := by decide +kernel
theorem dX5_stateOf_11 : decode cX5_stateOf 11 = .ok (.istore_n 3, 1) := by decide +kernel
theorem dX5_stateOf_12 : decode cX5_stateOf 12 = .ok (.iload_n 3, 1) := by decide +kernel
theorem dX5_stateOf_13 : decode cX5_stateOf 13 = .ok (.ifCond .ge 6, 3) := by decide +kernel
theorem dX5_stateOf_16 : decode cX5_stateOf 16 = .ok (.ldc 85, 2) := by decide +kernel
theorem dX5_stateOf_18 : decode cX5_stateOf 18 = .ok (.ireturn, 1) := by decide +kernel
theorem dX5_stateOf_19 : decode cX5_stateOf 19 = .ok (.iload_n 2, 1) := by decide +kernel
theorem dX5_stateOf_20 : decode cX5_stateOf 20 = .ok (.tableswitch 158 0 7 #[48, 63, 75, 87, 96, 128, 137, 149], 48) := by decide +kernel
theorem dX5_stateOf_68 : decode cX5_stateOf 68 = .ok (.aload_n 0, 1) := by decide +kernel
theorem dX5_stateOf_69 : decode cX5_stateOf 69 = .ok (.getfield 10, 3) := by decide +kernel
theorem dX5_stateOf_72 : decode cX5_stateOf 72 = .ok (.getfield 72, 3) := by decide +kernel
theorem dX5_stateOf_75 : decode cX5_stateOf 75 = .ok (.iload_n 3, 1) := by decide +kernel
theorem dX5_stateOf_76 : decode cX5_stateOf 76 = .ok (.invokevirtual 89, 3) := by decide +kernel
theorem dX5_stateOf_79 : decode cX5_stateOf 79 = .ok (.invokestatic 92, 3) := by decide +kernel
theorem dX5_stateOf_82 : decode cX5_stateOf 82 = .ok (.ireturn, 1) := by decide +kernel
theorem dX5_stateOf_83 : decode cX5_stateOf 83 = .ok (.aload_n 0, 1) := by decide +kernel
theorem dX5_stateOf_84 : decode cX5_stateOf 84 = .ok (.getfield 10, 3) := by decide +kernel
theorem dX5_stateOf_87 : decode cX5_stateOf 87 = .ok (.getfield 72, 3) := by decide +kernel
theorem dX5_stateOf_90 : decode cX5_stateOf 90 = .ok (.iload_n 3, 1) := by decide +kernel
theorem dX5_stateOf_91 : decode cX5_stateOf 91 = .ok (.invokevirtual 95, 3) := by decide +kernel
theorem dX5_stateOf_94 : decode cX5_stateOf 94 = .ok (.ireturn, 1) := by decide +kernel
theorem dX5_stateOf_95 : decode cX5_stateOf 95 = .ok (.aload_n 0, 1) := by decide +kernel
theorem dX5_stateOf_96 : decode cX5_stateOf 96 = .ok (.getfield 10, 3) := by decide +kernel
theorem dX5_stateOf_99 : decode cX5_stateOf 99 = .ok (.getfield 72, 3) := by decide +kernel
theorem dX5_stateOf_102 : decode cX5_stateOf 102 = .ok (.iload_n 3, 1) := by decide +kernel
theorem dX5_stateOf_103 : decode cX5_stateOf 103 = .ok (.invokevirtual 98, 3) := by decide +kernel
theorem dX5_stateOf_106 : decode cX5_stateOf 106 = .ok (.ireturn, 1) := by decide +kernel
theorem dX5_stateOf_107 : decode cX5_stateOf 107 = .ok (.aload_n 0, 1) := by decide +kernel
theorem dX5_stateOf_108 : decode cX5_stateOf 108 = .ok (.getfield 10, 3) := by decide +kernel
theorem dX5_stateOf_111 : decode cX5_stateOf 111 = .ok (.iload_n 3, 1) := by decide +kernel
theorem dX5_stateOf_112 : decode cX5_stateOf 112 = .ok (.invokevirtual 101, 3) := by decide +kernel
theorem dX5_stateOf_115 : decode cX5_stateOf 115 = .ok (.ireturn, 1) := by decide +kernel
theorem dX5_stateOf_116 : decode cX5_stateOf 116 = .ok (.iload_n 3, 1) := by decide +kernel
theorem dX5_stateOf_117 : decode cX5_stateOf 117 = .ok (.ifCond .ne 8, 3) := by decide +kernel
theorem dX5_stateOf_120 : decode cX5_stateOf 120 = .ok (.ldc 104, 2) := by decide +kernel
theorem dX5_stateOf_122 : decode cX5_stateOf 122 = .ok (.goto 25, 3) := by decide +kernel
theorem dX5_stateOf_125 : decode cX5_stateOf 125 = .ok (.aload_n 0, 1) := by decide +kernel
theorem dX5_stateOf_126 : decode cX5_stateOf 126 = .ok (.getfield 10, 3) := by decide +kernel
theorem dX5_stateOf_129 : decode cX5_stateOf 129 = .ok (.getfield 72, 3) := by decide +kernel
theorem dX5_stateOf_132 : decode cX5_stateOf 132 = .ok (.iload_n 3, 1) := by decide +kernel
theorem dX5_stateOf_133 : decode cX5_stateOf 133 = .ok (.aload_n 0, 1) := by decide +kernel
theorem dX5_stateOf_134 : decode cX5_stateOf 134 = .ok (.getfield 10, 3) := by decide +kernel
theorem dX5_stateOf_137 : decode cX5_stateOf 137 = .ok (.getfield 72, 3) := by decide +kernel
theorem dX5_stateOf_140 : decode cX5_stateOf 140 = .ok (.iload_n 3, 1) := by decide +kernel
theorem dX5_stateOf_141 : decode cX5_stateOf 141 = .ok (.invokevirtual 105, 3) := by decide +kernel
theorem dX5_stateOf_144 : decode cX5_stateOf 144 = .ok (.invokevirtual 108, 3) := by decide +kernel
theorem dX5_stateOf_147 : decode cX5_stateOf 147 = .ok (.ireturn, 1) := by decide +kernel
theorem dX5_stateOf_148 : decode cX5_stateOf 148 = .ok (.aload_n 0, 1) := by decide +kernel
theorem dX5_stateOf_149 : decode cX5_stateOf 149 = .ok (.getfield 10, 3) := by decide +kernel
theorem dX5_stateOf_152 : decode cX5_stateOf 152 = .ok (.iload_n 3, 1) := by decide +kernel
theorem dX5_stateOf_153 : decode cX5_stateOf 153 = .ok (.invokevirtual 111, 3) := by decide +kernel
theorem dX5_stateOf_156 : decode cX5_stateOf 156 = .ok (.ireturn, 1) := by decide +kernel
theorem dX5_stateOf_157 : decode cX5_stateOf 157 = .ok (.aload_n 0, 1) := by decide +kernel
theorem dX5_stateOf_158 : decode cX5_stateOf 158 = .ok (.getfield 10, 3) := by decide +kernel
theorem dX5_stateOf_161 : decode cX5_stateOf 161 = .ok (.getfield 72, 3) := by decide +kernel
theorem dX5_stateOf_164 : decode cX5_stateOf 164 = .ok (.iload_n 3, 1) := by decide +kernel
theorem dX5_stateOf_165 : decode cX5_stateOf 165 = .ok (.invokevirtual 114, 3) := by decide +kernel
theorem dX5_stateOf_168 : decode cX5_stateOf 168 = .ok (.ireturn, 1) := by decide +kernel
theorem dX5_stateOf_169 : decode cX5_stateOf 169 = .ok (.aload_n 0, 1) := by decide +kernel
theorem dX5_stateOf_170 : decode cX5_stateOf 170 = .ok (.getfield 10, 3) := by decide +kernel
theorem dX5_stateOf_173 : decode cX5_stateOf 173 = .ok (.iload_n 1, 1) := by decide +kernel
theorem dX5_stateOf_174 : decode cX5_stateOf 174 = .ok (.invokevirtual 117, 3) := by decide +kernel
theorem dX5_stateOf_177 : decode cX5_stateOf 177 = .ok (.ireturn, 1) := by decide +kernel
theorem dX5_stateOf_178 : decode cX5_stateOf 178 = .ok (.ldc 85, 2) := by decide +kernel
theorem dX5_stateOf_180 : decode cX5_stateOf 180 = .ok (.ireturn, 1) := by decide +kernel
set_option maxRecDepth 20000 in
theorem ggX5_number_X3_numberOf : GoodIn wsX5_number wsX3_numberOf := goodIn_r _ [8, 9, 10, 26, 27, 28, 29, 30] (by decide +kernel) (by decide +kernel)
set_option maxRecDepth 20000 in
theorem gX5_number_X3_numberOf : GoodIn wsX5_number (wsV RX5 120 RX3 yX3_numberOf wsX3_numberOf) := goodIn_app (goodIn_of _ (by decide +kernel)) ggX5_number_X3_numberOf
set_option maxRecDepth 20000 in
theorem ggX5_number_X5_foundOr : GoodIn wsX5_number wsX5_foundOr := goodIn_r _ [14, 15] (by decide +kernel) (by decide +kernel)
set_option maxRecDepth 20000 in
theorem gX5_number_X5_foundOr : GoodIn wsX5_number (va_wsS RX5 92 yX5_foundOr wsX5_foundOr) := goodIn_app (goodIn_of _ (by decide +kernel)) ggX5_number_X5_foundOr
theorem dX5_number_0 : decode cX5_number 0 = .ok (.iload_n 1, 1) := by decide +kernel
theorem dX5_number_1 : decode cX5_number 1 = .ok (.ifCond .ge 6, 3) := by decide +kernel
theorem dX5_number_4 : decode cX5_number 4 = .ok (.ldc 85, 2) := by decide +kernel
theorem dX5_number_6 : decode cX5_number 6 = .ok (.ireturn, 1) := by decide +kernel
theorem dX5_number_7 : decode cX5_number 7 = .ok (.aload_n 0, 1) := by decide +kernel
theorem dX5_number_8 : decode cX5_number 8 = .ok (.getfield 10, 3) := by decide +kernel
theorem dX5_number_11 : decode cX5_number 11 = .ok (.getfield 72, 3) := by decide +kernel
theorem dX5_number_14 : decode cX5_number 14 = .ok (.iload_n 1, 1) := by decide +kernel
theorem dX5_number_15 : decode cX5_number 15 = .ok (.invokevirtual 120, 3) := by decide +kernel
theorem dX5_number_18 : decode cX5_number 18 = .ok (.invokestatic 92, 3) := by decide +kernel
theorem dX5_number_21 : decode cX5_number 21 = .ok (.ireturn, 1) := by decide +kernel
set_option maxRecDepth 20000 in
theorem ggX5_blockAt_X3_slotOf : GoodIn wsX5_blockAt wsX3_slotOf := goodIn_r _ [8, 9, 10, 30, 31, 32, 33, 34] (by decide +kernel) (by decide +kernel)
set_option maxRecDepth 20000 in
theorem gX5_blockAt_X3_slotOf : GoodIn wsX5_blockAt (wsV RX5 76 RX3 yX3_slotOf wsX3_slotOf) := goodIn_app (goodIn_of _ (by decide +kernel)) ggX5_blockAt_X3_slotOf
set_option maxRecDepth 20000 in
theorem ggX5_blockAt_X5_isIndex : GoodIn wsX5_blockAt wsX5_isIndex := goodIn_r _ [14] (by decide +kernel) (by decide +kernel)
set_option maxRecDepth 20000 in
theorem gX5_blockAt_X5_isIndex : GoodIn wsX5_blockAt (va_wsS RX5 81 yX5_isIndex wsX5_isIndex) := goodIn_app (goodIn_of _ (by decide +kernel)) ggX5_blockAt_X5_isIndex
set_option maxRecDepth 20000 in
theorem ggX5_blockAt_X3_block : GoodIn wsX5_blockAt wsX3_block := goodIn_r _ [18, 9, 19, 30, 31, 32, 33, 34] (by decide +kernel) (by decide +kernel)
set_option maxRecDepth 20000 in
theorem gX5_blockAt_X3_block : GoodIn wsX5_blockAt (wsV RX5 123 RX3 yX3_block wsX3_block) := goodIn_app (goodIn_of _ (by decide +kernel)) ggX5_blockAt_X3_block
theorem dX5_blockAt_0 : decode cX5_blockAt 0 = .ok (.aload_n 0, 1) := by decide +kernel
theorem dX5_blockAt_1 : decode cX5_blockAt 1 = .ok (.getfield 10, 3) := by decide +kernel
theorem dX5_blockAt_4 : decode cX5_blockAt 4 = .ok (.getfield 72, 3) := by decide +kernel
theorem dX5_blockAt_7 : decode cX5_blockAt 7 = .ok (.iload_n 1, 1) := by decide +kernel
theorem dX5_blockAt_8 : decode cX5_blockAt 8 = .ok (.invokevirtual 76, 3) := by decide +kernel
theorem dX5_blockAt_11 : decode cX5_blockAt 11 = .ok (.istore_n 3, 1) := by decide +kernel
theorem dX5_blockAt_12 : decode cX5_blockAt 12 = .ok (.iload_n 3, 1) := by decide +kernel
theorem dX5_blockAt_13 : decode cX5_blockAt 13 = .ok (.ifCond .lt 12, 3) := by decide +kernel
theorem dX5_blockAt_16 : decode cX5_blockAt 16 = .ok (.iload_n 2, 1) := by decide +kernel
theorem dX5_blockAt_17 : decode cX5_blockAt 17 = .ok (.bipush 6, 2) := by decide +kernel
theorem dX5_blockAt_19 : decode cX5_blockAt 19 = .ok (.invokestatic 81, 3) := by decide +kernel
theorem dX5_blockAt_22 : decode cX5_blockAt 22 = .ok (.ifCond .ne 6, 3) := by decide +kernel
theorem dX5_blockAt_25 : decode cX5_blockAt 25 = .ok (.ldc 85, 2) := by decide +kernel
theorem dX5_blockAt_27 : decode cX5_blockAt 27 = .ok (.ireturn, 1) := by decide +kernel
theorem dX5_blockAt_28 : decode cX5_blockAt 28 = .ok (.aload_n 0, 1) := by decide +kernel
theorem dX5_blockAt_29 : decode cX5_blockAt 29 = .ok (.getfield 10, 3) := by decide +kernel
theorem dX5_blockAt_32 : decode cX5_blockAt 32 = .ok (.getfield 72, 3) := by decide +kernel
theorem dX5_blockAt_35 : decode cX5_blockAt 35 = .ok (.iload_n 3, 1) := by decide +kernel
theorem dX5_blockAt_36 : decode cX5_blockAt 36 = .ok (.iload_n 2, 1) := by decide +kernel
theorem dX5_blockAt_37 : decode cX5_blockAt 37 = .ok (.invokevirtual 123, 3) := by decide +kernel
theorem dX5_blockAt_40 : decode cX5_blockAt 40 = .ok (.ireturn, 1) := by decide +kernel
set_option maxRecDepth 20000 in
theorem ggX5_blockOf_X0_isThere : GoodIn wsX5_blockOf wsX0_isThere := goodIn_r _ [9, 10, 68, 69, 70, 71] (by decide +kernel) (by decide +kernel)
set_option maxRecDepth 20000 in
theorem gX5_blockOf_X0_isThere : GoodIn wsX5_blockOf (wsV RX5 130 RX0 yX0_isThere wsX0_isThere) := goodIn_app (goodIn_of _ (by decide +kernel)) ggX5_blockOf_X0_isThere
set_option maxRecDepth 20000 in
theorem ggX5_blockOf_X0_usesOf : GoodIn wsX5_blockOf wsX0_usesOf := goodIn_r _ [14, 10, 15, 16, 17, 68, 69, 70, 71] (by decide +kernel) (by decide +kernel)
set_option maxRecDepth 20000 in
theorem gX5_blockOf_X0_usesOf : GoodIn wsX5_blockOf (wsV RX5 136 RX0 yX0_usesOf wsX0_usesOf) := goodIn_app (goodIn_of _ (by decide +kernel)) ggX5_blockOf_X0_usesOf
set_option maxRecDepth 20000 in
theorem ggX5_blockOf_X3_statesWith : GoodIn wsX5_blockOf wsX3_statesWith := goodIn_r _ [22, 23, 24, 25, 26, 21, 27, 28, 29, 30, 31, 32, 72, 73, 74, 75, 76] (by decide +kernel) (by decide +kernel)
set_option maxRecDepth 20000 in
theorem gX5_blockOf_X3_statesWith : GoodIn wsX5_blockOf (wsV RX5 139 RX3 yX3_statesWith wsX3_statesWith) := goodIn_app (goodIn_of _ (by decide +kernel)) ggX5_blockOf_X3_statesWith
set_option maxRecDepth 20000 in
theorem ggX5_blockOf_X0_sumOf : GoodIn wsX5_blockOf wsX0_sumOf := goodIn_r _ [36, 37, 38, 39, 8, 40, 41, 68, 69, 70, 71] (by decide +kernel) (by decide +kernel)
set_option maxRecDepth 20000 in
theorem gX5_blockOf_X0_sumOf : GoodIn wsX5_blockOf (wsV RX5 142 RX0 yX0_sumOf wsX0_sumOf) := goodIn_app (goodIn_of _ (by decide +kernel)) ggX5_blockOf_X0_sumOf
set_option maxRecDepth 20000 in
theorem ggX5_blockOf_X0_nonZeroCells : GoodIn wsX5_blockOf wsX0_nonZeroCells := goodIn_r _ [45, 37, 38, 39, 8, 40, 41, 68, 69, 70, 71] (by decide +kernel) (by decide +kernel)
set_option maxRecDepth 20000 in
theorem gX5_blockOf_X0_nonZeroCells : GoodIn wsX5_blockOf (wsV RX5 145 RX0 yX0_nonZeroCells wsX0_nonZeroCells) := goodIn_app (goodIn_of _ (by decide +kernel)) ggX5_blockOf_X0_nonZeroCells
set_option maxRecDepth 20000 in
theorem ggX5_blockOf_X0_lowestOtherLike : GoodIn wsX5_blockOf wsX0_lowestOtherLike := goodIn_r _ [49, 41, 50, 51, 52, 8, 53, 10, 68, 69, 70, 71] (by decide +kernel) (by decide +kernel)
set_option maxRecDepth 20000 in
theorem gX5_blockOf_X0_lowestOtherLike : GoodIn wsX5_blockOf (wsV RX5 148 RX0 yX0_lowestOtherLike wsX0_lowestOtherLike) := goodIn_app (goodIn_of _ (by decide +kernel)) ggX5_blockOf_X0_lowestOtherLike
set_option maxRecDepth 20000 in
theorem ggX5_blockOf_X5_foundOr : GoodIn wsX5_blockOf wsX5_foundOr := goodIn_r _ [56, 57] (by decide +kernel) (by decide +kernel)
set_option maxRecDepth 20000 in
theorem gX5_blockOf_X5_foundOr : GoodIn wsX5_blockOf (va_wsS RX5 92 yX5_foundOr wsX5_foundOr) := goodIn_app (goodIn_of _ (by decide +kernel)) ggX5_blockOf_X5_foundOr
theorem dX5_blockOf_0 : decode cX5_blockOf 0 = .ok (.aload_n 0, 1) := by decide +kernel
theorem dX5_blockOf_1 : decode cX5_blockOf 1 = .ok (.getfield 10, 3) := by decide +kernel
theorem dX5_blockOf_4 : decode cX5_blockOf 4 = .ok (.getfield 126, 3) := by decide +kernel
theorem dX5_blockOf_7 : decode cX5_blockOf 7 = .ok (.iload_n 1, 1) := by decide +kernel
theorem dX5_blockOf_8 : decode cX5_blockOf 8 = .ok (.invokevirtual 130, 3) := by decide +kernel
theorem dX5_blockOf_11 : decode cX5_blockOf 11 = .ok (.ifCond .ne 6, 3) := by decide +kernel
theorem dX5_blockOf_14 : decode cX5_blockOf 14 = .ok (.ldc 85, 2) := by decide +kernel
theorem dX5_blockOf_16 : decode cX5_blockOf 16 = .ok (.ireturn, 1) := by decide +kernel
theorem dX5_blockOf_17 : decode cX5_blockOf 17 = .ok (.iload_n 2, 1) := by decide +kernel
theorem dX5_blockOf_18 : decode cX5_blockOf 18 = .ok (.tableswitch 97 0 4 #[34, 46, 58, 70, 82], 34) := by decide +kernel
theorem dX5_blockOf_52 : decode cX5_blockOf 52 = .ok (.aload_n 0, 1) := by decide +kernel
theorem dX5_blockOf_53 : decode cX5_blockOf 53 = .ok (.getfield 10, 3) := by decide +kernel
theorem dX5_blockOf_56 : decode cX5_blockOf 56 = .ok (.getfield 126, 3) := by decide +kernel
theorem dX5_blockOf_59 : decode cX5_blockOf 59 = .ok (.iload_n 1, 1) := by decide +kernel
theorem dX5_blockOf_60 : decode cX5_blockOf 60 = .ok (.invokevirtual 136, 3) := by decide +kernel
theorem dX5_blockOf_63 : decode cX5_blockOf 63 = .ok (.ireturn, 1) := by decide +kernel
theorem dX5_blockOf_64 : decode cX5_blockOf 64 = .ok (.aload_n 0, 1) := by decide +kernel
theorem dX5_blockOf_65 : decode cX5_blockOf 65 = .ok (.getfield 10, 3) := by decide +kernel
theorem dX5_blockOf_68 : decode cX5_blockOf 68 = .ok (.getfield 72, 3) := by decide +kernel
theorem dX5_blockOf_71 : decode cX5_blockOf 71 = .ok (.iload_n 1, 1) := by decide +kernel
theorem dX5_blockOf_72 : decode cX5_blockOf 72 = .ok (.invokevirtual 139, 3) := by decide +kernel
theorem dX5_blockOf_75 : decode cX5_blockOf 75 = .ok (.ireturn, 1) := by decide +kernel
theorem dX5_blockOf_76 : decode cX5_blockOf 76 = .ok (.aload_n 0, 1) := by decide +kernel
theorem dX5_blockOf_77 : decode cX5_blockOf 77 = .ok (.getfield 10, 3) := by decide +kernel
theorem dX5_blockOf_80 : decode cX5_blockOf 80 = .ok (.getfield 126, 3) := by decide +kernel
theorem dX5_blockOf_83 : decode cX5_blockOf 83 = .ok (.iload_n 1, 1) := by decide +kernel
theorem dX5_blockOf_84 : decode cX5_blockOf 84 = .ok (.invokevirtual 142, 3) := by decide +kernel
theorem dX5_blockOf_87 : decode cX5_blockOf 87 = .ok (.ireturn, 1) := by decide +kernel
theorem dX5_blockOf_88 : decode cX5_blockOf 88 = .ok (.aload_n 0, 1) := by decide +kernel
theorem dX5_blockOf_89 : decode cX5_blockOf 89 = .ok (.getfield 10, 3) := by decide +kernel
theorem dX5_blockOf_92 : decode cX5_blockOf 92 = .ok (.getfield 126, 3) := by decide +kernel
theorem dX5_blockOf_95 : decode cX5_blockOf 95 = .ok (.iload_n 1, 1) := by decide +kernel
theorem dX5_blockOf_96 : decode cX5_blockOf 96 = .ok (.invokevirtual 145, 3) := by decide +kernel
theorem dX5_blockOf_99 : decode cX5_blockOf 99 = .ok (.ireturn, 1) := by decide +kernel
theorem dX5_blockOf_100 : decode cX5_blockOf 100 = .ok (.aload_n 0, 1) := by decide +kernel
theorem dX5_blockOf_101 : decode cX5_blockOf 101 = .ok (.getfield 10, 3) := by decide +kernel
theorem dX5_blockOf_104 : decode cX5_blockOf 104 = .ok (.getfield 126, 3) := by decide +kernel
theorem dX5_blockOf_107 : decode cX5_blockOf 107 = .ok (.iload_n 1, 1) := by decide +kernel
theorem dX5_blockOf_108 : decode cX5_blockOf 108 = .ok (.invokevirtual 148, 3) := by decide +kernel
theorem dX5_blockOf_111 : decode cX5_blockOf 111 = .ok (.invokestatic 92, 3) := by decide +kernel
theorem dX5_blockOf_114 : decode cX5_blockOf 114 = .ok (.ireturn, 1) := by decide +kernel
theorem dX5_blockOf_115 : decode cX5_blockOf 115 = .ok (.ldc 85, 2) := by decide +kernel
theorem dX5_blockOf_117 : decode cX5_blockOf 117 = .ok (.ireturn, 1) := by decide +kernel
set_option maxRecDepth 20000 in
theorem ggX5_head_X4_isBranch : GoodIn wsX5_head wsX4_isBranch := goodIn_r _ [8, 9, 10, 11, 12, 17, 18, 19, 20, 21, 22] (by decide +kernel) (by decide +kernel)
set_option maxRecDepth 20000 in
theorem gX5_head_X4_isBranch : GoodIn wsX5_head (wsV RX5 151 RX4 yX4_isBranch wsX4_isBranch) := goodIn_app (goodIn_of _ (by decide +kernel)) ggX5_head_X4_isBranch
theorem dX5_head_0 : decode cX5_head 0 = .ok (.aload_n 0, 1) := by decide +kernel
theorem dX5_head_1 : decode cX5_head 1 = .ok (.getfield 10, 3) := by decide +kernel
theorem dX5_head_4 : decode cX5_head 4 = .ok (.iload_n 1, 1) := by decide +kernel
theorem dX5_head_5 : decode cX5_head 5 = .ok (.invokevirtual 151, 3) := by decide +kernel
theorem dX5_head_8 : decode cX5_head 8 = .ok (.ifCond .eq 15, 3) := by decide +kernel
theorem dX5_head_11 : decode cX5_head 11 = .ok (.aload_n 0, 1) := by decide +kernel
theorem dX5_head_12 : decode cX5_head 12 = .ok (.getfield 10, 3) := by decide +kernel
theorem dX5_head_15 : decode cX5_head 15 = .ok (.getfield 154, 3) := by decide +kernel
theorem dX5_head_18 : decode cX5_head 18 = .ok (.iload_n 1, 1) := by decide +kernel
theorem dX5_head_19 : decode cX5_head 19 = .ok (.iaload, 1) := by decide +kernel
theorem dX5_head_20 : decode cX5_head 20 = .ok (.goto 5, 3) := by decide +kernel
theorem dX5_head_23 : decode cX5_head 23 = .ok (.ldc 85, 2) := by decide +kernel
theorem dX5_head_25 : decode cX5_head 25 = .ok (.ireturn, 1) := by decide +kernel
set_option maxRecDepth 20000 in
theorem ggX5_unlike_X3_slotOf : GoodIn wsX5_unlike wsX3_slotOf := goodIn_r _ [8, 9, 10, 75, 76, 77, 78, 79] (by decide +kernel) (by decide +kernel)
set_option maxRecDepth 20000 in
theorem gX5_unlike_X3_slotOf : GoodIn wsX5_unlike (wsV RX5 76 RX3 yX3_slotOf wsX3_slotOf) := goodIn_app (goodIn_of _ (by decide +kernel)) ggX5_unlike_X3_slotOf
set_option maxRecDepth 20000 in
theorem ggX5_unlike_X4_unlikeCells : GoodIn wsX5_unlike wsX4_unlikeCells := goodIn_r _ [15, 16, 17, 18, 14, 19, 20, 21, 22, 23, 24, 7, 25, 9, 26, 27, 28, 29, 30, 31, 32, 69, 70, 71, 72, 73, 74, 75, 76, 77, 78, 79, 80, 81, 82, 83] (by decide +kernel) (by decide +kernel)
set_option maxRecDepth 20000 in
theorem gX5_unlike_X4_unlikeCells : GoodIn wsX5_unlike (wsV RX5 158 RX4 yX4_unlikeCells wsX4_unlikeCells) := goodIn_app (goodIn_of _ (by decide +kernel)) ggX5_unlike_X4_unlikeCells
set_option maxRecDepth 20000 in
theorem ggX5_unlike_X4_firstUnlikeCell : GoodIn wsX5_unlike wsX4_firstUnlikeCell := goodIn_r _ [36, 16, 17, 18, 14, 19, 20, 21, 22, 23, 24, 7, 25, 9, 26, 27, 28, 29, 30, 31, 32, 69, 70, 71, 72, 73, 74, 75, 76, 77, 78, 79, 80, 81, 82, 83] (by decide +kernel) (by decide +kernel)
set_option maxRecDepth 20000 in
theorem gX5_unlike_X4_firstUnlikeCell : GoodIn wsX5_unlike (wsV RX5 161 RX4 yX4_firstUnlikeCell wsX4_firstUnlikeCell) := goodIn_app (goodIn_of _ (by decide +kernel)) ggX5_unlike_X4_firstUnlikeCell
set_option maxRecDepth 20000 in
theorem ggX5_unlike_X5_foundOr : GoodIn wsX5_unlike wsX5_foundOr := goodIn_r _ [40, 41] (by decide +kernel) (by decide +kernel)
set_option maxRecDepth 20000 in
theorem gX5_unlike_X5_foundOr : GoodIn wsX5_unlike (va_wsS RX5 92 yX5_foundOr wsX5_foundOr) := goodIn_app (goodIn_of _ (by decide +kernel)) ggX5_unlike_X5_foundOr
set_option maxRecDepth 20000 in
theorem ggX5_unlike_X3_unlikePlaces : GoodIn wsX5_unlike wsX3_unlikePlaces := goodIn_r _ [45, 46, 23, 24, 7, 25, 9, 26, 75, 76, 77, 78, 79] (by decide +kernel) (by decide +kernel)
set_option maxRecDepth 20000 in
theorem gX5_unlike_X3_unlikePlaces : GoodIn wsX5_unlike (wsV RX5 108 RX3 yX3_unlikePlaces wsX3_unlikePlaces) := goodIn_app (goodIn_of _ (by decide +kernel)) ggX5_unlike_X3_unlikePlaces
set_option maxRecDepth 20000 in
theorem ggX5_unlike_X3_commonSlot : GoodIn wsX5_unlike wsX3_commonSlot := goodIn_r _ [50, 51, 52, 53, 7, 54, 55, 56, 57, 58, 9, 59, 60, 5, 6, 8, 10, 75, 76, 77, 78, 79] (by decide +kernel) (by decide +kernel)
set_option maxRecDepth 20000 in
theorem gX5_unlike_X3_commonSlot : GoodIn wsX5_unlike (wsV RX5 164 RX3 yX3_commonSlot wsX3_commonSlot) := goodIn_app (goodIn_of _ (by decide +kernel)) ggX5_unlike_X3_commonSlot
set_option maxRecDepth 20000 in
theorem ggX5_unlike_X3_numberOf : GoodIn wsX5_unlike wsX3_numberOf := goodIn_r _ [64, 9, 10, 75, 76, 77, 78, 79] (by decide +kernel) (by decide +kernel)
set_option maxRecDepth 20000 in
theorem gX5_unlike_X3_numberOf : GoodIn wsX5_unlike (wsV RX5 120 RX3 yX3_numberOf wsX3_numberOf) := goodIn_app (goodIn_of _ (by decide +kernel)) ggX5_unlike_X3_numberOf
theorem dX5_unlike_0 : decode cX5_unlike 0 = .ok (.aload_n 0, 1) := by decide +kernel
theorem dX5_unlike_1 : decode cX5_unlike 1 = .ok (.getfield 10, 3) := by decide +kernel
theorem dX5_unlike_4 : decode cX5_unlike 4 = .ok (.getfield 72, 3) := by decide +kernel
theorem dX5_unlike_7 : decode cX5_unlike 7 = .ok (.iload_n 1, 1) := by decide +kernel
theorem dX5_unlike_8 : decode cX5_unlike 8 = .ok (.invokevirtual 76, 3) := by decide +kernel
theorem dX5_unlike_11 : decode cX5_unlike 11 = .ok (.istore 4, 2) := by decide +kernel
theorem dX5_unlike_13 : decode cX5_unlike 13 = .ok (.aload_n 0, 1) := by decide +kernel
theorem dX5_unlike_14 : decode cX5_unlike 14 = .ok (.getfield 10, 3) := by decide +kernel
theorem dX5_unlike_17 : decode cX5_unlike 17 = .ok (.getfield 72, 3) := by decide +kernel
theorem dX5_unlike_20 : decode cX5_unlike 20 = .ok (.iload_n 2, 1) := by decide +kernel
theorem dX5_unlike_21 : decode cX5_unlike 21 = .ok (.invokevirtual 76, 3) := by decide +kernel
theorem dX5_unlike_24 : decode cX5_unlike 24 = .ok (.istore 5, 2) := by decide +kernel
theorem dX5_unlike_26 : decode cX5_unlike 26 = .ok (.iload 4, 2) := by decide +kernel
theorem dX5_unlike_28 : decode cX5_unlike 28 = .ok (.ifCond .lt 8, 3) := by decide +kernel
theorem dX5_unlike_31 : decode cX5_unlike 31 = .ok (.iload 5, 2) := by decide +kernel
theorem dX5_unlike_33 : decode cX5_unlike 33 = .ok (.ifCond .ge 6, 3) := by decide +kernel
theorem dX5_unlike_36 : decode cX5_unlike 36 = .ok (.ldc 85, 2) := by decide +kernel
theorem dX5_unlike_38 : decode cX5_unlike 38 = .ok (.ireturn, 1) := by decide +kernel
theorem dX5_unlike_39 : decode cX5_unlike 39 = .ok (.iload_n 3, 1) := by decide +kernel
theorem dX5_unlike_40 : decode cX5_unlike 40 = .ok (.tableswitch 99 0 3 #[32, 44, 59, 74], 32) := by decide +kernel
theorem dX5_unlike_72 : decode cX5_unlike 72 = .ok (.aload_n 0, 1) := by decide +kernel
theorem dX5_unlike_73 : decode cX5_unlike 73 = .ok (.getfield 10, 3) := by decide +kernel
theorem dX5_unlike_76 : decode cX5_unlike 76 = .ok (.iload 4, 2) := by decide +kernel
theorem dX5_unlike_78 : decode cX5_unlike 78 = .ok (.iload 5, 2) := by decide +kernel
theorem dX5_unlike_80 : decode cX5_unlike 80 = .ok (.invokevirtual 158, 3) := by decide +kernel
theorem dX5_unlike_83 : decode cX5_unlike 83 = .ok (.ireturn, 1) := by decide +kernel
theorem dX5_unlike_84 : decode cX5_unlike 84 = .ok (.aload_n 0, 1) := by decide +kernel
theorem dX5_unlike_85 : decode cX5_unlike 85 = .ok (.getfield 10, 3) := by decide +kernel
theorem dX5_unlike_88 : decode cX5_unlike 88 = .ok (.iload 4, 2) := by decide +kernel
theorem dX5_unlike_90 : decode cX5_unlike 90 = .ok (.iload 5, 2) := by decide +kernel
theorem dX5_unlike_92 : decode cX5_unlike 92 = .ok (.invokevirtual 161, 3) := by decide +kernel
theorem dX5_unlike_95 : decode cX5_unlike 95 = .ok (.invokestatic 92, 3) := by decide +kernel
theorem dX5_unlike_98 : decode cX5_unlike 98 = .ok (.ireturn, 1) := by decide +kernel
theorem dX5_unlike_99 : decode cX5_unlike 99 = .ok (.aload_n 0, 1) := by decide +kernel
theorem dX5_unlike_100 : decode cX5_unlike 100 = .ok (.getfield 10, 3) := by decide +kernel
theorem dX5_unlike_103 : decode cX5_unlike 103 = .ok (.getfield 72, 3) := by decide +kernel
theorem dX5_unlike_106 : decode cX5_unlike 106 = .ok (.iload 4, 2) := by decide +kernel
theorem dX5_unlike_108 : decode cX5_unlike 108 = .ok (.iload 5, 2) := by decide +kernel
theorem dX5_unlike_110 : decode cX5_unlike 110 = .ok (.invokevirtual 108, 3) := by decide +kernel
theorem dX5_unlike_113 : decode cX5_unlike 113 = .ok (.ireturn, 1) := by decide +kernel
theorem dX5_unlike_114 : decode cX5_unlike 114 = .ok (.aload_n 0, 1) := by decide +kernel
theorem dX5_unlike_115 : decode cX5_unlike 115 = .ok (.getfield 10, 3) := by decide +kernel
theorem dX5_unlike_118 : decode cX5_unlike 118 = .ok (.getfield 72, 3) := by decide +kernel
theorem dX5_unlike_121 : decode cX5_unlike 121 = .ok (.aload_n 0, 1) := by decide +kernel
theorem dX5_unlike_122 : decode cX5_unlike 122 = .ok (.getfield 10, 3) := by decide +kernel
theorem dX5_unlike_125 : decode cX5_unlike 125 = .ok (.getfield 72, 3) := by decide +kernel
theorem dX5_unlike_128 : decode cX5_unlike 128 = .ok (.iload 4, 2) := by decide +kernel
theorem dX5_unlike_130 : decode cX5_unlike 130 = .ok (.iload 5, 2) := by decide +kernel
theorem dX5_unlike_132 : decode cX5_unlike 132 = .ok (.invokevirtual 164, 3) := by decide +kernel
theorem dX5_unlike_135 : decode cX5_unlike 135 = .ok (.invokevirtual 120, 3) := by decide +kernel
theorem dX5_unlike_138 : decode cX5_unlike 138 = .ok (.ireturn, 1) := by decide +kernel
theorem dX5_unlike_139 : decode cX5_unlike 139 = .ok (.ldc 85, 2) := by decide +kernel
theorem dX5_unlike_141 : decode cX5_unlike 141 = .ok (.ireturn, 1) := by decide +kernel
set_option maxRecDepth 20000 in
theorem ggX5_like_X3_slotOf : GoodIn wsX5_like wsX3_slotOf := goodIn_r _ [10, 11, 12, 49, 50, 51, 52, 53] (by decide +kernel) (by decide +kernel)
set_option maxRecDepth 20000 in
theorem gX5_like_X3_slotOf : GoodIn wsX5_like (wsV RX5 76 RX3 yX3_slotOf wsX3_slotOf) := goodIn_app (goodIn_of _ (by decide +kernel)) ggX5_like_X3_slotOf
set_option maxRecDepth 20000 in
theorem ggX5_like_X4_firstUnlikeCell : GoodIn wsX5_like wsX4_firstUnlikeCell := goodIn_r _ [17, 18, 19, 20, 16, 21, 22, 23, 24, 25, 26, 9, 27, 11, 28, 29, 30, 31, 32, 33, 34, 43, 44, 45, 46, 47, 48, 49, 50, 51, 52, 53, 54, 55, 56, 57] (by decide +kernel) (by decide +kernel)
set_option maxRecDepth 20000 in
theorem gX5_like_X4_firstUnlikeCell : GoodIn wsX5_like (wsV RX5 161 RX4 yX4_firstUnlikeCell wsX4_firstUnlikeCell) := goodIn_app (goodIn_of _ (by decide +kernel)) ggX5_like_X4_firstUnlikeCell
set_option maxRecDepth 20000 in
theorem ggX5_like_X3_numberOf : GoodIn wsX5_like wsX3_numberOf := goodIn_r _ [38, 11, 12, 49, 50, 51, 52, 53] (by decide +kernel) (by decide +kernel)
set_option maxRecDepth 20000 in
theorem gX5_like_X3_numberOf : GoodIn wsX5_like (wsV RX5 120 RX3 yX3_numberOf wsX3_numberOf) := goodIn_app (goodIn_of _ (by decide +kernel)) ggX5_like_X3_numberOf
theorem dX5_like_0 : decode cX5_like 0 = .ok (.aload_n 0, 1) := by decide +kernel
theorem dX5_like_1 : decode cX5_like 1 = .ok (.getfield 10, 3) := by decide +kernel
theorem dX5_like_4 : decode cX5_like 4 = .ok (.getfield 72, 3) := by decide +kernel
theorem dX5_like_7 : decode cX5_like 7 = .ok (.iload_n 1, 1) := by decide +kernel
theorem dX5_like_8 : decode cX5_like 8 = .ok (.invokevirtual 76, 3) := by decide +kernel
theorem dX5_like_11 : decode cX5_like 11 = .ok (.istore_n 2, 1) := by decide +kernel
theorem dX5_like_12 : decode cX5_like 12 = .ok (.iload_n 2, 1) := by decide +kernel
theorem dX5_like_13 : decode cX5_like 13 = .ok (.ifCond .ge 6, 3) := by decide +kernel
theorem dX5_like_16 : decode cX5_like 16 = .ok (.ldc 85, 2) := by decide +kernel
theorem dX5_like_18 : decode cX5_like 18 = .ok (.ireturn, 1) := by decide +kernel
theorem dX5_like_19 : decode cX5_like 19 = .ok (.iconst 0, 1) := by decide +kernel
theorem dX5_like_20 : decode cX5_like 20 = .ok (.istore_n 3, 1) := by decide +kernel
theorem dX5_like_21 : decode cX5_like 21 = .ok (.iload_n 3, 1) := by decide +kernel
theorem dX5_like_22 : decode cX5_like 22 = .ok (.aload_n 0, 1) := by decide +kernel
theorem dX5_like_23 : decode cX5_like 23 = .ok (.getfield 10, 3) := by decide +kernel
theorem dX5_like_26 : decode cX5_like 26 = .ok (.getfield 72, 3) := by decide +kernel
theorem dX5_like_29 : decode cX5_like 29 = .ok (.getfield 167, 3) := by decide +kernel
theorem dX5_like_32 : decode cX5_like 32 = .ok (.if_icmp .ge 39, 3) := by decide +kernel
theorem dX5_like_35 : decode cX5_like 35 = .ok (.iload_n 3, 1) := by decide +kernel
theorem dX5_like_36 : decode cX5_like 36 = .ok (.iload_n 2, 1) := by decide +kernel
theorem dX5_like_37 : decode cX5_like 37 = .ok (.if_icmp .eq 28, 3) := by decide +kernel
theorem dX5_like_40 : decode cX5_like 40 = .ok (.aload_n 0, 1) := by decide +kernel
theorem dX5_like_41 : decode cX5_like 41 = .ok (.getfield 10, 3) := by decide +kernel
theorem dX5_like_44 : decode cX5_like 44 = .ok (.iload_n 2, 1) := by decide +kernel
theorem dX5_like_45 : decode cX5_like 45 = .ok (.iload_n 3, 1) := by decide +kernel
theorem dX5_like_46 : decode cX5_like 46 = .ok (.invokevirtual 161, 3) := by decide +kernel
theorem dX5_like_49 : decode cX5_like 49 = .ok (.iconst (-1), 1) := by decide +kernel
theorem dX5_like_50 : decode cX5_like 50 = .ok (.if_icmp .ne 15, 3) := by decide +kernel
theorem dX5_like_53 : decode cX5_like 53 = .ok (.aload_n 0, 1) := by decide +kernel
theorem dX5_like_54 : decode cX5_like 54 = .ok (.getfield 10, 3) := by decide +kernel
theorem dX5_like_57 : decode cX5_like 57 = .ok (.getfield 72, 3) := by decide +kernel
theorem dX5_like_60 : decode cX5_like 60 = .ok (.iload_n 3, 1) := by decide +kernel
theorem dX5_like_61 : decode cX5_like 61 = .ok (.invokevirtual 120, 3) := by decide +kernel
theorem dX5_like_64 : decode cX5_like 64 = .ok (.ireturn, 1) := by decide +kernel
theorem dX5_like_65 : decode cX5_like 65 = .ok (.iinc 3 1, 3) := by decide +kernel
theorem dX5_like_68 : decode cX5_like 68 = .ok (.goto (-47), 3) := by decide +kernel
theorem dX5_like_71 : decode cX5_like 71 = .ok (.ldc 104, 2) := by decide +kernel
theorem dX5_like_73 : decode cX5_like 73 = .ok (.ireturn, 1) := by decide +kernel
set_option maxRecDepth 20000 in
theorem ggX5_before_X3_slotOf : GoodIn wsX5_before wsX3_slotOf := goodIn_r _ [9, 10, 11, 58, 59, 60, 61, 62] (by decide +kernel) (by decide +kernel)
set_option maxRecDepth 20000 in
theorem gX5_before_X3_slotOf : GoodIn wsX5_before (wsV RX5 76 RX3 yX3_slotOf wsX3_slotOf) := goodIn_app (goodIn_of _ (by decide +kernel)) ggX5_before_X3_slotOf
set_option maxRecDepth 20000 in
theorem ggX5_before_X5_isIndex : GoodIn wsX5_before wsX5_isIndex := goodIn_r _ [15] (by decide +kernel) (by decide +kernel)
set_option maxRecDepth 20000 in
theorem gX5_before_X5_isIndex : GoodIn wsX5_before (va_wsS RX5 81 yX5_isIndex wsX5_isIndex) := goodIn_app (goodIn_of _ (by decide +kernel)) ggX5_before_X5_isIndex
set_option maxRecDepth 20000 in
theorem ggX5_before_X4_cellAt : GoodIn wsX5_before wsX4_cellAt := goodIn_r _ [20, 21, 22, 23, 24, 25, 8, 26, 10, 27, 28, 29, 30, 31, 32, 33, 52, 53, 54, 55, 56, 57, 58, 59, 60, 61, 62, 63, 64, 65, 66] (by decide +kernel) (by decide +kernel)
set_option maxRecDepth 20000 in
theorem gX5_before_X4_cellAt : GoodIn wsX5_before (wsV RX5 86 RX4 yX4_cellAt wsX4_cellAt) := goodIn_app (goodIn_of _ (by decide +kernel)) ggX5_before_X4_cellAt
set_option maxRecDepth 20000 in
theorem ggX5_before_X3_numberOf : GoodIn wsX5_before wsX3_numberOf := goodIn_r _ [37, 10, 11, 58, 59, 60, 61, 62] (by decide +kernel) (by decide +kernel)
set_option maxRecDepth 20000 in
theorem gX5_before_X3_numberOf : GoodIn wsX5_before (wsV RX5 120 RX3 yX3_numberOf wsX3_numberOf) := goodIn_app (goodIn_of _ (by decide +kernel)) ggX5_before_X3_numberOf
set_option maxRecDepth 20000 in
theorem ggX5_before_X3_parentSlot : GoodIn wsX5_before wsX3_parentSlot := goodIn_r _ [41, 42, 43, 44, 8, 45, 10, 46, 47, 6, 7, 9, 11, 58, 59, 60, 61, 62] (by decide +kernel) (by decide +kernel)
set_option maxRecDepth 20000 in
theorem gX5_before_X3_parentSlot : GoodIn wsX5_before (wsV RX5 105 RX3 yX3_parentSlot wsX3_parentSlot) := goodIn_app (goodIn_of _ (by decide +kernel)) ggX5_before_X3_parentSlot
theorem dX5_before_0 : decode cX5_before 0 = .ok (.aload_n 0, 1) := by decide +kernel
theorem dX5_before_1 : decode cX5_before 1 = .ok (.getfield 10, 3) := by decide +kernel
theorem dX5_before_4 : decode cX5_before 4 = .ok (.getfield 72, 3) := by decide +kernel
theorem dX5_before_7 : decode cX5_before 7 = .ok (.iload_n 1, 1) := by decide +kernel
theorem dX5_before_8 : decode cX5_before 8 = .ok (.invokevirtual 76, 3) := by decide +kernel
theorem dX5_before_11 : decode cX5_before 11 = .ok (.istore_n 3, 1) := by decide +kernel
theorem dX5_before_12 : decode cX5_before 12 = .ok (.iload_n 3, 1) := by decide +kernel
theorem dX5_before_13 : decode cX5_before 13 = .ok (.ifCond .lt 12, 3) := by decide +kernel
theorem dX5_before_16 : decode cX5_before 16 = .ok (.iload_n 2, 1) := by decide +kernel
theorem dX5_before_17 : decode cX5_before 17 = .ok (.bipush 48, 2) := by decide +kernel
theorem dX5_before_19 : decode cX5_before 19 = .ok (.invokestatic 81, 3) := by decide +kernel
theorem dX5_before_22 : decode cX5_before 22 = .ok (.ifCond .ne 6, 3) := by decide +kernel
theorem dX5_before_25 : decode cX5_before 25 = .ok (.ldc 85, 2) := by decide +kernel
theorem dX5_before_27 : decode cX5_before 27 = .ok (.ireturn, 1) := by decide +kernel
theorem dX5_before_28 : decode cX5_before 28 = .ok (.aload_n 0, 1) := by decide +kernel
theorem dX5_before_29 : decode cX5_before 29 = .ok (.getfield 10, 3) := by decide +kernel
theorem dX5_before_32 : decode cX5_before 32 = .ok (.iload_n 3, 1) := by decide +kernel
theorem dX5_before_33 : decode cX5_before 33 = .ok (.iload_n 2, 1) := by decide +kernel
theorem dX5_before_34 : decode cX5_before 34 = .ok (.invokevirtual 86, 3) := by decide +kernel
theorem dX5_before_37 : decode cX5_before 37 = .ok (.istore 4, 2) := by decide +kernel
theorem dX5_before_39 : decode cX5_before 39 = .ok (.iconst 0, 1) := by decide +kernel
theorem dX5_before_40 : decode cX5_before 40 = .ok (.istore 5, 2) := by decide +kernel
theorem dX5_before_42 : decode cX5_before 42 = .ok (.iload 5, 2) := by decide +kernel
theorem dX5_before_44 : decode cX5_before 44 = .ok (.bipush 16, 2) := by decide +kernel
theorem dX5_before_46 : decode cX5_before 46 = .ok (.if_icmp .ge 51, 3) := by decide +kernel
theorem dX5_before_49 : decode cX5_before 49 = .ok (.iload_n 3, 1) := by decide +kernel
theorem dX5_before_50 : decode cX5_before 50 = .ok (.ifCond .lt 47, 3) := by decide +kernel
theorem dX5_before_53 : decode cX5_before 53 = .ok (.aload_n 0, 1) := by decide +kernel
theorem dX5_before_54 : decode cX5_before 54 = .ok (.getfield 10, 3) := by decide +kernel
theorem dX5_before_57 : decode cX5_before 57 = .ok (.iload_n 3, 1) := by decide +kernel
theorem dX5_before_58 : decode cX5_before 58 = .ok (.iload_n 2, 1) := by decide +kernel
theorem dX5_before_59 : decode cX5_before 59 = .ok (.invokevirtual 86, 3) := by decide +kernel
theorem dX5_before_62 : decode cX5_before 62 = .ok (.iload 4, 2) := by decide +kernel
theorem dX5_before_64 : decode cX5_before 64 = .ok (.if_icmp .eq 15, 3) := by decide +kernel
theorem dX5_before_67 : decode cX5_before 67 = .ok (.aload_n 0, 1) := by decide +kernel
theorem dX5_before_68 : decode cX5_before 68 = .ok (.getfield 10, 3) := by decide +kernel
theorem dX5_before_71 : decode cX5_before 71 = .ok (.getfield 72, 3) := by decide +kernel
theorem dX5_before_74 : decode cX5_before 74 = .ok (.iload_n 3, 1) := by decide +kernel
theorem dX5_before_75 : decode cX5_before 75 = .ok (.invokevirtual 120, 3) := by decide +kernel
theorem dX5_before_78 : decode cX5_before 78 = .ok (.ireturn, 1) := by decide +kernel
theorem dX5_before_79 : decode cX5_before 79 = .ok (.aload_n 0, 1) := by decide +kernel
theorem dX5_before_80 : decode cX5_before 80 = .ok (.getfield 10, 3) := by decide +kernel
theorem dX5_before_83 : decode cX5_before 83 = .ok (.getfield 72, 3) := by decide +kernel
theorem dX5_before_86 : decode cX5_before 86 = .ok (.iload_n 3, 1) := by decide +kernel
theorem dX5_before_87 : decode cX5_before 87 = .ok (.invokevirtual 105, 3) := by decide +kernel
theorem dX5_before_90 : decode cX5_before 90 = .ok (.istore_n 3, 1) := by decide +kernel
theorem dX5_before_91 : decode cX5_before 91 = .ok (.iinc 5 1, 3) := by decide +kernel
theorem dX5_before_94 : decode cX5_before 94 = .ok (.goto (-52), 3) := by decide +kernel
theorem dX5_before_97 : decode cX5_before 97 = .ok (.ldc 104, 2) := by decide +kernel
theorem dX5_before_99 : decode cX5_before 99 = .ok (.ireturn, 1) := by decide +kernel
set_option maxRecDepth 20000 in
theorem ggX5_conflicts_X4_headSlot : GoodIn wsX5_conflicts wsX4_headSlot := goodIn_r _ [8, 9, 10, 11, 12, 13, 7, 14, 15, 16, 17, 18, 19, 20, 21, 22, 23, 24, 65, 66, 67, 68, 69, 70, 71, 72, 73, 74, 75] (by decide +kernel) (by decide +kernel)
set_option maxRecDepth 20000 in
theorem gX5_conflicts_X4_headSlot : GoodIn wsX5_conflicts (wsV RX5 171 RX4 yX4_headSlot wsX4_headSlot) := goodIn_app (goodIn_of _ (by decide +kernel)) ggX5_conflicts_X4_headSlot
set_option maxRecDepth 20000 in
theorem ggX5_conflicts_X3_slotOf : GoodIn wsX5_conflicts wsX3_slotOf := goodIn_r _ [22, 23, 24, 71, 72, 73, 74, 75] (by decide +kernel) (by decide +kernel)
set_option maxRecDepth 20000 in
theorem gX5_conflicts_X3_slotOf : GoodIn wsX5_conflicts (wsV RX5 76 RX3 yX3_slotOf wsX3_slotOf) := goodIn_app (goodIn_of _ (by decide +kernel)) ggX5_conflicts_X3_slotOf
set_option maxRecDepth 20000 in
theorem ggX5_conflicts_X3_commonSlot : GoodIn wsX5_conflicts wsX3_commonSlot := goodIn_r _ [29, 30, 31, 32, 21, 33, 34, 35, 36, 37, 23, 38, 39, 19, 20, 22, 24, 71, 72, 73, 74, 75] (by decide +kernel) (by decide +kernel)
set_option maxRecDepth 20000 in
theorem gX5_conflicts_X3_commonSlot : GoodIn wsX5_conflicts (wsV RX5 164 RX3 yX3_commonSlot wsX3_commonSlot) := goodIn_app (goodIn_of _ (by decide +kernel)) ggX5_conflicts_X3_commonSlot
set_option maxRecDepth 20000 in
theorem ggX5_conflicts_X4_draftMerge : GoodIn wsX5_conflicts wsX4_draftMerge := goodIn_r _ [43, 44, 45, 46, 47, 7, 48, 49, 9, 50, 51, 52, 21, 53, 23, 54, 55, 56, 57, 58, 59, 60, 65, 66, 67, 68, 69, 70, 71, 72, 73, 74, 75, 76, 77, 78, 79] (by decide +kernel) (by decide +kernel)
set_option maxRecDepth 20000 in
theorem gX5_conflicts_X4_draftMerge : GoodIn wsX5_conflicts (wsV RX5 174 RX4 yX4_draftMerge wsX4_draftMerge) := goodIn_app (goodIn_of _ (by decide +kernel)) ggX5_conflicts_X4_draftMerge
theorem dX5_conflicts_0 : decode cX5_conflicts 0 = .ok (.aload_n 0, 1) := by decide +kernel
theorem dX5_conflicts_1 : decode cX5_conflicts 1 = .ok (.getfield 10, 3) := by decide +kernel
theorem dX5_conflicts_4 : decode cX5_conflicts 4 = .ok (.iload_n 1, 1) := by decide +kernel
theorem dX5_conflicts_5 : decode cX5_conflicts 5 = .ok (.invokevirtual 171, 3) := by decide +kernel
theorem dX5_conflicts_8 : decode cX5_conflicts 8 = .ok (.istore_n 3, 1) := by decide +kernel
theorem dX5_conflicts_9 : decode cX5_conflicts 9 = .ok (.aload_n 0, 1) := by decide +kernel
theorem dX5_conflicts_10 : decode cX5_conflicts 10 = .ok (.getfield 10, 3) := by decide +kernel
theorem dX5_conflicts_13 : decode cX5_conflicts 13 = .ok (.getfield 72, 3) := by decide +kernel
theorem dX5_conflicts_16 : decode cX5_conflicts 16 = .ok (.iload_n 2, 1) := by decide +kernel
theorem dX5_conflicts_17 : decode cX5_conflicts 17 = .ok (.invokevirtual 76, 3) := by decide +kernel
theorem dX5_conflicts_20 : decode cX5_conflicts 20 = .ok (.istore 4, 2) := by decide +kernel
theorem dX5_conflicts_22 : decode cX5_conflicts 22 = .ok (.iload_n 3, 1) := by decide +kernel
theorem dX5_conflicts_23 : decode cX5_conflicts 23 = .ok (.ifCond .lt 8, 3) := by decide +kernel
theorem dX5_conflicts_26 : decode cX5_conflicts 26 = .ok (.iload 4, 2) := by decide +kernel
theorem dX5_conflicts_28 : decode cX5_conflicts 28 = .ok (.ifCond .ge 6, 3) := by decide +kernel
theorem dX5_conflicts_31 : decode cX5_conflicts 31 = .ok (.ldc 85, 2) := by decide +kernel
theorem dX5_conflicts_33 : decode cX5_conflicts 33 = .ok (.ireturn, 1) := by decide +kernel
theorem dX5_conflicts_34 : decode cX5_conflicts 34 = .ok (.aload_n 0, 1) := by decide +kernel
theorem dX5_conflicts_35 : decode cX5_conflicts 35 = .ok (.getfield 10, 3) := by decide +kernel
theorem dX5_conflicts_38 : decode cX5_conflicts 38 = .ok (.aload_n 0, 1) := by decide +kernel
theorem dX5_conflicts_39 : decode cX5_conflicts 39 = .ok (.getfield 10, 3) := by decide +kernel
theorem dX5_conflicts_42 : decode cX5_conflicts 42 = .ok (.getfield 72, 3) := by decide +kernel
theorem dX5_conflicts_45 : decode cX5_conflicts 45 = .ok (.iload_n 3, 1) := by decide +kernel
theorem dX5_conflicts_46 : decode cX5_conflicts 46 = .ok (.iload 4, 2) := by decide +kernel
theorem dX5_conflicts_48 : decode cX5_conflicts 48 = .ok (.invokevirtual 164, 3) := by decide +kernel
theorem dX5_conflicts_51 : decode cX5_conflicts 51 = .ok (.iload_n 3, 1) := by decide +kernel
theorem dX5_conflicts_52 : decode cX5_conflicts 52 = .ok (.iload 4, 2) := by decide +kernel
theorem dX5_conflicts_54 : decode cX5_conflicts 54 = .ok (.invokevirtual 174, 3) := by decide +kernel
theorem dX5_conflicts_57 : decode cX5_conflicts 57 = .ok (.ireturn, 1) := by decide +kernel
set_option maxRecDepth 20000 in
theorem ggX5_frees_X3_slotOf : GoodIn wsX5_frees wsX3_slotOf := goodIn_r _ [9, 10, 11, 69, 70, 71, 72, 73] (by decide +kernel) (by decide +kernel)
set_option maxRecDepth 20000 in
theorem gX5_frees_X3_slotOf : GoodIn wsX5_frees (wsV RX5 76 RX3 yX3_slotOf wsX3_slotOf) := goodIn_app (goodIn_of _ (by decide +kernel)) ggX5_frees_X3_slotOf
set_option maxRecDepth 20000 in
theorem ggX5_frees_X4_canForget : GoodIn wsX5_frees wsX4_canForget := goodIn_r _ [16, 17, 18, 19, 20, 8, 21, 10, 11, 22, 23, 24, 15, 25, 26, 63, 64, 65, 66, 67, 68, 69, 70, 71, 72, 73] (by decide +kernel) (by decide +kernel)
set_option maxRecDepth 20000 in
theorem gX5_frees_X4_canForget : GoodIn wsX5_frees (wsV RX5 178 RX4 yX4_canForget wsX4_canForget) := goodIn_app (goodIn_of _ (by decide +kernel)) ggX5_frees_X4_canForget
set_option maxRecDepth 20000 in
theorem ggX5_frees_X4_blocksOfItsOwn : GoodIn wsX5_frees wsX4_blocksOfItsOwn := goodIn_r _ [30, 17, 31, 32, 33, 15, 34, 35, 36, 37, 38, 8, 39, 10, 40, 41, 42, 43, 44, 45, 46, 47, 48, 49, 50, 51, 52, 53, 54, 55, 56, 57, 58, 63, 64, 65, 66, 67, 68, 69, 70, 71, 72, 73, 74, 75, 76, 77] (by decide +kernel) (by decide +kernel)
set_option maxRecDepth 20000 in
theorem gX5_frees_X4_blocksOfItsOwn : GoodIn wsX5_frees (wsV RX5 181 RX4 yX4_blocksOfItsOwn wsX4_blocksOfItsOwn) := goodIn_app (goodIn_of _ (by decide +kernel)) ggX5_frees_X4_blocksOfItsOwn
theorem dX5_frees_0 : decode cX5_frees 0 = .ok (.aload_n 0, 1) := by decide +kernel
theorem dX5_frees_1 : decode cX5_frees 1 = .ok (.getfield 10, 3) := by decide +kernel
theorem dX5_frees_4 : decode cX5_frees 4 = .ok (.getfield 72, 3) := by decide +kernel
theorem dX5_frees_7 : decode cX5_frees 7 = .ok (.iload_n 1, 1) := by decide +kernel
theorem dX5_frees_8 : decode cX5_frees 8 = .ok (.invokevirtual 76, 3) := by decide +kernel
theorem dX5_frees_11 : decode cX5_frees 11 = .ok (.istore_n 2, 1) := by decide +kernel
theorem dX5_frees_12 : decode cX5_frees 12 = .ok (.iload_n 2, 1) := by decide +kernel
theorem dX5_frees_13 : decode cX5_frees 13 = .ok (.ifCond .ge 6, 3) := by decide +kernel
theorem dX5_frees_16 : decode cX5_frees 16 = .ok (.ldc 85, 2) := by decide +kernel
theorem dX5_frees_18 : decode cX5_frees 18 = .ok (.ireturn, 1) := by decide +kernel
theorem dX5_frees_19 : decode cX5_frees 19 = .ok (.aload_n 0, 1) := by decide +kernel
theorem dX5_frees_20 : decode cX5_frees 20 = .ok (.getfield 10, 3) := by decide +kernel
theorem dX5_frees_23 : decode cX5_frees 23 = .ok (.iload_n 2, 1) := by decide +kernel
theorem dX5_frees_24 : decode cX5_frees 24 = .ok (.invokevirtual 178, 3) := by decide +kernel
theorem dX5_frees_27 : decode cX5_frees 27 = .ok (.ifCond .eq 14, 3) := by decide +kernel
theorem dX5_frees_30 : decode cX5_frees 30 = .ok (.aload_n 0, 1) := by decide +kernel
theorem dX5_frees_31 : decode cX5_frees 31 = .ok (.getfield 10, 3) := by decide +kernel
theorem dX5_frees_34 : decode cX5_frees 34 = .ok (.iload_n 2, 1) := by decide +kernel
theorem dX5_frees_35 : decode cX5_frees 35 = .ok (.invokevirtual 181, 3) := by decide +kernel
theorem dX5_frees_38 : decode cX5_frees 38 = .ok (.goto 5, 3) := by decide +kernel
theorem dX5_frees_41 : decode cX5_frees 41 = .ok (.ldc 184, 2) := by decide +kernel
theorem dX5_frees_43 : decode cX5_frees 43 = .ok (.ireturn, 1) := by decide +kernel
set_option maxRecDepth 20000 in
theorem ggX5_heaviest_X5_isIndex : GoodIn wsX5_heaviest wsX5_isIndex := goodIn_r _ [8] (by decide +kernel) (by decide +kernel)
set_option maxRecDepth 20000 in
theorem gX5_heaviest_X5_isIndex : GoodIn wsX5_heaviest (va_wsS RX5 81 yX5_isIndex wsX5_isIndex) := goodIn_app (goodIn_of _ (by decide +kernel)) ggX5_heaviest_X5_isIndex
set_option maxRecDepth 20000 in
theorem ggX5_heaviest_X4_canForget : GoodIn wsX5_heaviest wsX4_canForget := goodIn_r _ [13, 14, 15, 16, 17, 18, 19, 20, 21, 22, 23, 24, 12, 25, 26, 65, 66, 67, 68, 69, 70, 71, 72, 73, 74, 75] (by decide +kernel) (by decide +kernel)
set_option maxRecDepth 20000 in
theorem gX5_heaviest_X4_canForget : GoodIn wsX5_heaviest (wsV RX5 178 RX4 yX4_canForget wsX4_canForget) := goodIn_app (goodIn_of _ (by decide +kernel)) ggX5_heaviest_X4_canForget
set_option maxRecDepth 20000 in
theorem ggX5_heaviest_X4_blocksOfItsOwn : GoodIn wsX5_heaviest wsX4_blocksOfItsOwn := goodIn_r _ [30, 14, 31, 32, 33, 12, 34, 35, 36, 37, 38, 18, 39, 20, 40, 41, 42, 43, 44, 45, 46, 6, 7, 8, 47, 48, 49, 50, 51, 52, 53, 54, 55, 65, 66, 67, 68, 69, 70, 71, 72, 73, 74, 75, 76, 77, 78, 79] (by decide +kernel) (by decide +kernel)
set_option maxRecDepth 20000 in
theorem gX5_heaviest_X4_blocksOfItsOwn : GoodIn wsX5_heaviest (wsV RX5 181 RX4 yX4_blocksOfItsOwn wsX4_blocksOfItsOwn) := goodIn_app (goodIn_of _ (by decide +kernel)) ggX5_heaviest_X4_blocksOfItsOwn
set_option maxRecDepth 20000 in
theorem ggX5_heaviest_X3_numberOf : GoodIn wsX5_heaviest wsX3_numberOf := goodIn_r _ [19, 20, 21, 71, 72, 73, 74, 75] (by decide +kernel) (by decide +kernel)
set_option maxRecDepth 20000 in
theorem gX5_heaviest_X3_numberOf : GoodIn wsX5_heaviest (wsV RX5 120 RX3 yX3_numberOf wsX3_numberOf) := goodIn_app (goodIn_of _ (by decide +kernel)) ggX5_heaviest_X3_numberOf
set_option maxRecDepth 20000 in
theorem ggX5_heaviest_X5_foundOr : GoodIn wsX5_heaviest wsX5_foundOr := goodIn_r _ [59, 60] (by decide +kernel) (by decide +kernel)
set_option maxRecDepth 20000 in
theorem gX5_heaviest_X5_foundOr : GoodIn wsX5_heaviest (va_wsS RX5 92 yX5_foundOr wsX5_foundOr) := goodIn_app (goodIn_of _ (by decide +kernel)) ggX5_heaviest_X5_foundOr
theorem dX5_heaviest_0 : decode cX5_heaviest 0 = .ok (.iload_n 1, 1) := by decide +kernel
theorem dX5_heaviest_1 : decode cX5_heaviest 1 = .ok (.iconst 2, 1) := by decide +kernel
theorem dX5_heaviest_2 : decode cX5_heaviest 2 = .ok (.invokestatic 81, 3) := by decide +kernel
theorem dX5_heaviest_5 : decode cX5_heaviest 5 = .ok (.ifCond .ne 6, 3) := by decide +kernel
theorem dX5_heaviest_8 : decode cX5_heaviest 8 = .ok (.ldc 85, 2) := by decide +kernel
theorem dX5_heaviest_10 : decode cX5_heaviest 10 = .ok (.ireturn, 1) := by decide +kernel
theorem dX5_heaviest_11 : decode cX5_heaviest 11 = .ok (.iconst (-1), 1) := by decide +kernel
theorem dX5_heaviest_12 : decode cX5_heaviest 12 = .ok (.istore_n 2, 1) := by decide +kernel
theorem dX5_heaviest_13 : decode cX5_heaviest 13 = .ok (.iconst (-1), 1) := by decide +kernel
theorem dX5_heaviest_14 : decode cX5_heaviest 14 = .ok (.istore_n 3, 1) := by decide +kernel
theorem dX5_heaviest_15 : decode cX5_heaviest 15 = .ok (.iconst 0, 1) := by decide +kernel
theorem dX5_heaviest_16 : decode cX5_heaviest 16 = .ok (.istore 4, 2) := by decide +kernel
theorem dX5_heaviest_18 : decode cX5_heaviest 18 = .ok (.iload 4, 2) := by decide +kernel
theorem dX5_heaviest_20 : decode cX5_heaviest 20 = .ok (.aload_n 0, 1) := by decide +kernel
theorem dX5_heaviest_21 : decode cX5_heaviest 21 = .ok (.getfield 10, 3) := by decide +kernel
theorem dX5_heaviest_24 : decode cX5_heaviest 24 = .ok (.getfield 72, 3) := by decide +kernel
theorem dX5_heaviest_27 : decode cX5_heaviest 27 = .ok (.getfield 167, 3) := by decide +kernel
theorem dX5_heaviest_30 : decode cX5_heaviest 30 = .ok (.if_icmp .ge 58, 3) := by decide +kernel
theorem dX5_heaviest_33 : decode cX5_heaviest 33 = .ok (.aload_n 0, 1) := by decide +kernel
theorem dX5_heaviest_34 : decode cX5_heaviest 34 = .ok (.getfield 10, 3) := by decide +kernel
theorem dX5_heaviest_37 : decode cX5_heaviest 37 = .ok (.iload 4, 2) := by decide +kernel
theorem dX5_heaviest_39 : decode cX5_heaviest 39 = .ok (.invokevirtual 178, 3) := by decide +kernel
theorem dX5_heaviest_42 : decode cX5_heaviest 42 = .ok (.ifCond .eq 15, 3) := by decide +kernel
theorem dX5_heaviest_45 : decode cX5_heaviest 45 = .ok (.aload_n 0, 1) := by decide +kernel
theorem dX5_heaviest_46 : decode cX5_heaviest 46 = .ok (.getfield 10, 3) := by decide +kernel
theorem dX5_heaviest_49 : decode cX5_heaviest 49 = .ok (.iload 4, 2) := by decide +kernel
theorem dX5_heaviest_51 : decode cX5_heaviest 51 = .ok (.invokevirtual 181, 3) := by decide +kernel
theorem dX5_heaviest_54 : decode cX5_heaviest 54 = .ok (.goto 4, 3) := by decide +kernel
theorem dX5_heaviest_57 : decode cX5_heaviest 57 = .ok (.iconst (-1), 1) := by decide +kernel
theorem dX5_heaviest_58 : decode cX5_heaviest 58 = .ok (.istore 5, 2) := by decide +kernel
theorem dX5_heaviest_60 : decode cX5_heaviest 60 = .ok (.iload 5, 2) := by decide +kernel
theorem dX5_heaviest_62 : decode cX5_heaviest 62 = .ok (.iload_n 3, 1) := by decide +kernel
theorem dX5_heaviest_63 : decode cX5_heaviest 63 = .ok (.if_icmp .le 19, 3) := by decide +kernel
theorem dX5_heaviest_66 : decode cX5_heaviest 66 = .ok (.iload 5, 2) := by decide +kernel
theorem dX5_heaviest_68 : decode cX5_heaviest 68 = .ok (.istore_n 3, 1) := by decide +kernel
theorem dX5_heaviest_69 : decode cX5_heaviest 69 = .ok (.aload_n 0, 1) := by decide +kernel
theorem dX5_heaviest_70 : decode cX5_heaviest 70 = .ok (.getfield 10, 3) := by decide +kernel
theorem dX5_heaviest_73 : decode cX5_heaviest 73 = .ok (.getfield 72, 3) := by decide +kernel
theorem dX5_heaviest_76 : decode cX5_heaviest 76 = .ok (.iload 4, 2) := by decide +kernel
theorem dX5_heaviest_78 : decode cX5_heaviest 78 = .ok (.invokevirtual 120, 3) := by decide +kernel
theorem dX5_heaviest_81 : decode cX5_heaviest 81 = .ok (.istore_n 2, 1) := by decide +kernel
theorem dX5_heaviest_82 : decode cX5_heaviest 82 = .ok (.iinc 4 1, 3) := by decide +kernel
theorem dX5_heaviest_85 : decode cX5_heaviest 85 = .ok (.goto (-67), 3) := by decide +kernel
theorem dX5_heaviest_88 : decode cX5_heaviest 88 = .ok (.iload_n 1, 1) := by decide +kernel
theorem dX5_heaviest_89 : decode cX5_heaviest 89 = .ok (.ifCond .ne 7, 3) := by decide +kernel
theorem dX5_heaviest_92 : decode cX5_heaviest 92 = .ok (.iload_n 2, 1) := by decide +kernel
theorem dX5_heaviest_93 : decode cX5_heaviest 93 = .ok (.goto 4, 3) := by decide +kernel
theorem dX5_heaviest_96 : decode cX5_heaviest 96 = .ok (.iload_n 3, 1) := by decide +kernel
theorem dX5_heaviest_97 : decode cX5_heaviest 97 = .ok (.invokestatic 92, 3) := by decide +kernel
theorem dX5_heaviest_100 : decode cX5_heaviest 100 = .ok (.ireturn, 1) := by decide +kernel
set_option maxRecDepth 20000 in
theorem ggX5_count_X4_branchesThere : GoodIn wsX5_count wsX4_branchesThere := goodIn_r _ [19, 20, 48, 49, 50, 51, 52, 53] (by decide +kernel) (by decide +kernel)
set_option maxRecDepth 20000 in
theorem gX5_count_X4_branchesThere : GoodIn wsX5_count (wsV RX5 185 RX4 yX4_branchesThere wsX4_branchesThere) := goodIn_app (goodIn_of _ (by decide +kernel)) ggX5_count_X4_branchesThere
set_option maxRecDepth 20000 in
theorem ggX5_count_X0_there : GoodIn wsX5_count wsX0_there := goodIn_r _ [25, 26, 27, 28, 24, 29, 30, 59, 60, 61, 62] (by decide +kernel) (by decide +kernel)
set_option maxRecDepth 20000 in
theorem gX5_count_X0_there : GoodIn wsX5_count (wsV RX5 188 RX0 yX0_there wsX0_there) := goodIn_app (goodIn_of _ (by decide +kernel)) ggX5_count_X0_there
set_option maxRecDepth 20000 in
theorem ggX5_count_X0_doubles : GoodIn wsX5_count wsX0_doubles := goodIn_r _ [34, 35, 26, 27, 28, 24, 29, 30, 36, 37, 38, 39, 40, 41, 42, 43, 59, 60, 61, 62] (by decide +kernel) (by decide +kernel)
set_option maxRecDepth 20000 in
theorem gX5_count_X0_doubles : GoodIn wsX5_count (wsV RX5 191 RX0 yX0_doubles wsX0_doubles) := goodIn_app (goodIn_of _ (by decide +kernel)) ggX5_count_X0_doubles
theorem dX5_count_0 : decode cX5_count 0 = .ok (.iload_n 1, 1) := by decide +kernel
theorem dX5_count_1 : decode cX5_count 1 = .ok (.tableswitch 219 0 20 #[99, 110, 118, 129, 143, 154, 165, 176, 187, 195, 203, 219, 219, 219, 219, 219, 219, 219, 219, 219, 211], 99) := by decide +kernel
theorem dX5_count_100 : decode cX5_count 100 = .ok (.aload_n 0, 1) := by decide +kernel
theorem dX5_count_101 : decode cX5_count 101 = .ok (.getfield 10, 3) := by decide +kernel
theorem dX5_count_104 : decode cX5_count 104 = .ok (.getfield 72, 3) := by decide +kernel
theorem dX5_count_107 : decode cX5_count 107 = .ok (.getfield 167, 3) := by decide +kernel
theorem dX5_count_110 : decode cX5_count 110 = .ok (.ireturn, 1) := by decide +kernel
theorem dX5_count_111 : decode cX5_count 111 = .ok (.aload_n 0, 1) := by decide +kernel
theorem dX5_count_112 : decode cX5_count 112 = .ok (.getfield 10, 3) := by decide +kernel
theorem dX5_count_115 : decode cX5_count 115 = .ok (.invokevirtual 185, 3) := by decide +kernel
theorem dX5_count_118 : decode cX5_count 118 = .ok (.ireturn, 1) := by decide +kernel
theorem dX5_count_119 : decode cX5_count 119 = .ok (.aload_n 0, 1) := by decide +kernel
theorem dX5_count_120 : decode cX5_count 120 = .ok (.getfield 10, 3) := by decide +kernel
theorem dX5_count_123 : decode cX5_count 123 = .ok (.getfield 126, 3) := by decide +kernel
theorem dX5_count_126 : decode cX5_count 126 = .ok (.invokevirtual 188, 3) := by decide +kernel
theorem dX5_count_129 : decode cX5_count 129 = .ok (.ireturn, 1) := by decide +kernel
theorem dX5_count_130 : decode cX5_count 130 = .ok (.aload_n 0, 1) := by decide +kernel
theorem dX5_count_131 : decode cX5_count 131 = .ok (.getfield 10, 3) := by decide +kernel
theorem dX5_count_134 : decode cX5_count 134 = .ok (.getfield 72, 3) := by decide +kernel
theorem dX5_count_137 : decode cX5_count 137 = .ok (.getfield 167, 3) := by decide +kernel
theorem dX5_count_140 : decode cX5_count 140 = .ok (.bipush 6, 2) := by decide +kernel
theorem dX5_count_142 : decode cX5_count 142 = .ok (.imul, 1) := by decide +kernel
theorem dX5_count_143 : decode cX5_count 143 = .ok (.ireturn, 1) := by decide +kernel
theorem dX5_count_144 : decode cX5_count 144 = .ok (.aload_n 0, 1) := by decide +kernel
theorem dX5_count_145 : decode cX5_count 145 = .ok (.getfield 10, 3) := by decide +kernel
theorem dX5_count_148 : decode cX5_count 148 = .ok (.getfield 126, 3) := by decide +kernel
theorem dX5_count_151 : decode cX5_count 151 = .ok (.invokevirtual 191, 3) := by decide +kernel
theorem dX5_count_154 : decode cX5_count 154 = .ok (.ireturn, 1) := by decide +kernel
theorem dX5_count_155 : decode cX5_count 155 = .ok (.aload_n 0, 1) := by decide +kernel
theorem dX5_count_156 : decode cX5_count 156 = .ok (.getfield 10, 3) := by decide +kernel
theorem dX5_count_159 : decode cX5_count 159 = .ok (.getfield 72, 3) := by decide +kernel
theorem dX5_count_162 : decode cX5_count 162 = .ok (.getfield 194, 3) := by decide +kernel
theorem dX5_count_165 : decode cX5_count 165 = .ok (.ireturn, 1) := by decide +kernel
theorem dX5_count_166 : decode cX5_count 166 = .ok (.aload_n 0, 1) := by decide +kernel
theorem dX5_count_167 : decode cX5_count 167 = .ok (.getfield 10, 3) := by decide +kernel
theorem dX5_count_170 : decode cX5_count 170 = .ok (.getfield 126, 3) := by decide +kernel
theorem dX5_count_173 : decode cX5_count 173 = .ok (.getfield 197, 3) := by decide +kernel
theorem dX5_count_176 : decode cX5_count 176 = .ok (.ireturn, 1) := by decide +kernel
theorem dX5_count_177 : decode cX5_count 177 = .ok (.aload_n 0, 1) := by decide +kernel
theorem dX5_count_178 : decode cX5_count 178 = .ok (.getfield 10, 3) := by decide +kernel
theorem dX5_count_181 : decode cX5_count 181 = .ok (.getfield 126, 3) := by decide +kernel
theorem dX5_count_184 : decode cX5_count 184 = .ok (.getfield 198, 3) := by decide +kernel
theorem dX5_count_187 : decode cX5_count 187 = .ok (.ireturn, 1) := by decide +kernel
theorem dX5_count_188 : decode cX5_count 188 = .ok (.aload_n 0, 1) := by decide +kernel
theorem dX5_count_189 : decode cX5_count 189 = .ok (.getfield 10, 3) := by decide +kernel
theorem dX5_count_192 : decode cX5_count 192 = .ok (.getfield 201, 3) := by decide +kernel
theorem dX5_count_195 : decode cX5_count 195 = .ok (.ireturn, 1) := by decide +kernel
theorem dX5_count_196 : decode cX5_count 196 = .ok (.aload_n 0, 1) := by decide +kernel
theorem dX5_count_197 : decode cX5_count 197 = .ok (.getfield 22, 3) := by decide +kernel
theorem dX5_count_200 : decode cX5_count 200 = .ok (.getfield 204, 3) := by decide +kernel
theorem dX5_count_203 : decode cX5_count 203 = .ok (.ireturn, 1) := by decide +kernel
theorem dX5_count_204 : decode cX5_count 204 = .ok (.aload_n 0, 1) := by decide +kernel
theorem dX5_count_205 : decode cX5_count 205 = .ok (.getfield 29, 3) := by decide +kernel
theorem dX5_count_208 : decode cX5_count 208 = .ok (.getfield 205, 3) := by decide +kernel
theorem dX5_count_211 : decode cX5_count 211 = .ok (.ireturn, 1) := by decide +kernel
theorem dX5_count_212 : decode cX5_count 212 = .ok (.aload_n 0, 1) := by decide +kernel
theorem dX5_count_213 : decode cX5_count 213 = .ok (.getfield 10, 3) := by decide +kernel
theorem dX5_count_216 : decode cX5_count 216 = .ok (.getfield 208, 3) := by decide +kernel
theorem dX5_count_219 : decode cX5_count 219 = .ok (.ireturn, 1) := by decide +kernel
theorem dX5_count_220 : decode cX5_count 220 = .ok (.ldc 85, 2) := by decide +kernel
theorem dX5_count_222 : decode cX5_count 222 = .ok (.ireturn, 1) := by decide +kernel
set_option maxRecDepth 20000 in
theorem ggX5_undo_X1_exchangeLatest : GoodIn wsX5_undo wsX1_exchangeLatest := goodIn_r _ [9, 10, 11, 12, 17, 18, 19] (by decide +kernel) (by decide +kernel)
set_option maxRecDepth 20000 in
theorem gX5_undo_X1_exchangeLatest : GoodIn wsX5_undo (wsV RX5 211 RX1 yX1_exchangeLatest wsX1_exchangeLatest) := goodIn_app (goodIn_of _ (by decide +kernel)) ggX5_undo_X1_exchangeLatest
theorem dX5_undo_0 : decode cX5_undo 0 = .ok (.aload_n 0, 1) := by decide +kernel
theorem dX5_undo_1 : decode cX5_undo 1 = .ok (.getfield 22, 3) := by decide +kernel
theorem dX5_undo_4 : decode cX5_undo 4 = .ok (.getfield 204, 3) := by decide +kernel
theorem dX5_undo_7 : decode cX5_undo 7 = .ok (.ifCond .ne 6, 3) := by decide +kernel
theorem dX5_undo_10 : decode cX5_undo 10 = .ok (.ldc 184, 2) := by decide +kernel
theorem dX5_undo_12 : decode cX5_undo 12 = .ok (.ireturn, 1) := by decide +kernel
theorem dX5_undo_13 : decode cX5_undo 13 = .ok (.aload_n 0, 1) := by decide +kernel
theorem dX5_undo_14 : decode cX5_undo 14 = .ok (.aload_n 0, 1) := by decide +kernel
theorem dX5_undo_15 : decode cX5_undo 15 = .ok (.getfield 22, 3) := by decide +kernel
theorem dX5_undo_18 : decode cX5_undo 18 = .ok (.aload_n 0, 1) := by decide +kernel
theorem dX5_undo_19 : decode cX5_undo 19 = .ok (.getfield 10, 3) := by decide +kernel
theorem dX5_undo_22 : decode cX5_undo 22 = .ok (.invokevirtual 211, 3) := by decide +kernel
theorem dX5_undo_25 : decode cX5_undo 25 = .ok (.putfield 10, 3) := by decide +kernel
theorem dX5_undo_28 : decode cX5_undo 28 = .ok (.aload_n 0, 1) := by decide +kernel
theorem dX5_undo_29 : decode cX5_undo 29 = .ok (.getfield 22, 3) := by decide +kernel
theorem dX5_undo_32 : decode cX5_undo 32 = .ok (.getfield 204, 3) := by decide +kernel
theorem dX5_undo_35 : decode cX5_undo 35 = .ok (.ireturn, 1) := by decide +kernel
set_option maxRecDepth 20000 in
theorem ggX5_type_X2_append : GoodIn wsX5_type wsX2_append := goodIn_r _ [9, 10, 11, 16, 17, 18, 19, 20, 21, 22, 23] (by decide +kernel) (by decide +kernel)
set_option maxRecDepth 20000 in
theorem gX5_type_X2_append : GoodIn wsX5_type (wsV RX5 215 RX2 yX2_append wsX2_append) := goodIn_app (goodIn_of _ (by decide +kernel)) ggX5_type_X2_append
theorem dX5_type_0 : decode cX5_type 0 = .ok (.iload_n 1, 1) := by decide +kernel
theorem dX5_type_1 : decode cX5_type 1 = .ok (.bipush 32, 2) := by decide +kernel
theorem dX5_type_3 : decode cX5_type 3 = .ok (.if_icmp .lt 9, 3) := by decide +kernel
theorem dX5_type_6 : decode cX5_type 6 = .ok (.iload_n 1, 1) := by decide +kernel
theorem dX5_type_7 : decode cX5_type 7 = .ok (.bipush 126, 2) := by decide +kernel
theorem dX5_type_9 : decode cX5_type 9 = .ok (.if_icmp .le 6, 3) := by decide +kernel
theorem dX5_type_12 : decode cX5_type 12 = .ok (.ldc 85, 2) := by decide +kernel
theorem dX5_type_14 : decode cX5_type 14 = .ok (.ireturn, 1) := by decide +kernel
theorem dX5_type_15 : decode cX5_type 15 = .ok (.aload_n 0, 1) := by decide +kernel
theorem dX5_type_16 : decode cX5_type 16 = .ok (.getfield 29, 3) := by decide +kernel
theorem dX5_type_19 : decode cX5_type 19 = .ok (.iload_n 1, 1) := by decide +kernel
theorem dX5_type_20 : decode cX5_type 20 = .ok (.invokevirtual 215, 3) := by decide +kernel
theorem dX5_type_23 : decode cX5_type 23 = .ok (.ifCond .eq 13, 3) := by decide +kernel
theorem dX5_type_26 : decode cX5_type 26 = .ok (.aload_n 0, 1) := by decide +kernel
theorem dX5_type_27 : decode cX5_type 27 = .ok (.getfield 29, 3) := by decide +kernel
theorem dX5_type_30 : decode cX5_type 30 = .ok (.getfield 205, 3) := by decide +kernel
theorem dX5_type_33 : decode cX5_type 33 = .ok (.goto 5, 3) := by decide +kernel
theorem dX5_type_36 : decode cX5_type 36 = .ok (.ldc 218, 2) := by decide +kernel
theorem dX5_type_38 : decode cX5_type 38 = .ok (.ireturn, 1) := by decide +kernel
theorem dX5_clearText_0 : decode cX5_clearText 0 = .ok (.aload_n 0, 1) := by decide +kernel
theorem dX5_clearText_1 : decode cX5_clearText 1 = .ok (.getfield 29, 3) := by decide +kernel
theorem dX5_clearText_4 : decode cX5_clearText 4 = .ok (.getfield 205, 3) := by decide +kernel
theorem dX5_clearText_7 : decode cX5_clearText 7 = .ok (.istore_n 1, 1) := by decide +kernel
theorem dX5_clearText_8 : decode cX5_clearText 8 = .ok (.aload_n 0, 1) := by decide +kernel
theorem dX5_clearText_9 : decode cX5_clearText 9 = .ok (.getfield 29, 3) := by decide +kernel
theorem dX5_clearText_12 : decode cX5_clearText 12 = .ok (.iconst 0, 1) := by decide +kernel
theorem dX5_clearText_13 : decode cX5_clearText 13 = .ok (.putfield 205, 3) := by decide +kernel
theorem dX5_clearText_16 : decode cX5_clearText 16 = .ok (.iload_n 1, 1) := by decide +kernel
theorem dX5_clearText_17 : decode cX5_clearText 17 = .ok (.ireturn, 1) := by decide +kernel
set_option maxRecDepth 20000 in
theorem ggX5_fault_X5_isIndex : GoodIn wsX5_fault wsX5_isIndex := goodIn_r _ [10] (by decide +kernel) (by decide +kernel)
set_option maxRecDepth 20000 in
theorem gX5_fault_X5_isIndex : GoodIn wsX5_fault (va_wsS RX5 81 yX5_isIndex wsX5_isIndex) := goodIn_app (goodIn_of _ (by decide +kernel)) ggX5_fault_X5_isIndex
set_option maxRecDepth 20000 in
theorem ggX5_fault_X5_startTrial : GoodIn wsX5_fault wsX5_startTrial := goodIn_r _ [14, 15, 16, 17, 18, 19, 20, 21, 22, 23, 24, 25, 26, 27, 28, 29, 30, 31, 32, 33, 34, 35, 36, 37, 38, 39, 40, 41, 42, 43, 44, 45, 46, 47, 48, 49, 50, 51, 207, 208, 209, 210, 219, 220, 221, 222, 223, 224, 225, 226, 227, 228, 229, 230, 231, 232, 233] (by decide +kernel) (by decide +kernel)
set_option maxRecDepth 20000 in
theorem gX5_fault_X5_startTrial : GoodIn wsX5_fault (wsV RX5 33 RX5 yX5_startTrial wsX5_startTrial) := goodIn_app (goodIn_of _ (by decide +kernel)) ggX5_fault_X5_startTrial
set_option maxRecDepth 20000 in
theorem ggX5_fault_X2_doAll : GoodIn wsX5_fault wsX2_doAll := goodIn_r _ [56, 57, 58, 59, 60, 61, 62, 63, 55, 64, 65, 66, 67, 68, 69, 70, 71, 72, 73, 74, 75, 76, 77, 78, 79, 80, 81, 82, 83, 84, 85, 86, 87, 88, 89, 90, 20, 91, 92, 93, 94, 95, 96, 97, 23, 24, 98, 99, 100, 101, 8, 9, 10, 102, 103, 104, 44, 105, 50, 46, 106, 107, 7, 108, 109, 110, 111, 112, 113, 114, 115, 22, 116, 117, 118, 119, 49, 120, 121, 122, 34, 123, 36, 124, 125, 126, 127, 128, 129, 29, 130, 131, 132, 133, 134, 135, 38, 136, 137, 138, 139, 140, 141, 142, 143, 144, 37, 26, 27, 28, 39, 145, 146, 147, 148, 149, 150, 151, 152, 153, 154, 155, 156, 51, 48, 157, 158, 159, 160, 30, 161, 162, 163, 164, 165, 166, 167, 168, 169, 170, 171, 172, 173, 174, 175, 176, 177, 178, 179, 180, 181, 182, 183, 184, 185, 186, 187, 188, 189, 190, 191, 192, 193, 194, 195, 196, 197, 198, 199, 200, 201, 202, 203, 204, 205, 206, 47, 211, 212, 213, 214, 215, 216, 217, 218, 219, 220, 221, 222, 223, 224, 229, 230, 231, 232, 233, 225, 226, 227, 228] (by decide +kernel) (by decide +kernel)
set_option maxRecDepth 20000 in
theorem gX5_fault_X2_doAll : GoodIn wsX5_fault (wsV RX5 219 RX2 yX2_doAll wsX2_doAll) := goodIn_app (goodIn_of _ (by decide +kernel)) ggX5_fault_X2_doAll
theorem dX5_fault_0 : decode cX5_fault 0 = .ok (.iload_n 1, 1) := by decide +kernel
theorem dX5_fault_1 : decode cX5_fault 1 = .ok (.iconst 3, 1) := by decide +kernel
theorem dX5_fault_2 : decode cX5_fault 2 = .ok (.invokestatic 81, 3) := by decide +kernel
theorem dX5_fault_5 : decode cX5_fault 5 = .ok (.ifCond .ne 6, 3) := by decide +kernel
theorem dX5_fault_8 : decode cX5_fault 8 = .ok (.ldc 85, 2) := by decide +kernel
theorem dX5_fault_10 : decode cX5_fault 10 = .ok (.ireturn, 1) := by decide +kernel
theorem dX5_fault_11 : decode cX5_fault 11 = .ok (.aload_n 0, 1) := by decide +kernel
theorem dX5_fault_12 : decode cX5_fault 12 = .ok (.getfield 29, 3) := by decide +kernel
theorem dX5_fault_15 : decode cX5_fault 15 = .ok (.aload_n 0, 1) := by decide +kernel
theorem dX5_fault_16 : decode cX5_fault 16 = .ok (.invokevirtual 33, 3) := by decide +kernel
theorem dX5_fault_19 : decode cX5_fault 19 = .ok (.invokevirtual 219, 3) := by decide +kernel
theorem dX5_fault_22 : decode cX5_fault 22 = .ok (.ifCond .eq 6, 3) := by decide +kernel
theorem dX5_fault_25 : decode cX5_fault 25 = .ok (.ldc 104, 2) := by decide +kernel
theorem dX5_fault_27 : decode cX5_fault 27 = .ok (.ireturn, 1) := by decide +kernel
theorem dX5_fault_28 : decode cX5_fault 28 = .ok (.iload_n 1, 1) := by decide +kernel
theorem dX5_fault_29 : decode cX5_fault 29 = .ok (.lookupswitch 43 #[(0, 27), (1, 35)], 27) := by decide +kernel
theorem dX5_fault_56 : decode cX5_fault 56 = .ok (.aload_n 0, 1) := by decide +kernel
theorem dX5_fault_57 : decode cX5_fault 57 = .ok (.getfield 29, 3) := by decide +kernel
theorem dX5_fault_60 : decode cX5_fault 60 = .ok (.getfield 223, 3) := by decide +kernel
theorem dX5_fault_63 : decode cX5_fault 63 = .ok (.ireturn, 1) := by decide +kernel
theorem dX5_fault_64 : decode cX5_fault 64 = .ok (.aload_n 0, 1) := by decide +kernel
theorem dX5_fault_65 : decode cX5_fault 65 = .ok (.getfield 29, 3) := by decide +kernel
theorem dX5_fault_68 : decode cX5_fault 68 = .ok (.getfield 226, 3) := by decide +kernel
theorem dX5_fault_71 : decode cX5_fault 71 = .ok (.ireturn, 1) := by decide +kernel
theorem dX5_fault_72 : decode cX5_fault 72 = .ok (.aload_n 0, 1) := by decide +kernel
theorem dX5_fault_73 : decode cX5_fault 73 = .ok (.getfield 29, 3) := by decide +kernel
theorem dX5_fault_76 : decode cX5_fault 76 = .ok (.getfield 229, 3) := by decide +kernel
theorem dX5_fault_79 : decode cX5_fault 79 = .ok (.ireturn, 1) := by decide +kernel
set_option maxRecDepth 20000 in
theorem ggX5_play_X5_startTrial : GoodIn wsX5_play wsX5_startTrial := goodIn_r _ [8, 9, 10, 11, 12, 13, 14, 15, 16, 17, 18, 19, 20, 21, 22, 23, 24, 25, 26, 27, 28, 29, 30, 31, 32, 33, 34, 35, 36, 37, 38, 39, 40, 41, 42, 43, 44, 45, 217, 218, 219, 220, 229, 230, 231, 232, 233, 234, 235, 236, 237, 238, 239, 240, 241, 242, 243] (by decide +kernel) (by decide +kernel)
set_option maxRecDepth 20000 in
theorem gX5_play_X5_startTrial : GoodIn wsX5_play (wsV RX5 33 RX5 yX5_startTrial wsX5_startTrial) := goodIn_app (goodIn_of _ (by decide +kernel)) ggX5_play_X5_startTrial
set_option maxRecDepth 20000 in
theorem ggX5_play_X2_doAll : GoodIn wsX5_play wsX2_doAll := goodIn_r _ [50, 51, 52, 53, 54, 55, 56, 57, 49, 58, 59, 60, 61, 62, 63, 64, 65, 66, 67, 68, 69, 70, 71, 72, 73, 74, 75, 76, 77, 78, 79, 80, 81, 82, 83, 84, 14, 85, 86, 87, 88, 89, 90, 91, 17, 18, 92, 93, 94, 95, 96, 7, 97, 98, 99, 100, 38, 101, 44, 40, 102, 103, 104, 105, 106, 107, 108, 109, 110, 111, 112, 16, 113, 114, 115, 116, 43, 117, 118, 119, 28, 120, 30, 121, 122, 123, 124, 125, 126, 23, 127, 128, 129, 130, 131, 132, 32, 133, 134, 135, 136, 137, 138, 139, 140, 141, 31, 20, 21, 22, 33, 142, 143, 144, 145, 146, 147, 148, 149, 150, 151, 152, 153, 45, 42, 154, 155, 156, 157, 24, 158, 159, 160, 161, 162, 163, 164, 165, 166, 167, 168, 169, 170, 171, 172, 173, 174, 175, 176, 177, 178, 179, 180, 181, 182, 183, 184, 185, 186, 187, 188, 189, 190, 191, 192, 193, 194, 195, 196, 197, 198, 199, 200, 201, 202, 203, 41, 221, 222, 223, 224, 225, 226, 227, 228, 229, 230, 231, 232, 233, 234, 239, 240, 241, 242, 243, 235, 236, 237, 238] (by decide +kernel) (by decide +kernel)
set_option maxRecDepth 20000 in
theorem gX5_play_X2_doAll : GoodIn wsX5_play (wsV RX5 219 RX2 yX2_doAll wsX2_doAll) := goodIn_app (goodIn_of _ (by decide +kernel)) ggX5_play_X2_doAll
set_option maxRecDepth 20000 in
theorem ggX5_play_X5_keepTrial : GoodIn wsX5_play wsX5_keepTrial := goodIn_r _ [207, 10, 9, 208, 209, 210, 211, 212, 213, 214, 215, 216, 217, 218, 219, 220, 244, 245, 246] (by decide +kernel) (by decide +kernel)
set_option maxRecDepth 20000 in
theorem gX5_play_X5_keepTrial : GoodIn wsX5_play (wsV RX5 41 RX5 yX5_keepTrial wsX5_keepTrial) := goodIn_app (goodIn_of _ (by decide +kernel)) ggX5_play_X5_keepTrial
theorem dX5_play_0 : decode cX5_play 0 = .ok (.aload_n 0, 1) := by decide +kernel
theorem dX5_play_1 : decode cX5_play 1 = .ok (.aload_n 0, 1) := by decide +kernel
theorem dX5_play_2 : decode cX5_play 2 = .ok (.getfield 29, 3) := by decide +kernel
theorem dX5_play_5 : decode cX5_play 5 = .ok (.aload_n 0, 1) := by decide +kernel
theorem dX5_play_6 : decode cX5_play 6 = .ok (.invokevirtual 33, 3) := by decide +kernel
theorem dX5_play_9 : decode cX5_play 9 = .ok (.invokevirtual 219, 3) := by decide +kernel
theorem dX5_play_12 : decode cX5_play 12 = .ok (.ifCond .eq 13, 3) := by decide +kernel
theorem dX5_play_15 : decode cX5_play 15 = .ok (.aload_n 0, 1) := by decide +kernel
theorem dX5_play_16 : decode cX5_play 16 = .ok (.getfield 29, 3) := by decide +kernel
theorem dX5_play_19 : decode cX5_play 19 = .ok (.getfield 232, 3) := by decide +kernel
theorem dX5_play_22 : decode cX5_play 22 = .ok (.goto 5, 3) := by decide +kernel
theorem dX5_play_25 : decode cX5_play 25 = .ok (.ldc 184, 2) := by decide +kernel
theorem dX5_play_27 : decode cX5_play 27 = .ok (.invokevirtual 41, 3) := by decide +kernel
theorem dX5_play_30 : decode cX5_play 30 = .ok (.ireturn, 1) := by decide +kernel
set_option maxRecDepth 20000 in
theorem ggX5_startTrial_X4_becomeLike : GoodIn wsX5_startTrial wsX4_becomeLike := goodIn_r _ [7, 8, 9, 10, 11, 12, 13, 14, 15, 16, 17, 18, 19, 20, 21, 22, 23, 24, 25, 26, 27, 28, 29, 30, 31, 32, 33, 34, 35, 36, 37, 42, 43, 44, 45, 46, 47, 48, 49, 50, 51, 52, 53, 54, 55, 56] (by decide +kernel) (by decide +kernel)
set_option maxRecDepth 20000 in
theorem gX5_startTrial_X4_becomeLike : GoodIn wsX5_startTrial (wsV RX5 235 RX4 yX4_becomeLike wsX4_becomeLike) := goodIn_app (goodIn_of _ (by decide +kernel)) ggX5_startTrial_X4_becomeLike
theorem dX5_startTrial_0 : decode cX5_startTrial 0 = .ok (.aload_n 0, 1) := by decide +kernel
theorem dX5_startTrial_1 : decode cX5_startTrial 1 = .ok (.getfield 16, 3) := by decide +kernel
theorem dX5_startTrial_4 : decode cX5_startTrial 4 = .ok (.aload_n 0, 1) := by decide +kernel
theorem dX5_startTrial_5 : decode cX5_startTrial 5 = .ok (.getfield 10, 3) := by decide +kernel
theorem dX5_startTrial_8 : decode cX5_startTrial 8 = .ok (.invokevirtual 235, 3) := by decide +kernel
theorem dX5_startTrial_11 : decode cX5_startTrial 11 = .ok (.aload_n 0, 1) := by decide +kernel
theorem dX5_startTrial_12 : decode cX5_startTrial 12 = .ok (.getfield 16, 3) := by decide +kernel
theorem dX5_startTrial_15 : decode cX5_startTrial 15 = .ok (.areturn, 1) := by decide +kernel
set_option maxRecDepth 20000 in
theorem ggX5_keepTrial_X1_add : GoodIn wsX5_keepTrial wsX1_add := goodIn_r _ [8, 9, 10, 11, 16, 17, 18] (by decide +kernel) (by decide +kernel)
set_option maxRecDepth 20000 in
theorem gX5_keepTrial_X1_add : GoodIn wsX5_keepTrial (wsV RX5 239 RX1 yX1_add wsX1_add) := goodIn_app (goodIn_of _ (by decide +kernel)) ggX5_keepTrial_X1_add
theorem dX5_keepTrial_0 : decode cX5_keepTrial 0 = .ok (.iload_n 1, 1) := by decide +kernel
theorem dX5_keepTrial_1 : decode cX5_keepTrial 1 = .ok (.ifCond .lt 28, 3) := by decide +kernel
theorem dX5_keepTrial_4 : decode cX5_keepTrial 4 = .ok (.aload_n 0, 1) := by decide +kernel
theorem dX5_keepTrial_5 : decode cX5_keepTrial 5 = .ok (.getfield 10, 3) := by decide +kernel
theorem dX5_keepTrial_8 : decode cX5_keepTrial 8 = .ok (.astore_n 2, 1) := by decide +kernel
theorem dX5_keepTrial_9 : decode cX5_keepTrial 9 = .ok (.aload_n 0, 1) := by decide +kernel
theorem dX5_keepTrial_10 : decode cX5_keepTrial 10 = .ok (.aload_n 0, 1) := by decide +kernel
theorem dX5_keepTrial_11 : decode cX5_keepTrial 11 = .ok (.getfield 16, 3) := by decide +kernel
theorem dX5_keepTrial_14 : decode cX5_keepTrial 14 = .ok (.putfield 10, 3) := by decide +kernel
theorem dX5_keepTrial_17 : decode cX5_keepTrial 17 = .ok (.aload_n 0, 1) := by decide +kernel
theorem dX5_keepTrial_18 : decode cX5_keepTrial 18 = .ok (.aload_n 0, 1) := by decide +kernel
theorem dX5_keepTrial_19 : decode cX5_keepTrial 19 = .ok (.getfield 22, 3) := by decide +kernel
theorem dX5_keepTrial_22 : decode cX5_keepTrial 22 = .ok (.aload_n 2, 1) := by decide +kernel
theorem dX5_keepTrial_23 : decode cX5_keepTrial 23 = .ok (.invokevirtual 239, 3) := by decide +kernel
theorem dX5_keepTrial_26 : decode cX5_keepTrial 26 = .ok (.putfield 16, 3) := by decide +kernel
theorem dX5_keepTrial_29 : decode cX5_keepTrial 29 = .ok (.iload_n 1, 1) := by decide +kernel
theorem dX5_keepTrial_30 : decode cX5_keepTrial 30 = .ok (.ireturn, 1) := by decide +kernel
theorem dX5_isIndex_0 : decode cX5_isIndex 0 = .ok (.iload_n 0, 1) := by decide +kernel
theorem dX5_isIndex_1 : decode cX5_isIndex 1 = .ok (.ifCond .lt 12, 3) := by decide +kernel
theorem dX5_isIndex_4 : decode cX5_isIndex 4 = .ok (.iload_n 0, 1) := by decide +kernel
theorem dX5_isIndex_5 : decode cX5_isIndex 5 = .ok (.iload_n 1, 1) := by decide +kernel
theorem dX5_isIndex_6 : decode cX5_isIndex 6 = .ok (.if_icmp .ge 7, 3) := by decide +kernel
theorem dX5_isIndex_9 : decode cX5_isIndex 9 = .ok (.iconst 1, 1) := by decide +kernel
theorem dX5_isIndex_10 : decode cX5_isIndex 10 = .ok (.goto 4, 3) := by decide +kernel
theorem dX5_isIndex_13 : decode cX5_isIndex 13 = .ok (.iconst 0, 1) := by decide +kernel
theorem dX5_isIndex_14 : decode cX5_isIndex 14 = .ok (.ireturn, 1) := by decide +kernel
set_option maxRecDepth 20000 in
theorem ggX5_isRange_X5_isIndex : GoodIn wsX5_isRange wsX5_isIndex := goodIn_r _ [4] (by decide +kernel) (by decide +kernel)
set_option maxRecDepth 20000 in
theorem gX5_isRange_X5_isIndex : GoodIn wsX5_isRange (va_wsS RX5 81 yX5_isIndex wsX5_isIndex) := goodIn_app (goodIn_of _ (by decide +kernel)) ggX5_isRange_X5_isIndex
theorem dX5_isRange_0 : decode cX5_isRange 0 = .ok (.iload_n 0, 1) := by decide +kernel
theorem dX5_isRange_1 : decode cX5_isRange 1 = .ok (.bipush 48, 2) := by decide +kernel
theorem dX5_isRange_3 : decode cX5_isRange 3 = .ok (.invokestatic 81, 3) := by decide +kernel
theorem dX5_isRange_6 : decode cX5_isRange 6 = .ok (.ifCond .eq 20, 3) := by decide +kernel
theorem dX5_isRange_9 : decode cX5_isRange 9 = .ok (.iload_n 1, 1) := by decide +kernel
theorem dX5_isRange_10 : decode cX5_isRange 10 = .ok (.iconst 1, 1) := by decide +kernel
theorem dX5_isRange_11 : decode cX5_isRange 11 = .ok (.if_icmp .lt 15, 3) := by decide +kernel
theorem dX5_isRange_14 : decode cX5_isRange 14 = .ok (.iload_n 1, 1) := by decide +kernel
theorem dX5_isRange_15 : decode cX5_isRange 15 = .ok (.bipush 48, 2) := by decide +kernel
theorem dX5_isRange_17 : decode cX5_isRange 17 = .ok (.iload_n 0, 1) := by decide +kernel
theorem dX5_isRange_18 : decode cX5_isRange 18 = .ok (.isub, 1) := by decide +kernel
theorem dX5_isRange_19 : decode cX5_isRange 19 = .ok (.if_icmp .gt 7, 3) := by decide +kernel
theorem dX5_isRange_22 : decode cX5_isRange 22 = .ok (.iconst 1, 1) := by decide +kernel
theorem dX5_isRange_23 : decode cX5_isRange 23 = .ok (.goto 4, 3) := by decide +kernel
theorem dX5_isRange_26 : decode cX5_isRange 26 = .ok (.iconst 0, 1) := by decide +kernel
theorem dX5_isRange_27 : decode cX5_isRange 27 = .ok (.ireturn, 1) := by decide +kernel
theorem dX5_foundOr_0 : decode cX5_foundOr 0 = .ok (.iload_n 0, 1) := by decide +kernel
theorem dX5_foundOr_1 : decode cX5_foundOr 1 = .ok (.ifCond .lt 7, 3) := by decide +kernel
theorem dX5_foundOr_4 : decode cX5_foundOr 4 = .ok (.iload_n 0, 1) := by decide +kernel
theorem dX5_foundOr_5 : decode cX5_foundOr 5 = .ok (.goto 5, 3) := by decide +kernel
theorem dX5_foundOr_8 : decode cX5_foundOr 8 = .ok (.ldc 104, 2) := by decide +kernel
theorem dX5_foundOr_10 : decode cX5_foundOr 10 = .ok (.ireturn, 1) := by decide +kernel
theorem dX6_init_0 : decode cX6_init 0 = .ok (.aload_n 0, 1) := by decide +kernel
theorem dX6_init_1 : decode cX6_init 1 = .ok (.invokespecial 1, 3) := by decide +kernel
theorem dX6_init_4 : decode cX6_init 4 = .ok (.aload_n 0, 1) := by decide +kernel
theorem dX6_init_5 : decode cX6_init 5 = .ok (.sipush 498, 3) := by decide +kernel
theorem dX6_init_8 : decode cX6_init 8 = .ok (.newarray .int, 2) := by decide +kernel
theorem dX6_init_10 : decode cX6_init 10 = .ok (.putfield 7, 3) := by decide +kernel
theorem dX6_init_13 : decode cX6_init 13 = .ok (.aload_n 0, 1) := by decide +kernel
theorem dX6_init_14 : decode cX6_init 14 = .ok (.sipush 1992, 3) := by decide +kernel
theorem dX6_init_17 : decode cX6_init 17 = .ok (.newarray .int, 2) := by decide +kernel
theorem dX6_init_19 : decode cX6_init 19 = .ok (.putfield 13, 3) := by decide +kernel
theorem dX6_init_22 : decode cX6_init 22 = .ok (.aload_n 0, 1) := by decide +kernel
theorem dX6_init_23 : decode cX6_init 23 = .ok (.sipush 498, 3) := by decide +kernel
theorem dX6_init_26 : decode cX6_init 26 = .ok (.newarray .int, 2) := by decide +kernel
theorem dX6_init_28 : decode cX6_init 28 = .ok (.putfield 16, 3) := by decide +kernel
theorem dX6_init_31 : decode cX6_init 31 = .ok (.aload_n 0, 1) := by decide +kernel
theorem dX6_init_32 : decode cX6_init 32 = .ok (.bipush 60, 2) := by decide +kernel
theorem dX6_init_34 : decode cX6_init 34 = .ok (.newarray .int, 2) := by decide +kernel
theorem dX6_init_36 : decode cX6_init 36 = .ok (.putfield 19, 3) := by decide +kernel
theorem dX6_init_39 : decode cX6_init 39 = .ok (.aload_n 0, 1) := by decide +kernel
theorem dX6_init_40 : decode cX6_init 40 = .ok (.bipush 48, 2) := by decide +kernel
theorem dX6_init_42 : decode cX6_init 42 = .ok (.newarray .int, 2) := by decide +kernel
theorem dX6_init_44 : decode cX6_init 44 = .ok (.putfield 22, 3) := by decide +kernel
theorem dX6_init_47 : decode cX6_init 47 = .ok (.aload_n 0, 1) := by decide +kernel
theorem dX6_init_48 : decode cX6_init 48 = .ok (.iconst 4, 1) := by decide +kernel
theorem dX6_init_49 : decode cX6_init 49 = .ok (.newarray .int, 2) := by decide +kernel
theorem dX6_init_51 : decode cX6_init 51 = .ok (.putfield 25, 3) := by decide +kernel
theorem dX6_init_54 : decode cX6_init 54 = .ok (.aload_n 0, 1) := by decide +kernel
theorem dX6_init_55 : decode cX6_init 55 = .ok (.sipush 498, 3) := by decide +kernel
theorem dX6_init_58 : decode cX6_init 58 = .ok (.newarray .int, 2) := by decide +kernel
theorem dX6_init_60 : decode cX6_init 60 = .ok (.putfield 28, 3) := by decide +kernel
theorem dX6_init_63 : decode cX6_init 63 = .ok (.aload_n 0, 1) := by decide +kernel
theorem dX6_init_64 : decode cX6_init 64 = .ok (.getfield 7, 3) := by decide +kernel
theorem dX6_init_67 : decode cX6_init 67 = .ok (.iconst 0, 1) := by decide +kernel
theorem dX6_init_68 : decode cX6_init 68 = .ok (.iconst 1, 1) := by decide +kernel
theorem dX6_init_69 : decode cX6_init 69 = .ok (.iastore, 1) := by decide +kernel
theorem dX6_init_70 : decode cX6_init 70 = .ok (.aload_n 0, 1) := by decide +kernel
theorem dX6_init_71 : decode cX6_init 71 = .ok (.getfield 7, 3) := by decide +kernel
theorem dX6_init_74 : decode cX6_init 74 = .ok (.iconst 1, 1) := by decide +kernel
theorem dX6_init_75 : decode cX6_init 75 = .ok (.iconst 1, 1) := by decide +kernel
theorem dX6_init_76 : decode cX6_init 76 = .ok (.iastore, 1) := by decide +kernel
theorem dX6_init_77 : decode cX6_init 77 = .ok (.aload_n 0, 1) := by decide +kernel
theorem dX6_init_78 : decode cX6_init 78 = .ok (.getfield 7, 3) := by decide +kernel
theorem dX6_init_81 : decode cX6_init 81 = .ok (.iconst 2, 1) := by decide +kernel
theorem dX6_init_82 : decode cX6_init 82 = .ok (.iconst 1, 1) := by decide +kernel
theorem dX6_init_83 : decode cX6_init 83 = .ok (.iastore, 1) := by decide +kernel
theorem dX6_init_84 : decode cX6_init 84 = .ok (.aload_n 0, 1) := by decide +kernel
theorem dX6_init_85 : decode cX6_init 85 = .ok (.getfield 7, 3) := by decide +kernel
theorem dX6_init_88 : decode cX6_init 88 = .ok (.iconst 5, 1) := by decide +kernel
theorem dX6_init_89 : decode cX6_init 89 = .ok (.iconst 1, 1) := by decide +kernel
theorem dX6_init_90 : decode cX6_init 90 = .ok (.iastore, 1) := by decide +kernel
theorem dX6_init_91 : decode cX6_init 91 = .ok (.iconst 1, 1) := by decide +kernel
theorem dX6_init_92 : decode cX6_init 92 = .ok (.istore_n 1, 1) := by decide +kernel
theorem dX6_init_93 : decode cX6_init 93 = .ok (.iload_n 1, 1) := by decide +kernel
theorem dX6_init_94 : decode cX6_init 94 = .ok (.iconst 4, 1) := by decide +kernel
theorem dX6_init_95 : decode cX6_init 95 = .ok (.if_icmp .ge 19, 3) := by decide +kernel
theorem dX6_init_98 : decode cX6_init 98 = .ok (.aload_n 0, 1) := by decide +kernel
theorem dX6_init_99 : decode cX6_init 99 = .ok (.getfield 7, 3) := by decide +kernel
theorem dX6_init_102 : decode cX6_init 102 = .ok (.bipush 6, 2) := by decide +kernel
theorem dX6_init_104 : decode cX6_init 104 = .ok (.iload_n 1, 1) := by decide +kernel
theorem dX6_init_105 : decode cX6_init 105 = .ok (.iadd, 1) := by decide +kernel
theorem dX6_init_106 : decode cX6_init 106 = .ok (.iconst (-1), 1) := by decide +kernel
theorem dX6_init_107 : decode cX6_init 107 = .ok (.iastore, 1) := by decide +kernel
theorem dX6_init_108 : decode cX6_init 108 = .ok (.iinc 1 1, 3) := by decide +kernel
theorem dX6_init_111 : decode cX6_init 111 = .ok (.goto (-18), 3) := by decide +kernel
theorem dX6_init_114 : decode cX6_init 114 = .ok (.aload_n 0, 1) := by decide +kernel
theorem dX6_init_115 : decode cX6_init 115 = .ok (.getfield 7, 3) := by decide +kernel
theorem dX6_init_118 : decode cX6_init 118 = .ok (.bipush 11, 2) := by decide +kernel
theorem dX6_init_120 : decode cX6_init 120 = .ok (.iconst (-1), 1) := by decide +kernel
theorem dX6_init_121 : decode cX6_init 121 = .ok (.iastore, 1) := by decide +kernel
theorem dX6_init_122 : decode cX6_init 122 = .ok (.aload_n 0, 1) := by decide +kernel
theorem dX6_init_123 : decode cX6_init 123 = .ok (.getfield 7, 3) := by decide +kernel
theorem dX6_init_126 : decode cX6_init 126 = .ok (.sipush 138, 3) := by decide +kernel
theorem dX6_init_129 : decode cX6_init 129 = .ok (.iconst 1, 1) := by decide +kernel
theorem dX6_init_130 : decode cX6_init 130 = .ok (.iastore, 1) := by decide +kernel
theorem dX6_init_131 : decode cX6_init 131 = .ok (.return_, 1) := by decide +kernel
theorem dX6_in_0 : decode cX6_in 0 = .ok (.iload_n 0, 1) := by decide +kernel
theorem dX6_in_1 : decode cX6_in 1 = .ok (.iload_n 1, 1) := by decide +kernel
theorem dX6_in_2 : decode cX6_in 2 = .ok (.if_icmp .lt 12, 3) := by decide +kernel
theorem dX6_in_5 : decode cX6_in 5 = .ok (.iload_n 0, 1) := by decide +kernel
theorem dX6_in_6 : decode cX6_in 6 = .ok (.iload_n 2, 1) := by decide +kernel
theorem dX6_in_7 : decode cX6_in 7 = .ok (.if_icmp .gt 7, 3) := by decide +kernel
theorem dX6_in_10 : decode cX6_in 10 = .ok (.iconst 1, 1) := by decide +kernel
theorem dX6_in_11 : decode cX6_in 11 = .ok (.goto 4, 3) := by decide +kernel
theorem dX6_in_14 : decode cX6_in 14 = .ok (.iconst 0, 1) := by decide +kernel
theorem dX6_in_15 : decode cX6_in 15 = .ok (.ireturn, 1) := by decide +kernel
theorem dX6_copies_0 : decode cX6_copies 0 = .ok (.iconst 0, 1) := by decide +kernel
theorem dX6_copies_1 : decode cX6_copies 1 = .ok (.istore_n 2, 1) := by decide +kernel
theorem dX6_copies_2 : decode cX6_copies 2 = .ok (.iload_n 2, 1) := by decide +kernel
theorem dX6_copies_3 : decode cX6_copies 3 = .ok (.sipush 498, 3) := by decide +kernel
theorem dX6_copies_6 : decode cX6_copies 6 = .ok (.if_icmp .ge 15, 3) := by decide +kernel
theorem dX6_copies_9 : decode cX6_copies 9 = .ok (.aload_n 1, 1) := by decide +kernel
theorem dX6_copies_10 : decode cX6_copies 10 = .ok (.iload_n 2, 1) := by decide +kernel
theorem dX6_copies_11 : decode cX6_copies 11 = .ok (.aload_n 0, 1) := by decide +kernel
theorem dX6_copies_12 : decode cX6_copies 12 = .ok (.iload_n 2, 1) := by decide +kernel
theorem dX6_copies_13 : decode cX6_copies 13 = .ok (.iaload, 1) := by decide +kernel
theorem dX6_copies_14 : decode cX6_copies 14 = .ok (.iastore, 1) := by decide +kernel
theorem dX6_copies_15 : decode cX6_copies 15 = .ok (.iinc 2 1, 3) := by decide +kernel
theorem dX6_copies_18 : decode cX6_copies 18 = .ok (.goto (-16), 3) := by decide +kernel
theorem dX6_copies_21 : decode cX6_copies 21 = .ok (.return_, 1) := by decide +kernel
theorem dX6_changes_0 : decode cX6_changes 0 = .ok (.aload_n 0, 1) := by decide +kernel
theorem dX6_changes_1 : decode cX6_changes 1 = .ok (.getfield 31, 3) := by decide +kernel
theorem dX6_changes_4 : decode cX6_changes 4 = .ok (.ifCond .eq 4, 3) := by decide +kernel
theorem dX6_changes_7 : decode cX6_changes 7 = .ok (.return_, 1) := by decide +kernel
theorem dX6_changes_8 : decode cX6_changes 8 = .ok (.aload_n 0, 1) := by decide +kernel
theorem dX6_changes_9 : decode cX6_changes 9 = .ok (.getfield 35, 3) := by decide +kernel
theorem dX6_changes_12 : decode cX6_changes 12 = .ok (.iconst 4, 1) := by decide +kernel
theorem dX6_changes_13 : decode cX6_changes 13 = .ok (.if_icmp .ne 44, 3) := by decide +kernel
theorem dX6_changes_16 : decode cX6_changes 16 = .ok (.iconst 0, 1) := by decide +kernel
theorem dX6_changes_17 : decode cX6_changes 17 = .ok (.istore_n 1, 1) := by decide +kernel
theorem dX6_changes_18 : decode cX6_changes 18 = .ok (.iload_n 1, 1) := by decide +kernel
theorem dX6_changes_19 : decode cX6_changes 19 = .ok (.sipush 1494, 3) := by decide +kernel
theorem dX6_changes_22 : decode cX6_changes 22 = .ok (.if_icmp .ge 25, 3) := by decide +kernel
theorem dX6_changes_25 : decode cX6_changes 25 = .ok (.aload_n 0, 1) := by decide +kernel
theorem dX6_changes_26 : decode cX6_changes 26 = .ok (.getfield 13, 3) := by decide +kernel
theorem dX6_changes_29 : decode cX6_changes 29 = .ok (.iload_n 1, 1) := by decide +kernel
theorem dX6_changes_30 : decode cX6_changes 30 = .ok (.aload_n 0, 1) := by decide +kernel
theorem dX6_changes_31 : decode cX6_changes 31 = .ok (.getfield 13, 3) := by decide +kernel
theorem dX6_changes_34 : decode cX6_changes 34 = .ok (.iload_n 1, 1) := by decide +kernel
theorem dX6_changes_35 : decode cX6_changes 35 = .ok (.sipush 498, 3) := by decide +kernel
theorem dX6_changes_38 : decode cX6_changes 38 = .ok (.iadd, 1) := by decide +kernel
theorem dX6_changes_39 : decode cX6_changes 39 = .ok (.iaload, 1) := by decide +kernel
theorem dX6_changes_40 : decode cX6_changes 40 = .ok (.iastore, 1) := by decide +kernel
theorem dX6_changes_41 : decode cX6_changes 41 = .ok (.iinc 1 1, 3) := by decide +kernel
theorem dX6_changes_44 : decode cX6_changes 44 = .ok (.goto (-26), 3) := by decide +kernel
theorem dX6_changes_47 : decode cX6_changes 47 = .ok (.aload_n 0, 1) := by decide +kernel
theorem dX6_changes_48 : decode cX6_changes 48 = .ok (.dup, 1) := by decide +kernel
theorem dX6_changes_49 : decode cX6_changes 49 = .ok (.getfield 35, 3) := by decide +kernel
theorem dX6_changes_52 : decode cX6_changes 52 = .ok (.iconst 1, 1) := by decide +kernel
theorem dX6_changes_53 : decode cX6_changes 53 = .ok (.isub, 1) := by decide +kernel
theorem dX6_changes_54 : decode cX6_changes 54 = .ok (.putfield 35, 3) := by decide +kernel
theorem dX6_changes_57 : decode cX6_changes 57 = .ok (.iconst 0, 1) := by decide +kernel
theorem dX6_changes_58 : decode cX6_changes 58 = .ok (.istore_n 1, 1) := by decide +kernel
theorem dX6_changes_59 : decode cX6_changes 59 = .ok (.iload_n 1, 1) := by decide +kernel
theorem dX6_changes_60 : decode cX6_changes 60 = .ok (.sipush 498, 3) := by decide +kernel
theorem dX6_changes_63 : decode cX6_changes 63 = .ok (.if_icmp .ge 30, 3) := by decide +kernel
theorem dX6_changes_66 : decode cX6_changes 66 = .ok (.aload_n 0, 1) := by decide +kernel
theorem dX6_changes_67 : decode cX6_changes 67 = .ok (.getfield 13, 3) := by decide +kernel
theorem dX6_changes_70 : decode cX6_changes 70 = .ok (.sipush 498, 3) := by decide +kernel
theorem dX6_changes_73 : decode cX6_changes 73 = .ok (.aload_n 0, 1) := by decide +kernel
theorem dX6_changes_74 : decode cX6_changes 74 = .ok (.getfield 35, 3) := by decide +kernel
theorem dX6_changes_77 : decode cX6_changes 77 = .ok (.imul, 1) := by decide +kernel
theorem dX6_changes_78 : decode cX6_changes 78 = .ok (.iload_n 1, 1) := by decide +kernel
theorem dX6_changes_79 : decode cX6_changes 79 = .ok (.iadd, 1) := by decide +kernel
theorem dX6_changes_80 : decode cX6_changes 80 = .ok (.aload_n 0, 1) := by decide +kernel
theorem dX6_changes_81 : decode cX6_changes 81 = .ok (.getfield 7, 3) := by decide +kernel
theorem dX6_changes_84 : decode cX6_changes 84 = .ok (.iload_n 1, 1) := by decide +kernel
theorem dX6_changes_85 : decode cX6_changes 85 = .ok (.iaload, 1) := by decide +kernel
theorem dX6_changes_86 : decode cX6_changes 86 = .ok (.iastore, 1) := by decide +kernel
theorem dX6_changes_87 : decode cX6_changes 87 = .ok (.iinc 1 1, 3) := by decide +kernel
theorem dX6_changes_90 : decode cX6_changes 90 = .ok (.goto (-31), 3) := by decide +kernel
theorem dX6_changes_93 : decode cX6_changes 93 = .ok (.aload_n 0, 1) := by decide +kernel
theorem dX6_changes_94 : decode cX6_changes 94 = .ok (.dup, 1) := by decide +kernel
theorem dX6_changes_95 : decode cX6_changes 95 = .ok (.getfield 35, 3) := by decide +kernel
theorem dX6_changes_98 : decode cX6_changes 98 = .ok (.iconst 1, 1) := by decide +kernel
theorem dX6_changes_99 : decode cX6_changes 99 = .ok (.iadd, 1) := by decide +kernel
theorem dX6_changes_100 : decode cX6_changes 100 = .ok (.putfield 35, 3) := by decide +kernel
theorem dX6_changes_103 : decode cX6_changes 103 = .ok (.return_, 1) := by decide +kernel
theorem dX6_of_0 : decode cX6_of 0 = .ok (.aload_n 0, 1) := by decide +kernel
theorem dX6_of_1 : decode cX6_of 1 = .ok (.getfield 7, 3) := by decide +kernel
theorem dX6_of_4 : decode cX6_of 4 = .ok (.bipush 10, 2) := by decide +kernel
theorem dX6_of_6 : decode cX6_of 6 = .ok (.bipush 8, 2) := by decide +kernel
theorem dX6_of_8 : decode cX6_of 8 = .ok (.iload_n 1, 1) := by decide +kernel
theorem dX6_of_9 : decode cX6_of 9 = .ok (.imul, 1) := by decide +kernel
theorem dX6_of_10 : decode cX6_of 10 = .ok (.iadd, 1) := by decide +kernel
theorem dX6_of_11 : decode cX6_of 11 = .ok (.iload_n 2, 1) := by decide +kernel
theorem dX6_of_12 : decode cX6_of 12 = .ok (.iadd, 1) := by decide +kernel
theorem dX6_of_13 : decode cX6_of 13 = .ok (.iaload, 1) := by decide +kernel
theorem dX6_of_14 : decode cX6_of 14 = .ok (.ireturn, 1) := by decide +kernel
set_option maxRecDepth 20000 in
theorem ggX6_slot_X6_of : GoodIn wsX6_slot wsX6_of := goodIn_r _ [7, 1, 8, 9, 10, 11, 12, 13, 14, 15, 16, 17, 18, 19, 20, 21, 22, 23] (by decide +kernel) (by decide +kernel)
set_option maxRecDepth 20000 in
theorem gX6_slot_X6_of : GoodIn wsX6_slot (wsV RX6 39 RX6 yX6_of wsX6_of) := goodIn_app (goodIn_of _ (by decide +kernel)) ggX6_slot_X6_of
theorem dX6_slot_0 : decode cX6_slot 0 = .ok (.iconst 0, 1) := by decide +kernel
theorem dX6_slot_1 : decode cX6_slot 1 = .ok (.istore_n 2, 1) := by decide +kernel
theorem dX6_slot_2 : decode cX6_slot 2 = .ok (.iload_n 2, 1) := by decide +kernel
theorem dX6_slot_3 : decode cX6_slot 3 = .ok (.aload_n 0, 1) := by decide +kernel
theorem dX6_slot_4 : decode cX6_slot 4 = .ok (.getfield 7, 3) := by decide +kernel
theorem dX6_slot_7 : decode cX6_slot 7 = .ok (.iconst 0, 1) := by decide +kernel
theorem dX6_slot_8 : decode cX6_slot 8 = .ok (.iaload, 1) := by decide +kernel
theorem dX6_slot_9 : decode cX6_slot 9 = .ok (.if_icmp .ge 21, 3) := by decide +kernel
theorem dX6_slot_12 : decode cX6_slot 12 = .ok (.aload_n 0, 1) := by decide +kernel
theorem dX6_slot_13 : decode cX6_slot 13 = .ok (.iload_n 2, 1) := by decide +kernel
theorem dX6_slot_14 : decode cX6_slot 14 = .ok (.iconst 0, 1) := by decide +kernel
theorem dX6_slot_15 : decode cX6_slot 15 = .ok (.invokevirtual 39, 3) := by decide +kernel
theorem dX6_slot_18 : decode cX6_slot 18 = .ok (.iload_n 1, 1) := by decide +kernel
theorem dX6_slot_19 : decode cX6_slot 19 = .ok (.if_icmp .ne 5, 3) := by decide +kernel
theorem dX6_slot_22 : decode cX6_slot 22 = .ok (.iload_n 2, 1) := by decide +kernel
theorem dX6_slot_23 : decode cX6_slot 23 = .ok (.ireturn, 1) := by decide +kernel
theorem dX6_slot_24 : decode cX6_slot 24 = .ok (.iinc 2 1, 3) := by decide +kernel
theorem dX6_slot_27 : decode cX6_slot 27 = .ok (.goto (-25), 3) := by decide +kernel
theorem dX6_slot_30 : decode cX6_slot 30 = .ok (.ldc 43, 2) := by decide +kernel
theorem dX6_slot_32 : decode cX6_slot 32 = .ok (.ireturn, 1) := by decide +kernel
set_option maxRecDepth 20000 in
theorem ggX6_isState_X6_slot : GoodIn wsX6_isState wsX6_slot := goodIn_r _ [5, 6, 7, 8, 9, 10, 4, 11, 12, 13, 14, 15, 16, 17, 18, 19, 20, 21, 22, 23, 24, 25, 26, 27] (by decide +kernel) (by decide +kernel)
set_option maxRecDepth 20000 in
theorem gX6_isState_X6_slot : GoodIn wsX6_isState (wsV RX6 44 RX6 yX6_slot wsX6_slot) := goodIn_app (goodIn_of _ (by decide +kernel)) ggX6_isState_X6_slot
theorem dX6_isState_0 : decode cX6_isState 0 = .ok (.aload_n 0, 1) := by decide +kernel
theorem dX6_isState_1 : decode cX6_isState 1 = .ok (.iload_n 1, 1) := by decide +kernel
theorem dX6_isState_2 : decode cX6_isState 2 = .ok (.invokevirtual 44, 3) := by decide +kernel
theorem dX6_isState_5 : decode cX6_isState 5 = .ok (.ifCond .lt 7, 3) := by decide +kernel
theorem dX6_isState_8 : decode cX6_isState 8 = .ok (.iconst 1, 1) := by decide +kernel
theorem dX6_isState_9 : decode cX6_isState 9 = .ok (.goto 4, 3) := by decide +kernel
theorem dX6_isState_12 : decode cX6_isState 12 = .ok (.iconst 0, 1) := by decide +kernel
theorem dX6_isState_13 : decode cX6_isState 13 = .ok (.ireturn, 1) := by decide +kernel
set_option maxRecDepth 20000 in
theorem ggX6_isBranch_X6_in : GoodIn wsX6_isBranch wsX6_in := goodIn_r _ [5] (by decide +kernel) (by decide +kernel)
set_option maxRecDepth 20000 in
theorem gX6_isBranch_X6_in : GoodIn wsX6_isBranch (va_wsS RX6 48 yX6_in wsX6_in) := goodIn_app (goodIn_of _ (by decide +kernel)) ggX6_isBranch_X6_in
theorem dX6_isBranch_0 : decode cX6_isBranch 0 = .ok (.iload_n 1, 1) := by decide +kernel
theorem dX6_isBranch_1 : decode cX6_isBranch 1 = .ok (.iconst 0, 1) := by decide +kernel
theorem dX6_isBranch_2 : decode cX6_isBranch 2 = .ok (.iconst 3, 1) := by decide +kernel
theorem dX6_isBranch_3 : decode cX6_isBranch 3 = .ok (.invokestatic 48, 3) := by decide +kernel
theorem dX6_isBranch_6 : decode cX6_isBranch 6 = .ok (.ifCond .eq 19, 3) := by decide +kernel
theorem dX6_isBranch_9 : decode cX6_isBranch 9 = .ok (.aload_n 0, 1) := by decide +kernel
theorem dX6_isBranch_10 : decode cX6_isBranch 10 = .ok (.getfield 7, 3) := by decide +kernel
theorem dX6_isBranch_13 : decode cX6_isBranch 13 = .ok (.bipush 6, 2) := by decide +kernel
theorem dX6_isBranch_15 : decode cX6_isBranch 15 = .ok (.iload_n 1, 1) := by decide +kernel
theorem dX6_isBranch_16 : decode cX6_isBranch 16 = .ok (.iadd, 1) := by decide +kernel
theorem dX6_isBranch_17 : decode cX6_isBranch 17 = .ok (.iaload, 1) := by decide +kernel
theorem dX6_isBranch_18 : decode cX6_isBranch 18 = .ok (.ifCond .lt 7, 3) := by decide +kernel
theorem dX6_isBranch_21 : decode cX6_isBranch 21 = .ok (.iconst 1, 1) := by decide +kernel
theorem dX6_isBranch_22 : decode cX6_isBranch 22 = .ok (.goto 4, 3) := by decide +kernel
theorem dX6_isBranch_25 : decode cX6_isBranch 25 = .ok (.iconst 0, 1) := by decide +kernel
theorem dX6_isBranch_26 : decode cX6_isBranch 26 = .ok (.ireturn, 1) := by decide +kernel
set_option maxRecDepth 20000 in
theorem ggX6_isBlock_X6_in : GoodIn wsX6_isBlock wsX6_in := goodIn_r _ [5] (by decide +kernel) (by decide +kernel)
set_option maxRecDepth 20000 in
theorem gX6_isBlock_X6_in : GoodIn wsX6_isBlock (va_wsS RX6 48 yX6_in wsX6_in) := goodIn_app (goodIn_of _ (by decide +kernel)) ggX6_isBlock_X6_in
theorem dX6_isBlock_0 : decode cX6_isBlock 0 = .ok (.iload_n 1, 1) := by decide +kernel
theorem dX6_isBlock_1 : decode cX6_isBlock 1 = .ok (.iconst 0, 1) := by decide +kernel
theorem dX6_isBlock_2 : decode cX6_isBlock 2 = .ok (.bipush 39, 2) := by decide +kernel
theorem dX6_isBlock_4 : decode cX6_isBlock 4 = .ok (.invokestatic 48, 3) := by decide +kernel
theorem dX6_isBlock_7 : decode cX6_isBlock 7 = .ok (.ifCond .eq 24, 3) := by decide +kernel
theorem dX6_isBlock_10 : decode cX6_isBlock 10 = .ok (.aload_n 0, 1) := by decide +kernel
theorem dX6_isBlock_11 : decode cX6_isBlock 11 = .ok (.getfield 7, 3) := by decide +kernel
theorem dX6_isBlock_14 : decode cX6_isBlock 14 = .ok (.sipush 138, 3) := by decide +kernel
theorem dX6_isBlock_17 : decode cX6_isBlock 17 = .ok (.bipush 9, 2) := by decide +kernel
theorem dX6_isBlock_19 : decode cX6_isBlock 19 = .ok (.iload_n 1, 1) := by decide +kernel
theorem dX6_isBlock_20 : decode cX6_isBlock 20 = .ok (.imul, 1) := by decide +kernel
theorem dX6_isBlock_21 : decode cX6_isBlock 21 = .ok (.iadd, 1) := by decide +kernel
theorem dX6_isBlock_22 : decode cX6_isBlock 22 = .ok (.iaload, 1) := by decide +kernel
theorem dX6_isBlock_23 : decode cX6_isBlock 23 = .ok (.iconst 1, 1) := by decide +kernel
theorem dX6_isBlock_24 : decode cX6_isBlock 24 = .ok (.if_icmp .ne 7, 3) := by decide +kernel
theorem dX6_isBlock_27 : decode cX6_isBlock 27 = .ok (.iconst 1, 1) := by decide +kernel
theorem dX6_isBlock_28 : decode cX6_isBlock 28 = .ok (.goto 4, 3) := by decide +kernel
theorem dX6_isBlock_31 : decode cX6_isBlock 31 = .ok (.iconst 0, 1) := by decide +kernel
theorem dX6_isBlock_32 : decode cX6_isBlock 32 = .ok (.ireturn, 1) := by decide +kernel
theorem dX6_inBlock_0 : decode cX6_inBlock 0 = .ok (.aload_n 0, 1) := by decide +kernel
theorem dX6_inBlock_1 : decode cX6_inBlock 1 = .ok (.getfield 7, 3) := by decide +kernel
theorem dX6_inBlock_4 : decode cX6_inBlock 4 = .ok (.sipush 138, 3) := by decide +kernel
theorem dX6_inBlock_7 : decode cX6_inBlock 7 = .ok (.bipush 9, 2) := by decide +kernel
theorem dX6_inBlock_9 : decode cX6_inBlock 9 = .ok (.iload_n 1, 1) := by decide +kernel
theorem dX6_inBlock_10 : decode cX6_inBlock 10 = .ok (.imul, 1) := by decide +kernel
theorem dX6_inBlock_11 : decode cX6_inBlock 11 = .ok (.iadd, 1) := by decide +kernel
theorem dX6_inBlock_12 : decode cX6_inBlock 12 = .ok (.iconst 1, 1) := by decide +kernel
theorem dX6_inBlock_13 : decode cX6_inBlock 13 = .ok (.iadd, 1) := by decide +kernel
theorem dX6_inBlock_14 : decode cX6_inBlock 14 = .ok (.iload_n 2, 1) := by decide +kernel
theorem dX6_inBlock_15 : decode cX6_inBlock 15 = .ok (.iadd, 1) := by decide +kernel
theorem dX6_inBlock_16 : decode cX6_inBlock 16 = .ok (.iaload, 1) := by decide +kernel
theorem dX6_inBlock_17 : decode cX6_inBlock 17 = .ok (.ireturn, 1) := by decide +kernel
set_option maxRecDepth 20000 in
theorem ggX6_cellOf_X6_of : GoodIn wsX6_cellOf wsX6_of := goodIn_r _ [5, 6, 11, 12, 13, 14, 15, 16, 17, 18, 19, 20, 21, 22, 23, 24, 25, 26] (by decide +kernel) (by decide +kernel)
set_option maxRecDepth 20000 in
theorem gX6_cellOf_X6_of : GoodIn wsX6_cellOf (wsV RX6 39 RX6 yX6_of wsX6_of) := goodIn_app (goodIn_of _ (by decide +kernel)) ggX6_cellOf_X6_of
set_option maxRecDepth 20000 in
theorem ggX6_cellOf_X6_inBlock : GoodIn wsX6_cellOf wsX6_inBlock := goodIn_r _ [10, 6, 11, 12, 13, 14, 15, 16, 17, 18, 19, 20, 21, 22, 23, 24, 25, 26] (by decide +kernel) (by decide +kernel)
set_option maxRecDepth 20000 in
theorem gX6_cellOf_X6_inBlock : GoodIn wsX6_cellOf (wsV RX6 52 RX6 yX6_inBlock wsX6_inBlock) := goodIn_app (goodIn_of _ (by decide +kernel)) ggX6_cellOf_X6_inBlock
theorem dX6_cellOf_0 : decode cX6_cellOf 0 = .ok (.aload_n 0, 1) := by decide +kernel
theorem dX6_cellOf_1 : decode cX6_cellOf 1 = .ok (.aload_n 0, 1) := by decide +kernel
theorem dX6_cellOf_2 : decode cX6_cellOf 2 = .ok (.iload_n 1, 1) := by decide +kernel
theorem dX6_cellOf_3 : decode cX6_cellOf 3 = .ok (.iconst 2, 1) := by decide +kernel
theorem dX6_cellOf_4 : decode cX6_cellOf 4 = .ok (.iload_n 2, 1) := by decide +kernel
theorem dX6_cellOf_5 : decode cX6_cellOf 5 = .ok (.bipush 8, 2) := by decide +kernel
theorem dX6_cellOf_7 : decode cX6_cellOf 7 = .ok (.idiv, 1) := by decide +kernel
theorem dX6_cellOf_8 : decode cX6_cellOf 8 = .ok (.iadd, 1) := by decide +kernel
theorem dX6_cellOf_9 : decode cX6_cellOf 9 = .ok (.invokevirtual 39, 3) := by decide +kernel
theorem dX6_cellOf_12 : decode cX6_cellOf 12 = .ok (.iload_n 2, 1) := by decide +kernel
theorem dX6_cellOf_13 : decode cX6_cellOf 13 = .ok (.bipush 8, 2) := by decide +kernel
theorem dX6_cellOf_15 : decode cX6_cellOf 15 = .ok (.irem, 1) := by decide +kernel
theorem dX6_cellOf_16 : decode cX6_cellOf 16 = .ok (.invokevirtual 52, 3) := by decide +kernel
theorem dX6_cellOf_19 : decode cX6_cellOf 19 = .ok (.ireturn, 1) := by decide +kernel
theorem dX6_blocks_0 : decode cX6_blocks 0 = .ok (.iconst 0, 1) := by decide +kernel
theorem dX6_blocks_1 : decode cX6_blocks 1 = .ok (.istore_n 1, 1) := by decide +kernel
theorem dX6_blocks_2 : decode cX6_blocks 2 = .ok (.iconst 0, 1) := by decide +kernel
theorem dX6_blocks_3 : decode cX6_blocks 3 = .ok (.istore_n 2, 1) := by decide +kernel
theorem dX6_blocks_4 : decode cX6_blocks 4 = .ok (.iload_n 2, 1) := by decide +kernel
theorem dX6_blocks_5 : decode cX6_blocks 5 = .ok (.bipush 40, 2) := by decide +kernel
theorem dX6_blocks_7 : decode cX6_blocks 7 = .ok (.if_icmp .ge 25, 3) := by decide +kernel
theorem dX6_blocks_10 : decode cX6_blocks 10 = .ok (.iload_n 1, 1) := by decide +kernel
theorem dX6_blocks_11 : decode cX6_blocks 11 = .ok (.aload_n 0, 1) := by decide +kernel
theorem dX6_blocks_12 : decode cX6_blocks 12 = .ok (.getfield 7, 3) := by decide +kernel
theorem dX6_blocks_15 : decode cX6_blocks 15 = .ok (.sipush 138, 3) := by decide +kernel
theorem dX6_blocks_18 : decode cX6_blocks 18 = .ok (.bipush 9, 2) := by decide +kernel
theorem dX6_blocks_20 : decode cX6_blocks 20 = .ok (.iload_n 2, 1) := by decide +kernel
theorem dX6_blocks_21 : decode cX6_blocks 21 = .ok (.imul, 1) := by decide +kernel
theorem dX6_blocks_22 : decode cX6_blocks 22 = .ok (.iadd, 1) := by decide +kernel
theorem dX6_blocks_23 : decode cX6_blocks 23 = .ok (.iaload, 1) := by decide +kernel
theorem dX6_blocks_24 : decode cX6_blocks 24 = .ok (.iadd, 1) := by decide +kernel
theorem dX6_blocks_25 : decode cX6_blocks 25 = .ok (.istore_n 1, 1) := by decide +kernel
theorem dX6_blocks_26 : decode cX6_blocks 26 = .ok (.iinc 2 1, 3) := by decide +kernel
theorem dX6_blocks_29 : decode cX6_blocks 29 = .ok (.goto (-25), 3) := by decide +kernel
theorem dX6_blocks_32 : decode cX6_blocks 32 = .ok (.iload_n 1, 1) := by decide +kernel
theorem dX6_blocks_33 : decode cX6_blocks 33 = .ok (.ireturn, 1) := by decide +kernel
theorem dX6_branches_0 : decode cX6_branches 0 = .ok (.iconst 0, 1) := by decide +kernel
theorem dX6_branches_1 : decode cX6_branches 1 = .ok (.istore_n 1, 1) := by decide +kernel
theorem dX6_branches_2 : decode cX6_branches 2 = .ok (.iconst 0, 1) := by decide +kernel
theorem dX6_branches_3 : decode cX6_branches 3 = .ok (.istore_n 2, 1) := by decide +kernel
theorem dX6_branches_4 : decode cX6_branches 4 = .ok (.iload_n 2, 1) := by decide +kernel
theorem dX6_branches_5 : decode cX6_branches 5 = .ok (.iconst 4, 1) := by decide +kernel
theorem dX6_branches_6 : decode cX6_branches 6 = .ok (.if_icmp .ge 29, 3) := by decide +kernel
theorem dX6_branches_9 : decode cX6_branches 9 = .ok (.iload_n 1, 1) := by decide +kernel
theorem dX6_branches_10 : decode cX6_branches 10 = .ok (.aload_n 0, 1) := by decide +kernel
theorem dX6_branches_11 : decode cX6_branches 11 = .ok (.getfield 7, 3) := by decide +kernel
theorem dX6_branches_14 : decode cX6_branches 14 = .ok (.bipush 6, 2) := by decide +kernel
theorem dX6_branches_16 : decode cX6_branches 16 = .ok (.iload_n 2, 1) := by decide +kernel
theorem dX6_branches_17 : decode cX6_branches 17 = .ok (.iadd, 1) := by decide +kernel
theorem dX6_branches_18 : decode cX6_branches 18 = .ok (.iaload, 1) := by decide +kernel
theorem dX6_branches_19 : decode cX6_branches 19 = .ok (.ifCond .lt 7, 3) := by decide +kernel
theorem dX6_branches_22 : decode cX6_branches 22 = .ok (.iconst 1, 1) := by decide +kernel
theorem dX6_branches_23 : decode cX6_branches 23 = .ok (.goto 4, 3) := by decide +kernel
theorem dX6_branches_26 : decode cX6_branches 26 = .ok (.iconst 0, 1) := by decide +kernel
theorem dX6_branches_27 : decode cX6_branches 27 = .ok (.iadd, 1) := by decide +kernel
theorem dX6_branches_28 : decode cX6_branches 28 = .ok (.istore_n 1, 1) := by decide +kernel
theorem dX6_branches_29 : decode cX6_branches 29 = .ok (.iinc 2 1, 3) := by decide +kernel
theorem dX6_branches_32 : decode cX6_branches 32 = .ok (.goto (-28), 3) := by decide +kernel
theorem dX6_branches_35 : decode cX6_branches 35 = .ok (.iload_n 1, 1) := by decide +kernel
theorem dX6_branches_36 : decode cX6_branches 36 = .ok (.ireturn, 1) := by decide +kernel
set_option maxRecDepth 20000 in
theorem ggX6_areLike_X6_inBlock : GoodIn wsX6_areLike wsX6_inBlock := goodIn_r _ [5, 6, 7, 8, 9, 10, 11, 12, 13, 14, 15, 16, 17, 18, 19, 20, 21, 22] (by decide +kernel) (by decide +kernel)
set_option maxRecDepth 20000 in
theorem gX6_areLike_X6_inBlock : GoodIn wsX6_areLike (wsV RX6 52 RX6 yX6_inBlock wsX6_inBlock) := goodIn_app (goodIn_of _ (by decide +kernel)) ggX6_areLike_X6_inBlock
theorem dX6_areLike_0 : decode cX6_areLike 0 = .ok (.iconst 1, 1) := by decide +kernel
theorem dX6_areLike_1 : decode cX6_areLike 1 = .ok (.istore_n 3, 1) := by decide +kernel
theorem dX6_areLike_2 : decode cX6_areLike 2 = .ok (.iconst 0, 1) := by decide +kernel
theorem dX6_areLike_3 : decode cX6_areLike 3 = .ok (.istore 4, 2) := by decide +kernel
theorem dX6_areLike_5 : decode cX6_areLike 5 = .ok (.iload 4, 2) := by decide +kernel
theorem dX6_areLike_7 : decode cX6_areLike 7 = .ok (.bipush 8, 2) := by decide +kernel
theorem dX6_areLike_9 : decode cX6_areLike 9 = .ok (.if_icmp .ge 36, 3) := by decide +kernel
theorem dX6_areLike_12 : decode cX6_areLike 12 = .ok (.iload_n 3, 1) := by decide +kernel
theorem dX6_areLike_13 : decode cX6_areLike 13 = .ok (.ifCond .eq 24, 3) := by decide +kernel
theorem dX6_areLike_16 : decode cX6_areLike 16 = .ok (.aload_n 0, 1) := by decide +kernel
theorem dX6_areLike_17 : decode cX6_areLike 17 = .ok (.iload_n 1, 1) := by decide +kernel
theorem dX6_areLike_18 : decode cX6_areLike 18 = .ok (.iload 4, 2) := by decide +kernel
theorem dX6_areLike_20 : decode cX6_areLike 20 = .ok (.invokevirtual 52, 3) := by decide +kernel
theorem dX6_areLike_23 : decode cX6_areLike 23 = .ok (.aload_n 0, 1) := by decide +kernel
theorem dX6_areLike_24 : decode cX6_areLike 24 = .ok (.iload_n 2, 1) := by decide +kernel
theorem dX6_areLike_25 : decode cX6_areLike 25 = .ok (.iload 4, 2) := by decide +kernel
theorem dX6_areLike_27 : decode cX6_areLike 27 = .ok (.invokevirtual 52, 3) := by decide +kernel
theorem dX6_areLike_30 : decode cX6_areLike 30 = .ok (.if_icmp .ne 7, 3) := by decide +kernel
theorem dX6_areLike_33 : decode cX6_areLike 33 = .ok (.iconst 1, 1) := by decide +kernel
theorem dX6_areLike_34 : decode cX6_areLike 34 = .ok (.goto 4, 3) := by decide +kernel
theorem dX6_areLike_37 : decode cX6_areLike 37 = .ok (.iconst 0, 1) := by decide +kernel
theorem dX6_areLike_38 : decode cX6_areLike 38 = .ok (.istore_n 3, 1) := by decide +kernel
theorem dX6_areLike_39 : decode cX6_areLike 39 = .ok (.iinc 4 1, 3) := by decide +kernel
theorem dX6_areLike_42 : decode cX6_areLike 42 = .ok (.goto (-37), 3) := by decide +kernel
theorem dX6_areLike_45 : decode cX6_areLike 45 = .ok (.iload_n 3, 1) := by decide +kernel
theorem dX6_areLike_46 : decode cX6_areLike 46 = .ok (.ireturn, 1) := by decide +kernel
set_option maxRecDepth 20000 in
theorem ggX6_sweeps_X6_placesWith : GoodIn wsX6_sweeps wsX6_placesWith := goodIn_r _ [6, 1, 7, 8, 9, 5, 10, 11, 12, 13, 14, 15, 16, 17, 18, 19, 20, 21, 22, 23, 24, 25, 26] (by decide +kernel) (by decide +kernel)
set_option maxRecDepth 20000 in
theorem gX6_sweeps_X6_placesWith : GoodIn wsX6_sweeps (wsV RX6 55 RX6 yX6_placesWith wsX6_placesWith) := goodIn_app (goodIn_of _ (by decide +kernel)) ggX6_sweeps_X6_placesWith
theorem dX6_sweeps_0 : decode cX6_sweeps 0 = .ok (.iconst 0, 1) := by decide +kernel
theorem dX6_sweeps_1 : decode cX6_sweeps 1 = .ok (.istore_n 1, 1) := by decide +kernel
theorem dX6_sweeps_2 : decode cX6_sweeps 2 = .ok (.iconst 0, 1) := by decide +kernel
theorem dX6_sweeps_3 : decode cX6_sweeps 3 = .ok (.istore_n 2, 1) := by decide +kernel
theorem dX6_sweeps_4 : decode cX6_sweeps 4 = .ok (.iload_n 2, 1) := by decide +kernel
theorem dX6_sweeps_5 : decode cX6_sweeps 5 = .ok (.bipush 40, 2) := by decide +kernel
theorem dX6_sweeps_7 : decode cX6_sweeps 7 = .ok (.if_icmp .ge 51, 3) := by decide +kernel
theorem dX6_sweeps_10 : decode cX6_sweeps 10 = .ok (.aload_n 0, 1) := by decide +kernel
theorem dX6_sweeps_11 : decode cX6_sweeps 11 = .ok (.getfield 7, 3) := by decide +kernel
theorem dX6_sweeps_14 : decode cX6_sweeps 14 = .ok (.sipush 138, 3) := by decide +kernel
theorem dX6_sweeps_17 : decode cX6_sweeps 17 = .ok (.bipush 9, 2) := by decide +kernel
theorem dX6_sweeps_19 : decode cX6_sweeps 19 = .ok (.iload_n 2, 1) := by decide +kernel
theorem dX6_sweeps_20 : decode cX6_sweeps 20 = .ok (.imul, 1) := by decide +kernel
theorem dX6_sweeps_21 : decode cX6_sweeps 21 = .ok (.iadd, 1) := by decide +kernel
theorem dX6_sweeps_22 : decode cX6_sweeps 22 = .ok (.iaload, 1) := by decide +kernel
theorem dX6_sweeps_23 : decode cX6_sweeps 23 = .ok (.iconst 1, 1) := by decide +kernel
theorem dX6_sweeps_24 : decode cX6_sweeps 24 = .ok (.if_icmp .ne 28, 3) := by decide +kernel
theorem dX6_sweeps_27 : decode cX6_sweeps 27 = .ok (.aload_n 0, 1) := by decide +kernel
theorem dX6_sweeps_28 : decode cX6_sweeps 28 = .ok (.iload_n 2, 1) := by decide +kernel
theorem dX6_sweeps_29 : decode cX6_sweeps 29 = .ok (.invokevirtual 55, 3) := by decide +kernel
theorem dX6_sweeps_32 : decode cX6_sweeps 32 = .ok (.ifCond .ne 20, 3) := by decide +kernel
theorem dX6_sweeps_35 : decode cX6_sweeps 35 = .ok (.aload_n 0, 1) := by decide +kernel
theorem dX6_sweeps_36 : decode cX6_sweeps 36 = .ok (.getfield 7, 3) := by decide +kernel
theorem dX6_sweeps_39 : decode cX6_sweeps 39 = .ok (.sipush 138, 3) := by decide +kernel
theorem dX6_sweeps_42 : decode cX6_sweeps 42 = .ok (.bipush 9, 2) := by decide +kernel
theorem dX6_sweeps_44 : decode cX6_sweeps 44 = .ok (.iload_n 2, 1) := by decide +kernel
theorem dX6_sweeps_45 : decode cX6_sweeps 45 = .ok (.imul, 1) := by decide +kernel
theorem dX6_sweeps_46 : decode cX6_sweeps 46 = .ok (.iadd, 1) := by decide +kernel
theorem dX6_sweeps_47 : decode cX6_sweeps 47 = .ok (.iconst 0, 1) := by decide +kernel
theorem dX6_sweeps_48 : decode cX6_sweeps 48 = .ok (.iastore, 1) := by decide +kernel
theorem dX6_sweeps_49 : decode cX6_sweeps 49 = .ok (.iinc 1 1, 3) := by decide +kernel
theorem dX6_sweeps_52 : decode cX6_sweeps 52 = .ok (.iinc 2 1, 3) := by decide +kernel
theorem dX6_sweeps_55 : decode cX6_sweeps 55 = .ok (.goto (-51), 3) := by decide +kernel
theorem dX6_sweeps_58 : decode cX6_sweeps 58 = .ok (.iload_n 1, 1) := by decide +kernel
theorem dX6_sweeps_59 : decode cX6_sweeps 59 = .ok (.ireturn, 1) := by decide +kernel
set_option maxRecDepth 20000 in
theorem ggX6_placesWith_X6_of : GoodIn wsX6_placesWith wsX6_of := goodIn_r _ [6, 1, 7, 8, 9, 10, 11, 12, 13, 14, 15, 16, 17, 18, 19, 20, 21, 22] (by decide +kernel) (by decide +kernel)
set_option maxRecDepth 20000 in
theorem gX6_placesWith_X6_of : GoodIn wsX6_placesWith (wsV RX6 39 RX6 yX6_of wsX6_of) := goodIn_app (goodIn_of _ (by decide +kernel)) ggX6_placesWith_X6_of
theorem dX6_placesWith_0 : decode cX6_placesWith 0 = .ok (.iconst 0, 1) := by decide +kernel
theorem dX6_placesWith_1 : decode cX6_placesWith 1 = .ok (.istore_n 2, 1) := by decide +kernel
theorem dX6_placesWith_2 : decode cX6_placesWith 2 = .ok (.iconst 0, 1) := by decide +kernel
theorem dX6_placesWith_3 : decode cX6_placesWith 3 = .ok (.istore_n 3, 1) := by decide +kernel
theorem dX6_placesWith_4 : decode cX6_placesWith 4 = .ok (.iload_n 3, 1) := by decide +kernel
theorem dX6_placesWith_5 : decode cX6_placesWith 5 = .ok (.aload_n 0, 1) := by decide +kernel
theorem dX6_placesWith_6 : decode cX6_placesWith 6 = .ok (.getfield 7, 3) := by decide +kernel
theorem dX6_placesWith_9 : decode cX6_placesWith 9 = .ok (.iconst 0, 1) := by decide +kernel
theorem dX6_placesWith_10 : decode cX6_placesWith 10 = .ok (.iaload, 1) := by decide +kernel
theorem dX6_placesWith_11 : decode cX6_placesWith 11 = .ok (.if_icmp .ge 46, 3) := by decide +kernel
theorem dX6_placesWith_14 : decode cX6_placesWith 14 = .ok (.iconst 0, 1) := by decide +kernel
theorem dX6_placesWith_15 : decode cX6_placesWith 15 = .ok (.istore 4, 2) := by decide +kernel
theorem dX6_placesWith_17 : decode cX6_placesWith 17 = .ok (.iload 4, 2) := by decide +kernel
theorem dX6_placesWith_19 : decode cX6_placesWith 19 = .ok (.bipush 6, 2) := by decide +kernel
theorem dX6_placesWith_21 : decode cX6_placesWith 21 = .ok (.if_icmp .ge 30, 3) := by decide +kernel
theorem dX6_placesWith_24 : decode cX6_placesWith 24 = .ok (.iload_n 2, 1) := by decide +kernel
theorem dX6_placesWith_25 : decode cX6_placesWith 25 = .ok (.aload_n 0, 1) := by decide +kernel
theorem dX6_placesWith_26 : decode cX6_placesWith 26 = .ok (.iload_n 3, 1) := by decide +kernel
theorem dX6_placesWith_27 : decode cX6_placesWith 27 = .ok (.iconst 2, 1) := by decide +kernel
theorem dX6_placesWith_28 : decode cX6_placesWith 28 = .ok (.iload 4, 2) := by decide +kernel
theorem dX6_placesWith_30 : decode cX6_placesWith 30 = .ok (.iadd, 1) := by decide +kernel
theorem dX6_placesWith_31 : decode cX6_placesWith 31 = .ok (.invokevirtual 39, 3) := by decide +kernel
theorem dX6_placesWith_34 : decode cX6_placesWith 34 = .ok (.iload_n 1, 1) := by decide +kernel
theorem dX6_placesWith_35 : decode cX6_placesWith 35 = .ok (.if_icmp .ne 7, 3) := by decide +kernel
theorem dX6_placesWith_38 : decode cX6_placesWith 38 = .ok (.iconst 1, 1) := by decide +kernel
theorem dX6_placesWith_39 : decode cX6_placesWith 39 = .ok (.goto 4, 3) := by decide +kernel
theorem dX6_placesWith_42 : decode cX6_placesWith 42 = .ok (.iconst 0, 1) := by decide +kernel
