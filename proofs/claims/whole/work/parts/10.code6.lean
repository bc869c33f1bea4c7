theorem dX6_reads_2 : decode cX6_reads 2 = .ok (.bipush 33, 2) := by decide +kernel
theorem dX6_reads_4 : decode cX6_reads 4 = .ok (.bipush 126, 2) := by decide +kernel
theorem dX6_reads_6 : decode cX6_reads 6 = .ok (.invokevirtual 204, 3) := by decide +kernel
theorem dX6_reads_9 : decode cX6_reads 9 = .ok (.ifCond .eq 15, 3) := by decide +kernel
theorem dX6_reads_12 : decode cX6_reads 12 = .ok (.aload_n 0, 1) := by decide +kernel
theorem dX6_reads_13 : decode cX6_reads 13 = .ok (.getfield 19, 3) := by decide +kernel
theorem dX6_reads_16 : decode cX6_reads 16 = .ok (.aload_n 0, 1) := by decide +kernel
theorem dX6_reads_17 : decode cX6_reads 17 = .ok (.getfield 201, 3) := by decide +kernel
theorem dX6_reads_20 : decode cX6_reads 20 = .ok (.iaload, 1) := by decide +kernel
theorem dX6_reads_21 : decode cX6_reads 21 = .ok (.goto 4, 3) := by decide +kernel
theorem dX6_reads_24 : decode cX6_reads 24 = .ok (.iconst 0, 1) := by decide +kernel
theorem dX6_reads_25 : decode cX6_reads 25 = .ok (.putfield 207, 3) := by decide +kernel
theorem dX6_reads_28 : decode cX6_reads 28 = .ok (.aload_n 0, 1) := by decide +kernel
theorem dX6_reads_29 : decode cX6_reads 29 = .ok (.getfield 207, 3) := by decide +kernel
theorem dX6_reads_32 : decode cX6_reads 32 = .ok (.invokestatic 210, 3) := by decide +kernel
theorem dX6_reads_35 : decode cX6_reads 35 = .ok (.istore_n 1, 1) := by decide +kernel
theorem dX6_reads_36 : decode cX6_reads 36 = .ok (.iload_n 1, 1) := by decide +kernel
theorem dX6_reads_37 : decode cX6_reads 37 = .ok (.ifCond .ne 5, 3) := by decide +kernel
theorem dX6_reads_40 : decode cX6_reads 40 = .ok (.iconst 0, 1) := by decide +kernel
theorem dX6_reads_41 : decode cX6_reads 41 = .ok (.ireturn, 1) := by decide +kernel
theorem dX6_reads_42 : decode cX6_reads 42 = .ok (.aload_n 0, 1) := by decide +kernel
theorem dX6_reads_43 : decode cX6_reads 43 = .ok (.dup, 1) := by decide +kernel
theorem dX6_reads_44 : decode cX6_reads 44 = .ok (.getfield 201, 3) := by decide +kernel
theorem dX6_reads_47 : decode cX6_reads 47 = .ok (.iconst 1, 1) := by decide +kernel
theorem dX6_reads_48 : decode cX6_reads 48 = .ok (.iadd, 1) := by decide +kernel
theorem dX6_reads_49 : decode cX6_reads 49 = .ok (.putfield 201, 3) := by decide +kernel
theorem dX6_reads_52 : decode cX6_reads 52 = .ok (.aload_n 0, 1) := by decide +kernel
theorem dX6_reads_53 : decode cX6_reads 53 = .ok (.iconst 0, 1) := by decide +kernel
theorem dX6_reads_54 : decode cX6_reads 54 = .ok (.invokevirtual 213, 3) := by decide +kernel
theorem dX6_reads_57 : decode cX6_reads 57 = .ok (.istore_n 2, 1) := by decide +kernel
theorem dX6_reads_58 : decode cX6_reads 58 = .ok (.iconst 1, 1) := by decide +kernel
theorem dX6_reads_59 : decode cX6_reads 59 = .ok (.istore_n 3, 1) := by decide +kernel
theorem dX6_reads_60 : decode cX6_reads 60 = .ok (.iload_n 3, 1) := by decide +kernel
theorem dX6_reads_61 : decode cX6_reads 61 = .ok (.iload_n 1, 1) := by decide +kernel
theorem dX6_reads_62 : decode cX6_reads 62 = .ok (.if_icmp .ge 36, 3) := by decide +kernel
theorem dX6_reads_65 : decode cX6_reads 65 = .ok (.iload_n 2, 1) := by decide +kernel
theorem dX6_reads_66 : decode cX6_reads 66 = .ok (.ifCond .eq 32, 3) := by decide +kernel
theorem dX6_reads_69 : decode cX6_reads 69 = .ok (.aload_n 0, 1) := by decide +kernel
theorem dX6_reads_70 : decode cX6_reads 70 = .ok (.bipush 44, 2) := by decide +kernel
theorem dX6_reads_72 : decode cX6_reads 72 = .ok (.invokevirtual 216, 3) := by decide +kernel
theorem dX6_reads_75 : decode cX6_reads 75 = .ok (.ifCond .eq 15, 3) := by decide +kernel
theorem dX6_reads_78 : decode cX6_reads 78 = .ok (.aload_n 0, 1) := by decide +kernel
theorem dX6_reads_79 : decode cX6_reads 79 = .ok (.iload_n 3, 1) := by decide +kernel
theorem dX6_reads_80 : decode cX6_reads 80 = .ok (.invokevirtual 213, 3) := by decide +kernel
theorem dX6_reads_83 : decode cX6_reads 83 = .ok (.ifCond .eq 7, 3) := by decide +kernel
theorem dX6_reads_86 : decode cX6_reads 86 = .ok (.iconst 1, 1) := by decide +kernel
theorem dX6_reads_87 : decode cX6_reads 87 = .ok (.goto 4, 3) := by decide +kernel
theorem dX6_reads_90 : decode cX6_reads 90 = .ok (.iconst 0, 1) := by decide +kernel
theorem dX6_reads_91 : decode cX6_reads 91 = .ok (.istore_n 2, 1) := by decide +kernel
theorem dX6_reads_92 : decode cX6_reads 92 = .ok (.iinc 3 1, 3) := by decide +kernel
theorem dX6_reads_95 : decode cX6_reads 95 = .ok (.goto (-35), 3) := by decide +kernel
theorem dX6_reads_98 : decode cX6_reads 98 = .ok (.iload_n 2, 1) := by decide +kernel
theorem dX6_reads_99 : decode cX6_reads 99 = .ok (.ifCond .eq 16, 3) := by decide +kernel
theorem dX6_reads_102 : decode cX6_reads 102 = .ok (.aload_n 0, 1) := by decide +kernel
theorem dX6_reads_103 : decode cX6_reads 103 = .ok (.bipush 59, 2) := by decide +kernel
theorem dX6_reads_105 : decode cX6_reads 105 = .ok (.invokevirtual 216, 3) := by decide +kernel
theorem dX6_reads_108 : decode cX6_reads 108 = .ok (.ifCond .eq 7, 3) := by decide +kernel
theorem dX6_reads_111 : decode cX6_reads 111 = .ok (.iconst 1, 1) := by decide +kernel
theorem dX6_reads_112 : decode cX6_reads 112 = .ok (.goto 4, 3) := by decide +kernel
theorem dX6_reads_115 : decode cX6_reads 115 = .ok (.iconst 0, 1) := by decide +kernel
theorem dX6_reads_116 : decode cX6_reads 116 = .ok (.ireturn, 1) := by decide +kernel
set_option maxRecDepth 20000 in
theorem ggX6_calls_X6_write : GoodIn wsX6_calls wsX6_write := goodIn_r _ [7, 8, 9, 10, 6, 11, 12, 13, 14, 15, 16, 17, 18, 19, 20, 21, 22, 23, 24, 25, 26, 27, 28, 29, 30, 31, 32, 33, 34, 35, 36, 37, 38, 39, 40, 41, 42, 43, 44, 45, 46, 47, 48, 49, 50, 51, 52, 53, 54, 55, 56, 57, 58, 59, 60, 61, 62, 63, 64, 65, 66, 67, 68, 69, 70, 71, 72, 73, 74, 75, 76, 77, 78, 79, 80, 81, 82, 83, 84, 85, 86, 87, 88, 89, 90, 91, 92, 93, 94, 95, 96, 97, 143, 144, 145, 146, 147, 148, 149, 150, 151, 152, 153, 154, 155, 156, 157, 158] (by decide +kernel) (by decide +kernel)
set_option maxRecDepth 20000 in
theorem gX6_calls_X6_write : GoodIn wsX6_calls (wsV RX6 219 RX6 yX6_write wsX6_write) := goodIn_app (goodIn_of _ (by decide +kernel)) ggX6_calls_X6_write
set_option maxRecDepth 20000 in
theorem ggX6_calls_X6_fill : GoodIn wsX6_calls wsX6_fill := goodIn_r _ [11, 12, 13, 14, 15, 16, 17, 6, 18, 19, 20, 21, 22, 23, 24, 25, 26, 27, 28, 29, 30, 31, 32, 33, 34, 35, 36, 37, 38, 39, 40, 41, 42, 43, 44, 45, 46, 47, 48, 49, 50, 51, 52, 53, 54, 55, 56, 57, 58, 59, 60, 61, 62, 63, 64, 65, 66, 67, 68, 69, 70, 71, 72, 73, 74, 75, 76, 77, 78, 79, 80, 81, 82, 83, 84, 85, 86, 87, 88, 89, 90, 91, 92, 93, 94, 95, 96, 97, 143, 144, 145, 146, 147, 148, 149, 150, 151, 152, 153, 154, 155, 156, 157, 158] (by decide +kernel) (by decide +kernel)
set_option maxRecDepth 20000 in
theorem gX6_calls_X6_fill : GoodIn wsX6_calls (wsV RX6 101 RX6 yX6_fill wsX6_fill) := goodIn_app (goodIn_of _ (by decide +kernel)) ggX6_calls_X6_fill
set_option maxRecDepth 20000 in
theorem ggX6_calls_X6_merge : GoodIn wsX6_calls wsX6_merge := goodIn_r _ [101, 12, 13, 15, 16, 17, 6, 18, 19, 20, 21, 102, 103, 104, 105, 25, 26, 27, 28, 29, 30, 31, 32, 33, 106, 107, 108, 109, 14, 110, 111, 112, 113, 114, 115, 116, 117, 38, 39, 40, 41, 42, 43, 44, 45, 46, 47, 48, 49, 50, 51, 52, 53, 54, 55, 56, 57, 58, 59, 60, 61, 62, 63, 64, 65, 66, 67, 68, 69, 70, 71, 72, 73, 74, 75, 76, 77, 78, 79, 80, 81, 82, 83, 84, 85, 86, 87, 88, 89, 90, 91, 92, 93, 94, 95, 96, 97, 143, 144, 145, 146, 147, 148, 149, 150, 151, 152, 153, 154, 155, 156, 157, 158] (by decide +kernel) (by decide +kernel)
set_option maxRecDepth 20000 in
theorem gX6_calls_X6_merge : GoodIn wsX6_calls (wsV RX6 223 RX6 yX6_merge wsX6_merge) := goodIn_app (goodIn_of _ (by decide +kernel)) ggX6_calls_X6_merge
set_option maxRecDepth 20000 in
theorem ggX6_calls_X6_branch : GoodIn wsX6_calls wsX6_branch := goodIn_r _ [121, 12, 13, 50, 102, 103, 104, 6, 105, 25, 26, 27, 28, 29, 30, 31, 32, 33, 79, 80, 81, 82, 83, 84, 85, 143, 144, 145, 146, 147, 148, 149, 150, 151, 152, 153, 154, 155, 156, 157, 158] (by decide +kernel) (by decide +kernel)
set_option maxRecDepth 20000 in
theorem gX6_calls_X6_branch : GoodIn wsX6_calls (wsV RX6 226 RX6 yX6_branch wsX6_branch) := goodIn_app (goodIn_of _ (by decide +kernel)) ggX6_calls_X6_branch
set_option maxRecDepth 20000 in
theorem ggX6_calls_X6_forget : GoodIn wsX6_calls wsX6_forget := goodIn_r _ [125, 12, 126, 102, 103, 104, 6, 105, 25, 26, 27, 28, 13, 29, 30, 31, 32, 33, 127, 128, 129, 130, 79, 80, 81, 82, 83, 84, 85, 131, 132, 133, 134, 135, 136, 137, 138, 139, 140, 141, 142, 143, 144, 145, 146, 147, 148, 149, 150, 151, 152, 153, 154, 155, 156, 157, 158] (by decide +kernel) (by decide +kernel)
set_option maxRecDepth 20000 in
theorem gX6_calls_X6_forget : GoodIn wsX6_calls (wsV RX6 229 RX6 yX6_forget wsX6_forget) := goodIn_app (goodIn_of _ (by decide +kernel)) ggX6_calls_X6_forget
theorem dX6_calls_0 : decode cX6_calls 0 = .ok (.aload_n 0, 1) := by decide +kernel
theorem dX6_calls_1 : decode cX6_calls 1 = .ok (.getfield 207, 3) := by decide +kernel
theorem dX6_calls_4 : decode cX6_calls 4 = .ok (.lookupswitch 124 #[(98, 113), (102, 67), (109, 96), (119, 44)], 44) := by decide +kernel
theorem dX6_calls_48 : decode cX6_calls 48 = .ok (.aload_n 0, 1) := by decide +kernel
theorem dX6_calls_49 : decode cX6_calls 49 = .ok (.aload_n 0, 1) := by decide +kernel
theorem dX6_calls_50 : decode cX6_calls 50 = .ok (.getfield 25, 3) := by decide +kernel
theorem dX6_calls_53 : decode cX6_calls 53 = .ok (.iconst 0, 1) := by decide +kernel
theorem dX6_calls_54 : decode cX6_calls 54 = .ok (.iaload, 1) := by decide +kernel
theorem dX6_calls_55 : decode cX6_calls 55 = .ok (.aload_n 0, 1) := by decide +kernel
theorem dX6_calls_56 : decode cX6_calls 56 = .ok (.getfield 25, 3) := by decide +kernel
theorem dX6_calls_59 : decode cX6_calls 59 = .ok (.iconst 1, 1) := by decide +kernel
theorem dX6_calls_60 : decode cX6_calls 60 = .ok (.iaload, 1) := by decide +kernel
theorem dX6_calls_61 : decode cX6_calls 61 = .ok (.aload_n 0, 1) := by decide +kernel
theorem dX6_calls_62 : decode cX6_calls 62 = .ok (.getfield 25, 3) := by decide +kernel
theorem dX6_calls_65 : decode cX6_calls 65 = .ok (.iconst 2, 1) := by decide +kernel
theorem dX6_calls_66 : decode cX6_calls 66 = .ok (.iaload, 1) := by decide +kernel
theorem dX6_calls_67 : decode cX6_calls 67 = .ok (.invokevirtual 219, 3) := by decide +kernel
theorem dX6_calls_70 : decode cX6_calls 70 = .ok (.ireturn, 1) := by decide +kernel
theorem dX6_calls_71 : decode cX6_calls 71 = .ok (.aload_n 0, 1) := by decide +kernel
theorem dX6_calls_72 : decode cX6_calls 72 = .ok (.aload_n 0, 1) := by decide +kernel
theorem dX6_calls_73 : decode cX6_calls 73 = .ok (.getfield 25, 3) := by decide +kernel
theorem dX6_calls_76 : decode cX6_calls 76 = .ok (.iconst 0, 1) := by decide +kernel
theorem dX6_calls_77 : decode cX6_calls 77 = .ok (.iaload, 1) := by decide +kernel
theorem dX6_calls_78 : decode cX6_calls 78 = .ok (.aload_n 0, 1) := by decide +kernel
theorem dX6_calls_79 : decode cX6_calls 79 = .ok (.getfield 25, 3) := by decide +kernel
theorem dX6_calls_82 : decode cX6_calls 82 = .ok (.iconst 1, 1) := by decide +kernel
theorem dX6_calls_83 : decode cX6_calls 83 = .ok (.iaload, 1) := by decide +kernel
theorem dX6_calls_84 : decode cX6_calls 84 = .ok (.aload_n 0, 1) := by decide +kernel
theorem dX6_calls_85 : decode cX6_calls 85 = .ok (.getfield 25, 3) := by decide +kernel
theorem dX6_calls_88 : decode cX6_calls 88 = .ok (.iconst 2, 1) := by decide +kernel
theorem dX6_calls_89 : decode cX6_calls 89 = .ok (.iaload, 1) := by decide +kernel
theorem dX6_calls_90 : decode cX6_calls 90 = .ok (.aload_n 0, 1) := by decide +kernel
theorem dX6_calls_91 : decode cX6_calls 91 = .ok (.getfield 25, 3) := by decide +kernel
theorem dX6_calls_94 : decode cX6_calls 94 = .ok (.iconst 3, 1) := by decide +kernel
theorem dX6_calls_95 : decode cX6_calls 95 = .ok (.iaload, 1) := by decide +kernel
theorem dX6_calls_96 : decode cX6_calls 96 = .ok (.invokevirtual 101, 3) := by decide +kernel
theorem dX6_calls_99 : decode cX6_calls 99 = .ok (.ireturn, 1) := by decide +kernel
theorem dX6_calls_100 : decode cX6_calls 100 = .ok (.aload_n 0, 1) := by decide +kernel
theorem dX6_calls_101 : decode cX6_calls 101 = .ok (.aload_n 0, 1) := by decide +kernel
theorem dX6_calls_102 : decode cX6_calls 102 = .ok (.getfield 25, 3) := by decide +kernel
theorem dX6_calls_105 : decode cX6_calls 105 = .ok (.iconst 0, 1) := by decide +kernel
theorem dX6_calls_106 : decode cX6_calls 106 = .ok (.iaload, 1) := by decide +kernel
theorem dX6_calls_107 : decode cX6_calls 107 = .ok (.aload_n 0, 1) := by decide +kernel
theorem dX6_calls_108 : decode cX6_calls 108 = .ok (.getfield 25, 3) := by decide +kernel
theorem dX6_calls_111 : decode cX6_calls 111 = .ok (.iconst 1, 1) := by decide +kernel
theorem dX6_calls_112 : decode cX6_calls 112 = .ok (.iaload, 1) := by decide +kernel
theorem dX6_calls_113 : decode cX6_calls 113 = .ok (.invokevirtual 223, 3) := by decide +kernel
theorem dX6_calls_116 : decode cX6_calls 116 = .ok (.ireturn, 1) := by decide +kernel
theorem dX6_calls_117 : decode cX6_calls 117 = .ok (.aload_n 0, 1) := by decide +kernel
theorem dX6_calls_118 : decode cX6_calls 118 = .ok (.aload_n 0, 1) := by decide +kernel
theorem dX6_calls_119 : decode cX6_calls 119 = .ok (.getfield 25, 3) := by decide +kernel
theorem dX6_calls_122 : decode cX6_calls 122 = .ok (.iconst 0, 1) := by decide +kernel
theorem dX6_calls_123 : decode cX6_calls 123 = .ok (.iaload, 1) := by decide +kernel
theorem dX6_calls_124 : decode cX6_calls 124 = .ok (.invokevirtual 226, 3) := by decide +kernel
theorem dX6_calls_127 : decode cX6_calls 127 = .ok (.ireturn, 1) := by decide +kernel
theorem dX6_calls_128 : decode cX6_calls 128 = .ok (.aload_n 0, 1) := by decide +kernel
theorem dX6_calls_129 : decode cX6_calls 129 = .ok (.aload_n 0, 1) := by decide +kernel
theorem dX6_calls_130 : decode cX6_calls 130 = .ok (.getfield 25, 3) := by decide +kernel
theorem dX6_calls_133 : decode cX6_calls 133 = .ok (.iconst 0, 1) := by decide +kernel
theorem dX6_calls_134 : decode cX6_calls 134 = .ok (.iaload, 1) := by decide +kernel
theorem dX6_calls_135 : decode cX6_calls 135 = .ok (.invokevirtual 229, 3) := by decide +kernel
theorem dX6_calls_138 : decode cX6_calls 138 = .ok (.ireturn, 1) := by decide +kernel
set_option maxRecDepth 20000 in
theorem ggX6_plays_X6_reads : GoodIn wsX6_plays wsX6_reads := goodIn_r _ [12, 13, 2, 14, 15, 16, 17, 11, 18, 5, 19, 20, 21, 22, 23, 24, 25, 26, 27, 28, 29, 30, 31, 32, 33, 173, 174, 175, 176, 177, 178, 179, 180, 181, 182, 183, 184, 185, 186, 187, 188] (by decide +kernel) (by decide +kernel)
set_option maxRecDepth 20000 in
theorem gX6_plays_X6_reads : GoodIn wsX6_plays (wsV RX6 238 RX6 yX6_reads wsX6_reads) := goodIn_app (goodIn_of _ (by decide +kernel)) ggX6_plays_X6_reads
set_option maxRecDepth 20000 in
theorem ggX6_plays_X6_calls : GoodIn wsX6_plays wsX6_calls := goodIn_r _ [37, 14, 29, 38, 39, 40, 11, 41, 42, 43, 44, 45, 46, 47, 48, 49, 50, 51, 52, 19, 20, 21, 53, 54, 55, 56, 57, 58, 59, 60, 61, 62, 63, 64, 65, 66, 67, 68, 69, 70, 71, 72, 73, 74, 75, 76, 77, 78, 79, 80, 81, 82, 83, 84, 85, 86, 87, 88, 89, 90, 91, 92, 93, 94, 95, 96, 97, 98, 99, 100, 101, 102, 103, 104, 105, 106, 107, 108, 109, 110, 111, 112, 113, 1, 114, 115, 116, 117, 118, 119, 120, 121, 122, 123, 124, 125, 126, 127, 128, 129, 130, 131, 132, 133, 134, 135, 136, 137, 138, 139, 140, 141, 142, 143, 144, 145, 146, 147, 148, 149, 150, 151, 152, 153, 154, 155, 156, 157, 158, 159, 160, 161, 162, 163, 164, 165, 166, 167, 168, 169, 170, 171, 172, 173, 174, 175, 176, 177, 178, 179, 180, 181, 182, 183, 184, 185, 186, 187, 188] (by decide +kernel) (by decide +kernel)
set_option maxRecDepth 20000 in
theorem gX6_plays_X6_calls : GoodIn wsX6_plays (wsV RX6 242 RX6 yX6_calls wsX6_calls) := goodIn_app (goodIn_of _ (by decide +kernel)) ggX6_plays_X6_calls
theorem dX6_plays_0 : decode cX6_plays 0 = .ok (.aload_n 0, 1) := by decide +kernel
theorem dX6_plays_1 : decode cX6_plays 1 = .ok (.iconst 1, 1) := by decide +kernel
theorem dX6_plays_2 : decode cX6_plays 2 = .ok (.putfield 31, 3) := by decide +kernel
theorem dX6_plays_5 : decode cX6_plays 5 = .ok (.aload_n 0, 1) := by decide +kernel
theorem dX6_plays_6 : decode cX6_plays 6 = .ok (.iconst 0, 1) := by decide +kernel
theorem dX6_plays_7 : decode cX6_plays 7 = .ok (.putfield 201, 3) := by decide +kernel
theorem dX6_plays_10 : decode cX6_plays 10 = .ok (.aload_n 0, 1) := by decide +kernel
theorem dX6_plays_11 : decode cX6_plays 11 = .ok (.iconst 0, 1) := by decide +kernel
theorem dX6_plays_12 : decode cX6_plays 12 = .ok (.putfield 232, 3) := by decide +kernel
theorem dX6_plays_15 : decode cX6_plays 15 = .ok (.aload_n 0, 1) := by decide +kernel
theorem dX6_plays_16 : decode cX6_plays 16 = .ok (.iconst 0, 1) := by decide +kernel
theorem dX6_plays_17 : decode cX6_plays 17 = .ok (.putfield 235, 3) := by decide +kernel
theorem dX6_plays_20 : decode cX6_plays 20 = .ok (.iconst 1, 1) := by decide +kernel
theorem dX6_plays_21 : decode cX6_plays 21 = .ok (.istore_n 1, 1) := by decide +kernel
theorem dX6_plays_22 : decode cX6_plays 22 = .ok (.aload_n 0, 1) := by decide +kernel
theorem dX6_plays_23 : decode cX6_plays 23 = .ok (.getfield 201, 3) := by decide +kernel
theorem dX6_plays_26 : decode cX6_plays 26 = .ok (.aload_n 0, 1) := by decide +kernel
theorem dX6_plays_27 : decode cX6_plays 27 = .ok (.getfield 198, 3) := by decide +kernel
theorem dX6_plays_30 : decode cX6_plays 30 = .ok (.if_icmp .ge 94, 3) := by decide +kernel
theorem dX6_plays_33 : decode cX6_plays 33 = .ok (.iload_n 1, 1) := by decide +kernel
theorem dX6_plays_34 : decode cX6_plays 34 = .ok (.ifCond .eq 90, 3) := by decide +kernel
theorem dX6_plays_37 : decode cX6_plays 37 = .ok (.aload_n 0, 1) := by decide +kernel
theorem dX6_plays_38 : decode cX6_plays 38 = .ok (.aload_n 0, 1) := by decide +kernel
theorem dX6_plays_39 : decode cX6_plays 39 = .ok (.getfield 201, 3) := by decide +kernel
theorem dX6_plays_42 : decode cX6_plays 42 = .ok (.putfield 232, 3) := by decide +kernel
theorem dX6_plays_45 : decode cX6_plays 45 = .ok (.aload_n 0, 1) := by decide +kernel
theorem dX6_plays_46 : decode cX6_plays 46 = .ok (.invokevirtual 238, 3) := by decide +kernel
theorem dX6_plays_49 : decode cX6_plays 49 = .ok (.istore_n 2, 1) := by decide +kernel
theorem dX6_plays_50 : decode cX6_plays 50 = .ok (.iload_n 2, 1) := by decide +kernel
theorem dX6_plays_51 : decode cX6_plays 51 = .ok (.ifCond .eq 10, 3) := by decide +kernel
theorem dX6_plays_54 : decode cX6_plays 54 = .ok (.aload_n 0, 1) := by decide +kernel
theorem dX6_plays_55 : decode cX6_plays 55 = .ok (.invokevirtual 242, 3) := by decide +kernel
theorem dX6_plays_58 : decode cX6_plays 58 = .ok (.goto 4, 3) := by decide +kernel
theorem dX6_plays_61 : decode cX6_plays 61 = .ok (.iconst 0, 1) := by decide +kernel
theorem dX6_plays_62 : decode cX6_plays 62 = .ok (.istore_n 3, 1) := by decide +kernel
theorem dX6_plays_63 : decode cX6_plays 63 = .ok (.iload_n 2, 1) := by decide +kernel
theorem dX6_plays_64 : decode cX6_plays 64 = .ok (.ifCond .eq 11, 3) := by decide +kernel
theorem dX6_plays_67 : decode cX6_plays 67 = .ok (.iload_n 3, 1) := by decide +kernel
theorem dX6_plays_68 : decode cX6_plays 68 = .ok (.ifCond .lt 7, 3) := by decide +kernel
theorem dX6_plays_71 : decode cX6_plays 71 = .ok (.iconst 1, 1) := by decide +kernel
theorem dX6_plays_72 : decode cX6_plays 72 = .ok (.goto 4, 3) := by decide +kernel
theorem dX6_plays_75 : decode cX6_plays 75 = .ok (.iconst 0, 1) := by decide +kernel
theorem dX6_plays_76 : decode cX6_plays 76 = .ok (.istore_n 1, 1) := by decide +kernel
theorem dX6_plays_77 : decode cX6_plays 77 = .ok (.aload_n 0, 1) := by decide +kernel
theorem dX6_plays_78 : decode cX6_plays 78 = .ok (.iload_n 2, 1) := by decide +kernel
theorem dX6_plays_79 : decode cX6_plays 79 = .ok (.ifCond .eq 7, 3) := by decide +kernel
theorem dX6_plays_82 : decode cX6_plays 82 = .ok (.iconst 2, 1) := by decide +kernel
theorem dX6_plays_83 : decode cX6_plays 83 = .ok (.goto 4, 3) := by decide +kernel
theorem dX6_plays_86 : decode cX6_plays 86 = .ok (.iconst 1, 1) := by decide +kernel
theorem dX6_plays_87 : decode cX6_plays 87 = .ok (.putfield 245, 3) := by decide +kernel
theorem dX6_plays_90 : decode cX6_plays 90 = .ok (.aload_n 0, 1) := by decide +kernel
theorem dX6_plays_91 : decode cX6_plays 91 = .ok (.iload_n 2, 1) := by decide +kernel
theorem dX6_plays_92 : decode cX6_plays 92 = .ok (.ifCond .eq 7, 3) := by decide +kernel
theorem dX6_plays_95 : decode cX6_plays 95 = .ok (.iload_n 3, 1) := by decide +kernel
theorem dX6_plays_96 : decode cX6_plays 96 = .ok (.goto 12, 3) := by decide +kernel
theorem dX6_plays_99 : decode cX6_plays 99 = .ok (.aload_n 0, 1) := by decide +kernel
theorem dX6_plays_100 : decode cX6_plays 100 = .ok (.getfield 201, 3) := by decide +kernel
theorem dX6_plays_103 : decode cX6_plays 103 = .ok (.aload_n 0, 1) := by decide +kernel
theorem dX6_plays_104 : decode cX6_plays 104 = .ok (.getfield 232, 3) := by decide +kernel
theorem dX6_plays_107 : decode cX6_plays 107 = .ok (.isub, 1) := by decide +kernel
theorem dX6_plays_108 : decode cX6_plays 108 = .ok (.putfield 248, 3) := by decide +kernel
theorem dX6_plays_111 : decode cX6_plays 111 = .ok (.aload_n 0, 1) := by decide +kernel
theorem dX6_plays_112 : decode cX6_plays 112 = .ok (.dup, 1) := by decide +kernel
theorem dX6_plays_113 : decode cX6_plays 113 = .ok (.getfield 235, 3) := by decide +kernel
theorem dX6_plays_116 : decode cX6_plays 116 = .ok (.iconst 1, 1) := by decide +kernel
theorem dX6_plays_117 : decode cX6_plays 117 = .ok (.iadd, 1) := by decide +kernel
theorem dX6_plays_118 : decode cX6_plays 118 = .ok (.putfield 235, 3) := by decide +kernel
theorem dX6_plays_121 : decode cX6_plays 121 = .ok (.goto (-99), 3) := by decide +kernel
theorem dX6_plays_124 : decode cX6_plays 124 = .ok (.aload_n 0, 1) := by decide +kernel
theorem dX6_plays_125 : decode cX6_plays 125 = .ok (.iconst 0, 1) := by decide +kernel
theorem dX6_plays_126 : decode cX6_plays 126 = .ok (.putfield 31, 3) := by decide +kernel
theorem dX6_plays_129 : decode cX6_plays 129 = .ok (.iload_n 1, 1) := by decide +kernel
theorem dX6_plays_130 : decode cX6_plays 130 = .ok (.ireturn, 1) := by decide +kernel
set_option maxRecDepth 20000 in
theorem ggX6_fault_X6_in : GoodIn wsX6_fault wsX6_in := goodIn_r _ [11] (by decide +kernel) (by decide +kernel)
set_option maxRecDepth 20000 in
theorem gX6_fault_X6_in : GoodIn wsX6_fault (va_wsS RX6 48 yX6_in wsX6_in) := goodIn_app (goodIn_of _ (by decide +kernel)) ggX6_fault_X6_in
set_option maxRecDepth 20000 in
theorem ggX6_fault_X6_copies : GoodIn wsX6_fault wsX6_copies := goodIn_r _ [14] (by decide +kernel) (by decide +kernel)
set_option maxRecDepth 20000 in
theorem gX6_fault_X6_copies : GoodIn wsX6_fault (va_wsS RX6 188 yX6_copies wsX6_copies) := goodIn_app (goodIn_of _ (by decide +kernel)) ggX6_fault_X6_copies
set_option maxRecDepth 20000 in
theorem ggX6_fault_X6_plays : GoodIn wsX6_fault wsX6_plays := goodIn_r _ [18, 19, 20, 5, 21, 22, 6, 7, 23, 24, 25, 10, 26, 27, 28, 29, 30, 31, 32, 8, 9, 11, 33, 34, 35, 36, 37, 38, 39, 40, 41, 42, 43, 44, 45, 46, 47, 48, 49, 50, 51, 52, 53, 54, 55, 56, 1, 2, 57, 58, 59, 60, 61, 62, 63, 64, 65, 66, 67, 68, 4, 69, 70, 71, 72, 73, 74, 75, 76, 77, 78, 79, 80, 81, 82, 83, 84, 85, 86, 87, 88, 89, 90, 91, 92, 93, 94, 95, 96, 97, 98, 99, 100, 101, 102, 103, 104, 105, 106, 107, 108, 109, 110, 111, 112, 113, 114, 115, 116, 117, 118, 119, 120, 121, 122, 123, 124, 125, 126, 127, 128, 129, 130, 131, 132, 133, 134, 135, 136, 137, 138, 139, 140, 141, 142, 143, 144, 145, 146, 147, 148, 149, 150, 151, 152, 153, 154, 155, 156, 157, 158, 159, 160, 161, 162, 163, 164, 165, 166, 167, 168, 169, 170, 171, 172, 173, 174, 175, 176, 177, 178, 179, 180, 181, 182, 183, 184, 185, 186, 187, 188, 189, 190, 191, 192, 193, 194, 195, 196] (by decide +kernel) (by decide +kernel)
set_option maxRecDepth 20000 in
theorem gX6_fault_X6_plays : GoodIn wsX6_fault (wsV RX6 251 RX6 yX6_plays wsX6_plays) := goodIn_app (goodIn_of _ (by decide +kernel)) ggX6_fault_X6_plays
theorem dX6_fault_0 : decode cX6_fault 0 = .ok (.iload_n 1, 1) := by decide +kernel
theorem dX6_fault_1 : decode cX6_fault 1 = .ok (.iconst 0, 1) := by decide +kernel
theorem dX6_fault_2 : decode cX6_fault 2 = .ok (.iconst 2, 1) := by decide +kernel
theorem dX6_fault_3 : decode cX6_fault 3 = .ok (.invokestatic 48, 3) := by decide +kernel
theorem dX6_fault_6 : decode cX6_fault 6 = .ok (.ifCond .ne 6, 3) := by decide +kernel
theorem dX6_fault_9 : decode cX6_fault 9 = .ok (.ldc 111, 2) := by decide +kernel
theorem dX6_fault_11 : decode cX6_fault 11 = .ok (.ireturn, 1) := by decide +kernel
theorem dX6_fault_12 : decode cX6_fault 12 = .ok (.aload_n 0, 1) := by decide +kernel
theorem dX6_fault_13 : decode cX6_fault 13 = .ok (.getfield 7, 3) := by decide +kernel
theorem dX6_fault_16 : decode cX6_fault 16 = .ok (.aload_n 0, 1) := by decide +kernel
theorem dX6_fault_17 : decode cX6_fault 17 = .ok (.getfield 28, 3) := by decide +kernel
theorem dX6_fault_20 : decode cX6_fault 20 = .ok (.invokestatic 188, 3) := by decide +kernel
theorem dX6_fault_23 : decode cX6_fault 23 = .ok (.aload_n 0, 1) := by decide +kernel
theorem dX6_fault_24 : decode cX6_fault 24 = .ok (.invokevirtual 251, 3) := by decide +kernel
theorem dX6_fault_27 : decode cX6_fault 27 = .ok (.istore_n 2, 1) := by decide +kernel
theorem dX6_fault_28 : decode cX6_fault 28 = .ok (.aload_n 0, 1) := by decide +kernel
theorem dX6_fault_29 : decode cX6_fault 29 = .ok (.getfield 28, 3) := by decide +kernel
theorem dX6_fault_32 : decode cX6_fault 32 = .ok (.aload_n 0, 1) := by decide +kernel
theorem dX6_fault_33 : decode cX6_fault 33 = .ok (.getfield 7, 3) := by decide +kernel
theorem dX6_fault_36 : decode cX6_fault 36 = .ok (.invokestatic 188, 3) := by decide +kernel
theorem dX6_fault_39 : decode cX6_fault 39 = .ok (.iload_n 2, 1) := by decide +kernel
theorem dX6_fault_40 : decode cX6_fault 40 = .ok (.ifCond .eq 8, 3) := by decide +kernel
theorem dX6_fault_43 : decode cX6_fault 43 = .ok (.ldc 43, 2) := by decide +kernel
theorem dX6_fault_45 : decode cX6_fault 45 = .ok (.goto 30, 3) := by decide +kernel
theorem dX6_fault_48 : decode cX6_fault 48 = .ok (.iload_n 1, 1) := by decide +kernel
theorem dX6_fault_49 : decode cX6_fault 49 = .ok (.ifCond .ne 10, 3) := by decide +kernel
theorem dX6_fault_52 : decode cX6_fault 52 = .ok (.aload_n 0, 1) := by decide +kernel
theorem dX6_fault_53 : decode cX6_fault 53 = .ok (.getfield 232, 3) := by decide +kernel
theorem dX6_fault_56 : decode cX6_fault 56 = .ok (.goto 19, 3) := by decide +kernel
theorem dX6_fault_59 : decode cX6_fault 59 = .ok (.iload_n 1, 1) := by decide +kernel
theorem dX6_fault_60 : decode cX6_fault 60 = .ok (.iconst 1, 1) := by decide +kernel
theorem dX6_fault_61 : decode cX6_fault 61 = .ok (.if_icmp .ne 10, 3) := by decide +kernel
theorem dX6_fault_64 : decode cX6_fault 64 = .ok (.aload_n 0, 1) := by decide +kernel
theorem dX6_fault_65 : decode cX6_fault 65 = .ok (.getfield 245, 3) := by decide +kernel
theorem dX6_fault_68 : decode cX6_fault 68 = .ok (.goto 7, 3) := by decide +kernel
theorem dX6_fault_71 : decode cX6_fault 71 = .ok (.aload_n 0, 1) := by decide +kernel
theorem dX6_fault_72 : decode cX6_fault 72 = .ok (.getfield 248, 3) := by decide +kernel
theorem dX6_fault_75 : decode cX6_fault 75 = .ok (.ireturn, 1) := by decide +kernel
set_option maxRecDepth 20000 in
theorem ggX6_play_X6_copies : GoodIn wsX6_play wsX6_copies := goodIn_r _ [9] (by decide +kernel) (by decide +kernel)
set_option maxRecDepth 20000 in
theorem gX6_play_X6_copies : GoodIn wsX6_play (va_wsS RX6 188 yX6_copies wsX6_copies) := goodIn_app (goodIn_of _ (by decide +kernel)) ggX6_play_X6_copies
set_option maxRecDepth 20000 in
theorem ggX6_play_X6_plays : GoodIn wsX6_play wsX6_plays := goodIn_r _ [13, 14, 15, 16, 4, 17, 18, 19, 20, 21, 22, 8, 23, 24, 25, 26, 27, 28, 29, 30, 31, 32, 33, 34, 35, 36, 37, 38, 39, 40, 41, 42, 43, 44, 45, 46, 47, 48, 49, 50, 51, 52, 53, 54, 55, 56, 57, 1, 58, 59, 60, 61, 62, 63, 64, 65, 66, 67, 68, 69, 5, 70, 71, 72, 73, 74, 75, 76, 77, 78, 79, 80, 81, 82, 83, 84, 85, 86, 87, 88, 89, 90, 91, 92, 93, 94, 95, 96, 97, 98, 99, 100, 101, 102, 103, 104, 105, 106, 107, 108, 109, 110, 111, 112, 113, 114, 115, 116, 117, 118, 119, 120, 121, 122, 123, 124, 125, 126, 127, 128, 129, 130, 131, 132, 133, 134, 135, 136, 137, 138, 139, 140, 141, 142, 143, 144, 145, 146, 147, 148, 149, 150, 151, 152, 153, 154, 155, 156, 157, 158, 159, 160, 161, 162, 163, 164, 3, 165, 166, 167, 168, 169, 170, 171, 172, 173, 174, 175, 176, 177, 178, 179, 180, 181, 182, 183, 184, 185, 186, 187, 188, 189, 190, 191, 192, 193, 194, 195, 196] (by decide +kernel) (by decide +kernel)
set_option maxRecDepth 20000 in
theorem gX6_play_X6_plays : GoodIn wsX6_play (wsV RX6 251 RX6 yX6_plays wsX6_plays) := goodIn_app (goodIn_of _ (by decide +kernel)) ggX6_play_X6_plays
set_option maxRecDepth 20000 in
theorem ggX6_play_X6_changes : GoodIn wsX6_play wsX6_changes := goodIn_r _ [122, 14, 123, 124, 1, 181, 182, 183, 184, 185, 186, 187, 188, 189, 190, 191, 192, 193, 194, 195, 196] (by decide +kernel) (by decide +kernel)
set_option maxRecDepth 20000 in
theorem gX6_play_X6_changes : GoodIn wsX6_play (wsV RX6 95 RX6 yX6_changes wsX6_changes) := goodIn_app (goodIn_of _ (by decide +kernel)) ggX6_play_X6_changes
theorem dX6_play_0 : decode cX6_play 0 = .ok (.aload_n 0, 1) := by decide +kernel
theorem dX6_play_1 : decode cX6_play 1 = .ok (.getfield 7, 3) := by decide +kernel
theorem dX6_play_4 : decode cX6_play 4 = .ok (.aload_n 0, 1) := by decide +kernel
theorem dX6_play_5 : decode cX6_play 5 = .ok (.getfield 28, 3) := by decide +kernel
theorem dX6_play_8 : decode cX6_play 8 = .ok (.invokestatic 188, 3) := by decide +kernel
theorem dX6_play_11 : decode cX6_play 11 = .ok (.aload_n 0, 1) := by decide +kernel
theorem dX6_play_12 : decode cX6_play 12 = .ok (.invokevirtual 251, 3) := by decide +kernel
theorem dX6_play_15 : decode cX6_play 15 = .ok (.istore_n 1, 1) := by decide +kernel
theorem dX6_play_16 : decode cX6_play 16 = .ok (.aload_n 0, 1) := by decide +kernel
theorem dX6_play_17 : decode cX6_play 17 = .ok (.getfield 28, 3) := by decide +kernel
theorem dX6_play_20 : decode cX6_play 20 = .ok (.aload_n 0, 1) := by decide +kernel
theorem dX6_play_21 : decode cX6_play 21 = .ok (.getfield 7, 3) := by decide +kernel
theorem dX6_play_24 : decode cX6_play 24 = .ok (.invokestatic 188, 3) := by decide +kernel
theorem dX6_play_27 : decode cX6_play 27 = .ok (.iload_n 1, 1) := by decide +kernel
theorem dX6_play_28 : decode cX6_play 28 = .ok (.ifCond .ne 6, 3) := by decide +kernel
theorem dX6_play_31 : decode cX6_play 31 = .ok (.ldc 134, 2) := by decide +kernel
theorem dX6_play_33 : decode cX6_play 33 = .ok (.ireturn, 1) := by decide +kernel
theorem dX6_play_34 : decode cX6_play 34 = .ok (.aload_n 0, 1) := by decide +kernel
theorem dX6_play_35 : decode cX6_play 35 = .ok (.invokevirtual 95, 3) := by decide +kernel
theorem dX6_play_38 : decode cX6_play 38 = .ok (.aload_n 0, 1) := by decide +kernel
theorem dX6_play_39 : decode cX6_play 39 = .ok (.invokevirtual 251, 3) := by decide +kernel
theorem dX6_play_42 : decode cX6_play 42 = .ok (.ifCond .eq 10, 3) := by decide +kernel
theorem dX6_play_45 : decode cX6_play 45 = .ok (.aload_n 0, 1) := by decide +kernel
theorem dX6_play_46 : decode cX6_play 46 = .ok (.getfield 235, 3) := by decide +kernel
theorem dX6_play_49 : decode cX6_play 49 = .ok (.goto 5, 3) := by decide +kernel
theorem dX6_play_52 : decode cX6_play 52 = .ok (.ldc 43, 2) := by decide +kernel
theorem dX6_play_54 : decode cX6_play 54 = .ok (.ireturn, 1) := by decide +kernel
