theorem dX7_laysTree_34 : decode cX7_laysTree 34 = .ok (.invokevirtual 180, 3) := by decide +kernel
theorem dX7_laysTree_37 : decode cX7_laysTree 37 = .ok (.iinc 2 1, 3) := by decide +kernel
theorem dX7_laysTree_40 : decode cX7_laysTree 40 = .ok (.goto (-21), 3) := by decide +kernel
theorem dX7_laysTree_43 : decode cX7_laysTree 43 = .ok (.iinc 1 1, 3) := by decide +kernel
theorem dX7_laysTree_46 : decode cX7_laysTree 46 = .ok (.goto (-39), 3) := by decide +kernel
theorem dX7_laysTree_49 : decode cX7_laysTree 49 = .ok (.return_, 1) := by decide +kernel
set_option maxRecDepth 20000 in
theorem ggX7_ring_X7_laysRing : GoodIn wsX7_ring wsX7_laysRing := goodIn_r _ [7, 1, 8, 9, 10, 11, 12, 6, 13, 14, 15, 16, 17, 18, 19, 20, 21, 22, 23, 24, 37, 38, 39, 40, 41, 42, 43, 44, 45, 46, 47, 48, 49, 50, 51, 52, 53, 54, 55, 56, 57, 58, 59, 60, 61] (by decide +kernel) (by decide +kernel)
set_option maxRecDepth 20000 in
theorem gX7_ring_X7_laysRing : GoodIn wsX7_ring (wsV RX7 94 RX7 yX7_laysRing wsX7_laysRing) := goodIn_app (goodIn_of _ (by decide +kernel)) ggX7_ring_X7_laysRing
set_option maxRecDepth 20000 in
theorem ggX7_ring_X7_laysTree : GoodIn wsX7_ring wsX7_laysTree := goodIn_r _ [28, 29, 8, 10, 11, 12, 6, 13, 14, 15, 16, 17, 18, 19, 20, 21, 22, 23, 24, 30, 31, 32, 33, 34, 35, 36, 2, 37, 38, 39, 40, 41, 42, 43, 44, 45, 46, 47, 48, 49, 50, 51, 52, 53, 54, 55, 56, 57, 58, 59, 60, 61] (by decide +kernel) (by decide +kernel)
set_option maxRecDepth 20000 in
theorem gX7_ring_X7_laysTree : GoodIn wsX7_ring (wsV RX7 183 RX7 yX7_laysTree wsX7_laysTree) := goodIn_app (goodIn_of _ (by decide +kernel)) ggX7_ring_X7_laysTree
theorem dX7_ring_0 : decode cX7_ring 0 = .ok (.aload_n 0, 1) := by decide +kernel
theorem dX7_ring_1 : decode cX7_ring 1 = .ok (.invokevirtual 94, 3) := by decide +kernel
theorem dX7_ring_4 : decode cX7_ring 4 = .ok (.aload_n 0, 1) := by decide +kernel
theorem dX7_ring_5 : decode cX7_ring 5 = .ok (.invokevirtual 183, 3) := by decide +kernel
theorem dX7_ring_8 : decode cX7_ring 8 = .ok (.iconst (-1), 1) := by decide +kernel
theorem dX7_ring_9 : decode cX7_ring 9 = .ok (.istore_n 3, 1) := by decide +kernel
theorem dX7_ring_10 : decode cX7_ring 10 = .ok (.iconst 0, 1) := by decide +kernel
theorem dX7_ring_11 : decode cX7_ring 11 = .ok (.istore 4, 2) := by decide +kernel
theorem dX7_ring_13 : decode cX7_ring 13 = .ok (.iconst 0, 1) := by decide +kernel
theorem dX7_ring_14 : decode cX7_ring 14 = .ok (.istore 5, 2) := by decide +kernel
theorem dX7_ring_16 : decode cX7_ring 16 = .ok (.iload 5, 2) := by decide +kernel
theorem dX7_ring_18 : decode cX7_ring 18 = .ok (.sipush 360, 3) := by decide +kernel
theorem dX7_ring_21 : decode cX7_ring 21 = .ok (.if_icmp .ge 39, 3) := by decide +kernel
theorem dX7_ring_24 : decode cX7_ring 24 = .ok (.aload_n 0, 1) := by decide +kernel
theorem dX7_ring_25 : decode cX7_ring 25 = .ok (.getfield 13, 3) := by decide +kernel
theorem dX7_ring_28 : decode cX7_ring 28 = .ok (.iload 5, 2) := by decide +kernel
theorem dX7_ring_30 : decode cX7_ring 30 = .ok (.iaload, 1) := by decide +kernel
theorem dX7_ring_31 : decode cX7_ring 31 = .ok (.iconst (-1), 1) := by decide +kernel
theorem dX7_ring_32 : decode cX7_ring 32 = .ok (.if_icmp .ne 6, 3) := by decide +kernel
theorem dX7_ring_35 : decode cX7_ring 35 = .ok (.goto 19, 3) := by decide +kernel
theorem dX7_ring_38 : decode cX7_ring 38 = .ok (.iload 4, 2) := by decide +kernel
theorem dX7_ring_40 : decode cX7_ring 40 = .ok (.iload_n 1, 1) := by decide +kernel
theorem dX7_ring_41 : decode cX7_ring 41 = .ok (.if_icmp .ne 8, 3) := by decide +kernel
theorem dX7_ring_44 : decode cX7_ring 44 = .ok (.iload 5, 2) := by decide +kernel
theorem dX7_ring_46 : decode cX7_ring 46 = .ok (.goto 4, 3) := by decide +kernel
theorem dX7_ring_49 : decode cX7_ring 49 = .ok (.iload_n 3, 1) := by decide +kernel
theorem dX7_ring_50 : decode cX7_ring 50 = .ok (.istore_n 3, 1) := by decide +kernel
theorem dX7_ring_51 : decode cX7_ring 51 = .ok (.iinc 4 1, 3) := by decide +kernel
theorem dX7_ring_54 : decode cX7_ring 54 = .ok (.iinc 5 1, 3) := by decide +kernel
theorem dX7_ring_57 : decode cX7_ring 57 = .ok (.goto (-41), 3) := by decide +kernel
theorem dX7_ring_60 : decode cX7_ring 60 = .ok (.iload_n 3, 1) := by decide +kernel
theorem dX7_ring_61 : decode cX7_ring 61 = .ok (.iconst (-1), 1) := by decide +kernel
theorem dX7_ring_62 : decode cX7_ring 62 = .ok (.if_icmp .ne 6, 3) := by decide +kernel
theorem dX7_ring_65 : decode cX7_ring 65 = .ok (.bipush (-11), 2) := by decide +kernel
theorem dX7_ring_67 : decode cX7_ring 67 = .ok (.ireturn, 1) := by decide +kernel
theorem dX7_ring_68 : decode cX7_ring 68 = .ok (.iload_n 2, 1) := by decide +kernel
theorem dX7_ring_69 : decode cX7_ring 69 = .ok (.tableswitch 60 0 3 #[31, 33, 43, 53], 31) := by decide +kernel
theorem dX7_ring_100 : decode cX7_ring 100 = .ok (.iload_n 3, 1) := by decide +kernel
theorem dX7_ring_101 : decode cX7_ring 101 = .ok (.ireturn, 1) := by decide +kernel
theorem dX7_ring_102 : decode cX7_ring 102 = .ok (.aload_n 0, 1) := by decide +kernel
theorem dX7_ring_103 : decode cX7_ring 103 = .ok (.getfield 13, 3) := by decide +kernel
theorem dX7_ring_106 : decode cX7_ring 106 = .ok (.iload_n 3, 1) := by decide +kernel
theorem dX7_ring_107 : decode cX7_ring 107 = .ok (.iaload, 1) := by decide +kernel
theorem dX7_ring_108 : decode cX7_ring 108 = .ok (.bipush 8, 2) := by decide +kernel
theorem dX7_ring_110 : decode cX7_ring 110 = .ok (.irem, 1) := by decide +kernel
theorem dX7_ring_111 : decode cX7_ring 111 = .ok (.ireturn, 1) := by decide +kernel
theorem dX7_ring_112 : decode cX7_ring 112 = .ok (.aload_n 0, 1) := by decide +kernel
theorem dX7_ring_113 : decode cX7_ring 113 = .ok (.getfield 13, 3) := by decide +kernel
theorem dX7_ring_116 : decode cX7_ring 116 = .ok (.iload_n 3, 1) := by decide +kernel
theorem dX7_ring_117 : decode cX7_ring 117 = .ok (.iaload, 1) := by decide +kernel
theorem dX7_ring_118 : decode cX7_ring 118 = .ok (.bipush 8, 2) := by decide +kernel
theorem dX7_ring_120 : decode cX7_ring 120 = .ok (.idiv, 1) := by decide +kernel
theorem dX7_ring_121 : decode cX7_ring 121 = .ok (.ireturn, 1) := by decide +kernel
theorem dX7_ring_122 : decode cX7_ring 122 = .ok (.aload_n 0, 1) := by decide +kernel
theorem dX7_ring_123 : decode cX7_ring 123 = .ok (.getfield 43, 3) := by decide +kernel
theorem dX7_ring_126 : decode cX7_ring 126 = .ok (.iload_n 3, 1) := by decide +kernel
theorem dX7_ring_127 : decode cX7_ring 127 = .ok (.iaload, 1) := by decide +kernel
theorem dX7_ring_128 : decode cX7_ring 128 = .ok (.ireturn, 1) := by decide +kernel
theorem dX7_ring_129 : decode cX7_ring 129 = .ok (.bipush (-12), 2) := by decide +kernel
theorem dX7_ring_131 : decode cX7_ring 131 = .ok (.ireturn, 1) := by decide +kernel
set_option maxRecDepth 20000 in
theorem ggX7_deep_X7_laysTree : GoodIn wsX7_deep wsX7_laysTree := goodIn_r _ [8, 1, 9, 10, 11, 12, 7, 13, 14, 15, 16, 17, 18, 19, 20, 21, 22, 23, 24, 25, 26, 27, 28, 3, 29, 30, 2, 31, 32, 33, 34, 35, 36, 37, 38, 39, 40, 41, 42, 43, 44, 45, 46, 47, 48, 49, 50, 51, 52, 53, 54, 55] (by decide +kernel) (by decide +kernel)
set_option maxRecDepth 20000 in
theorem gX7_deep_X7_laysTree : GoodIn wsX7_deep (wsV RX7 183 RX7 yX7_laysTree wsX7_laysTree) := goodIn_app (goodIn_of _ (by decide +kernel)) ggX7_deep_X7_laysTree
theorem dX7_deep_0 : decode cX7_deep 0 = .ok (.aload_n 0, 1) := by decide +kernel
theorem dX7_deep_1 : decode cX7_deep 1 = .ok (.invokevirtual 183, 3) := by decide +kernel
theorem dX7_deep_4 : decode cX7_deep 4 = .ok (.iconst 0, 1) := by decide +kernel
theorem dX7_deep_5 : decode cX7_deep 5 = .ok (.istore_n 1, 1) := by decide +kernel
theorem dX7_deep_6 : decode cX7_deep 6 = .ok (.iconst 0, 1) := by decide +kernel
theorem dX7_deep_7 : decode cX7_deep 7 = .ok (.istore_n 2, 1) := by decide +kernel
theorem dX7_deep_8 : decode cX7_deep 8 = .ok (.iload_n 2, 1) := by decide +kernel
theorem dX7_deep_9 : decode cX7_deep 9 = .ok (.aload_n 0, 1) := by decide +kernel
theorem dX7_deep_10 : decode cX7_deep 10 = .ok (.getfield 177, 3) := by decide +kernel
theorem dX7_deep_13 : decode cX7_deep 13 = .ok (.if_icmp .ge 44, 3) := by decide +kernel
theorem dX7_deep_16 : decode cX7_deep 16 = .ok (.aload_n 0, 1) := by decide +kernel
theorem dX7_deep_17 : decode cX7_deep 17 = .ok (.getfield 43, 3) := by decide +kernel
theorem dX7_deep_20 : decode cX7_deep 20 = .ok (.aload_n 0, 1) := by decide +kernel
theorem dX7_deep_21 : decode cX7_deep 21 = .ok (.getfield 34, 3) := by decide +kernel
theorem dX7_deep_24 : decode cX7_deep 24 = .ok (.iload_n 2, 1) := by decide +kernel
theorem dX7_deep_25 : decode cX7_deep 25 = .ok (.iaload, 1) := by decide +kernel
theorem dX7_deep_26 : decode cX7_deep 26 = .ok (.iaload, 1) := by decide +kernel
theorem dX7_deep_27 : decode cX7_deep 27 = .ok (.iconst 1, 1) := by decide +kernel
theorem dX7_deep_28 : decode cX7_deep 28 = .ok (.iadd, 1) := by decide +kernel
theorem dX7_deep_29 : decode cX7_deep 29 = .ok (.iload_n 1, 1) := by decide +kernel
theorem dX7_deep_30 : decode cX7_deep 30 = .ok (.if_icmp .le 19, 3) := by decide +kernel
theorem dX7_deep_33 : decode cX7_deep 33 = .ok (.aload_n 0, 1) := by decide +kernel
theorem dX7_deep_34 : decode cX7_deep 34 = .ok (.getfield 43, 3) := by decide +kernel
theorem dX7_deep_37 : decode cX7_deep 37 = .ok (.aload_n 0, 1) := by decide +kernel
theorem dX7_deep_38 : decode cX7_deep 38 = .ok (.getfield 34, 3) := by decide +kernel
theorem dX7_deep_41 : decode cX7_deep 41 = .ok (.iload_n 2, 1) := by decide +kernel
theorem dX7_deep_42 : decode cX7_deep 42 = .ok (.iaload, 1) := by decide +kernel
theorem dX7_deep_43 : decode cX7_deep 43 = .ok (.iaload, 1) := by decide +kernel
theorem dX7_deep_44 : decode cX7_deep 44 = .ok (.iconst 1, 1) := by decide +kernel
theorem dX7_deep_45 : decode cX7_deep 45 = .ok (.iadd, 1) := by decide +kernel
theorem dX7_deep_46 : decode cX7_deep 46 = .ok (.goto 4, 3) := by decide +kernel
theorem dX7_deep_49 : decode cX7_deep 49 = .ok (.iload_n 1, 1) := by decide +kernel
theorem dX7_deep_50 : decode cX7_deep 50 = .ok (.istore_n 1, 1) := by decide +kernel
theorem dX7_deep_51 : decode cX7_deep 51 = .ok (.iinc 2 1, 3) := by decide +kernel
theorem dX7_deep_54 : decode cX7_deep 54 = .ok (.goto (-46), 3) := by decide +kernel
theorem dX7_deep_57 : decode cX7_deep 57 = .ok (.iload_n 1, 1) := by decide +kernel
theorem dX7_deep_58 : decode cX7_deep 58 = .ok (.ireturn, 1) := by decide +kernel
set_option maxRecDepth 20000 in
theorem ggX7_wouldMove_X7_in : GoodIn wsX7_wouldMove wsX7_in := goodIn_r _ [5] (by decide +kernel) (by decide +kernel)
set_option maxRecDepth 20000 in
theorem gX7_wouldMove_X7_in : GoodIn wsX7_wouldMove (va_wsS RX7 59 yX7_in wsX7_in) := goodIn_app (goodIn_of _ (by decide +kernel)) ggX7_wouldMove_X7_in
set_option maxRecDepth 20000 in
theorem ggX7_wouldMove_X7_copies : GoodIn wsX7_wouldMove wsX7_copies := goodIn_r _ [9, 1, 51, 52, 53, 54, 55, 56, 57, 58, 59, 60, 61, 62, 63, 64, 65, 66, 67, 68, 69, 70, 71, 72, 73, 74, 75] (by decide +kernel) (by decide +kernel)
set_option maxRecDepth 20000 in
theorem gX7_wouldMove_X7_copies : GoodIn wsX7_wouldMove (wsV RX7 55 RX7 yX7_copies wsX7_copies) := goodIn_app (goodIn_of _ (by decide +kernel)) ggX7_wouldMove_X7_copies
set_option maxRecDepth 20000 in
theorem ggX7_wouldMove_X7_looksAtHomes : GoodIn wsX7_wouldMove wsX7_looksAtHomes := goodIn_r _ [13, 1, 14, 15, 16, 17, 4, 18, 19, 20, 21, 22, 23, 24, 25, 26, 27, 28, 29, 30, 31, 32, 33, 34, 35, 36, 37, 38, 39, 40, 41, 42, 43, 44, 45, 46, 51, 52, 53, 54, 55, 56, 57, 58, 59, 60, 61, 62, 63, 64, 65, 66, 67, 68, 69, 70, 71, 72, 73, 74, 75] (by decide +kernel) (by decide +kernel)
set_option maxRecDepth 20000 in
theorem gX7_wouldMove_X7_looksAtHomes : GoodIn wsX7_wouldMove (wsV RX7 107 RX7 yX7_looksAtHomes wsX7_looksAtHomes) := goodIn_app (goodIn_of _ (by decide +kernel)) ggX7_wouldMove_X7_looksAtHomes
set_option maxRecDepth 20000 in
theorem ggX7_wouldMove_X7_moved : GoodIn wsX7_wouldMove wsX7_moved := goodIn_r _ [50, 1, 14, 15, 16, 17, 4, 18, 19, 20, 21, 22, 23, 24, 25, 26, 27, 28, 29, 30, 31, 32, 33, 34, 35, 36, 37, 38, 39, 40, 41, 42, 43, 44, 45, 46, 51, 52, 53, 54, 55, 56, 57, 58, 59, 60, 61, 62, 63, 64, 65, 66, 67, 68, 69, 70, 71, 72, 73, 74, 75] (by decide +kernel) (by decide +kernel)
set_option maxRecDepth 20000 in
theorem gX7_wouldMove_X7_moved : GoodIn wsX7_wouldMove (wsV RX7 100 RX7 yX7_moved wsX7_moved) := goodIn_app (goodIn_of _ (by decide +kernel)) ggX7_wouldMove_X7_moved
theorem dX7_wouldMove_0 : decode cX7_wouldMove 0 = .ok (.iload_n 1, 1) := by decide +kernel
theorem dX7_wouldMove_1 : decode cX7_wouldMove 1 = .ok (.iconst 1, 1) := by decide +kernel
theorem dX7_wouldMove_2 : decode cX7_wouldMove 2 = .ok (.iconst 5, 1) := by decide +kernel
theorem dX7_wouldMove_3 : decode cX7_wouldMove 3 = .ok (.invokestatic 59, 3) := by decide +kernel
theorem dX7_wouldMove_6 : decode cX7_wouldMove 6 = .ok (.ifCond .ne 6, 3) := by decide +kernel
theorem dX7_wouldMove_9 : decode cX7_wouldMove 9 = .ok (.bipush (-12), 2) := by decide +kernel
theorem dX7_wouldMove_11 : decode cX7_wouldMove 11 = .ok (.ireturn, 1) := by decide +kernel
theorem dX7_wouldMove_12 : decode cX7_wouldMove 12 = .ok (.aload_n 0, 1) := by decide +kernel
theorem dX7_wouldMove_13 : decode cX7_wouldMove 13 = .ok (.getfield 9, 3) := by decide +kernel
theorem dX7_wouldMove_16 : decode cX7_wouldMove 16 = .ok (.iconst 0, 1) := by decide +kernel
theorem dX7_wouldMove_17 : decode cX7_wouldMove 17 = .ok (.iaload, 1) := by decide +kernel
theorem dX7_wouldMove_18 : decode cX7_wouldMove 18 = .ok (.istore_n 2, 1) := by decide +kernel
theorem dX7_wouldMove_19 : decode cX7_wouldMove 19 = .ok (.iload_n 2, 1) := by decide +kernel
theorem dX7_wouldMove_20 : decode cX7_wouldMove 20 = .ok (.bipush 8, 2) := by decide +kernel
theorem dX7_wouldMove_22 : decode cX7_wouldMove 22 = .ok (.if_icmp .ne 6, 3) := by decide +kernel
theorem dX7_wouldMove_25 : decode cX7_wouldMove 25 = .ok (.bipush (-13), 2) := by decide +kernel
theorem dX7_wouldMove_27 : decode cX7_wouldMove 27 = .ok (.ireturn, 1) := by decide +kernel
theorem dX7_wouldMove_28 : decode cX7_wouldMove 28 = .ok (.aload_n 0, 1) := by decide +kernel
theorem dX7_wouldMove_29 : decode cX7_wouldMove 29 = .ok (.iconst 0, 1) := by decide +kernel
theorem dX7_wouldMove_30 : decode cX7_wouldMove 30 = .ok (.bipush 11, 2) := by decide +kernel
theorem dX7_wouldMove_32 : decode cX7_wouldMove 32 = .ok (.invokevirtual 55, 3) := by decide +kernel
theorem dX7_wouldMove_35 : decode cX7_wouldMove 35 = .ok (.aload_n 0, 1) := by decide +kernel
theorem dX7_wouldMove_36 : decode cX7_wouldMove 36 = .ok (.invokevirtual 107, 3) := by decide +kernel
theorem dX7_wouldMove_39 : decode cX7_wouldMove 39 = .ok (.aload_n 0, 1) := by decide +kernel
theorem dX7_wouldMove_40 : decode cX7_wouldMove 40 = .ok (.getfield 9, 3) := by decide +kernel
theorem dX7_wouldMove_43 : decode cX7_wouldMove 43 = .ok (.iconst 4, 1) := by decide +kernel
theorem dX7_wouldMove_44 : decode cX7_wouldMove 44 = .ok (.iconst 2, 1) := by decide +kernel
theorem dX7_wouldMove_45 : decode cX7_wouldMove 45 = .ok (.iload_n 2, 1) := by decide +kernel
theorem dX7_wouldMove_46 : decode cX7_wouldMove 46 = .ok (.imul, 1) := by decide +kernel
theorem dX7_wouldMove_47 : decode cX7_wouldMove 47 = .ok (.iadd, 1) := by decide +kernel
theorem dX7_wouldMove_48 : decode cX7_wouldMove 48 = .ok (.iconst 0, 1) := by decide +kernel
theorem dX7_wouldMove_49 : decode cX7_wouldMove 49 = .ok (.iadd, 1) := by decide +kernel
theorem dX7_wouldMove_50 : decode cX7_wouldMove 50 = .ok (.iload_n 1, 1) := by decide +kernel
theorem dX7_wouldMove_51 : decode cX7_wouldMove 51 = .ok (.iastore, 1) := by decide +kernel
theorem dX7_wouldMove_52 : decode cX7_wouldMove 52 = .ok (.aload_n 0, 1) := by decide +kernel
theorem dX7_wouldMove_53 : decode cX7_wouldMove 53 = .ok (.getfield 9, 3) := by decide +kernel
theorem dX7_wouldMove_56 : decode cX7_wouldMove 56 = .ok (.iconst 4, 1) := by decide +kernel
theorem dX7_wouldMove_57 : decode cX7_wouldMove 57 = .ok (.iconst 2, 1) := by decide +kernel
theorem dX7_wouldMove_58 : decode cX7_wouldMove 58 = .ok (.iload_n 2, 1) := by decide +kernel
theorem dX7_wouldMove_59 : decode cX7_wouldMove 59 = .ok (.imul, 1) := by decide +kernel
theorem dX7_wouldMove_60 : decode cX7_wouldMove 60 = .ok (.iadd, 1) := by decide +kernel
theorem dX7_wouldMove_61 : decode cX7_wouldMove 61 = .ok (.iconst 1, 1) := by decide +kernel
theorem dX7_wouldMove_62 : decode cX7_wouldMove 62 = .ok (.iadd, 1) := by decide +kernel
theorem dX7_wouldMove_63 : decode cX7_wouldMove 63 = .ok (.iconst 1, 1) := by decide +kernel
theorem dX7_wouldMove_64 : decode cX7_wouldMove 64 = .ok (.iastore, 1) := by decide +kernel
theorem dX7_wouldMove_65 : decode cX7_wouldMove 65 = .ok (.aload_n 0, 1) := by decide +kernel
theorem dX7_wouldMove_66 : decode cX7_wouldMove 66 = .ok (.getfield 9, 3) := by decide +kernel
theorem dX7_wouldMove_69 : decode cX7_wouldMove 69 = .ok (.iconst 0, 1) := by decide +kernel
theorem dX7_wouldMove_70 : decode cX7_wouldMove 70 = .ok (.dup2, 1) := by decide +kernel
theorem dX7_wouldMove_71 : decode cX7_wouldMove 71 = .ok (.iaload, 1) := by decide +kernel
theorem dX7_wouldMove_72 : decode cX7_wouldMove 72 = .ok (.iconst 1, 1) := by decide +kernel
theorem dX7_wouldMove_73 : decode cX7_wouldMove 73 = .ok (.iadd, 1) := by decide +kernel
theorem dX7_wouldMove_74 : decode cX7_wouldMove 74 = .ok (.iastore, 1) := by decide +kernel
theorem dX7_wouldMove_75 : decode cX7_wouldMove 75 = .ok (.aload_n 0, 1) := by decide +kernel
theorem dX7_wouldMove_76 : decode cX7_wouldMove 76 = .ok (.invokevirtual 100, 3) := by decide +kernel
theorem dX7_wouldMove_79 : decode cX7_wouldMove 79 = .ok (.istore_n 3, 1) := by decide +kernel
theorem dX7_wouldMove_80 : decode cX7_wouldMove 80 = .ok (.aload_n 0, 1) := by decide +kernel
theorem dX7_wouldMove_81 : decode cX7_wouldMove 81 = .ok (.bipush 11, 2) := by decide +kernel
theorem dX7_wouldMove_83 : decode cX7_wouldMove 83 = .ok (.iconst 0, 1) := by decide +kernel
theorem dX7_wouldMove_84 : decode cX7_wouldMove 84 = .ok (.invokevirtual 55, 3) := by decide +kernel
theorem dX7_wouldMove_87 : decode cX7_wouldMove 87 = .ok (.iload_n 3, 1) := by decide +kernel
theorem dX7_wouldMove_88 : decode cX7_wouldMove 88 = .ok (.ireturn, 1) := by decide +kernel
set_option maxRecDepth 20000 in
theorem ggX7_wouldClose_X7_isPier : GoodIn wsX7_wouldClose wsX7_isPier := goodIn_r _ [6, 1, 7, 8, 5, 9, 51, 52, 53, 54, 55, 56, 57, 58, 59, 60, 61, 62, 63, 64, 65, 66, 67, 68, 69, 70, 71, 72, 73, 74, 75] (by decide +kernel) (by decide +kernel)
set_option maxRecDepth 20000 in
theorem gX7_wouldClose_X7_isPier : GoodIn wsX7_wouldClose (wsV RX7 122 RX7 yX7_isPier wsX7_isPier) := goodIn_app (goodIn_of _ (by decide +kernel)) ggX7_wouldClose_X7_isPier
set_option maxRecDepth 20000 in
theorem ggX7_wouldClose_X7_isOpen : GoodIn wsX7_wouldClose wsX7_isOpen := goodIn_r _ [13, 14, 15, 16, 5, 17, 1, 51, 52, 53, 54, 55, 56, 57, 58, 59, 60, 61, 62, 63, 64, 65, 66, 67, 68, 69, 70, 71, 72, 73, 74, 75] (by decide +kernel) (by decide +kernel)
set_option maxRecDepth 20000 in
theorem gX7_wouldClose_X7_isOpen : GoodIn wsX7_wouldClose (wsV RX7 77 RX7 yX7_isOpen wsX7_isOpen) := goodIn_app (goodIn_of _ (by decide +kernel)) ggX7_wouldClose_X7_isOpen
set_option maxRecDepth 20000 in
theorem ggX7_wouldClose_X7_looksAtHomes : GoodIn wsX7_wouldClose wsX7_looksAtHomes := goodIn_r _ [21, 1, 22, 23, 24, 25, 5, 26, 27, 28, 29, 30, 31, 32, 10, 11, 12, 13, 14, 15, 16, 17, 33, 34, 35, 36, 37, 38, 39, 40, 41, 42, 43, 44, 45, 46, 51, 52, 53, 54, 55, 56, 57, 58, 59, 60, 61, 62, 63, 64, 65, 66, 67, 68, 69, 70, 71, 72, 73, 74, 75] (by decide +kernel) (by decide +kernel)
set_option maxRecDepth 20000 in
theorem gX7_wouldClose_X7_looksAtHomes : GoodIn wsX7_wouldClose (wsV RX7 107 RX7 yX7_looksAtHomes wsX7_looksAtHomes) := goodIn_app (goodIn_of _ (by decide +kernel)) ggX7_wouldClose_X7_looksAtHomes
set_option maxRecDepth 20000 in
theorem ggX7_wouldClose_X7_moved : GoodIn wsX7_wouldClose wsX7_moved := goodIn_r _ [50, 1, 22, 23, 24, 25, 5, 26, 27, 28, 29, 30, 31, 32, 10, 11, 12, 13, 14, 15, 16, 17, 33, 34, 35, 36, 37, 38, 39, 40, 41, 42, 43, 44, 45, 46, 51, 52, 53, 54, 55, 56, 57, 58, 59, 60, 61, 62, 63, 64, 65, 66, 67, 68, 69, 70, 71, 72, 73, 74, 75] (by decide +kernel) (by decide +kernel)
set_option maxRecDepth 20000 in
theorem gX7_wouldClose_X7_moved : GoodIn wsX7_wouldClose (wsV RX7 100 RX7 yX7_moved wsX7_moved) := goodIn_app (goodIn_of _ (by decide +kernel)) ggX7_wouldClose_X7_moved
theorem dX7_wouldClose_0 : decode cX7_wouldClose 0 = .ok (.aload_n 0, 1) := by decide +kernel
theorem dX7_wouldClose_1 : decode cX7_wouldClose 1 = .ok (.iload_n 1, 1) := by decide +kernel
theorem dX7_wouldClose_2 : decode cX7_wouldClose 2 = .ok (.invokevirtual 122, 3) := by decide +kernel
theorem dX7_wouldClose_5 : decode cX7_wouldClose 5 = .ok (.ifCond .ne 6, 3) := by decide +kernel
theorem dX7_wouldClose_8 : decode cX7_wouldClose 8 = .ok (.bipush (-11), 2) := by decide +kernel
theorem dX7_wouldClose_10 : decode cX7_wouldClose 10 = .ok (.ireturn, 1) := by decide +kernel
theorem dX7_wouldClose_11 : decode cX7_wouldClose 11 = .ok (.aload_n 0, 1) := by decide +kernel
theorem dX7_wouldClose_12 : decode cX7_wouldClose 12 = .ok (.iload_n 1, 1) := by decide +kernel
theorem dX7_wouldClose_13 : decode cX7_wouldClose 13 = .ok (.invokevirtual 77, 3) := by decide +kernel
theorem dX7_wouldClose_16 : decode cX7_wouldClose 16 = .ok (.ifCond .ne 6, 3) := by decide +kernel
theorem dX7_wouldClose_19 : decode cX7_wouldClose 19 = .ok (.bipush (-15), 2) := by decide +kernel
theorem dX7_wouldClose_21 : decode cX7_wouldClose 21 = .ok (.ireturn, 1) := by decide +kernel
theorem dX7_wouldClose_22 : decode cX7_wouldClose 22 = .ok (.aload_n 0, 1) := by decide +kernel
theorem dX7_wouldClose_23 : decode cX7_wouldClose 23 = .ok (.invokevirtual 107, 3) := by decide +kernel
theorem dX7_wouldClose_26 : decode cX7_wouldClose 26 = .ok (.aload_n 0, 1) := by decide +kernel
theorem dX7_wouldClose_27 : decode cX7_wouldClose 27 = .ok (.getfield 9, 3) := by decide +kernel
theorem dX7_wouldClose_30 : decode cX7_wouldClose 30 = .ok (.iconst 4, 1) := by decide +kernel
theorem dX7_wouldClose_31 : decode cX7_wouldClose 31 = .ok (.iconst 2, 1) := by decide +kernel
theorem dX7_wouldClose_32 : decode cX7_wouldClose 32 = .ok (.iload_n 1, 1) := by decide +kernel
theorem dX7_wouldClose_33 : decode cX7_wouldClose 33 = .ok (.imul, 1) := by decide +kernel
theorem dX7_wouldClose_34 : decode cX7_wouldClose 34 = .ok (.iadd, 1) := by decide +kernel
theorem dX7_wouldClose_35 : decode cX7_wouldClose 35 = .ok (.iconst 1, 1) := by decide +kernel
theorem dX7_wouldClose_36 : decode cX7_wouldClose 36 = .ok (.iadd, 1) := by decide +kernel
theorem dX7_wouldClose_37 : decode cX7_wouldClose 37 = .ok (.iconst 0, 1) := by decide +kernel
theorem dX7_wouldClose_38 : decode cX7_wouldClose 38 = .ok (.iastore, 1) := by decide +kernel
theorem dX7_wouldClose_39 : decode cX7_wouldClose 39 = .ok (.aload_n 0, 1) := by decide +kernel
theorem dX7_wouldClose_40 : decode cX7_wouldClose 40 = .ok (.invokevirtual 100, 3) := by decide +kernel
theorem dX7_wouldClose_43 : decode cX7_wouldClose 43 = .ok (.istore_n 2, 1) := by decide +kernel
theorem dX7_wouldClose_44 : decode cX7_wouldClose 44 = .ok (.aload_n 0, 1) := by decide +kernel
theorem dX7_wouldClose_45 : decode cX7_wouldClose 45 = .ok (.getfield 9, 3) := by decide +kernel
theorem dX7_wouldClose_48 : decode cX7_wouldClose 48 = .ok (.iconst 4, 1) := by decide +kernel
theorem dX7_wouldClose_49 : decode cX7_wouldClose 49 = .ok (.iconst 2, 1) := by decide +kernel
theorem dX7_wouldClose_50 : decode cX7_wouldClose 50 = .ok (.iload_n 1, 1) := by decide +kernel
theorem dX7_wouldClose_51 : decode cX7_wouldClose 51 = .ok (.imul, 1) := by decide +kernel
theorem dX7_wouldClose_52 : decode cX7_wouldClose 52 = .ok (.iadd, 1) := by decide +kernel
theorem dX7_wouldClose_53 : decode cX7_wouldClose 53 = .ok (.iconst 1, 1) := by decide +kernel
theorem dX7_wouldClose_54 : decode cX7_wouldClose 54 = .ok (.iadd, 1) := by decide +kernel
theorem dX7_wouldClose_55 : decode cX7_wouldClose 55 = .ok (.iconst 1, 1) := by decide +kernel
theorem dX7_wouldClose_56 : decode cX7_wouldClose 56 = .ok (.iastore, 1) := by decide +kernel
theorem dX7_wouldClose_57 : decode cX7_wouldClose 57 = .ok (.iload_n 2, 1) := by decide +kernel
theorem dX7_wouldClose_58 : decode cX7_wouldClose 58 = .ok (.ireturn, 1) := by decide +kernel
set_option maxRecDepth 20000 in
theorem ggX7_beyond_X7_ofHome : GoodIn wsX7_beyond wsX7_ofHome := goodIn_r _ [5, 6, 7, 8, 9, 4, 10, 11, 12, 13, 14, 15, 16, 17, 18, 31, 32, 33, 34, 35, 36, 37, 38, 39, 40, 41, 42, 43, 44, 45, 46, 47, 48, 49, 50, 51, 52, 53, 54, 55] (by decide +kernel) (by decide +kernel)
set_option maxRecDepth 20000 in
theorem gX7_beyond_X7_ofHome : GoodIn wsX7_beyond (wsV RX7 156 RX7 yX7_ofHome wsX7_ofHome) := goodIn_app (goodIn_of _ (by decide +kernel)) ggX7_beyond_X7_ofHome
set_option maxRecDepth 20000 in
theorem ggX7_beyond_X7_room : GoodIn wsX7_beyond wsX7_room := goodIn_r _ [22, 6, 23, 24, 25, 4, 26, 27, 28, 29, 30, 31, 32, 33, 34, 35, 36, 37, 38, 39, 40, 41, 42, 43, 44, 45, 46, 47, 48, 49, 50, 51, 52, 53, 54, 55] (by decide +kernel) (by decide +kernel)
set_option maxRecDepth 20000 in
theorem gX7_beyond_X7_room : GoodIn wsX7_beyond (wsV RX7 149 RX7 yX7_room wsX7_room) := goodIn_app (goodIn_of _ (by decide +kernel)) ggX7_beyond_X7_room
theorem dX7_beyond_0 : decode cX7_beyond 0 = .ok (.aload_n 0, 1) := by decide +kernel
theorem dX7_beyond_1 : decode cX7_beyond 1 = .ok (.iload_n 1, 1) := by decide +kernel
theorem dX7_beyond_2 : decode cX7_beyond 2 = .ok (.iconst 1, 1) := by decide +kernel
theorem dX7_beyond_3 : decode cX7_beyond 3 = .ok (.invokevirtual 156, 3) := by decide +kernel
theorem dX7_beyond_6 : decode cX7_beyond 6 = .ok (.aload_n 0, 1) := by decide +kernel
theorem dX7_beyond_7 : decode cX7_beyond 7 = .ok (.iload_n 1, 1) := by decide +kernel
theorem dX7_beyond_8 : decode cX7_beyond 8 = .ok (.invokevirtual 149, 3) := by decide +kernel
theorem dX7_beyond_11 : decode cX7_beyond 11 = .ok (.isub, 1) := by decide +kernel
theorem dX7_beyond_12 : decode cX7_beyond 12 = .ok (.ireturn, 1) := by decide +kernel
set_option maxRecDepth 20000 in
theorem ggX7_isAhead_X7_beyond : GoodIn wsX7_isAhead wsX7_beyond := goodIn_r _ [5, 6, 7, 8, 4, 9, 10, 11, 12, 13, 14, 15, 16, 17, 18, 19, 20, 21, 22, 23, 24, 25, 26, 27, 28, 29, 30, 31, 32, 33, 34, 35, 36, 37, 38, 39, 40, 41, 42, 43, 44, 45, 46, 47, 48, 49, 50, 51, 52, 53, 54, 55, 56, 57, 58, 59] (by decide +kernel) (by decide +kernel)
set_option maxRecDepth 20000 in
theorem gX7_isAhead_X7_beyond : GoodIn wsX7_isAhead (wsV RX7 186 RX7 yX7_beyond wsX7_beyond) := goodIn_app (goodIn_of _ (by decide +kernel)) ggX7_isAhead_X7_beyond
set_option maxRecDepth 20000 in
theorem ggX7_isAhead_X7_p : GoodIn wsX7_isAhead wsX7_p := goodIn_r _ [34, 10, 35, 36, 37, 38, 39, 40, 41, 42, 43, 44, 45, 46, 47, 48, 49, 50, 51, 52, 53, 54, 55, 56, 57, 58, 59] (by decide +kernel) (by decide +kernel)
set_option maxRecDepth 20000 in
theorem gX7_isAhead_X7_p : GoodIn wsX7_isAhead (wsV RX7 73 RX7 yX7_p wsX7_p) := goodIn_app (goodIn_of _ (by decide +kernel)) ggX7_isAhead_X7_p
theorem dX7_isAhead_0 : decode cX7_isAhead 0 = .ok (.aload_n 0, 1) := by decide +kernel
theorem dX7_isAhead_1 : decode cX7_isAhead 1 = .ok (.iload_n 1, 1) := by decide +kernel
theorem dX7_isAhead_2 : decode cX7_isAhead 2 = .ok (.invokevirtual 186, 3) := by decide +kernel
theorem dX7_isAhead_5 : decode cX7_isAhead 5 = .ok (.aload_n 0, 1) := by decide +kernel
theorem dX7_isAhead_6 : decode cX7_isAhead 6 = .ok (.iload_n 2, 1) := by decide +kernel
theorem dX7_isAhead_7 : decode cX7_isAhead 7 = .ok (.invokevirtual 186, 3) := by decide +kernel
theorem dX7_isAhead_10 : decode cX7_isAhead 10 = .ok (.if_icmp .eq 22, 3) := by decide +kernel
theorem dX7_isAhead_13 : decode cX7_isAhead 13 = .ok (.aload_n 0, 1) := by decide +kernel
theorem dX7_isAhead_14 : decode cX7_isAhead 14 = .ok (.iload_n 1, 1) := by decide +kernel
theorem dX7_isAhead_15 : decode cX7_isAhead 15 = .ok (.invokevirtual 186, 3) := by decide +kernel
theorem dX7_isAhead_18 : decode cX7_isAhead 18 = .ok (.aload_n 0, 1) := by decide +kernel
theorem dX7_isAhead_19 : decode cX7_isAhead 19 = .ok (.iload_n 2, 1) := by decide +kernel
theorem dX7_isAhead_20 : decode cX7_isAhead 20 = .ok (.invokevirtual 186, 3) := by decide +kernel
theorem dX7_isAhead_23 : decode cX7_isAhead 23 = .ok (.if_icmp .le 7, 3) := by decide +kernel
theorem dX7_isAhead_26 : decode cX7_isAhead 26 = .ok (.iconst 1, 1) := by decide +kernel
theorem dX7_isAhead_27 : decode cX7_isAhead 27 = .ok (.goto 4, 3) := by decide +kernel
theorem dX7_isAhead_30 : decode cX7_isAhead 30 = .ok (.iconst 0, 1) := by decide +kernel
theorem dX7_isAhead_31 : decode cX7_isAhead 31 = .ok (.ireturn, 1) := by decide +kernel
theorem dX7_isAhead_32 : decode cX7_isAhead 32 = .ok (.aload_n 0, 1) := by decide +kernel
theorem dX7_isAhead_33 : decode cX7_isAhead 33 = .ok (.iload_n 1, 1) := by decide +kernel
theorem dX7_isAhead_34 : decode cX7_isAhead 34 = .ok (.iconst 0, 1) := by decide +kernel
theorem dX7_isAhead_35 : decode cX7_isAhead 35 = .ok (.invokevirtual 73, 3) := by decide +kernel
theorem dX7_isAhead_38 : decode cX7_isAhead 38 = .ok (.aload_n 0, 1) := by decide +kernel
theorem dX7_isAhead_39 : decode cX7_isAhead 39 = .ok (.iload_n 2, 1) := by decide +kernel
theorem dX7_isAhead_40 : decode cX7_isAhead 40 = .ok (.iconst 0, 1) := by decide +kernel
theorem dX7_isAhead_41 : decode cX7_isAhead 41 = .ok (.invokevirtual 73, 3) := by decide +kernel
theorem dX7_isAhead_44 : decode cX7_isAhead 44 = .ok (.if_icmp .lt 23, 3) := by decide +kernel
theorem dX7_isAhead_47 : decode cX7_isAhead 47 = .ok (.aload_n 0, 1) := by decide +kernel
theorem dX7_isAhead_48 : decode cX7_isAhead 48 = .ok (.iload_n 1, 1) := by decide +kernel
theorem dX7_isAhead_49 : decode cX7_isAhead 49 = .ok (.iconst 0, 1) := by decide +kernel
theorem dX7_isAhead_50 : decode cX7_isAhead 50 = .ok (.invokevirtual 73, 3) := by decide +kernel
theorem dX7_isAhead_53 : decode cX7_isAhead 53 = .ok (.aload_n 0, 1) := by decide +kernel
theorem dX7_isAhead_54 : decode cX7_isAhead 54 = .ok (.iload_n 2, 1) := by decide +kernel
theorem dX7_isAhead_55 : decode cX7_isAhead 55 = .ok (.iconst 0, 1) := by decide +kernel
theorem dX7_isAhead_56 : decode cX7_isAhead 56 = .ok (.invokevirtual 73, 3) := by decide +kernel
theorem dX7_isAhead_59 : decode cX7_isAhead 59 = .ok (.if_icmp .ne 12, 3) := by decide +kernel
theorem dX7_isAhead_62 : decode cX7_isAhead 62 = .ok (.iload_n 1, 1) := by decide +kernel
theorem dX7_isAhead_63 : decode cX7_isAhead 63 = .ok (.iload_n 2, 1) := by decide +kernel
theorem dX7_isAhead_64 : decode cX7_isAhead 64 = .ok (.if_icmp .ge 7, 3) := by decide +kernel
theorem dX7_isAhead_67 : decode cX7_isAhead 67 = .ok (.iconst 1, 1) := by decide +kernel
theorem dX7_isAhead_68 : decode cX7_isAhead 68 = .ok (.goto 4, 3) := by decide +kernel
theorem dX7_isAhead_71 : decode cX7_isAhead 71 = .ok (.iconst 0, 1) := by decide +kernel
theorem dX7_isAhead_72 : decode cX7_isAhead 72 = .ok (.ireturn, 1) := by decide +kernel
set_option maxRecDepth 20000 in
theorem ggX7_hottest_X7_laysRing : GoodIn wsX7_hottest wsX7_laysRing := goodIn_r _ [6, 7, 1, 8, 9, 10, 11, 5, 12, 13, 14, 15, 16, 17, 18, 19, 20, 21, 22, 23, 51, 52, 53, 54, 55, 56, 57, 58, 59, 60, 61, 62, 63, 64, 65, 66, 67, 68, 69, 70, 71, 72, 73, 74, 75] (by decide +kernel) (by decide +kernel)
set_option maxRecDepth 20000 in
theorem gX7_hottest_X7_laysRing : GoodIn wsX7_hottest (wsV RX7 94 RX7 yX7_laysRing wsX7_laysRing) := goodIn_app (goodIn_of _ (by decide +kernel)) ggX7_hottest_X7_laysRing
set_option maxRecDepth 20000 in
theorem ggX7_hottest_X7_isAhead : GoodIn wsX7_hottest wsX7_isAhead := goodIn_r _ [27, 28, 29, 30, 5, 31, 32, 33, 34, 35, 1, 36, 37, 38, 39, 8, 40, 41, 42, 43, 44, 45, 46, 47, 48, 49, 50, 13, 14, 15, 16, 17, 18, 19, 20, 51, 52, 53, 54, 55, 56, 57, 58, 59, 60, 61, 62, 63, 64, 65, 66, 67, 68, 69, 70, 71, 72, 73, 74, 75] (by decide +kernel) (by decide +kernel)
set_option maxRecDepth 20000 in
theorem gX7_hottest_X7_isAhead : GoodIn wsX7_hottest (wsV RX7 189 RX7 yX7_isAhead wsX7_isAhead) := goodIn_app (goodIn_of _ (by decide +kernel)) ggX7_hottest_X7_isAhead
theorem dX7_hottest_0 : decode cX7_hottest 0 = .ok (.aload_n 0, 1) := by decide +kernel
theorem dX7_hottest_1 : decode cX7_hottest 1 = .ok (.invokevirtual 94, 3) := by decide +kernel
theorem dX7_hottest_4 : decode cX7_hottest 4 = .ok (.iconst 0, 1) := by decide +kernel
theorem dX7_hottest_5 : decode cX7_hottest 5 = .ok (.istore_n 2, 1) := by decide +kernel
theorem dX7_hottest_6 : decode cX7_hottest 6 = .ok (.iload_n 2, 1) := by decide +kernel
theorem dX7_hottest_7 : decode cX7_hottest 7 = .ok (.aload_n 0, 1) := by decide +kernel
theorem dX7_hottest_8 : decode cX7_hottest 8 = .ok (.getfield 9, 3) := by decide +kernel
theorem dX7_hottest_11 : decode cX7_hottest 11 = .ok (.iconst 0, 1) := by decide +kernel
theorem dX7_hottest_12 : decode cX7_hottest 12 = .ok (.iaload, 1) := by decide +kernel
theorem dX7_hottest_13 : decode cX7_hottest 13 = .ok (.if_icmp .ge 56, 3) := by decide +kernel
theorem dX7_hottest_16 : decode cX7_hottest 16 = .ok (.iconst 0, 1) := by decide +kernel
theorem dX7_hottest_17 : decode cX7_hottest 17 = .ok (.istore_n 3, 1) := by decide +kernel
theorem dX7_hottest_18 : decode cX7_hottest 18 = .ok (.iconst 0, 1) := by decide +kernel
theorem dX7_hottest_19 : decode cX7_hottest 19 = .ok (.istore 4, 2) := by decide +kernel
theorem dX7_hottest_21 : decode cX7_hottest 21 = .ok (.iload 4, 2) := by decide +kernel
theorem dX7_hottest_23 : decode cX7_hottest 23 = .ok (.aload_n 0, 1) := by decide +kernel
theorem dX7_hottest_24 : decode cX7_hottest 24 = .ok (.getfield 9, 3) := by decide +kernel
theorem dX7_hottest_27 : decode cX7_hottest 27 = .ok (.iconst 0, 1) := by decide +kernel
theorem dX7_hottest_28 : decode cX7_hottest 28 = .ok (.iaload, 1) := by decide +kernel
theorem dX7_hottest_29 : decode cX7_hottest 29 = .ok (.if_icmp .ge 27, 3) := by decide +kernel
theorem dX7_hottest_32 : decode cX7_hottest 32 = .ok (.iload_n 3, 1) := by decide +kernel
theorem dX7_hottest_33 : decode cX7_hottest 33 = .ok (.aload_n 0, 1) := by decide +kernel
theorem dX7_hottest_34 : decode cX7_hottest 34 = .ok (.iload 4, 2) := by decide +kernel
theorem dX7_hottest_36 : decode cX7_hottest 36 = .ok (.iload_n 2, 1) := by decide +kernel
theorem dX7_hottest_37 : decode cX7_hottest 37 = .ok (.invokevirtual 189, 3) := by decide +kernel
theorem dX7_hottest_40 : decode cX7_hottest 40 = .ok (.ifCond .eq 7, 3) := by decide +kernel
theorem dX7_hottest_43 : decode cX7_hottest 43 = .ok (.iconst 1, 1) := by decide +kernel
theorem dX7_hottest_44 : decode cX7_hottest 44 = .ok (.goto 4, 3) := by decide +kernel
theorem dX7_hottest_47 : decode cX7_hottest 47 = .ok (.iconst 0, 1) := by decide +kernel
theorem dX7_hottest_48 : decode cX7_hottest 48 = .ok (.iadd, 1) := by decide +kernel
theorem dX7_hottest_49 : decode cX7_hottest 49 = .ok (.istore_n 3, 1) := by decide +kernel
theorem dX7_hottest_50 : decode cX7_hottest 50 = .ok (.iinc 4 1, 3) := by decide +kernel
theorem dX7_hottest_53 : decode cX7_hottest 53 = .ok (.goto (-32), 3) := by decide +kernel
theorem dX7_hottest_56 : decode cX7_hottest 56 = .ok (.iload_n 3, 1) := by decide +kernel
theorem dX7_hottest_57 : decode cX7_hottest 57 = .ok (.iload_n 1, 1) := by decide +kernel
theorem dX7_hottest_58 : decode cX7_hottest 58 = .ok (.if_icmp .ne 5, 3) := by decide +kernel
theorem dX7_hottest_61 : decode cX7_hottest 61 = .ok (.iload_n 2, 1) := by decide +kernel
theorem dX7_hottest_62 : decode cX7_hottest 62 = .ok (.ireturn, 1) := by decide +kernel
theorem dX7_hottest_63 : decode cX7_hottest 63 = .ok (.iinc 2 1, 3) := by decide +kernel
theorem dX7_hottest_66 : decode cX7_hottest 66 = .ok (.goto (-60), 3) := by decide +kernel
theorem dX7_hottest_69 : decode cX7_hottest 69 = .ok (.bipush (-11), 2) := by decide +kernel
theorem dX7_hottest_71 : decode cX7_hottest 71 = .ok (.ireturn, 1) := by decide +kernel
set_option maxRecDepth 20000 in
theorem ggX7_append_X7_in : GoodIn wsX7_append wsX7_in := goodIn_r _ [6] (by decide +kernel) (by decide +kernel)
set_option maxRecDepth 20000 in
theorem gX7_append_X7_in : GoodIn wsX7_append (va_wsS RX7 59 yX7_in wsX7_in) := goodIn_app (goodIn_of _ (by decide +kernel)) ggX7_append_X7_in
theorem dX7_append_0 : decode cX7_append 0 = .ok (.iload_n 1, 1) := by decide +kernel
theorem dX7_append_1 : decode cX7_append 1 = .ok (.bipush 32, 2) := by decide +kernel
theorem dX7_append_3 : decode cX7_append 3 = .ok (.bipush 126, 2) := by decide +kernel
theorem dX7_append_5 : decode cX7_append 5 = .ok (.invokestatic 59, 3) := by decide +kernel
theorem dX7_append_8 : decode cX7_append 8 = .ok (.ifCond .ne 6, 3) := by decide +kernel
theorem dX7_append_11 : decode cX7_append 11 = .ok (.bipush (-12), 2) := by decide +kernel
theorem dX7_append_13 : decode cX7_append 13 = .ok (.ireturn, 1) := by decide +kernel
theorem dX7_append_14 : decode cX7_append 14 = .ok (.aload_n 0, 1) := by decide +kernel
theorem dX7_append_15 : decode cX7_append 15 = .ok (.getfield 193, 3) := by decide +kernel
theorem dX7_append_18 : decode cX7_append 18 = .ok (.bipush 60, 2) := by decide +kernel
theorem dX7_append_20 : decode cX7_append 20 = .ok (.if_icmp .ne 6, 3) := by decide +kernel
theorem dX7_append_23 : decode cX7_append 23 = .ok (.bipush (-13), 2) := by decide +kernel
theorem dX7_append_25 : decode cX7_append 25 = .ok (.ireturn, 1) := by decide +kernel
theorem dX7_append_26 : decode cX7_append 26 = .ok (.aload_n 0, 1) := by decide +kernel
theorem dX7_append_27 : decode cX7_append 27 = .ok (.getfield 46, 3) := by decide +kernel
theorem dX7_append_30 : decode cX7_append 30 = .ok (.aload_n 0, 1) := by decide +kernel
theorem dX7_append_31 : decode cX7_append 31 = .ok (.getfield 193, 3) := by decide +kernel
theorem dX7_append_34 : decode cX7_append 34 = .ok (.iload_n 1, 1) := by decide +kernel
theorem dX7_append_35 : decode cX7_append 35 = .ok (.iastore, 1) := by decide +kernel
theorem dX7_append_36 : decode cX7_append 36 = .ok (.aload_n 0, 1) := by decide +kernel
theorem dX7_append_37 : decode cX7_append 37 = .ok (.dup, 1) := by decide +kernel
theorem dX7_append_38 : decode cX7_append 38 = .ok (.getfield 193, 3) := by decide +kernel
theorem dX7_append_41 : decode cX7_append 41 = .ok (.iconst 1, 1) := by decide +kernel
theorem dX7_append_42 : decode cX7_append 42 = .ok (.iadd, 1) := by decide +kernel
theorem dX7_append_43 : decode cX7_append 43 = .ok (.putfield 193, 3) := by decide +kernel
theorem dX7_append_46 : decode cX7_append 46 = .ok (.aload_n 0, 1) := by decide +kernel
theorem dX7_append_47 : decode cX7_append 47 = .ok (.getfield 193, 3) := by decide +kernel
theorem dX7_append_50 : decode cX7_append 50 = .ok (.ireturn, 1) := by decide +kernel
theorem dX7_sign_0 : decode cX7_sign 0 = .ok (.aload_n 0, 1) := by decide +kernel
theorem dX7_sign_1 : decode cX7_sign 1 = .ok (.getfield 196, 3) := by decide +kernel
theorem dX7_sign_4 : decode cX7_sign 4 = .ok (.aload_n 0, 1) := by decide +kernel
theorem dX7_sign_5 : decode cX7_sign 5 = .ok (.getfield 193, 3) := by decide +kernel
theorem dX7_sign_8 : decode cX7_sign 8 = .ok (.if_icmp .ge 15, 3) := by decide +kernel
theorem dX7_sign_11 : decode cX7_sign 11 = .ok (.aload_n 0, 1) := by decide +kernel
theorem dX7_sign_12 : decode cX7_sign 12 = .ok (.getfield 46, 3) := by decide +kernel
theorem dX7_sign_15 : decode cX7_sign 15 = .ok (.aload_n 0, 1) := by decide +kernel
theorem dX7_sign_16 : decode cX7_sign 16 = .ok (.getfield 196, 3) := by decide +kernel
theorem dX7_sign_19 : decode cX7_sign 19 = .ok (.iaload, 1) := by decide +kernel
theorem dX7_sign_20 : decode cX7_sign 20 = .ok (.goto 4, 3) := by decide +kernel
theorem dX7_sign_23 : decode cX7_sign 23 = .ok (.iconst (-1), 1) := by decide +kernel
theorem dX7_sign_24 : decode cX7_sign 24 = .ok (.ireturn, 1) := by decide +kernel
set_option maxRecDepth 20000 in
theorem ggX7_needs_X7_sign : GoodIn wsX7_needs wsX7_sign := goodIn_r _ [7, 2, 8, 9, 10, 11, 12, 13, 14, 15, 16, 17, 18, 19, 20, 21, 22, 23, 24, 25, 26, 27, 28, 29, 30, 31, 32, 33, 34] (by decide +kernel) (by decide +kernel)
set_option maxRecDepth 20000 in
theorem gX7_needs_X7_sign : GoodIn wsX7_needs (wsV RX7 202 RX7 yX7_sign wsX7_sign) := goodIn_app (goodIn_of _ (by decide +kernel)) ggX7_needs_X7_sign
theorem dX7_needs_0 : decode cX7_needs 0 = .ok (.aload_n 0, 1) := by decide +kernel
theorem dX7_needs_1 : decode cX7_needs 1 = .ok (.getfield 199, 3) := by decide +kernel
theorem dX7_needs_4 : decode cX7_needs 4 = .ok (.ifCond .lt 4, 3) := by decide +kernel
theorem dX7_needs_7 : decode cX7_needs 7 = .ok (.return_, 1) := by decide +kernel
theorem dX7_needs_8 : decode cX7_needs 8 = .ok (.aload_n 0, 1) := by decide +kernel
theorem dX7_needs_9 : decode cX7_needs 9 = .ok (.invokevirtual 202, 3) := by decide +kernel
theorem dX7_needs_12 : decode cX7_needs 12 = .ok (.iload_n 1, 1) := by decide +kernel
theorem dX7_needs_13 : decode cX7_needs 13 = .ok (.if_icmp .eq 12, 3) := by decide +kernel
theorem dX7_needs_16 : decode cX7_needs 16 = .ok (.aload_n 0, 1) := by decide +kernel
theorem dX7_needs_17 : decode cX7_needs 17 = .ok (.aload_n 0, 1) := by decide +kernel
theorem dX7_needs_18 : decode cX7_needs 18 = .ok (.getfield 196, 3) := by decide +kernel
theorem dX7_needs_21 : decode cX7_needs 21 = .ok (.putfield 199, 3) := by decide +kernel
theorem dX7_needs_24 : decode cX7_needs 24 = .ok (.return_, 1) := by decide +kernel
theorem dX7_needs_25 : decode cX7_needs 25 = .ok (.aload_n 0, 1) := by decide +kernel
theorem dX7_needs_26 : decode cX7_needs 26 = .ok (.dup, 1) := by decide +kernel
theorem dX7_needs_27 : decode cX7_needs 27 = .ok (.getfield 196, 3) := by decide +kernel
theorem dX7_needs_30 : decode cX7_needs 30 = .ok (.iconst 1, 1) := by decide +kernel
theorem dX7_needs_31 : decode cX7_needs 31 = .ok (.iadd, 1) := by decide +kernel
theorem dX7_needs_32 : decode cX7_needs 32 = .ok (.putfield 196, 3) := by decide +kernel
theorem dX7_needs_35 : decode cX7_needs 35 = .ok (.return_, 1) := by decide +kernel
set_option maxRecDepth 20000 in
theorem ggX7_signs_X7_needs : GoodIn wsX7_signs wsX7_needs := goodIn_r _ [5, 6, 7, 8, 9, 10, 4, 11, 12, 13, 14, 15, 16, 17, 18, 19, 20, 21, 22, 23, 24, 25, 26, 27, 28, 29, 30, 31, 32, 33, 34, 35, 36, 37, 38] (by decide +kernel) (by decide +kernel)
set_option maxRecDepth 20000 in
theorem gX7_signs_X7_needs : GoodIn wsX7_signs (wsV RX7 205 RX7 yX7_needs wsX7_needs) := goodIn_app (goodIn_of _ (by decide +kernel)) ggX7_signs_X7_needs
theorem dX7_signs_0 : decode cX7_signs 0 = .ok (.aload_n 0, 1) := by decide +kernel
theorem dX7_signs_1 : decode cX7_signs 1 = .ok (.iload_n 1, 1) := by decide +kernel
theorem dX7_signs_2 : decode cX7_signs 2 = .ok (.invokevirtual 205, 3) := by decide +kernel
theorem dX7_signs_5 : decode cX7_signs 5 = .ok (.aload_n 0, 1) := by decide +kernel
theorem dX7_signs_6 : decode cX7_signs 6 = .ok (.iload_n 2, 1) := by decide +kernel
theorem dX7_signs_7 : decode cX7_signs 7 = .ok (.invokevirtual 205, 3) := by decide +kernel
theorem dX7_signs_10 : decode cX7_signs 10 = .ok (.iload_n 3, 1) := by decide +kernel
theorem dX7_signs_11 : decode cX7_signs 11 = .ok (.ifCond .eq 8, 3) := by decide +kernel
theorem dX7_signs_14 : decode cX7_signs 14 = .ok (.aload_n 0, 1) := by decide +kernel
theorem dX7_signs_15 : decode cX7_signs 15 = .ok (.iload_n 3, 1) := by decide +kernel
theorem dX7_signs_16 : decode cX7_signs 16 = .ok (.invokevirtual 205, 3) := by decide +kernel
theorem dX7_signs_19 : decode cX7_signs 19 = .ok (.return_, 1) := by decide +kernel
set_option maxRecDepth 20000 in
theorem ggX7_number_X7_needs : GoodIn wsX7_number wsX7_needs := goodIn_r _ [7, 1, 2, 8, 9, 10, 6, 11, 12, 13, 17, 18, 19, 20, 21, 22, 23, 24, 25, 26, 27, 28, 29, 30, 31, 32, 33, 34, 35, 36, 37, 38, 39, 40, 41] (by decide +kernel) (by decide +kernel)
set_option maxRecDepth 20000 in
theorem gX7_number_X7_needs : GoodIn wsX7_number (wsV RX7 205 RX7 yX7_needs wsX7_needs) := goodIn_app (goodIn_of _ (by decide +kernel)) ggX7_number_X7_needs
set_option maxRecDepth 20000 in
theorem ggX7_number_X7_sign : GoodIn wsX7_number wsX7_sign := goodIn_r _ [11, 2, 12, 13, 17, 18, 19, 20, 21, 22, 23, 24, 25, 26, 27, 28, 29, 30, 31, 32, 33, 34, 35, 36, 37, 38, 39, 40, 41] (by decide +kernel) (by decide +kernel)
set_option maxRecDepth 20000 in
theorem gX7_number_X7_sign : GoodIn wsX7_number (wsV RX7 202 RX7 yX7_sign wsX7_sign) := goodIn_app (goodIn_of _ (by decide +kernel)) ggX7_number_X7_sign
set_option maxRecDepth 20000 in
theorem ggX7_number_X7_in : GoodIn wsX7_number wsX7_in := goodIn_r _ [16] (by decide +kernel) (by decide +kernel)
set_option maxRecDepth 20000 in
theorem gX7_number_X7_in : GoodIn wsX7_number (va_wsS RX7 59 yX7_in wsX7_in) := goodIn_app (goodIn_of _ (by decide +kernel)) ggX7_number_X7_in
theorem dX7_number_0 : decode cX7_number 0 = .ok (.aload_n 0, 1) := by decide +kernel
theorem dX7_number_1 : decode cX7_number 1 = .ok (.bipush 32, 2) := by decide +kernel
theorem dX7_number_3 : decode cX7_number 3 = .ok (.invokevirtual 205, 3) := by decide +kernel
theorem dX7_number_6 : decode cX7_number 6 = .ok (.aload_n 0, 1) := by decide +kernel
theorem dX7_number_7 : decode cX7_number 7 = .ok (.getfield 199, 3) := by decide +kernel
theorem dX7_number_10 : decode cX7_number 10 = .ok (.ifCond .lt 5, 3) := by decide +kernel
theorem dX7_number_13 : decode cX7_number 13 = .ok (.iconst 0, 1) := by decide +kernel
theorem dX7_number_14 : decode cX7_number 14 = .ok (.ireturn, 1) := by decide +kernel
theorem dX7_number_15 : decode cX7_number 15 = .ok (.aload_n 0, 1) := by decide +kernel
theorem dX7_number_16 : decode cX7_number 16 = .ok (.invokevirtual 202, 3) := by decide +kernel
theorem dX7_number_19 : decode cX7_number 19 = .ok (.bipush 48, 2) := by decide +kernel
theorem dX7_number_21 : decode cX7_number 21 = .ok (.bipush 57, 2) := by decide +kernel
theorem dX7_number_23 : decode cX7_number 23 = .ok (.invokestatic 59, 3) := by decide +kernel
theorem dX7_number_26 : decode cX7_number 26 = .ok (.ifCond .ne 13, 3) := by decide +kernel
theorem dX7_number_29 : decode cX7_number 29 = .ok (.aload_n 0, 1) := by decide +kernel
theorem dX7_number_30 : decode cX7_number 30 = .ok (.aload_n 0, 1) := by decide +kernel
theorem dX7_number_31 : decode cX7_number 31 = .ok (.getfield 196, 3) := by decide +kernel
theorem dX7_number_34 : decode cX7_number 34 = .ok (.putfield 199, 3) := by decide +kernel
theorem dX7_number_37 : decode cX7_number 37 = .ok (.iconst 0, 1) := by decide +kernel
theorem dX7_number_38 : decode cX7_number 38 = .ok (.ireturn, 1) := by decide +kernel
theorem dX7_number_39 : decode cX7_number 39 = .ok (.iconst 0, 1) := by decide +kernel
theorem dX7_number_40 : decode cX7_number 40 = .ok (.istore_n 2, 1) := by decide +kernel
theorem dX7_number_41 : decode cX7_number 41 = .ok (.iconst 0, 1) := by decide +kernel
theorem dX7_number_42 : decode cX7_number 42 = .ok (.istore_n 3, 1) := by decide +kernel
theorem dX7_number_43 : decode cX7_number 43 = .ok (.iload_n 3, 1) := by decide +kernel
theorem dX7_number_44 : decode cX7_number 44 = .ok (.iload_n 1, 1) := by decide +kernel
theorem dX7_number_45 : decode cX7_number 45 = .ok (.if_icmp .ge 46, 3) := by decide +kernel
theorem dX7_number_48 : decode cX7_number 48 = .ok (.aload_n 0, 1) := by decide +kernel
theorem dX7_number_49 : decode cX7_number 49 = .ok (.invokevirtual 202, 3) := by decide +kernel
theorem dX7_number_52 : decode cX7_number 52 = .ok (.bipush 48, 2) := by decide +kernel
theorem dX7_number_54 : decode cX7_number 54 = .ok (.bipush 57, 2) := by decide +kernel
theorem dX7_number_56 : decode cX7_number 56 = .ok (.invokestatic 59, 3) := by decide +kernel
theorem dX7_number_59 : decode cX7_number 59 = .ok (.ifCond .eq 32, 3) := by decide +kernel
theorem dX7_number_62 : decode cX7_number 62 = .ok (.bipush 10, 2) := by decide +kernel
theorem dX7_number_64 : decode cX7_number 64 = .ok (.iload_n 2, 1) := by decide +kernel
theorem dX7_number_65 : decode cX7_number 65 = .ok (.imul, 1) := by decide +kernel
theorem dX7_number_66 : decode cX7_number 66 = .ok (.aload_n 0, 1) := by decide +kernel
theorem dX7_number_67 : decode cX7_number 67 = .ok (.invokevirtual 202, 3) := by decide +kernel
theorem dX7_number_70 : decode cX7_number 70 = .ok (.iadd, 1) := by decide +kernel
theorem dX7_number_71 : decode cX7_number 71 = .ok (.bipush 48, 2) := by decide +kernel
theorem dX7_number_73 : decode cX7_number 73 = .ok (.isub, 1) := by decide +kernel
theorem dX7_number_74 : decode cX7_number 74 = .ok (.istore_n 2, 1) := by decide +kernel
theorem dX7_number_75 : decode cX7_number 75 = .ok (.aload_n 0, 1) := by decide +kernel
theorem dX7_number_76 : decode cX7_number 76 = .ok (.dup, 1) := by decide +kernel
theorem dX7_number_77 : decode cX7_number 77 = .ok (.getfield 196, 3) := by decide +kernel
theorem dX7_number_80 : decode cX7_number 80 = .ok (.iconst 1, 1) := by decide +kernel
theorem dX7_number_81 : decode cX7_number 81 = .ok (.iadd, 1) := by decide +kernel
theorem dX7_number_82 : decode cX7_number 82 = .ok (.putfield 196, 3) := by decide +kernel
theorem dX7_number_85 : decode cX7_number 85 = .ok (.iinc 3 1, 3) := by decide +kernel
theorem dX7_number_88 : decode cX7_number 88 = .ok (.goto (-45), 3) := by decide +kernel
theorem dX7_number_91 : decode cX7_number 91 = .ok (.iload_n 2, 1) := by decide +kernel
theorem dX7_number_92 : decode cX7_number 92 = .ok (.ireturn, 1) := by decide +kernel
set_option maxRecDepth 20000 in
theorem ggX7_word_X7_signs : GoodIn wsX7_word wsX7_signs := goodIn_r _ [5, 6, 7, 8, 4, 9, 10, 11, 12, 13, 14, 15, 16, 17, 18, 19, 20, 21, 22, 23, 24, 25, 26, 27, 28, 29, 30, 31, 32, 33, 34, 35, 36, 37, 38, 39, 40, 41, 42] (by decide +kernel) (by decide +kernel)
set_option maxRecDepth 20000 in
theorem gX7_word_X7_signs : GoodIn wsX7_word (wsV RX7 208 RX7 yX7_signs wsX7_signs) := goodIn_app (goodIn_of _ (by decide +kernel)) ggX7_word_X7_signs
set_option maxRecDepth 20000 in
theorem ggX7_word_X7_needs : GoodIn wsX7_word wsX7_needs := goodIn_r _ [9, 10, 11, 12, 13, 14, 4, 15, 16, 17, 18, 19, 20, 21, 22, 23, 24, 25, 26, 27, 28, 29, 30, 31, 32, 33, 34, 35, 36, 37, 38, 39, 40, 41, 42] (by decide +kernel) (by decide +kernel)
set_option maxRecDepth 20000 in
theorem gX7_word_X7_needs : GoodIn wsX7_word (wsV RX7 205 RX7 yX7_needs wsX7_needs) := goodIn_app (goodIn_of _ (by decide +kernel)) ggX7_word_X7_needs
set_option maxRecDepth 20000 in
theorem ggX7_word_X7_sign : GoodIn wsX7_word wsX7_sign := goodIn_r _ [15, 11, 16, 17, 18, 19, 20, 21, 22, 23, 24, 25, 26, 27, 28, 29, 30, 31, 32, 33, 34, 35, 36, 37, 38, 39, 40, 41, 42] (by decide +kernel) (by decide +kernel)
set_option maxRecDepth 20000 in
theorem gX7_word_X7_sign : GoodIn wsX7_word (wsV RX7 202 RX7 yX7_sign wsX7_sign) := goodIn_app (goodIn_of _ (by decide +kernel)) ggX7_word_X7_sign
theorem dX7_word_0 : decode cX7_word 0 = .ok (.iload_n 1, 1) := by decide +kernel
theorem dX7_word_1 : decode cX7_word 1 = .ok (.lookupswitch 143 #[(99, 71), (103, 119), (108, 131), (111, 89), (112, 59), (119, 101)], 59) := by decide +kernel
theorem dX7_word_60 : decode cX7_word 60 = .ok (.aload_n 0, 1) := by decide +kernel
theorem dX7_word_61 : decode cX7_word 61 = .ok (.bipush 105, 2) := by decide +kernel
theorem dX7_word_63 : decode cX7_word 63 = .ok (.bipush 101, 2) := by decide +kernel
theorem dX7_word_65 : decode cX7_word 65 = .ok (.bipush 114, 2) := by decide +kernel
theorem dX7_word_67 : decode cX7_word 67 = .ok (.invokevirtual 208, 3) := by decide +kernel
theorem dX7_word_70 : decode cX7_word 70 = .ok (.iload_n 1, 1) := by decide +kernel
theorem dX7_word_71 : decode cX7_word 71 = .ok (.ireturn, 1) := by decide +kernel
theorem dX7_word_72 : decode cX7_word 72 = .ok (.aload_n 0, 1) := by decide +kernel
theorem dX7_word_73 : decode cX7_word 73 = .ok (.bipush 108, 2) := by decide +kernel
theorem dX7_word_75 : decode cX7_word 75 = .ok (.bipush 111, 2) := by decide +kernel
theorem dX7_word_77 : decode cX7_word 77 = .ok (.bipush 115, 2) := by decide +kernel
theorem dX7_word_79 : decode cX7_word 79 = .ok (.invokevirtual 208, 3) := by decide +kernel
theorem dX7_word_82 : decode cX7_word 82 = .ok (.aload_n 0, 1) := by decide +kernel
theorem dX7_word_83 : decode cX7_word 83 = .ok (.bipush 101, 2) := by decide +kernel
theorem dX7_word_85 : decode cX7_word 85 = .ok (.invokevirtual 205, 3) := by decide +kernel
theorem dX7_word_88 : decode cX7_word 88 = .ok (.iload_n 1, 1) := by decide +kernel
theorem dX7_word_89 : decode cX7_word 89 = .ok (.ireturn, 1) := by decide +kernel
theorem dX7_word_90 : decode cX7_word 90 = .ok (.aload_n 0, 1) := by decide +kernel
theorem dX7_word_91 : decode cX7_word 91 = .ok (.bipush 112, 2) := by decide +kernel
theorem dX7_word_93 : decode cX7_word 93 = .ok (.bipush 101, 2) := by decide +kernel
theorem dX7_word_95 : decode cX7_word 95 = .ok (.bipush 110, 2) := by decide +kernel
theorem dX7_word_97 : decode cX7_word 97 = .ok (.invokevirtual 208, 3) := by decide +kernel
theorem dX7_word_100 : decode cX7_word 100 = .ok (.iload_n 1, 1) := by decide +kernel
theorem dX7_word_101 : decode cX7_word 101 = .ok (.ireturn, 1) := by decide +kernel
theorem dX7_word_102 : decode cX7_word 102 = .ok (.aload_n 0, 1) := by decide +kernel
theorem dX7_word_103 : decode cX7_word 103 = .ok (.bipush 101, 2) := by decide +kernel
theorem dX7_word_105 : decode cX7_word 105 = .ok (.bipush 105, 2) := by decide +kernel
theorem dX7_word_107 : decode cX7_word 107 = .ok (.bipush 103, 2) := by decide +kernel
theorem dX7_word_109 : decode cX7_word 109 = .ok (.invokevirtual 208, 3) := by decide +kernel
theorem dX7_word_112 : decode cX7_word 112 = .ok (.aload_n 0, 1) := by decide +kernel
theorem dX7_word_113 : decode cX7_word 113 = .ok (.bipush 104, 2) := by decide +kernel
theorem dX7_word_115 : decode cX7_word 115 = .ok (.invokevirtual 205, 3) := by decide +kernel
theorem dX7_word_118 : decode cX7_word 118 = .ok (.iload_n 1, 1) := by decide +kernel
theorem dX7_word_119 : decode cX7_word 119 = .ok (.ireturn, 1) := by decide +kernel
theorem dX7_word_120 : decode cX7_word 120 = .ok (.aload_n 0, 1) := by decide +kernel
theorem dX7_word_121 : decode cX7_word 121 = .ok (.bipush 111, 2) := by decide +kernel
theorem dX7_word_123 : decode cX7_word 123 = .ok (.bipush 110, 2) := by decide +kernel
theorem dX7_word_125 : decode cX7_word 125 = .ok (.bipush 101, 2) := by decide +kernel
theorem dX7_word_127 : decode cX7_word 127 = .ok (.invokevirtual 208, 3) := by decide +kernel
theorem dX7_word_130 : decode cX7_word 130 = .ok (.iload_n 1, 1) := by decide +kernel
theorem dX7_word_131 : decode cX7_word 131 = .ok (.ireturn, 1) := by decide +kernel
theorem dX7_word_132 : decode cX7_word 132 = .ok (.aload_n 0, 1) := by decide +kernel
theorem dX7_word_133 : decode cX7_word 133 = .ok (.bipush 111, 2) := by decide +kernel
theorem dX7_word_135 : decode cX7_word 135 = .ok (.bipush 97, 2) := by decide +kernel
theorem dX7_word_137 : decode cX7_word 137 = .ok (.bipush 100, 2) := by decide +kernel
theorem dX7_word_139 : decode cX7_word 139 = .ok (.invokevirtual 208, 3) := by decide +kernel
theorem dX7_word_142 : decode cX7_word 142 = .ok (.iload_n 1, 1) := by decide +kernel
theorem dX7_word_143 : decode cX7_word 143 = .ok (.ireturn, 1) := by decide +kernel
theorem dX7_word_144 : decode cX7_word 144 = .ok (.aload_n 0, 1) := by decide +kernel
theorem dX7_word_145 : decode cX7_word 145 = .ok (.invokevirtual 202, 3) := by decide +kernel
theorem dX7_word_148 : decode cX7_word 148 = .ok (.bipush 101, 2) := by decide +kernel
theorem dX7_word_150 : decode cX7_word 150 = .ok (.if_icmp .ne 22, 3) := by decide +kernel
theorem dX7_word_153 : decode cX7_word 153 = .ok (.aload_n 0, 1) := by decide +kernel
theorem dX7_word_154 : decode cX7_word 154 = .ok (.bipush 101, 2) := by decide +kernel
theorem dX7_word_156 : decode cX7_word 156 = .ok (.bipush 114, 2) := by decide +kernel
theorem dX7_word_158 : decode cX7_word 158 = .ok (.bipush 116, 2) := by decide +kernel
theorem dX7_word_160 : decode cX7_word 160 = .ok (.invokevirtual 208, 3) := by decide +kernel
theorem dX7_word_163 : decode cX7_word 163 = .ok (.aload_n 0, 1) := by decide +kernel
theorem dX7_word_164 : decode cX7_word 164 = .ok (.bipush 104, 2) := by decide +kernel
theorem dX7_word_166 : decode cX7_word 166 = .ok (.invokevirtual 205, 3) := by decide +kernel
theorem dX7_word_169 : decode cX7_word 169 = .ok (.bipush 116, 2) := by decide +kernel
theorem dX7_word_171 : decode cX7_word 171 = .ok (.ireturn, 1) := by decide +kernel
theorem dX7_word_172 : decode cX7_word 172 = .ok (.aload_n 0, 1) := by decide +kernel
theorem dX7_word_173 : decode cX7_word 173 = .ok (.bipush 97, 2) := by decide +kernel
theorem dX7_word_175 : decode cX7_word 175 = .ok (.bipush 114, 2) := by decide +kernel
theorem dX7_word_177 : decode cX7_word 177 = .ok (.bipush 103, 2) := by decide +kernel
theorem dX7_word_179 : decode cX7_word 179 = .ok (.invokevirtual 208, 3) := by decide +kernel
theorem dX7_word_182 : decode cX7_word 182 = .ok (.aload_n 0, 1) := by decide +kernel
theorem dX7_word_183 : decode cX7_word 183 = .ok (.bipush 101, 2) := by decide +kernel
theorem dX7_word_185 : decode cX7_word 185 = .ok (.invokevirtual 205, 3) := by decide +kernel
theorem dX7_word_188 : decode cX7_word 188 = .ok (.bipush 98, 2) := by decide +kernel
theorem dX7_word_190 : decode cX7_word 190 = .ok (.ireturn, 1) := by decide +kernel
theorem dX7_digitsOf_0 : decode cX7_digitsOf 0 = .ok (.iload_n 1, 1) := by decide +kernel
theorem dX7_digitsOf_1 : decode cX7_digitsOf 1 = .ok (.ifCond .eq 31, 3) := by decide +kernel
theorem dX7_digitsOf_4 : decode cX7_digitsOf 4 = .ok (.iload_n 0, 1) := by decide +kernel
theorem dX7_digitsOf_5 : decode cX7_digitsOf 5 = .ok (.bipush 119, 2) := by decide +kernel
theorem dX7_digitsOf_7 : decode cX7_digitsOf 7 = .ok (.if_icmp .ne 7, 3) := by decide +kernel
theorem dX7_digitsOf_10 : decode cX7_digitsOf 10 = .ok (.iconst 1, 1) := by decide +kernel
theorem dX7_digitsOf_11 : decode cX7_digitsOf 11 = .ok (.goto 20, 3) := by decide +kernel
theorem dX7_digitsOf_14 : decode cX7_digitsOf 14 = .ok (.iload_n 0, 1) := by decide +kernel
theorem dX7_digitsOf_15 : decode cX7_digitsOf 15 = .ok (.bipush 98, 2) := by decide +kernel
theorem dX7_digitsOf_17 : decode cX7_digitsOf 17 = .ok (.if_icmp .eq 9, 3) := by decide +kernel
theorem dX7_digitsOf_20 : decode cX7_digitsOf 20 = .ok (.iload_n 0, 1) := by decide +kernel
theorem dX7_digitsOf_21 : decode cX7_digitsOf 21 = .ok (.bipush 108, 2) := by decide +kernel
theorem dX7_digitsOf_23 : decode cX7_digitsOf 23 = .ok (.if_icmp .ne 7, 3) := by decide +kernel
theorem dX7_digitsOf_26 : decode cX7_digitsOf 26 = .ok (.iconst 2, 1) := by decide +kernel
theorem dX7_digitsOf_27 : decode cX7_digitsOf 27 = .ok (.goto 4, 3) := by decide +kernel
theorem dX7_digitsOf_30 : decode cX7_digitsOf 30 = .ok (.iconst 0, 1) := by decide +kernel
theorem dX7_digitsOf_31 : decode cX7_digitsOf 31 = .ok (.ireturn, 1) := by decide +kernel
theorem dX7_digitsOf_32 : decode cX7_digitsOf 32 = .ok (.iload_n 0, 1) := by decide +kernel
theorem dX7_digitsOf_33 : decode cX7_digitsOf 33 = .ok (.bipush 98, 2) := by decide +kernel
theorem dX7_digitsOf_35 : decode cX7_digitsOf 35 = .ok (.if_icmp .ne 7, 3) := by decide +kernel
theorem dX7_digitsOf_38 : decode cX7_digitsOf 38 = .ok (.iconst 4, 1) := by decide +kernel
theorem dX7_digitsOf_39 : decode cX7_digitsOf 39 = .ok (.goto 30, 3) := by decide +kernel
theorem dX7_digitsOf_42 : decode cX7_digitsOf 42 = .ok (.iload_n 0, 1) := by decide +kernel
theorem dX7_digitsOf_43 : decode cX7_digitsOf 43 = .ok (.bipush 116, 2) := by decide +kernel
theorem dX7_digitsOf_45 : decode cX7_digitsOf 45 = .ok (.if_icmp .ne 7, 3) := by decide +kernel
theorem dX7_digitsOf_48 : decode cX7_digitsOf 48 = .ok (.iconst 3, 1) := by decide +kernel
theorem dX7_digitsOf_49 : decode cX7_digitsOf 49 = .ok (.goto 20, 3) := by decide +kernel
theorem dX7_digitsOf_52 : decode cX7_digitsOf 52 = .ok (.iload_n 0, 1) := by decide +kernel
theorem dX7_digitsOf_53 : decode cX7_digitsOf 53 = .ok (.bipush 103, 2) := by decide +kernel
theorem dX7_digitsOf_55 : decode cX7_digitsOf 55 = .ok (.if_icmp .eq 9, 3) := by decide +kernel
theorem dX7_digitsOf_58 : decode cX7_digitsOf 58 = .ok (.iload_n 0, 1) := by decide +kernel
theorem dX7_digitsOf_59 : decode cX7_digitsOf 59 = .ok (.bipush 108, 2) := by decide +kernel
theorem dX7_digitsOf_61 : decode cX7_digitsOf 61 = .ok (.if_icmp .ne 7, 3) := by decide +kernel
theorem dX7_digitsOf_64 : decode cX7_digitsOf 64 = .ok (.iconst 2, 1) := by decide +kernel
theorem dX7_digitsOf_65 : decode cX7_digitsOf 65 = .ok (.goto 4, 3) := by decide +kernel
theorem dX7_digitsOf_68 : decode cX7_digitsOf 68 = .ok (.iconst 1, 1) := by decide +kernel
theorem dX7_digitsOf_69 : decode cX7_digitsOf 69 = .ok (.ireturn, 1) := by decide +kernel
set_option maxRecDepth 20000 in
theorem ggX7_command_X7_sign : GoodIn wsX7_command wsX7_sign := goodIn_r _ [9, 3, 10, 11, 34, 35, 36, 37, 38, 39, 40, 41, 42, 43, 44, 45, 46, 47, 48, 49, 50, 51, 52, 53, 54, 55, 56, 57, 58] (by decide +kernel) (by decide +kernel)
set_option maxRecDepth 20000 in
theorem gX7_command_X7_sign : GoodIn wsX7_command (wsV RX7 202 RX7 yX7_sign wsX7_sign) := goodIn_app (goodIn_of _ (by decide +kernel)) ggX7_command_X7_sign
set_option maxRecDepth 20000 in
theorem ggX7_command_X7_word : GoodIn wsX7_command wsX7_word := goodIn_r _ [15, 16, 17, 18, 8, 19, 20, 21, 22, 23, 4, 3, 5, 6, 7, 9, 10, 11, 34, 35, 36, 37, 38, 39, 40, 41, 42, 43, 44, 45, 46, 47, 48, 49, 50, 51, 52, 53, 54, 55, 56, 57, 58] (by decide +kernel) (by decide +kernel)
set_option maxRecDepth 20000 in
theorem gX7_command_X7_word : GoodIn wsX7_command (wsV RX7 215 RX7 yX7_word wsX7_word) := goodIn_app (goodIn_of _ (by decide +kernel)) ggX7_command_X7_word
set_option maxRecDepth 20000 in
theorem ggX7_command_X7_digitsOf : GoodIn wsX7_command wsX7_digitsOf := goodIn_r _ [26] (by decide +kernel) (by decide +kernel)
set_option maxRecDepth 20000 in
theorem gX7_command_X7_digitsOf : GoodIn wsX7_command (va_wsS RX7 218 yX7_digitsOf wsX7_digitsOf) := goodIn_app (goodIn_of _ (by decide +kernel)) ggX7_command_X7_digitsOf
set_option maxRecDepth 20000 in
theorem ggX7_command_X7_number : GoodIn wsX7_command wsX7_number := goodIn_r _ [30, 4, 3, 20, 21, 22, 8, 23, 5, 6, 7, 9, 10, 11, 31, 32, 33, 34, 35, 36, 37, 38, 39, 40, 41, 42, 43, 44, 45, 46, 47, 48, 49, 50, 51, 52, 53, 54, 55, 56, 57, 58] (by decide +kernel) (by decide +kernel)
set_option maxRecDepth 20000 in
theorem gX7_command_X7_number : GoodIn wsX7_command (wsV RX7 222 RX7 yX7_number wsX7_number) := goodIn_app (goodIn_of _ (by decide +kernel)) ggX7_command_X7_number
theorem dX7_command_0 : decode cX7_command 0 = .ok (.iconst 3, 1) := by decide +kernel
theorem dX7_command_1 : decode cX7_command 1 = .ok (.aload_n 0, 1) := by decide +kernel
theorem dX7_command_2 : decode cX7_command 2 = .ok (.getfield 212, 3) := by decide +kernel
theorem dX7_command_5 : decode cX7_command 5 = .ok (.imul, 1) := by decide +kernel
theorem dX7_command_6 : decode cX7_command 6 = .ok (.istore_n 1, 1) := by decide +kernel
theorem dX7_command_7 : decode cX7_command 7 = .ok (.aload_n 0, 1) := by decide +kernel
theorem dX7_command_8 : decode cX7_command 8 = .ok (.dup, 1) := by decide +kernel
theorem dX7_command_9 : decode cX7_command 9 = .ok (.getfield 212, 3) := by decide +kernel
theorem dX7_command_12 : decode cX7_command 12 = .ok (.iconst 1, 1) := by decide +kernel
theorem dX7_command_13 : decode cX7_command 13 = .ok (.iadd, 1) := by decide +kernel
theorem dX7_command_14 : decode cX7_command 14 = .ok (.putfield 212, 3) := by decide +kernel
theorem dX7_command_17 : decode cX7_command 17 = .ok (.aload_n 0, 1) := by decide +kernel
theorem dX7_command_18 : decode cX7_command 18 = .ok (.invokevirtual 202, 3) := by decide +kernel
theorem dX7_command_21 : decode cX7_command 21 = .ok (.istore_n 2, 1) := by decide +kernel
theorem dX7_command_22 : decode cX7_command 22 = .ok (.aload_n 0, 1) := by decide +kernel
theorem dX7_command_23 : decode cX7_command 23 = .ok (.getfield 49, 3) := by decide +kernel
theorem dX7_command_26 : decode cX7_command 26 = .ok (.iload_n 1, 1) := by decide +kernel
theorem dX7_command_27 : decode cX7_command 27 = .ok (.iload_n 2, 1) := by decide +kernel
theorem dX7_command_28 : decode cX7_command 28 = .ok (.iastore, 1) := by decide +kernel
theorem dX7_command_29 : decode cX7_command 29 = .ok (.iload_n 2, 1) := by decide +kernel
theorem dX7_command_30 : decode cX7_command 30 = .ok (.bipush 112, 2) := by decide +kernel
theorem dX7_command_32 : decode cX7_command 32 = .ok (.if_icmp .eq 48, 3) := by decide +kernel
theorem dX7_command_35 : decode cX7_command 35 = .ok (.iload_n 2, 1) := by decide +kernel
theorem dX7_command_36 : decode cX7_command 36 = .ok (.bipush 99, 2) := by decide +kernel
theorem dX7_command_38 : decode cX7_command 38 = .ok (.if_icmp .eq 42, 3) := by decide +kernel
theorem dX7_command_41 : decode cX7_command 41 = .ok (.iload_n 2, 1) := by decide +kernel
theorem dX7_command_42 : decode cX7_command 42 = .ok (.bipush 111, 2) := by decide +kernel
theorem dX7_command_44 : decode cX7_command 44 = .ok (.if_icmp .eq 36, 3) := by decide +kernel
theorem dX7_command_47 : decode cX7_command 47 = .ok (.iload_n 2, 1) := by decide +kernel
theorem dX7_command_48 : decode cX7_command 48 = .ok (.bipush 119, 2) := by decide +kernel
theorem dX7_command_50 : decode cX7_command 50 = .ok (.if_icmp .eq 30, 3) := by decide +kernel
theorem dX7_command_53 : decode cX7_command 53 = .ok (.iload_n 2, 1) := by decide +kernel
theorem dX7_command_54 : decode cX7_command 54 = .ok (.bipush 103, 2) := by decide +kernel
theorem dX7_command_56 : decode cX7_command 56 = .ok (.if_icmp .eq 24, 3) := by decide +kernel
theorem dX7_command_59 : decode cX7_command 59 = .ok (.iload_n 2, 1) := by decide +kernel
theorem dX7_command_60 : decode cX7_command 60 = .ok (.bipush 108, 2) := by decide +kernel
theorem dX7_command_62 : decode cX7_command 62 = .ok (.if_icmp .eq 18, 3) := by decide +kernel
theorem dX7_command_65 : decode cX7_command 65 = .ok (.iload_n 2, 1) := by decide +kernel
theorem dX7_command_66 : decode cX7_command 66 = .ok (.bipush 98, 2) := by decide +kernel
theorem dX7_command_68 : decode cX7_command 68 = .ok (.if_icmp .eq 12, 3) := by decide +kernel
theorem dX7_command_71 : decode cX7_command 71 = .ok (.aload_n 0, 1) := by decide +kernel
theorem dX7_command_72 : decode cX7_command 72 = .ok (.aload_n 0, 1) := by decide +kernel
theorem dX7_command_73 : decode cX7_command 73 = .ok (.getfield 196, 3) := by decide +kernel
theorem dX7_command_76 : decode cX7_command 76 = .ok (.putfield 199, 3) := by decide +kernel
theorem dX7_command_79 : decode cX7_command 79 = .ok (.return_, 1) := by decide +kernel
theorem dX7_command_80 : decode cX7_command 80 = .ok (.aload_n 0, 1) := by decide +kernel
theorem dX7_command_81 : decode cX7_command 81 = .ok (.dup, 1) := by decide +kernel
theorem dX7_command_82 : decode cX7_command 82 = .ok (.getfield 196, 3) := by decide +kernel
theorem dX7_command_85 : decode cX7_command 85 = .ok (.iconst 1, 1) := by decide +kernel
theorem dX7_command_86 : decode cX7_command 86 = .ok (.iadd, 1) := by decide +kernel
theorem dX7_command_87 : decode cX7_command 87 = .ok (.putfield 196, 3) := by decide +kernel
theorem dX7_command_90 : decode cX7_command 90 = .ok (.aload_n 0, 1) := by decide +kernel
theorem dX7_command_91 : decode cX7_command 91 = .ok (.getfield 49, 3) := by decide +kernel
theorem dX7_command_94 : decode cX7_command 94 = .ok (.iload_n 1, 1) := by decide +kernel
theorem dX7_command_95 : decode cX7_command 95 = .ok (.aload_n 0, 1) := by decide +kernel
theorem dX7_command_96 : decode cX7_command 96 = .ok (.iload_n 2, 1) := by decide +kernel
theorem dX7_command_97 : decode cX7_command 97 = .ok (.invokevirtual 215, 3) := by decide +kernel
theorem dX7_command_100 : decode cX7_command 100 = .ok (.iastore, 1) := by decide +kernel
theorem dX7_command_101 : decode cX7_command 101 = .ok (.aload_n 0, 1) := by decide +kernel
theorem dX7_command_102 : decode cX7_command 102 = .ok (.getfield 49, 3) := by decide +kernel
theorem dX7_command_105 : decode cX7_command 105 = .ok (.iload_n 1, 1) := by decide +kernel
theorem dX7_command_106 : decode cX7_command 106 = .ok (.iconst 1, 1) := by decide +kernel
theorem dX7_command_107 : decode cX7_command 107 = .ok (.iadd, 1) := by decide +kernel
theorem dX7_command_108 : decode cX7_command 108 = .ok (.aload_n 0, 1) := by decide +kernel
theorem dX7_command_109 : decode cX7_command 109 = .ok (.aload_n 0, 1) := by decide +kernel
theorem dX7_command_110 : decode cX7_command 110 = .ok (.getfield 49, 3) := by decide +kernel
theorem dX7_command_113 : decode cX7_command 113 = .ok (.iload_n 1, 1) := by decide +kernel
theorem dX7_command_114 : decode cX7_command 114 = .ok (.iaload, 1) := by decide +kernel
theorem dX7_command_115 : decode cX7_command 115 = .ok (.iconst 0, 1) := by decide +kernel
theorem dX7_command_116 : decode cX7_command 116 = .ok (.invokestatic 218, 3) := by decide +kernel
theorem dX7_command_119 : decode cX7_command 119 = .ok (.invokevirtual 222, 3) := by decide +kernel
theorem dX7_command_122 : decode cX7_command 122 = .ok (.iastore, 1) := by decide +kernel
theorem dX7_command_123 : decode cX7_command 123 = .ok (.aload_n 0, 1) := by decide +kernel
theorem dX7_command_124 : decode cX7_command 124 = .ok (.getfield 49, 3) := by decide +kernel
theorem dX7_command_127 : decode cX7_command 127 = .ok (.iload_n 1, 1) := by decide +kernel
theorem dX7_command_128 : decode cX7_command 128 = .ok (.iconst 2, 1) := by decide +kernel
theorem dX7_command_129 : decode cX7_command 129 = .ok (.iadd, 1) := by decide +kernel
theorem dX7_command_130 : decode cX7_command 130 = .ok (.aload_n 0, 1) := by decide +kernel
theorem dX7_command_131 : decode cX7_command 131 = .ok (.getfield 49, 3) := by decide +kernel
theorem dX7_command_134 : decode cX7_command 134 = .ok (.iload_n 1, 1) := by decide +kernel
theorem dX7_command_135 : decode cX7_command 135 = .ok (.iaload, 1) := by decide +kernel
theorem dX7_command_136 : decode cX7_command 136 = .ok (.iconst 1, 1) := by decide +kernel
theorem dX7_command_137 : decode cX7_command 137 = .ok (.invokestatic 218, 3) := by decide +kernel
theorem dX7_command_140 : decode cX7_command 140 = .ok (.ifCond .ne 7, 3) := by decide +kernel
theorem dX7_command_143 : decode cX7_command 143 = .ok (.iconst 0, 1) := by decide +kernel
theorem dX7_command_144 : decode cX7_command 144 = .ok (.goto 17, 3) := by decide +kernel
theorem dX7_command_147 : decode cX7_command 147 = .ok (.aload_n 0, 1) := by decide +kernel
theorem dX7_command_148 : decode cX7_command 148 = .ok (.aload_n 0, 1) := by decide +kernel
theorem dX7_command_149 : decode cX7_command 149 = .ok (.getfield 49, 3) := by decide +kernel
theorem dX7_command_152 : decode cX7_command 152 = .ok (.iload_n 1, 1) := by decide +kernel
theorem dX7_command_153 : decode cX7_command 153 = .ok (.iaload, 1) := by decide +kernel
theorem dX7_command_154 : decode cX7_command 154 = .ok (.iconst 1, 1) := by decide +kernel
theorem dX7_command_155 : decode cX7_command 155 = .ok (.invokestatic 218, 3) := by decide +kernel
theorem dX7_command_158 : decode cX7_command 158 = .ok (.invokevirtual 222, 3) := by decide +kernel
theorem dX7_command_161 : decode cX7_command 161 = .ok (.iastore, 1) := by decide +kernel
theorem dX7_command_162 : decode cX7_command 162 = .ok (.return_, 1) := by decide +kernel
set_option maxRecDepth 20000 in
theorem ggX7_parse_X7_command : GoodIn wsX7_parse wsX7_command := goodIn_r _ [9, 3, 10, 1, 2, 11, 12, 13, 8, 14, 4, 15, 16, 17, 18, 19, 20, 21, 22, 23, 24, 25, 26, 27, 28, 29, 30, 31, 32, 33, 34, 35, 36, 37, 38, 39, 40, 41, 42, 43, 44, 45, 46, 47, 48, 49, 50, 51, 52, 53, 54, 55, 56, 57, 58, 59, 60, 61, 62] (by decide +kernel) (by decide +kernel)
set_option maxRecDepth 20000 in
theorem gX7_parse_X7_command : GoodIn wsX7_parse (wsV RX7 225 RX7 yX7_command wsX7_command) := goodIn_app (goodIn_of _ (by decide +kernel)) ggX7_parse_X7_command
set_option maxRecDepth 20000 in
theorem ggX7_parse_X7_sign : GoodIn wsX7_parse wsX7_sign := goodIn_r _ [14, 1, 4, 15, 38, 39, 40, 41, 42, 43, 44, 45, 46, 47, 48, 49, 50, 51, 52, 53, 54, 55, 56, 57, 58, 59, 60, 61, 62] (by decide +kernel) (by decide +kernel)
set_option maxRecDepth 20000 in
theorem gX7_parse_X7_sign : GoodIn wsX7_parse (wsV RX7 202 RX7 yX7_sign wsX7_sign) := goodIn_app (goodIn_of _ (by decide +kernel)) ggX7_parse_X7_sign
theorem dX7_parse_0 : decode cX7_parse 0 = .ok (.aload_n 0, 1) := by decide +kernel
theorem dX7_parse_1 : decode cX7_parse 1 = .ok (.iconst 0, 1) := by decide +kernel
theorem dX7_parse_2 : decode cX7_parse 2 = .ok (.putfield 196, 3) := by decide +kernel
theorem dX7_parse_5 : decode cX7_parse 5 = .ok (.aload_n 0, 1) := by decide +kernel
theorem dX7_parse_6 : decode cX7_parse 6 = .ok (.iconst (-1), 1) := by decide +kernel
theorem dX7_parse_7 : decode cX7_parse 7 = .ok (.putfield 199, 3) := by decide +kernel
theorem dX7_parse_10 : decode cX7_parse 10 = .ok (.aload_n 0, 1) := by decide +kernel
theorem dX7_parse_11 : decode cX7_parse 11 = .ok (.iconst 0, 1) := by decide +kernel
theorem dX7_parse_12 : decode cX7_parse 12 = .ok (.putfield 212, 3) := by decide +kernel
theorem dX7_parse_15 : decode cX7_parse 15 = .ok (.aload_n 0, 1) := by decide +kernel
theorem dX7_parse_16 : decode cX7_parse 16 = .ok (.invokevirtual 225, 3) := by decide +kernel
theorem dX7_parse_19 : decode cX7_parse 19 = .ok (.aload_n 0, 1) := by decide +kernel
theorem dX7_parse_20 : decode cX7_parse 20 = .ok (.getfield 199, 3) := by decide +kernel
theorem dX7_parse_23 : decode cX7_parse 23 = .ok (.ifCond .ge 29, 3) := by decide +kernel
theorem dX7_parse_26 : decode cX7_parse 26 = .ok (.aload_n 0, 1) := by decide +kernel
theorem dX7_parse_27 : decode cX7_parse 27 = .ok (.invokevirtual 202, 3) := by decide +kernel
theorem dX7_parse_30 : decode cX7_parse 30 = .ok (.bipush 59, 2) := by decide +kernel
theorem dX7_parse_32 : decode cX7_parse 32 = .ok (.if_icmp .ne 20, 3) := by decide +kernel
theorem dX7_parse_35 : decode cX7_parse 35 = .ok (.aload_n 0, 1) := by decide +kernel
theorem dX7_parse_36 : decode cX7_parse 36 = .ok (.dup, 1) := by decide +kernel
theorem dX7_parse_37 : decode cX7_parse 37 = .ok (.getfield 196, 3) := by decide +kernel
theorem dX7_parse_40 : decode cX7_parse 40 = .ok (.iconst 1, 1) := by decide +kernel
theorem dX7_parse_41 : decode cX7_parse 41 = .ok (.iadd, 1) := by decide +kernel
theorem dX7_parse_42 : decode cX7_parse 42 = .ok (.putfield 196, 3) := by decide +kernel
theorem dX7_parse_45 : decode cX7_parse 45 = .ok (.aload_n 0, 1) := by decide +kernel
theorem dX7_parse_46 : decode cX7_parse 46 = .ok (.invokevirtual 225, 3) := by decide +kernel
theorem dX7_parse_49 : decode cX7_parse 49 = .ok (.goto (-30), 3) := by decide +kernel
theorem dX7_parse_52 : decode cX7_parse 52 = .ok (.aload_n 0, 1) := by decide +kernel
theorem dX7_parse_53 : decode cX7_parse 53 = .ok (.getfield 199, 3) := by decide +kernel
theorem dX7_parse_56 : decode cX7_parse 56 = .ok (.ifCond .ge 22, 3) := by decide +kernel
theorem dX7_parse_59 : decode cX7_parse 59 = .ok (.aload_n 0, 1) := by decide +kernel
theorem dX7_parse_60 : decode cX7_parse 60 = .ok (.getfield 196, 3) := by decide +kernel
theorem dX7_parse_63 : decode cX7_parse 63 = .ok (.aload_n 0, 1) := by decide +kernel
theorem dX7_parse_64 : decode cX7_parse 64 = .ok (.getfield 193, 3) := by decide +kernel
theorem dX7_parse_67 : decode cX7_parse 67 = .ok (.if_icmp .ge 11, 3) := by decide +kernel
theorem dX7_parse_70 : decode cX7_parse 70 = .ok (.aload_n 0, 1) := by decide +kernel
theorem dX7_parse_71 : decode cX7_parse 71 = .ok (.aload_n 0, 1) := by decide +kernel
theorem dX7_parse_72 : decode cX7_parse 72 = .ok (.getfield 196, 3) := by decide +kernel
theorem dX7_parse_75 : decode cX7_parse 75 = .ok (.putfield 199, 3) := by decide +kernel
theorem dX7_parse_78 : decode cX7_parse 78 = .ok (.return_, 1) := by decide +kernel
set_option maxRecDepth 20000 in
theorem ggX7_does_X7_joins : GoodIn wsX7_does wsX7_joins := goodIn_r _ [6, 7, 8, 9, 5, 10, 11, 12, 13, 14, 15, 16, 17, 18, 19, 20, 21, 22, 23, 24, 25, 26, 27, 28, 29, 30, 31, 32, 33, 34, 35, 36, 37, 38, 39, 40, 41, 42, 43, 44, 45, 46, 47, 48, 49, 50, 51, 52, 53, 54, 55, 56, 57, 58, 59, 60, 61, 98, 99, 100, 101, 102, 103, 104, 105, 106, 107, 108, 109, 110, 111, 112, 113, 114, 115, 116, 117, 118, 119, 120, 121, 122] (by decide +kernel) (by decide +kernel)
set_option maxRecDepth 20000 in
theorem gX7_does_X7_joins : GoodIn wsX7_does (wsV RX7 116 RX7 yX7_joins wsX7_joins) := goodIn_app (goodIn_of _ (by decide +kernel)) ggX7_does_X7_joins
set_option maxRecDepth 20000 in
theorem ggX7_does_X7_turns : GoodIn wsX7_does wsX7_turns := goodIn_r _ [65, 7, 66, 67, 68, 5, 69, 8, 9, 10, 36, 37, 38, 39, 11, 12, 13, 14, 15, 16, 17, 18, 19, 20, 21, 22, 23, 24, 25, 26, 27, 28, 29, 30, 31, 32, 33, 34, 35, 40, 41, 42, 43, 44, 45, 46, 47, 48, 49, 50, 51, 52, 53, 54, 55, 56, 57, 58, 59, 60, 61, 98, 99, 100, 101, 102, 103, 104, 105, 106, 107, 108, 109, 110, 111, 112, 113, 114, 115, 116, 117, 118, 119, 120, 121, 122] (by decide +kernel) (by decide +kernel)
set_option maxRecDepth 20000 in
theorem gX7_does_X7_turns : GoodIn wsX7_does (wsV RX7 125 RX7 yX7_turns wsX7_turns) := goodIn_app (goodIn_of _ (by decide +kernel)) ggX7_does_X7_turns
set_option maxRecDepth 20000 in
theorem ggX7_does_X7_weighs : GoodIn wsX7_does wsX7_weighs := goodIn_r _ [73, 7, 66, 67, 68, 5, 69, 8, 9, 10, 36, 37, 38, 39, 11, 12, 13, 14, 15, 16, 17, 18, 19, 20, 21, 22, 23, 24, 25, 26, 27, 28, 29, 30, 31, 32, 33, 34, 35, 40, 41, 42, 43, 44, 45, 46, 47, 48, 49, 50, 51, 52, 53, 54, 55, 56, 57, 58, 59, 60, 61, 98, 99, 100, 101, 102, 103, 104, 105, 106, 107, 108, 109, 110, 111, 112, 113, 114, 115, 116, 117, 118, 119, 120, 121, 122] (by decide +kernel) (by decide +kernel)
set_option maxRecDepth 20000 in
theorem gX7_does_X7_weighs : GoodIn wsX7_does (wsV RX7 128 RX7 yX7_weighs wsX7_weighs) := goodIn_app (goodIn_of _ (by decide +kernel)) ggX7_does_X7_weighs
set_option maxRecDepth 20000 in
theorem ggX7_does_X7_leaves : GoodIn wsX7_does wsX7_leaves := goodIn_r _ [77, 7, 78, 79, 80, 5, 81, 8, 9, 10, 98, 99, 100, 101, 102, 103, 104, 105, 106, 107, 108, 109, 110, 111, 112, 113, 114, 115, 116, 117, 118, 119, 120, 121, 122] (by decide +kernel) (by decide +kernel)
set_option maxRecDepth 20000 in
theorem gX7_does_X7_leaves : GoodIn wsX7_does (wsV RX7 143 RX7 yX7_leaves wsX7_leaves) := goodIn_app (goodIn_of _ (by decide +kernel)) ggX7_does_X7_leaves
set_option maxRecDepth 20000 in
theorem ggX7_does_X7_loads : GoodIn wsX7_does wsX7_loads := goodIn_r _ [85, 7, 78, 79, 80, 5, 81, 8, 9, 10, 47, 48, 49, 50, 11, 12, 13, 14, 15, 16, 98, 99, 100, 101, 102, 103, 104, 105, 106, 107, 108, 109, 110, 111, 112, 113, 114, 115, 116, 117, 118, 119, 120, 121, 122] (by decide +kernel) (by decide +kernel)
set_option maxRecDepth 20000 in
theorem gX7_does_X7_loads : GoodIn wsX7_does (wsV RX7 146 RX7 yX7_loads wsX7_loads) := goodIn_app (goodIn_of _ (by decide +kernel)) ggX7_does_X7_loads
set_option maxRecDepth 20000 in
theorem ggX7_does_X7_bears : GoodIn wsX7_does wsX7_bears := goodIn_r _ [89, 7, 8, 9, 5, 10, 11, 12, 13, 14, 15, 16, 98, 99, 100, 101, 102, 103, 104, 105, 106, 107, 108, 109, 110, 111, 112, 113, 114, 115, 116, 117, 118, 119, 120, 121, 122] (by decide +kernel) (by decide +kernel)
set_option maxRecDepth 20000 in
theorem gX7_does_X7_bears : GoodIn wsX7_does (wsV RX7 131 RX7 yX7_bears wsX7_bears) := goodIn_app (goodIn_of _ (by decide +kernel)) ggX7_does_X7_bears
set_option maxRecDepth 20000 in
theorem ggX7_does_X7_comes : GoodIn wsX7_does wsX7_comes := goodIn_r _ [93, 7, 8, 9, 5, 10, 94, 95, 96, 97, 47, 48, 49, 50, 11, 12, 13, 14, 15, 16, 98, 99, 100, 101, 102, 103, 104, 105, 106, 107, 108, 109, 110, 111, 112, 113, 114, 115, 116, 117, 118, 119, 120, 121, 122] (by decide +kernel) (by decide +kernel)
set_option maxRecDepth 20000 in
theorem gX7_does_X7_comes : GoodIn wsX7_does (wsV RX7 137 RX7 yX7_comes wsX7_comes) := goodIn_app (goodIn_of _ (by decide +kernel)) ggX7_does_X7_comes
theorem dX7_does_0 : decode cX7_does 0 = .ok (.aload_n 0, 1) := by decide +kernel
theorem dX7_does_1 : decode cX7_does 1 = .ok (.getfield 49, 3) := by decide +kernel
theorem dX7_does_4 : decode cX7_does 4 = .ok (.iload_n 1, 1) := by decide +kernel
theorem dX7_does_5 : decode cX7_does 5 = .ok (.iconst 1, 1) := by decide +kernel
theorem dX7_does_6 : decode cX7_does 6 = .ok (.iadd, 1) := by decide +kernel
theorem dX7_does_7 : decode cX7_does 7 = .ok (.iaload, 1) := by decide +kernel
theorem dX7_does_8 : decode cX7_does 8 = .ok (.istore_n 2, 1) := by decide +kernel
theorem dX7_does_9 : decode cX7_does 9 = .ok (.aload_n 0, 1) := by decide +kernel
theorem dX7_does_10 : decode cX7_does 10 = .ok (.getfield 49, 3) := by decide +kernel
theorem dX7_does_13 : decode cX7_does 13 = .ok (.iload_n 1, 1) := by decide +kernel
theorem dX7_does_14 : decode cX7_does 14 = .ok (.iconst 2, 1) := by decide +kernel
theorem dX7_does_15 : decode cX7_does 15 = .ok (.iadd, 1) := by decide +kernel
theorem dX7_does_16 : decode cX7_does 16 = .ok (.iaload, 1) := by decide +kernel
theorem dX7_does_17 : decode cX7_does 17 = .ok (.istore_n 3, 1) := by decide +kernel
theorem dX7_does_18 : decode cX7_does 18 = .ok (.aload_n 0, 1) := by decide +kernel
theorem dX7_does_19 : decode cX7_does 19 = .ok (.getfield 49, 3) := by decide +kernel
theorem dX7_does_22 : decode cX7_does 22 = .ok (.iload_n 1, 1) := by decide +kernel
theorem dX7_does_23 : decode cX7_does 23 = .ok (.iaload, 1) := by decide +kernel
theorem dX7_does_24 : decode cX7_does 24 = .ok (.tableswitch 146 99 119 #[106, 146, 146, 146, 127, 146, 146, 146, 146, 133, 146, 146, 113, 100, 146, 146, 146, 140, 146, 146, 120], 100) := by decide +kernel
theorem dX7_does_124 : decode cX7_does 124 = .ok (.aload_n 0, 1) := by decide +kernel
theorem dX7_does_125 : decode cX7_does 125 = .ok (.iload_n 2, 1) := by decide +kernel
theorem dX7_does_126 : decode cX7_does 126 = .ok (.invokevirtual 116, 3) := by decide +kernel
theorem dX7_does_129 : decode cX7_does 129 = .ok (.ireturn, 1) := by decide +kernel
theorem dX7_does_130 : decode cX7_does 130 = .ok (.aload_n 0, 1) := by decide +kernel
theorem dX7_does_131 : decode cX7_does 131 = .ok (.iload_n 2, 1) := by decide +kernel
theorem dX7_does_132 : decode cX7_does 132 = .ok (.iconst 0, 1) := by decide +kernel
theorem dX7_does_133 : decode cX7_does 133 = .ok (.invokevirtual 125, 3) := by decide +kernel
theorem dX7_does_136 : decode cX7_does 136 = .ok (.ireturn, 1) := by decide +kernel
theorem dX7_does_137 : decode cX7_does 137 = .ok (.aload_n 0, 1) := by decide +kernel
theorem dX7_does_138 : decode cX7_does 138 = .ok (.iload_n 2, 1) := by decide +kernel
theorem dX7_does_139 : decode cX7_does 139 = .ok (.iconst 1, 1) := by decide +kernel
theorem dX7_does_140 : decode cX7_does 140 = .ok (.invokevirtual 125, 3) := by decide +kernel
theorem dX7_does_143 : decode cX7_does 143 = .ok (.ireturn, 1) := by decide +kernel
theorem dX7_does_144 : decode cX7_does 144 = .ok (.aload_n 0, 1) := by decide +kernel
theorem dX7_does_145 : decode cX7_does 145 = .ok (.iload_n 2, 1) := by decide +kernel
theorem dX7_does_146 : decode cX7_does 146 = .ok (.iload_n 3, 1) := by decide +kernel
theorem dX7_does_147 : decode cX7_does 147 = .ok (.invokevirtual 128, 3) := by decide +kernel
theorem dX7_does_150 : decode cX7_does 150 = .ok (.ireturn, 1) := by decide +kernel
theorem dX7_does_151 : decode cX7_does 151 = .ok (.aload_n 0, 1) := by decide +kernel
theorem dX7_does_152 : decode cX7_does 152 = .ok (.iload_n 2, 1) := by decide +kernel
theorem dX7_does_153 : decode cX7_does 153 = .ok (.invokevirtual 143, 3) := by decide +kernel
theorem dX7_does_156 : decode cX7_does 156 = .ok (.ireturn, 1) := by decide +kernel
theorem dX7_does_157 : decode cX7_does 157 = .ok (.aload_n 0, 1) := by decide +kernel
theorem dX7_does_158 : decode cX7_does 158 = .ok (.iload_n 2, 1) := by decide +kernel
theorem dX7_does_159 : decode cX7_does 159 = .ok (.iload_n 3, 1) := by decide +kernel
theorem dX7_does_160 : decode cX7_does 160 = .ok (.invokevirtual 146, 3) := by decide +kernel
theorem dX7_does_163 : decode cX7_does 163 = .ok (.ireturn, 1) := by decide +kernel
theorem dX7_does_164 : decode cX7_does 164 = .ok (.aload_n 0, 1) := by decide +kernel
theorem dX7_does_165 : decode cX7_does 165 = .ok (.iload_n 2, 1) := by decide +kernel
theorem dX7_does_166 : decode cX7_does 166 = .ok (.invokevirtual 131, 3) := by decide +kernel
theorem dX7_does_169 : decode cX7_does 169 = .ok (.ireturn, 1) := by decide +kernel
theorem dX7_does_170 : decode cX7_does 170 = .ok (.aload_n 0, 1) := by decide +kernel
theorem dX7_does_171 : decode cX7_does 171 = .ok (.iload_n 2, 1) := by decide +kernel
theorem dX7_does_172 : decode cX7_does 172 = .ok (.iload_n 3, 1) := by decide +kernel
theorem dX7_does_173 : decode cX7_does 173 = .ok (.invokevirtual 137, 3) := by decide +kernel
theorem dX7_does_176 : decode cX7_does 176 = .ok (.ireturn, 1) := by decide +kernel
set_option maxRecDepth 20000 in
theorem ggX7_run_X7_parse : GoodIn wsX7_run wsX7_parse := goodIn_r _ [8, 9, 2, 3, 1, 10, 11, 12, 7, 13, 14, 15, 16, 17, 18, 19, 20, 21, 22, 23, 24, 25, 26, 27, 28, 29, 30, 31, 32, 33, 34, 35, 36, 37, 38, 39, 40, 41, 151, 152, 153, 154, 155, 156, 157, 158, 159, 160, 161, 162, 163, 164, 165, 166, 167, 168, 169, 170, 171, 172, 173, 174, 175] (by decide +kernel) (by decide +kernel)
set_option maxRecDepth 20000 in
theorem gX7_run_X7_parse : GoodIn wsX7_run (wsV RX7 228 RX7 yX7_parse wsX7_parse) := goodIn_app (goodIn_of _ (by decide +kernel)) ggX7_run_X7_parse
set_option maxRecDepth 20000 in
theorem ggX7_run_X7_begins : GoodIn wsX7_run wsX7_begins := goodIn_r _ [45, 46, 47, 48, 7, 49, 50, 151, 152, 153, 154, 155, 156, 157, 158, 159, 160, 161, 162, 163, 164, 165, 166, 167, 168, 169, 170, 171, 172, 173, 174, 175] (by decide +kernel) (by decide +kernel)
set_option maxRecDepth 20000 in
theorem gX7_run_X7_begins : GoodIn wsX7_run (wsV RX7 113 RX7 yX7_begins wsX7_begins) := goodIn_app (goodIn_of _ (by decide +kernel)) ggX7_run_X7_begins
set_option maxRecDepth 20000 in
theorem ggX7_run_X7_does : GoodIn wsX7_run wsX7_does := goodIn_r _ [54, 14, 55, 56, 57, 7, 58, 50, 39, 40, 41, 59, 60, 61, 62, 63, 64, 65, 66, 67, 68, 69, 70, 71, 72, 73, 74, 75, 76, 77, 78, 79, 80, 81, 82, 83, 84, 85, 86, 87, 88, 89, 90, 91, 92, 93, 94, 95, 96, 97, 98, 99, 100, 101, 102, 103, 104, 105, 106, 107, 108, 109, 110, 111, 112, 113, 114, 115, 116, 117, 118, 119, 120, 121, 122, 123, 124, 125, 126, 127, 128, 129, 130, 131, 132, 133, 134, 135, 136, 137, 138, 139, 140, 141, 142, 143, 144, 145, 151, 152, 153, 154, 155, 156, 157, 158, 159, 160, 161, 162, 163, 164, 165, 166, 167, 168, 169, 170, 171, 172, 173, 174, 175] (by decide +kernel) (by decide +kernel)
set_option maxRecDepth 20000 in
theorem gX7_run_X7_does : GoodIn wsX7_run (wsV RX7 231 RX7 yX7_does wsX7_does) := goodIn_app (goodIn_of _ (by decide +kernel)) ggX7_run_X7_does
set_option maxRecDepth 20000 in
theorem ggX7_run_X7_in : GoodIn wsX7_run wsX7_in := goodIn_r _ [41] (by decide +kernel) (by decide +kernel)
set_option maxRecDepth 20000 in
theorem gX7_run_X7_in : GoodIn wsX7_run (va_wsS RX7 59 yX7_in wsX7_in) := goodIn_app (goodIn_of _ (by decide +kernel)) ggX7_run_X7_in
