set_option maxRecDepth 20000 in
theorem ggX0_init_J7_fill_53178 : GoodIn wsX0_init wsJ7_fill_53178 := goodIn_r _ [18] (by decide +kernel) (by decide +kernel)
set_option maxRecDepth 20000 in
theorem gX0_init_J7_fill_53178 : GoodIn wsX0_init (va_wsS RX0 43 yJ7_fill_53178 wsJ7_fill_53178) := goodIn_app (goodIn_of _ (by decide +kernel)) ggX0_init_J7_fill_53178
theorem dX0_init_0 : decode cX0_init 0 = .ok (.aload_n 0, 1) := by decide +kernel
theorem dX0_init_1 : decode cX0_init 1 = .ok (.invokespecial 3, 3) := by decide +kernel
theorem dX0_init_4 : decode cX0_init 4 = .ok (.aload_n 0, 1) := by decide +kernel
theorem dX0_init_5 : decode cX0_init 5 = .ok (.bipush 80, 2) := by decide +kernel
theorem dX0_init_7 : decode cX0_init 7 = .ok (.newarray .int, 2) := by decide +kernel
theorem dX0_init_9 : decode cX0_init 9 = .ok (.putfield 9, 3) := by decide +kernel
theorem dX0_init_12 : decode cX0_init 12 = .ok (.aload_n 0, 1) := by decide +kernel
theorem dX0_init_13 : decode cX0_init 13 = .ok (.bipush 80, 2) := by decide +kernel
theorem dX0_init_15 : decode cX0_init 15 = .ok (.newarray .int, 2) := by decide +kernel
theorem dX0_init_17 : decode cX0_init 17 = .ok (.putfield 15, 3) := by decide +kernel
theorem dX0_init_20 : decode cX0_init 20 = .ok (.aload_n 0, 1) := by decide +kernel
theorem dX0_init_21 : decode cX0_init 21 = .ok (.bipush 80, 2) := by decide +kernel
theorem dX0_init_23 : decode cX0_init 23 = .ok (.newarray .int, 2) := by decide +kernel
theorem dX0_init_25 : decode cX0_init 25 = .ok (.putfield 18, 3) := by decide +kernel
theorem dX0_init_28 : decode cX0_init 28 = .ok (.aload_n 0, 1) := by decide +kernel
theorem dX0_init_29 : decode cX0_init 29 = .ok (.bipush 80, 2) := by decide +kernel
theorem dX0_init_31 : decode cX0_init 31 = .ok (.newarray .int, 2) := by decide +kernel
theorem dX0_init_33 : decode cX0_init 33 = .ok (.putfield 21, 3) := by decide +kernel
theorem dX0_init_36 : decode cX0_init 36 = .ok (.aload_n 0, 1) := by decide +kernel
theorem dX0_init_37 : decode cX0_init 37 = .ok (.bipush 80, 2) := by decide +kernel
theorem dX0_init_39 : decode cX0_init 39 = .ok (.newarray .int, 2) := by decide +kernel
theorem dX0_init_41 : decode cX0_init 41 = .ok (.putfield 24, 3) := by decide +kernel
theorem dX0_init_44 : decode cX0_init 44 = .ok (.aload_n 0, 1) := by decide +kernel
theorem dX0_init_45 : decode cX0_init 45 = .ok (.iconst 0, 1) := by decide +kernel
theorem dX0_init_46 : decode cX0_init 46 = .ok (.putfield 27, 3) := by decide +kernel
theorem dX0_init_49 : decode cX0_init 49 = .ok (.aload_n 0, 1) := by decide +kernel
theorem dX0_init_50 : decode cX0_init 50 = .ok (.iconst 0, 1) := by decide +kernel
theorem dX0_init_51 : decode cX0_init 51 = .ok (.putfield 31, 3) := by decide +kernel
theorem dX0_init_54 : decode cX0_init 54 = .ok (.aload_n 0, 1) := by decide +kernel
theorem dX0_init_55 : decode cX0_init 55 = .ok (.sipush 360, 3) := by decide +kernel
theorem dX0_init_58 : decode cX0_init 58 = .ok (.newarray .int, 2) := by decide +kernel
theorem dX0_init_60 : decode cX0_init 60 = .ok (.putfield 34, 3) := by decide +kernel
theorem dX0_init_63 : decode cX0_init 63 = .ok (.aload_n 0, 1) := by decide +kernel
theorem dX0_init_64 : decode cX0_init 64 = .ok (.bipush 80, 2) := by decide +kernel
theorem dX0_init_66 : decode cX0_init 66 = .ok (.newarray .int, 2) := by decide +kernel
theorem dX0_init_68 : decode cX0_init 68 = .ok (.putfield 37, 3) := by decide +kernel
theorem dX0_init_71 : decode cX0_init 71 = .ok (.aload_n 0, 1) := by decide +kernel
theorem dX0_init_72 : decode cX0_init 72 = .ok (.bipush 80, 2) := by decide +kernel
theorem dX0_init_74 : decode cX0_init 74 = .ok (.newarray .int, 2) := by decide +kernel
theorem dX0_init_76 : decode cX0_init 76 = .ok (.putfield 40, 3) := by decide +kernel
theorem dX0_init_79 : decode cX0_init 79 = .ok (.aload_n 0, 1) := by decide +kernel
theorem dX0_init_80 : decode cX0_init 80 = .ok (.getfield 34, 3) := by decide +kernel
theorem dX0_init_83 : decode cX0_init 83 = .ok (.iconst (-1), 1) := by decide +kernel
theorem dX0_init_84 : decode cX0_init 84 = .ok (.invokestatic 43, 3) := by decide +kernel
theorem dX0_init_87 : decode cX0_init 87 = .ok (.return_, 1) := by decide +kernel
set_option maxRecDepth 20000 in
theorem ggX0_build_J7_fill_53178 : GoodIn wsX0_build wsJ7_fill_53178 := goodIn_r _ [11] (by decide +kernel) (by decide +kernel)
set_option maxRecDepth 20000 in
theorem gX0_build_J7_fill_53178 : GoodIn wsX0_build (va_wsS RX0 43 yJ7_fill_53178 wsJ7_fill_53178) := goodIn_app (goodIn_of _ (by decide +kernel)) ggX0_build_J7_fill_53178
set_option maxRecDepth 20000 in
theorem ggX0_build_X1_pointsOf : GoodIn wsX0_build wsX1_pointsOf := goodIn_r _ [16, 17, 18, 46, 47, 48, 49, 50, 51, 52, 53] (by decide +kernel) (by decide +kernel)
set_option maxRecDepth 20000 in
theorem gX0_build_X1_pointsOf : GoodIn wsX0_build (wsV RX0 54 RX1 yX1_pointsOf wsX1_pointsOf) := goodIn_app (goodIn_of _ (by decide +kernel)) ggX0_build_X1_pointsOf
set_option maxRecDepth 20000 in
theorem ggX0_build_X0_hang : GoodIn wsX0_build wsX0_hang := goodIn_r _ [23, 24, 25, 5, 26, 3, 27, 28, 29, 30, 36, 37, 38, 39, 40, 41, 42, 43, 44, 45] (by decide +kernel) (by decide +kernel)
set_option maxRecDepth 20000 in
theorem gX0_build_X0_hang : GoodIn wsX0_build (wsV RX0 58 RX0 yX0_hang wsX0_hang) := goodIn_app (goodIn_of _ (by decide +kernel)) ggX0_build_X0_hang
set_option maxRecDepth 20000 in
theorem ggX0_build_X0_placeNodes : GoodIn wsX0_build wsX0_placeNodes := goodIn_r _ [34, 2, 1, 35, 36, 37, 38, 39, 40, 41, 42, 43, 44, 45] (by decide +kernel) (by decide +kernel)
set_option maxRecDepth 20000 in
theorem gX0_build_X0_placeNodes : GoodIn wsX0_build (wsV RX0 62 RX0 yX0_placeNodes wsX0_placeNodes) := goodIn_app (goodIn_of _ (by decide +kernel)) ggX0_build_X0_placeNodes
theorem dX0_build_0 : decode cX0_build 0 = .ok (.aload_n 0, 1) := by decide +kernel
theorem dX0_build_1 : decode cX0_build 1 = .ok (.getfield 34, 3) := by decide +kernel
theorem dX0_build_4 : decode cX0_build 4 = .ok (.iconst (-1), 1) := by decide +kernel
theorem dX0_build_5 : decode cX0_build 5 = .ok (.invokestatic 43, 3) := by decide +kernel
theorem dX0_build_8 : decode cX0_build 8 = .ok (.aload_n 0, 1) := by decide +kernel
theorem dX0_build_9 : decode cX0_build 9 = .ok (.iconst 0, 1) := by decide +kernel
theorem dX0_build_10 : decode cX0_build 10 = .ok (.putfield 27, 3) := by decide +kernel
theorem dX0_build_13 : decode cX0_build 13 = .ok (.aload_n 0, 1) := by decide +kernel
theorem dX0_build_14 : decode cX0_build 14 = .ok (.iconst 0, 1) := by decide +kernel
theorem dX0_build_15 : decode cX0_build 15 = .ok (.putfield 31, 3) := by decide +kernel
theorem dX0_build_18 : decode cX0_build 18 = .ok (.iconst 0, 1) := by decide +kernel
theorem dX0_build_19 : decode cX0_build 19 = .ok (.istore_n 2, 1) := by decide +kernel
theorem dX0_build_20 : decode cX0_build 20 = .ok (.iload_n 2, 1) := by decide +kernel
theorem dX0_build_21 : decode cX0_build 21 = .ok (.aload_n 1, 1) := by decide +kernel
theorem dX0_build_22 : decode cX0_build 22 = .ok (.getfield 49, 3) := by decide +kernel
theorem dX0_build_25 : decode cX0_build 25 = .ok (.if_icmp .ge 123, 3) := by decide +kernel
theorem dX0_build_28 : decode cX0_build 28 = .ok (.aload_n 1, 1) := by decide +kernel
theorem dX0_build_29 : decode cX0_build 29 = .ok (.iload_n 2, 1) := by decide +kernel
theorem dX0_build_30 : decode cX0_build 30 = .ok (.invokevirtual 54, 3) := by decide +kernel
theorem dX0_build_33 : decode cX0_build 33 = .ok (.istore_n 3, 1) := by decide +kernel
theorem dX0_build_34 : decode cX0_build 34 = .ok (.iconst 0, 1) := by decide +kernel
theorem dX0_build_35 : decode cX0_build 35 = .ok (.istore 4, 2) := by decide +kernel
theorem dX0_build_37 : decode cX0_build 37 = .ok (.iload 4, 2) := by decide +kernel
theorem dX0_build_39 : decode cX0_build 39 = .ok (.iload_n 3, 1) := by decide +kernel
theorem dX0_build_40 : decode cX0_build 40 = .ok (.if_icmp .ge 102, 3) := by decide +kernel
theorem dX0_build_43 : decode cX0_build 43 = .ok (.aload_n 0, 1) := by decide +kernel
theorem dX0_build_44 : decode cX0_build 44 = .ok (.getfield 27, 3) := by decide +kernel
theorem dX0_build_47 : decode cX0_build 47 = .ok (.bipush 80, 2) := by decide +kernel
theorem dX0_build_49 : decode cX0_build 49 = .ok (.if_icmp .ge 93, 3) := by decide +kernel
theorem dX0_build_52 : decode cX0_build 52 = .ok (.aload_n 0, 1) := by decide +kernel
theorem dX0_build_53 : decode cX0_build 53 = .ok (.getfield 15, 3) := by decide +kernel
theorem dX0_build_56 : decode cX0_build 56 = .ok (.aload_n 0, 1) := by decide +kernel
theorem dX0_build_57 : decode cX0_build 57 = .ok (.getfield 27, 3) := by decide +kernel
theorem dX0_build_60 : decode cX0_build 60 = .ok (.bipush 8, 2) := by decide +kernel
theorem dX0_build_62 : decode cX0_build 62 = .ok (.bipush 17, 2) := by decide +kernel
theorem dX0_build_64 : decode cX0_build 64 = .ok (.iload_n 2, 1) := by decide +kernel
theorem dX0_build_65 : decode cX0_build 65 = .ok (.imul, 1) := by decide +kernel
theorem dX0_build_66 : decode cX0_build 66 = .ok (.bipush 7, 2) := by decide +kernel
theorem dX0_build_68 : decode cX0_build 68 = .ok (.iload 4, 2) := by decide +kernel
theorem dX0_build_70 : decode cX0_build 70 = .ok (.imul, 1) := by decide +kernel
theorem dX0_build_71 : decode cX0_build 71 = .ok (.iadd, 1) := by decide +kernel
theorem dX0_build_72 : decode cX0_build 72 = .ok (.bipush 45, 2) := by decide +kernel
theorem dX0_build_74 : decode cX0_build 74 = .ok (.irem, 1) := by decide +kernel
theorem dX0_build_75 : decode cX0_build 75 = .ok (.imul, 1) := by decide +kernel
theorem dX0_build_76 : decode cX0_build 76 = .ok (.iload_n 2, 1) := by decide +kernel
theorem dX0_build_77 : decode cX0_build 77 = .ok (.iadd, 1) := by decide +kernel
theorem dX0_build_78 : decode cX0_build 78 = .ok (.iastore, 1) := by decide +kernel
theorem dX0_build_79 : decode cX0_build 79 = .ok (.aload_n 0, 1) := by decide +kernel
theorem dX0_build_80 : decode cX0_build 80 = .ok (.getfield 18, 3) := by decide +kernel
theorem dX0_build_83 : decode cX0_build 83 = .ok (.aload_n 0, 1) := by decide +kernel
theorem dX0_build_84 : decode cX0_build 84 = .ok (.getfield 27, 3) := by decide +kernel
theorem dX0_build_87 : decode cX0_build 87 = .ok (.iload_n 2, 1) := by decide +kernel
theorem dX0_build_88 : decode cX0_build 88 = .ok (.iastore, 1) := by decide +kernel
theorem dX0_build_89 : decode cX0_build 89 = .ok (.aload_n 0, 1) := by decide +kernel
theorem dX0_build_90 : decode cX0_build 90 = .ok (.getfield 21, 3) := by decide +kernel
theorem dX0_build_93 : decode cX0_build 93 = .ok (.aload_n 0, 1) := by decide +kernel
theorem dX0_build_94 : decode cX0_build 94 = .ok (.getfield 27, 3) := by decide +kernel
theorem dX0_build_97 : decode cX0_build 97 = .ok (.iload 4, 2) := by decide +kernel
theorem dX0_build_99 : decode cX0_build 99 = .ok (.iastore, 1) := by decide +kernel
theorem dX0_build_100 : decode cX0_build 100 = .ok (.aload_n 0, 1) := by decide +kernel
theorem dX0_build_101 : decode cX0_build 101 = .ok (.getfield 34, 3) := by decide +kernel
theorem dX0_build_104 : decode cX0_build 104 = .ok (.aload_n 0, 1) := by decide +kernel
theorem dX0_build_105 : decode cX0_build 105 = .ok (.getfield 15, 3) := by decide +kernel
theorem dX0_build_108 : decode cX0_build 108 = .ok (.aload_n 0, 1) := by decide +kernel
theorem dX0_build_109 : decode cX0_build 109 = .ok (.getfield 27, 3) := by decide +kernel
theorem dX0_build_112 : decode cX0_build 112 = .ok (.iaload, 1) := by decide +kernel
theorem dX0_build_113 : decode cX0_build 113 = .ok (.aload_n 0, 1) := by decide +kernel
theorem dX0_build_114 : decode cX0_build 114 = .ok (.getfield 27, 3) := by decide +kernel
theorem dX0_build_117 : decode cX0_build 117 = .ok (.iastore, 1) := by decide +kernel
theorem dX0_build_118 : decode cX0_build 118 = .ok (.aload_n 0, 1) := by decide +kernel
theorem dX0_build_119 : decode cX0_build 119 = .ok (.aload_n 0, 1) := by decide +kernel
theorem dX0_build_120 : decode cX0_build 120 = .ok (.getfield 27, 3) := by decide +kernel
theorem dX0_build_123 : decode cX0_build 123 = .ok (.invokevirtual 58, 3) := by decide +kernel
theorem dX0_build_126 : decode cX0_build 126 = .ok (.aload_n 0, 1) := by decide +kernel
theorem dX0_build_127 : decode cX0_build 127 = .ok (.dup, 1) := by decide +kernel
theorem dX0_build_128 : decode cX0_build 128 = .ok (.getfield 27, 3) := by decide +kernel
theorem dX0_build_131 : decode cX0_build 131 = .ok (.iconst 1, 1) := by decide +kernel
theorem dX0_build_132 : decode cX0_build 132 = .ok (.iadd, 1) := by decide +kernel
theorem dX0_build_133 : decode cX0_build 133 = .ok (.putfield 27, 3) := by decide +kernel
theorem dX0_build_136 : decode cX0_build 136 = .ok (.iinc 4 1, 3) := by decide +kernel
theorem dX0_build_139 : decode cX0_build 139 = .ok (.goto (-102), 3) := by decide +kernel
theorem dX0_build_142 : decode cX0_build 142 = .ok (.iinc 2 1, 3) := by decide +kernel
theorem dX0_build_145 : decode cX0_build 145 = .ok (.goto (-125), 3) := by decide +kernel
theorem dX0_build_148 : decode cX0_build 148 = .ok (.aload_n 0, 1) := by decide +kernel
theorem dX0_build_149 : decode cX0_build 149 = .ok (.invokevirtual 62, 3) := by decide +kernel
theorem dX0_build_152 : decode cX0_build 152 = .ok (.return_, 1) := by decide +kernel
theorem dX0_hang_0 : decode cX0_hang 0 = .ok (.aload_n 0, 1) := by decide +kernel
theorem dX0_hang_1 : decode cX0_hang 1 = .ok (.getfield 37, 3) := by decide +kernel
theorem dX0_hang_4 : decode cX0_hang 4 = .ok (.iload_n 1, 1) := by decide +kernel
theorem dX0_hang_5 : decode cX0_hang 5 = .ok (.iconst (-1), 1) := by decide +kernel
theorem dX0_hang_6 : decode cX0_hang 6 = .ok (.iastore, 1) := by decide +kernel
theorem dX0_hang_7 : decode cX0_hang 7 = .ok (.aload_n 0, 1) := by decide +kernel
theorem dX0_hang_8 : decode cX0_hang 8 = .ok (.getfield 40, 3) := by decide +kernel
theorem dX0_hang_11 : decode cX0_hang 11 = .ok (.iload_n 1, 1) := by decide +kernel
theorem dX0_hang_12 : decode cX0_hang 12 = .ok (.iconst (-1), 1) := by decide +kernel
theorem dX0_hang_13 : decode cX0_hang 13 = .ok (.iastore, 1) := by decide +kernel
theorem dX0_hang_14 : decode cX0_hang 14 = .ok (.iconst (-1), 1) := by decide +kernel
theorem dX0_hang_15 : decode cX0_hang 15 = .ok (.istore_n 2, 1) := by decide +kernel
theorem dX0_hang_16 : decode cX0_hang 16 = .ok (.iload_n 1, 1) := by decide +kernel
theorem dX0_hang_17 : decode cX0_hang 17 = .ok (.ifCond .ne 7, 3) := by decide +kernel
theorem dX0_hang_20 : decode cX0_hang 20 = .ok (.iconst (-1), 1) := by decide +kernel
theorem dX0_hang_21 : decode cX0_hang 21 = .ok (.goto 4, 3) := by decide +kernel
theorem dX0_hang_24 : decode cX0_hang 24 = .ok (.iconst 0, 1) := by decide +kernel
theorem dX0_hang_25 : decode cX0_hang 25 = .ok (.istore_n 3, 1) := by decide +kernel
theorem dX0_hang_26 : decode cX0_hang 26 = .ok (.iconst 0, 1) := by decide +kernel
theorem dX0_hang_27 : decode cX0_hang 27 = .ok (.istore 4, 2) := by decide +kernel
theorem dX0_hang_29 : decode cX0_hang 29 = .ok (.iload_n 3, 1) := by decide +kernel
theorem dX0_hang_30 : decode cX0_hang 30 = .ok (.iconst (-1), 1) := by decide +kernel
theorem dX0_hang_31 : decode cX0_hang 31 = .ok (.if_icmp .eq 49, 3) := by decide +kernel
theorem dX0_hang_34 : decode cX0_hang 34 = .ok (.iload 4, 2) := by decide +kernel
theorem dX0_hang_36 : decode cX0_hang 36 = .ok (.bipush 80, 2) := by decide +kernel
theorem dX0_hang_38 : decode cX0_hang 38 = .ok (.if_icmp .ge 42, 3) := by decide +kernel
theorem dX0_hang_41 : decode cX0_hang 41 = .ok (.iload_n 3, 1) := by decide +kernel
theorem dX0_hang_42 : decode cX0_hang 42 = .ok (.istore_n 2, 1) := by decide +kernel
theorem dX0_hang_43 : decode cX0_hang 43 = .ok (.aload_n 0, 1) := by decide +kernel
theorem dX0_hang_44 : decode cX0_hang 44 = .ok (.getfield 15, 3) := by decide +kernel
theorem dX0_hang_47 : decode cX0_hang 47 = .ok (.iload_n 1, 1) := by decide +kernel
theorem dX0_hang_48 : decode cX0_hang 48 = .ok (.iaload, 1) := by decide +kernel
theorem dX0_hang_49 : decode cX0_hang 49 = .ok (.aload_n 0, 1) := by decide +kernel
theorem dX0_hang_50 : decode cX0_hang 50 = .ok (.getfield 15, 3) := by decide +kernel
theorem dX0_hang_53 : decode cX0_hang 53 = .ok (.iload_n 2, 1) := by decide +kernel
theorem dX0_hang_54 : decode cX0_hang 54 = .ok (.iaload, 1) := by decide +kernel
theorem dX0_hang_55 : decode cX0_hang 55 = .ok (.if_icmp .ge 12, 3) := by decide +kernel
theorem dX0_hang_58 : decode cX0_hang 58 = .ok (.aload_n 0, 1) := by decide +kernel
theorem dX0_hang_59 : decode cX0_hang 59 = .ok (.getfield 37, 3) := by decide +kernel
theorem dX0_hang_62 : decode cX0_hang 62 = .ok (.iload_n 2, 1) := by decide +kernel
theorem dX0_hang_63 : decode cX0_hang 63 = .ok (.iaload, 1) := by decide +kernel
theorem dX0_hang_64 : decode cX0_hang 64 = .ok (.goto 9, 3) := by decide +kernel
theorem dX0_hang_67 : decode cX0_hang 67 = .ok (.aload_n 0, 1) := by decide +kernel
theorem dX0_hang_68 : decode cX0_hang 68 = .ok (.getfield 40, 3) := by decide +kernel
theorem dX0_hang_71 : decode cX0_hang 71 = .ok (.iload_n 2, 1) := by decide +kernel
theorem dX0_hang_72 : decode cX0_hang 72 = .ok (.iaload, 1) := by decide +kernel
theorem dX0_hang_73 : decode cX0_hang 73 = .ok (.istore_n 3, 1) := by decide +kernel
theorem dX0_hang_74 : decode cX0_hang 74 = .ok (.iinc 4 1, 3) := by decide +kernel
theorem dX0_hang_77 : decode cX0_hang 77 = .ok (.goto (-48), 3) := by decide +kernel
theorem dX0_hang_80 : decode cX0_hang 80 = .ok (.iload_n 2, 1) := by decide +kernel
theorem dX0_hang_81 : decode cX0_hang 81 = .ok (.iconst (-1), 1) := by decide +kernel
theorem dX0_hang_82 : decode cX0_hang 82 = .ok (.if_icmp .eq 35, 3) := by decide +kernel
theorem dX0_hang_85 : decode cX0_hang 85 = .ok (.aload_n 0, 1) := by decide +kernel
theorem dX0_hang_86 : decode cX0_hang 86 = .ok (.getfield 15, 3) := by decide +kernel
theorem dX0_hang_89 : decode cX0_hang 89 = .ok (.iload_n 1, 1) := by decide +kernel
theorem dX0_hang_90 : decode cX0_hang 90 = .ok (.iaload, 1) := by decide +kernel
theorem dX0_hang_91 : decode cX0_hang 91 = .ok (.aload_n 0, 1) := by decide +kernel
theorem dX0_hang_92 : decode cX0_hang 92 = .ok (.getfield 15, 3) := by decide +kernel
theorem dX0_hang_95 : decode cX0_hang 95 = .ok (.iload_n 2, 1) := by decide +kernel
theorem dX0_hang_96 : decode cX0_hang 96 = .ok (.iaload, 1) := by decide +kernel
theorem dX0_hang_97 : decode cX0_hang 97 = .ok (.if_icmp .ge 13, 3) := by decide +kernel
theorem dX0_hang_100 : decode cX0_hang 100 = .ok (.aload_n 0, 1) := by decide +kernel
theorem dX0_hang_101 : decode cX0_hang 101 = .ok (.getfield 37, 3) := by decide +kernel
theorem dX0_hang_104 : decode cX0_hang 104 = .ok (.iload_n 2, 1) := by decide +kernel
theorem dX0_hang_105 : decode cX0_hang 105 = .ok (.iload_n 1, 1) := by decide +kernel
theorem dX0_hang_106 : decode cX0_hang 106 = .ok (.iastore, 1) := by decide +kernel
theorem dX0_hang_107 : decode cX0_hang 107 = .ok (.goto 10, 3) := by decide +kernel
theorem dX0_hang_110 : decode cX0_hang 110 = .ok (.aload_n 0, 1) := by decide +kernel
theorem dX0_hang_111 : decode cX0_hang 111 = .ok (.getfield 40, 3) := by decide +kernel
theorem dX0_hang_114 : decode cX0_hang 114 = .ok (.iload_n 2, 1) := by decide +kernel
theorem dX0_hang_115 : decode cX0_hang 115 = .ok (.iload_n 1, 1) := by decide +kernel
theorem dX0_hang_116 : decode cX0_hang 116 = .ok (.iastore, 1) := by decide +kernel
theorem dX0_hang_117 : decode cX0_hang 117 = .ok (.aload_n 0, 1) := by decide +kernel
theorem dX0_hang_118 : decode cX0_hang 118 = .ok (.getfield 24, 3) := by decide +kernel
theorem dX0_hang_121 : decode cX0_hang 121 = .ok (.iload_n 1, 1) := by decide +kernel
theorem dX0_hang_122 : decode cX0_hang 122 = .ok (.iload 4, 2) := by decide +kernel
theorem dX0_hang_124 : decode cX0_hang 124 = .ok (.iastore, 1) := by decide +kernel
theorem dX0_hang_125 : decode cX0_hang 125 = .ok (.aload_n 0, 1) := by decide +kernel
theorem dX0_hang_126 : decode cX0_hang 126 = .ok (.aload_n 0, 1) := by decide +kernel
theorem dX0_hang_127 : decode cX0_hang 127 = .ok (.getfield 31, 3) := by decide +kernel
theorem dX0_hang_130 : decode cX0_hang 130 = .ok (.iload 4, 2) := by decide +kernel
theorem dX0_hang_132 : decode cX0_hang 132 = .ok (.iconst 1, 1) := by decide +kernel
theorem dX0_hang_133 : decode cX0_hang 133 = .ok (.iadd, 1) := by decide +kernel
theorem dX0_hang_134 : decode cX0_hang 134 = .ok (.invokestatic 65, 3) := by decide +kernel
theorem dX0_hang_137 : decode cX0_hang 137 = .ok (.putfield 31, 3) := by decide +kernel
theorem dX0_hang_140 : decode cX0_hang 140 = .ok (.return_, 1) := by decide +kernel
theorem dX0_placeNodes_0 : decode cX0_placeNodes 0 = .ok (.iconst 0, 1) := by decide +kernel
theorem dX0_placeNodes_1 : decode cX0_placeNodes 1 = .ok (.istore_n 1, 1) := by decide +kernel
theorem dX0_placeNodes_2 : decode cX0_placeNodes 2 = .ok (.iconst 0, 1) := by decide +kernel
theorem dX0_placeNodes_3 : decode cX0_placeNodes 3 = .ok (.istore_n 2, 1) := by decide +kernel
theorem dX0_placeNodes_4 : decode cX0_placeNodes 4 = .ok (.iload_n 2, 1) := by decide +kernel
theorem dX0_placeNodes_5 : decode cX0_placeNodes 5 = .ok (.sipush 360, 3) := by decide +kernel
theorem dX0_placeNodes_8 : decode cX0_placeNodes 8 = .ok (.if_icmp .ge 42, 3) := by decide +kernel
theorem dX0_placeNodes_11 : decode cX0_placeNodes 11 = .ok (.iload_n 1, 1) := by decide +kernel
theorem dX0_placeNodes_12 : decode cX0_placeNodes 12 = .ok (.aload_n 0, 1) := by decide +kernel
theorem dX0_placeNodes_13 : decode cX0_placeNodes 13 = .ok (.getfield 27, 3) := by decide +kernel
theorem dX0_placeNodes_16 : decode cX0_placeNodes 16 = .ok (.if_icmp .ge 34, 3) := by decide +kernel
theorem dX0_placeNodes_19 : decode cX0_placeNodes 19 = .ok (.aload_n 0, 1) := by decide +kernel
theorem dX0_placeNodes_20 : decode cX0_placeNodes 20 = .ok (.getfield 34, 3) := by decide +kernel
theorem dX0_placeNodes_23 : decode cX0_placeNodes 23 = .ok (.iload_n 2, 1) := by decide +kernel
theorem dX0_placeNodes_24 : decode cX0_placeNodes 24 = .ok (.iaload, 1) := by decide +kernel
theorem dX0_placeNodes_25 : decode cX0_placeNodes 25 = .ok (.iconst (-1), 1) := by decide +kernel
theorem dX0_placeNodes_26 : decode cX0_placeNodes 26 = .ok (.if_icmp .eq 18, 3) := by decide +kernel
theorem dX0_placeNodes_29 : decode cX0_placeNodes 29 = .ok (.aload_n 0, 1) := by decide +kernel
theorem dX0_placeNodes_30 : decode cX0_placeNodes 30 = .ok (.getfield 9, 3) := by decide +kernel
theorem dX0_placeNodes_33 : decode cX0_placeNodes 33 = .ok (.iload_n 1, 1) := by decide +kernel
theorem dX0_placeNodes_34 : decode cX0_placeNodes 34 = .ok (.aload_n 0, 1) := by decide +kernel
theorem dX0_placeNodes_35 : decode cX0_placeNodes 35 = .ok (.getfield 34, 3) := by decide +kernel
theorem dX0_placeNodes_38 : decode cX0_placeNodes 38 = .ok (.iload_n 2, 1) := by decide +kernel
theorem dX0_placeNodes_39 : decode cX0_placeNodes 39 = .ok (.iaload, 1) := by decide +kernel
theorem dX0_placeNodes_40 : decode cX0_placeNodes 40 = .ok (.iastore, 1) := by decide +kernel
theorem dX0_placeNodes_41 : decode cX0_placeNodes 41 = .ok (.iinc 1 1, 3) := by decide +kernel
theorem dX0_placeNodes_44 : decode cX0_placeNodes 44 = .ok (.iinc 2 1, 3) := by decide +kernel
theorem dX0_placeNodes_47 : decode cX0_placeNodes 47 = .ok (.goto (-43), 3) := by decide +kernel
theorem dX0_placeNodes_50 : decode cX0_placeNodes 50 = .ok (.return_, 1) := by decide +kernel
set_option maxRecDepth 20000 in
theorem ggX0_homeByTree_X0_firstInTree : GoodIn wsX0_homeByTree wsX0_firstInTree := goodIn_r _ [6, 7, 8, 9, 10, 11, 12, 13, 14, 15, 16, 17, 18, 19, 20] (by decide +kernel) (by decide +kernel)
set_option maxRecDepth 20000 in
theorem gX0_homeByTree_X0_firstInTree : GoodIn wsX0_homeByTree (wsV RX0 71 RX0 yX0_firstInTree wsX0_firstInTree) := goodIn_app (goodIn_of _ (by decide +kernel)) ggX0_homeByTree_X0_firstInTree
theorem dX0_homeByTree_0 : decode cX0_homeByTree 0 = .ok (.aload_n 0, 1) := by decide +kernel
theorem dX0_homeByTree_1 : decode cX0_homeByTree 1 = .ok (.iload_n 1, 1) := by decide +kernel
theorem dX0_homeByTree_2 : decode cX0_homeByTree 2 = .ok (.invokevirtual 71, 3) := by decide +kernel
theorem dX0_homeByTree_5 : decode cX0_homeByTree 5 = .ok (.istore_n 2, 1) := by decide +kernel
theorem dX0_homeByTree_6 : decode cX0_homeByTree 6 = .ok (.iload_n 2, 1) := by decide +kernel
theorem dX0_homeByTree_7 : decode cX0_homeByTree 7 = .ok (.iconst (-1), 1) := by decide +kernel
theorem dX0_homeByTree_8 : decode cX0_homeByTree 8 = .ok (.if_icmp .ne 9, 3) := by decide +kernel
theorem dX0_homeByTree_11 : decode cX0_homeByTree 11 = .ok (.aload_n 0, 1) := by decide +kernel
theorem dX0_homeByTree_12 : decode cX0_homeByTree 12 = .ok (.iconst 0, 1) := by decide +kernel
theorem dX0_homeByTree_13 : decode cX0_homeByTree 13 = .ok (.invokevirtual 71, 3) := by decide +kernel
theorem dX0_homeByTree_16 : decode cX0_homeByTree 16 = .ok (.istore_n 2, 1) := by decide +kernel
theorem dX0_homeByTree_17 : decode cX0_homeByTree 17 = .ok (.iload_n 2, 1) := by decide +kernel
theorem dX0_homeByTree_18 : decode cX0_homeByTree 18 = .ok (.iconst (-1), 1) := by decide +kernel
theorem dX0_homeByTree_19 : decode cX0_homeByTree 19 = .ok (.if_icmp .ne 8, 3) := by decide +kernel
theorem dX0_homeByTree_22 : decode cX0_homeByTree 22 = .ok (.bipush (-15), 2) := by decide +kernel
theorem dX0_homeByTree_24 : decode cX0_homeByTree 24 = .ok (.goto 9, 3) := by decide +kernel
theorem dX0_homeByTree_27 : decode cX0_homeByTree 27 = .ok (.aload_n 0, 1) := by decide +kernel
theorem dX0_homeByTree_28 : decode cX0_homeByTree 28 = .ok (.getfield 18, 3) := by decide +kernel
theorem dX0_homeByTree_31 : decode cX0_homeByTree 31 = .ok (.iload_n 2, 1) := by decide +kernel
theorem dX0_homeByTree_32 : decode cX0_homeByTree 32 = .ok (.iaload, 1) := by decide +kernel
theorem dX0_homeByTree_33 : decode cX0_homeByTree 33 = .ok (.ireturn, 1) := by decide +kernel
theorem dX0_firstInTree_0 : decode cX0_firstInTree 0 = .ok (.iconst (-1), 1) := by decide +kernel
theorem dX0_firstInTree_1 : decode cX0_firstInTree 1 = .ok (.istore_n 2, 1) := by decide +kernel
theorem dX0_firstInTree_2 : decode cX0_firstInTree 2 = .ok (.aload_n 0, 1) := by decide +kernel
theorem dX0_firstInTree_3 : decode cX0_firstInTree 3 = .ok (.getfield 27, 3) := by decide +kernel
theorem dX0_firstInTree_6 : decode cX0_firstInTree 6 = .ok (.ifCond .ne 7, 3) := by decide +kernel
theorem dX0_firstInTree_9 : decode cX0_firstInTree 9 = .ok (.iconst (-1), 1) := by decide +kernel
theorem dX0_firstInTree_10 : decode cX0_firstInTree 10 = .ok (.goto 4, 3) := by decide +kernel
theorem dX0_firstInTree_13 : decode cX0_firstInTree 13 = .ok (.iconst 0, 1) := by decide +kernel
theorem dX0_firstInTree_14 : decode cX0_firstInTree 14 = .ok (.istore_n 3, 1) := by decide +kernel
theorem dX0_firstInTree_15 : decode cX0_firstInTree 15 = .ok (.iconst 0, 1) := by decide +kernel
theorem dX0_firstInTree_16 : decode cX0_firstInTree 16 = .ok (.istore 4, 2) := by decide +kernel
theorem dX0_firstInTree_18 : decode cX0_firstInTree 18 = .ok (.iload 4, 2) := by decide +kernel
theorem dX0_firstInTree_20 : decode cX0_firstInTree 20 = .ok (.aload_n 0, 1) := by decide +kernel
theorem dX0_firstInTree_21 : decode cX0_firstInTree 21 = .ok (.getfield 27, 3) := by decide +kernel
theorem dX0_firstInTree_24 : decode cX0_firstInTree 24 = .ok (.if_icmp .ge 43, 3) := by decide +kernel
theorem dX0_firstInTree_27 : decode cX0_firstInTree 27 = .ok (.iload_n 3, 1) := by decide +kernel
theorem dX0_firstInTree_28 : decode cX0_firstInTree 28 = .ok (.iconst (-1), 1) := by decide +kernel
theorem dX0_firstInTree_29 : decode cX0_firstInTree 29 = .ok (.if_icmp .eq 38, 3) := by decide +kernel
theorem dX0_firstInTree_32 : decode cX0_firstInTree 32 = .ok (.aload_n 0, 1) := by decide +kernel
theorem dX0_firstInTree_33 : decode cX0_firstInTree 33 = .ok (.getfield 15, 3) := by decide +kernel
theorem dX0_firstInTree_36 : decode cX0_firstInTree 36 = .ok (.iload_n 3, 1) := by decide +kernel
theorem dX0_firstInTree_37 : decode cX0_firstInTree 37 = .ok (.iaload, 1) := by decide +kernel
theorem dX0_firstInTree_38 : decode cX0_firstInTree 38 = .ok (.iload_n 1, 1) := by decide +kernel
theorem dX0_firstInTree_39 : decode cX0_firstInTree 39 = .ok (.if_icmp .lt 15, 3) := by decide +kernel
theorem dX0_firstInTree_42 : decode cX0_firstInTree 42 = .ok (.iload_n 3, 1) := by decide +kernel
theorem dX0_firstInTree_43 : decode cX0_firstInTree 43 = .ok (.istore_n 2, 1) := by decide +kernel
theorem dX0_firstInTree_44 : decode cX0_firstInTree 44 = .ok (.aload_n 0, 1) := by decide +kernel
theorem dX0_firstInTree_45 : decode cX0_firstInTree 45 = .ok (.getfield 37, 3) := by decide +kernel
theorem dX0_firstInTree_48 : decode cX0_firstInTree 48 = .ok (.iload_n 3, 1) := by decide +kernel
theorem dX0_firstInTree_49 : decode cX0_firstInTree 49 = .ok (.iaload, 1) := by decide +kernel
theorem dX0_firstInTree_50 : decode cX0_firstInTree 50 = .ok (.istore_n 3, 1) := by decide +kernel
theorem dX0_firstInTree_51 : decode cX0_firstInTree 51 = .ok (.goto 10, 3) := by decide +kernel
theorem dX0_firstInTree_54 : decode cX0_firstInTree 54 = .ok (.aload_n 0, 1) := by decide +kernel
theorem dX0_firstInTree_55 : decode cX0_firstInTree 55 = .ok (.getfield 40, 3) := by decide +kernel
theorem dX0_firstInTree_58 : decode cX0_firstInTree 58 = .ok (.iload_n 3, 1) := by decide +kernel
theorem dX0_firstInTree_59 : decode cX0_firstInTree 59 = .ok (.iaload, 1) := by decide +kernel
theorem dX0_firstInTree_60 : decode cX0_firstInTree 60 = .ok (.istore_n 3, 1) := by decide +kernel
theorem dX0_firstInTree_61 : decode cX0_firstInTree 61 = .ok (.iinc 4 1, 3) := by decide +kernel
theorem dX0_firstInTree_64 : decode cX0_firstInTree 64 = .ok (.goto (-46), 3) := by decide +kernel
theorem dX0_firstInTree_67 : decode cX0_firstInTree 67 = .ok (.iload_n 2, 1) := by decide +kernel
theorem dX0_firstInTree_68 : decode cX0_firstInTree 68 = .ok (.ireturn, 1) := by decide +kernel
theorem dX0_homeAlong_0 : decode cX0_homeAlong 0 = .ok (.iconst 0, 1) := by decide +kernel
theorem dX0_homeAlong_1 : decode cX0_homeAlong 1 = .ok (.istore_n 2, 1) := by decide +kernel
theorem dX0_homeAlong_2 : decode cX0_homeAlong 2 = .ok (.iload_n 2, 1) := by decide +kernel
theorem dX0_homeAlong_3 : decode cX0_homeAlong 3 = .ok (.sipush 360, 3) := by decide +kernel
theorem dX0_homeAlong_6 : decode cX0_homeAlong 6 = .ok (.if_icmp .ge 34, 3) := by decide +kernel
theorem dX0_homeAlong_9 : decode cX0_homeAlong 9 = .ok (.aload_n 0, 1) := by decide +kernel
theorem dX0_homeAlong_10 : decode cX0_homeAlong 10 = .ok (.getfield 34, 3) := by decide +kernel
theorem dX0_homeAlong_13 : decode cX0_homeAlong 13 = .ok (.iload_n 1, 1) := by decide +kernel
theorem dX0_homeAlong_14 : decode cX0_homeAlong 14 = .ok (.iload_n 2, 1) := by decide +kernel
theorem dX0_homeAlong_15 : decode cX0_homeAlong 15 = .ok (.iadd, 1) := by decide +kernel
theorem dX0_homeAlong_16 : decode cX0_homeAlong 16 = .ok (.sipush 360, 3) := by decide +kernel
theorem dX0_homeAlong_19 : decode cX0_homeAlong 19 = .ok (.irem, 1) := by decide +kernel
theorem dX0_homeAlong_20 : decode cX0_homeAlong 20 = .ok (.iaload, 1) := by decide +kernel
theorem dX0_homeAlong_21 : decode cX0_homeAlong 21 = .ok (.istore_n 3, 1) := by decide +kernel
theorem dX0_homeAlong_22 : decode cX0_homeAlong 22 = .ok (.iload_n 3, 1) := by decide +kernel
theorem dX0_homeAlong_23 : decode cX0_homeAlong 23 = .ok (.iconst (-1), 1) := by decide +kernel
theorem dX0_homeAlong_24 : decode cX0_homeAlong 24 = .ok (.if_icmp .eq 10, 3) := by decide +kernel
theorem dX0_homeAlong_27 : decode cX0_homeAlong 27 = .ok (.aload_n 0, 1) := by decide +kernel
theorem dX0_homeAlong_28 : decode cX0_homeAlong 28 = .ok (.getfield 18, 3) := by decide +kernel
theorem dX0_homeAlong_31 : decode cX0_homeAlong 31 = .ok (.iload_n 3, 1) := by decide +kernel
theorem dX0_homeAlong_32 : decode cX0_homeAlong 32 = .ok (.iaload, 1) := by decide +kernel
theorem dX0_homeAlong_33 : decode cX0_homeAlong 33 = .ok (.ireturn, 1) := by decide +kernel
theorem dX0_homeAlong_34 : decode cX0_homeAlong 34 = .ok (.iinc 2 1, 3) := by decide +kernel
theorem dX0_homeAlong_37 : decode cX0_homeAlong 37 = .ok (.goto (-35), 3) := by decide +kernel
theorem dX0_homeAlong_40 : decode cX0_homeAlong 40 = .ok (.bipush (-15), 2) := by decide +kernel
theorem dX0_homeAlong_42 : decode cX0_homeAlong 42 = .ok (.ireturn, 1) := by decide +kernel
theorem dX0_placeFrom_0 : decode cX0_placeFrom 0 = .ok (.iconst 0, 1) := by decide +kernel
theorem dX0_placeFrom_1 : decode cX0_placeFrom 1 = .ok (.istore_n 2, 1) := by decide +kernel
theorem dX0_placeFrom_2 : decode cX0_placeFrom 2 = .ok (.iload_n 2, 1) := by decide +kernel
theorem dX0_placeFrom_3 : decode cX0_placeFrom 3 = .ok (.aload_n 0, 1) := by decide +kernel
theorem dX0_placeFrom_4 : decode cX0_placeFrom 4 = .ok (.getfield 27, 3) := by decide +kernel
theorem dX0_placeFrom_7 : decode cX0_placeFrom 7 = .ok (.if_icmp .ge 26, 3) := by decide +kernel
theorem dX0_placeFrom_10 : decode cX0_placeFrom 10 = .ok (.aload_n 0, 1) := by decide +kernel
theorem dX0_placeFrom_11 : decode cX0_placeFrom 11 = .ok (.getfield 15, 3) := by decide +kernel
theorem dX0_placeFrom_14 : decode cX0_placeFrom 14 = .ok (.aload_n 0, 1) := by decide +kernel
theorem dX0_placeFrom_15 : decode cX0_placeFrom 15 = .ok (.getfield 9, 3) := by decide +kernel
theorem dX0_placeFrom_18 : decode cX0_placeFrom 18 = .ok (.iload_n 2, 1) := by decide +kernel
theorem dX0_placeFrom_19 : decode cX0_placeFrom 19 = .ok (.iaload, 1) := by decide +kernel
theorem dX0_placeFrom_20 : decode cX0_placeFrom 20 = .ok (.iaload, 1) := by decide +kernel
theorem dX0_placeFrom_21 : decode cX0_placeFrom 21 = .ok (.iload_n 1, 1) := by decide +kernel
theorem dX0_placeFrom_22 : decode cX0_placeFrom 22 = .ok (.if_icmp .lt 5, 3) := by decide +kernel
theorem dX0_placeFrom_25 : decode cX0_placeFrom 25 = .ok (.iload_n 2, 1) := by decide +kernel
theorem dX0_placeFrom_26 : decode cX0_placeFrom 26 = .ok (.ireturn, 1) := by decide +kernel
theorem dX0_placeFrom_27 : decode cX0_placeFrom 27 = .ok (.iinc 2 1, 3) := by decide +kernel
theorem dX0_placeFrom_30 : decode cX0_placeFrom 30 = .ok (.goto (-28), 3) := by decide +kernel
theorem dX0_placeFrom_33 : decode cX0_placeFrom 33 = .ok (.iconst 0, 1) := by decide +kernel
theorem dX0_placeFrom_34 : decode cX0_placeFrom 34 = .ok (.ireturn, 1) := by decide +kernel
set_option maxRecDepth 20000 in
theorem ggX0_stretchOf_J9_floorMod_7cf53 : GoodIn wsX0_stretchOf wsJ9_floorMod_7cf53 := goodIn_r _ [8] (by decide +kernel) (by decide +kernel)
set_option maxRecDepth 20000 in
theorem gX0_stretchOf_J9_floorMod_7cf53 : GoodIn wsX0_stretchOf (va_wsS RX0 74 yJ9_floorMod_7cf53 wsJ9_floorMod_7cf53) := goodIn_app (goodIn_of _ (by decide +kernel)) ggX0_stretchOf_J9_floorMod_7cf53
theorem dX0_stretchOf_0 : decode cX0_stretchOf 0 = .ok (.iconst 0, 1) := by decide +kernel
theorem dX0_stretchOf_1 : decode cX0_stretchOf 1 = .ok (.istore_n 2, 1) := by decide +kernel
theorem dX0_stretchOf_2 : decode cX0_stretchOf 2 = .ok (.iconst 0, 1) := by decide +kernel
theorem dX0_stretchOf_3 : decode cX0_stretchOf 3 = .ok (.istore_n 3, 1) := by decide +kernel
theorem dX0_stretchOf_4 : decode cX0_stretchOf 4 = .ok (.iload_n 3, 1) := by decide +kernel
theorem dX0_stretchOf_5 : decode cX0_stretchOf 5 = .ok (.aload_n 0, 1) := by decide +kernel
theorem dX0_stretchOf_6 : decode cX0_stretchOf 6 = .ok (.getfield 27, 3) := by decide +kernel
theorem dX0_stretchOf_9 : decode cX0_stretchOf 9 = .ok (.if_icmp .ge 75, 3) := by decide +kernel
theorem dX0_stretchOf_12 : decode cX0_stretchOf 12 = .ok (.aload_n 0, 1) := by decide +kernel
theorem dX0_stretchOf_13 : decode cX0_stretchOf 13 = .ok (.getfield 9, 3) := by decide +kernel
theorem dX0_stretchOf_16 : decode cX0_stretchOf 16 = .ok (.iload_n 3, 1) := by decide +kernel
theorem dX0_stretchOf_17 : decode cX0_stretchOf 17 = .ok (.iaload, 1) := by decide +kernel
theorem dX0_stretchOf_18 : decode cX0_stretchOf 18 = .ok (.istore 4, 2) := by decide +kernel
theorem dX0_stretchOf_20 : decode cX0_stretchOf 20 = .ok (.aload_n 0, 1) := by decide +kernel
theorem dX0_stretchOf_21 : decode cX0_stretchOf 21 = .ok (.getfield 18, 3) := by decide +kernel
theorem dX0_stretchOf_24 : decode cX0_stretchOf 24 = .ok (.iload 4, 2) := by decide +kernel
theorem dX0_stretchOf_26 : decode cX0_stretchOf 26 = .ok (.iaload, 1) := by decide +kernel
theorem dX0_stretchOf_27 : decode cX0_stretchOf 27 = .ok (.iload_n 1, 1) := by decide +kernel
theorem dX0_stretchOf_28 : decode cX0_stretchOf 28 = .ok (.if_icmp .ne 50, 3) := by decide +kernel
theorem dX0_stretchOf_31 : decode cX0_stretchOf 31 = .ok (.aload_n 0, 1) := by decide +kernel
theorem dX0_stretchOf_32 : decode cX0_stretchOf 32 = .ok (.getfield 9, 3) := by decide +kernel
theorem dX0_stretchOf_35 : decode cX0_stretchOf 35 = .ok (.iload_n 3, 1) := by decide +kernel
theorem dX0_stretchOf_36 : decode cX0_stretchOf 36 = .ok (.ifCond .ne 12, 3) := by decide +kernel
theorem dX0_stretchOf_39 : decode cX0_stretchOf 39 = .ok (.aload_n 0, 1) := by decide +kernel
theorem dX0_stretchOf_40 : decode cX0_stretchOf 40 = .ok (.getfield 27, 3) := by decide +kernel
theorem dX0_stretchOf_43 : decode cX0_stretchOf 43 = .ok (.iconst 1, 1) := by decide +kernel
theorem dX0_stretchOf_44 : decode cX0_stretchOf 44 = .ok (.isub, 1) := by decide +kernel
theorem dX0_stretchOf_45 : decode cX0_stretchOf 45 = .ok (.goto 6, 3) := by decide +kernel
theorem dX0_stretchOf_48 : decode cX0_stretchOf 48 = .ok (.iload_n 3, 1) := by decide +kernel
theorem dX0_stretchOf_49 : decode cX0_stretchOf 49 = .ok (.iconst 1, 1) := by decide +kernel
theorem dX0_stretchOf_50 : decode cX0_stretchOf 50 = .ok (.isub, 1) := by decide +kernel
theorem dX0_stretchOf_51 : decode cX0_stretchOf 51 = .ok (.iaload, 1) := by decide +kernel
theorem dX0_stretchOf_52 : decode cX0_stretchOf 52 = .ok (.istore 5, 2) := by decide +kernel
theorem dX0_stretchOf_54 : decode cX0_stretchOf 54 = .ok (.iload_n 2, 1) := by decide +kernel
theorem dX0_stretchOf_55 : decode cX0_stretchOf 55 = .ok (.aload_n 0, 1) := by decide +kernel
theorem dX0_stretchOf_56 : decode cX0_stretchOf 56 = .ok (.getfield 15, 3) := by decide +kernel
theorem dX0_stretchOf_59 : decode cX0_stretchOf 59 = .ok (.iload 4, 2) := by decide +kernel
theorem dX0_stretchOf_61 : decode cX0_stretchOf 61 = .ok (.iaload, 1) := by decide +kernel
theorem dX0_stretchOf_62 : decode cX0_stretchOf 62 = .ok (.aload_n 0, 1) := by decide +kernel
theorem dX0_stretchOf_63 : decode cX0_stretchOf 63 = .ok (.getfield 15, 3) := by decide +kernel
theorem dX0_stretchOf_66 : decode cX0_stretchOf 66 = .ok (.iload 5, 2) := by decide +kernel
theorem dX0_stretchOf_68 : decode cX0_stretchOf 68 = .ok (.iaload, 1) := by decide +kernel
theorem dX0_stretchOf_69 : decode cX0_stretchOf 69 = .ok (.isub, 1) := by decide +kernel
theorem dX0_stretchOf_70 : decode cX0_stretchOf 70 = .ok (.sipush 360, 3) := by decide +kernel
theorem dX0_stretchOf_73 : decode cX0_stretchOf 73 = .ok (.invokestatic 74, 3) := by decide +kernel
theorem dX0_stretchOf_76 : decode cX0_stretchOf 76 = .ok (.iadd, 1) := by decide +kernel
theorem dX0_stretchOf_77 : decode cX0_stretchOf 77 = .ok (.istore_n 2, 1) := by decide +kernel
theorem dX0_stretchOf_78 : decode cX0_stretchOf 78 = .ok (.iinc 3 1, 3) := by decide +kernel
theorem dX0_stretchOf_81 : decode cX0_stretchOf 81 = .ok (.goto (-77), 3) := by decide +kernel
theorem dX0_stretchOf_84 : decode cX0_stretchOf 84 = .ok (.iload_n 2, 1) := by decide +kernel
theorem dX0_stretchOf_85 : decode cX0_stretchOf 85 = .ok (.ireturn, 1) := by decide +kernel
set_option maxRecDepth 20000 in
theorem ggX0_neighboursOf_X0_ownerBehind : GoodIn wsX0_neighboursOf wsX0_ownerBehind := goodIn_r _ [8, 1, 2, 3, 9, 10, 11, 12, 13, 14, 15, 16, 17, 18] (by decide +kernel) (by decide +kernel)
set_option maxRecDepth 20000 in
theorem gX0_neighboursOf_X0_ownerBehind : GoodIn wsX0_neighboursOf (wsV RX0 77 RX0 yX0_ownerBehind wsX0_ownerBehind) := goodIn_app (goodIn_of _ (by decide +kernel)) ggX0_neighboursOf_X0_ownerBehind
theorem dX0_neighboursOf_0 : decode cX0_neighboursOf 0 = .ok (.iconst 0, 1) := by decide +kernel
theorem dX0_neighboursOf_1 : decode cX0_neighboursOf 1 = .ok (.istore_n 2, 1) := by decide +kernel
theorem dX0_neighboursOf_2 : decode cX0_neighboursOf 2 = .ok (.iconst 0, 1) := by decide +kernel
theorem dX0_neighboursOf_3 : decode cX0_neighboursOf 3 = .ok (.istore_n 3, 1) := by decide +kernel
theorem dX0_neighboursOf_4 : decode cX0_neighboursOf 4 = .ok (.iload_n 3, 1) := by decide +kernel
theorem dX0_neighboursOf_5 : decode cX0_neighboursOf 5 = .ok (.aload_n 0, 1) := by decide +kernel
theorem dX0_neighboursOf_6 : decode cX0_neighboursOf 6 = .ok (.getfield 27, 3) := by decide +kernel
theorem dX0_neighboursOf_9 : decode cX0_neighboursOf 9 = .ok (.if_icmp .ge 49, 3) := by decide +kernel
theorem dX0_neighboursOf_12 : decode cX0_neighboursOf 12 = .ok (.aload_n 0, 1) := by decide +kernel
theorem dX0_neighboursOf_13 : decode cX0_neighboursOf 13 = .ok (.getfield 18, 3) := by decide +kernel
theorem dX0_neighboursOf_16 : decode cX0_neighboursOf 16 = .ok (.aload_n 0, 1) := by decide +kernel
theorem dX0_neighboursOf_17 : decode cX0_neighboursOf 17 = .ok (.getfield 9, 3) := by decide +kernel
theorem dX0_neighboursOf_20 : decode cX0_neighboursOf 20 = .ok (.iload_n 3, 1) := by decide +kernel
theorem dX0_neighboursOf_21 : decode cX0_neighboursOf 21 = .ok (.iaload, 1) := by decide +kernel
theorem dX0_neighboursOf_22 : decode cX0_neighboursOf 22 = .ok (.iaload, 1) := by decide +kernel
theorem dX0_neighboursOf_23 : decode cX0_neighboursOf 23 = .ok (.iload_n 1, 1) := by decide +kernel
theorem dX0_neighboursOf_24 : decode cX0_neighboursOf 24 = .ok (.if_icmp .ne 28, 3) := by decide +kernel
theorem dX0_neighboursOf_27 : decode cX0_neighboursOf 27 = .ok (.aload_n 0, 1) := by decide +kernel
theorem dX0_neighboursOf_28 : decode cX0_neighboursOf 28 = .ok (.iload_n 3, 1) := by decide +kernel
theorem dX0_neighboursOf_29 : decode cX0_neighboursOf 29 = .ok (.iload_n 1, 1) := by decide +kernel
theorem dX0_neighboursOf_30 : decode cX0_neighboursOf 30 = .ok (.invokevirtual 77, 3) := by decide +kernel
theorem dX0_neighboursOf_33 : decode cX0_neighboursOf 33 = .ok (.istore 4, 2) := by decide +kernel
theorem dX0_neighboursOf_35 : decode cX0_neighboursOf 35 = .ok (.iload_n 2, 1) := by decide +kernel
theorem dX0_neighboursOf_36 : decode cX0_neighboursOf 36 = .ok (.iload 4, 2) := by decide +kernel
theorem dX0_neighboursOf_38 : decode cX0_neighboursOf 38 = .ok (.iconst (-1), 1) := by decide +kernel
theorem dX0_neighboursOf_39 : decode cX0_neighboursOf 39 = .ok (.if_icmp .ne 7, 3) := by decide +kernel
theorem dX0_neighboursOf_42 : decode cX0_neighboursOf 42 = .ok (.iconst 0, 1) := by decide +kernel
theorem dX0_neighboursOf_43 : decode cX0_neighboursOf 43 = .ok (.goto 7, 3) := by decide +kernel
theorem dX0_neighboursOf_46 : decode cX0_neighboursOf 46 = .ok (.iconst 1, 1) := by decide +kernel
theorem dX0_neighboursOf_47 : decode cX0_neighboursOf 47 = .ok (.iload 4, 2) := by decide +kernel
theorem dX0_neighboursOf_49 : decode cX0_neighboursOf 49 = .ok (.ishl, 1) := by decide +kernel
theorem dX0_neighboursOf_50 : decode cX0_neighboursOf 50 = .ok (.ior, 1) := by decide +kernel
theorem dX0_neighboursOf_51 : decode cX0_neighboursOf 51 = .ok (.istore_n 2, 1) := by decide +kernel
theorem dX0_neighboursOf_52 : decode cX0_neighboursOf 52 = .ok (.iinc 3 1, 3) := by decide +kernel
theorem dX0_neighboursOf_55 : decode cX0_neighboursOf 55 = .ok (.goto (-51), 3) := by decide +kernel
theorem dX0_neighboursOf_58 : decode cX0_neighboursOf 58 = .ok (.iload_n 2, 1) := by decide +kernel
theorem dX0_neighboursOf_59 : decode cX0_neighboursOf 59 = .ok (.ireturn, 1) := by decide +kernel
theorem dX0_ownerBehind_0 : decode cX0_ownerBehind 0 = .ok (.iconst 1, 1) := by decide +kernel
theorem dX0_ownerBehind_1 : decode cX0_ownerBehind 1 = .ok (.istore_n 3, 1) := by decide +kernel
theorem dX0_ownerBehind_2 : decode cX0_ownerBehind 2 = .ok (.iload_n 3, 1) := by decide +kernel
theorem dX0_ownerBehind_3 : decode cX0_ownerBehind 3 = .ok (.aload_n 0, 1) := by decide +kernel
theorem dX0_ownerBehind_4 : decode cX0_ownerBehind 4 = .ok (.getfield 27, 3) := by decide +kernel
theorem dX0_ownerBehind_7 : decode cX0_ownerBehind 7 = .ok (.if_icmp .ge 38, 3) := by decide +kernel
theorem dX0_ownerBehind_10 : decode cX0_ownerBehind 10 = .ok (.aload_n 0, 1) := by decide +kernel
theorem dX0_ownerBehind_11 : decode cX0_ownerBehind 11 = .ok (.getfield 18, 3) := by decide +kernel
theorem dX0_ownerBehind_14 : decode cX0_ownerBehind 14 = .ok (.aload_n 0, 1) := by decide +kernel
theorem dX0_ownerBehind_15 : decode cX0_ownerBehind 15 = .ok (.getfield 9, 3) := by decide +kernel
theorem dX0_ownerBehind_18 : decode cX0_ownerBehind 18 = .ok (.iload_n 1, 1) := by decide +kernel
theorem dX0_ownerBehind_19 : decode cX0_ownerBehind 19 = .ok (.iload_n 3, 1) := by decide +kernel
theorem dX0_ownerBehind_20 : decode cX0_ownerBehind 20 = .ok (.iadd, 1) := by decide +kernel
theorem dX0_ownerBehind_21 : decode cX0_ownerBehind 21 = .ok (.aload_n 0, 1) := by decide +kernel
theorem dX0_ownerBehind_22 : decode cX0_ownerBehind 22 = .ok (.getfield 27, 3) := by decide +kernel
theorem dX0_ownerBehind_25 : decode cX0_ownerBehind 25 = .ok (.irem, 1) := by decide +kernel
theorem dX0_ownerBehind_26 : decode cX0_ownerBehind 26 = .ok (.iaload, 1) := by decide +kernel
theorem dX0_ownerBehind_27 : decode cX0_ownerBehind 27 = .ok (.iaload, 1) := by decide +kernel
theorem dX0_ownerBehind_28 : decode cX0_ownerBehind 28 = .ok (.istore 4, 2) := by decide +kernel
theorem dX0_ownerBehind_30 : decode cX0_ownerBehind 30 = .ok (.iload 4, 2) := by decide +kernel
theorem dX0_ownerBehind_32 : decode cX0_ownerBehind 32 = .ok (.iload_n 2, 1) := by decide +kernel
theorem dX0_ownerBehind_33 : decode cX0_ownerBehind 33 = .ok (.if_icmp .eq 6, 3) := by decide +kernel
theorem dX0_ownerBehind_36 : decode cX0_ownerBehind 36 = .ok (.iload 4, 2) := by decide +kernel
theorem dX0_ownerBehind_38 : decode cX0_ownerBehind 38 = .ok (.ireturn, 1) := by decide +kernel
theorem dX0_ownerBehind_39 : decode cX0_ownerBehind 39 = .ok (.iinc 3 1, 3) := by decide +kernel
theorem dX0_ownerBehind_42 : decode cX0_ownerBehind 42 = .ok (.goto (-40), 3) := by decide +kernel
theorem dX0_ownerBehind_45 : decode cX0_ownerBehind 45 = .ok (.iconst (-1), 1) := by decide +kernel
theorem dX0_ownerBehind_46 : decode cX0_ownerBehind 46 = .ok (.ireturn, 1) := by decide +kernel
theorem dX1_init_0 : decode cX1_init 0 = .ok (.aload_n 0, 1) := by decide +kernel
theorem dX1_init_1 : decode cX1_init 1 = .ok (.invokespecial 3, 3) := by decide +kernel
theorem dX1_init_4 : decode cX1_init 4 = .ok (.aload_n 0, 1) := by decide +kernel
theorem dX1_init_5 : decode cX1_init 5 = .ok (.bipush 8, 2) := by decide +kernel
theorem dX1_init_7 : decode cX1_init 7 = .ok (.newarray .int, 2) := by decide +kernel
theorem dX1_init_9 : decode cX1_init 9 = .ok (.putfield 9, 3) := by decide +kernel
theorem dX1_init_12 : decode cX1_init 12 = .ok (.aload_n 0, 1) := by decide +kernel
theorem dX1_init_13 : decode cX1_init 13 = .ok (.bipush 8, 2) := by decide +kernel
theorem dX1_init_15 : decode cX1_init 15 = .ok (.newarray .boolean, 2) := by decide +kernel
theorem dX1_init_17 : decode cX1_init 17 = .ok (.putfield 15, 3) := by decide +kernel
theorem dX1_init_20 : decode cX1_init 20 = .ok (.aload_n 0, 1) := by decide +kernel
theorem dX1_init_21 : decode cX1_init 21 = .ok (.bipush 24, 2) := by decide +kernel
theorem dX1_init_23 : decode cX1_init 23 = .ok (.newarray .int, 2) := by decide +kernel
theorem dX1_init_25 : decode cX1_init 25 = .ok (.putfield 19, 3) := by decide +kernel
theorem dX1_init_28 : decode cX1_init 28 = .ok (.aload_n 0, 1) := by decide +kernel
theorem dX1_init_29 : decode cX1_init 29 = .ok (.bipush 24, 2) := by decide +kernel
theorem dX1_init_31 : decode cX1_init 31 = .ok (.newarray .int, 2) := by decide +kernel
theorem dX1_init_33 : decode cX1_init 33 = .ok (.putfield 22, 3) := by decide +kernel
theorem dX1_init_36 : decode cX1_init 36 = .ok (.aload_n 0, 1) := by decide +kernel
theorem dX1_init_37 : decode cX1_init 37 = .ok (.iconst 0, 1) := by decide +kernel
theorem dX1_init_38 : decode cX1_init 38 = .ok (.putfield 25, 3) := by decide +kernel
theorem dX1_init_41 : decode cX1_init 41 = .ok (.aload_n 0, 1) := by decide +kernel
theorem dX1_init_42 : decode cX1_init 42 = .ok (.iconst 0, 1) := by decide +kernel
theorem dX1_init_43 : decode cX1_init 43 = .ok (.putfield 29, 3) := by decide +kernel
theorem dX1_init_46 : decode cX1_init 46 = .ok (.aload_n 0, 1) := by decide +kernel
theorem dX1_init_47 : decode cX1_init 47 = .ok (.bipush 60, 2) := by decide +kernel
theorem dX1_init_49 : decode cX1_init 49 = .ok (.putfield 32, 3) := by decide +kernel
theorem dX1_init_52 : decode cX1_init 52 = .ok (.aload_n 0, 1) := by decide +kernel
theorem dX1_init_53 : decode cX1_init 53 = .ok (.iconst 0, 1) := by decide +kernel
theorem dX1_init_54 : decode cX1_init 54 = .ok (.putfield 35, 3) := by decide +kernel
theorem dX1_init_57 : decode cX1_init 57 = .ok (.return_, 1) := by decide +kernel
theorem dX1_takeFrom_0 : decode cX1_takeFrom 0 = .ok (.aload_n 1, 1) := by decide +kernel
theorem dX1_takeFrom_1 : decode cX1_takeFrom 1 = .ok (.getfield 9, 3) := by decide +kernel
theorem dX1_takeFrom_4 : decode cX1_takeFrom 4 = .ok (.iconst 0, 1) := by decide +kernel
theorem dX1_takeFrom_5 : decode cX1_takeFrom 5 = .ok (.aload_n 0, 1) := by decide +kernel
theorem dX1_takeFrom_6 : decode cX1_takeFrom 6 = .ok (.getfield 9, 3) := by decide +kernel
theorem dX1_takeFrom_9 : decode cX1_takeFrom 9 = .ok (.iconst 0, 1) := by decide +kernel
theorem dX1_takeFrom_10 : decode cX1_takeFrom 10 = .ok (.bipush 8, 2) := by decide +kernel
theorem dX1_takeFrom_12 : decode cX1_takeFrom 12 = .ok (.invokestatic 38, 3) := by decide +kernel
theorem dX1_takeFrom_15 : decode cX1_takeFrom 15 = .ok (.aload_n 1, 1) := by decide +kernel
theorem dX1_takeFrom_16 : decode cX1_takeFrom 16 = .ok (.getfield 15, 3) := by decide +kernel
theorem dX1_takeFrom_19 : decode cX1_takeFrom 19 = .ok (.iconst 0, 1) := by decide +kernel
theorem dX1_takeFrom_20 : decode cX1_takeFrom 20 = .ok (.aload_n 0, 1) := by decide +kernel
theorem dX1_takeFrom_21 : decode cX1_takeFrom 21 = .ok (.getfield 15, 3) := by decide +kernel
theorem dX1_takeFrom_24 : decode cX1_takeFrom 24 = .ok (.iconst 0, 1) := by decide +kernel
theorem dX1_takeFrom_25 : decode cX1_takeFrom 25 = .ok (.bipush 8, 2) := by decide +kernel
theorem dX1_takeFrom_27 : decode cX1_takeFrom 27 = .ok (.invokestatic 38, 3) := by decide +kernel
theorem dX1_takeFrom_30 : decode cX1_takeFrom 30 = .ok (.aload_n 1, 1) := by decide +kernel
theorem dX1_takeFrom_31 : decode cX1_takeFrom 31 = .ok (.getfield 19, 3) := by decide +kernel
theorem dX1_takeFrom_34 : decode cX1_takeFrom 34 = .ok (.iconst 0, 1) := by decide +kernel
theorem dX1_takeFrom_35 : decode cX1_takeFrom 35 = .ok (.aload_n 0, 1) := by decide +kernel
theorem dX1_takeFrom_36 : decode cX1_takeFrom 36 = .ok (.getfield 19, 3) := by decide +kernel
theorem dX1_takeFrom_39 : decode cX1_takeFrom 39 = .ok (.iconst 0, 1) := by decide +kernel
theorem dX1_takeFrom_40 : decode cX1_takeFrom 40 = .ok (.bipush 24, 2) := by decide +kernel
theorem dX1_takeFrom_42 : decode cX1_takeFrom 42 = .ok (.invokestatic 38, 3) := by decide +kernel
theorem dX1_takeFrom_45 : decode cX1_takeFrom 45 = .ok (.aload_n 1, 1) := by decide +kernel
theorem dX1_takeFrom_46 : decode cX1_takeFrom 46 = .ok (.getfield 22, 3) := by decide +kernel
theorem dX1_takeFrom_49 : decode cX1_takeFrom 49 = .ok (.iconst 0, 1) := by decide +kernel
theorem dX1_takeFrom_50 : decode cX1_takeFrom 50 = .ok (.aload_n 0, 1) := by decide +kernel
theorem dX1_takeFrom_51 : decode cX1_takeFrom 51 = .ok (.getfield 22, 3) := by decide +kernel
theorem dX1_takeFrom_54 : decode cX1_takeFrom 54 = .ok (.iconst 0, 1) := by decide +kernel
theorem dX1_takeFrom_55 : decode cX1_takeFrom 55 = .ok (.bipush 24, 2) := by decide +kernel
theorem dX1_takeFrom_57 : decode cX1_takeFrom 57 = .ok (.invokestatic 38, 3) := by decide +kernel
theorem dX1_takeFrom_60 : decode cX1_takeFrom 60 = .ok (.aload_n 0, 1) := by decide +kernel
theorem dX1_takeFrom_61 : decode cX1_takeFrom 61 = .ok (.aload_n 1, 1) := by decide +kernel
theorem dX1_takeFrom_62 : decode cX1_takeFrom 62 = .ok (.getfield 25, 3) := by decide +kernel
theorem dX1_takeFrom_65 : decode cX1_takeFrom 65 = .ok (.putfield 25, 3) := by decide +kernel
theorem dX1_takeFrom_68 : decode cX1_takeFrom 68 = .ok (.aload_n 0, 1) := by decide +kernel
theorem dX1_takeFrom_69 : decode cX1_takeFrom 69 = .ok (.aload_n 1, 1) := by decide +kernel
theorem dX1_takeFrom_70 : decode cX1_takeFrom 70 = .ok (.getfield 29, 3) := by decide +kernel
theorem dX1_takeFrom_73 : decode cX1_takeFrom 73 = .ok (.putfield 29, 3) := by decide +kernel
theorem dX1_takeFrom_76 : decode cX1_takeFrom 76 = .ok (.aload_n 0, 1) := by decide +kernel
theorem dX1_takeFrom_77 : decode cX1_takeFrom 77 = .ok (.aload_n 1, 1) := by decide +kernel
theorem dX1_takeFrom_78 : decode cX1_takeFrom 78 = .ok (.getfield 32, 3) := by decide +kernel
theorem dX1_takeFrom_81 : decode cX1_takeFrom 81 = .ok (.putfield 32, 3) := by decide +kernel
theorem dX1_takeFrom_84 : decode cX1_takeFrom 84 = .ok (.aload_n 0, 1) := by decide +kernel
theorem dX1_takeFrom_85 : decode cX1_takeFrom 85 = .ok (.aload_n 1, 1) := by decide +kernel
theorem dX1_takeFrom_86 : decode cX1_takeFrom 86 = .ok (.getfield 35, 3) := by decide +kernel
theorem dX1_takeFrom_89 : decode cX1_takeFrom 89 = .ok (.putfield 35, 3) := by decide +kernel
theorem dX1_takeFrom_92 : decode cX1_takeFrom 92 = .ok (.return_, 1) := by decide +kernel
theorem dX1_hasPier_0 : decode cX1_hasPier 0 = .ok (.iload_n 1, 1) := by decide +kernel
theorem dX1_hasPier_1 : decode cX1_hasPier 1 = .ok (.ifCond .lt 15, 3) := by decide +kernel
theorem dX1_hasPier_4 : decode cX1_hasPier 4 = .ok (.iload_n 1, 1) := by decide +kernel
theorem dX1_hasPier_5 : decode cX1_hasPier 5 = .ok (.aload_n 0, 1) := by decide +kernel
theorem dX1_hasPier_6 : decode cX1_hasPier 6 = .ok (.getfield 25, 3) := by decide +kernel
theorem dX1_hasPier_9 : decode cX1_hasPier 9 = .ok (.if_icmp .ge 7, 3) := by decide +kernel
theorem dX1_hasPier_12 : decode cX1_hasPier 12 = .ok (.iconst 1, 1) := by decide +kernel
theorem dX1_hasPier_13 : decode cX1_hasPier 13 = .ok (.goto 4, 3) := by decide +kernel
theorem dX1_hasPier_16 : decode cX1_hasPier 16 = .ok (.iconst 0, 1) := by decide +kernel
theorem dX1_hasPier_17 : decode cX1_hasPier 17 = .ok (.ireturn, 1) := by decide +kernel
theorem dX1_hasBarge_0 : decode cX1_hasBarge 0 = .ok (.iload_n 1, 1) := by decide +kernel
theorem dX1_hasBarge_1 : decode cX1_hasBarge 1 = .ok (.ifCond .lt 15, 3) := by decide +kernel
theorem dX1_hasBarge_4 : decode cX1_hasBarge 4 = .ok (.iload_n 1, 1) := by decide +kernel
theorem dX1_hasBarge_5 : decode cX1_hasBarge 5 = .ok (.aload_n 0, 1) := by decide +kernel
theorem dX1_hasBarge_6 : decode cX1_hasBarge 6 = .ok (.getfield 29, 3) := by decide +kernel
theorem dX1_hasBarge_9 : decode cX1_hasBarge 9 = .ok (.if_icmp .ge 7, 3) := by decide +kernel
theorem dX1_hasBarge_12 : decode cX1_hasBarge 12 = .ok (.iconst 1, 1) := by decide +kernel
theorem dX1_hasBarge_13 : decode cX1_hasBarge 13 = .ok (.goto 4, 3) := by decide +kernel
theorem dX1_hasBarge_16 : decode cX1_hasBarge 16 = .ok (.iconst 0, 1) := by decide +kernel
theorem dX1_hasBarge_17 : decode cX1_hasBarge 17 = .ok (.ireturn, 1) := by decide +kernel
theorem dX1_addPier_0 : decode cX1_addPier 0 = .ok (.aload_n 0, 1) := by decide +kernel
theorem dX1_addPier_1 : decode cX1_addPier 1 = .ok (.getfield 25, 3) := by decide +kernel
theorem dX1_addPier_4 : decode cX1_addPier 4 = .ok (.bipush 8, 2) := by decide +kernel
theorem dX1_addPier_6 : decode cX1_addPier 6 = .ok (.if_icmp .ge 33, 3) := by decide +kernel
theorem dX1_addPier_9 : decode cX1_addPier 9 = .ok (.aload_n 0, 1) := by decide +kernel
theorem dX1_addPier_10 : decode cX1_addPier 10 = .ok (.getfield 9, 3) := by decide +kernel
theorem dX1_addPier_13 : decode cX1_addPier 13 = .ok (.aload_n 0, 1) := by decide +kernel
theorem dX1_addPier_14 : decode cX1_addPier 14 = .ok (.getfield 25, 3) := by decide +kernel
theorem dX1_addPier_17 : decode cX1_addPier 17 = .ok (.iload_n 1, 1) := by decide +kernel
theorem dX1_addPier_18 : decode cX1_addPier 18 = .ok (.iastore, 1) := by decide +kernel
theorem dX1_addPier_19 : decode cX1_addPier 19 = .ok (.aload_n 0, 1) := by decide +kernel
theorem dX1_addPier_20 : decode cX1_addPier 20 = .ok (.getfield 15, 3) := by decide +kernel
theorem dX1_addPier_23 : decode cX1_addPier 23 = .ok (.aload_n 0, 1) := by decide +kernel
theorem dX1_addPier_24 : decode cX1_addPier 24 = .ok (.getfield 25, 3) := by decide +kernel
theorem dX1_addPier_27 : decode cX1_addPier 27 = .ok (.iconst 1, 1) := by decide +kernel
theorem dX1_addPier_28 : decode cX1_addPier 28 = .ok (.bastore, 1) := by decide +kernel
theorem dX1_addPier_29 : decode cX1_addPier 29 = .ok (.aload_n 0, 1) := by decide +kernel
theorem dX1_addPier_30 : decode cX1_addPier 30 = .ok (.dup, 1) := by decide +kernel
theorem dX1_addPier_31 : decode cX1_addPier 31 = .ok (.getfield 25, 3) := by decide +kernel
theorem dX1_addPier_34 : decode cX1_addPier 34 = .ok (.iconst 1, 1) := by decide +kernel
theorem dX1_addPier_35 : decode cX1_addPier 35 = .ok (.iadd, 1) := by decide +kernel
theorem dX1_addPier_36 : decode cX1_addPier 36 = .ok (.putfield 25, 3) := by decide +kernel
theorem dX1_addPier_39 : decode cX1_addPier 39 = .ok (.return_, 1) := by decide +kernel
theorem dX1_addBarge_0 : decode cX1_addBarge 0 = .ok (.aload_n 0, 1) := by decide +kernel
theorem dX1_addBarge_1 : decode cX1_addBarge 1 = .ok (.getfield 29, 3) := by decide +kernel
theorem dX1_addBarge_4 : decode cX1_addBarge 4 = .ok (.bipush 24, 2) := by decide +kernel
theorem dX1_addBarge_6 : decode cX1_addBarge 6 = .ok (.if_icmp .ge 33, 3) := by decide +kernel
theorem dX1_addBarge_9 : decode cX1_addBarge 9 = .ok (.aload_n 0, 1) := by decide +kernel
theorem dX1_addBarge_10 : decode cX1_addBarge 10 = .ok (.getfield 19, 3) := by decide +kernel
theorem dX1_addBarge_13 : decode cX1_addBarge 13 = .ok (.aload_n 0, 1) := by decide +kernel
theorem dX1_addBarge_14 : decode cX1_addBarge 14 = .ok (.getfield 29, 3) := by decide +kernel
theorem dX1_addBarge_17 : decode cX1_addBarge 17 = .ok (.iload_n 1, 1) := by decide +kernel
theorem dX1_addBarge_18 : decode cX1_addBarge 18 = .ok (.iastore, 1) := by decide +kernel
theorem dX1_addBarge_19 : decode cX1_addBarge 19 = .ok (.aload_n 0, 1) := by decide +kernel
theorem dX1_addBarge_20 : decode cX1_addBarge 20 = .ok (.getfield 22, 3) := by decide +kernel
theorem dX1_addBarge_23 : decode cX1_addBarge 23 = .ok (.aload_n 0, 1) := by decide +kernel
theorem dX1_addBarge_24 : decode cX1_addBarge 24 = .ok (.getfield 29, 3) := by decide +kernel
theorem dX1_addBarge_27 : decode cX1_addBarge 27 = .ok (.iload_n 2, 1) := by decide +kernel
theorem dX1_addBarge_28 : decode cX1_addBarge 28 = .ok (.iastore, 1) := by decide +kernel
theorem dX1_addBarge_29 : decode cX1_addBarge 29 = .ok (.aload_n 0, 1) := by decide +kernel
theorem dX1_addBarge_30 : decode cX1_addBarge 30 = .ok (.dup, 1) := by decide +kernel
theorem dX1_addBarge_31 : decode cX1_addBarge 31 = .ok (.getfield 29, 3) := by decide +kernel
theorem dX1_addBarge_34 : decode cX1_addBarge 34 = .ok (.iconst 1, 1) := by decide +kernel
theorem dX1_addBarge_35 : decode cX1_addBarge 35 = .ok (.iadd, 1) := by decide +kernel
theorem dX1_addBarge_36 : decode cX1_addBarge 36 = .ok (.putfield 29, 3) := by decide +kernel
theorem dX1_addBarge_39 : decode cX1_addBarge 39 = .ok (.return_, 1) := by decide +kernel
set_option maxRecDepth 20000 in
theorem ggX1_removeBarge_X1_hasBarge : GoodIn wsX1_removeBarge wsX1_hasBarge := goodIn_r _ [12, 1, 13, 14, 15, 16, 17, 18, 19, 20] (by decide +kernel) (by decide +kernel)
set_option maxRecDepth 20000 in
theorem gX1_removeBarge_X1_hasBarge : GoodIn wsX1_removeBarge (wsV RX1 44 RX1 yX1_hasBarge wsX1_hasBarge) := goodIn_app (goodIn_of _ (by decide +kernel)) ggX1_removeBarge_X1_hasBarge
theorem dX1_removeBarge_0 : decode cX1_removeBarge 0 = .ok (.aload_n 0, 1) := by decide +kernel
theorem dX1_removeBarge_1 : decode cX1_removeBarge 1 = .ok (.iload_n 1, 1) := by decide +kernel
theorem dX1_removeBarge_2 : decode cX1_removeBarge 2 = .ok (.invokevirtual 44, 3) := by decide +kernel
theorem dX1_removeBarge_5 : decode cX1_removeBarge 5 = .ok (.ifCond .eq 54, 3) := by decide +kernel
theorem dX1_removeBarge_8 : decode cX1_removeBarge 8 = .ok (.aload_n 0, 1) := by decide +kernel
theorem dX1_removeBarge_9 : decode cX1_removeBarge 9 = .ok (.getfield 29, 3) := by decide +kernel
theorem dX1_removeBarge_12 : decode cX1_removeBarge 12 = .ok (.iload_n 1, 1) := by decide +kernel
theorem dX1_removeBarge_13 : decode cX1_removeBarge 13 = .ok (.isub, 1) := by decide +kernel
theorem dX1_removeBarge_14 : decode cX1_removeBarge 14 = .ok (.iconst 1, 1) := by decide +kernel
theorem dX1_removeBarge_15 : decode cX1_removeBarge 15 = .ok (.isub, 1) := by decide +kernel
theorem dX1_removeBarge_16 : decode cX1_removeBarge 16 = .ok (.istore_n 2, 1) := by decide +kernel
theorem dX1_removeBarge_17 : decode cX1_removeBarge 17 = .ok (.aload_n 0, 1) := by decide +kernel
theorem dX1_removeBarge_18 : decode cX1_removeBarge 18 = .ok (.getfield 19, 3) := by decide +kernel
theorem dX1_removeBarge_21 : decode cX1_removeBarge 21 = .ok (.iload_n 1, 1) := by decide +kernel
theorem dX1_removeBarge_22 : decode cX1_removeBarge 22 = .ok (.iconst 1, 1) := by decide +kernel
theorem dX1_removeBarge_23 : decode cX1_removeBarge 23 = .ok (.iadd, 1) := by decide +kernel
theorem dX1_removeBarge_24 : decode cX1_removeBarge 24 = .ok (.aload_n 0, 1) := by decide +kernel
theorem dX1_removeBarge_25 : decode cX1_removeBarge 25 = .ok (.getfield 19, 3) := by decide +kernel
theorem dX1_removeBarge_28 : decode cX1_removeBarge 28 = .ok (.iload_n 1, 1) := by decide +kernel
theorem dX1_removeBarge_29 : decode cX1_removeBarge 29 = .ok (.iload_n 2, 1) := by decide +kernel
theorem dX1_removeBarge_30 : decode cX1_removeBarge 30 = .ok (.invokestatic 38, 3) := by decide +kernel
theorem dX1_removeBarge_33 : decode cX1_removeBarge 33 = .ok (.aload_n 0, 1) := by decide +kernel
theorem dX1_removeBarge_34 : decode cX1_removeBarge 34 = .ok (.getfield 22, 3) := by decide +kernel
theorem dX1_removeBarge_37 : decode cX1_removeBarge 37 = .ok (.iload_n 1, 1) := by decide +kernel
theorem dX1_removeBarge_38 : decode cX1_removeBarge 38 = .ok (.iconst 1, 1) := by decide +kernel
theorem dX1_removeBarge_39 : decode cX1_removeBarge 39 = .ok (.iadd, 1) := by decide +kernel
theorem dX1_removeBarge_40 : decode cX1_removeBarge 40 = .ok (.aload_n 0, 1) := by decide +kernel
theorem dX1_removeBarge_41 : decode cX1_removeBarge 41 = .ok (.getfield 22, 3) := by decide +kernel
theorem dX1_removeBarge_44 : decode cX1_removeBarge 44 = .ok (.iload_n 1, 1) := by decide +kernel
theorem dX1_removeBarge_45 : decode cX1_removeBarge 45 = .ok (.iload_n 2, 1) := by decide +kernel
theorem dX1_removeBarge_46 : decode cX1_removeBarge 46 = .ok (.invokestatic 38, 3) := by decide +kernel
theorem dX1_removeBarge_49 : decode cX1_removeBarge 49 = .ok (.aload_n 0, 1) := by decide +kernel
theorem dX1_removeBarge_50 : decode cX1_removeBarge 50 = .ok (.dup, 1) := by decide +kernel
theorem dX1_removeBarge_51 : decode cX1_removeBarge 51 = .ok (.getfield 29, 3) := by decide +kernel
theorem dX1_removeBarge_54 : decode cX1_removeBarge 54 = .ok (.iconst 1, 1) := by decide +kernel
theorem dX1_removeBarge_55 : decode cX1_removeBarge 55 = .ok (.isub, 1) := by decide +kernel
theorem dX1_removeBarge_56 : decode cX1_removeBarge 56 = .ok (.putfield 29, 3) := by decide +kernel
theorem dX1_removeBarge_59 : decode cX1_removeBarge 59 = .ok (.return_, 1) := by decide +kernel
theorem dX1_bargeNamed_0 : decode cX1_bargeNamed 0 = .ok (.iconst 0, 1) := by decide +kernel
theorem dX1_bargeNamed_1 : decode cX1_bargeNamed 1 = .ok (.istore_n 2, 1) := by decide +kernel
theorem dX1_bargeNamed_2 : decode cX1_bargeNamed 2 = .ok (.iload_n 2, 1) := by decide +kernel
theorem dX1_bargeNamed_3 : decode cX1_bargeNamed 3 = .ok (.aload_n 0, 1) := by decide +kernel
theorem dX1_bargeNamed_4 : decode cX1_bargeNamed 4 = .ok (.getfield 29, 3) := by decide +kernel
theorem dX1_bargeNamed_7 : decode cX1_bargeNamed 7 = .ok (.if_icmp .ge 21, 3) := by decide +kernel
theorem dX1_bargeNamed_10 : decode cX1_bargeNamed 10 = .ok (.aload_n 0, 1) := by decide +kernel
theorem dX1_bargeNamed_11 : decode cX1_bargeNamed 11 = .ok (.getfield 19, 3) := by decide +kernel
theorem dX1_bargeNamed_14 : decode cX1_bargeNamed 14 = .ok (.iload_n 2, 1) := by decide +kernel
theorem dX1_bargeNamed_15 : decode cX1_bargeNamed 15 = .ok (.iaload, 1) := by decide +kernel
theorem dX1_bargeNamed_16 : decode cX1_bargeNamed 16 = .ok (.iload_n 1, 1) := by decide +kernel
theorem dX1_bargeNamed_17 : decode cX1_bargeNamed 17 = .ok (.if_icmp .ne 5, 3) := by decide +kernel
theorem dX1_bargeNamed_20 : decode cX1_bargeNamed 20 = .ok (.iload_n 2, 1) := by decide +kernel
theorem dX1_bargeNamed_21 : decode cX1_bargeNamed 21 = .ok (.ireturn, 1) := by decide +kernel
theorem dX1_bargeNamed_22 : decode cX1_bargeNamed 22 = .ok (.iinc 2 1, 3) := by decide +kernel
theorem dX1_bargeNamed_25 : decode cX1_bargeNamed 25 = .ok (.goto (-23), 3) := by decide +kernel
theorem dX1_bargeNamed_28 : decode cX1_bargeNamed 28 = .ok (.iconst (-1), 1) := by decide +kernel
theorem dX1_bargeNamed_29 : decode cX1_bargeNamed 29 = .ok (.ireturn, 1) := by decide +kernel
theorem dX1_pointOf_0 : decode cX1_pointOf 0 = .ok (.bipush 37, 2) := by decide +kernel
theorem dX1_pointOf_2 : decode cX1_pointOf 2 = .ok (.aload_n 0, 1) := by decide +kernel
theorem dX1_pointOf_3 : decode cX1_pointOf 3 = .ok (.getfield 19, 3) := by decide +kernel
theorem dX1_pointOf_6 : decode cX1_pointOf 6 = .ok (.iload_n 1, 1) := by decide +kernel
theorem dX1_pointOf_7 : decode cX1_pointOf 7 = .ok (.iaload, 1) := by decide +kernel
theorem dX1_pointOf_8 : decode cX1_pointOf 8 = .ok (.imul, 1) := by decide +kernel
theorem dX1_pointOf_9 : decode cX1_pointOf 9 = .ok (.bipush 11, 2) := by decide +kernel
theorem dX1_pointOf_11 : decode cX1_pointOf 11 = .ok (.iadd, 1) := by decide +kernel
theorem dX1_pointOf_12 : decode cX1_pointOf 12 = .ok (.sipush 360, 3) := by decide +kernel
theorem dX1_pointOf_15 : decode cX1_pointOf 15 = .ok (.irem, 1) := by decide +kernel
theorem dX1_pointOf_16 : decode cX1_pointOf 16 = .ok (.ireturn, 1) := by decide +kernel
theorem dX1_pointsOf_0 : decode cX1_pointsOf 0 = .ok (.aload_n 0, 1) := by decide +kernel
theorem dX1_pointsOf_1 : decode cX1_pointsOf 1 = .ok (.getfield 15, 3) := by decide +kernel
theorem dX1_pointsOf_4 : decode cX1_pointsOf 4 = .ok (.iload_n 1, 1) := by decide +kernel
theorem dX1_pointsOf_5 : decode cX1_pointsOf 5 = .ok (.baload, 1) := by decide +kernel
theorem dX1_pointsOf_6 : decode cX1_pointsOf 6 = .ok (.ifCond .eq 14, 3) := by decide +kernel
theorem dX1_pointsOf_9 : decode cX1_pointsOf 9 = .ok (.aload_n 0, 1) := by decide +kernel
theorem dX1_pointsOf_10 : decode cX1_pointsOf 10 = .ok (.getfield 9, 3) := by decide +kernel
theorem dX1_pointsOf_13 : decode cX1_pointsOf 13 = .ok (.iload_n 1, 1) := by decide +kernel
theorem dX1_pointsOf_14 : decode cX1_pointsOf 14 = .ok (.iaload, 1) := by decide +kernel
theorem dX1_pointsOf_15 : decode cX1_pointsOf 15 = .ok (.iconst 2, 1) := by decide +kernel
theorem dX1_pointsOf_16 : decode cX1_pointsOf 16 = .ok (.imul, 1) := by decide +kernel
theorem dX1_pointsOf_17 : decode cX1_pointsOf 17 = .ok (.goto 4, 3) := by decide +kernel
theorem dX1_pointsOf_20 : decode cX1_pointsOf 20 = .ok (.iconst 0, 1) := by decide +kernel
theorem dX1_pointsOf_21 : decode cX1_pointsOf 21 = .ok (.ireturn, 1) := by decide +kernel
theorem dX1_roomOf_0 : decode cX1_roomOf 0 = .ok (.aload_n 0, 1) := by decide +kernel
theorem dX1_roomOf_1 : decode cX1_roomOf 1 = .ok (.getfield 15, 3) := by decide +kernel
theorem dX1_roomOf_4 : decode cX1_roomOf 4 = .ok (.iload_n 1, 1) := by decide +kernel
theorem dX1_roomOf_5 : decode cX1_roomOf 5 = .ok (.baload, 1) := by decide +kernel
theorem dX1_roomOf_6 : decode cX1_roomOf 6 = .ok (.ifCond .eq 17, 3) := by decide +kernel
theorem dX1_roomOf_9 : decode cX1_roomOf 9 = .ok (.aload_n 0, 1) := by decide +kernel
theorem dX1_roomOf_10 : decode cX1_roomOf 10 = .ok (.getfield 9, 3) := by decide +kernel
theorem dX1_roomOf_13 : decode cX1_roomOf 13 = .ok (.iload_n 1, 1) := by decide +kernel
theorem dX1_roomOf_14 : decode cX1_roomOf 14 = .ok (.iaload, 1) := by decide +kernel
theorem dX1_roomOf_15 : decode cX1_roomOf 15 = .ok (.aload_n 0, 1) := by decide +kernel
theorem dX1_roomOf_16 : decode cX1_roomOf 16 = .ok (.getfield 32, 3) := by decide +kernel
theorem dX1_roomOf_19 : decode cX1_roomOf 19 = .ok (.imul, 1) := by decide +kernel
theorem dX1_roomOf_20 : decode cX1_roomOf 20 = .ok (.goto 4, 3) := by decide +kernel
theorem dX1_roomOf_23 : decode cX1_roomOf 23 = .ok (.iconst 0, 1) := by decide +kernel
theorem dX1_roomOf_24 : decode cX1_roomOf 24 = .ok (.ireturn, 1) := by decide +kernel
set_option maxRecDepth 20000 in
theorem ggX1_allRoom_X1_roomOf : GoodIn wsX1_allRoom wsX1_roomOf := goodIn_r _ [6, 7, 8, 9, 10, 11, 12, 13, 14, 15, 16, 17] (by decide +kernel) (by decide +kernel)
set_option maxRecDepth 20000 in
theorem gX1_allRoom_X1_roomOf : GoodIn wsX1_allRoom (wsV RX1 48 RX1 yX1_roomOf wsX1_roomOf) := goodIn_app (goodIn_of _ (by decide +kernel)) ggX1_allRoom_X1_roomOf
theorem dX1_allRoom_0 : decode cX1_allRoom 0 = .ok (.iconst 0, 1) := by decide +kernel
theorem dX1_allRoom_1 : decode cX1_allRoom 1 = .ok (.istore_n 1, 1) := by decide +kernel
theorem dX1_allRoom_2 : decode cX1_allRoom 2 = .ok (.iconst 0, 1) := by decide +kernel
theorem dX1_allRoom_3 : decode cX1_allRoom 3 = .ok (.istore_n 2, 1) := by decide +kernel
theorem dX1_allRoom_4 : decode cX1_allRoom 4 = .ok (.iload_n 2, 1) := by decide +kernel
theorem dX1_allRoom_5 : decode cX1_allRoom 5 = .ok (.aload_n 0, 1) := by decide +kernel
theorem dX1_allRoom_6 : decode cX1_allRoom 6 = .ok (.getfield 25, 3) := by decide +kernel
theorem dX1_allRoom_9 : decode cX1_allRoom 9 = .ok (.if_icmp .ge 17, 3) := by decide +kernel
theorem dX1_allRoom_12 : decode cX1_allRoom 12 = .ok (.iload_n 1, 1) := by decide +kernel
theorem dX1_allRoom_13 : decode cX1_allRoom 13 = .ok (.aload_n 0, 1) := by decide +kernel
theorem dX1_allRoom_14 : decode cX1_allRoom 14 = .ok (.iload_n 2, 1) := by decide +kernel
theorem dX1_allRoom_15 : decode cX1_allRoom 15 = .ok (.invokevirtual 48, 3) := by decide +kernel
theorem dX1_allRoom_18 : decode cX1_allRoom 18 = .ok (.iadd, 1) := by decide +kernel
theorem dX1_allRoom_19 : decode cX1_allRoom 19 = .ok (.istore_n 1, 1) := by decide +kernel
theorem dX1_allRoom_20 : decode cX1_allRoom 20 = .ok (.iinc 2 1, 3) := by decide +kernel
theorem dX1_allRoom_23 : decode cX1_allRoom 23 = .ok (.goto (-19), 3) := by decide +kernel
theorem dX1_allRoom_26 : decode cX1_allRoom 26 = .ok (.iload_n 1, 1) := by decide +kernel
theorem dX1_allRoom_27 : decode cX1_allRoom 27 = .ok (.ireturn, 1) := by decide +kernel
theorem dX1_openPiers_0 : decode cX1_openPiers 0 = .ok (.iconst 0, 1) := by decide +kernel
theorem dX1_openPiers_1 : decode cX1_openPiers 1 = .ok (.istore_n 1, 1) := by decide +kernel
theorem dX1_openPiers_2 : decode cX1_openPiers 2 = .ok (.iconst 0, 1) := by decide +kernel
theorem dX1_openPiers_3 : decode cX1_openPiers 3 = .ok (.istore_n 2, 1) := by decide +kernel
theorem dX1_openPiers_4 : decode cX1_openPiers 4 = .ok (.iload_n 2, 1) := by decide +kernel
theorem dX1_openPiers_5 : decode cX1_openPiers 5 = .ok (.aload_n 0, 1) := by decide +kernel
theorem dX1_openPiers_6 : decode cX1_openPiers 6 = .ok (.getfield 25, 3) := by decide +kernel
theorem dX1_openPiers_9 : decode cX1_openPiers 9 = .ok (.if_icmp .ge 21, 3) := by decide +kernel
theorem dX1_openPiers_12 : decode cX1_openPiers 12 = .ok (.aload_n 0, 1) := by decide +kernel
theorem dX1_openPiers_13 : decode cX1_openPiers 13 = .ok (.getfield 15, 3) := by decide +kernel
theorem dX1_openPiers_16 : decode cX1_openPiers 16 = .ok (.iload_n 2, 1) := by decide +kernel
theorem dX1_openPiers_17 : decode cX1_openPiers 17 = .ok (.baload, 1) := by decide +kernel
theorem dX1_openPiers_18 : decode cX1_openPiers 18 = .ok (.ifCond .eq 6, 3) := by decide +kernel
theorem dX1_openPiers_21 : decode cX1_openPiers 21 = .ok (.iinc 1 1, 3) := by decide +kernel
theorem dX1_openPiers_24 : decode cX1_openPiers 24 = .ok (.iinc 2 1, 3) := by decide +kernel
theorem dX1_openPiers_27 : decode cX1_openPiers 27 = .ok (.goto (-23), 3) := by decide +kernel
theorem dX1_openPiers_30 : decode cX1_openPiers 30 = .ok (.iload_n 1, 1) := by decide +kernel
theorem dX1_openPiers_31 : decode cX1_openPiers 31 = .ok (.ireturn, 1) := by decide +kernel
theorem dX1_allTons_0 : decode cX1_allTons 0 = .ok (.iconst 0, 1) := by decide +kernel
theorem dX1_allTons_1 : decode cX1_allTons 1 = .ok (.istore_n 1, 1) := by decide +kernel
theorem dX1_allTons_2 : decode cX1_allTons 2 = .ok (.iconst 0, 1) := by decide +kernel
theorem dX1_allTons_3 : decode cX1_allTons 3 = .ok (.istore_n 2, 1) := by decide +kernel
theorem dX1_allTons_4 : decode cX1_allTons 4 = .ok (.iload_n 2, 1) := by decide +kernel
theorem dX1_allTons_5 : decode cX1_allTons 5 = .ok (.aload_n 0, 1) := by decide +kernel
theorem dX1_allTons_6 : decode cX1_allTons 6 = .ok (.getfield 29, 3) := by decide +kernel
theorem dX1_allTons_9 : decode cX1_allTons 9 = .ok (.if_icmp .ge 18, 3) := by decide +kernel
theorem dX1_allTons_12 : decode cX1_allTons 12 = .ok (.iload_n 1, 1) := by decide +kernel
theorem dX1_allTons_13 : decode cX1_allTons 13 = .ok (.aload_n 0, 1) := by decide +kernel
theorem dX1_allTons_14 : decode cX1_allTons 14 = .ok (.getfield 22, 3) := by decide +kernel
theorem dX1_allTons_17 : decode cX1_allTons 17 = .ok (.iload_n 2, 1) := by decide +kernel
theorem dX1_allTons_18 : decode cX1_allTons 18 = .ok (.iaload, 1) := by decide +kernel
theorem dX1_allTons_19 : decode cX1_allTons 19 = .ok (.iadd, 1) := by decide +kernel
theorem dX1_allTons_20 : decode cX1_allTons 20 = .ok (.istore_n 1, 1) := by decide +kernel
theorem dX1_allTons_21 : decode cX1_allTons 21 = .ok (.iinc 2 1, 3) := by decide +kernel
theorem dX1_allTons_24 : decode cX1_allTons 24 = .ok (.goto (-20), 3) := by decide +kernel
theorem dX1_allTons_27 : decode cX1_allTons 27 = .ok (.iload_n 1, 1) := by decide +kernel
theorem dX1_allTons_28 : decode cX1_allTons 28 = .ok (.ireturn, 1) := by decide +kernel
set_option maxRecDepth 20000 in
theorem ggX2_init_X1_init : GoodIn wsX2_init wsX1_init := goodIn_r _ [11, 12, 2, 3, 13, 14, 15, 16, 17, 18, 19, 20, 21, 22, 26, 27, 28, 29, 30, 31, 32, 33] (by decide +kernel) (by decide +kernel)
set_option maxRecDepth 20000 in
theorem gX2_init_X1_init_n24 : GoodIn wsX2_init (wsX1_init) := ggX2_init_X1_init
theorem dX2_init_0 : decode cX2_init 0 = .ok (.aload_n 0, 1) := by decide +kernel
theorem dX2_init_1 : decode cX2_init 1 = .ok (.invokespecial 3, 3) := by decide +kernel
theorem dX2_init_4 : decode cX2_init 4 = .ok (.aload_n 0, 1) := by decide +kernel
theorem dX2_init_5 : decode cX2_init 5 = .ok (.iconst 0, 1) := by decide +kernel
theorem dX2_init_6 : decode cX2_init 6 = .ok (.putfield 9, 3) := by decide +kernel
theorem dX2_init_9 : decode cX2_init 9 = .ok (.aload_n 0, 1) := by decide +kernel
theorem dX2_init_10 : decode cX2_init 10 = .ok (.bipush 9, 2) := by decide +kernel
theorem dX2_init_12 : decode cX2_init 12 = .ok (.anewarray 15, 3) := by decide +kernel
theorem dX2_init_15 : decode cX2_init 15 = .ok (.putfield 17, 3) := by decide +kernel
theorem dX2_init_18 : decode cX2_init 18 = .ok (.aload_n 0, 1) := by decide +kernel
theorem dX2_init_19 : decode cX2_init 19 = .ok (.iconst 0, 1) := by decide +kernel
theorem dX2_init_20 : decode cX2_init 20 = .ok (.putfield 21, 3) := by decide +kernel
theorem dX2_init_23 : decode cX2_init 23 = .ok (.iconst 0, 1) := by decide +kernel
theorem dX2_init_24 : decode cX2_init 24 = .ok (.istore_n 1, 1) := by decide +kernel
theorem dX2_init_25 : decode cX2_init 25 = .ok (.iload_n 1, 1) := by decide +kernel
theorem dX2_init_26 : decode cX2_init 26 = .ok (.bipush 9, 2) := by decide +kernel
theorem dX2_init_28 : decode cX2_init 28 = .ok (.if_icmp .ge 22, 3) := by decide +kernel
theorem dX2_init_31 : decode cX2_init 31 = .ok (.aload_n 0, 1) := by decide +kernel
theorem dX2_init_32 : decode cX2_init 32 = .ok (.getfield 17, 3) := by decide +kernel
theorem dX2_init_35 : decode cX2_init 35 = .ok (.iload_n 1, 1) := by decide +kernel
theorem dX2_init_36 : decode cX2_init 36 = .ok (.new 15, 3) := by decide +kernel
theorem dX2_init_39 : decode cX2_init 39 = .ok (.dup, 1) := by decide +kernel
theorem dX2_init_40 : decode cX2_init 40 = .ok (.invokespecial 24, 3) := by decide +kernel
theorem dX2_init_43 : decode cX2_init 43 = .ok (.aastore, 1) := by decide +kernel
theorem dX2_init_44 : decode cX2_init 44 = .ok (.iinc 1 1, 3) := by decide +kernel
theorem dX2_init_47 : decode cX2_init 47 = .ok (.goto (-22), 3) := by decide +kernel
theorem dX2_init_50 : decode cX2_init 50 = .ok (.return_, 1) := by decide +kernel
set_option maxRecDepth 20000 in
theorem ggX2_draft_X1_takeFrom : GoodIn wsX2_draft wsX1_takeFrom := goodIn_r _ [7, 8, 9, 10, 11, 12, 13, 14, 15, 16, 17, 18, 19, 23, 24, 25, 26, 27, 28, 29, 30] (by decide +kernel) (by decide +kernel)
set_option maxRecDepth 20000 in
theorem gX2_draft_X1_takeFrom : GoodIn wsX2_draft (wsV RX2 25 RX1 yX1_takeFrom wsX1_takeFrom) := goodIn_app (goodIn_of _ (by decide +kernel)) ggX2_draft_X1_takeFrom
theorem dX2_draft_0 : decode cX2_draft 0 = .ok (.aload_n 0, 1) := by decide +kernel
theorem dX2_draft_1 : decode cX2_draft 1 = .ok (.getfield 17, 3) := by decide +kernel
theorem dX2_draft_4 : decode cX2_draft 4 = .ok (.aload_n 0, 1) := by decide +kernel
theorem dX2_draft_5 : decode cX2_draft 5 = .ok (.getfield 21, 3) := by decide +kernel
theorem dX2_draft_8 : decode cX2_draft 8 = .ok (.aaload, 1) := by decide +kernel
theorem dX2_draft_9 : decode cX2_draft 9 = .ok (.aload_n 1, 1) := by decide +kernel
theorem dX2_draft_10 : decode cX2_draft 10 = .ok (.invokevirtual 25, 3) := by decide +kernel
theorem dX2_draft_13 : decode cX2_draft 13 = .ok (.return_, 1) := by decide +kernel
theorem dX2_keepDraft_0 : decode cX2_keepDraft 0 = .ok (.aload_n 0, 1) := by decide +kernel
theorem dX2_keepDraft_1 : decode cX2_keepDraft 1 = .ok (.aload_n 0, 1) := by decide +kernel
theorem dX2_keepDraft_2 : decode cX2_keepDraft 2 = .ok (.getfield 21, 3) := by decide +kernel
theorem dX2_keepDraft_5 : decode cX2_keepDraft 5 = .ok (.iconst 1, 1) := by decide +kernel
theorem dX2_keepDraft_6 : decode cX2_keepDraft 6 = .ok (.iadd, 1) := by decide +kernel
theorem dX2_keepDraft_7 : decode cX2_keepDraft 7 = .ok (.bipush 9, 2) := by decide +kernel
theorem dX2_keepDraft_9 : decode cX2_keepDraft 9 = .ok (.irem, 1) := by decide +kernel
theorem dX2_keepDraft_10 : decode cX2_keepDraft 10 = .ok (.putfield 21, 3) := by decide +kernel
theorem dX2_keepDraft_13 : decode cX2_keepDraft 13 = .ok (.aload_n 0, 1) := by decide +kernel
theorem dX2_keepDraft_14 : decode cX2_keepDraft 14 = .ok (.aload_n 0, 1) := by decide +kernel
theorem dX2_keepDraft_15 : decode cX2_keepDraft 15 = .ok (.getfield 9, 3) := by decide +kernel
theorem dX2_keepDraft_18 : decode cX2_keepDraft 18 = .ok (.iconst 1, 1) := by decide +kernel
theorem dX2_keepDraft_19 : decode cX2_keepDraft 19 = .ok (.iadd, 1) := by decide +kernel
theorem dX2_keepDraft_20 : decode cX2_keepDraft 20 = .ok (.bipush 8, 2) := by decide +kernel
theorem dX2_keepDraft_22 : decode cX2_keepDraft 22 = .ok (.invokestatic 29, 3) := by decide +kernel
theorem dX2_keepDraft_25 : decode cX2_keepDraft 25 = .ok (.putfield 9, 3) := by decide +kernel
theorem dX2_keepDraft_28 : decode cX2_keepDraft 28 = .ok (.return_, 1) := by decide +kernel
theorem dX3_init_0 : decode cX3_init 0 = .ok (.aload_n 0, 1) := by decide +kernel
theorem dX3_init_1 : decode cX3_init 1 = .ok (.invokespecial 3, 3) := by decide +kernel
theorem dX3_init_4 : decode cX3_init 4 = .ok (.aload_n 0, 1) := by decide +kernel
theorem dX3_init_5 : decode cX3_init 5 = .ok (.bipush 80, 2) := by decide +kernel
theorem dX3_init_7 : decode cX3_init 7 = .ok (.newarray .char, 2) := by decide +kernel
theorem dX3_init_9 : decode cX3_init 9 = .ok (.putfield 9, 3) := by decide +kernel
theorem dX3_init_12 : decode cX3_init 12 = .ok (.aload_n 0, 1) := by decide +kernel
theorem dX3_init_13 : decode cX3_init 13 = .ok (.iconst 0, 1) := by decide +kernel
theorem dX3_init_14 : decode cX3_init 14 = .ok (.putfield 15, 3) := by decide +kernel
theorem dX3_init_17 : decode cX3_init 17 = .ok (.return_, 1) := by decide +kernel
theorem dX3_empty_0 : decode cX3_empty 0 = .ok (.aload_n 0, 1) := by decide +kernel
theorem dX3_empty_1 : decode cX3_empty 1 = .ok (.iconst 0, 1) := by decide +kernel
theorem dX3_empty_2 : decode cX3_empty 2 = .ok (.putfield 15, 3) := by decide +kernel
theorem dX3_empty_5 : decode cX3_empty 5 = .ok (.return_, 1) := by decide +kernel
theorem dX3_put_0 : decode cX3_put 0 = .ok (.aload_n 0, 1) := by decide +kernel
theorem dX3_put_1 : decode cX3_put 1 = .ok (.getfield 15, 3) := by decide +kernel
theorem dX3_put_4 : decode cX3_put 4 = .ok (.bipush 80, 2) := by decide +kernel
theorem dX3_put_6 : decode cX3_put 6 = .ok (.if_icmp .ge 23, 3) := by decide +kernel
theorem dX3_put_9 : decode cX3_put 9 = .ok (.aload_n 0, 1) := by decide +kernel
theorem dX3_put_10 : decode cX3_put 10 = .ok (.getfield 9, 3) := by decide +kernel
theorem dX3_put_13 : decode cX3_put 13 = .ok (.aload_n 0, 1) := by decide +kernel
theorem dX3_put_14 : decode cX3_put 14 = .ok (.getfield 15, 3) := by decide +kernel
theorem dX3_put_17 : decode cX3_put 17 = .ok (.iload_n 1, 1) := by decide +kernel
theorem dX3_put_18 : decode cX3_put 18 = .ok (.castore, 1) := by decide +kernel
theorem dX3_put_19 : decode cX3_put 19 = .ok (.aload_n 0, 1) := by decide +kernel
theorem dX3_put_20 : decode cX3_put 20 = .ok (.dup, 1) := by decide +kernel
theorem dX3_put_21 : decode cX3_put 21 = .ok (.getfield 15, 3) := by decide +kernel
theorem dX3_put_24 : decode cX3_put 24 = .ok (.iconst 1, 1) := by decide +kernel
theorem dX3_put_25 : decode cX3_put 25 = .ok (.iadd, 1) := by decide +kernel
theorem dX3_put_26 : decode cX3_put 26 = .ok (.putfield 15, 3) := by decide +kernel
theorem dX3_put_29 : decode cX3_put 29 = .ok (.return_, 1) := by decide +kernel
set_option maxRecDepth 20000 in
theorem ggX3_putNumber_X3_put : GoodIn wsX3_putNumber wsX3_put := goodIn_r _ [5, 6, 7, 8, 9] (by decide +kernel) (by decide +kernel)
set_option maxRecDepth 20000 in
theorem gX3_putNumber_X3_put : GoodIn wsX3_putNumber (wsV RX3 19 RX3 yX3_put wsX3_put) := goodIn_app (goodIn_of _ (by decide +kernel)) ggX3_putNumber_X3_put
theorem dX3_putNumber_0 : decode cX3_putNumber 0 = .ok (.iconst 0, 1) := by decide +kernel
theorem dX3_putNumber_1 : decode cX3_putNumber 1 = .ok (.istore_n 2, 1) := by decide +kernel
theorem dX3_putNumber_2 : decode cX3_putNumber 2 = .ok (.sipush 1000, 3) := by decide +kernel
theorem dX3_putNumber_5 : decode cX3_putNumber 5 = .ok (.istore_n 3, 1) := by decide +kernel
theorem dX3_putNumber_6 : decode cX3_putNumber 6 = .ok (.iload_n 3, 1) := by decide +kernel
theorem dX3_putNumber_7 : decode cX3_putNumber 7 = .ok (.ifCond .le 53, 3) := by decide +kernel
theorem dX3_putNumber_10 : decode cX3_putNumber 10 = .ok (.iload_n 1, 1) := by decide +kernel
theorem dX3_putNumber_11 : decode cX3_putNumber 11 = .ok (.iload_n 3, 1) := by decide +kernel
theorem dX3_putNumber_12 : decode cX3_putNumber 12 = .ok (.idiv, 1) := by decide +kernel
theorem dX3_putNumber_13 : decode cX3_putNumber 13 = .ok (.bipush 10, 2) := by decide +kernel
theorem dX3_putNumber_15 : decode cX3_putNumber 15 = .ok (.irem, 1) := by decide +kernel
theorem dX3_putNumber_16 : decode cX3_putNumber 16 = .ok (.istore 4, 2) := by decide +kernel
theorem dX3_putNumber_18 : decode cX3_putNumber 18 = .ok (.iload_n 2, 1) := by decide +kernel
theorem dX3_putNumber_19 : decode cX3_putNumber 19 = .ok (.ifCond .ne 13, 3) := by decide +kernel
theorem dX3_putNumber_22 : decode cX3_putNumber 22 = .ok (.iload 4, 2) := by decide +kernel
theorem dX3_putNumber_24 : decode cX3_putNumber 24 = .ok (.ifCond .ne 8, 3) := by decide +kernel
theorem dX3_putNumber_27 : decode cX3_putNumber 27 = .ok (.iload_n 3, 1) := by decide +kernel
theorem dX3_putNumber_28 : decode cX3_putNumber 28 = .ok (.iconst 1, 1) := by decide +kernel
theorem dX3_putNumber_29 : decode cX3_putNumber 29 = .ok (.if_icmp .ne 7, 3) := by decide +kernel
theorem dX3_putNumber_32 : decode cX3_putNumber 32 = .ok (.iconst 1, 1) := by decide +kernel
theorem dX3_putNumber_33 : decode cX3_putNumber 33 = .ok (.goto 4, 3) := by decide +kernel
theorem dX3_putNumber_36 : decode cX3_putNumber 36 = .ok (.iconst 0, 1) := by decide +kernel
theorem dX3_putNumber_37 : decode cX3_putNumber 37 = .ok (.istore_n 2, 1) := by decide +kernel
theorem dX3_putNumber_38 : decode cX3_putNumber 38 = .ok (.iload_n 2, 1) := by decide +kernel
theorem dX3_putNumber_39 : decode cX3_putNumber 39 = .ok (.ifCond .eq 13, 3) := by decide +kernel
theorem dX3_putNumber_42 : decode cX3_putNumber 42 = .ok (.aload_n 0, 1) := by decide +kernel
theorem dX3_putNumber_43 : decode cX3_putNumber 43 = .ok (.bipush 48, 2) := by decide +kernel
theorem dX3_putNumber_45 : decode cX3_putNumber 45 = .ok (.iload 4, 2) := by decide +kernel
theorem dX3_putNumber_47 : decode cX3_putNumber 47 = .ok (.iadd, 1) := by decide +kernel
theorem dX3_putNumber_48 : decode cX3_putNumber 48 = .ok (.i2c, 1) := by decide +kernel
theorem dX3_putNumber_49 : decode cX3_putNumber 49 = .ok (.invokevirtual 19, 3) := by decide +kernel
theorem dX3_putNumber_52 : decode cX3_putNumber 52 = .ok (.iload_n 3, 1) := by decide +kernel
theorem dX3_putNumber_53 : decode cX3_putNumber 53 = .ok (.bipush 10, 2) := by decide +kernel
theorem dX3_putNumber_55 : decode cX3_putNumber 55 = .ok (.idiv, 1) := by decide +kernel
theorem dX3_putNumber_56 : decode cX3_putNumber 56 = .ok (.istore_n 3, 1) := by decide +kernel
theorem dX3_putNumber_57 : decode cX3_putNumber 57 = .ok (.goto (-51), 3) := by decide +kernel
theorem dX3_putNumber_60 : decode cX3_putNumber 60 = .ok (.return_, 1) := by decide +kernel
theorem dX4_init_0 : decode cX4_init 0 = .ok (.aload_n 0, 1) := by decide +kernel
theorem dX4_init_1 : decode cX4_init 1 = .ok (.invokespecial 3, 3) := by decide +kernel
theorem dX4_init_4 : decode cX4_init 4 = .ok (.aload_n 0, 1) := by decide +kernel
theorem dX4_init_5 : decode cX4_init 5 = .ok (.bipush 24, 2) := by decide +kernel
theorem dX4_init_7 : decode cX4_init 7 = .ok (.newarray .int, 2) := by decide +kernel
theorem dX4_init_9 : decode cX4_init 9 = .ok (.putfield 9, 3) := by decide +kernel
theorem dX4_init_12 : decode cX4_init 12 = .ok (.aload_n 0, 1) := by decide +kernel
theorem dX4_init_13 : decode cX4_init 13 = .ok (.bipush 24, 2) := by decide +kernel
theorem dX4_init_15 : decode cX4_init 15 = .ok (.newarray .int, 2) := by decide +kernel
theorem dX4_init_17 : decode cX4_init 17 = .ok (.putfield 15, 3) := by decide +kernel
theorem dX4_init_20 : decode cX4_init 20 = .ok (.aload_n 0, 1) := by decide +kernel
theorem dX4_init_21 : decode cX4_init 21 = .ok (.bipush 24, 2) := by decide +kernel
theorem dX4_init_23 : decode cX4_init 23 = .ok (.newarray .int, 2) := by decide +kernel
theorem dX4_init_25 : decode cX4_init 25 = .ok (.putfield 18, 3) := by decide +kernel
theorem dX4_init_28 : decode cX4_init 28 = .ok (.aload_n 0, 1) := by decide +kernel
theorem dX4_init_29 : decode cX4_init 29 = .ok (.bipush 8, 2) := by decide +kernel
theorem dX4_init_31 : decode cX4_init 31 = .ok (.newarray .int, 2) := by decide +kernel
theorem dX4_init_33 : decode cX4_init 33 = .ok (.putfield 21, 3) := by decide +kernel
theorem dX4_init_36 : decode cX4_init 36 = .ok (.aload_n 0, 1) := by decide +kernel
theorem dX4_init_37 : decode cX4_init 37 = .ok (.bipush 8, 2) := by decide +kernel
theorem dX4_init_39 : decode cX4_init 39 = .ok (.newarray .int, 2) := by decide +kernel
theorem dX4_init_41 : decode cX4_init 41 = .ok (.putfield 24, 3) := by decide +kernel
theorem dX4_init_44 : decode cX4_init 44 = .ok (.aload_n 0, 1) := by decide +kernel
theorem dX4_init_45 : decode cX4_init 45 = .ok (.bipush 8, 2) := by decide +kernel
theorem dX4_init_47 : decode cX4_init 47 = .ok (.newarray .int, 2) := by decide +kernel
theorem dX4_init_49 : decode cX4_init 49 = .ok (.putfield 27, 3) := by decide +kernel
theorem dX4_init_52 : decode cX4_init 52 = .ok (.aload_n 0, 1) := by decide +kernel
theorem dX4_init_53 : decode cX4_init 53 = .ok (.bipush 8, 2) := by decide +kernel
theorem dX4_init_55 : decode cX4_init 55 = .ok (.newarray .int, 2) := by decide +kernel
theorem dX4_init_57 : decode cX4_init 57 = .ok (.putfield 30, 3) := by decide +kernel
theorem dX4_init_60 : decode cX4_init 60 = .ok (.aload_n 0, 1) := by decide +kernel
theorem dX4_init_61 : decode cX4_init 61 = .ok (.iconst 0, 1) := by decide +kernel
theorem dX4_init_62 : decode cX4_init 62 = .ok (.putfield 33, 3) := by decide +kernel
theorem dX4_init_65 : decode cX4_init 65 = .ok (.aload_n 0, 1) := by decide +kernel
theorem dX4_init_66 : decode cX4_init 66 = .ok (.iconst 0, 1) := by decide +kernel
theorem dX4_init_67 : decode cX4_init 67 = .ok (.putfield 37, 3) := by decide +kernel
theorem dX4_init_70 : decode cX4_init 70 = .ok (.return_, 1) := by decide +kernel
set_option maxRecDepth 20000 in
theorem ggX4_settle_J7_fill_53178 : GoodIn wsX4_settle wsJ7_fill_53178 := goodIn_r _ [13] (by decide +kernel) (by decide +kernel)
set_option maxRecDepth 20000 in
theorem gX4_settle_J7_fill_53178 : GoodIn wsX4_settle (va_wsS RX4 40 yJ7_fill_53178 wsJ7_fill_53178) := goodIn_app (goodIn_of _ (by decide +kernel)) ggX4_settle_J7_fill_53178
set_option maxRecDepth 20000 in
theorem ggX4_settle_X1_pointOf : GoodIn wsX4_settle wsX1_pointOf := goodIn_r _ [18, 19, 73, 74, 75, 76, 77, 78, 79, 80] (by decide +kernel) (by decide +kernel)
set_option maxRecDepth 20000 in
theorem gX4_settle_X1_pointOf : GoodIn wsX4_settle (wsV RX4 51 RX1 yX1_pointOf wsX1_pointOf) := goodIn_app (goodIn_of _ (by decide +kernel)) ggX4_settle_X1_pointOf
set_option maxRecDepth 20000 in
theorem ggX4_settle_X0_homeByTree : GoodIn wsX4_settle wsX0_homeByTree := goodIn_r _ [24, 25, 26, 27, 28, 23, 29, 30, 31, 32, 33, 81, 82, 83, 84, 85, 86, 87, 88, 89, 90] (by decide +kernel) (by decide +kernel)
set_option maxRecDepth 20000 in
theorem gX4_settle_X0_homeByTree : GoodIn wsX4_settle (wsV RX4 55 RX0 yX0_homeByTree wsX0_homeByTree) := goodIn_app (goodIn_of _ (by decide +kernel)) ggX4_settle_X0_homeByTree
set_option maxRecDepth 20000 in
theorem ggX4_settle_X4_settleHome : GoodIn wsX4_settle wsX4_settleHome := goodIn_r _ [38, 39, 1, 2, 64, 65, 66, 67, 68, 69, 70, 71, 72] (by decide +kernel) (by decide +kernel)
set_option maxRecDepth 20000 in
theorem gX4_settle_X4_settleHome : GoodIn wsX4_settle (wsV RX4 63 RX4 yX4_settleHome wsX4_settleHome) := goodIn_app (goodIn_of _ (by decide +kernel)) ggX4_settle_X4_settleHome
set_option maxRecDepth 20000 in
theorem ggX4_settle_X4_findRoom : GoodIn wsX4_settle wsX4_findRoom := goodIn_r _ [43, 9, 44, 45, 46, 47, 4, 8, 14, 15, 16, 17, 18, 19, 48, 49, 50, 23, 51, 30, 31, 52, 53, 54, 55, 56, 57, 58, 59, 64, 65, 66, 67, 68, 69, 70, 71, 72, 81, 82, 83, 84, 85, 86, 87, 88, 89, 90, 73, 74, 75, 76, 77, 78, 79, 80] (by decide +kernel) (by decide +kernel)
set_option maxRecDepth 20000 in
theorem gX4_settle_X4_findRoom : GoodIn wsX4_settle (wsV RX4 67 RX4 yX4_findRoom wsX4_findRoom) := goodIn_app (goodIn_of _ (by decide +kernel)) ggX4_settle_X4_findRoom
set_option maxRecDepth 20000 in
theorem ggX4_settle_X4_settleWhereItLies : GoodIn wsX4_settle wsX4_settleWhereItLies := goodIn_r _ [63, 9, 3, 4, 39, 5, 6, 64, 65, 66, 67, 68, 69, 70, 71, 72] (by decide +kernel) (by decide +kernel)
set_option maxRecDepth 20000 in
theorem gX4_settle_X4_settleWhereItLies : GoodIn wsX4_settle (wsV RX4 71 RX4 yX4_settleWhereItLies wsX4_settleWhereItLies) := goodIn_app (goodIn_of _ (by decide +kernel)) ggX4_settle_X4_settleWhereItLies
theorem dX4_settle_0 : decode cX4_settle 0 = .ok (.aload_n 0, 1) := by decide +kernel
theorem dX4_settle_1 : decode cX4_settle 1 = .ok (.getfield 21, 3) := by decide +kernel
theorem dX4_settle_4 : decode cX4_settle 4 = .ok (.iconst 0, 1) := by decide +kernel
theorem dX4_settle_5 : decode cX4_settle 5 = .ok (.invokestatic 40, 3) := by decide +kernel
theorem dX4_settle_8 : decode cX4_settle 8 = .ok (.aload_n 0, 1) := by decide +kernel
theorem dX4_settle_9 : decode cX4_settle 9 = .ok (.getfield 24, 3) := by decide +kernel
theorem dX4_settle_12 : decode cX4_settle 12 = .ok (.iconst 0, 1) := by decide +kernel
theorem dX4_settle_13 : decode cX4_settle 13 = .ok (.invokestatic 40, 3) := by decide +kernel
theorem dX4_settle_16 : decode cX4_settle 16 = .ok (.aload_n 0, 1) := by decide +kernel
theorem dX4_settle_17 : decode cX4_settle 17 = .ok (.getfield 27, 3) := by decide +kernel
theorem dX4_settle_20 : decode cX4_settle 20 = .ok (.iconst 0, 1) := by decide +kernel
theorem dX4_settle_21 : decode cX4_settle 21 = .ok (.invokestatic 40, 3) := by decide +kernel
theorem dX4_settle_24 : decode cX4_settle 24 = .ok (.aload_n 0, 1) := by decide +kernel
theorem dX4_settle_25 : decode cX4_settle 25 = .ok (.getfield 30, 3) := by decide +kernel
theorem dX4_settle_28 : decode cX4_settle 28 = .ok (.iconst 0, 1) := by decide +kernel
theorem dX4_settle_29 : decode cX4_settle 29 = .ok (.invokestatic 40, 3) := by decide +kernel
theorem dX4_settle_32 : decode cX4_settle 32 = .ok (.aload_n 0, 1) := by decide +kernel
theorem dX4_settle_33 : decode cX4_settle 33 = .ok (.iconst 0, 1) := by decide +kernel
theorem dX4_settle_34 : decode cX4_settle 34 = .ok (.putfield 33, 3) := by decide +kernel
theorem dX4_settle_37 : decode cX4_settle 37 = .ok (.aload_n 0, 1) := by decide +kernel
theorem dX4_settle_38 : decode cX4_settle 38 = .ok (.iconst 0, 1) := by decide +kernel
theorem dX4_settle_39 : decode cX4_settle 39 = .ok (.putfield 37, 3) := by decide +kernel
theorem dX4_settle_42 : decode cX4_settle 42 = .ok (.iconst 0, 1) := by decide +kernel
theorem dX4_settle_43 : decode cX4_settle 43 = .ok (.istore_n 3, 1) := by decide +kernel
theorem dX4_settle_44 : decode cX4_settle 44 = .ok (.iload_n 3, 1) := by decide +kernel
theorem dX4_settle_45 : decode cX4_settle 45 = .ok (.aload_n 1, 1) := by decide +kernel
theorem dX4_settle_46 : decode cX4_settle 46 = .ok (.getfield 46, 3) := by decide +kernel
theorem dX4_settle_49 : decode cX4_settle 49 = .ok (.if_icmp .ge 58, 3) := by decide +kernel
theorem dX4_settle_52 : decode cX4_settle 52 = .ok (.aload_n 0, 1) := by decide +kernel
theorem dX4_settle_53 : decode cX4_settle 53 = .ok (.iload_n 3, 1) := by decide +kernel
theorem dX4_settle_54 : decode cX4_settle 54 = .ok (.aload_n 2, 1) := by decide +kernel
theorem dX4_settle_55 : decode cX4_settle 55 = .ok (.aload_n 1, 1) := by decide +kernel
theorem dX4_settle_56 : decode cX4_settle 56 = .ok (.iload_n 3, 1) := by decide +kernel
theorem dX4_settle_57 : decode cX4_settle 57 = .ok (.invokevirtual 51, 3) := by decide +kernel
theorem dX4_settle_60 : decode cX4_settle 60 = .ok (.invokevirtual 55, 3) := by decide +kernel
theorem dX4_settle_63 : decode cX4_settle 63 = .ok (.aload_n 1, 1) := by decide +kernel
theorem dX4_settle_64 : decode cX4_settle 64 = .ok (.getfield 60, 3) := by decide +kernel
theorem dX4_settle_67 : decode cX4_settle 67 = .ok (.iload_n 3, 1) := by decide +kernel
theorem dX4_settle_68 : decode cX4_settle 68 = .ok (.iaload, 1) := by decide +kernel
theorem dX4_settle_69 : decode cX4_settle 69 = .ok (.invokevirtual 63, 3) := by decide +kernel
theorem dX4_settle_72 : decode cX4_settle 72 = .ok (.aload_n 0, 1) := by decide +kernel
theorem dX4_settle_73 : decode cX4_settle 73 = .ok (.iload_n 3, 1) := by decide +kernel
theorem dX4_settle_74 : decode cX4_settle 74 = .ok (.aload_n 1, 1) := by decide +kernel
theorem dX4_settle_75 : decode cX4_settle 75 = .ok (.aload_n 2, 1) := by decide +kernel
theorem dX4_settle_76 : decode cX4_settle 76 = .ok (.invokevirtual 67, 3) := by decide +kernel
theorem dX4_settle_79 : decode cX4_settle 79 = .ok (.aload_n 0, 1) := by decide +kernel
theorem dX4_settle_80 : decode cX4_settle 80 = .ok (.getfield 15, 3) := by decide +kernel
theorem dX4_settle_83 : decode cX4_settle 83 = .ok (.iload_n 3, 1) := by decide +kernel
theorem dX4_settle_84 : decode cX4_settle 84 = .ok (.iaload, 1) := by decide +kernel
theorem dX4_settle_85 : decode cX4_settle 85 = .ok (.bipush (-15), 2) := by decide +kernel
theorem dX4_settle_87 : decode cX4_settle 87 = .ok (.if_icmp .eq 14, 3) := by decide +kernel
theorem dX4_settle_90 : decode cX4_settle 90 = .ok (.aload_n 0, 1) := by decide +kernel
theorem dX4_settle_91 : decode cX4_settle 91 = .ok (.iload_n 3, 1) := by decide +kernel
theorem dX4_settle_92 : decode cX4_settle 92 = .ok (.aload_n 1, 1) := by decide +kernel
theorem dX4_settle_93 : decode cX4_settle 93 = .ok (.getfield 60, 3) := by decide +kernel
theorem dX4_settle_96 : decode cX4_settle 96 = .ok (.iload_n 3, 1) := by decide +kernel
theorem dX4_settle_97 : decode cX4_settle 97 = .ok (.iaload, 1) := by decide +kernel
theorem dX4_settle_98 : decode cX4_settle 98 = .ok (.invokevirtual 71, 3) := by decide +kernel
theorem dX4_settle_101 : decode cX4_settle 101 = .ok (.iinc 3 1, 3) := by decide +kernel
theorem dX4_settle_104 : decode cX4_settle 104 = .ok (.goto (-60), 3) := by decide +kernel
theorem dX4_settle_107 : decode cX4_settle 107 = .ok (.return_, 1) := by decide +kernel
theorem dX4_settleHome_0 : decode cX4_settleHome 0 = .ok (.aload_n 0, 1) := by decide +kernel
theorem dX4_settleHome_1 : decode cX4_settleHome 1 = .ok (.getfield 9, 3) := by decide +kernel
theorem dX4_settleHome_4 : decode cX4_settleHome 4 = .ok (.iload_n 1, 1) := by decide +kernel
theorem dX4_settleHome_5 : decode cX4_settleHome 5 = .ok (.iload_n 2, 1) := by decide +kernel
theorem dX4_settleHome_6 : decode cX4_settleHome 6 = .ok (.iastore, 1) := by decide +kernel
theorem dX4_settleHome_7 : decode cX4_settleHome 7 = .ok (.iload_n 2, 1) := by decide +kernel
theorem dX4_settleHome_8 : decode cX4_settleHome 8 = .ok (.bipush (-15), 2) := by decide +kernel
theorem dX4_settleHome_10 : decode cX4_settleHome 10 = .ok (.if_icmp .eq 23, 3) := by decide +kernel
theorem dX4_settleHome_13 : decode cX4_settleHome 13 = .ok (.aload_n 0, 1) := by decide +kernel
theorem dX4_settleHome_14 : decode cX4_settleHome 14 = .ok (.getfield 21, 3) := by decide +kernel
theorem dX4_settleHome_17 : decode cX4_settleHome 17 = .ok (.iload_n 2, 1) := by decide +kernel
theorem dX4_settleHome_18 : decode cX4_settleHome 18 = .ok (.dup2, 1) := by decide +kernel
theorem dX4_settleHome_19 : decode cX4_settleHome 19 = .ok (.iaload, 1) := by decide +kernel
theorem dX4_settleHome_20 : decode cX4_settleHome 20 = .ok (.iconst 1, 1) := by decide +kernel
theorem dX4_settleHome_21 : decode cX4_settleHome 21 = .ok (.iadd, 1) := by decide +kernel
theorem dX4_settleHome_22 : decode cX4_settleHome 22 = .ok (.iastore, 1) := by decide +kernel
theorem dX4_settleHome_23 : decode cX4_settleHome 23 = .ok (.aload_n 0, 1) := by decide +kernel
theorem dX4_settleHome_24 : decode cX4_settleHome 24 = .ok (.getfield 24, 3) := by decide +kernel
theorem dX4_settleHome_27 : decode cX4_settleHome 27 = .ok (.iload_n 2, 1) := by decide +kernel
theorem dX4_settleHome_28 : decode cX4_settleHome 28 = .ok (.dup2, 1) := by decide +kernel
theorem dX4_settleHome_29 : decode cX4_settleHome 29 = .ok (.iaload, 1) := by decide +kernel
theorem dX4_settleHome_30 : decode cX4_settleHome 30 = .ok (.iload_n 3, 1) := by decide +kernel
theorem dX4_settleHome_31 : decode cX4_settleHome 31 = .ok (.iadd, 1) := by decide +kernel
theorem dX4_settleHome_32 : decode cX4_settleHome 32 = .ok (.iastore, 1) := by decide +kernel
theorem dX4_settleHome_33 : decode cX4_settleHome 33 = .ok (.return_, 1) := by decide +kernel
set_option maxRecDepth 20000 in
theorem ggX4_findRoom_X1_pointOf : GoodIn wsX4_findRoom wsX1_pointOf := goodIn_r _ [12, 13, 48, 49, 50, 51, 52, 53, 54, 55] (by decide +kernel) (by decide +kernel)
set_option maxRecDepth 20000 in
theorem gX4_findRoom_X1_pointOf : GoodIn wsX4_findRoom (wsV RX4 51 RX1 yX1_pointOf wsX1_pointOf) := goodIn_app (goodIn_of _ (by decide +kernel)) ggX4_findRoom_X1_pointOf
set_option maxRecDepth 20000 in
theorem ggX4_findRoom_X0_placeFrom : GoodIn wsX4_findRoom wsX0_placeFrom := goodIn_r _ [18, 19, 20, 21, 38, 39, 40, 41, 42, 43, 44, 45, 46, 47] (by decide +kernel) (by decide +kernel)
set_option maxRecDepth 20000 in
theorem gX4_findRoom_X0_placeFrom : GoodIn wsX4_findRoom (wsV RX4 75 RX0 yX0_placeFrom wsX0_placeFrom) := goodIn_app (goodIn_of _ (by decide +kernel)) ggX4_findRoom_X0_placeFrom
set_option maxRecDepth 20000 in
theorem ggX4_findRoom_X1_roomOf : GoodIn wsX4_findRoom wsX1_roomOf := goodIn_r _ [25, 26, 27, 28, 48, 49, 50, 51, 52, 53, 54, 55] (by decide +kernel) (by decide +kernel)
set_option maxRecDepth 20000 in
theorem gX4_findRoom_X1_roomOf : GoodIn wsX4_findRoom (wsV RX4 87 RX1 yX1_roomOf wsX1_roomOf) := goodIn_app (goodIn_of _ (by decide +kernel)) ggX4_findRoom_X1_roomOf
theorem dX4_findRoom_0 : decode cX4_findRoom 0 = .ok (.aload_n 3, 1) := by decide +kernel
theorem dX4_findRoom_1 : decode cX4_findRoom 1 = .ok (.aload_n 2, 1) := by decide +kernel
theorem dX4_findRoom_2 : decode cX4_findRoom 2 = .ok (.iload_n 1, 1) := by decide +kernel
theorem dX4_findRoom_3 : decode cX4_findRoom 3 = .ok (.invokevirtual 51, 3) := by decide +kernel
theorem dX4_findRoom_6 : decode cX4_findRoom 6 = .ok (.invokevirtual 75, 3) := by decide +kernel
theorem dX4_findRoom_9 : decode cX4_findRoom 9 = .ok (.istore 4, 2) := by decide +kernel
theorem dX4_findRoom_11 : decode cX4_findRoom 11 = .ok (.aload_n 0, 1) := by decide +kernel
theorem dX4_findRoom_12 : decode cX4_findRoom 12 = .ok (.getfield 15, 3) := by decide +kernel
theorem dX4_findRoom_15 : decode cX4_findRoom 15 = .ok (.iload_n 1, 1) := by decide +kernel
theorem dX4_findRoom_16 : decode cX4_findRoom 16 = .ok (.bipush (-15), 2) := by decide +kernel
theorem dX4_findRoom_18 : decode cX4_findRoom 18 = .ok (.iastore, 1) := by decide +kernel
theorem dX4_findRoom_19 : decode cX4_findRoom 19 = .ok (.aload_n 0, 1) := by decide +kernel
theorem dX4_findRoom_20 : decode cX4_findRoom 20 = .ok (.getfield 18, 3) := by decide +kernel
theorem dX4_findRoom_23 : decode cX4_findRoom 23 = .ok (.iload_n 1, 1) := by decide +kernel
theorem dX4_findRoom_24 : decode cX4_findRoom 24 = .ok (.aload_n 3, 1) := by decide +kernel
theorem dX4_findRoom_25 : decode cX4_findRoom 25 = .ok (.getfield 78, 3) := by decide +kernel
theorem dX4_findRoom_28 : decode cX4_findRoom 28 = .ok (.iastore, 1) := by decide +kernel
theorem dX4_findRoom_29 : decode cX4_findRoom 29 = .ok (.iconst 0, 1) := by decide +kernel
theorem dX4_findRoom_30 : decode cX4_findRoom 30 = .ok (.istore 5, 2) := by decide +kernel
theorem dX4_findRoom_32 : decode cX4_findRoom 32 = .ok (.iload 5, 2) := by decide +kernel
theorem dX4_findRoom_34 : decode cX4_findRoom 34 = .ok (.aload_n 3, 1) := by decide +kernel
theorem dX4_findRoom_35 : decode cX4_findRoom 35 = .ok (.getfield 78, 3) := by decide +kernel
theorem dX4_findRoom_38 : decode cX4_findRoom 38 = .ok (.if_icmp .ge 71, 3) := by decide +kernel
theorem dX4_findRoom_41 : decode cX4_findRoom 41 = .ok (.aload_n 3, 1) := by decide +kernel
theorem dX4_findRoom_42 : decode cX4_findRoom 42 = .ok (.getfield 81, 3) := by decide +kernel
theorem dX4_findRoom_45 : decode cX4_findRoom 45 = .ok (.aload_n 3, 1) := by decide +kernel
theorem dX4_findRoom_46 : decode cX4_findRoom 46 = .ok (.getfield 84, 3) := by decide +kernel
theorem dX4_findRoom_49 : decode cX4_findRoom 49 = .ok (.iload 4, 2) := by decide +kernel
theorem dX4_findRoom_51 : decode cX4_findRoom 51 = .ok (.iload 5, 2) := by decide +kernel
theorem dX4_findRoom_53 : decode cX4_findRoom 53 = .ok (.iadd, 1) := by decide +kernel
theorem dX4_findRoom_54 : decode cX4_findRoom 54 = .ok (.aload_n 3, 1) := by decide +kernel
theorem dX4_findRoom_55 : decode cX4_findRoom 55 = .ok (.getfield 78, 3) := by decide +kernel
theorem dX4_findRoom_58 : decode cX4_findRoom 58 = .ok (.irem, 1) := by decide +kernel
theorem dX4_findRoom_59 : decode cX4_findRoom 59 = .ok (.iaload, 1) := by decide +kernel
theorem dX4_findRoom_60 : decode cX4_findRoom 60 = .ok (.iaload, 1) := by decide +kernel
theorem dX4_findRoom_61 : decode cX4_findRoom 61 = .ok (.istore 6, 2) := by decide +kernel
theorem dX4_findRoom_63 : decode cX4_findRoom 63 = .ok (.aload_n 0, 1) := by decide +kernel
theorem dX4_findRoom_64 : decode cX4_findRoom 64 = .ok (.getfield 30, 3) := by decide +kernel
theorem dX4_findRoom_67 : decode cX4_findRoom 67 = .ok (.iload 6, 2) := by decide +kernel
theorem dX4_findRoom_69 : decode cX4_findRoom 69 = .ok (.iaload, 1) := by decide +kernel
theorem dX4_findRoom_70 : decode cX4_findRoom 70 = .ok (.aload_n 2, 1) := by decide +kernel
theorem dX4_findRoom_71 : decode cX4_findRoom 71 = .ok (.getfield 60, 3) := by decide +kernel
theorem dX4_findRoom_74 : decode cX4_findRoom 74 = .ok (.iload_n 1, 1) := by decide +kernel
theorem dX4_findRoom_75 : decode cX4_findRoom 75 = .ok (.iaload, 1) := by decide +kernel
theorem dX4_findRoom_76 : decode cX4_findRoom 76 = .ok (.iadd, 1) := by decide +kernel
theorem dX4_findRoom_77 : decode cX4_findRoom 77 = .ok (.aload_n 2, 1) := by decide +kernel
theorem dX4_findRoom_78 : decode cX4_findRoom 78 = .ok (.iload 6, 2) := by decide +kernel
theorem dX4_findRoom_80 : decode cX4_findRoom 80 = .ok (.invokevirtual 87, 3) := by decide +kernel
theorem dX4_findRoom_83 : decode cX4_findRoom 83 = .ok (.if_icmp .gt 20, 3) := by decide +kernel
theorem dX4_findRoom_86 : decode cX4_findRoom 86 = .ok (.aload_n 0, 1) := by decide +kernel
theorem dX4_findRoom_87 : decode cX4_findRoom 87 = .ok (.getfield 15, 3) := by decide +kernel
theorem dX4_findRoom_90 : decode cX4_findRoom 90 = .ok (.iload_n 1, 1) := by decide +kernel
theorem dX4_findRoom_91 : decode cX4_findRoom 91 = .ok (.iload 6, 2) := by decide +kernel
theorem dX4_findRoom_93 : decode cX4_findRoom 93 = .ok (.iastore, 1) := by decide +kernel
theorem dX4_findRoom_94 : decode cX4_findRoom 94 = .ok (.aload_n 0, 1) := by decide +kernel
theorem dX4_findRoom_95 : decode cX4_findRoom 95 = .ok (.getfield 18, 3) := by decide +kernel
theorem dX4_findRoom_98 : decode cX4_findRoom 98 = .ok (.iload_n 1, 1) := by decide +kernel
theorem dX4_findRoom_99 : decode cX4_findRoom 99 = .ok (.iload 5, 2) := by decide +kernel
theorem dX4_findRoom_101 : decode cX4_findRoom 101 = .ok (.iastore, 1) := by decide +kernel
theorem dX4_findRoom_102 : decode cX4_findRoom 102 = .ok (.return_, 1) := by decide +kernel
theorem dX4_findRoom_103 : decode cX4_findRoom 103 = .ok (.iinc 5 1, 3) := by decide +kernel
theorem dX4_findRoom_106 : decode cX4_findRoom 106 = .ok (.goto (-74), 3) := by decide +kernel
theorem dX4_findRoom_109 : decode cX4_findRoom 109 = .ok (.return_, 1) := by decide +kernel
theorem dX4_settleWhereItLies_0 : decode cX4_settleWhereItLies 0 = .ok (.aload_n 0, 1) := by decide +kernel
theorem dX4_settleWhereItLies_1 : decode cX4_settleWhereItLies 1 = .ok (.getfield 15, 3) := by decide +kernel
theorem dX4_settleWhereItLies_4 : decode cX4_settleWhereItLies 4 = .ok (.iload_n 1, 1) := by decide +kernel
theorem dX4_settleWhereItLies_5 : decode cX4_settleWhereItLies 5 = .ok (.iaload, 1) := by decide +kernel
theorem dX4_settleWhereItLies_6 : decode cX4_settleWhereItLies 6 = .ok (.istore_n 3, 1) := by decide +kernel
theorem dX4_settleWhereItLies_7 : decode cX4_settleWhereItLies 7 = .ok (.aload_n 0, 1) := by decide +kernel
theorem dX4_settleWhereItLies_8 : decode cX4_settleWhereItLies 8 = .ok (.getfield 27, 3) := by decide +kernel
theorem dX4_settleWhereItLies_11 : decode cX4_settleWhereItLies 11 = .ok (.iload_n 3, 1) := by decide +kernel
theorem dX4_settleWhereItLies_12 : decode cX4_settleWhereItLies 12 = .ok (.dup2, 1) := by decide +kernel
theorem dX4_settleWhereItLies_13 : decode cX4_settleWhereItLies 13 = .ok (.iaload, 1) := by decide +kernel
theorem dX4_settleWhereItLies_14 : decode cX4_settleWhereItLies 14 = .ok (.iconst 1, 1) := by decide +kernel
theorem dX4_settleWhereItLies_15 : decode cX4_settleWhereItLies 15 = .ok (.iadd, 1) := by decide +kernel
theorem dX4_settleWhereItLies_16 : decode cX4_settleWhereItLies 16 = .ok (.iastore, 1) := by decide +kernel
theorem dX4_settleWhereItLies_17 : decode cX4_settleWhereItLies 17 = .ok (.aload_n 0, 1) := by decide +kernel
theorem dX4_settleWhereItLies_18 : decode cX4_settleWhereItLies 18 = .ok (.getfield 30, 3) := by decide +kernel
theorem dX4_settleWhereItLies_21 : decode cX4_settleWhereItLies 21 = .ok (.iload_n 3, 1) := by decide +kernel
theorem dX4_settleWhereItLies_22 : decode cX4_settleWhereItLies 22 = .ok (.dup2, 1) := by decide +kernel
theorem dX4_settleWhereItLies_23 : decode cX4_settleWhereItLies 23 = .ok (.iaload, 1) := by decide +kernel
theorem dX4_settleWhereItLies_24 : decode cX4_settleWhereItLies 24 = .ok (.iload_n 2, 1) := by decide +kernel
theorem dX4_settleWhereItLies_25 : decode cX4_settleWhereItLies 25 = .ok (.iadd, 1) := by decide +kernel
theorem dX4_settleWhereItLies_26 : decode cX4_settleWhereItLies 26 = .ok (.iastore, 1) := by decide +kernel
theorem dX4_settleWhereItLies_27 : decode cX4_settleWhereItLies 27 = .ok (.iload_n 3, 1) := by decide +kernel
theorem dX4_settleWhereItLies_28 : decode cX4_settleWhereItLies 28 = .ok (.aload_n 0, 1) := by decide +kernel
theorem dX4_settleWhereItLies_29 : decode cX4_settleWhereItLies 29 = .ok (.getfield 9, 3) := by decide +kernel
theorem dX4_settleWhereItLies_32 : decode cX4_settleWhereItLies 32 = .ok (.iload_n 1, 1) := by decide +kernel
theorem dX4_settleWhereItLies_33 : decode cX4_settleWhereItLies 33 = .ok (.iaload, 1) := by decide +kernel
theorem dX4_settleWhereItLies_34 : decode cX4_settleWhereItLies 34 = .ok (.if_icmp .ne 16, 3) := by decide +kernel
theorem dX4_settleWhereItLies_37 : decode cX4_settleWhereItLies 37 = .ok (.aload_n 0, 1) := by decide +kernel
theorem dX4_settleWhereItLies_38 : decode cX4_settleWhereItLies 38 = .ok (.dup, 1) := by decide +kernel
theorem dX4_settleWhereItLies_39 : decode cX4_settleWhereItLies 39 = .ok (.getfield 33, 3) := by decide +kernel
theorem dX4_settleWhereItLies_42 : decode cX4_settleWhereItLies 42 = .ok (.iconst 1, 1) := by decide +kernel
theorem dX4_settleWhereItLies_43 : decode cX4_settleWhereItLies 43 = .ok (.iadd, 1) := by decide +kernel
theorem dX4_settleWhereItLies_44 : decode cX4_settleWhereItLies 44 = .ok (.putfield 33, 3) := by decide +kernel
theorem dX4_settleWhereItLies_47 : decode cX4_settleWhereItLies 47 = .ok (.goto 13, 3) := by decide +kernel
theorem dX4_settleWhereItLies_50 : decode cX4_settleWhereItLies 50 = .ok (.aload_n 0, 1) := by decide +kernel
theorem dX4_settleWhereItLies_51 : decode cX4_settleWhereItLies 51 = .ok (.dup, 1) := by decide +kernel
theorem dX4_settleWhereItLies_52 : decode cX4_settleWhereItLies 52 = .ok (.getfield 37, 3) := by decide +kernel
theorem dX4_settleWhereItLies_55 : decode cX4_settleWhereItLies 55 = .ok (.iconst 1, 1) := by decide +kernel
theorem dX4_settleWhereItLies_56 : decode cX4_settleWhereItLies 56 = .ok (.iadd, 1) := by decide +kernel
theorem dX4_settleWhereItLies_57 : decode cX4_settleWhereItLies 57 = .ok (.putfield 37, 3) := by decide +kernel
theorem dX4_settleWhereItLies_60 : decode cX4_settleWhereItLies 60 = .ok (.return_, 1) := by decide +kernel
set_option maxRecDepth 20000 in
theorem ggX4_homesUnlike_X1_pointOf : GoodIn wsX4_homesUnlike wsX1_pointOf := goodIn_r _ [7, 8, 23, 24, 25, 26, 27, 28, 29, 30] (by decide +kernel) (by decide +kernel)
set_option maxRecDepth 20000 in
theorem gX4_homesUnlike_X1_pointOf : GoodIn wsX4_homesUnlike (wsV RX4 51 RX1 yX1_pointOf wsX1_pointOf) := goodIn_app (goodIn_of _ (by decide +kernel)) ggX4_homesUnlike_X1_pointOf
set_option maxRecDepth 20000 in
theorem ggX4_homesUnlike_X0_homeByTree : GoodIn wsX4_homesUnlike wsX0_homeByTree := goodIn_r _ [13, 14, 15, 16, 17, 12, 18, 19, 20, 21, 22, 40, 41, 42, 43, 44, 45, 46, 47, 48, 49] (by decide +kernel) (by decide +kernel)
set_option maxRecDepth 20000 in
theorem gX4_homesUnlike_X0_homeByTree : GoodIn wsX4_homesUnlike (wsV RX4 55 RX0 yX0_homeByTree wsX0_homeByTree) := goodIn_app (goodIn_of _ (by decide +kernel)) ggX4_homesUnlike_X0_homeByTree
theorem dX4_homesUnlike_0 : decode cX4_homesUnlike 0 = .ok (.iconst 0, 1) := by decide +kernel
theorem dX4_homesUnlike_1 : decode cX4_homesUnlike 1 = .ok (.istore_n 3, 1) := by decide +kernel
theorem dX4_homesUnlike_2 : decode cX4_homesUnlike 2 = .ok (.iconst 0, 1) := by decide +kernel
theorem dX4_homesUnlike_3 : decode cX4_homesUnlike 3 = .ok (.istore 4, 2) := by decide +kernel
theorem dX4_homesUnlike_5 : decode cX4_homesUnlike 5 = .ok (.iload 4, 2) := by decide +kernel
theorem dX4_homesUnlike_7 : decode cX4_homesUnlike 7 = .ok (.aload_n 1, 1) := by decide +kernel
theorem dX4_homesUnlike_8 : decode cX4_homesUnlike 8 = .ok (.getfield 46, 3) := by decide +kernel
theorem dX4_homesUnlike_11 : decode cX4_homesUnlike 11 = .ok (.if_icmp .ge 32, 3) := by decide +kernel
theorem dX4_homesUnlike_14 : decode cX4_homesUnlike 14 = .ok (.aload_n 2, 1) := by decide +kernel
theorem dX4_homesUnlike_15 : decode cX4_homesUnlike 15 = .ok (.aload_n 1, 1) := by decide +kernel
theorem dX4_homesUnlike_16 : decode cX4_homesUnlike 16 = .ok (.iload 4, 2) := by decide +kernel
theorem dX4_homesUnlike_18 : decode cX4_homesUnlike 18 = .ok (.invokevirtual 51, 3) := by decide +kernel
theorem dX4_homesUnlike_21 : decode cX4_homesUnlike 21 = .ok (.invokevirtual 55, 3) := by decide +kernel
theorem dX4_homesUnlike_24 : decode cX4_homesUnlike 24 = .ok (.aload_n 0, 1) := by decide +kernel
theorem dX4_homesUnlike_25 : decode cX4_homesUnlike 25 = .ok (.getfield 9, 3) := by decide +kernel
theorem dX4_homesUnlike_28 : decode cX4_homesUnlike 28 = .ok (.iload 4, 2) := by decide +kernel
theorem dX4_homesUnlike_30 : decode cX4_homesUnlike 30 = .ok (.iaload, 1) := by decide +kernel
theorem dX4_homesUnlike_31 : decode cX4_homesUnlike 31 = .ok (.if_icmp .eq 6, 3) := by decide +kernel
theorem dX4_homesUnlike_34 : decode cX4_homesUnlike 34 = .ok (.iinc 3 1, 3) := by decide +kernel
theorem dX4_homesUnlike_37 : decode cX4_homesUnlike 37 = .ok (.iinc 4 1, 3) := by decide +kernel
theorem dX4_homesUnlike_40 : decode cX4_homesUnlike 40 = .ok (.goto (-35), 3) := by decide +kernel
theorem dX4_homesUnlike_43 : decode cX4_homesUnlike 43 = .ok (.iload_n 3, 1) := by decide +kernel
theorem dX4_homesUnlike_44 : decode cX4_homesUnlike 44 = .ok (.ireturn, 1) := by decide +kernel
theorem dX4_allLyingTons_0 : decode cX4_allLyingTons 0 = .ok (.iconst 0, 1) := by decide +kernel
theorem dX4_allLyingTons_1 : decode cX4_allLyingTons 1 = .ok (.istore_n 1, 1) := by decide +kernel
theorem dX4_allLyingTons_2 : decode cX4_allLyingTons 2 = .ok (.iconst 0, 1) := by decide +kernel
theorem dX4_allLyingTons_3 : decode cX4_allLyingTons 3 = .ok (.istore_n 2, 1) := by decide +kernel
theorem dX4_allLyingTons_4 : decode cX4_allLyingTons 4 = .ok (.iload_n 2, 1) := by decide +kernel
theorem dX4_allLyingTons_5 : decode cX4_allLyingTons 5 = .ok (.bipush 8, 2) := by decide +kernel
theorem dX4_allLyingTons_7 : decode cX4_allLyingTons 7 = .ok (.if_icmp .ge 18, 3) := by decide +kernel
theorem dX4_allLyingTons_10 : decode cX4_allLyingTons 10 = .ok (.iload_n 1, 1) := by decide +kernel
theorem dX4_allLyingTons_11 : decode cX4_allLyingTons 11 = .ok (.aload_n 0, 1) := by decide +kernel
theorem dX4_allLyingTons_12 : decode cX4_allLyingTons 12 = .ok (.getfield 30, 3) := by decide +kernel
theorem dX4_allLyingTons_15 : decode cX4_allLyingTons 15 = .ok (.iload_n 2, 1) := by decide +kernel
theorem dX4_allLyingTons_16 : decode cX4_allLyingTons 16 = .ok (.iaload, 1) := by decide +kernel
theorem dX4_allLyingTons_17 : decode cX4_allLyingTons 17 = .ok (.iadd, 1) := by decide +kernel
theorem dX4_allLyingTons_18 : decode cX4_allLyingTons 18 = .ok (.istore_n 1, 1) := by decide +kernel
theorem dX4_allLyingTons_19 : decode cX4_allLyingTons 19 = .ok (.iinc 2 1, 3) := by decide +kernel
theorem dX4_allLyingTons_22 : decode cX4_allLyingTons 22 = .ok (.goto (-18), 3) := by decide +kernel
theorem dX4_allLyingTons_25 : decode cX4_allLyingTons 25 = .ok (.iload_n 1, 1) := by decide +kernel
theorem dX4_allLyingTons_26 : decode cX4_allLyingTons 26 = .ok (.ireturn, 1) := by decide +kernel
theorem dX5_init_0 : decode cX5_init 0 = .ok (.aload_n 0, 1) := by decide +kernel
theorem dX5_init_1 : decode cX5_init 1 = .ok (.invokespecial 3, 3) := by decide +kernel
theorem dX5_init_4 : decode cX5_init 4 = .ok (.aload_n 0, 1) := by decide +kernel
theorem dX5_init_5 : decode cX5_init 5 = .ok (.iconst 0, 1) := by decide +kernel
theorem dX5_init_6 : decode cX5_init 6 = .ok (.putfield 9, 3) := by decide +kernel
theorem dX5_init_9 : decode cX5_init 9 = .ok (.aload_n 0, 1) := by decide +kernel
theorem dX5_init_10 : decode cX5_init 10 = .ok (.iconst 0, 1) := by decide +kernel
theorem dX5_init_11 : decode cX5_init 11 = .ok (.putfield 15, 3) := by decide +kernel
theorem dX5_init_14 : decode cX5_init 14 = .ok (.aload_n 0, 1) := by decide +kernel
theorem dX5_init_15 : decode cX5_init 15 = .ok (.iconst 0, 1) := by decide +kernel
theorem dX5_init_16 : decode cX5_init 16 = .ok (.putfield 18, 3) := by decide +kernel
theorem dX5_init_19 : decode cX5_init 19 = .ok (.aload_n 0, 1) := by decide +kernel
theorem dX5_init_20 : decode cX5_init 20 = .ok (.iconst 0, 1) := by decide +kernel
theorem dX5_init_21 : decode cX5_init 21 = .ok (.putfield 21, 3) := by decide +kernel
theorem dX5_init_24 : decode cX5_init 24 = .ok (.aload_n 0, 1) := by decide +kernel
theorem dX5_init_25 : decode cX5_init 25 = .ok (.bipush 60, 2) := by decide +kernel
theorem dX5_init_27 : decode cX5_init 27 = .ok (.newarray .char, 2) := by decide +kernel
theorem dX5_init_29 : decode cX5_init 29 = .ok (.putfield 24, 3) := by decide +kernel
theorem dX5_init_32 : decode cX5_init 32 = .ok (.aload_n 0, 1) := by decide +kernel
theorem dX5_init_33 : decode cX5_init 33 = .ok (.iconst 0, 1) := by decide +kernel
theorem dX5_init_34 : decode cX5_init 34 = .ok (.putfield 28, 3) := by decide +kernel
theorem dX5_init_37 : decode cX5_init 37 = .ok (.return_, 1) := by decide +kernel
