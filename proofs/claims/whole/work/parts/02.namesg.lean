theorem dX7_comes_58 : decode cX7_comes 58 = .ok (.iconst 1, 1) := by decide +kernel
theorem dX7_comes_59 : decode cX7_comes 59 = .ok (.bipush 24, 2) := by decide +kernel
theorem dX7_comes_61 : decode cX7_comes 61 = .ok (.invokevirtual 104, 3) := by decide +kernel
theorem dX7_comes_64 : decode cX7_comes 64 = .ok (.ireturn, 1) := by decide +kernel
theorem dX7_comes_65 : decode cX7_comes 65 = .ok (.aload_n 0, 1) := by decide +kernel
theorem dX7_comes_66 : decode cX7_comes 66 = .ok (.getfield 9, 3) := by decide +kernel
theorem dX7_comes_69 : decode cX7_comes 69 = .ok (.bipush 20, 2) := by decide +kernel
theorem dX7_comes_71 : decode cX7_comes 71 = .ok (.iconst 2, 1) := by decide +kernel
theorem dX7_comes_72 : decode cX7_comes 72 = .ok (.iload 4, 2) := by decide +kernel
theorem dX7_comes_74 : decode cX7_comes 74 = .ok (.imul, 1) := by decide +kernel
theorem dX7_comes_75 : decode cX7_comes 75 = .ok (.iadd, 1) := by decide +kernel
theorem dX7_comes_76 : decode cX7_comes 76 = .ok (.iconst 0, 1) := by decide +kernel
theorem dX7_comes_77 : decode cX7_comes 77 = .ok (.iadd, 1) := by decide +kernel
theorem dX7_comes_78 : decode cX7_comes 78 = .ok (.iload_n 1, 1) := by decide +kernel
theorem dX7_comes_79 : decode cX7_comes 79 = .ok (.iastore, 1) := by decide +kernel
theorem dX7_comes_80 : decode cX7_comes 80 = .ok (.aload_n 0, 1) := by decide +kernel
theorem dX7_comes_81 : decode cX7_comes 81 = .ok (.getfield 9, 3) := by decide +kernel
theorem dX7_comes_84 : decode cX7_comes 84 = .ok (.bipush 20, 2) := by decide +kernel
theorem dX7_comes_86 : decode cX7_comes 86 = .ok (.iconst 2, 1) := by decide +kernel
theorem dX7_comes_87 : decode cX7_comes 87 = .ok (.iload 4, 2) := by decide +kernel
theorem dX7_comes_89 : decode cX7_comes 89 = .ok (.imul, 1) := by decide +kernel
theorem dX7_comes_90 : decode cX7_comes 90 = .ok (.iadd, 1) := by decide +kernel
theorem dX7_comes_91 : decode cX7_comes 91 = .ok (.iconst 1, 1) := by decide +kernel
theorem dX7_comes_92 : decode cX7_comes 92 = .ok (.iadd, 1) := by decide +kernel
theorem dX7_comes_93 : decode cX7_comes 93 = .ok (.iload_n 2, 1) := by decide +kernel
theorem dX7_comes_94 : decode cX7_comes 94 = .ok (.iastore, 1) := by decide +kernel
theorem dX7_comes_95 : decode cX7_comes 95 = .ok (.aload_n 0, 1) := by decide +kernel
theorem dX7_comes_96 : decode cX7_comes 96 = .ok (.getfield 9, 3) := by decide +kernel
theorem dX7_comes_99 : decode cX7_comes 99 = .ok (.iconst 1, 1) := by decide +kernel
theorem dX7_comes_100 : decode cX7_comes 100 = .ok (.dup2, 1) := by decide +kernel
theorem dX7_comes_101 : decode cX7_comes 101 = .ok (.iaload, 1) := by decide +kernel
theorem dX7_comes_102 : decode cX7_comes 102 = .ok (.iconst 1, 1) := by decide +kernel
theorem dX7_comes_103 : decode cX7_comes 103 = .ok (.iadd, 1) := by decide +kernel
theorem dX7_comes_104 : decode cX7_comes 104 = .ok (.iastore, 1) := by decide +kernel
theorem dX7_comes_105 : decode cX7_comes 105 = .ok (.iload 4, 2) := by decide +kernel
theorem dX7_comes_107 : decode cX7_comes 107 = .ok (.ireturn, 1) := by decide +kernel
set_option maxRecDepth 20000 in
theorem ggX7_barge_X7_begins : GoodIn wsX7_barge wsX7_begins := goodIn_r _ [5, 6, 7, 8, 4, 9, 10, 37, 38, 39, 40, 41, 42, 43, 44, 45, 46, 47, 48, 49, 50, 51, 52, 53, 54, 55, 56, 57, 58, 59, 60, 61] (by decide +kernel) (by decide +kernel)
set_option maxRecDepth 20000 in
theorem gX7_barge_X7_begins : GoodIn wsX7_barge (wsV RX7 113 RX7 yX7_begins wsX7_begins) := goodIn_app (goodIn_of _ (by decide +kernel)) ggX7_barge_X7_begins
set_option maxRecDepth 20000 in
theorem ggX7_barge_X7_comes : GoodIn wsX7_barge wsX7_comes := goodIn_r _ [14, 10, 15, 16, 4, 17, 18, 19, 20, 21, 22, 23, 24, 25, 26, 27, 28, 29, 30, 31, 37, 38, 39, 40, 41, 42, 43, 44, 45, 46, 47, 48, 49, 50, 51, 52, 53, 54, 55, 56, 57, 58, 59, 60, 61] (by decide +kernel) (by decide +kernel)
set_option maxRecDepth 20000 in
theorem gX7_barge_X7_comes : GoodIn wsX7_barge (wsV RX7 137 RX7 yX7_comes wsX7_comes) := goodIn_app (goodIn_of _ (by decide +kernel)) ggX7_barge_X7_comes
set_option maxRecDepth 20000 in
theorem ggX7_barge_X7_ends : GoodIn wsX7_barge wsX7_ends := goodIn_r _ [35, 36, 15, 16, 4, 17, 6, 7, 8, 9, 10, 37, 38, 39, 40, 41, 42, 43, 44, 45, 46, 47, 48, 49, 50, 51, 52, 53, 54, 55, 56, 57, 58, 59, 60, 61] (by decide +kernel) (by decide +kernel)
set_option maxRecDepth 20000 in
theorem gX7_barge_X7_ends : GoodIn wsX7_barge (wsV RX7 119 RX7 yX7_ends wsX7_ends) := goodIn_app (goodIn_of _ (by decide +kernel)) ggX7_barge_X7_ends
theorem dX7_barge_0 : decode cX7_barge 0 = .ok (.aload_n 0, 1) := by decide +kernel
theorem dX7_barge_1 : decode cX7_barge 1 = .ok (.invokevirtual 113, 3) := by decide +kernel
theorem dX7_barge_4 : decode cX7_barge 4 = .ok (.aload_n 0, 1) := by decide +kernel
theorem dX7_barge_5 : decode cX7_barge 5 = .ok (.aload_n 0, 1) := by decide +kernel
theorem dX7_barge_6 : decode cX7_barge 6 = .ok (.iload_n 1, 1) := by decide +kernel
theorem dX7_barge_7 : decode cX7_barge 7 = .ok (.iload_n 2, 1) := by decide +kernel
theorem dX7_barge_8 : decode cX7_barge 8 = .ok (.invokevirtual 137, 3) := by decide +kernel
theorem dX7_barge_11 : decode cX7_barge 11 = .ok (.invokevirtual 119, 3) := by decide +kernel
theorem dX7_barge_14 : decode cX7_barge 14 = .ok (.ireturn, 1) := by decide +kernel
set_option maxRecDepth 20000 in
theorem ggX7_leaves_X7_isBarge : GoodIn wsX7_leaves wsX7_isBarge := goodIn_r _ [6, 1, 7, 8, 5, 9, 10, 11, 12, 13, 14, 15, 16, 17, 18, 19, 20, 21, 22, 23, 24, 25, 26, 27, 28, 29, 30, 31, 32, 33, 34] (by decide +kernel) (by decide +kernel)
set_option maxRecDepth 20000 in
theorem gX7_leaves_X7_isBarge : GoodIn wsX7_leaves (wsV RX7 140 RX7 yX7_isBarge wsX7_isBarge) := goodIn_app (goodIn_of _ (by decide +kernel)) ggX7_leaves_X7_isBarge
theorem dX7_leaves_0 : decode cX7_leaves 0 = .ok (.aload_n 0, 1) := by decide +kernel
theorem dX7_leaves_1 : decode cX7_leaves 1 = .ok (.iload_n 1, 1) := by decide +kernel
theorem dX7_leaves_2 : decode cX7_leaves 2 = .ok (.invokevirtual 140, 3) := by decide +kernel
theorem dX7_leaves_5 : decode cX7_leaves 5 = .ok (.ifCond .ne 6, 3) := by decide +kernel
theorem dX7_leaves_8 : decode cX7_leaves 8 = .ok (.bipush (-11), 2) := by decide +kernel
theorem dX7_leaves_10 : decode cX7_leaves 10 = .ok (.ireturn, 1) := by decide +kernel
theorem dX7_leaves_11 : decode cX7_leaves 11 = .ok (.aload_n 0, 1) := by decide +kernel
theorem dX7_leaves_12 : decode cX7_leaves 12 = .ok (.getfield 9, 3) := by decide +kernel
theorem dX7_leaves_15 : decode cX7_leaves 15 = .ok (.iconst 1, 1) := by decide +kernel
theorem dX7_leaves_16 : decode cX7_leaves 16 = .ok (.dup2, 1) := by decide +kernel
theorem dX7_leaves_17 : decode cX7_leaves 17 = .ok (.iaload, 1) := by decide +kernel
theorem dX7_leaves_18 : decode cX7_leaves 18 = .ok (.iconst 1, 1) := by decide +kernel
theorem dX7_leaves_19 : decode cX7_leaves 19 = .ok (.isub, 1) := by decide +kernel
theorem dX7_leaves_20 : decode cX7_leaves 20 = .ok (.iastore, 1) := by decide +kernel
theorem dX7_leaves_21 : decode cX7_leaves 21 = .ok (.aload_n 0, 1) := by decide +kernel
theorem dX7_leaves_22 : decode cX7_leaves 22 = .ok (.getfield 9, 3) := by decide +kernel
theorem dX7_leaves_25 : decode cX7_leaves 25 = .ok (.iconst 1, 1) := by decide +kernel
theorem dX7_leaves_26 : decode cX7_leaves 26 = .ok (.iaload, 1) := by decide +kernel
theorem dX7_leaves_27 : decode cX7_leaves 27 = .ok (.istore_n 2, 1) := by decide +kernel
theorem dX7_leaves_28 : decode cX7_leaves 28 = .ok (.iconst 2, 1) := by decide +kernel
theorem dX7_leaves_29 : decode cX7_leaves 29 = .ok (.iload_n 1, 1) := by decide +kernel
theorem dX7_leaves_30 : decode cX7_leaves 30 = .ok (.imul, 1) := by decide +kernel
theorem dX7_leaves_31 : decode cX7_leaves 31 = .ok (.istore_n 3, 1) := by decide +kernel
theorem dX7_leaves_32 : decode cX7_leaves 32 = .ok (.iload_n 3, 1) := by decide +kernel
theorem dX7_leaves_33 : decode cX7_leaves 33 = .ok (.iconst 2, 1) := by decide +kernel
theorem dX7_leaves_34 : decode cX7_leaves 34 = .ok (.iload_n 2, 1) := by decide +kernel
theorem dX7_leaves_35 : decode cX7_leaves 35 = .ok (.imul, 1) := by decide +kernel
theorem dX7_leaves_36 : decode cX7_leaves 36 = .ok (.if_icmp .ge 29, 3) := by decide +kernel
theorem dX7_leaves_39 : decode cX7_leaves 39 = .ok (.aload_n 0, 1) := by decide +kernel
theorem dX7_leaves_40 : decode cX7_leaves 40 = .ok (.getfield 9, 3) := by decide +kernel
theorem dX7_leaves_43 : decode cX7_leaves 43 = .ok (.bipush 20, 2) := by decide +kernel
theorem dX7_leaves_45 : decode cX7_leaves 45 = .ok (.iload_n 3, 1) := by decide +kernel
theorem dX7_leaves_46 : decode cX7_leaves 46 = .ok (.iadd, 1) := by decide +kernel
theorem dX7_leaves_47 : decode cX7_leaves 47 = .ok (.aload_n 0, 1) := by decide +kernel
theorem dX7_leaves_48 : decode cX7_leaves 48 = .ok (.getfield 9, 3) := by decide +kernel
theorem dX7_leaves_51 : decode cX7_leaves 51 = .ok (.bipush 20, 2) := by decide +kernel
theorem dX7_leaves_53 : decode cX7_leaves 53 = .ok (.iload_n 3, 1) := by decide +kernel
theorem dX7_leaves_54 : decode cX7_leaves 54 = .ok (.iadd, 1) := by decide +kernel
theorem dX7_leaves_55 : decode cX7_leaves 55 = .ok (.iconst 2, 1) := by decide +kernel
theorem dX7_leaves_56 : decode cX7_leaves 56 = .ok (.iadd, 1) := by decide +kernel
theorem dX7_leaves_57 : decode cX7_leaves 57 = .ok (.iaload, 1) := by decide +kernel
theorem dX7_leaves_58 : decode cX7_leaves 58 = .ok (.iastore, 1) := by decide +kernel
theorem dX7_leaves_59 : decode cX7_leaves 59 = .ok (.iinc 3 1, 3) := by decide +kernel
theorem dX7_leaves_62 : decode cX7_leaves 62 = .ok (.goto (-30), 3) := by decide +kernel
theorem dX7_leaves_65 : decode cX7_leaves 65 = .ok (.aload_n 0, 1) := by decide +kernel
theorem dX7_leaves_66 : decode cX7_leaves 66 = .ok (.getfield 9, 3) := by decide +kernel
theorem dX7_leaves_69 : decode cX7_leaves 69 = .ok (.bipush 20, 2) := by decide +kernel
theorem dX7_leaves_71 : decode cX7_leaves 71 = .ok (.iconst 2, 1) := by decide +kernel
theorem dX7_leaves_72 : decode cX7_leaves 72 = .ok (.iload_n 2, 1) := by decide +kernel
theorem dX7_leaves_73 : decode cX7_leaves 73 = .ok (.imul, 1) := by decide +kernel
theorem dX7_leaves_74 : decode cX7_leaves 74 = .ok (.iadd, 1) := by decide +kernel
theorem dX7_leaves_75 : decode cX7_leaves 75 = .ok (.iconst 0, 1) := by decide +kernel
theorem dX7_leaves_76 : decode cX7_leaves 76 = .ok (.iastore, 1) := by decide +kernel
theorem dX7_leaves_77 : decode cX7_leaves 77 = .ok (.aload_n 0, 1) := by decide +kernel
theorem dX7_leaves_78 : decode cX7_leaves 78 = .ok (.getfield 9, 3) := by decide +kernel
theorem dX7_leaves_81 : decode cX7_leaves 81 = .ok (.bipush 20, 2) := by decide +kernel
theorem dX7_leaves_83 : decode cX7_leaves 83 = .ok (.iconst 2, 1) := by decide +kernel
theorem dX7_leaves_84 : decode cX7_leaves 84 = .ok (.iload_n 2, 1) := by decide +kernel
theorem dX7_leaves_85 : decode cX7_leaves 85 = .ok (.imul, 1) := by decide +kernel
theorem dX7_leaves_86 : decode cX7_leaves 86 = .ok (.iadd, 1) := by decide +kernel
theorem dX7_leaves_87 : decode cX7_leaves 87 = .ok (.iconst 1, 1) := by decide +kernel
theorem dX7_leaves_88 : decode cX7_leaves 88 = .ok (.iadd, 1) := by decide +kernel
theorem dX7_leaves_89 : decode cX7_leaves 89 = .ok (.iconst 0, 1) := by decide +kernel
theorem dX7_leaves_90 : decode cX7_leaves 90 = .ok (.iastore, 1) := by decide +kernel
theorem dX7_leaves_91 : decode cX7_leaves 91 = .ok (.iload_n 2, 1) := by decide +kernel
theorem dX7_leaves_92 : decode cX7_leaves 92 = .ok (.ireturn, 1) := by decide +kernel
set_option maxRecDepth 20000 in
theorem ggX7_leave_X7_begins : GoodIn wsX7_leave wsX7_begins := goodIn_r _ [5, 6, 7, 8, 4, 9, 10, 27, 28, 29, 30, 31, 32, 33, 34, 35, 36, 37, 38, 39, 40, 41, 42, 43, 44, 45, 46, 47, 48, 49, 50, 51] (by decide +kernel) (by decide +kernel)
set_option maxRecDepth 20000 in
theorem gX7_leave_X7_begins : GoodIn wsX7_leave (wsV RX7 113 RX7 yX7_begins wsX7_begins) := goodIn_app (goodIn_of _ (by decide +kernel)) ggX7_leave_X7_begins
set_option maxRecDepth 20000 in
theorem ggX7_leave_X7_leaves : GoodIn wsX7_leave wsX7_leaves := goodIn_r _ [14, 10, 15, 16, 17, 4, 18, 19, 20, 21, 27, 28, 29, 30, 31, 32, 33, 34, 35, 36, 37, 38, 39, 40, 41, 42, 43, 44, 45, 46, 47, 48, 49, 50, 51] (by decide +kernel) (by decide +kernel)
set_option maxRecDepth 20000 in
theorem gX7_leave_X7_leaves : GoodIn wsX7_leave (wsV RX7 143 RX7 yX7_leaves wsX7_leaves) := goodIn_app (goodIn_of _ (by decide +kernel)) ggX7_leave_X7_leaves
set_option maxRecDepth 20000 in
theorem ggX7_leave_X7_ends : GoodIn wsX7_leave wsX7_ends := goodIn_r _ [25, 26, 19, 20, 4, 21, 6, 7, 8, 9, 10, 27, 28, 29, 30, 31, 32, 33, 34, 35, 36, 37, 38, 39, 40, 41, 42, 43, 44, 45, 46, 47, 48, 49, 50, 51] (by decide +kernel) (by decide +kernel)
set_option maxRecDepth 20000 in
theorem gX7_leave_X7_ends : GoodIn wsX7_leave (wsV RX7 119 RX7 yX7_ends wsX7_ends) := goodIn_app (goodIn_of _ (by decide +kernel)) ggX7_leave_X7_ends
theorem dX7_leave_0 : decode cX7_leave 0 = .ok (.aload_n 0, 1) := by decide +kernel
theorem dX7_leave_1 : decode cX7_leave 1 = .ok (.invokevirtual 113, 3) := by decide +kernel
theorem dX7_leave_4 : decode cX7_leave 4 = .ok (.aload_n 0, 1) := by decide +kernel
theorem dX7_leave_5 : decode cX7_leave 5 = .ok (.aload_n 0, 1) := by decide +kernel
theorem dX7_leave_6 : decode cX7_leave 6 = .ok (.iload_n 1, 1) := by decide +kernel
theorem dX7_leave_7 : decode cX7_leave 7 = .ok (.invokevirtual 143, 3) := by decide +kernel
theorem dX7_leave_10 : decode cX7_leave 10 = .ok (.invokevirtual 119, 3) := by decide +kernel
theorem dX7_leave_13 : decode cX7_leave 13 = .ok (.ireturn, 1) := by decide +kernel
set_option maxRecDepth 20000 in
theorem ggX7_loads_X7_isBarge : GoodIn wsX7_loads wsX7_isBarge := goodIn_r _ [6, 1, 7, 8, 5, 9, 20, 21, 22, 23, 24, 25, 26, 27, 28, 29, 30, 31, 32, 33, 34, 35, 36, 37, 38, 39, 40, 41, 42, 43, 44] (by decide +kernel) (by decide +kernel)
set_option maxRecDepth 20000 in
theorem gX7_loads_X7_isBarge : GoodIn wsX7_loads (wsV RX7 140 RX7 yX7_isBarge wsX7_isBarge) := goodIn_app (goodIn_of _ (by decide +kernel)) ggX7_loads_X7_isBarge
set_option maxRecDepth 20000 in
theorem ggX7_loads_X7_in : GoodIn wsX7_loads wsX7_in := goodIn_r _ [9] (by decide +kernel) (by decide +kernel)
set_option maxRecDepth 20000 in
theorem gX7_loads_X7_in : GoodIn wsX7_loads (va_wsS RX7 59 yX7_in wsX7_in) := goodIn_app (goodIn_of _ (by decide +kernel)) ggX7_loads_X7_in
set_option maxRecDepth 20000 in
theorem ggX7_loads_X7_b : GoodIn wsX7_loads wsX7_b := goodIn_r _ [13, 1, 20, 21, 22, 23, 24, 25, 26, 27, 28, 29, 30, 31, 32, 33, 34, 35, 36, 37, 38, 39, 40, 41, 42, 43, 44] (by decide +kernel) (by decide +kernel)
set_option maxRecDepth 20000 in
theorem gX7_loads_X7_b : GoodIn wsX7_loads (wsV RX7 88 RX7 yX7_b wsX7_b) := goodIn_app (goodIn_of _ (by decide +kernel)) ggX7_loads_X7_b
set_option maxRecDepth 20000 in
theorem ggX7_loads_X7_refuses : GoodIn wsX7_loads wsX7_refuses := goodIn_r _ [17, 18, 19, 20, 21, 22, 23, 24, 25, 26, 27, 28, 29, 30, 31, 32, 33, 34, 35, 36, 37, 38, 39, 40, 41, 42, 43, 44] (by decide +kernel) (by decide +kernel)
set_option maxRecDepth 20000 in
theorem gX7_loads_X7_refuses : GoodIn wsX7_loads (wsV RX7 104 RX7 yX7_refuses wsX7_refuses) := goodIn_app (goodIn_of _ (by decide +kernel)) ggX7_loads_X7_refuses
theorem dX7_loads_0 : decode cX7_loads 0 = .ok (.aload_n 0, 1) := by decide +kernel
theorem dX7_loads_1 : decode cX7_loads 1 = .ok (.iload_n 1, 1) := by decide +kernel
theorem dX7_loads_2 : decode cX7_loads 2 = .ok (.invokevirtual 140, 3) := by decide +kernel
theorem dX7_loads_5 : decode cX7_loads 5 = .ok (.ifCond .ne 6, 3) := by decide +kernel
theorem dX7_loads_8 : decode cX7_loads 8 = .ok (.bipush (-11), 2) := by decide +kernel
theorem dX7_loads_10 : decode cX7_loads 10 = .ok (.ireturn, 1) := by decide +kernel
theorem dX7_loads_11 : decode cX7_loads 11 = .ok (.iload_n 2, 1) := by decide +kernel
theorem dX7_loads_12 : decode cX7_loads 12 = .ok (.iconst 1, 1) := by decide +kernel
theorem dX7_loads_13 : decode cX7_loads 13 = .ok (.bipush 99, 2) := by decide +kernel
theorem dX7_loads_15 : decode cX7_loads 15 = .ok (.invokestatic 59, 3) := by decide +kernel
theorem dX7_loads_18 : decode cX7_loads 18 = .ok (.ifCond .ne 6, 3) := by decide +kernel
theorem dX7_loads_21 : decode cX7_loads 21 = .ok (.bipush (-12), 2) := by decide +kernel
theorem dX7_loads_23 : decode cX7_loads 23 = .ok (.ireturn, 1) := by decide +kernel
theorem dX7_loads_24 : decode cX7_loads 24 = .ok (.aload_n 0, 1) := by decide +kernel
theorem dX7_loads_25 : decode cX7_loads 25 = .ok (.iload_n 1, 1) := by decide +kernel
theorem dX7_loads_26 : decode cX7_loads 26 = .ok (.iconst 1, 1) := by decide +kernel
theorem dX7_loads_27 : decode cX7_loads 27 = .ok (.invokevirtual 88, 3) := by decide +kernel
theorem dX7_loads_30 : decode cX7_loads 30 = .ok (.istore_n 3, 1) := by decide +kernel
theorem dX7_loads_31 : decode cX7_loads 31 = .ok (.iload_n 3, 1) := by decide +kernel
theorem dX7_loads_32 : decode cX7_loads 32 = .ok (.iload_n 2, 1) := by decide +kernel
theorem dX7_loads_33 : decode cX7_loads 33 = .ok (.if_icmp .ne 10, 3) := by decide +kernel
theorem dX7_loads_36 : decode cX7_loads 36 = .ok (.aload_n 0, 1) := by decide +kernel
theorem dX7_loads_37 : decode cX7_loads 37 = .ok (.iconst 3, 1) := by decide +kernel
theorem dX7_loads_38 : decode cX7_loads 38 = .ok (.iload_n 2, 1) := by decide +kernel
theorem dX7_loads_39 : decode cX7_loads 39 = .ok (.invokevirtual 104, 3) := by decide +kernel
theorem dX7_loads_42 : decode cX7_loads 42 = .ok (.ireturn, 1) := by decide +kernel
theorem dX7_loads_43 : decode cX7_loads 43 = .ok (.aload_n 0, 1) := by decide +kernel
theorem dX7_loads_44 : decode cX7_loads 44 = .ok (.getfield 9, 3) := by decide +kernel
theorem dX7_loads_47 : decode cX7_loads 47 = .ok (.bipush 20, 2) := by decide +kernel
theorem dX7_loads_49 : decode cX7_loads 49 = .ok (.iconst 2, 1) := by decide +kernel
theorem dX7_loads_50 : decode cX7_loads 50 = .ok (.iload_n 1, 1) := by decide +kernel
theorem dX7_loads_51 : decode cX7_loads 51 = .ok (.imul, 1) := by decide +kernel
theorem dX7_loads_52 : decode cX7_loads 52 = .ok (.iadd, 1) := by decide +kernel
theorem dX7_loads_53 : decode cX7_loads 53 = .ok (.iconst 1, 1) := by decide +kernel
theorem dX7_loads_54 : decode cX7_loads 54 = .ok (.iadd, 1) := by decide +kernel
theorem dX7_loads_55 : decode cX7_loads 55 = .ok (.iload_n 2, 1) := by decide +kernel
theorem dX7_loads_56 : decode cX7_loads 56 = .ok (.iastore, 1) := by decide +kernel
theorem dX7_loads_57 : decode cX7_loads 57 = .ok (.iload_n 3, 1) := by decide +kernel
theorem dX7_loads_58 : decode cX7_loads 58 = .ok (.ireturn, 1) := by decide +kernel
set_option maxRecDepth 20000 in
theorem ggX7_load_X7_begins : GoodIn wsX7_load wsX7_begins := goodIn_r _ [5, 6, 7, 8, 4, 9, 10, 37, 38, 39, 40, 41, 42, 43, 44, 45, 46, 47, 48, 49, 50, 51, 52, 53, 54, 55, 56, 57, 58, 59, 60, 61] (by decide +kernel) (by decide +kernel)
set_option maxRecDepth 20000 in
theorem gX7_load_X7_begins : GoodIn wsX7_load (wsV RX7 113 RX7 yX7_begins wsX7_begins) := goodIn_app (goodIn_of _ (by decide +kernel)) ggX7_load_X7_begins
set_option maxRecDepth 20000 in
theorem ggX7_load_X7_loads : GoodIn wsX7_load wsX7_loads := goodIn_r _ [14, 10, 15, 16, 17, 4, 18, 19, 20, 21, 22, 23, 24, 25, 26, 27, 28, 29, 30, 31, 37, 38, 39, 40, 41, 42, 43, 44, 45, 46, 47, 48, 49, 50, 51, 52, 53, 54, 55, 56, 57, 58, 59, 60, 61] (by decide +kernel) (by decide +kernel)
set_option maxRecDepth 20000 in
theorem gX7_load_X7_loads : GoodIn wsX7_load (wsV RX7 146 RX7 yX7_loads wsX7_loads) := goodIn_app (goodIn_of _ (by decide +kernel)) ggX7_load_X7_loads
set_option maxRecDepth 20000 in
theorem ggX7_load_X7_ends : GoodIn wsX7_load wsX7_ends := goodIn_r _ [35, 36, 19, 20, 4, 21, 6, 7, 8, 9, 10, 37, 38, 39, 40, 41, 42, 43, 44, 45, 46, 47, 48, 49, 50, 51, 52, 53, 54, 55, 56, 57, 58, 59, 60, 61] (by decide +kernel) (by decide +kernel)
set_option maxRecDepth 20000 in
theorem gX7_load_X7_ends : GoodIn wsX7_load (wsV RX7 119 RX7 yX7_ends wsX7_ends) := goodIn_app (goodIn_of _ (by decide +kernel)) ggX7_load_X7_ends
theorem dX7_load_0 : decode cX7_load 0 = .ok (.aload_n 0, 1) := by decide +kernel
theorem dX7_load_1 : decode cX7_load 1 = .ok (.invokevirtual 113, 3) := by decide +kernel
theorem dX7_load_4 : decode cX7_load 4 = .ok (.aload_n 0, 1) := by decide +kernel
theorem dX7_load_5 : decode cX7_load 5 = .ok (.aload_n 0, 1) := by decide +kernel
theorem dX7_load_6 : decode cX7_load 6 = .ok (.iload_n 1, 1) := by decide +kernel
theorem dX7_load_7 : decode cX7_load 7 = .ok (.iload_n 2, 1) := by decide +kernel
theorem dX7_load_8 : decode cX7_load 8 = .ok (.invokevirtual 146, 3) := by decide +kernel
theorem dX7_load_11 : decode cX7_load 11 = .ok (.invokevirtual 119, 3) := by decide +kernel
theorem dX7_load_14 : decode cX7_load 14 = .ok (.ireturn, 1) := by decide +kernel
set_option maxRecDepth 20000 in
theorem ggX7_goesAlong_X7_b : GoodIn wsX7_goesAlong wsX7_b := goodIn_r _ [9, 10, 26, 27, 28, 29, 30, 31, 32, 33, 34, 35, 36, 37, 38, 39, 40, 41, 42, 43, 44, 45, 46, 47, 48, 49, 50] (by decide +kernel) (by decide +kernel)
set_option maxRecDepth 20000 in
theorem gX7_goesAlong_X7_b : GoodIn wsX7_goesAlong (wsV RX7 88 RX7 yX7_b wsX7_b) := goodIn_app (goodIn_of _ (by decide +kernel)) ggX7_goesAlong_X7_b
set_option maxRecDepth 20000 in
theorem ggX7_goesAlong_X7_placeOf : GoodIn wsX7_goesAlong wsX7_placeOf := goodIn_r _ [13] (by decide +kernel) (by decide +kernel)
set_option maxRecDepth 20000 in
theorem gX7_goesAlong_X7_placeOf : GoodIn wsX7_goesAlong (va_wsS RX7 91 yX7_placeOf wsX7_placeOf) := goodIn_app (goodIn_of _ (by decide +kernel)) ggX7_goesAlong_X7_placeOf
set_option maxRecDepth 20000 in
theorem ggX7_goesAlong_X7_room : GoodIn wsX7_goesAlong wsX7_room := goodIn_r _ [17, 10, 18, 19, 20, 8, 21, 22, 23, 24, 25, 26, 27, 28, 29, 30, 31, 32, 33, 34, 35, 36, 37, 38, 39, 40, 41, 42, 43, 44, 45, 46, 47, 48, 49, 50] (by decide +kernel) (by decide +kernel)
set_option maxRecDepth 20000 in
theorem gX7_goesAlong_X7_room : GoodIn wsX7_goesAlong (wsV RX7 149 RX7 yX7_room wsX7_room) := goodIn_app (goodIn_of _ (by decide +kernel)) ggX7_goesAlong_X7_room
theorem dX7_goesAlong_0 : decode cX7_goesAlong 0 = .ok (.aload_n 0, 1) := by decide +kernel
theorem dX7_goesAlong_1 : decode cX7_goesAlong 1 = .ok (.iload_n 1, 1) := by decide +kernel
theorem dX7_goesAlong_2 : decode cX7_goesAlong 2 = .ok (.iconst 0, 1) := by decide +kernel
theorem dX7_goesAlong_3 : decode cX7_goesAlong 3 = .ok (.invokevirtual 88, 3) := by decide +kernel
theorem dX7_goesAlong_6 : decode cX7_goesAlong 6 = .ok (.invokestatic 91, 3) := by decide +kernel
theorem dX7_goesAlong_9 : decode cX7_goesAlong 9 = .ok (.istore_n 2, 1) := by decide +kernel
theorem dX7_goesAlong_10 : decode cX7_goesAlong 10 = .ok (.aload_n 0, 1) := by decide +kernel
theorem dX7_goesAlong_11 : decode cX7_goesAlong 11 = .ok (.getfield 22, 3) := by decide +kernel
theorem dX7_goesAlong_14 : decode cX7_goesAlong 14 = .ok (.iload_n 1, 1) := by decide +kernel
theorem dX7_goesAlong_15 : decode cX7_goesAlong 15 = .ok (.iconst (-1), 1) := by decide +kernel
theorem dX7_goesAlong_16 : decode cX7_goesAlong 16 = .ok (.iastore, 1) := by decide +kernel
theorem dX7_goesAlong_17 : decode cX7_goesAlong 17 = .ok (.aload_n 0, 1) := by decide +kernel
theorem dX7_goesAlong_18 : decode cX7_goesAlong 18 = .ok (.getfield 25, 3) := by decide +kernel
theorem dX7_goesAlong_21 : decode cX7_goesAlong 21 = .ok (.iload_n 1, 1) := by decide +kernel
theorem dX7_goesAlong_22 : decode cX7_goesAlong 22 = .ok (.iconst 0, 1) := by decide +kernel
theorem dX7_goesAlong_23 : decode cX7_goesAlong 23 = .ok (.iastore, 1) := by decide +kernel
theorem dX7_goesAlong_24 : decode cX7_goesAlong 24 = .ok (.iconst 0, 1) := by decide +kernel
theorem dX7_goesAlong_25 : decode cX7_goesAlong 25 = .ok (.istore_n 3, 1) := by decide +kernel
theorem dX7_goesAlong_26 : decode cX7_goesAlong 26 = .ok (.iload_n 3, 1) := by decide +kernel
theorem dX7_goesAlong_27 : decode cX7_goesAlong 27 = .ok (.sipush 360, 3) := by decide +kernel
theorem dX7_goesAlong_30 : decode cX7_goesAlong 30 = .ok (.if_icmp .ge 114, 3) := by decide +kernel
theorem dX7_goesAlong_33 : decode cX7_goesAlong 33 = .ok (.aload_n 0, 1) := by decide +kernel
theorem dX7_goesAlong_34 : decode cX7_goesAlong 34 = .ok (.getfield 22, 3) := by decide +kernel
theorem dX7_goesAlong_37 : decode cX7_goesAlong 37 = .ok (.iload_n 1, 1) := by decide +kernel
theorem dX7_goesAlong_38 : decode cX7_goesAlong 38 = .ok (.iaload, 1) := by decide +kernel
theorem dX7_goesAlong_39 : decode cX7_goesAlong 39 = .ok (.iconst (-1), 1) := by decide +kernel
theorem dX7_goesAlong_40 : decode cX7_goesAlong 40 = .ok (.if_icmp .ne 104, 3) := by decide +kernel
theorem dX7_goesAlong_43 : decode cX7_goesAlong 43 = .ok (.aload_n 0, 1) := by decide +kernel
theorem dX7_goesAlong_44 : decode cX7_goesAlong 44 = .ok (.getfield 13, 3) := by decide +kernel
theorem dX7_goesAlong_47 : decode cX7_goesAlong 47 = .ok (.iload_n 2, 1) := by decide +kernel
theorem dX7_goesAlong_48 : decode cX7_goesAlong 48 = .ok (.iload_n 3, 1) := by decide +kernel
theorem dX7_goesAlong_49 : decode cX7_goesAlong 49 = .ok (.iadd, 1) := by decide +kernel
theorem dX7_goesAlong_50 : decode cX7_goesAlong 50 = .ok (.sipush 360, 3) := by decide +kernel
theorem dX7_goesAlong_53 : decode cX7_goesAlong 53 = .ok (.irem, 1) := by decide +kernel
theorem dX7_goesAlong_54 : decode cX7_goesAlong 54 = .ok (.iaload, 1) := by decide +kernel
theorem dX7_goesAlong_55 : decode cX7_goesAlong 55 = .ok (.istore 4, 2) := by decide +kernel
theorem dX7_goesAlong_57 : decode cX7_goesAlong 57 = .ok (.iload 4, 2) := by decide +kernel
theorem dX7_goesAlong_59 : decode cX7_goesAlong 59 = .ok (.iconst (-1), 1) := by decide +kernel
theorem dX7_goesAlong_60 : decode cX7_goesAlong 60 = .ok (.if_icmp .ne 6, 3) := by decide +kernel
theorem dX7_goesAlong_63 : decode cX7_goesAlong 63 = .ok (.goto 75, 3) := by decide +kernel
theorem dX7_goesAlong_66 : decode cX7_goesAlong 66 = .ok (.aload_n 0, 1) := by decide +kernel
theorem dX7_goesAlong_67 : decode cX7_goesAlong 67 = .ok (.getfield 28, 3) := by decide +kernel
theorem dX7_goesAlong_70 : decode cX7_goesAlong 70 = .ok (.iload 4, 2) := by decide +kernel
theorem dX7_goesAlong_72 : decode cX7_goesAlong 72 = .ok (.bipush 8, 2) := by decide +kernel
theorem dX7_goesAlong_74 : decode cX7_goesAlong 74 = .ok (.irem, 1) := by decide +kernel
theorem dX7_goesAlong_75 : decode cX7_goesAlong 75 = .ok (.iaload, 1) := by decide +kernel
theorem dX7_goesAlong_76 : decode cX7_goesAlong 76 = .ok (.aload_n 0, 1) := by decide +kernel
theorem dX7_goesAlong_77 : decode cX7_goesAlong 77 = .ok (.iload_n 1, 1) := by decide +kernel
theorem dX7_goesAlong_78 : decode cX7_goesAlong 78 = .ok (.iconst 1, 1) := by decide +kernel
theorem dX7_goesAlong_79 : decode cX7_goesAlong 79 = .ok (.invokevirtual 88, 3) := by decide +kernel
theorem dX7_goesAlong_82 : decode cX7_goesAlong 82 = .ok (.iadd, 1) := by decide +kernel
theorem dX7_goesAlong_83 : decode cX7_goesAlong 83 = .ok (.aload_n 0, 1) := by decide +kernel
theorem dX7_goesAlong_84 : decode cX7_goesAlong 84 = .ok (.iload 4, 2) := by decide +kernel
theorem dX7_goesAlong_86 : decode cX7_goesAlong 86 = .ok (.bipush 8, 2) := by decide +kernel
theorem dX7_goesAlong_88 : decode cX7_goesAlong 88 = .ok (.irem, 1) := by decide +kernel
theorem dX7_goesAlong_89 : decode cX7_goesAlong 89 = .ok (.invokevirtual 149, 3) := by decide +kernel
theorem dX7_goesAlong_92 : decode cX7_goesAlong 92 = .ok (.if_icmp .gt 36, 3) := by decide +kernel
theorem dX7_goesAlong_95 : decode cX7_goesAlong 95 = .ok (.aload_n 0, 1) := by decide +kernel
theorem dX7_goesAlong_96 : decode cX7_goesAlong 96 = .ok (.getfield 22, 3) := by decide +kernel
theorem dX7_goesAlong_99 : decode cX7_goesAlong 99 = .ok (.iload_n 1, 1) := by decide +kernel
theorem dX7_goesAlong_100 : decode cX7_goesAlong 100 = .ok (.iload 4, 2) := by decide +kernel
theorem dX7_goesAlong_102 : decode cX7_goesAlong 102 = .ok (.bipush 8, 2) := by decide +kernel
theorem dX7_goesAlong_104 : decode cX7_goesAlong 104 = .ok (.irem, 1) := by decide +kernel
theorem dX7_goesAlong_105 : decode cX7_goesAlong 105 = .ok (.iastore, 1) := by decide +kernel
theorem dX7_goesAlong_106 : decode cX7_goesAlong 106 = .ok (.aload_n 0, 1) := by decide +kernel
theorem dX7_goesAlong_107 : decode cX7_goesAlong 107 = .ok (.getfield 28, 3) := by decide +kernel
theorem dX7_goesAlong_110 : decode cX7_goesAlong 110 = .ok (.iload 4, 2) := by decide +kernel
theorem dX7_goesAlong_112 : decode cX7_goesAlong 112 = .ok (.bipush 8, 2) := by decide +kernel
theorem dX7_goesAlong_114 : decode cX7_goesAlong 114 = .ok (.irem, 1) := by decide +kernel
theorem dX7_goesAlong_115 : decode cX7_goesAlong 115 = .ok (.dup2, 1) := by decide +kernel
theorem dX7_goesAlong_116 : decode cX7_goesAlong 116 = .ok (.iaload, 1) := by decide +kernel
theorem dX7_goesAlong_117 : decode cX7_goesAlong 117 = .ok (.aload_n 0, 1) := by decide +kernel
theorem dX7_goesAlong_118 : decode cX7_goesAlong 118 = .ok (.iload_n 1, 1) := by decide +kernel
theorem dX7_goesAlong_119 : decode cX7_goesAlong 119 = .ok (.iconst 1, 1) := by decide +kernel
theorem dX7_goesAlong_120 : decode cX7_goesAlong 120 = .ok (.invokevirtual 88, 3) := by decide +kernel
theorem dX7_goesAlong_123 : decode cX7_goesAlong 123 = .ok (.iadd, 1) := by decide +kernel
theorem dX7_goesAlong_124 : decode cX7_goesAlong 124 = .ok (.iastore, 1) := by decide +kernel
theorem dX7_goesAlong_125 : decode cX7_goesAlong 125 = .ok (.goto 13, 3) := by decide +kernel
theorem dX7_goesAlong_128 : decode cX7_goesAlong 128 = .ok (.aload_n 0, 1) := by decide +kernel
theorem dX7_goesAlong_129 : decode cX7_goesAlong 129 = .ok (.getfield 25, 3) := by decide +kernel
theorem dX7_goesAlong_132 : decode cX7_goesAlong 132 = .ok (.iload_n 1, 1) := by decide +kernel
theorem dX7_goesAlong_133 : decode cX7_goesAlong 133 = .ok (.dup2, 1) := by decide +kernel
theorem dX7_goesAlong_134 : decode cX7_goesAlong 134 = .ok (.iaload, 1) := by decide +kernel
theorem dX7_goesAlong_135 : decode cX7_goesAlong 135 = .ok (.iconst 1, 1) := by decide +kernel
theorem dX7_goesAlong_136 : decode cX7_goesAlong 136 = .ok (.iadd, 1) := by decide +kernel
theorem dX7_goesAlong_137 : decode cX7_goesAlong 137 = .ok (.iastore, 1) := by decide +kernel
theorem dX7_goesAlong_138 : decode cX7_goesAlong 138 = .ok (.iinc 3 1, 3) := by decide +kernel
theorem dX7_goesAlong_141 : decode cX7_goesAlong 141 = .ok (.goto (-115), 3) := by decide +kernel
theorem dX7_goesAlong_144 : decode cX7_goesAlong 144 = .ok (.return_, 1) := by decide +kernel
set_option maxRecDepth 20000 in
theorem ggX7_lays_X7_laysRing : GoodIn wsX7_lays wsX7_laysRing := goodIn_r _ [7, 8, 2, 9, 10, 11, 12, 6, 13, 14, 15, 16, 17, 18, 19, 20, 21, 22, 23, 24, 42, 43, 44, 45, 46, 47, 48, 49, 50, 51, 52, 53, 54, 55, 56, 57, 58, 59, 60, 61, 62, 63, 64, 65, 66] (by decide +kernel) (by decide +kernel)
set_option maxRecDepth 20000 in
theorem gX7_lays_X7_laysRing : GoodIn wsX7_lays (wsV RX7 94 RX7 yX7_laysRing wsX7_laysRing) := goodIn_app (goodIn_of _ (by decide +kernel)) ggX7_lays_X7_laysRing
set_option maxRecDepth 20000 in
theorem ggX7_lays_X7_goesAlong : GoodIn wsX7_lays wsX7_goesAlong := goodIn_r _ [28, 29, 30, 8, 1, 31, 32, 33, 6, 34, 2, 35, 36, 37, 38, 39, 40, 41, 14, 15, 16, 17, 18, 19, 20, 21, 42, 43, 44, 45, 46, 47, 48, 49, 50, 51, 52, 53, 54, 55, 56, 57, 58, 59, 60, 61, 62, 63, 64, 65, 66] (by decide +kernel) (by decide +kernel)
set_option maxRecDepth 20000 in
theorem gX7_lays_X7_goesAlong : GoodIn wsX7_lays (wsV RX7 152 RX7 yX7_goesAlong wsX7_goesAlong) := goodIn_app (goodIn_of _ (by decide +kernel)) ggX7_lays_X7_goesAlong
theorem dX7_lays_0 : decode cX7_lays 0 = .ok (.aload_n 0, 1) := by decide +kernel
theorem dX7_lays_1 : decode cX7_lays 1 = .ok (.invokevirtual 94, 3) := by decide +kernel
theorem dX7_lays_4 : decode cX7_lays 4 = .ok (.iconst 0, 1) := by decide +kernel
theorem dX7_lays_5 : decode cX7_lays 5 = .ok (.istore_n 1, 1) := by decide +kernel
theorem dX7_lays_6 : decode cX7_lays 6 = .ok (.iload_n 1, 1) := by decide +kernel
theorem dX7_lays_7 : decode cX7_lays 7 = .ok (.bipush 8, 2) := by decide +kernel
theorem dX7_lays_9 : decode cX7_lays 9 = .ok (.if_icmp .ge 16, 3) := by decide +kernel
theorem dX7_lays_12 : decode cX7_lays 12 = .ok (.aload_n 0, 1) := by decide +kernel
theorem dX7_lays_13 : decode cX7_lays 13 = .ok (.getfield 28, 3) := by decide +kernel
theorem dX7_lays_16 : decode cX7_lays 16 = .ok (.iload_n 1, 1) := by decide +kernel
theorem dX7_lays_17 : decode cX7_lays 17 = .ok (.iconst 0, 1) := by decide +kernel
theorem dX7_lays_18 : decode cX7_lays 18 = .ok (.iastore, 1) := by decide +kernel
theorem dX7_lays_19 : decode cX7_lays 19 = .ok (.iinc 1 1, 3) := by decide +kernel
theorem dX7_lays_22 : decode cX7_lays 22 = .ok (.goto (-16), 3) := by decide +kernel
theorem dX7_lays_25 : decode cX7_lays 25 = .ok (.iconst 0, 1) := by decide +kernel
theorem dX7_lays_26 : decode cX7_lays 26 = .ok (.istore_n 1, 1) := by decide +kernel
theorem dX7_lays_27 : decode cX7_lays 27 = .ok (.iload_n 1, 1) := by decide +kernel
theorem dX7_lays_28 : decode cX7_lays 28 = .ok (.aload_n 0, 1) := by decide +kernel
theorem dX7_lays_29 : decode cX7_lays 29 = .ok (.getfield 9, 3) := by decide +kernel
theorem dX7_lays_32 : decode cX7_lays 32 = .ok (.iconst 1, 1) := by decide +kernel
theorem dX7_lays_33 : decode cX7_lays 33 = .ok (.iaload, 1) := by decide +kernel
theorem dX7_lays_34 : decode cX7_lays 34 = .ok (.if_icmp .ge 14, 3) := by decide +kernel
theorem dX7_lays_37 : decode cX7_lays 37 = .ok (.aload_n 0, 1) := by decide +kernel
theorem dX7_lays_38 : decode cX7_lays 38 = .ok (.iload_n 1, 1) := by decide +kernel
theorem dX7_lays_39 : decode cX7_lays 39 = .ok (.invokevirtual 152, 3) := by decide +kernel
theorem dX7_lays_42 : decode cX7_lays 42 = .ok (.iinc 1 1, 3) := by decide +kernel
theorem dX7_lays_45 : decode cX7_lays 45 = .ok (.goto (-18), 3) := by decide +kernel
theorem dX7_lays_48 : decode cX7_lays 48 = .ok (.return_, 1) := by decide +kernel
theorem dX7_stretch_0 : decode cX7_stretch 0 = .ok (.iconst 0, 1) := by decide +kernel
theorem dX7_stretch_1 : decode cX7_stretch 1 = .ok (.istore_n 2, 1) := by decide +kernel
theorem dX7_stretch_2 : decode cX7_stretch 2 = .ok (.iconst 0, 1) := by decide +kernel
theorem dX7_stretch_3 : decode cX7_stretch 3 = .ok (.istore_n 3, 1) := by decide +kernel
theorem dX7_stretch_4 : decode cX7_stretch 4 = .ok (.iload_n 3, 1) := by decide +kernel
theorem dX7_stretch_5 : decode cX7_stretch 5 = .ok (.sipush 360, 3) := by decide +kernel
theorem dX7_stretch_8 : decode cX7_stretch 8 = .ok (.if_icmp .ge 27, 3) := by decide +kernel
theorem dX7_stretch_11 : decode cX7_stretch 11 = .ok (.iload_n 2, 1) := by decide +kernel
theorem dX7_stretch_12 : decode cX7_stretch 12 = .ok (.aload_n 0, 1) := by decide +kernel
theorem dX7_stretch_13 : decode cX7_stretch 13 = .ok (.getfield 16, 3) := by decide +kernel
theorem dX7_stretch_16 : decode cX7_stretch 16 = .ok (.iload_n 3, 1) := by decide +kernel
theorem dX7_stretch_17 : decode cX7_stretch 17 = .ok (.iaload, 1) := by decide +kernel
theorem dX7_stretch_18 : decode cX7_stretch 18 = .ok (.iload_n 1, 1) := by decide +kernel
theorem dX7_stretch_19 : decode cX7_stretch 19 = .ok (.if_icmp .ne 7, 3) := by decide +kernel
theorem dX7_stretch_22 : decode cX7_stretch 22 = .ok (.iconst 1, 1) := by decide +kernel
theorem dX7_stretch_23 : decode cX7_stretch 23 = .ok (.goto 4, 3) := by decide +kernel
theorem dX7_stretch_26 : decode cX7_stretch 26 = .ok (.iconst 0, 1) := by decide +kernel
theorem dX7_stretch_27 : decode cX7_stretch 27 = .ok (.iadd, 1) := by decide +kernel
theorem dX7_stretch_28 : decode cX7_stretch 28 = .ok (.istore_n 2, 1) := by decide +kernel
theorem dX7_stretch_29 : decode cX7_stretch 29 = .ok (.iinc 3 1, 3) := by decide +kernel
theorem dX7_stretch_32 : decode cX7_stretch 32 = .ok (.goto (-28), 3) := by decide +kernel
theorem dX7_stretch_35 : decode cX7_stretch 35 = .ok (.iload_n 2, 1) := by decide +kernel
theorem dX7_stretch_36 : decode cX7_stretch 36 = .ok (.ireturn, 1) := by decide +kernel
set_option maxRecDepth 20000 in
theorem ggX7_ofHome_X7_homeAt : GoodIn wsX7_ofHome wsX7_homeAt := goodIn_r _ [6, 7, 8, 9, 10, 5, 11, 1, 12, 13, 14, 15, 16, 17, 18, 19, 20, 21, 22, 23, 24, 25, 26, 27, 28, 29, 30, 31, 32, 33, 34, 35, 36, 37, 38, 39] (by decide +kernel) (by decide +kernel)
set_option maxRecDepth 20000 in
theorem gX7_ofHome_X7_homeAt : GoodIn wsX7_ofHome (wsV RX7 97 RX7 yX7_homeAt wsX7_homeAt) := goodIn_app (goodIn_of _ (by decide +kernel)) ggX7_ofHome_X7_homeAt
set_option maxRecDepth 20000 in
theorem ggX7_ofHome_X7_b : GoodIn wsX7_ofHome wsX7_b := goodIn_r _ [11, 1, 15, 16, 17, 18, 19, 20, 21, 22, 23, 24, 25, 26, 27, 28, 29, 30, 31, 32, 33, 34, 35, 36, 37, 38, 39] (by decide +kernel) (by decide +kernel)
set_option maxRecDepth 20000 in
theorem gX7_ofHome_X7_b : GoodIn wsX7_ofHome (wsV RX7 88 RX7 yX7_b wsX7_b) := goodIn_app (goodIn_of _ (by decide +kernel)) ggX7_ofHome_X7_b
theorem dX7_ofHome_0 : decode cX7_ofHome 0 = .ok (.iconst 0, 1) := by decide +kernel
theorem dX7_ofHome_1 : decode cX7_ofHome 1 = .ok (.istore_n 3, 1) := by decide +kernel
theorem dX7_ofHome_2 : decode cX7_ofHome 2 = .ok (.iconst 0, 1) := by decide +kernel
theorem dX7_ofHome_3 : decode cX7_ofHome 3 = .ok (.istore 4, 2) := by decide +kernel
theorem dX7_ofHome_5 : decode cX7_ofHome 5 = .ok (.iload 4, 2) := by decide +kernel
theorem dX7_ofHome_7 : decode cX7_ofHome 7 = .ok (.aload_n 0, 1) := by decide +kernel
theorem dX7_ofHome_8 : decode cX7_ofHome 8 = .ok (.getfield 9, 3) := by decide +kernel
theorem dX7_ofHome_11 : decode cX7_ofHome 11 = .ok (.iconst 1, 1) := by decide +kernel
theorem dX7_ofHome_12 : decode cX7_ofHome 12 = .ok (.iaload, 1) := by decide +kernel
theorem dX7_ofHome_13 : decode cX7_ofHome 13 = .ok (.if_icmp .ge 41, 3) := by decide +kernel
theorem dX7_ofHome_16 : decode cX7_ofHome 16 = .ok (.iload_n 3, 1) := by decide +kernel
theorem dX7_ofHome_17 : decode cX7_ofHome 17 = .ok (.aload_n 0, 1) := by decide +kernel
theorem dX7_ofHome_18 : decode cX7_ofHome 18 = .ok (.iload 4, 2) := by decide +kernel
theorem dX7_ofHome_20 : decode cX7_ofHome 20 = .ok (.invokevirtual 97, 3) := by decide +kernel
theorem dX7_ofHome_23 : decode cX7_ofHome 23 = .ok (.iload_n 1, 1) := by decide +kernel
theorem dX7_ofHome_24 : decode cX7_ofHome 24 = .ok (.if_icmp .eq 7, 3) := by decide +kernel
theorem dX7_ofHome_27 : decode cX7_ofHome 27 = .ok (.iconst 0, 1) := by decide +kernel
theorem dX7_ofHome_28 : decode cX7_ofHome 28 = .ok (.goto 18, 3) := by decide +kernel
theorem dX7_ofHome_31 : decode cX7_ofHome 31 = .ok (.iload_n 2, 1) := by decide +kernel
theorem dX7_ofHome_32 : decode cX7_ofHome 32 = .ok (.ifCond .ne 7, 3) := by decide +kernel
theorem dX7_ofHome_35 : decode cX7_ofHome 35 = .ok (.iconst 1, 1) := by decide +kernel
theorem dX7_ofHome_36 : decode cX7_ofHome 36 = .ok (.goto 10, 3) := by decide +kernel
theorem dX7_ofHome_39 : decode cX7_ofHome 39 = .ok (.aload_n 0, 1) := by decide +kernel
theorem dX7_ofHome_40 : decode cX7_ofHome 40 = .ok (.iload 4, 2) := by decide +kernel
theorem dX7_ofHome_42 : decode cX7_ofHome 42 = .ok (.iconst 1, 1) := by decide +kernel
theorem dX7_ofHome_43 : decode cX7_ofHome 43 = .ok (.invokevirtual 88, 3) := by decide +kernel
theorem dX7_ofHome_46 : decode cX7_ofHome 46 = .ok (.iadd, 1) := by decide +kernel
theorem dX7_ofHome_47 : decode cX7_ofHome 47 = .ok (.istore_n 3, 1) := by decide +kernel
theorem dX7_ofHome_48 : decode cX7_ofHome 48 = .ok (.iinc 4 1, 3) := by decide +kernel
theorem dX7_ofHome_51 : decode cX7_ofHome 51 = .ok (.goto (-46), 3) := by decide +kernel
theorem dX7_ofHome_54 : decode cX7_ofHome 54 = .ok (.iload_n 3, 1) := by decide +kernel
theorem dX7_ofHome_55 : decode cX7_ofHome 55 = .ok (.ireturn, 1) := by decide +kernel
theorem dX7_lyingAt_0 : decode cX7_lyingAt 0 = .ok (.iconst 0, 1) := by decide +kernel
theorem dX7_lyingAt_1 : decode cX7_lyingAt 1 = .ok (.istore_n 2, 1) := by decide +kernel
theorem dX7_lyingAt_2 : decode cX7_lyingAt 2 = .ok (.iconst 0, 1) := by decide +kernel
theorem dX7_lyingAt_3 : decode cX7_lyingAt 3 = .ok (.istore_n 3, 1) := by decide +kernel
theorem dX7_lyingAt_4 : decode cX7_lyingAt 4 = .ok (.iload_n 3, 1) := by decide +kernel
theorem dX7_lyingAt_5 : decode cX7_lyingAt 5 = .ok (.aload_n 0, 1) := by decide +kernel
theorem dX7_lyingAt_6 : decode cX7_lyingAt 6 = .ok (.getfield 9, 3) := by decide +kernel
theorem dX7_lyingAt_9 : decode cX7_lyingAt 9 = .ok (.iconst 1, 1) := by decide +kernel
theorem dX7_lyingAt_10 : decode cX7_lyingAt 10 = .ok (.iaload, 1) := by decide +kernel
theorem dX7_lyingAt_11 : decode cX7_lyingAt 11 = .ok (.if_icmp .ge 27, 3) := by decide +kernel
theorem dX7_lyingAt_14 : decode cX7_lyingAt 14 = .ok (.iload_n 2, 1) := by decide +kernel
theorem dX7_lyingAt_15 : decode cX7_lyingAt 15 = .ok (.aload_n 0, 1) := by decide +kernel
theorem dX7_lyingAt_16 : decode cX7_lyingAt 16 = .ok (.getfield 22, 3) := by decide +kernel
theorem dX7_lyingAt_19 : decode cX7_lyingAt 19 = .ok (.iload_n 3, 1) := by decide +kernel
theorem dX7_lyingAt_20 : decode cX7_lyingAt 20 = .ok (.iaload, 1) := by decide +kernel
theorem dX7_lyingAt_21 : decode cX7_lyingAt 21 = .ok (.iload_n 1, 1) := by decide +kernel
theorem dX7_lyingAt_22 : decode cX7_lyingAt 22 = .ok (.if_icmp .ne 7, 3) := by decide +kernel
theorem dX7_lyingAt_25 : decode cX7_lyingAt 25 = .ok (.iconst 1, 1) := by decide +kernel
theorem dX7_lyingAt_26 : decode cX7_lyingAt 26 = .ok (.goto 4, 3) := by decide +kernel
theorem dX7_lyingAt_29 : decode cX7_lyingAt 29 = .ok (.iconst 0, 1) := by decide +kernel
theorem dX7_lyingAt_30 : decode cX7_lyingAt 30 = .ok (.iadd, 1) := by decide +kernel
theorem dX7_lyingAt_31 : decode cX7_lyingAt 31 = .ok (.istore_n 2, 1) := by decide +kernel
theorem dX7_lyingAt_32 : decode cX7_lyingAt 32 = .ok (.iinc 3 1, 3) := by decide +kernel
theorem dX7_lyingAt_35 : decode cX7_lyingAt 35 = .ok (.goto (-31), 3) := by decide +kernel
theorem dX7_lyingAt_38 : decode cX7_lyingAt 38 = .ok (.iload_n 2, 1) := by decide +kernel
theorem dX7_lyingAt_39 : decode cX7_lyingAt 39 = .ok (.ireturn, 1) := by decide +kernel
set_option maxRecDepth 20000 in
theorem ggX7_isHot_X7_ofHome : GoodIn wsX7_isHot wsX7_ofHome := goodIn_r _ [5, 6, 7, 8, 9, 4, 10, 11, 12, 13, 14, 15, 16, 17, 18, 31, 32, 33, 34, 35, 36, 37, 38, 39, 40, 41, 42, 43, 44, 45, 46, 47, 48, 49, 50, 51, 52, 53, 54, 55] (by decide +kernel) (by decide +kernel)
set_option maxRecDepth 20000 in
theorem gX7_isHot_X7_ofHome : GoodIn wsX7_isHot (wsV RX7 156 RX7 yX7_ofHome wsX7_ofHome) := goodIn_app (goodIn_of _ (by decide +kernel)) ggX7_isHot_X7_ofHome
set_option maxRecDepth 20000 in
theorem ggX7_isHot_X7_room : GoodIn wsX7_isHot wsX7_room := goodIn_r _ [22, 6, 23, 24, 25, 4, 26, 27, 28, 29, 30, 31, 32, 33, 34, 35, 36, 37, 38, 39, 40, 41, 42, 43, 44, 45, 46, 47, 48, 49, 50, 51, 52, 53, 54, 55] (by decide +kernel) (by decide +kernel)
set_option maxRecDepth 20000 in
theorem gX7_isHot_X7_room : GoodIn wsX7_isHot (wsV RX7 149 RX7 yX7_room wsX7_room) := goodIn_app (goodIn_of _ (by decide +kernel)) ggX7_isHot_X7_room
theorem dX7_isHot_0 : decode cX7_isHot 0 = .ok (.aload_n 0, 1) := by decide +kernel
theorem dX7_isHot_1 : decode cX7_isHot 1 = .ok (.iload_n 1, 1) := by decide +kernel
theorem dX7_isHot_2 : decode cX7_isHot 2 = .ok (.iconst 1, 1) := by decide +kernel
theorem dX7_isHot_3 : decode cX7_isHot 3 = .ok (.invokevirtual 156, 3) := by decide +kernel
theorem dX7_isHot_6 : decode cX7_isHot 6 = .ok (.aload_n 0, 1) := by decide +kernel
theorem dX7_isHot_7 : decode cX7_isHot 7 = .ok (.iload_n 1, 1) := by decide +kernel
theorem dX7_isHot_8 : decode cX7_isHot 8 = .ok (.invokevirtual 149, 3) := by decide +kernel
theorem dX7_isHot_11 : decode cX7_isHot 11 = .ok (.if_icmp .le 7, 3) := by decide +kernel
theorem dX7_isHot_14 : decode cX7_isHot 14 = .ok (.iconst 1, 1) := by decide +kernel
theorem dX7_isHot_15 : decode cX7_isHot 15 = .ok (.goto 4, 3) := by decide +kernel
theorem dX7_isHot_18 : decode cX7_isHot 18 = .ok (.iconst 0, 1) := by decide +kernel
theorem dX7_isHot_19 : decode cX7_isHot 19 = .ok (.ireturn, 1) := by decide +kernel
set_option maxRecDepth 20000 in
theorem ggX7_pierOf_X7_isPier : GoodIn wsX7_pierOf wsX7_isPier := goodIn_r _ [6, 7, 8, 9, 5, 10, 73, 74, 75, 76, 77, 78, 79, 80, 81, 82, 83, 84, 85, 86, 87, 88, 89, 90, 91, 92, 93, 94, 95, 96, 97] (by decide +kernel) (by decide +kernel)
set_option maxRecDepth 20000 in
theorem gX7_pierOf_X7_isPier : GoodIn wsX7_pierOf (wsV RX7 122 RX7 yX7_isPier wsX7_isPier) := goodIn_app (goodIn_of _ (by decide +kernel)) ggX7_pierOf_X7_isPier
set_option maxRecDepth 20000 in
theorem ggX7_pierOf_X7_lays : GoodIn wsX7_pierOf wsX7_lays := goodIn_r _ [14, 1, 7, 15, 16, 17, 5, 18, 19, 20, 21, 22, 23, 24, 25, 26, 27, 28, 29, 30, 31, 32, 33, 34, 35, 36, 37, 38, 39, 40, 41, 42, 43, 44, 45, 46, 47, 48, 49, 50, 51, 52, 73, 74, 75, 76, 77, 78, 79, 80, 81, 82, 83, 84, 85, 86, 87, 88, 89, 90, 91, 92, 93, 94, 95, 96, 97] (by decide +kernel) (by decide +kernel)
set_option maxRecDepth 20000 in
theorem gX7_pierOf_X7_lays : GoodIn wsX7_pierOf (wsV RX7 159 RX7 yX7_lays wsX7_lays) := goodIn_app (goodIn_of _ (by decide +kernel)) ggX7_pierOf_X7_lays
set_option maxRecDepth 20000 in
theorem ggX7_pierOf_X7_p : GoodIn wsX7_pierOf wsX7_p := goodIn_r _ [32, 7, 73, 74, 75, 76, 77, 78, 79, 80, 81, 82, 83, 84, 85, 86, 87, 88, 89, 90, 91, 92, 93, 94, 95, 96, 97] (by decide +kernel) (by decide +kernel)
set_option maxRecDepth 20000 in
theorem gX7_pierOf_X7_p : GoodIn wsX7_pierOf (wsV RX7 73 RX7 yX7_p wsX7_p) := goodIn_app (goodIn_of _ (by decide +kernel)) ggX7_pierOf_X7_p
set_option maxRecDepth 20000 in
theorem ggX7_pierOf_X7_points : GoodIn wsX7_pierOf wsX7_points := goodIn_r _ [24, 25, 26, 27, 5, 28, 29, 30, 31, 32, 7, 73, 74, 75, 76, 77, 78, 79, 80, 81, 82, 83, 84, 85, 86, 87, 88, 89, 90, 91, 92, 93, 94, 95, 96, 97] (by decide +kernel) (by decide +kernel)
set_option maxRecDepth 20000 in
theorem gX7_pierOf_X7_points : GoodIn wsX7_pierOf (wsV RX7 81 RX7 yX7_points wsX7_points) := goodIn_app (goodIn_of _ (by decide +kernel)) ggX7_pierOf_X7_points
set_option maxRecDepth 20000 in
theorem ggX7_pierOf_X7_stretch : GoodIn wsX7_pierOf wsX7_stretch := goodIn_r _ [56, 20, 73, 74, 75, 76, 77, 78, 79, 80, 81, 82, 83, 84, 85, 86, 87, 88, 89, 90, 91, 92, 93, 94, 95, 96, 97] (by decide +kernel) (by decide +kernel)
set_option maxRecDepth 20000 in
theorem gX7_pierOf_X7_stretch : GoodIn wsX7_pierOf (wsV RX7 162 RX7 yX7_stretch wsX7_stretch) := goodIn_app (goodIn_of _ (by decide +kernel)) ggX7_pierOf_X7_stretch
set_option maxRecDepth 20000 in
theorem ggX7_pierOf_X7_ofHome : GoodIn wsX7_pierOf wsX7_ofHome := goodIn_r _ [60, 7, 61, 62, 63, 5, 64, 20, 42, 43, 44, 45, 46, 47, 48, 73, 74, 75, 76, 77, 78, 79, 80, 81, 82, 83, 84, 85, 86, 87, 88, 89, 90, 91, 92, 93, 94, 95, 96, 97] (by decide +kernel) (by decide +kernel)
set_option maxRecDepth 20000 in
theorem gX7_pierOf_X7_ofHome : GoodIn wsX7_pierOf (wsV RX7 156 RX7 yX7_ofHome wsX7_ofHome) := goodIn_app (goodIn_of _ (by decide +kernel)) ggX7_pierOf_X7_ofHome
set_option maxRecDepth 20000 in
theorem ggX7_pierOf_X7_lyingAt : GoodIn wsX7_pierOf wsX7_lyingAt := goodIn_r _ [68, 7, 40, 73, 74, 75, 76, 77, 78, 79, 80, 81, 82, 83, 84, 85, 86, 87, 88, 89, 90, 91, 92, 93, 94, 95, 96, 97] (by decide +kernel) (by decide +kernel)
set_option maxRecDepth 20000 in
theorem gX7_pierOf_X7_lyingAt : GoodIn wsX7_pierOf (wsV RX7 165 RX7 yX7_lyingAt wsX7_lyingAt) := goodIn_app (goodIn_of _ (by decide +kernel)) ggX7_pierOf_X7_lyingAt
set_option maxRecDepth 20000 in
theorem ggX7_pierOf_X7_room : GoodIn wsX7_pierOf wsX7_room := goodIn_r _ [52, 7, 25, 26, 27, 5, 28, 29, 30, 31, 32, 73, 74, 75, 76, 77, 78, 79, 80, 81, 82, 83, 84, 85, 86, 87, 88, 89, 90, 91, 92, 93, 94, 95, 96, 97] (by decide +kernel) (by decide +kernel)
set_option maxRecDepth 20000 in
theorem gX7_pierOf_X7_room : GoodIn wsX7_pierOf (wsV RX7 149 RX7 yX7_room wsX7_room) := goodIn_app (goodIn_of _ (by decide +kernel)) ggX7_pierOf_X7_room
set_option maxRecDepth 20000 in
theorem ggX7_pierOf_X7_isHot : GoodIn wsX7_pierOf wsX7_isHot := goodIn_r _ [72, 57, 58, 59, 5, 60, 7, 61, 62, 63, 64, 20, 42, 43, 44, 45, 46, 47, 48, 49, 50, 51, 52, 25, 26, 27, 28, 29, 30, 31, 32, 73, 74, 75, 76, 77, 78, 79, 80, 81, 82, 83, 84, 85, 86, 87, 88, 89, 90, 91, 92, 93, 94, 95, 96, 97] (by decide +kernel) (by decide +kernel)
set_option maxRecDepth 20000 in
theorem gX7_pierOf_X7_isHot : GoodIn wsX7_pierOf (wsV RX7 168 RX7 yX7_isHot wsX7_isHot) := goodIn_app (goodIn_of _ (by decide +kernel)) ggX7_pierOf_X7_isHot
theorem dX7_pierOf_0 : decode cX7_pierOf 0 = .ok (.aload_n 0, 1) := by decide +kernel
theorem dX7_pierOf_1 : decode cX7_pierOf 1 = .ok (.iload_n 1, 1) := by decide +kernel
theorem dX7_pierOf_2 : decode cX7_pierOf 2 = .ok (.invokevirtual 122, 3) := by decide +kernel
theorem dX7_pierOf_5 : decode cX7_pierOf 5 = .ok (.ifCond .ne 6, 3) := by decide +kernel
theorem dX7_pierOf_8 : decode cX7_pierOf 8 = .ok (.bipush (-11), 2) := by decide +kernel
theorem dX7_pierOf_10 : decode cX7_pierOf 10 = .ok (.ireturn, 1) := by decide +kernel
theorem dX7_pierOf_11 : decode cX7_pierOf 11 = .ok (.aload_n 0, 1) := by decide +kernel
theorem dX7_pierOf_12 : decode cX7_pierOf 12 = .ok (.invokevirtual 159, 3) := by decide +kernel
theorem dX7_pierOf_15 : decode cX7_pierOf 15 = .ok (.iload_n 2, 1) := by decide +kernel
theorem dX7_pierOf_16 : decode cX7_pierOf 16 = .ok (.tableswitch 117 0 9 #[56, 56, 63, 69, 75, 75, 84, 90, 97, 103], 56) := by decide +kernel
theorem dX7_pierOf_72 : decode cX7_pierOf 72 = .ok (.aload_n 0, 1) := by decide +kernel
theorem dX7_pierOf_73 : decode cX7_pierOf 73 = .ok (.iload_n 1, 1) := by decide +kernel
theorem dX7_pierOf_74 : decode cX7_pierOf 74 = .ok (.iload_n 2, 1) := by decide +kernel
theorem dX7_pierOf_75 : decode cX7_pierOf 75 = .ok (.invokevirtual 73, 3) := by decide +kernel
theorem dX7_pierOf_78 : decode cX7_pierOf 78 = .ok (.ireturn, 1) := by decide +kernel
theorem dX7_pierOf_79 : decode cX7_pierOf 79 = .ok (.aload_n 0, 1) := by decide +kernel
theorem dX7_pierOf_80 : decode cX7_pierOf 80 = .ok (.iload_n 1, 1) := by decide +kernel
theorem dX7_pierOf_81 : decode cX7_pierOf 81 = .ok (.invokevirtual 81, 3) := by decide +kernel
theorem dX7_pierOf_84 : decode cX7_pierOf 84 = .ok (.ireturn, 1) := by decide +kernel
theorem dX7_pierOf_85 : decode cX7_pierOf 85 = .ok (.aload_n 0, 1) := by decide +kernel
theorem dX7_pierOf_86 : decode cX7_pierOf 86 = .ok (.iload_n 1, 1) := by decide +kernel
theorem dX7_pierOf_87 : decode cX7_pierOf 87 = .ok (.invokevirtual 162, 3) := by decide +kernel
theorem dX7_pierOf_90 : decode cX7_pierOf 90 = .ok (.ireturn, 1) := by decide +kernel
theorem dX7_pierOf_91 : decode cX7_pierOf 91 = .ok (.aload_n 0, 1) := by decide +kernel
theorem dX7_pierOf_92 : decode cX7_pierOf 92 = .ok (.iload_n 1, 1) := by decide +kernel
theorem dX7_pierOf_93 : decode cX7_pierOf 93 = .ok (.iload_n 2, 1) := by decide +kernel
theorem dX7_pierOf_94 : decode cX7_pierOf 94 = .ok (.iconst 4, 1) := by decide +kernel
theorem dX7_pierOf_95 : decode cX7_pierOf 95 = .ok (.isub, 1) := by decide +kernel
theorem dX7_pierOf_96 : decode cX7_pierOf 96 = .ok (.invokevirtual 156, 3) := by decide +kernel
theorem dX7_pierOf_99 : decode cX7_pierOf 99 = .ok (.ireturn, 1) := by decide +kernel
theorem dX7_pierOf_100 : decode cX7_pierOf 100 = .ok (.aload_n 0, 1) := by decide +kernel
theorem dX7_pierOf_101 : decode cX7_pierOf 101 = .ok (.iload_n 1, 1) := by decide +kernel
theorem dX7_pierOf_102 : decode cX7_pierOf 102 = .ok (.invokevirtual 165, 3) := by decide +kernel
theorem dX7_pierOf_105 : decode cX7_pierOf 105 = .ok (.ireturn, 1) := by decide +kernel
theorem dX7_pierOf_106 : decode cX7_pierOf 106 = .ok (.aload_n 0, 1) := by decide +kernel
theorem dX7_pierOf_107 : decode cX7_pierOf 107 = .ok (.getfield 28, 3) := by decide +kernel
theorem dX7_pierOf_110 : decode cX7_pierOf 110 = .ok (.iload_n 1, 1) := by decide +kernel
theorem dX7_pierOf_111 : decode cX7_pierOf 111 = .ok (.iaload, 1) := by decide +kernel
theorem dX7_pierOf_112 : decode cX7_pierOf 112 = .ok (.ireturn, 1) := by decide +kernel
theorem dX7_pierOf_113 : decode cX7_pierOf 113 = .ok (.aload_n 0, 1) := by decide +kernel
theorem dX7_pierOf_114 : decode cX7_pierOf 114 = .ok (.iload_n 1, 1) := by decide +kernel
theorem dX7_pierOf_115 : decode cX7_pierOf 115 = .ok (.invokevirtual 149, 3) := by decide +kernel
theorem dX7_pierOf_118 : decode cX7_pierOf 118 = .ok (.ireturn, 1) := by decide +kernel
theorem dX7_pierOf_119 : decode cX7_pierOf 119 = .ok (.aload_n 0, 1) := by decide +kernel
theorem dX7_pierOf_120 : decode cX7_pierOf 120 = .ok (.iload_n 1, 1) := by decide +kernel
theorem dX7_pierOf_121 : decode cX7_pierOf 121 = .ok (.invokevirtual 168, 3) := by decide +kernel
theorem dX7_pierOf_124 : decode cX7_pierOf 124 = .ok (.ifCond .eq 7, 3) := by decide +kernel
theorem dX7_pierOf_127 : decode cX7_pierOf 127 = .ok (.iconst 1, 1) := by decide +kernel
theorem dX7_pierOf_128 : decode cX7_pierOf 128 = .ok (.goto 4, 3) := by decide +kernel
theorem dX7_pierOf_131 : decode cX7_pierOf 131 = .ok (.iconst 0, 1) := by decide +kernel
theorem dX7_pierOf_132 : decode cX7_pierOf 132 = .ok (.ireturn, 1) := by decide +kernel
theorem dX7_pierOf_133 : decode cX7_pierOf 133 = .ok (.bipush (-12), 2) := by decide +kernel
theorem dX7_pierOf_135 : decode cX7_pierOf 135 = .ok (.ireturn, 1) := by decide +kernel
set_option maxRecDepth 20000 in
theorem ggX7_neighbours_X7_isPier : GoodIn wsX7_neighbours wsX7_isPier := goodIn_r _ [8, 3, 9, 10, 7, 11, 32, 33, 34, 35, 36, 37, 38, 39, 40, 41, 42, 43, 44, 45, 46, 47, 48, 49, 50, 51, 52, 53, 54, 55, 56] (by decide +kernel) (by decide +kernel)
set_option maxRecDepth 20000 in
theorem gX7_neighbours_X7_isPier : GoodIn wsX7_neighbours (wsV RX7 122 RX7 yX7_isPier wsX7_isPier) := goodIn_app (goodIn_of _ (by decide +kernel)) ggX7_neighbours_X7_isPier
set_option maxRecDepth 20000 in
theorem ggX7_neighbours_X7_isOpen : GoodIn wsX7_neighbours wsX7_isOpen := goodIn_r _ [15, 16, 17, 18, 7, 19, 3, 32, 33, 34, 35, 36, 37, 38, 39, 40, 41, 42, 43, 44, 45, 46, 47, 48, 49, 50, 51, 52, 53, 54, 55, 56] (by decide +kernel) (by decide +kernel)
set_option maxRecDepth 20000 in
theorem gX7_neighbours_X7_isOpen : GoodIn wsX7_neighbours (wsV RX7 77 RX7 yX7_isOpen wsX7_isOpen) := goodIn_app (goodIn_of _ (by decide +kernel)) ggX7_neighbours_X7_isOpen
set_option maxRecDepth 20000 in
theorem ggX7_neighbours_X7_laysRing : GoodIn wsX7_neighbours wsX7_laysRing := goodIn_r _ [23, 24, 3, 2, 25, 26, 27, 7, 28, 12, 13, 14, 15, 16, 17, 18, 19, 29, 30, 31, 32, 33, 34, 35, 36, 37, 38, 39, 40, 41, 42, 43, 44, 45, 46, 47, 48, 49, 50, 51, 52, 53, 54, 55, 56] (by decide +kernel) (by decide +kernel)
set_option maxRecDepth 20000 in
theorem gX7_neighbours_X7_laysRing : GoodIn wsX7_neighbours (wsV RX7 94 RX7 yX7_laysRing wsX7_laysRing) := goodIn_app (goodIn_of _ (by decide +kernel)) ggX7_neighbours_X7_laysRing
theorem dX7_neighbours_0 : decode cX7_neighbours 0 = .ok (.aload_n 0, 1) := by decide +kernel
theorem dX7_neighbours_1 : decode cX7_neighbours 1 = .ok (.iload_n 1, 1) := by decide +kernel
theorem dX7_neighbours_2 : decode cX7_neighbours 2 = .ok (.invokevirtual 122, 3) := by decide +kernel
theorem dX7_neighbours_5 : decode cX7_neighbours 5 = .ok (.ifCond .ne 6, 3) := by decide +kernel
theorem dX7_neighbours_8 : decode cX7_neighbours 8 = .ok (.bipush (-11), 2) := by decide +kernel
theorem dX7_neighbours_10 : decode cX7_neighbours 10 = .ok (.ireturn, 1) := by decide +kernel
theorem dX7_neighbours_11 : decode cX7_neighbours 11 = .ok (.aload_n 0, 1) := by decide +kernel
theorem dX7_neighbours_12 : decode cX7_neighbours 12 = .ok (.iload_n 1, 1) := by decide +kernel
theorem dX7_neighbours_13 : decode cX7_neighbours 13 = .ok (.invokevirtual 77, 3) := by decide +kernel
theorem dX7_neighbours_16 : decode cX7_neighbours 16 = .ok (.ifCond .ne 5, 3) := by decide +kernel
theorem dX7_neighbours_19 : decode cX7_neighbours 19 = .ok (.iconst 0, 1) := by decide +kernel
theorem dX7_neighbours_20 : decode cX7_neighbours 20 = .ok (.ireturn, 1) := by decide +kernel
theorem dX7_neighbours_21 : decode cX7_neighbours 21 = .ok (.aload_n 0, 1) := by decide +kernel
theorem dX7_neighbours_22 : decode cX7_neighbours 22 = .ok (.invokevirtual 94, 3) := by decide +kernel
theorem dX7_neighbours_25 : decode cX7_neighbours 25 = .ok (.iconst 0, 1) := by decide +kernel
theorem dX7_neighbours_26 : decode cX7_neighbours 26 = .ok (.istore_n 2, 1) := by decide +kernel
theorem dX7_neighbours_27 : decode cX7_neighbours 27 = .ok (.iload_n 2, 1) := by decide +kernel
theorem dX7_neighbours_28 : decode cX7_neighbours 28 = .ok (.sipush 360, 3) := by decide +kernel
theorem dX7_neighbours_31 : decode cX7_neighbours 31 = .ok (.if_icmp .ge 21, 3) := by decide +kernel
theorem dX7_neighbours_34 : decode cX7_neighbours 34 = .ok (.aload_n 0, 1) := by decide +kernel
theorem dX7_neighbours_35 : decode cX7_neighbours 35 = .ok (.getfield 31, 3) := by decide +kernel
theorem dX7_neighbours_38 : decode cX7_neighbours 38 = .ok (.iload_n 2, 1) := by decide +kernel
theorem dX7_neighbours_39 : decode cX7_neighbours 39 = .ok (.aload_n 0, 1) := by decide +kernel
theorem dX7_neighbours_40 : decode cX7_neighbours 40 = .ok (.getfield 16, 3) := by decide +kernel
theorem dX7_neighbours_43 : decode cX7_neighbours 43 = .ok (.iload_n 2, 1) := by decide +kernel
theorem dX7_neighbours_44 : decode cX7_neighbours 44 = .ok (.iaload, 1) := by decide +kernel
theorem dX7_neighbours_45 : decode cX7_neighbours 45 = .ok (.iastore, 1) := by decide +kernel
theorem dX7_neighbours_46 : decode cX7_neighbours 46 = .ok (.iinc 2 1, 3) := by decide +kernel
theorem dX7_neighbours_49 : decode cX7_neighbours 49 = .ok (.goto (-22), 3) := by decide +kernel
theorem dX7_neighbours_52 : decode cX7_neighbours 52 = .ok (.aload_n 0, 1) := by decide +kernel
theorem dX7_neighbours_53 : decode cX7_neighbours 53 = .ok (.getfield 9, 3) := by decide +kernel
theorem dX7_neighbours_56 : decode cX7_neighbours 56 = .ok (.iconst 4, 1) := by decide +kernel
theorem dX7_neighbours_57 : decode cX7_neighbours 57 = .ok (.iconst 2, 1) := by decide +kernel
theorem dX7_neighbours_58 : decode cX7_neighbours 58 = .ok (.iload_n 1, 1) := by decide +kernel
theorem dX7_neighbours_59 : decode cX7_neighbours 59 = .ok (.imul, 1) := by decide +kernel
theorem dX7_neighbours_60 : decode cX7_neighbours 60 = .ok (.iadd, 1) := by decide +kernel
theorem dX7_neighbours_61 : decode cX7_neighbours 61 = .ok (.iconst 1, 1) := by decide +kernel
theorem dX7_neighbours_62 : decode cX7_neighbours 62 = .ok (.iadd, 1) := by decide +kernel
theorem dX7_neighbours_63 : decode cX7_neighbours 63 = .ok (.iconst 0, 1) := by decide +kernel
theorem dX7_neighbours_64 : decode cX7_neighbours 64 = .ok (.iastore, 1) := by decide +kernel
theorem dX7_neighbours_65 : decode cX7_neighbours 65 = .ok (.aload_n 0, 1) := by decide +kernel
theorem dX7_neighbours_66 : decode cX7_neighbours 66 = .ok (.invokevirtual 94, 3) := by decide +kernel
theorem dX7_neighbours_69 : decode cX7_neighbours 69 = .ok (.aload_n 0, 1) := by decide +kernel
theorem dX7_neighbours_70 : decode cX7_neighbours 70 = .ok (.getfield 9, 3) := by decide +kernel
theorem dX7_neighbours_73 : decode cX7_neighbours 73 = .ok (.iconst 4, 1) := by decide +kernel
theorem dX7_neighbours_74 : decode cX7_neighbours 74 = .ok (.iconst 2, 1) := by decide +kernel
theorem dX7_neighbours_75 : decode cX7_neighbours 75 = .ok (.iload_n 1, 1) := by decide +kernel
theorem dX7_neighbours_76 : decode cX7_neighbours 76 = .ok (.imul, 1) := by decide +kernel
theorem dX7_neighbours_77 : decode cX7_neighbours 77 = .ok (.iadd, 1) := by decide +kernel
theorem dX7_neighbours_78 : decode cX7_neighbours 78 = .ok (.iconst 1, 1) := by decide +kernel
theorem dX7_neighbours_79 : decode cX7_neighbours 79 = .ok (.iadd, 1) := by decide +kernel
theorem dX7_neighbours_80 : decode cX7_neighbours 80 = .ok (.iconst 1, 1) := by decide +kernel
theorem dX7_neighbours_81 : decode cX7_neighbours 81 = .ok (.iastore, 1) := by decide +kernel
theorem dX7_neighbours_82 : decode cX7_neighbours 82 = .ok (.iconst 0, 1) := by decide +kernel
theorem dX7_neighbours_83 : decode cX7_neighbours 83 = .ok (.istore_n 2, 1) := by decide +kernel
theorem dX7_neighbours_84 : decode cX7_neighbours 84 = .ok (.iconst 0, 1) := by decide +kernel
theorem dX7_neighbours_85 : decode cX7_neighbours 85 = .ok (.istore_n 3, 1) := by decide +kernel
theorem dX7_neighbours_86 : decode cX7_neighbours 86 = .ok (.iload_n 3, 1) := by decide +kernel
theorem dX7_neighbours_87 : decode cX7_neighbours 87 = .ok (.sipush 360, 3) := by decide +kernel
theorem dX7_neighbours_90 : decode cX7_neighbours 90 = .ok (.if_icmp .ge 44, 3) := by decide +kernel
theorem dX7_neighbours_93 : decode cX7_neighbours 93 = .ok (.iload_n 2, 1) := by decide +kernel
theorem dX7_neighbours_94 : decode cX7_neighbours 94 = .ok (.aload_n 0, 1) := by decide +kernel
theorem dX7_neighbours_95 : decode cX7_neighbours 95 = .ok (.getfield 31, 3) := by decide +kernel
theorem dX7_neighbours_98 : decode cX7_neighbours 98 = .ok (.iload_n 3, 1) := by decide +kernel
theorem dX7_neighbours_99 : decode cX7_neighbours 99 = .ok (.iaload, 1) := by decide +kernel
theorem dX7_neighbours_100 : decode cX7_neighbours 100 = .ok (.iload_n 1, 1) := by decide +kernel
theorem dX7_neighbours_101 : decode cX7_neighbours 101 = .ok (.if_icmp .ne 24, 3) := by decide +kernel
theorem dX7_neighbours_104 : decode cX7_neighbours 104 = .ok (.aload_n 0, 1) := by decide +kernel
theorem dX7_neighbours_105 : decode cX7_neighbours 105 = .ok (.getfield 16, 3) := by decide +kernel
theorem dX7_neighbours_108 : decode cX7_neighbours 108 = .ok (.iload_n 3, 1) := by decide +kernel
theorem dX7_neighbours_109 : decode cX7_neighbours 109 = .ok (.iaload, 1) := by decide +kernel
theorem dX7_neighbours_110 : decode cX7_neighbours 110 = .ok (.iconst (-1), 1) := by decide +kernel
theorem dX7_neighbours_111 : decode cX7_neighbours 111 = .ok (.if_icmp .eq 14, 3) := by decide +kernel
theorem dX7_neighbours_114 : decode cX7_neighbours 114 = .ok (.iconst 1, 1) := by decide +kernel
theorem dX7_neighbours_115 : decode cX7_neighbours 115 = .ok (.aload_n 0, 1) := by decide +kernel
theorem dX7_neighbours_116 : decode cX7_neighbours 116 = .ok (.getfield 16, 3) := by decide +kernel
theorem dX7_neighbours_119 : decode cX7_neighbours 119 = .ok (.iload_n 3, 1) := by decide +kernel
theorem dX7_neighbours_120 : decode cX7_neighbours 120 = .ok (.iaload, 1) := by decide +kernel
theorem dX7_neighbours_121 : decode cX7_neighbours 121 = .ok (.ishl, 1) := by decide +kernel
theorem dX7_neighbours_122 : decode cX7_neighbours 122 = .ok (.goto 4, 3) := by decide +kernel
theorem dX7_neighbours_125 : decode cX7_neighbours 125 = .ok (.iconst 0, 1) := by decide +kernel
theorem dX7_neighbours_126 : decode cX7_neighbours 126 = .ok (.ior, 1) := by decide +kernel
theorem dX7_neighbours_127 : decode cX7_neighbours 127 = .ok (.istore_n 2, 1) := by decide +kernel
theorem dX7_neighbours_128 : decode cX7_neighbours 128 = .ok (.iinc 3 1, 3) := by decide +kernel
theorem dX7_neighbours_131 : decode cX7_neighbours 131 = .ok (.goto (-45), 3) := by decide +kernel
theorem dX7_neighbours_134 : decode cX7_neighbours 134 = .ok (.iload_n 2, 1) := by decide +kernel
theorem dX7_neighbours_135 : decode cX7_neighbours 135 = .ok (.ireturn, 1) := by decide +kernel
set_option maxRecDepth 20000 in
theorem ggX7_bargeOf_X7_isBarge : GoodIn wsX7_bargeOf wsX7_isBarge := goodIn_r _ [7, 8, 9, 10, 6, 11, 53, 54, 55, 56, 57, 58, 59, 60, 61, 62, 63, 64, 65, 66, 67, 68, 69, 70, 71, 72, 73, 74, 75, 76, 77] (by decide +kernel) (by decide +kernel)
set_option maxRecDepth 20000 in
theorem gX7_bargeOf_X7_isBarge : GoodIn wsX7_bargeOf (wsV RX7 140 RX7 yX7_isBarge wsX7_isBarge) := goodIn_app (goodIn_of _ (by decide +kernel)) ggX7_bargeOf_X7_isBarge
set_option maxRecDepth 20000 in
theorem ggX7_bargeOf_X7_lays : GoodIn wsX7_bargeOf wsX7_lays := goodIn_r _ [15, 16, 8, 17, 18, 19, 6, 20, 21, 22, 23, 24, 25, 26, 27, 28, 29, 30, 31, 32, 33, 34, 35, 36, 37, 38, 39, 40, 41, 1, 2, 42, 43, 44, 45, 46, 47, 48, 49, 50, 51, 52, 53, 54, 55, 56, 57, 58, 59, 60, 61, 62, 63, 64, 65, 66, 67, 68, 69, 70, 71, 72, 73, 74, 75, 76, 77] (by decide +kernel) (by decide +kernel)
set_option maxRecDepth 20000 in
theorem gX7_bargeOf_X7_lays : GoodIn wsX7_bargeOf (wsV RX7 159 RX7 yX7_lays wsX7_lays) := goodIn_app (goodIn_of _ (by decide +kernel)) ggX7_bargeOf_X7_lays
set_option maxRecDepth 20000 in
theorem ggX7_bargeOf_X7_b : GoodIn wsX7_bargeOf wsX7_b := goodIn_r _ [45, 8, 53, 54, 55, 56, 57, 58, 59, 60, 61, 62, 63, 64, 65, 66, 67, 68, 69, 70, 71, 72, 73, 74, 75, 76, 77] (by decide +kernel) (by decide +kernel)
set_option maxRecDepth 20000 in
theorem gX7_bargeOf_X7_b : GoodIn wsX7_bargeOf (wsV RX7 88 RX7 yX7_b wsX7_b) := goodIn_app (goodIn_of _ (by decide +kernel)) ggX7_bargeOf_X7_b
set_option maxRecDepth 20000 in
theorem ggX7_bargeOf_X7_placeOf : GoodIn wsX7_bargeOf wsX7_placeOf := goodIn_r _ [48] (by decide +kernel) (by decide +kernel)
set_option maxRecDepth 20000 in
theorem gX7_bargeOf_X7_placeOf : GoodIn wsX7_bargeOf (va_wsS RX7 91 yX7_placeOf wsX7_placeOf) := goodIn_app (goodIn_of _ (by decide +kernel)) ggX7_bargeOf_X7_placeOf
theorem dX7_bargeOf_0 : decode cX7_bargeOf 0 = .ok (.aload_n 0, 1) := by decide +kernel
theorem dX7_bargeOf_1 : decode cX7_bargeOf 1 = .ok (.iload_n 1, 1) := by decide +kernel
theorem dX7_bargeOf_2 : decode cX7_bargeOf 2 = .ok (.invokevirtual 140, 3) := by decide +kernel
theorem dX7_bargeOf_5 : decode cX7_bargeOf 5 = .ok (.ifCond .ne 6, 3) := by decide +kernel
theorem dX7_bargeOf_8 : decode cX7_bargeOf 8 = .ok (.bipush (-11), 2) := by decide +kernel
theorem dX7_bargeOf_10 : decode cX7_bargeOf 10 = .ok (.ireturn, 1) := by decide +kernel
theorem dX7_bargeOf_11 : decode cX7_bargeOf 11 = .ok (.aload_n 0, 1) := by decide +kernel
theorem dX7_bargeOf_12 : decode cX7_bargeOf 12 = .ok (.invokevirtual 159, 3) := by decide +kernel
theorem dX7_bargeOf_15 : decode cX7_bargeOf 15 = .ok (.iload_n 2, 1) := by decide +kernel
theorem dX7_bargeOf_16 : decode cX7_bargeOf 16 = .ok (.tableswitch 82 0 4 #[36, 36, 43, 53, 75], 36) := by decide +kernel
theorem dX7_bargeOf_52 : decode cX7_bargeOf 52 = .ok (.aload_n 0, 1) := by decide +kernel
theorem dX7_bargeOf_53 : decode cX7_bargeOf 53 = .ok (.iload_n 1, 1) := by decide +kernel
theorem dX7_bargeOf_54 : decode cX7_bargeOf 54 = .ok (.iload_n 2, 1) := by decide +kernel
theorem dX7_bargeOf_55 : decode cX7_bargeOf 55 = .ok (.invokevirtual 88, 3) := by decide +kernel
theorem dX7_bargeOf_58 : decode cX7_bargeOf 58 = .ok (.ireturn, 1) := by decide +kernel
theorem dX7_bargeOf_59 : decode cX7_bargeOf 59 = .ok (.aload_n 0, 1) := by decide +kernel
theorem dX7_bargeOf_60 : decode cX7_bargeOf 60 = .ok (.iload_n 1, 1) := by decide +kernel
theorem dX7_bargeOf_61 : decode cX7_bargeOf 61 = .ok (.iconst 0, 1) := by decide +kernel
theorem dX7_bargeOf_62 : decode cX7_bargeOf 62 = .ok (.invokevirtual 88, 3) := by decide +kernel
theorem dX7_bargeOf_65 : decode cX7_bargeOf 65 = .ok (.invokestatic 91, 3) := by decide +kernel
theorem dX7_bargeOf_68 : decode cX7_bargeOf 68 = .ok (.ireturn, 1) := by decide +kernel
theorem dX7_bargeOf_69 : decode cX7_bargeOf 69 = .ok (.aload_n 0, 1) := by decide +kernel
theorem dX7_bargeOf_70 : decode cX7_bargeOf 70 = .ok (.getfield 22, 3) := by decide +kernel
theorem dX7_bargeOf_73 : decode cX7_bargeOf 73 = .ok (.iload_n 1, 1) := by decide +kernel
theorem dX7_bargeOf_74 : decode cX7_bargeOf 74 = .ok (.iaload, 1) := by decide +kernel
theorem dX7_bargeOf_75 : decode cX7_bargeOf 75 = .ok (.iconst (-1), 1) := by decide +kernel
theorem dX7_bargeOf_76 : decode cX7_bargeOf 76 = .ok (.if_icmp .ne 8, 3) := by decide +kernel
theorem dX7_bargeOf_79 : decode cX7_bargeOf 79 = .ok (.bipush (-15), 2) := by decide +kernel
theorem dX7_bargeOf_81 : decode cX7_bargeOf 81 = .ok (.goto 9, 3) := by decide +kernel
theorem dX7_bargeOf_84 : decode cX7_bargeOf 84 = .ok (.aload_n 0, 1) := by decide +kernel
theorem dX7_bargeOf_85 : decode cX7_bargeOf 85 = .ok (.getfield 22, 3) := by decide +kernel
theorem dX7_bargeOf_88 : decode cX7_bargeOf 88 = .ok (.iload_n 1, 1) := by decide +kernel
theorem dX7_bargeOf_89 : decode cX7_bargeOf 89 = .ok (.iaload, 1) := by decide +kernel
theorem dX7_bargeOf_90 : decode cX7_bargeOf 90 = .ok (.ireturn, 1) := by decide +kernel
theorem dX7_bargeOf_91 : decode cX7_bargeOf 91 = .ok (.aload_n 0, 1) := by decide +kernel
theorem dX7_bargeOf_92 : decode cX7_bargeOf 92 = .ok (.getfield 25, 3) := by decide +kernel
theorem dX7_bargeOf_95 : decode cX7_bargeOf 95 = .ok (.iload_n 1, 1) := by decide +kernel
theorem dX7_bargeOf_96 : decode cX7_bargeOf 96 = .ok (.iaload, 1) := by decide +kernel
theorem dX7_bargeOf_97 : decode cX7_bargeOf 97 = .ok (.ireturn, 1) := by decide +kernel
theorem dX7_bargeOf_98 : decode cX7_bargeOf 98 = .ok (.bipush (-12), 2) := by decide +kernel
theorem dX7_bargeOf_100 : decode cX7_bargeOf 100 = .ok (.ireturn, 1) := by decide +kernel
set_option maxRecDepth 20000 in
theorem ggX7_home_X7_isBarge : GoodIn wsX7_home wsX7_isBarge := goodIn_r _ [5, 6, 7, 8, 4, 9, 42, 43, 44, 45, 46, 47, 48, 49, 50, 51, 52, 53, 54, 55, 56, 57, 58, 59, 60, 61, 62, 63, 64, 65, 66] (by decide +kernel) (by decide +kernel)
set_option maxRecDepth 20000 in
theorem gX7_home_X7_isBarge : GoodIn wsX7_home (wsV RX7 140 RX7 yX7_isBarge wsX7_isBarge) := goodIn_app (goodIn_of _ (by decide +kernel)) ggX7_home_X7_isBarge
set_option maxRecDepth 20000 in
theorem ggX7_home_X7_b : GoodIn wsX7_home wsX7_b := goodIn_r _ [13, 6, 42, 43, 44, 45, 46, 47, 48, 49, 50, 51, 52, 53, 54, 55, 56, 57, 58, 59, 60, 61, 62, 63, 64, 65, 66] (by decide +kernel) (by decide +kernel)
set_option maxRecDepth 20000 in
theorem gX7_home_X7_b : GoodIn wsX7_home (wsV RX7 88 RX7 yX7_b wsX7_b) := goodIn_app (goodIn_of _ (by decide +kernel)) ggX7_home_X7_b
set_option maxRecDepth 20000 in
theorem ggX7_home_X7_placeOf : GoodIn wsX7_home wsX7_placeOf := goodIn_r _ [16] (by decide +kernel) (by decide +kernel)
set_option maxRecDepth 20000 in
theorem gX7_home_X7_placeOf : GoodIn wsX7_home (va_wsS RX7 91 yX7_placeOf wsX7_placeOf) := goodIn_app (goodIn_of _ (by decide +kernel)) ggX7_home_X7_placeOf
set_option maxRecDepth 20000 in
theorem ggX7_home_X7_homeOf : GoodIn wsX7_home wsX7_homeOf := goodIn_r _ [20, 21, 7, 8, 4, 9, 22, 23, 24, 25, 26, 6, 27, 28, 29, 30, 31, 32, 33, 34, 35, 36, 37, 38, 39, 40, 41, 42, 43, 44, 45, 46, 47, 48, 49, 50, 51, 52, 53, 54, 55, 56, 57, 58, 59, 60, 61, 62, 63, 64, 65, 66] (by decide +kernel) (by decide +kernel)
set_option maxRecDepth 20000 in
theorem gX7_home_X7_homeOf : GoodIn wsX7_home (wsV RX7 171 RX7 yX7_homeOf wsX7_homeOf) := goodIn_app (goodIn_of _ (by decide +kernel)) ggX7_home_X7_homeOf
theorem dX7_home_0 : decode cX7_home 0 = .ok (.aload_n 0, 1) := by decide +kernel
theorem dX7_home_1 : decode cX7_home 1 = .ok (.iload_n 1, 1) := by decide +kernel
theorem dX7_home_2 : decode cX7_home 2 = .ok (.invokevirtual 140, 3) := by decide +kernel
theorem dX7_home_5 : decode cX7_home 5 = .ok (.ifCond .eq 19, 3) := by decide +kernel
theorem dX7_home_8 : decode cX7_home 8 = .ok (.aload_n 0, 1) := by decide +kernel
theorem dX7_home_9 : decode cX7_home 9 = .ok (.aload_n 0, 1) := by decide +kernel
theorem dX7_home_10 : decode cX7_home 10 = .ok (.iload_n 1, 1) := by decide +kernel
theorem dX7_home_11 : decode cX7_home 11 = .ok (.iconst 0, 1) := by decide +kernel
theorem dX7_home_12 : decode cX7_home 12 = .ok (.invokevirtual 88, 3) := by decide +kernel
theorem dX7_home_15 : decode cX7_home 15 = .ok (.invokestatic 91, 3) := by decide +kernel
theorem dX7_home_18 : decode cX7_home 18 = .ok (.invokevirtual 171, 3) := by decide +kernel
theorem dX7_home_21 : decode cX7_home 21 = .ok (.goto 5, 3) := by decide +kernel
theorem dX7_home_24 : decode cX7_home 24 = .ok (.bipush (-11), 2) := by decide +kernel
theorem dX7_home_26 : decode cX7_home 26 = .ok (.ireturn, 1) := by decide +kernel
set_option maxRecDepth 20000 in
theorem ggX7_homeAgain_X7_home : GoodIn wsX7_homeAgain wsX7_home := goodIn_r _ [5, 6, 7, 8, 4, 9, 10, 11, 12, 13, 14, 15, 16, 17, 18, 19, 20, 21, 22, 23, 24, 25, 26, 27, 28, 29, 30, 31, 32, 33, 34, 35, 36, 37, 38, 39, 40, 41, 42, 43, 44, 45, 46, 47, 48, 49, 50, 51, 52, 53, 54, 55, 56, 57, 58, 59, 60, 61, 62, 63, 64, 65, 66, 67, 68, 69, 70] (by decide +kernel) (by decide +kernel)
set_option maxRecDepth 20000 in
theorem gX7_homeAgain_X7_home : GoodIn wsX7_homeAgain (wsV RX7 174 RX7 yX7_home wsX7_home) := goodIn_app (goodIn_of _ (by decide +kernel)) ggX7_homeAgain_X7_home
theorem dX7_homeAgain_0 : decode cX7_homeAgain 0 = .ok (.aload_n 0, 1) := by decide +kernel
theorem dX7_homeAgain_1 : decode cX7_homeAgain 1 = .ok (.iload_n 1, 1) := by decide +kernel
theorem dX7_homeAgain_2 : decode cX7_homeAgain 2 = .ok (.invokevirtual 174, 3) := by decide +kernel
theorem dX7_homeAgain_5 : decode cX7_homeAgain 5 = .ok (.ireturn, 1) := by decide +kernel
set_option maxRecDepth 20000 in
theorem ggX7_homeOf_X7_in : GoodIn wsX7_homeOf wsX7_in := goodIn_r _ [5] (by decide +kernel) (by decide +kernel)
set_option maxRecDepth 20000 in
theorem gX7_homeOf_X7_in : GoodIn wsX7_homeOf (va_wsS RX7 59 yX7_in wsX7_in) := goodIn_app (goodIn_of _ (by decide +kernel)) ggX7_homeOf_X7_in
set_option maxRecDepth 20000 in
theorem ggX7_homeOf_X7_laysRing : GoodIn wsX7_homeOf wsX7_laysRing := goodIn_r _ [9, 10, 11, 1, 12, 13, 14, 4, 15, 16, 17, 18, 19, 20, 21, 22, 23, 24, 25, 26, 27, 28, 29, 30, 31, 32, 33, 34, 35, 36, 37, 38, 39, 40, 41, 42, 43, 44, 45, 46, 47, 48, 49, 50, 51] (by decide +kernel) (by decide +kernel)
set_option maxRecDepth 20000 in
theorem gX7_homeOf_X7_laysRing : GoodIn wsX7_homeOf (wsV RX7 94 RX7 yX7_laysRing wsX7_laysRing) := goodIn_app (goodIn_of _ (by decide +kernel)) ggX7_homeOf_X7_laysRing
theorem dX7_homeOf_0 : decode cX7_homeOf 0 = .ok (.iload_n 1, 1) := by decide +kernel
theorem dX7_homeOf_1 : decode cX7_homeOf 1 = .ok (.iconst 0, 1) := by decide +kernel
theorem dX7_homeOf_2 : decode cX7_homeOf 2 = .ok (.sipush 359, 3) := by decide +kernel
theorem dX7_homeOf_5 : decode cX7_homeOf 5 = .ok (.invokestatic 59, 3) := by decide +kernel
theorem dX7_homeOf_8 : decode cX7_homeOf 8 = .ok (.ifCond .ne 6, 3) := by decide +kernel
theorem dX7_homeOf_11 : decode cX7_homeOf 11 = .ok (.bipush (-11), 2) := by decide +kernel
theorem dX7_homeOf_13 : decode cX7_homeOf 13 = .ok (.ireturn, 1) := by decide +kernel
theorem dX7_homeOf_14 : decode cX7_homeOf 14 = .ok (.aload_n 0, 1) := by decide +kernel
theorem dX7_homeOf_15 : decode cX7_homeOf 15 = .ok (.invokevirtual 94, 3) := by decide +kernel
theorem dX7_homeOf_18 : decode cX7_homeOf 18 = .ok (.aload_n 0, 1) := by decide +kernel
theorem dX7_homeOf_19 : decode cX7_homeOf 19 = .ok (.getfield 16, 3) := by decide +kernel
theorem dX7_homeOf_22 : decode cX7_homeOf 22 = .ok (.iload_n 1, 1) := by decide +kernel
theorem dX7_homeOf_23 : decode cX7_homeOf 23 = .ok (.iaload, 1) := by decide +kernel
theorem dX7_homeOf_24 : decode cX7_homeOf 24 = .ok (.iconst (-1), 1) := by decide +kernel
theorem dX7_homeOf_25 : decode cX7_homeOf 25 = .ok (.if_icmp .ne 8, 3) := by decide +kernel
theorem dX7_homeOf_28 : decode cX7_homeOf 28 = .ok (.bipush (-15), 2) := by decide +kernel
theorem dX7_homeOf_30 : decode cX7_homeOf 30 = .ok (.goto 9, 3) := by decide +kernel
theorem dX7_homeOf_33 : decode cX7_homeOf 33 = .ok (.aload_n 0, 1) := by decide +kernel
theorem dX7_homeOf_34 : decode cX7_homeOf 34 = .ok (.getfield 16, 3) := by decide +kernel
theorem dX7_homeOf_37 : decode cX7_homeOf 37 = .ok (.iload_n 1, 1) := by decide +kernel
theorem dX7_homeOf_38 : decode cX7_homeOf 38 = .ok (.iaload, 1) := by decide +kernel
theorem dX7_homeOf_39 : decode cX7_homeOf 39 = .ok (.ireturn, 1) := by decide +kernel
theorem dX7_puts_0 : decode cX7_puts 0 = .ok (.aload_n 0, 1) := by decide +kernel
theorem dX7_puts_1 : decode cX7_puts 1 = .ok (.getfield 177, 3) := by decide +kernel
theorem dX7_puts_4 : decode cX7_puts 4 = .ok (.istore_n 2, 1) := by decide +kernel
theorem dX7_puts_5 : decode cX7_puts 5 = .ok (.aload_n 0, 1) := by decide +kernel
theorem dX7_puts_6 : decode cX7_puts 6 = .ok (.getfield 34, 3) := by decide +kernel
theorem dX7_puts_9 : decode cX7_puts 9 = .ok (.iload_n 2, 1) := by decide +kernel
theorem dX7_puts_10 : decode cX7_puts 10 = .ok (.iload_n 1, 1) := by decide +kernel
theorem dX7_puts_11 : decode cX7_puts 11 = .ok (.iastore, 1) := by decide +kernel
theorem dX7_puts_12 : decode cX7_puts 12 = .ok (.aload_n 0, 1) := by decide +kernel
theorem dX7_puts_13 : decode cX7_puts 13 = .ok (.getfield 37, 3) := by decide +kernel
theorem dX7_puts_16 : decode cX7_puts 16 = .ok (.iload_n 2, 1) := by decide +kernel
theorem dX7_puts_17 : decode cX7_puts 17 = .ok (.iconst (-1), 1) := by decide +kernel
theorem dX7_puts_18 : decode cX7_puts 18 = .ok (.iastore, 1) := by decide +kernel
theorem dX7_puts_19 : decode cX7_puts 19 = .ok (.aload_n 0, 1) := by decide +kernel
theorem dX7_puts_20 : decode cX7_puts 20 = .ok (.getfield 40, 3) := by decide +kernel
theorem dX7_puts_23 : decode cX7_puts 23 = .ok (.iload_n 2, 1) := by decide +kernel
theorem dX7_puts_24 : decode cX7_puts 24 = .ok (.iconst (-1), 1) := by decide +kernel
theorem dX7_puts_25 : decode cX7_puts 25 = .ok (.iastore, 1) := by decide +kernel
theorem dX7_puts_26 : decode cX7_puts 26 = .ok (.aload_n 0, 1) := by decide +kernel
theorem dX7_puts_27 : decode cX7_puts 27 = .ok (.dup, 1) := by decide +kernel
theorem dX7_puts_28 : decode cX7_puts 28 = .ok (.getfield 177, 3) := by decide +kernel
theorem dX7_puts_31 : decode cX7_puts 31 = .ok (.iconst 1, 1) := by decide +kernel
theorem dX7_puts_32 : decode cX7_puts 32 = .ok (.iadd, 1) := by decide +kernel
theorem dX7_puts_33 : decode cX7_puts 33 = .ok (.putfield 177, 3) := by decide +kernel
theorem dX7_puts_36 : decode cX7_puts 36 = .ok (.aload_n 0, 1) := by decide +kernel
theorem dX7_puts_37 : decode cX7_puts 37 = .ok (.getfield 43, 3) := by decide +kernel
theorem dX7_puts_40 : decode cX7_puts 40 = .ok (.iload_n 1, 1) := by decide +kernel
theorem dX7_puts_41 : decode cX7_puts 41 = .ok (.iconst 0, 1) := by decide +kernel
theorem dX7_puts_42 : decode cX7_puts 42 = .ok (.iastore, 1) := by decide +kernel
theorem dX7_puts_43 : decode cX7_puts 43 = .ok (.iload_n 2, 1) := by decide +kernel
theorem dX7_puts_44 : decode cX7_puts 44 = .ok (.ifCond .ne 4, 3) := by decide +kernel
theorem dX7_puts_47 : decode cX7_puts 47 = .ok (.return_, 1) := by decide +kernel
theorem dX7_puts_48 : decode cX7_puts 48 = .ok (.iconst 0, 1) := by decide +kernel
theorem dX7_puts_49 : decode cX7_puts 49 = .ok (.istore_n 3, 1) := by decide +kernel
theorem dX7_puts_50 : decode cX7_puts 50 = .ok (.iconst 0, 1) := by decide +kernel
theorem dX7_puts_51 : decode cX7_puts 51 = .ok (.istore 4, 2) := by decide +kernel
theorem dX7_puts_53 : decode cX7_puts 53 = .ok (.iload 4, 2) := by decide +kernel
theorem dX7_puts_55 : decode cX7_puts 55 = .ok (.iconst (-1), 1) := by decide +kernel
theorem dX7_puts_56 : decode cX7_puts 56 = .ok (.if_icmp .eq 46, 3) := by decide +kernel
theorem dX7_puts_59 : decode cX7_puts 59 = .ok (.iload 4, 2) := by decide +kernel
theorem dX7_puts_61 : decode cX7_puts 61 = .ok (.istore_n 3, 1) := by decide +kernel
theorem dX7_puts_62 : decode cX7_puts 62 = .ok (.aload_n 0, 1) := by decide +kernel
theorem dX7_puts_63 : decode cX7_puts 63 = .ok (.getfield 43, 3) := by decide +kernel
theorem dX7_puts_66 : decode cX7_puts 66 = .ok (.iload_n 1, 1) := by decide +kernel
theorem dX7_puts_67 : decode cX7_puts 67 = .ok (.dup2, 1) := by decide +kernel
theorem dX7_puts_68 : decode cX7_puts 68 = .ok (.iaload, 1) := by decide +kernel
theorem dX7_puts_69 : decode cX7_puts 69 = .ok (.iconst 1, 1) := by decide +kernel
theorem dX7_puts_70 : decode cX7_puts 70 = .ok (.iadd, 1) := by decide +kernel
theorem dX7_puts_71 : decode cX7_puts 71 = .ok (.iastore, 1) := by decide +kernel
theorem dX7_puts_72 : decode cX7_puts 72 = .ok (.iload_n 1, 1) := by decide +kernel
theorem dX7_puts_73 : decode cX7_puts 73 = .ok (.aload_n 0, 1) := by decide +kernel
theorem dX7_puts_74 : decode cX7_puts 74 = .ok (.getfield 34, 3) := by decide +kernel
theorem dX7_puts_77 : decode cX7_puts 77 = .ok (.iload_n 3, 1) := by decide +kernel
theorem dX7_puts_78 : decode cX7_puts 78 = .ok (.iaload, 1) := by decide +kernel
theorem dX7_puts_79 : decode cX7_puts 79 = .ok (.if_icmp .ge 12, 3) := by decide +kernel
theorem dX7_puts_82 : decode cX7_puts 82 = .ok (.aload_n 0, 1) := by decide +kernel
theorem dX7_puts_83 : decode cX7_puts 83 = .ok (.getfield 37, 3) := by decide +kernel
theorem dX7_puts_86 : decode cX7_puts 86 = .ok (.iload_n 3, 1) := by decide +kernel
theorem dX7_puts_87 : decode cX7_puts 87 = .ok (.iaload, 1) := by decide +kernel
theorem dX7_puts_88 : decode cX7_puts 88 = .ok (.goto 9, 3) := by decide +kernel
theorem dX7_puts_91 : decode cX7_puts 91 = .ok (.aload_n 0, 1) := by decide +kernel
theorem dX7_puts_92 : decode cX7_puts 92 = .ok (.getfield 40, 3) := by decide +kernel
theorem dX7_puts_95 : decode cX7_puts 95 = .ok (.iload_n 3, 1) := by decide +kernel
theorem dX7_puts_96 : decode cX7_puts 96 = .ok (.iaload, 1) := by decide +kernel
theorem dX7_puts_97 : decode cX7_puts 97 = .ok (.istore 4, 2) := by decide +kernel
theorem dX7_puts_99 : decode cX7_puts 99 = .ok (.goto (-46), 3) := by decide +kernel
theorem dX7_puts_102 : decode cX7_puts 102 = .ok (.iload_n 1, 1) := by decide +kernel
theorem dX7_puts_103 : decode cX7_puts 103 = .ok (.aload_n 0, 1) := by decide +kernel
theorem dX7_puts_104 : decode cX7_puts 104 = .ok (.getfield 34, 3) := by decide +kernel
theorem dX7_puts_107 : decode cX7_puts 107 = .ok (.iload_n 3, 1) := by decide +kernel
theorem dX7_puts_108 : decode cX7_puts 108 = .ok (.iaload, 1) := by decide +kernel
theorem dX7_puts_109 : decode cX7_puts 109 = .ok (.if_icmp .ge 13, 3) := by decide +kernel
theorem dX7_puts_112 : decode cX7_puts 112 = .ok (.aload_n 0, 1) := by decide +kernel
theorem dX7_puts_113 : decode cX7_puts 113 = .ok (.getfield 37, 3) := by decide +kernel
theorem dX7_puts_116 : decode cX7_puts 116 = .ok (.iload_n 3, 1) := by decide +kernel
theorem dX7_puts_117 : decode cX7_puts 117 = .ok (.iload_n 2, 1) := by decide +kernel
theorem dX7_puts_118 : decode cX7_puts 118 = .ok (.iastore, 1) := by decide +kernel
theorem dX7_puts_119 : decode cX7_puts 119 = .ok (.goto 10, 3) := by decide +kernel
theorem dX7_puts_122 : decode cX7_puts 122 = .ok (.aload_n 0, 1) := by decide +kernel
theorem dX7_puts_123 : decode cX7_puts 123 = .ok (.getfield 40, 3) := by decide +kernel
theorem dX7_puts_126 : decode cX7_puts 126 = .ok (.iload_n 3, 1) := by decide +kernel
theorem dX7_puts_127 : decode cX7_puts 127 = .ok (.iload_n 2, 1) := by decide +kernel
theorem dX7_puts_128 : decode cX7_puts 128 = .ok (.iastore, 1) := by decide +kernel
theorem dX7_puts_129 : decode cX7_puts 129 = .ok (.return_, 1) := by decide +kernel
set_option maxRecDepth 20000 in
theorem ggX7_laysTree_X7_points : GoodIn wsX7_laysTree wsX7_points := goodIn_r _ [7, 8, 9, 10, 6, 11, 12, 13, 14, 15, 2, 27, 28, 29, 30, 31, 32, 33, 34, 35, 36, 37, 38, 39, 40, 41, 42, 43, 44, 45, 46, 47, 48, 49, 50, 51] (by decide +kernel) (by decide +kernel)
set_option maxRecDepth 20000 in
theorem gX7_laysTree_X7_points : GoodIn wsX7_laysTree (wsV RX7 81 RX7 yX7_points wsX7_points) := goodIn_app (goodIn_of _ (by decide +kernel)) ggX7_laysTree_X7_points
set_option maxRecDepth 20000 in
theorem ggX7_laysTree_X7_pointOf : GoodIn wsX7_laysTree wsX7_pointOf := goodIn_r _ [18] (by decide +kernel) (by decide +kernel)
set_option maxRecDepth 20000 in
theorem gX7_laysTree_X7_pointOf : GoodIn wsX7_laysTree (va_wsS RX7 85 yX7_pointOf wsX7_pointOf) := goodIn_app (goodIn_of _ (by decide +kernel)) ggX7_laysTree_X7_pointOf
set_option maxRecDepth 20000 in
theorem ggX7_laysTree_X7_puts : GoodIn wsX7_laysTree wsX7_puts := goodIn_r _ [22, 1, 23, 24, 25, 26, 27, 28, 29, 30, 31, 32, 33, 34, 35, 36, 37, 38, 39, 40, 41, 42, 43, 44, 45, 46, 47, 48, 49, 50, 51] (by decide +kernel) (by decide +kernel)
set_option maxRecDepth 20000 in
theorem gX7_laysTree_X7_puts : GoodIn wsX7_laysTree (wsV RX7 180 RX7 yX7_puts wsX7_puts) := goodIn_app (goodIn_of _ (by decide +kernel)) ggX7_laysTree_X7_puts
theorem dX7_laysTree_0 : decode cX7_laysTree 0 = .ok (.aload_n 0, 1) := by decide +kernel
theorem dX7_laysTree_1 : decode cX7_laysTree 1 = .ok (.iconst 0, 1) := by decide +kernel
theorem dX7_laysTree_2 : decode cX7_laysTree 2 = .ok (.putfield 177, 3) := by decide +kernel
theorem dX7_laysTree_5 : decode cX7_laysTree 5 = .ok (.iconst 0, 1) := by decide +kernel
theorem dX7_laysTree_6 : decode cX7_laysTree 6 = .ok (.istore_n 1, 1) := by decide +kernel
theorem dX7_laysTree_7 : decode cX7_laysTree 7 = .ok (.iload_n 1, 1) := by decide +kernel
theorem dX7_laysTree_8 : decode cX7_laysTree 8 = .ok (.aload_n 0, 1) := by decide +kernel
theorem dX7_laysTree_9 : decode cX7_laysTree 9 = .ok (.getfield 9, 3) := by decide +kernel
theorem dX7_laysTree_12 : decode cX7_laysTree 12 = .ok (.iconst 0, 1) := by decide +kernel
theorem dX7_laysTree_13 : decode cX7_laysTree 13 = .ok (.iaload, 1) := by decide +kernel
theorem dX7_laysTree_14 : decode cX7_laysTree 14 = .ok (.if_icmp .ge 35, 3) := by decide +kernel
theorem dX7_laysTree_17 : decode cX7_laysTree 17 = .ok (.iconst 0, 1) := by decide +kernel
theorem dX7_laysTree_18 : decode cX7_laysTree 18 = .ok (.istore_n 2, 1) := by decide +kernel
theorem dX7_laysTree_19 : decode cX7_laysTree 19 = .ok (.iload_n 2, 1) := by decide +kernel
theorem dX7_laysTree_20 : decode cX7_laysTree 20 = .ok (.aload_n 0, 1) := by decide +kernel
theorem dX7_laysTree_21 : decode cX7_laysTree 21 = .ok (.iload_n 1, 1) := by decide +kernel
theorem dX7_laysTree_22 : decode cX7_laysTree 22 = .ok (.invokevirtual 81, 3) := by decide +kernel
theorem dX7_laysTree_25 : decode cX7_laysTree 25 = .ok (.if_icmp .ge 18, 3) := by decide +kernel
theorem dX7_laysTree_28 : decode cX7_laysTree 28 = .ok (.aload_n 0, 1) := by decide +kernel
theorem dX7_laysTree_29 : decode cX7_laysTree 29 = .ok (.iload_n 1, 1) := by decide +kernel
theorem dX7_laysTree_30 : decode cX7_laysTree 30 = .ok (.iload_n 2, 1) := by decide +kernel
theorem dX7_laysTree_31 : decode cX7_laysTree 31 = .ok (.invokestatic 85, 3) := by decide +kernel
