set_option maxRecDepth 20000 in
theorem ggX6_init_X1_init : GoodIn wsX6_init wsX1_init := goodIn_r _ [35, 36, 2, 3, 37, 38, 39, 40, 41, 42, 43, 44, 45, 46, 100, 101, 102, 103, 104, 105, 106, 107] (by decide +kernel) (by decide +kernel)
set_option maxRecDepth 20000 in
theorem gX6_init_X1_init_n11 : GoodIn wsX6_init (wsX1_init) := ggX6_init_X1_init
set_option maxRecDepth 20000 in
theorem ggX6_init_X0_init : GoodIn wsX6_init wsX0_init := goodIn_r _ [49, 50, 2, 3, 37, 51, 52, 53, 54, 55, 56, 57, 58, 59, 60, 61, 62, 63, 64, 120, 121, 122, 123, 124, 125, 126, 127, 128, 129] (by decide +kernel) (by decide +kernel)
set_option maxRecDepth 20000 in
theorem gX6_init_X0_init : GoodIn wsX6_init (wsX0_init) := ggX6_init_X0_init
set_option maxRecDepth 20000 in
theorem ggX6_init_X4_init : GoodIn wsX6_init wsX4_init := goodIn_r _ [66, 67, 2, 3, 37, 68, 69, 70, 71, 72, 73, 74, 75, 76, 130, 131, 132, 133, 134, 135, 136, 137, 138] (by decide +kernel) (by decide +kernel)
set_option maxRecDepth 20000 in
theorem gX6_init_X4_init_n25 : GoodIn wsX6_init (wsX4_init) := ggX6_init_X4_init
set_option maxRecDepth 20000 in
theorem ggX6_init_X2_init : GoodIn wsX6_init wsX2_init := goodIn_r _ [79, 80, 2, 3, 81, 82, 83, 84, 5, 6, 34, 35, 36, 37, 38, 39, 40, 41, 42, 43, 44, 45, 46, 139, 140, 141, 100, 101, 102, 103, 104, 105, 106, 107] (by decide +kernel) (by decide +kernel)
set_option maxRecDepth 20000 in
theorem gX6_init_X2_init : GoodIn wsX6_init (wsX2_init) := ggX6_init_X2_init
set_option maxRecDepth 20000 in
theorem ggX6_init_X5_init : GoodIn wsX6_init wsX5_init := goodIn_r _ [86, 87, 2, 3, 88, 89, 90, 91, 92, 93, 94, 142, 143, 144, 145, 146, 147] (by decide +kernel) (by decide +kernel)
set_option maxRecDepth 20000 in
theorem gX6_init_X5_init_n48 : GoodIn wsX6_init (wsX5_init) := ggX6_init_X5_init
set_option maxRecDepth 20000 in
theorem ggX6_init_X3_init : GoodIn wsX6_init wsX3_init := goodIn_r _ [96, 97, 2, 3, 92, 98, 99, 148, 149] (by decide +kernel) (by decide +kernel)
set_option maxRecDepth 20000 in
theorem gX6_init_X3_init_n55 : GoodIn wsX6_init (wsX3_init) := ggX6_init_X3_init
theorem dX6_init_0 : decode cX6_init 0 = .ok (.aload_n 0, 1) := by decide +kernel
theorem dX6_init_1 : decode cX6_init 1 = .ok (.invokespecial 3, 3) := by decide +kernel
theorem dX6_init_4 : decode cX6_init 4 = .ok (.aload_n 0, 1) := by decide +kernel
theorem dX6_init_5 : decode cX6_init 5 = .ok (.new 9, 3) := by decide +kernel
theorem dX6_init_8 : decode cX6_init 8 = .ok (.dup, 1) := by decide +kernel
theorem dX6_init_9 : decode cX6_init 9 = .ok (.invokespecial 11, 3) := by decide +kernel
theorem dX6_init_12 : decode cX6_init 12 = .ok (.putfield 12, 3) := by decide +kernel
theorem dX6_init_15 : decode cX6_init 15 = .ok (.aload_n 0, 1) := by decide +kernel
theorem dX6_init_16 : decode cX6_init 16 = .ok (.new 16, 3) := by decide +kernel
theorem dX6_init_19 : decode cX6_init 19 = .ok (.dup, 1) := by decide +kernel
theorem dX6_init_20 : decode cX6_init 20 = .ok (.invokespecial 18, 3) := by decide +kernel
theorem dX6_init_23 : decode cX6_init 23 = .ok (.putfield 19, 3) := by decide +kernel
theorem dX6_init_26 : decode cX6_init 26 = .ok (.aload_n 0, 1) := by decide +kernel
theorem dX6_init_27 : decode cX6_init 27 = .ok (.new 23, 3) := by decide +kernel
theorem dX6_init_30 : decode cX6_init 30 = .ok (.dup, 1) := by decide +kernel
theorem dX6_init_31 : decode cX6_init 31 = .ok (.invokespecial 25, 3) := by decide +kernel
theorem dX6_init_34 : decode cX6_init 34 = .ok (.putfield 26, 3) := by decide +kernel
theorem dX6_init_37 : decode cX6_init 37 = .ok (.aload_n 0, 1) := by decide +kernel
theorem dX6_init_38 : decode cX6_init 38 = .ok (.new 9, 3) := by decide +kernel
theorem dX6_init_41 : decode cX6_init 41 = .ok (.dup, 1) := by decide +kernel
theorem dX6_init_42 : decode cX6_init 42 = .ok (.invokespecial 11, 3) := by decide +kernel
theorem dX6_init_45 : decode cX6_init 45 = .ok (.putfield 30, 3) := by decide +kernel
theorem dX6_init_48 : decode cX6_init 48 = .ok (.aload_n 0, 1) := by decide +kernel
theorem dX6_init_49 : decode cX6_init 49 = .ok (.new 16, 3) := by decide +kernel
theorem dX6_init_52 : decode cX6_init 52 = .ok (.dup, 1) := by decide +kernel
theorem dX6_init_53 : decode cX6_init 53 = .ok (.invokespecial 18, 3) := by decide +kernel
theorem dX6_init_56 : decode cX6_init 56 = .ok (.putfield 33, 3) := by decide +kernel
theorem dX6_init_59 : decode cX6_init 59 = .ok (.aload_n 0, 1) := by decide +kernel
theorem dX6_init_60 : decode cX6_init 60 = .ok (.new 36, 3) := by decide +kernel
theorem dX6_init_63 : decode cX6_init 63 = .ok (.dup, 1) := by decide +kernel
theorem dX6_init_64 : decode cX6_init 64 = .ok (.invokespecial 38, 3) := by decide +kernel
theorem dX6_init_67 : decode cX6_init 67 = .ok (.putfield 39, 3) := by decide +kernel
theorem dX6_init_70 : decode cX6_init 70 = .ok (.aload_n 0, 1) := by decide +kernel
theorem dX6_init_71 : decode cX6_init 71 = .ok (.new 9, 3) := by decide +kernel
theorem dX6_init_74 : decode cX6_init 74 = .ok (.dup, 1) := by decide +kernel
theorem dX6_init_75 : decode cX6_init 75 = .ok (.invokespecial 11, 3) := by decide +kernel
theorem dX6_init_78 : decode cX6_init 78 = .ok (.putfield 43, 3) := by decide +kernel
theorem dX6_init_81 : decode cX6_init 81 = .ok (.aload_n 0, 1) := by decide +kernel
theorem dX6_init_82 : decode cX6_init 82 = .ok (.new 46, 3) := by decide +kernel
theorem dX6_init_85 : decode cX6_init 85 = .ok (.dup, 1) := by decide +kernel
theorem dX6_init_86 : decode cX6_init 86 = .ok (.invokespecial 48, 3) := by decide +kernel
theorem dX6_init_89 : decode cX6_init 89 = .ok (.putfield 49, 3) := by decide +kernel
theorem dX6_init_92 : decode cX6_init 92 = .ok (.aload_n 0, 1) := by decide +kernel
theorem dX6_init_93 : decode cX6_init 93 = .ok (.new 53, 3) := by decide +kernel
theorem dX6_init_96 : decode cX6_init 96 = .ok (.dup, 1) := by decide +kernel
theorem dX6_init_97 : decode cX6_init 97 = .ok (.invokespecial 55, 3) := by decide +kernel
theorem dX6_init_100 : decode cX6_init 100 = .ok (.putfield 56, 3) := by decide +kernel
theorem dX6_init_103 : decode cX6_init 103 = .ok (.aload_n 0, 1) := by decide +kernel
theorem dX6_init_104 : decode cX6_init 104 = .ok (.iconst 0, 1) := by decide +kernel
theorem dX6_init_105 : decode cX6_init 105 = .ok (.putfield 60, 3) := by decide +kernel
theorem dX6_init_108 : decode cX6_init 108 = .ok (.aload_n 0, 1) := by decide +kernel
theorem dX6_init_109 : decode cX6_init 109 = .ok (.bipush (-15), 2) := by decide +kernel
theorem dX6_init_111 : decode cX6_init 111 = .ok (.putfield 64, 3) := by decide +kernel
theorem dX6_init_114 : decode cX6_init 114 = .ok (.aload_n 0, 1) := by decide +kernel
theorem dX6_init_115 : decode cX6_init 115 = .ok (.bipush (-15), 2) := by decide +kernel
theorem dX6_init_117 : decode cX6_init 117 = .ok (.putfield 68, 3) := by decide +kernel
theorem dX6_init_120 : decode cX6_init 120 = .ok (.return_, 1) := by decide +kernel
set_option maxRecDepth 20000 in
theorem ggX6_pier_X2_draft : GoodIn wsX6_pier wsX2_draft := goodIn_r _ [7, 8, 9, 10, 11, 12, 13, 14, 15, 16, 17, 18, 19, 20, 21, 22, 23, 24, 25, 26, 166, 167, 168, 169, 170, 171, 172, 173, 174, 175, 176] (by decide +kernel) (by decide +kernel)
set_option maxRecDepth 20000 in
theorem gX6_pier_X2_draft : GoodIn wsX6_pier (wsV RX6 71 RX2 yX2_draft wsX2_draft) := goodIn_app (goodIn_of _ (by decide +kernel)) ggX6_pier_X2_draft
set_option maxRecDepth 20000 in
theorem ggX6_pier_X6_joinPier : GoodIn wsX6_pier wsX6_joinPier := goodIn_r _ [31, 2, 32, 33, 34, 35, 30, 36, 37, 38, 39, 40, 41, 13, 42, 23, 15, 20, 43, 44, 45, 46, 47, 48, 49, 50, 51, 52, 53, 54, 55, 56, 57, 58, 59, 60, 61, 62, 63, 64, 65, 66, 67, 68, 69, 70, 71, 72, 73, 74, 75, 76, 77, 78, 79, 80, 81, 82, 83, 84, 85, 86, 87, 88, 89, 90, 91, 92, 93, 94, 95, 96, 21, 97, 98, 99, 100, 101, 102, 103, 104, 105, 106, 107, 108, 109, 110, 111, 112, 113, 114, 115, 116, 117, 118, 119, 120, 121, 122, 123, 124, 125, 126, 127, 128, 129, 130, 131, 132, 133, 134, 135, 136, 137, 25, 138, 139, 140, 141, 154, 155, 156, 157, 158, 159, 160, 161, 162, 163, 164, 165, 169, 170, 171, 172, 173, 174, 175, 176, 177, 178, 179, 180, 181, 182, 183, 184, 185, 186, 187, 188, 189, 190, 191, 192, 193, 194, 195] (by decide +kernel) (by decide +kernel)
set_option maxRecDepth 20000 in
theorem gX6_pier_X6_joinPier : GoodIn wsX6_pier (wsV RX6 75 RX6 yX6_joinPier wsX6_joinPier) := goodIn_app (goodIn_of _ (by decide +kernel)) ggX6_pier_X6_joinPier
set_option maxRecDepth 20000 in
theorem ggX6_pier_X6_keepIfDone : GoodIn wsX6_pier wsX6_keepIfDone := goodIn_r _ [145, 1, 146, 147, 148, 6, 149, 9, 150, 151, 152, 79, 153, 154, 155, 156, 157, 158, 159, 160, 161, 162, 163, 164, 165, 166, 167, 168] (by decide +kernel) (by decide +kernel)
set_option maxRecDepth 20000 in
theorem gX6_pier_X6_keepIfDone : GoodIn wsX6_pier (wsV RX6 79 RX6 yX6_keepIfDone wsX6_keepIfDone) := goodIn_app (goodIn_of _ (by decide +kernel)) ggX6_pier_X6_keepIfDone
theorem dX6_pier_0 : decode cX6_pier 0 = .ok (.aload_n 0, 1) := by decide +kernel
theorem dX6_pier_1 : decode cX6_pier 1 = .ok (.getfield 39, 3) := by decide +kernel
theorem dX6_pier_4 : decode cX6_pier 4 = .ok (.aload_n 0, 1) := by decide +kernel
theorem dX6_pier_5 : decode cX6_pier 5 = .ok (.getfield 12, 3) := by decide +kernel
theorem dX6_pier_8 : decode cX6_pier 8 = .ok (.invokevirtual 71, 3) := by decide +kernel
theorem dX6_pier_11 : decode cX6_pier 11 = .ok (.aload_n 0, 1) := by decide +kernel
theorem dX6_pier_12 : decode cX6_pier 12 = .ok (.aload_n 0, 1) := by decide +kernel
theorem dX6_pier_13 : decode cX6_pier 13 = .ok (.iload_n 1, 1) := by decide +kernel
theorem dX6_pier_14 : decode cX6_pier 14 = .ok (.invokevirtual 75, 3) := by decide +kernel
theorem dX6_pier_17 : decode cX6_pier 17 = .ok (.invokevirtual 79, 3) := by decide +kernel
theorem dX6_pier_20 : decode cX6_pier 20 = .ok (.ireturn, 1) := by decide +kernel
set_option maxRecDepth 20000 in
theorem ggX6_close_X2_draft : GoodIn wsX6_close wsX2_draft := goodIn_r _ [7, 8, 9, 10, 11, 12, 13, 14, 15, 16, 17, 18, 19, 20, 21, 22, 23, 24, 25, 26, 166, 167, 168, 169, 170, 171, 172, 173, 174, 175, 176] (by decide +kernel) (by decide +kernel)
set_option maxRecDepth 20000 in
theorem gX6_close_X2_draft : GoodIn wsX6_close (wsV RX6 71 RX2 yX2_draft wsX2_draft) := goodIn_app (goodIn_of _ (by decide +kernel)) ggX6_close_X2_draft
set_option maxRecDepth 20000 in
theorem ggX6_close_X6_setOpened : GoodIn wsX6_close wsX6_setOpened := goodIn_r _ [31, 2, 32, 33, 34, 35, 13, 36, 23, 37, 38, 39, 30, 40, 41, 42, 43, 44, 45, 46, 47, 48, 49, 50, 51, 52, 53, 54, 55, 56, 57, 58, 59, 60, 61, 62, 63, 64, 65, 66, 67, 68, 69, 20, 15, 70, 71, 72, 73, 74, 75, 76, 77, 78, 79, 80, 81, 82, 83, 84, 85, 86, 87, 88, 89, 90, 91, 92, 93, 94, 95, 96, 21, 97, 98, 99, 100, 101, 102, 103, 104, 105, 106, 107, 108, 109, 110, 111, 112, 113, 114, 115, 116, 117, 118, 119, 120, 121, 122, 123, 124, 125, 126, 127, 128, 129, 130, 131, 132, 133, 134, 135, 136, 137, 25, 138, 139, 140, 141, 154, 155, 156, 157, 158, 159, 160, 161, 162, 163, 164, 165, 169, 170, 171, 172, 173, 174, 175, 176, 177, 178, 179, 180, 181, 182, 183, 184, 185, 186, 187, 188, 189, 190, 191, 192, 193, 194, 195] (by decide +kernel) (by decide +kernel)
set_option maxRecDepth 20000 in
theorem gX6_close_X6_setOpened : GoodIn wsX6_close (wsV RX6 82 RX6 yX6_setOpened wsX6_setOpened) := goodIn_app (goodIn_of _ (by decide +kernel)) ggX6_close_X6_setOpened
set_option maxRecDepth 20000 in
theorem ggX6_close_X6_keepIfDone : GoodIn wsX6_close wsX6_keepIfDone := goodIn_r _ [145, 1, 146, 147, 148, 6, 149, 9, 150, 151, 152, 79, 153, 154, 155, 156, 157, 158, 159, 160, 161, 162, 163, 164, 165, 166, 167, 168] (by decide +kernel) (by decide +kernel)
set_option maxRecDepth 20000 in
theorem gX6_close_X6_keepIfDone : GoodIn wsX6_close (wsV RX6 79 RX6 yX6_keepIfDone wsX6_keepIfDone) := goodIn_app (goodIn_of _ (by decide +kernel)) ggX6_close_X6_keepIfDone
theorem dX6_close_0 : decode cX6_close 0 = .ok (.aload_n 0, 1) := by decide +kernel
theorem dX6_close_1 : decode cX6_close 1 = .ok (.getfield 39, 3) := by decide +kernel
theorem dX6_close_4 : decode cX6_close 4 = .ok (.aload_n 0, 1) := by decide +kernel
theorem dX6_close_5 : decode cX6_close 5 = .ok (.getfield 12, 3) := by decide +kernel
theorem dX6_close_8 : decode cX6_close 8 = .ok (.invokevirtual 71, 3) := by decide +kernel
theorem dX6_close_11 : decode cX6_close 11 = .ok (.aload_n 0, 1) := by decide +kernel
theorem dX6_close_12 : decode cX6_close 12 = .ok (.aload_n 0, 1) := by decide +kernel
theorem dX6_close_13 : decode cX6_close 13 = .ok (.iload_n 1, 1) := by decide +kernel
theorem dX6_close_14 : decode cX6_close 14 = .ok (.iconst 0, 1) := by decide +kernel
theorem dX6_close_15 : decode cX6_close 15 = .ok (.invokevirtual 82, 3) := by decide +kernel
theorem dX6_close_18 : decode cX6_close 18 = .ok (.invokevirtual 79, 3) := by decide +kernel
theorem dX6_close_21 : decode cX6_close 21 = .ok (.ireturn, 1) := by decide +kernel
set_option maxRecDepth 20000 in
theorem ggX6_open_X2_draft : GoodIn wsX6_open wsX2_draft := goodIn_r _ [7, 8, 9, 10, 11, 12, 13, 14, 15, 16, 17, 18, 19, 20, 21, 22, 23, 24, 25, 26, 166, 167, 168, 169, 170, 171, 172, 173, 174, 175, 176] (by decide +kernel) (by decide +kernel)
set_option maxRecDepth 20000 in
theorem gX6_open_X2_draft : GoodIn wsX6_open (wsV RX6 71 RX2 yX2_draft wsX2_draft) := goodIn_app (goodIn_of _ (by decide +kernel)) ggX6_open_X2_draft
set_option maxRecDepth 20000 in
theorem ggX6_open_X6_setOpened : GoodIn wsX6_open wsX6_setOpened := goodIn_r _ [31, 2, 32, 33, 34, 35, 13, 36, 23, 37, 38, 39, 30, 40, 41, 42, 43, 44, 45, 46, 47, 48, 49, 50, 51, 52, 53, 54, 55, 56, 57, 58, 59, 60, 61, 62, 63, 64, 65, 66, 67, 68, 69, 20, 15, 70, 71, 72, 73, 74, 75, 76, 77, 78, 79, 80, 81, 82, 83, 84, 85, 86, 87, 88, 89, 90, 91, 92, 93, 94, 95, 96, 21, 97, 98, 99, 100, 101, 102, 103, 104, 105, 106, 107, 108, 109, 110, 111, 112, 113, 114, 115, 116, 117, 118, 119, 120, 121, 122, 123, 124, 125, 126, 127, 128, 129, 130, 131, 132, 133, 134, 135, 136, 137, 25, 138, 139, 140, 141, 154, 155, 156, 157, 158, 159, 160, 161, 162, 163, 164, 165, 169, 170, 171, 172, 173, 174, 175, 176, 177, 178, 179, 180, 181, 182, 183, 184, 185, 186, 187, 188, 189, 190, 191, 192, 193, 194, 195] (by decide +kernel) (by decide +kernel)
set_option maxRecDepth 20000 in
theorem gX6_open_X6_setOpened : GoodIn wsX6_open (wsV RX6 82 RX6 yX6_setOpened wsX6_setOpened) := goodIn_app (goodIn_of _ (by decide +kernel)) ggX6_open_X6_setOpened
set_option maxRecDepth 20000 in
theorem ggX6_open_X6_keepIfDone : GoodIn wsX6_open wsX6_keepIfDone := goodIn_r _ [145, 1, 146, 147, 148, 6, 149, 9, 150, 151, 152, 79, 153, 154, 155, 156, 157, 158, 159, 160, 161, 162, 163, 164, 165, 166, 167, 168] (by decide +kernel) (by decide +kernel)
set_option maxRecDepth 20000 in
theorem gX6_open_X6_keepIfDone : GoodIn wsX6_open (wsV RX6 79 RX6 yX6_keepIfDone wsX6_keepIfDone) := goodIn_app (goodIn_of _ (by decide +kernel)) ggX6_open_X6_keepIfDone
theorem dX6_open_0 : decode cX6_open 0 = .ok (.aload_n 0, 1) := by decide +kernel
theorem dX6_open_1 : decode cX6_open 1 = .ok (.getfield 39, 3) := by decide +kernel
theorem dX6_open_4 : decode cX6_open 4 = .ok (.aload_n 0, 1) := by decide +kernel
theorem dX6_open_5 : decode cX6_open 5 = .ok (.getfield 12, 3) := by decide +kernel
theorem dX6_open_8 : decode cX6_open 8 = .ok (.invokevirtual 71, 3) := by decide +kernel
theorem dX6_open_11 : decode cX6_open 11 = .ok (.aload_n 0, 1) := by decide +kernel
theorem dX6_open_12 : decode cX6_open 12 = .ok (.aload_n 0, 1) := by decide +kernel
theorem dX6_open_13 : decode cX6_open 13 = .ok (.iload_n 1, 1) := by decide +kernel
theorem dX6_open_14 : decode cX6_open 14 = .ok (.iconst 1, 1) := by decide +kernel
theorem dX6_open_15 : decode cX6_open 15 = .ok (.invokevirtual 82, 3) := by decide +kernel
theorem dX6_open_18 : decode cX6_open 18 = .ok (.invokevirtual 79, 3) := by decide +kernel
theorem dX6_open_21 : decode cX6_open 21 = .ok (.ireturn, 1) := by decide +kernel
set_option maxRecDepth 20000 in
theorem ggX6_weigh_X2_draft : GoodIn wsX6_weigh wsX2_draft := goodIn_r _ [7, 8, 9, 10, 11, 12, 13, 14, 15, 16, 17, 18, 19, 20, 21, 22, 23, 24, 25, 26, 166, 167, 168, 169, 170, 171, 172, 173, 174, 175, 176] (by decide +kernel) (by decide +kernel)
set_option maxRecDepth 20000 in
theorem gX6_weigh_X2_draft : GoodIn wsX6_weigh (wsV RX6 71 RX2 yX2_draft wsX2_draft) := goodIn_app (goodIn_of _ (by decide +kernel)) ggX6_weigh_X2_draft
set_option maxRecDepth 20000 in
theorem ggX6_weigh_X6_setBerths : GoodIn wsX6_weigh wsX6_setBerths := goodIn_r _ [31, 2, 32, 33, 34, 35, 13, 36, 23, 37, 38, 39, 30, 40, 41, 42, 43, 44, 45, 46, 47, 48, 49, 50, 51, 52, 53, 54, 55, 56, 57, 58, 59, 60, 61, 62, 63, 64, 65, 66, 67, 68, 69, 20, 15, 70, 71, 72, 73, 74, 75, 76, 77, 78, 79, 80, 81, 82, 83, 84, 85, 86, 87, 88, 89, 90, 91, 92, 93, 94, 95, 96, 21, 97, 98, 99, 100, 101, 102, 103, 104, 105, 106, 107, 108, 109, 110, 111, 112, 113, 114, 115, 116, 117, 118, 119, 120, 121, 122, 123, 124, 125, 126, 127, 128, 129, 130, 131, 132, 133, 134, 135, 136, 137, 25, 138, 139, 140, 141, 154, 155, 156, 157, 158, 159, 160, 161, 162, 163, 164, 165, 169, 170, 171, 172, 173, 174, 175, 176, 177, 178, 179, 180, 181, 182, 183, 184, 185, 186, 187, 188, 189, 190, 191, 192, 193, 194, 195] (by decide +kernel) (by decide +kernel)
set_option maxRecDepth 20000 in
theorem gX6_weigh_X6_setBerths : GoodIn wsX6_weigh (wsV RX6 86 RX6 yX6_setBerths wsX6_setBerths) := goodIn_app (goodIn_of _ (by decide +kernel)) ggX6_weigh_X6_setBerths
set_option maxRecDepth 20000 in
theorem ggX6_weigh_X6_keepIfDone : GoodIn wsX6_weigh wsX6_keepIfDone := goodIn_r _ [145, 1, 146, 147, 148, 6, 149, 9, 150, 151, 152, 79, 153, 154, 155, 156, 157, 158, 159, 160, 161, 162, 163, 164, 165, 166, 167, 168] (by decide +kernel) (by decide +kernel)
set_option maxRecDepth 20000 in
theorem gX6_weigh_X6_keepIfDone : GoodIn wsX6_weigh (wsV RX6 79 RX6 yX6_keepIfDone wsX6_keepIfDone) := goodIn_app (goodIn_of _ (by decide +kernel)) ggX6_weigh_X6_keepIfDone
theorem dX6_weigh_0 : decode cX6_weigh 0 = .ok (.aload_n 0, 1) := by decide +kernel
theorem dX6_weigh_1 : decode cX6_weigh 1 = .ok (.getfield 39, 3) := by decide +kernel
theorem dX6_weigh_4 : decode cX6_weigh 4 = .ok (.aload_n 0, 1) := by decide +kernel
theorem dX6_weigh_5 : decode cX6_weigh 5 = .ok (.getfield 12, 3) := by decide +kernel
theorem dX6_weigh_8 : decode cX6_weigh 8 = .ok (.invokevirtual 71, 3) := by decide +kernel
theorem dX6_weigh_11 : decode cX6_weigh 11 = .ok (.aload_n 0, 1) := by decide +kernel
theorem dX6_weigh_12 : decode cX6_weigh 12 = .ok (.aload_n 0, 1) := by decide +kernel
theorem dX6_weigh_13 : decode cX6_weigh 13 = .ok (.iload_n 1, 1) := by decide +kernel
theorem dX6_weigh_14 : decode cX6_weigh 14 = .ok (.iload_n 2, 1) := by decide +kernel
theorem dX6_weigh_15 : decode cX6_weigh 15 = .ok (.invokevirtual 86, 3) := by decide +kernel
theorem dX6_weigh_18 : decode cX6_weigh 18 = .ok (.invokevirtual 79, 3) := by decide +kernel
theorem dX6_weigh_21 : decode cX6_weigh 21 = .ok (.ireturn, 1) := by decide +kernel
set_option maxRecDepth 20000 in
theorem ggX6_berth_X2_draft : GoodIn wsX6_berth wsX2_draft := goodIn_r _ [7, 8, 9, 10, 11, 12, 13, 14, 15, 16, 17, 18, 19, 20, 21, 22, 23, 24, 25, 26, 128, 129, 130, 131, 132, 133, 134, 135, 136, 137, 138] (by decide +kernel) (by decide +kernel)
set_option maxRecDepth 20000 in
theorem gX6_berth_X2_draft : GoodIn wsX6_berth (wsV RX6 71 RX2 yX2_draft wsX2_draft) := goodIn_app (goodIn_of _ (by decide +kernel)) ggX6_berth_X2_draft
set_option maxRecDepth 20000 in
theorem ggX6_berth_X6_setBerthTons : GoodIn wsX6_berth wsX6_setBerthTons := goodIn_r _ [31, 2, 32, 33, 34, 35, 36, 37, 30, 38, 39, 40, 41, 42, 43, 44, 45, 46, 47, 48, 49, 50, 51, 52, 53, 54, 55, 56, 57, 58, 59, 60, 61, 13, 62, 21, 63, 64, 65, 66, 67, 68, 69, 70, 71, 72, 73, 74, 75, 76, 77, 78, 79, 80, 81, 82, 83, 84, 85, 86, 87, 88, 89, 90, 91, 92, 93, 94, 95, 96, 97, 98, 20, 15, 25, 99, 100, 101, 102, 116, 117, 118, 119, 120, 121, 122, 123, 124, 125, 126, 127, 131, 132, 133, 134, 135, 136, 137, 138, 139, 140, 141, 142, 143, 144, 145, 146, 147, 148, 149, 150, 151, 152, 153, 154, 155, 156, 157] (by decide +kernel) (by decide +kernel)
set_option maxRecDepth 20000 in
theorem gX6_berth_X6_setBerthTons : GoodIn wsX6_berth (wsV RX6 90 RX6 yX6_setBerthTons wsX6_setBerthTons) := goodIn_app (goodIn_of _ (by decide +kernel)) ggX6_berth_X6_setBerthTons
set_option maxRecDepth 20000 in
theorem ggX6_berth_X6_keepIfDone : GoodIn wsX6_berth wsX6_keepIfDone := goodIn_r _ [106, 1, 107, 108, 109, 6, 110, 9, 111, 112, 113, 114, 115, 116, 117, 118, 119, 120, 121, 122, 123, 124, 125, 126, 127, 128, 129, 130] (by decide +kernel) (by decide +kernel)
set_option maxRecDepth 20000 in
theorem gX6_berth_X6_keepIfDone : GoodIn wsX6_berth (wsV RX6 79 RX6 yX6_keepIfDone wsX6_keepIfDone) := goodIn_app (goodIn_of _ (by decide +kernel)) ggX6_berth_X6_keepIfDone
theorem dX6_berth_0 : decode cX6_berth 0 = .ok (.aload_n 0, 1) := by decide +kernel
theorem dX6_berth_1 : decode cX6_berth 1 = .ok (.getfield 39, 3) := by decide +kernel
theorem dX6_berth_4 : decode cX6_berth 4 = .ok (.aload_n 0, 1) := by decide +kernel
theorem dX6_berth_5 : decode cX6_berth 5 = .ok (.getfield 12, 3) := by decide +kernel
theorem dX6_berth_8 : decode cX6_berth 8 = .ok (.invokevirtual 71, 3) := by decide +kernel
theorem dX6_berth_11 : decode cX6_berth 11 = .ok (.aload_n 0, 1) := by decide +kernel
theorem dX6_berth_12 : decode cX6_berth 12 = .ok (.aload_n 0, 1) := by decide +kernel
theorem dX6_berth_13 : decode cX6_berth 13 = .ok (.iload_n 1, 1) := by decide +kernel
theorem dX6_berth_14 : decode cX6_berth 14 = .ok (.invokevirtual 90, 3) := by decide +kernel
theorem dX6_berth_17 : decode cX6_berth 17 = .ok (.invokevirtual 79, 3) := by decide +kernel
theorem dX6_berth_20 : decode cX6_berth 20 = .ok (.ireturn, 1) := by decide +kernel
set_option maxRecDepth 20000 in
theorem ggX6_pierOf_X1_hasPier : GoodIn wsX6_pierOf wsX1_hasPier := goodIn_r _ [14, 15, 61, 62, 63, 64, 65, 66, 67, 68] (by decide +kernel) (by decide +kernel)
set_option maxRecDepth 20000 in
theorem gX6_pierOf_X1_hasPier : GoodIn wsX6_pierOf (wsV RX6 93 RX1 yX1_hasPier wsX1_hasPier) := goodIn_app (goodIn_of _ (by decide +kernel)) ggX6_pierOf_X1_hasPier
set_option maxRecDepth 20000 in
theorem ggX6_pierOf_X1_pointsOf : GoodIn wsX6_pierOf wsX1_pointsOf := goodIn_r _ [19, 20, 21, 61, 62, 63, 64, 65, 66, 67, 68] (by decide +kernel) (by decide +kernel)
set_option maxRecDepth 20000 in
theorem gX6_pierOf_X1_pointsOf : GoodIn wsX6_pierOf (wsV RX6 105 RX1 yX1_pointsOf wsX1_pointsOf) := goodIn_app (goodIn_of _ (by decide +kernel)) ggX6_pierOf_X1_pointsOf
set_option maxRecDepth 20000 in
theorem ggX6_pierOf_X0_stretchOf : GoodIn wsX6_pierOf wsX0_stretchOf := goodIn_r _ [26, 27, 28, 29, 30, 31, 32, 33, 34, 78, 79, 80, 81, 82, 83, 84, 85, 86, 87] (by decide +kernel) (by decide +kernel)
set_option maxRecDepth 20000 in
theorem gX6_pierOf_X0_stretchOf : GoodIn wsX6_pierOf (wsV RX6 108 RX0 yX0_stretchOf wsX0_stretchOf) := goodIn_app (goodIn_of _ (by decide +kernel)) ggX6_pierOf_X0_stretchOf
set_option maxRecDepth 20000 in
theorem ggX6_pierOf_X1_roomOf : GoodIn wsX6_pierOf wsX1_roomOf := goodIn_r _ [38, 20, 21, 39, 61, 62, 63, 64, 65, 66, 67, 68] (by decide +kernel) (by decide +kernel)
set_option maxRecDepth 20000 in
theorem gX6_pierOf_X1_roomOf : GoodIn wsX6_pierOf (wsV RX6 123 RX1 yX1_roomOf wsX1_roomOf) := goodIn_app (goodIn_of _ (by decide +kernel)) ggX6_pierOf_X1_roomOf
set_option maxRecDepth 20000 in
theorem ggX6_pierOf_X6_isHot : GoodIn wsX6_pierOf wsX6_isHot := goodIn_r _ [44, 45, 46, 47, 43, 48, 5, 7, 1, 35, 36, 37, 13, 38, 20, 21, 39, 49, 50, 51, 52, 53, 54, 55, 56, 57, 58, 59, 60, 69, 70, 71, 72, 73, 74, 75, 76, 77, 61, 62, 63, 64, 65, 66, 67, 68] (by decide +kernel) (by decide +kernel)
set_option maxRecDepth 20000 in
theorem gX6_pierOf_X6_isHot : GoodIn wsX6_pierOf (wsV RX6 126 RX6 yX6_isHot wsX6_isHot) := goodIn_app (goodIn_of _ (by decide +kernel)) ggX6_pierOf_X6_isHot
theorem dX6_pierOf_0 : decode cX6_pierOf 0 = .ok (.aload_n 0, 1) := by decide +kernel
theorem dX6_pierOf_1 : decode cX6_pierOf 1 = .ok (.getfield 12, 3) := by decide +kernel
theorem dX6_pierOf_4 : decode cX6_pierOf 4 = .ok (.iload_n 1, 1) := by decide +kernel
theorem dX6_pierOf_5 : decode cX6_pierOf 5 = .ok (.invokevirtual 93, 3) := by decide +kernel
theorem dX6_pierOf_8 : decode cX6_pierOf 8 = .ok (.ifCond .ne 6, 3) := by decide +kernel
theorem dX6_pierOf_11 : decode cX6_pierOf 11 = .ok (.bipush (-11), 2) := by decide +kernel
theorem dX6_pierOf_13 : decode cX6_pierOf 13 = .ok (.ireturn, 1) := by decide +kernel
theorem dX6_pierOf_14 : decode cX6_pierOf 14 = .ok (.iload_n 2, 1) := by decide +kernel
theorem dX6_pierOf_15 : decode cX6_pierOf 15 = .ok (.tableswitch 162 0 9 #[53, 63, 81, 90, 99, 109, 119, 129, 139, 148], 53) := by decide +kernel
theorem dX6_pierOf_68 : decode cX6_pierOf 68 = .ok (.aload_n 0, 1) := by decide +kernel
theorem dX6_pierOf_69 : decode cX6_pierOf 69 = .ok (.getfield 12, 3) := by decide +kernel
theorem dX6_pierOf_72 : decode cX6_pierOf 72 = .ok (.getfield 97, 3) := by decide +kernel
theorem dX6_pierOf_75 : decode cX6_pierOf 75 = .ok (.iload_n 1, 1) := by decide +kernel
theorem dX6_pierOf_76 : decode cX6_pierOf 76 = .ok (.iaload, 1) := by decide +kernel
theorem dX6_pierOf_77 : decode cX6_pierOf 77 = .ok (.ireturn, 1) := by decide +kernel
theorem dX6_pierOf_78 : decode cX6_pierOf 78 = .ok (.aload_n 0, 1) := by decide +kernel
theorem dX6_pierOf_79 : decode cX6_pierOf 79 = .ok (.getfield 12, 3) := by decide +kernel
theorem dX6_pierOf_82 : decode cX6_pierOf 82 = .ok (.getfield 101, 3) := by decide +kernel
theorem dX6_pierOf_85 : decode cX6_pierOf 85 = .ok (.iload_n 1, 1) := by decide +kernel
theorem dX6_pierOf_86 : decode cX6_pierOf 86 = .ok (.baload, 1) := by decide +kernel
theorem dX6_pierOf_87 : decode cX6_pierOf 87 = .ok (.ifCond .eq 7, 3) := by decide +kernel
theorem dX6_pierOf_90 : decode cX6_pierOf 90 = .ok (.iconst 1, 1) := by decide +kernel
theorem dX6_pierOf_91 : decode cX6_pierOf 91 = .ok (.goto 4, 3) := by decide +kernel
theorem dX6_pierOf_94 : decode cX6_pierOf 94 = .ok (.iconst 0, 1) := by decide +kernel
theorem dX6_pierOf_95 : decode cX6_pierOf 95 = .ok (.ireturn, 1) := by decide +kernel
theorem dX6_pierOf_96 : decode cX6_pierOf 96 = .ok (.aload_n 0, 1) := by decide +kernel
theorem dX6_pierOf_97 : decode cX6_pierOf 97 = .ok (.getfield 12, 3) := by decide +kernel
theorem dX6_pierOf_100 : decode cX6_pierOf 100 = .ok (.iload_n 1, 1) := by decide +kernel
theorem dX6_pierOf_101 : decode cX6_pierOf 101 = .ok (.invokevirtual 105, 3) := by decide +kernel
theorem dX6_pierOf_104 : decode cX6_pierOf 104 = .ok (.ireturn, 1) := by decide +kernel
theorem dX6_pierOf_105 : decode cX6_pierOf 105 = .ok (.aload_n 0, 1) := by decide +kernel
theorem dX6_pierOf_106 : decode cX6_pierOf 106 = .ok (.getfield 19, 3) := by decide +kernel
theorem dX6_pierOf_109 : decode cX6_pierOf 109 = .ok (.iload_n 1, 1) := by decide +kernel
theorem dX6_pierOf_110 : decode cX6_pierOf 110 = .ok (.invokevirtual 108, 3) := by decide +kernel
theorem dX6_pierOf_113 : decode cX6_pierOf 113 = .ok (.ireturn, 1) := by decide +kernel
theorem dX6_pierOf_114 : decode cX6_pierOf 114 = .ok (.aload_n 0, 1) := by decide +kernel
theorem dX6_pierOf_115 : decode cX6_pierOf 115 = .ok (.getfield 26, 3) := by decide +kernel
theorem dX6_pierOf_118 : decode cX6_pierOf 118 = .ok (.getfield 111, 3) := by decide +kernel
theorem dX6_pierOf_121 : decode cX6_pierOf 121 = .ok (.iload_n 1, 1) := by decide +kernel
theorem dX6_pierOf_122 : decode cX6_pierOf 122 = .ok (.iaload, 1) := by decide +kernel
theorem dX6_pierOf_123 : decode cX6_pierOf 123 = .ok (.ireturn, 1) := by decide +kernel
theorem dX6_pierOf_124 : decode cX6_pierOf 124 = .ok (.aload_n 0, 1) := by decide +kernel
theorem dX6_pierOf_125 : decode cX6_pierOf 125 = .ok (.getfield 26, 3) := by decide +kernel
theorem dX6_pierOf_128 : decode cX6_pierOf 128 = .ok (.getfield 114, 3) := by decide +kernel
theorem dX6_pierOf_131 : decode cX6_pierOf 131 = .ok (.iload_n 1, 1) := by decide +kernel
theorem dX6_pierOf_132 : decode cX6_pierOf 132 = .ok (.iaload, 1) := by decide +kernel
theorem dX6_pierOf_133 : decode cX6_pierOf 133 = .ok (.ireturn, 1) := by decide +kernel
theorem dX6_pierOf_134 : decode cX6_pierOf 134 = .ok (.aload_n 0, 1) := by decide +kernel
theorem dX6_pierOf_135 : decode cX6_pierOf 135 = .ok (.getfield 26, 3) := by decide +kernel
theorem dX6_pierOf_138 : decode cX6_pierOf 138 = .ok (.getfield 117, 3) := by decide +kernel
theorem dX6_pierOf_141 : decode cX6_pierOf 141 = .ok (.iload_n 1, 1) := by decide +kernel
theorem dX6_pierOf_142 : decode cX6_pierOf 142 = .ok (.iaload, 1) := by decide +kernel
theorem dX6_pierOf_143 : decode cX6_pierOf 143 = .ok (.ireturn, 1) := by decide +kernel
theorem dX6_pierOf_144 : decode cX6_pierOf 144 = .ok (.aload_n 0, 1) := by decide +kernel
theorem dX6_pierOf_145 : decode cX6_pierOf 145 = .ok (.getfield 26, 3) := by decide +kernel
theorem dX6_pierOf_148 : decode cX6_pierOf 148 = .ok (.getfield 120, 3) := by decide +kernel
theorem dX6_pierOf_151 : decode cX6_pierOf 151 = .ok (.iload_n 1, 1) := by decide +kernel
theorem dX6_pierOf_152 : decode cX6_pierOf 152 = .ok (.iaload, 1) := by decide +kernel
theorem dX6_pierOf_153 : decode cX6_pierOf 153 = .ok (.ireturn, 1) := by decide +kernel
theorem dX6_pierOf_154 : decode cX6_pierOf 154 = .ok (.aload_n 0, 1) := by decide +kernel
theorem dX6_pierOf_155 : decode cX6_pierOf 155 = .ok (.getfield 12, 3) := by decide +kernel
theorem dX6_pierOf_158 : decode cX6_pierOf 158 = .ok (.iload_n 1, 1) := by decide +kernel
theorem dX6_pierOf_159 : decode cX6_pierOf 159 = .ok (.invokevirtual 123, 3) := by decide +kernel
theorem dX6_pierOf_162 : decode cX6_pierOf 162 = .ok (.ireturn, 1) := by decide +kernel
theorem dX6_pierOf_163 : decode cX6_pierOf 163 = .ok (.aload_n 0, 1) := by decide +kernel
theorem dX6_pierOf_164 : decode cX6_pierOf 164 = .ok (.iload_n 1, 1) := by decide +kernel
theorem dX6_pierOf_165 : decode cX6_pierOf 165 = .ok (.invokevirtual 126, 3) := by decide +kernel
theorem dX6_pierOf_168 : decode cX6_pierOf 168 = .ok (.ifCond .eq 7, 3) := by decide +kernel
theorem dX6_pierOf_171 : decode cX6_pierOf 171 = .ok (.iconst 1, 1) := by decide +kernel
theorem dX6_pierOf_172 : decode cX6_pierOf 172 = .ok (.goto 4, 3) := by decide +kernel
theorem dX6_pierOf_175 : decode cX6_pierOf 175 = .ok (.iconst 0, 1) := by decide +kernel
theorem dX6_pierOf_176 : decode cX6_pierOf 176 = .ok (.ireturn, 1) := by decide +kernel
theorem dX6_pierOf_177 : decode cX6_pierOf 177 = .ok (.bipush (-12), 2) := by decide +kernel
theorem dX6_pierOf_179 : decode cX6_pierOf 179 = .ok (.ireturn, 1) := by decide +kernel
set_option maxRecDepth 20000 in
theorem ggX6_barge_X2_draft : GoodIn wsX6_barge wsX2_draft := goodIn_r _ [7, 8, 9, 10, 11, 12, 13, 14, 15, 16, 17, 18, 19, 20, 21, 22, 23, 24, 25, 26, 136, 137, 138, 139, 140, 141, 142, 143, 144, 145, 146] (by decide +kernel) (by decide +kernel)
set_option maxRecDepth 20000 in
theorem gX6_barge_X2_draft : GoodIn wsX6_barge (wsV RX6 71 RX2 yX2_draft wsX2_draft) := goodIn_app (goodIn_of _ (by decide +kernel)) ggX6_barge_X2_draft
set_option maxRecDepth 20000 in
theorem ggX6_barge_X6_letCome : GoodIn wsX6_barge wsX6_letCome := goodIn_r _ [31, 2, 32, 33, 34, 35, 36, 37, 13, 38, 24, 21, 39, 40, 41, 30, 42, 43, 44, 45, 46, 47, 48, 22, 49, 50, 51, 52, 53, 54, 55, 56, 57, 58, 59, 60, 61, 62, 63, 64, 65, 66, 67, 68, 69, 70, 71, 72, 73, 74, 75, 76, 77, 78, 79, 80, 81, 82, 83, 84, 85, 86, 87, 88, 89, 90, 91, 92, 93, 94, 95, 96, 97, 98, 99, 100, 101, 102, 103, 104, 105, 106, 20, 15, 25, 107, 108, 109, 110, 124, 125, 126, 127, 128, 129, 130, 131, 132, 133, 134, 135, 139, 140, 141, 142, 143, 144, 145, 146, 147, 148, 149, 150, 151, 152, 153, 154, 155, 156, 157, 158, 159, 160, 161, 162, 163, 164, 165] (by decide +kernel) (by decide +kernel)
set_option maxRecDepth 20000 in
theorem gX6_barge_X6_letCome : GoodIn wsX6_barge (wsV RX6 132 RX6 yX6_letCome wsX6_letCome) := goodIn_app (goodIn_of _ (by decide +kernel)) ggX6_barge_X6_letCome
set_option maxRecDepth 20000 in
theorem ggX6_barge_X6_keepIfDone : GoodIn wsX6_barge wsX6_keepIfDone := goodIn_r _ [114, 1, 115, 116, 117, 6, 118, 9, 119, 120, 121, 122, 123, 124, 125, 126, 127, 128, 129, 130, 131, 132, 133, 134, 135, 136, 137, 138] (by decide +kernel) (by decide +kernel)
set_option maxRecDepth 20000 in
theorem gX6_barge_X6_keepIfDone : GoodIn wsX6_barge (wsV RX6 79 RX6 yX6_keepIfDone wsX6_keepIfDone) := goodIn_app (goodIn_of _ (by decide +kernel)) ggX6_barge_X6_keepIfDone
theorem dX6_barge_0 : decode cX6_barge 0 = .ok (.aload_n 0, 1) := by decide +kernel
theorem dX6_barge_1 : decode cX6_barge 1 = .ok (.getfield 39, 3) := by decide +kernel
theorem dX6_barge_4 : decode cX6_barge 4 = .ok (.aload_n 0, 1) := by decide +kernel
theorem dX6_barge_5 : decode cX6_barge 5 = .ok (.getfield 12, 3) := by decide +kernel
theorem dX6_barge_8 : decode cX6_barge 8 = .ok (.invokevirtual 71, 3) := by decide +kernel
theorem dX6_barge_11 : decode cX6_barge 11 = .ok (.aload_n 0, 1) := by decide +kernel
theorem dX6_barge_12 : decode cX6_barge 12 = .ok (.aload_n 0, 1) := by decide +kernel
theorem dX6_barge_13 : decode cX6_barge 13 = .ok (.iload_n 1, 1) := by decide +kernel
theorem dX6_barge_14 : decode cX6_barge 14 = .ok (.iload_n 2, 1) := by decide +kernel
theorem dX6_barge_15 : decode cX6_barge 15 = .ok (.invokevirtual 132, 3) := by decide +kernel
theorem dX6_barge_18 : decode cX6_barge 18 = .ok (.invokevirtual 79, 3) := by decide +kernel
theorem dX6_barge_21 : decode cX6_barge 21 = .ok (.ireturn, 1) := by decide +kernel
set_option maxRecDepth 20000 in
theorem ggX6_leave_X2_draft : GoodIn wsX6_leave wsX2_draft := goodIn_r _ [7, 8, 9, 10, 11, 12, 13, 14, 15, 16, 17, 18, 19, 20, 21, 22, 23, 24, 25, 26, 131, 132, 133, 134, 135, 136, 137, 138, 139, 140, 141] (by decide +kernel) (by decide +kernel)
set_option maxRecDepth 20000 in
theorem gX6_leave_X2_draft : GoodIn wsX6_leave (wsV RX6 71 RX2 yX2_draft wsX2_draft) := goodIn_app (goodIn_of _ (by decide +kernel)) ggX6_leave_X2_draft
set_option maxRecDepth 20000 in
theorem ggX6_leave_X6_letGo : GoodIn wsX6_leave wsX6_letGo := goodIn_r _ [31, 2, 32, 33, 34, 35, 36, 37, 13, 38, 24, 39, 40, 41, 42, 21, 16, 17, 18, 19, 22, 43, 44, 45, 46, 47, 48, 49, 50, 51, 52, 53, 54, 55, 56, 57, 58, 59, 60, 61, 62, 63, 64, 65, 66, 67, 68, 69, 70, 71, 72, 73, 74, 75, 76, 77, 78, 79, 80, 81, 82, 83, 84, 85, 86, 87, 88, 89, 90, 91, 92, 93, 94, 95, 96, 97, 98, 99, 100, 101, 20, 15, 25, 102, 103, 104, 105, 119, 120, 121, 122, 123, 124, 125, 126, 127, 128, 129, 130, 134, 135, 136, 137, 138, 139, 140, 141, 142, 143, 144, 145, 146, 147, 148, 149, 150, 151, 152, 153, 154, 155, 156, 157, 158, 159, 160] (by decide +kernel) (by decide +kernel)
set_option maxRecDepth 20000 in
theorem gX6_leave_X6_letGo : GoodIn wsX6_leave (wsV RX6 135 RX6 yX6_letGo wsX6_letGo) := goodIn_app (goodIn_of _ (by decide +kernel)) ggX6_leave_X6_letGo
set_option maxRecDepth 20000 in
theorem ggX6_leave_X6_keepIfDone : GoodIn wsX6_leave wsX6_keepIfDone := goodIn_r _ [109, 1, 110, 111, 112, 6, 113, 9, 114, 115, 116, 117, 118, 119, 120, 121, 122, 123, 124, 125, 126, 127, 128, 129, 130, 131, 132, 133] (by decide +kernel) (by decide +kernel)
set_option maxRecDepth 20000 in
theorem gX6_leave_X6_keepIfDone : GoodIn wsX6_leave (wsV RX6 79 RX6 yX6_keepIfDone wsX6_keepIfDone) := goodIn_app (goodIn_of _ (by decide +kernel)) ggX6_leave_X6_keepIfDone
theorem dX6_leave_0 : decode cX6_leave 0 = .ok (.aload_n 0, 1) := by decide +kernel
theorem dX6_leave_1 : decode cX6_leave 1 = .ok (.getfield 39, 3) := by decide +kernel
theorem dX6_leave_4 : decode cX6_leave 4 = .ok (.aload_n 0, 1) := by decide +kernel
theorem dX6_leave_5 : decode cX6_leave 5 = .ok (.getfield 12, 3) := by decide +kernel
theorem dX6_leave_8 : decode cX6_leave 8 = .ok (.invokevirtual 71, 3) := by decide +kernel
theorem dX6_leave_11 : decode cX6_leave 11 = .ok (.aload_n 0, 1) := by decide +kernel
theorem dX6_leave_12 : decode cX6_leave 12 = .ok (.aload_n 0, 1) := by decide +kernel
theorem dX6_leave_13 : decode cX6_leave 13 = .ok (.iload_n 1, 1) := by decide +kernel
theorem dX6_leave_14 : decode cX6_leave 14 = .ok (.invokevirtual 135, 3) := by decide +kernel
theorem dX6_leave_17 : decode cX6_leave 17 = .ok (.invokevirtual 79, 3) := by decide +kernel
theorem dX6_leave_20 : decode cX6_leave 20 = .ok (.ireturn, 1) := by decide +kernel
set_option maxRecDepth 20000 in
theorem ggX6_load_X2_draft : GoodIn wsX6_load wsX2_draft := goodIn_r _ [7, 8, 9, 10, 11, 12, 13, 14, 15, 16, 17, 18, 19, 20, 21, 22, 23, 24, 25, 26, 132, 133, 134, 135, 136, 137, 138, 139, 140, 141, 142] (by decide +kernel) (by decide +kernel)
set_option maxRecDepth 20000 in
theorem gX6_load_X2_draft : GoodIn wsX6_load (wsV RX6 71 RX2 yX2_draft wsX2_draft) := goodIn_app (goodIn_of _ (by decide +kernel)) ggX6_load_X2_draft
set_option maxRecDepth 20000 in
theorem ggX6_load_X6_setTons : GoodIn wsX6_load wsX6_setTons := goodIn_r _ [31, 2, 32, 33, 34, 35, 36, 37, 13, 38, 24, 39, 40, 41, 30, 42, 43, 44, 45, 46, 47, 48, 49, 50, 51, 52, 53, 54, 55, 56, 57, 58, 59, 60, 61, 62, 63, 64, 65, 66, 21, 67, 68, 69, 70, 71, 72, 73, 74, 75, 76, 77, 78, 79, 80, 81, 82, 83, 84, 85, 86, 87, 88, 89, 90, 91, 92, 93, 94, 95, 96, 97, 98, 99, 100, 101, 102, 20, 15, 25, 103, 104, 105, 106, 120, 121, 122, 123, 124, 125, 126, 127, 128, 129, 130, 131, 135, 136, 137, 138, 139, 140, 141, 142, 143, 144, 145, 146, 147, 148, 149, 150, 151, 152, 153, 154, 155, 156, 157, 158, 159, 160, 161] (by decide +kernel) (by decide +kernel)
set_option maxRecDepth 20000 in
theorem gX6_load_X6_setTons : GoodIn wsX6_load (wsV RX6 138 RX6 yX6_setTons wsX6_setTons) := goodIn_app (goodIn_of _ (by decide +kernel)) ggX6_load_X6_setTons
set_option maxRecDepth 20000 in
theorem ggX6_load_X6_keepIfDone : GoodIn wsX6_load wsX6_keepIfDone := goodIn_r _ [110, 1, 111, 112, 113, 6, 114, 9, 115, 116, 117, 118, 119, 120, 121, 122, 123, 124, 125, 126, 127, 128, 129, 130, 131, 132, 133, 134] (by decide +kernel) (by decide +kernel)
set_option maxRecDepth 20000 in
theorem gX6_load_X6_keepIfDone : GoodIn wsX6_load (wsV RX6 79 RX6 yX6_keepIfDone wsX6_keepIfDone) := goodIn_app (goodIn_of _ (by decide +kernel)) ggX6_load_X6_keepIfDone
theorem dX6_load_0 : decode cX6_load 0 = .ok (.aload_n 0, 1) := by decide +kernel
theorem dX6_load_1 : decode cX6_load 1 = .ok (.getfield 39, 3) := by decide +kernel
theorem dX6_load_4 : decode cX6_load 4 = .ok (.aload_n 0, 1) := by decide +kernel
theorem dX6_load_5 : decode cX6_load 5 = .ok (.getfield 12, 3) := by decide +kernel
theorem dX6_load_8 : decode cX6_load 8 = .ok (.invokevirtual 71, 3) := by decide +kernel
theorem dX6_load_11 : decode cX6_load 11 = .ok (.aload_n 0, 1) := by decide +kernel
theorem dX6_load_12 : decode cX6_load 12 = .ok (.aload_n 0, 1) := by decide +kernel
theorem dX6_load_13 : decode cX6_load 13 = .ok (.iload_n 1, 1) := by decide +kernel
theorem dX6_load_14 : decode cX6_load 14 = .ok (.iload_n 2, 1) := by decide +kernel
theorem dX6_load_15 : decode cX6_load 15 = .ok (.invokevirtual 138, 3) := by decide +kernel
theorem dX6_load_18 : decode cX6_load 18 = .ok (.invokevirtual 79, 3) := by decide +kernel
theorem dX6_load_21 : decode cX6_load 21 = .ok (.ireturn, 1) := by decide +kernel
set_option maxRecDepth 20000 in
theorem ggX6_bargeOf_X1_hasBarge : GoodIn wsX6_bargeOf wsX1_hasBarge := goodIn_r _ [11, 12, 30, 31, 32, 33, 34, 35, 36, 37] (by decide +kernel) (by decide +kernel)
set_option maxRecDepth 20000 in
theorem gX6_bargeOf_X1_hasBarge : GoodIn wsX6_bargeOf (wsV RX6 141 RX1 yX1_hasBarge wsX1_hasBarge) := goodIn_app (goodIn_of _ (by decide +kernel)) ggX6_bargeOf_X1_hasBarge
set_option maxRecDepth 20000 in
theorem ggX6_bargeOf_X1_pointOf : GoodIn wsX6_bargeOf wsX1_pointOf := goodIn_r _ [16, 17, 30, 31, 32, 33, 34, 35, 36, 37] (by decide +kernel) (by decide +kernel)
set_option maxRecDepth 20000 in
theorem gX6_bargeOf_X1_pointOf : GoodIn wsX6_bargeOf (wsV RX6 150 RX1 yX1_pointOf wsX1_pointOf) := goodIn_app (goodIn_of _ (by decide +kernel)) ggX6_bargeOf_X1_pointOf
theorem dX6_bargeOf_0 : decode cX6_bargeOf 0 = .ok (.aload_n 0, 1) := by decide +kernel
theorem dX6_bargeOf_1 : decode cX6_bargeOf 1 = .ok (.getfield 12, 3) := by decide +kernel
theorem dX6_bargeOf_4 : decode cX6_bargeOf 4 = .ok (.iload_n 1, 1) := by decide +kernel
theorem dX6_bargeOf_5 : decode cX6_bargeOf 5 = .ok (.invokevirtual 141, 3) := by decide +kernel
theorem dX6_bargeOf_8 : decode cX6_bargeOf 8 = .ok (.ifCond .ne 6, 3) := by decide +kernel
theorem dX6_bargeOf_11 : decode cX6_bargeOf 11 = .ok (.bipush (-11), 2) := by decide +kernel
theorem dX6_bargeOf_13 : decode cX6_bargeOf 13 = .ok (.ireturn, 1) := by decide +kernel
theorem dX6_bargeOf_14 : decode cX6_bargeOf 14 = .ok (.iload_n 2, 1) := by decide +kernel
theorem dX6_bargeOf_15 : decode cX6_bargeOf 15 = .ok (.tableswitch 82 0 4 #[33, 43, 53, 62, 72], 33) := by decide +kernel
theorem dX6_bargeOf_48 : decode cX6_bargeOf 48 = .ok (.aload_n 0, 1) := by decide +kernel
theorem dX6_bargeOf_49 : decode cX6_bargeOf 49 = .ok (.getfield 12, 3) := by decide +kernel
theorem dX6_bargeOf_52 : decode cX6_bargeOf 52 = .ok (.getfield 144, 3) := by decide +kernel
theorem dX6_bargeOf_55 : decode cX6_bargeOf 55 = .ok (.iload_n 1, 1) := by decide +kernel
theorem dX6_bargeOf_56 : decode cX6_bargeOf 56 = .ok (.iaload, 1) := by decide +kernel
theorem dX6_bargeOf_57 : decode cX6_bargeOf 57 = .ok (.ireturn, 1) := by decide +kernel
theorem dX6_bargeOf_58 : decode cX6_bargeOf 58 = .ok (.aload_n 0, 1) := by decide +kernel
theorem dX6_bargeOf_59 : decode cX6_bargeOf 59 = .ok (.getfield 12, 3) := by decide +kernel
theorem dX6_bargeOf_62 : decode cX6_bargeOf 62 = .ok (.getfield 147, 3) := by decide +kernel
theorem dX6_bargeOf_65 : decode cX6_bargeOf 65 = .ok (.iload_n 1, 1) := by decide +kernel
theorem dX6_bargeOf_66 : decode cX6_bargeOf 66 = .ok (.iaload, 1) := by decide +kernel
theorem dX6_bargeOf_67 : decode cX6_bargeOf 67 = .ok (.ireturn, 1) := by decide +kernel
theorem dX6_bargeOf_68 : decode cX6_bargeOf 68 = .ok (.aload_n 0, 1) := by decide +kernel
theorem dX6_bargeOf_69 : decode cX6_bargeOf 69 = .ok (.getfield 12, 3) := by decide +kernel
theorem dX6_bargeOf_72 : decode cX6_bargeOf 72 = .ok (.iload_n 1, 1) := by decide +kernel
theorem dX6_bargeOf_73 : decode cX6_bargeOf 73 = .ok (.invokevirtual 150, 3) := by decide +kernel
theorem dX6_bargeOf_76 : decode cX6_bargeOf 76 = .ok (.ireturn, 1) := by decide +kernel
theorem dX6_bargeOf_77 : decode cX6_bargeOf 77 = .ok (.aload_n 0, 1) := by decide +kernel
theorem dX6_bargeOf_78 : decode cX6_bargeOf 78 = .ok (.getfield 26, 3) := by decide +kernel
theorem dX6_bargeOf_81 : decode cX6_bargeOf 81 = .ok (.getfield 153, 3) := by decide +kernel
theorem dX6_bargeOf_84 : decode cX6_bargeOf 84 = .ok (.iload_n 1, 1) := by decide +kernel
theorem dX6_bargeOf_85 : decode cX6_bargeOf 85 = .ok (.iaload, 1) := by decide +kernel
theorem dX6_bargeOf_86 : decode cX6_bargeOf 86 = .ok (.ireturn, 1) := by decide +kernel
theorem dX6_bargeOf_87 : decode cX6_bargeOf 87 = .ok (.aload_n 0, 1) := by decide +kernel
theorem dX6_bargeOf_88 : decode cX6_bargeOf 88 = .ok (.getfield 26, 3) := by decide +kernel
theorem dX6_bargeOf_91 : decode cX6_bargeOf 91 = .ok (.getfield 156, 3) := by decide +kernel
theorem dX6_bargeOf_94 : decode cX6_bargeOf 94 = .ok (.iload_n 1, 1) := by decide +kernel
theorem dX6_bargeOf_95 : decode cX6_bargeOf 95 = .ok (.iaload, 1) := by decide +kernel
theorem dX6_bargeOf_96 : decode cX6_bargeOf 96 = .ok (.ireturn, 1) := by decide +kernel
theorem dX6_bargeOf_97 : decode cX6_bargeOf 97 = .ok (.bipush (-12), 2) := by decide +kernel
theorem dX6_bargeOf_99 : decode cX6_bargeOf 99 = .ok (.ireturn, 1) := by decide +kernel
set_option maxRecDepth 20000 in
theorem ggX6_home_X1_hasBarge : GoodIn wsX6_home wsX1_hasBarge := goodIn_r _ [7, 8, 40, 41, 42, 43, 44, 45, 46, 47] (by decide +kernel) (by decide +kernel)
set_option maxRecDepth 20000 in
theorem gX6_home_X1_hasBarge : GoodIn wsX6_home (wsV RX6 141 RX1 yX1_hasBarge wsX1_hasBarge) := goodIn_app (goodIn_of _ (by decide +kernel)) ggX6_home_X1_hasBarge
set_option maxRecDepth 20000 in
theorem ggX6_home_X1_pointOf : GoodIn wsX6_home wsX1_pointOf := goodIn_r _ [12, 13, 40, 41, 42, 43, 44, 45, 46, 47] (by decide +kernel) (by decide +kernel)
set_option maxRecDepth 20000 in
theorem gX6_home_X1_pointOf : GoodIn wsX6_home (wsV RX6 150 RX1 yX1_pointOf wsX1_pointOf) := goodIn_app (goodIn_of _ (by decide +kernel)) ggX6_home_X1_pointOf
set_option maxRecDepth 20000 in
theorem ggX6_home_X0_homeByTree : GoodIn wsX6_home wsX0_homeByTree := goodIn_r _ [18, 19, 20, 21, 22, 17, 23, 24, 25, 26, 27, 48, 49, 50, 51, 52, 53, 54, 55, 56, 57] (by decide +kernel) (by decide +kernel)
set_option maxRecDepth 20000 in
theorem gX6_home_X0_homeByTree : GoodIn wsX6_home (wsV RX6 159 RX0 yX0_homeByTree wsX0_homeByTree) := goodIn_app (goodIn_of _ (by decide +kernel)) ggX6_home_X0_homeByTree
theorem dX6_home_0 : decode cX6_home 0 = .ok (.aload_n 0, 1) := by decide +kernel
theorem dX6_home_1 : decode cX6_home 1 = .ok (.getfield 12, 3) := by decide +kernel
theorem dX6_home_4 : decode cX6_home 4 = .ok (.iload_n 1, 1) := by decide +kernel
theorem dX6_home_5 : decode cX6_home 5 = .ok (.invokevirtual 141, 3) := by decide +kernel
theorem dX6_home_8 : decode cX6_home 8 = .ok (.ifCond .eq 21, 3) := by decide +kernel
theorem dX6_home_11 : decode cX6_home 11 = .ok (.aload_n 0, 1) := by decide +kernel
theorem dX6_home_12 : decode cX6_home 12 = .ok (.getfield 19, 3) := by decide +kernel
theorem dX6_home_15 : decode cX6_home 15 = .ok (.aload_n 0, 1) := by decide +kernel
theorem dX6_home_16 : decode cX6_home 16 = .ok (.getfield 12, 3) := by decide +kernel
theorem dX6_home_19 : decode cX6_home 19 = .ok (.iload_n 1, 1) := by decide +kernel
theorem dX6_home_20 : decode cX6_home 20 = .ok (.invokevirtual 150, 3) := by decide +kernel
theorem dX6_home_23 : decode cX6_home 23 = .ok (.invokevirtual 159, 3) := by decide +kernel
theorem dX6_home_26 : decode cX6_home 26 = .ok (.goto 5, 3) := by decide +kernel
theorem dX6_home_29 : decode cX6_home 29 = .ok (.bipush (-11), 2) := by decide +kernel
theorem dX6_home_31 : decode cX6_home 31 = .ok (.ireturn, 1) := by decide +kernel
set_option maxRecDepth 20000 in
theorem ggX6_homeAgain_X1_hasBarge : GoodIn wsX6_homeAgain wsX1_hasBarge := goodIn_r _ [7, 8, 33, 34, 35, 36, 37, 38, 39, 40] (by decide +kernel) (by decide +kernel)
set_option maxRecDepth 20000 in
theorem gX6_homeAgain_X1_hasBarge : GoodIn wsX6_homeAgain (wsV RX6 141 RX1 yX1_hasBarge wsX1_hasBarge) := goodIn_app (goodIn_of _ (by decide +kernel)) ggX6_homeAgain_X1_hasBarge
set_option maxRecDepth 20000 in
theorem ggX6_homeAgain_X1_pointOf : GoodIn wsX6_homeAgain wsX1_pointOf := goodIn_r _ [12, 13, 33, 34, 35, 36, 37, 38, 39, 40] (by decide +kernel) (by decide +kernel)
set_option maxRecDepth 20000 in
theorem gX6_homeAgain_X1_pointOf : GoodIn wsX6_homeAgain (wsV RX6 150 RX1 yX1_pointOf wsX1_pointOf) := goodIn_app (goodIn_of _ (by decide +kernel)) ggX6_homeAgain_X1_pointOf
set_option maxRecDepth 20000 in
theorem ggX6_homeAgain_X0_homeAlong : GoodIn wsX6_homeAgain wsX0_homeAlong := goodIn_r _ [18, 19, 20, 41, 42, 43, 44, 45, 46, 47, 48, 49, 50] (by decide +kernel) (by decide +kernel)
set_option maxRecDepth 20000 in
theorem gX6_homeAgain_X0_homeAlong : GoodIn wsX6_homeAgain (wsV RX6 162 RX0 yX0_homeAlong wsX0_homeAlong) := goodIn_app (goodIn_of _ (by decide +kernel)) ggX6_homeAgain_X0_homeAlong
theorem dX6_homeAgain_0 : decode cX6_homeAgain 0 = .ok (.aload_n 0, 1) := by decide +kernel
theorem dX6_homeAgain_1 : decode cX6_homeAgain 1 = .ok (.getfield 12, 3) := by decide +kernel
theorem dX6_homeAgain_4 : decode cX6_homeAgain 4 = .ok (.iload_n 1, 1) := by decide +kernel
theorem dX6_homeAgain_5 : decode cX6_homeAgain 5 = .ok (.invokevirtual 141, 3) := by decide +kernel
theorem dX6_homeAgain_8 : decode cX6_homeAgain 8 = .ok (.ifCond .eq 21, 3) := by decide +kernel
theorem dX6_homeAgain_11 : decode cX6_homeAgain 11 = .ok (.aload_n 0, 1) := by decide +kernel
theorem dX6_homeAgain_12 : decode cX6_homeAgain 12 = .ok (.getfield 19, 3) := by decide +kernel
theorem dX6_homeAgain_15 : decode cX6_homeAgain 15 = .ok (.aload_n 0, 1) := by decide +kernel
theorem dX6_homeAgain_16 : decode cX6_homeAgain 16 = .ok (.getfield 12, 3) := by decide +kernel
theorem dX6_homeAgain_19 : decode cX6_homeAgain 19 = .ok (.iload_n 1, 1) := by decide +kernel
theorem dX6_homeAgain_20 : decode cX6_homeAgain 20 = .ok (.invokevirtual 150, 3) := by decide +kernel
theorem dX6_homeAgain_23 : decode cX6_homeAgain 23 = .ok (.invokevirtual 162, 3) := by decide +kernel
theorem dX6_homeAgain_26 : decode cX6_homeAgain 26 = .ok (.goto 5, 3) := by decide +kernel
theorem dX6_homeAgain_29 : decode cX6_homeAgain 29 = .ok (.bipush (-11), 2) := by decide +kernel
theorem dX6_homeAgain_31 : decode cX6_homeAgain 31 = .ok (.ireturn, 1) := by decide +kernel
set_option maxRecDepth 20000 in
theorem ggX6_homeOf_X0_homeByTree : GoodIn wsX6_homeOf wsX0_homeByTree := goodIn_r _ [6, 7, 8, 9, 10, 5, 11, 12, 13, 14, 15, 28, 29, 30, 31, 32, 33, 34, 35, 36, 37] (by decide +kernel) (by decide +kernel)
set_option maxRecDepth 20000 in
theorem gX6_homeOf_X0_homeByTree : GoodIn wsX6_homeOf (wsV RX6 159 RX0 yX0_homeByTree wsX0_homeByTree) := goodIn_app (goodIn_of _ (by decide +kernel)) ggX6_homeOf_X0_homeByTree
theorem dX6_homeOf_0 : decode cX6_homeOf 0 = .ok (.iload_n 1, 1) := by decide +kernel
theorem dX6_homeOf_1 : decode cX6_homeOf 1 = .ok (.ifCond .lt 21, 3) := by decide +kernel
theorem dX6_homeOf_4 : decode cX6_homeOf 4 = .ok (.iload_n 1, 1) := by decide +kernel
theorem dX6_homeOf_5 : decode cX6_homeOf 5 = .ok (.sipush 360, 3) := by decide +kernel
theorem dX6_homeOf_8 : decode cX6_homeOf 8 = .ok (.if_icmp .ge 14, 3) := by decide +kernel
theorem dX6_homeOf_11 : decode cX6_homeOf 11 = .ok (.aload_n 0, 1) := by decide +kernel
theorem dX6_homeOf_12 : decode cX6_homeOf 12 = .ok (.getfield 19, 3) := by decide +kernel
theorem dX6_homeOf_15 : decode cX6_homeOf 15 = .ok (.iload_n 1, 1) := by decide +kernel
theorem dX6_homeOf_16 : decode cX6_homeOf 16 = .ok (.invokevirtual 159, 3) := by decide +kernel
theorem dX6_homeOf_19 : decode cX6_homeOf 19 = .ok (.goto 5, 3) := by decide +kernel
theorem dX6_homeOf_22 : decode cX6_homeOf 22 = .ok (.bipush (-11), 2) := by decide +kernel
theorem dX6_homeOf_24 : decode cX6_homeOf 24 = .ok (.ireturn, 1) := by decide +kernel
theorem dX6_ring_0 : decode cX6_ring 0 = .ok (.iload_n 1, 1) := by decide +kernel
theorem dX6_ring_1 : decode cX6_ring 1 = .ok (.ifCond .lt 14, 3) := by decide +kernel
theorem dX6_ring_4 : decode cX6_ring 4 = .ok (.iload_n 1, 1) := by decide +kernel
theorem dX6_ring_5 : decode cX6_ring 5 = .ok (.aload_n 0, 1) := by decide +kernel
theorem dX6_ring_6 : decode cX6_ring 6 = .ok (.getfield 19, 3) := by decide +kernel
theorem dX6_ring_9 : decode cX6_ring 9 = .ok (.getfield 165, 3) := by decide +kernel
theorem dX6_ring_12 : decode cX6_ring 12 = .ok (.if_icmp .lt 6, 3) := by decide +kernel
theorem dX6_ring_15 : decode cX6_ring 15 = .ok (.bipush (-11), 2) := by decide +kernel
theorem dX6_ring_17 : decode cX6_ring 17 = .ok (.ireturn, 1) := by decide +kernel
theorem dX6_ring_18 : decode cX6_ring 18 = .ok (.aload_n 0, 1) := by decide +kernel
theorem dX6_ring_19 : decode cX6_ring 19 = .ok (.getfield 19, 3) := by decide +kernel
theorem dX6_ring_22 : decode cX6_ring 22 = .ok (.getfield 168, 3) := by decide +kernel
theorem dX6_ring_25 : decode cX6_ring 25 = .ok (.iload_n 1, 1) := by decide +kernel
theorem dX6_ring_26 : decode cX6_ring 26 = .ok (.iaload, 1) := by decide +kernel
theorem dX6_ring_27 : decode cX6_ring 27 = .ok (.istore_n 3, 1) := by decide +kernel
theorem dX6_ring_28 : decode cX6_ring 28 = .ok (.iload_n 2, 1) := by decide +kernel
theorem dX6_ring_29 : decode cX6_ring 29 = .ok (.tableswitch 71 0 3 #[31, 41, 51, 61], 31) := by decide +kernel
theorem dX6_ring_60 : decode cX6_ring 60 = .ok (.aload_n 0, 1) := by decide +kernel
theorem dX6_ring_61 : decode cX6_ring 61 = .ok (.getfield 19, 3) := by decide +kernel
theorem dX6_ring_64 : decode cX6_ring 64 = .ok (.getfield 171, 3) := by decide +kernel
theorem dX6_ring_67 : decode cX6_ring 67 = .ok (.iload_n 3, 1) := by decide +kernel
theorem dX6_ring_68 : decode cX6_ring 68 = .ok (.iaload, 1) := by decide +kernel
theorem dX6_ring_69 : decode cX6_ring 69 = .ok (.ireturn, 1) := by decide +kernel
theorem dX6_ring_70 : decode cX6_ring 70 = .ok (.aload_n 0, 1) := by decide +kernel
theorem dX6_ring_71 : decode cX6_ring 71 = .ok (.getfield 19, 3) := by decide +kernel
theorem dX6_ring_74 : decode cX6_ring 74 = .ok (.getfield 174, 3) := by decide +kernel
theorem dX6_ring_77 : decode cX6_ring 77 = .ok (.iload_n 3, 1) := by decide +kernel
theorem dX6_ring_78 : decode cX6_ring 78 = .ok (.iaload, 1) := by decide +kernel
theorem dX6_ring_79 : decode cX6_ring 79 = .ok (.ireturn, 1) := by decide +kernel
theorem dX6_ring_80 : decode cX6_ring 80 = .ok (.aload_n 0, 1) := by decide +kernel
theorem dX6_ring_81 : decode cX6_ring 81 = .ok (.getfield 19, 3) := by decide +kernel
theorem dX6_ring_84 : decode cX6_ring 84 = .ok (.getfield 177, 3) := by decide +kernel
theorem dX6_ring_87 : decode cX6_ring 87 = .ok (.iload_n 3, 1) := by decide +kernel
theorem dX6_ring_88 : decode cX6_ring 88 = .ok (.iaload, 1) := by decide +kernel
theorem dX6_ring_89 : decode cX6_ring 89 = .ok (.ireturn, 1) := by decide +kernel
theorem dX6_ring_90 : decode cX6_ring 90 = .ok (.aload_n 0, 1) := by decide +kernel
theorem dX6_ring_91 : decode cX6_ring 91 = .ok (.getfield 19, 3) := by decide +kernel
theorem dX6_ring_94 : decode cX6_ring 94 = .ok (.getfield 180, 3) := by decide +kernel
theorem dX6_ring_97 : decode cX6_ring 97 = .ok (.iload_n 3, 1) := by decide +kernel
theorem dX6_ring_98 : decode cX6_ring 98 = .ok (.iaload, 1) := by decide +kernel
theorem dX6_ring_99 : decode cX6_ring 99 = .ok (.ireturn, 1) := by decide +kernel
theorem dX6_ring_100 : decode cX6_ring 100 = .ok (.bipush (-12), 2) := by decide +kernel
theorem dX6_ring_102 : decode cX6_ring 102 = .ok (.ireturn, 1) := by decide +kernel
theorem dX6_deep_0 : decode cX6_deep 0 = .ok (.aload_n 0, 1) := by decide +kernel
theorem dX6_deep_1 : decode cX6_deep 1 = .ok (.getfield 19, 3) := by decide +kernel
theorem dX6_deep_4 : decode cX6_deep 4 = .ok (.getfield 183, 3) := by decide +kernel
theorem dX6_deep_7 : decode cX6_deep 7 = .ok (.ireturn, 1) := by decide +kernel
set_option maxRecDepth 20000 in
theorem ggX6_hottest_X6_isHotter : GoodIn wsX6_hottest wsX6_isHotter := goodIn_r _ [7, 1, 8, 9, 10, 11, 6, 12, 13, 14, 15, 16, 17, 18, 19, 20, 21, 22, 23, 24, 25, 26, 27, 28, 29, 30, 31, 32, 33, 34, 35, 36, 37, 38, 39, 40, 41, 42, 43, 44, 45, 46, 47, 48, 49, 50, 51] (by decide +kernel) (by decide +kernel)
set_option maxRecDepth 20000 in
theorem gX6_hottest_X6_isHotter : GoodIn wsX6_hottest (wsV RX6 206 RX6 yX6_isHotter wsX6_isHotter) := goodIn_app (goodIn_of _ (by decide +kernel)) ggX6_hottest_X6_isHotter
theorem dX6_hottest_0 : decode cX6_hottest 0 = .ok (.iconst 0, 1) := by decide +kernel
theorem dX6_hottest_1 : decode cX6_hottest 1 = .ok (.istore_n 2, 1) := by decide +kernel
theorem dX6_hottest_2 : decode cX6_hottest 2 = .ok (.iload_n 2, 1) := by decide +kernel
theorem dX6_hottest_3 : decode cX6_hottest 3 = .ok (.aload_n 0, 1) := by decide +kernel
theorem dX6_hottest_4 : decode cX6_hottest 4 = .ok (.getfield 12, 3) := by decide +kernel
theorem dX6_hottest_7 : decode cX6_hottest 7 = .ok (.getfield 186, 3) := by decide +kernel
theorem dX6_hottest_10 : decode cX6_hottest 10 = .ok (.if_icmp .ge 52, 3) := by decide +kernel
theorem dX6_hottest_13 : decode cX6_hottest 13 = .ok (.iconst 0, 1) := by decide +kernel
theorem dX6_hottest_14 : decode cX6_hottest 14 = .ok (.istore_n 3, 1) := by decide +kernel
theorem dX6_hottest_15 : decode cX6_hottest 15 = .ok (.iconst 0, 1) := by decide +kernel
theorem dX6_hottest_16 : decode cX6_hottest 16 = .ok (.istore 4, 2) := by decide +kernel
theorem dX6_hottest_18 : decode cX6_hottest 18 = .ok (.iload 4, 2) := by decide +kernel
theorem dX6_hottest_20 : decode cX6_hottest 20 = .ok (.aload_n 0, 1) := by decide +kernel
theorem dX6_hottest_21 : decode cX6_hottest 21 = .ok (.getfield 12, 3) := by decide +kernel
theorem dX6_hottest_24 : decode cX6_hottest 24 = .ok (.getfield 186, 3) := by decide +kernel
theorem dX6_hottest_27 : decode cX6_hottest 27 = .ok (.if_icmp .ge 22, 3) := by decide +kernel
theorem dX6_hottest_30 : decode cX6_hottest 30 = .ok (.aload_n 0, 1) := by decide +kernel
theorem dX6_hottest_31 : decode cX6_hottest 31 = .ok (.iload 4, 2) := by decide +kernel
theorem dX6_hottest_33 : decode cX6_hottest 33 = .ok (.iload_n 2, 1) := by decide +kernel
theorem dX6_hottest_34 : decode cX6_hottest 34 = .ok (.invokevirtual 206, 3) := by decide +kernel
theorem dX6_hottest_37 : decode cX6_hottest 37 = .ok (.ifCond .eq 6, 3) := by decide +kernel
theorem dX6_hottest_40 : decode cX6_hottest 40 = .ok (.iinc 3 1, 3) := by decide +kernel
theorem dX6_hottest_43 : decode cX6_hottest 43 = .ok (.iinc 4 1, 3) := by decide +kernel
theorem dX6_hottest_46 : decode cX6_hottest 46 = .ok (.goto (-28), 3) := by decide +kernel
theorem dX6_hottest_49 : decode cX6_hottest 49 = .ok (.iload_n 3, 1) := by decide +kernel
theorem dX6_hottest_50 : decode cX6_hottest 50 = .ok (.iload_n 1, 1) := by decide +kernel
theorem dX6_hottest_51 : decode cX6_hottest 51 = .ok (.if_icmp .ne 5, 3) := by decide +kernel
theorem dX6_hottest_54 : decode cX6_hottest 54 = .ok (.iload_n 2, 1) := by decide +kernel
theorem dX6_hottest_55 : decode cX6_hottest 55 = .ok (.ireturn, 1) := by decide +kernel
theorem dX6_hottest_56 : decode cX6_hottest 56 = .ok (.iinc 2 1, 3) := by decide +kernel
theorem dX6_hottest_59 : decode cX6_hottest 59 = .ok (.goto (-57), 3) := by decide +kernel
theorem dX6_hottest_62 : decode cX6_hottest 62 = .ok (.bipush (-11), 2) := by decide +kernel
theorem dX6_hottest_64 : decode cX6_hottest 64 = .ok (.ireturn, 1) := by decide +kernel
set_option maxRecDepth 20000 in
theorem ggX6_tell_X1_hasPier : GoodIn wsX6_tell wsX1_hasPier := goodIn_r _ [13, 14, 43, 44, 45, 46, 47, 48, 49, 50] (by decide +kernel) (by decide +kernel)
set_option maxRecDepth 20000 in
theorem gX6_tell_X1_hasPier : GoodIn wsX6_tell (wsV RX6 93 RX1 yX1_hasPier wsX1_hasPier) := goodIn_app (goodIn_of _ (by decide +kernel)) ggX6_tell_X1_hasPier
set_option maxRecDepth 20000 in
theorem ggX6_tell_X3_empty : GoodIn wsX6_tell wsX3_empty := goodIn_r _ [19, 20, 60, 61] (by decide +kernel) (by decide +kernel)
set_option maxRecDepth 20000 in
theorem gX6_tell_X3_empty : GoodIn wsX6_tell (wsV RX6 244 RX3 yX3_empty wsX3_empty) := goodIn_app (goodIn_of _ (by decide +kernel)) ggX6_tell_X3_empty
set_option maxRecDepth 20000 in
theorem ggX6_tell_X3_putNumber : GoodIn wsX6_tell wsX3_putNumber := goodIn_r _ [24, 25, 26, 27, 18, 28, 20, 29, 60, 61] (by decide +kernel) (by decide +kernel)
set_option maxRecDepth 20000 in
theorem gX6_tell_X3_putNumber : GoodIn wsX6_tell (wsV RX6 245 RX3 yX3_putNumber wsX3_putNumber) := goodIn_app (goodIn_of _ (by decide +kernel)) ggX6_tell_X3_putNumber
set_option maxRecDepth 20000 in
theorem ggX6_tell_X3_put : GoodIn wsX6_tell wsX3_put := goodIn_r _ [28, 20, 29, 60, 61] (by decide +kernel) (by decide +kernel)
set_option maxRecDepth 20000 in
theorem gX6_tell_X3_put : GoodIn wsX6_tell (wsV RX6 248 RX3 yX3_put wsX3_put) := goodIn_app (goodIn_of _ (by decide +kernel)) ggX6_tell_X3_put
theorem dX6_tell_0 : decode cX6_tell 0 = .ok (.aload_n 0, 1) := by decide +kernel
theorem dX6_tell_1 : decode cX6_tell 1 = .ok (.getfield 12, 3) := by decide +kernel
theorem dX6_tell_4 : decode cX6_tell 4 = .ok (.iload_n 1, 1) := by decide +kernel
theorem dX6_tell_5 : decode cX6_tell 5 = .ok (.invokevirtual 93, 3) := by decide +kernel
theorem dX6_tell_8 : decode cX6_tell 8 = .ok (.ifCond .ne 6, 3) := by decide +kernel
theorem dX6_tell_11 : decode cX6_tell 11 = .ok (.bipush (-11), 2) := by decide +kernel
theorem dX6_tell_13 : decode cX6_tell 13 = .ok (.ireturn, 1) := by decide +kernel
theorem dX6_tell_14 : decode cX6_tell 14 = .ok (.aload_n 0, 1) := by decide +kernel
theorem dX6_tell_15 : decode cX6_tell 15 = .ok (.getfield 56, 3) := by decide +kernel
theorem dX6_tell_18 : decode cX6_tell 18 = .ok (.invokevirtual 244, 3) := by decide +kernel
theorem dX6_tell_21 : decode cX6_tell 21 = .ok (.aload_n 0, 1) := by decide +kernel
theorem dX6_tell_22 : decode cX6_tell 22 = .ok (.getfield 56, 3) := by decide +kernel
theorem dX6_tell_25 : decode cX6_tell 25 = .ok (.iload_n 1, 1) := by decide +kernel
theorem dX6_tell_26 : decode cX6_tell 26 = .ok (.invokevirtual 245, 3) := by decide +kernel
theorem dX6_tell_29 : decode cX6_tell 29 = .ok (.aload_n 0, 1) := by decide +kernel
theorem dX6_tell_30 : decode cX6_tell 30 = .ok (.getfield 56, 3) := by decide +kernel
theorem dX6_tell_33 : decode cX6_tell 33 = .ok (.bipush 42, 2) := by decide +kernel
theorem dX6_tell_35 : decode cX6_tell 35 = .ok (.invokevirtual 248, 3) := by decide +kernel
theorem dX6_tell_38 : decode cX6_tell 38 = .ok (.aload_n 0, 1) := by decide +kernel
theorem dX6_tell_39 : decode cX6_tell 39 = .ok (.getfield 56, 3) := by decide +kernel
theorem dX6_tell_42 : decode cX6_tell 42 = .ok (.aload_n 0, 1) := by decide +kernel
theorem dX6_tell_43 : decode cX6_tell 43 = .ok (.getfield 12, 3) := by decide +kernel
theorem dX6_tell_46 : decode cX6_tell 46 = .ok (.getfield 97, 3) := by decide +kernel
theorem dX6_tell_49 : decode cX6_tell 49 = .ok (.iload_n 1, 1) := by decide +kernel
theorem dX6_tell_50 : decode cX6_tell 50 = .ok (.iaload, 1) := by decide +kernel
theorem dX6_tell_51 : decode cX6_tell 51 = .ok (.invokevirtual 245, 3) := by decide +kernel
theorem dX6_tell_54 : decode cX6_tell 54 = .ok (.aload_n 0, 1) := by decide +kernel
theorem dX6_tell_55 : decode cX6_tell 55 = .ok (.getfield 12, 3) := by decide +kernel
theorem dX6_tell_58 : decode cX6_tell 58 = .ok (.getfield 101, 3) := by decide +kernel
theorem dX6_tell_61 : decode cX6_tell 61 = .ok (.iload_n 1, 1) := by decide +kernel
theorem dX6_tell_62 : decode cX6_tell 62 = .ok (.baload, 1) := by decide +kernel
theorem dX6_tell_63 : decode cX6_tell 63 = .ok (.ifCond .ne 12, 3) := by decide +kernel
theorem dX6_tell_66 : decode cX6_tell 66 = .ok (.aload_n 0, 1) := by decide +kernel
theorem dX6_tell_67 : decode cX6_tell 67 = .ok (.getfield 56, 3) := by decide +kernel
theorem dX6_tell_70 : decode cX6_tell 70 = .ok (.bipush 120, 2) := by decide +kernel
theorem dX6_tell_72 : decode cX6_tell 72 = .ok (.invokevirtual 248, 3) := by decide +kernel
theorem dX6_tell_75 : decode cX6_tell 75 = .ok (.aload_n 0, 1) := by decide +kernel
theorem dX6_tell_76 : decode cX6_tell 76 = .ok (.getfield 56, 3) := by decide +kernel
theorem dX6_tell_79 : decode cX6_tell 79 = .ok (.bipush 58, 2) := by decide +kernel
theorem dX6_tell_81 : decode cX6_tell 81 = .ok (.invokevirtual 248, 3) := by decide +kernel
theorem dX6_tell_84 : decode cX6_tell 84 = .ok (.iconst 1, 1) := by decide +kernel
theorem dX6_tell_85 : decode cX6_tell 85 = .ok (.istore_n 2, 1) := by decide +kernel
theorem dX6_tell_86 : decode cX6_tell 86 = .ok (.iconst 0, 1) := by decide +kernel
theorem dX6_tell_87 : decode cX6_tell 87 = .ok (.istore_n 3, 1) := by decide +kernel
theorem dX6_tell_88 : decode cX6_tell 88 = .ok (.iload_n 3, 1) := by decide +kernel
theorem dX6_tell_89 : decode cX6_tell 89 = .ok (.aload_n 0, 1) := by decide +kernel
theorem dX6_tell_90 : decode cX6_tell 90 = .ok (.getfield 12, 3) := by decide +kernel
theorem dX6_tell_93 : decode cX6_tell 93 = .ok (.getfield 252, 3) := by decide +kernel
theorem dX6_tell_96 : decode cX6_tell 96 = .ok (.if_icmp .ge 45, 3) := by decide +kernel
theorem dX6_tell_99 : decode cX6_tell 99 = .ok (.aload_n 0, 1) := by decide +kernel
theorem dX6_tell_100 : decode cX6_tell 100 = .ok (.getfield 26, 3) := by decide +kernel
theorem dX6_tell_103 : decode cX6_tell 103 = .ok (.getfield 153, 3) := by decide +kernel
theorem dX6_tell_106 : decode cX6_tell 106 = .ok (.iload_n 3, 1) := by decide +kernel
theorem dX6_tell_107 : decode cX6_tell 107 = .ok (.iaload, 1) := by decide +kernel
theorem dX6_tell_108 : decode cX6_tell 108 = .ok (.iload_n 1, 1) := by decide +kernel
theorem dX6_tell_109 : decode cX6_tell 109 = .ok (.if_icmp .ne 26, 3) := by decide +kernel
theorem dX6_tell_112 : decode cX6_tell 112 = .ok (.iload_n 2, 1) := by decide +kernel
theorem dX6_tell_113 : decode cX6_tell 113 = .ok (.ifCond .ne 12, 3) := by decide +kernel
theorem dX6_tell_116 : decode cX6_tell 116 = .ok (.aload_n 0, 1) := by decide +kernel
theorem dX6_tell_117 : decode cX6_tell 117 = .ok (.getfield 56, 3) := by decide +kernel
theorem dX6_tell_120 : decode cX6_tell 120 = .ok (.bipush 44, 2) := by decide +kernel
theorem dX6_tell_122 : decode cX6_tell 122 = .ok (.invokevirtual 248, 3) := by decide +kernel
theorem dX6_tell_125 : decode cX6_tell 125 = .ok (.aload_n 0, 1) := by decide +kernel
theorem dX6_tell_126 : decode cX6_tell 126 = .ok (.getfield 56, 3) := by decide +kernel
theorem dX6_tell_129 : decode cX6_tell 129 = .ok (.iload_n 3, 1) := by decide +kernel
theorem dX6_tell_130 : decode cX6_tell 130 = .ok (.invokevirtual 245, 3) := by decide +kernel
theorem dX6_tell_133 : decode cX6_tell 133 = .ok (.iconst 0, 1) := by decide +kernel
theorem dX6_tell_134 : decode cX6_tell 134 = .ok (.istore_n 2, 1) := by decide +kernel
theorem dX6_tell_135 : decode cX6_tell 135 = .ok (.iinc 3 1, 3) := by decide +kernel
theorem dX6_tell_138 : decode cX6_tell 138 = .ok (.goto (-50), 3) := by decide +kernel
theorem dX6_tell_141 : decode cX6_tell 141 = .ok (.aload_n 0, 1) := by decide +kernel
theorem dX6_tell_142 : decode cX6_tell 142 = .ok (.getfield 56, 3) := by decide +kernel
theorem dX6_tell_145 : decode cX6_tell 145 = .ok (.getfield 255, 3) := by decide +kernel
theorem dX6_tell_148 : decode cX6_tell 148 = .ok (.ireturn, 1) := by decide +kernel
set_option maxRecDepth 20000 in
theorem ggX6_tellBarge_X1_hasBarge : GoodIn wsX6_tellBarge wsX1_hasBarge := goodIn_r _ [12, 13, 47, 48, 49, 50, 51, 52, 53, 54] (by decide +kernel) (by decide +kernel)
set_option maxRecDepth 20000 in
theorem gX6_tellBarge_X1_hasBarge : GoodIn wsX6_tellBarge (wsV RX6 141 RX1 yX1_hasBarge wsX1_hasBarge) := goodIn_app (goodIn_of _ (by decide +kernel)) ggX6_tellBarge_X1_hasBarge
set_option maxRecDepth 20000 in
theorem ggX6_tellBarge_X3_empty : GoodIn wsX6_tellBarge wsX3_empty := goodIn_r _ [18, 19, 64, 65] (by decide +kernel) (by decide +kernel)
set_option maxRecDepth 20000 in
theorem gX6_tellBarge_X3_empty : GoodIn wsX6_tellBarge (wsV RX6 244 RX3 yX3_empty wsX3_empty) := goodIn_app (goodIn_of _ (by decide +kernel)) ggX6_tellBarge_X3_empty
set_option maxRecDepth 20000 in
theorem ggX6_tellBarge_X3_putNumber : GoodIn wsX6_tellBarge wsX3_putNumber := goodIn_r _ [23, 24, 25, 26, 17, 27, 19, 28, 64, 65] (by decide +kernel) (by decide +kernel)
set_option maxRecDepth 20000 in
theorem gX6_tellBarge_X3_putNumber : GoodIn wsX6_tellBarge (wsV RX6 245 RX3 yX3_putNumber wsX3_putNumber) := goodIn_app (goodIn_of _ (by decide +kernel)) ggX6_tellBarge_X3_putNumber
set_option maxRecDepth 20000 in
theorem ggX6_tellBarge_X3_put : GoodIn wsX6_tellBarge wsX3_put := goodIn_r _ [27, 19, 28, 64, 65] (by decide +kernel) (by decide +kernel)
set_option maxRecDepth 20000 in
theorem gX6_tellBarge_X3_put : GoodIn wsX6_tellBarge (wsV RX6 248 RX3 yX3_put wsX3_put) := goodIn_app (goodIn_of _ (by decide +kernel)) ggX6_tellBarge_X3_put
set_option maxRecDepth 20000 in
theorem ggX6_tellBarge_X1_pointOf : GoodIn wsX6_tellBarge wsX1_pointOf := goodIn_r _ [33, 34, 47, 48, 49, 50, 51, 52, 53, 54] (by decide +kernel) (by decide +kernel)
set_option maxRecDepth 20000 in
theorem gX6_tellBarge_X1_pointOf : GoodIn wsX6_tellBarge (wsV RX6 150 RX1 yX1_pointOf wsX1_pointOf) := goodIn_app (goodIn_of _ (by decide +kernel)) ggX6_tellBarge_X1_pointOf
theorem dX6_tellBarge_0 : decode cX6_tellBarge 0 = .ok (.aload_n 0, 1) := by decide +kernel
theorem dX6_tellBarge_1 : decode cX6_tellBarge 1 = .ok (.getfield 12, 3) := by decide +kernel
theorem dX6_tellBarge_4 : decode cX6_tellBarge 4 = .ok (.iload_n 1, 1) := by decide +kernel
theorem dX6_tellBarge_5 : decode cX6_tellBarge 5 = .ok (.invokevirtual 141, 3) := by decide +kernel
theorem dX6_tellBarge_8 : decode cX6_tellBarge 8 = .ok (.ifCond .ne 6, 3) := by decide +kernel
theorem dX6_tellBarge_11 : decode cX6_tellBarge 11 = .ok (.bipush (-11), 2) := by decide +kernel
theorem dX6_tellBarge_13 : decode cX6_tellBarge 13 = .ok (.ireturn, 1) := by decide +kernel
theorem dX6_tellBarge_14 : decode cX6_tellBarge 14 = .ok (.aload_n 0, 1) := by decide +kernel
theorem dX6_tellBarge_15 : decode cX6_tellBarge 15 = .ok (.getfield 56, 3) := by decide +kernel
theorem dX6_tellBarge_18 : decode cX6_tellBarge 18 = .ok (.invokevirtual 244, 3) := by decide +kernel
theorem dX6_tellBarge_21 : decode cX6_tellBarge 21 = .ok (.aload_n 0, 1) := by decide +kernel
theorem dX6_tellBarge_22 : decode cX6_tellBarge 22 = .ok (.getfield 56, 3) := by decide +kernel
theorem dX6_tellBarge_25 : decode cX6_tellBarge 25 = .ok (.iload_n 1, 1) := by decide +kernel
theorem dX6_tellBarge_26 : decode cX6_tellBarge 26 = .ok (.invokevirtual 245, 3) := by decide +kernel
theorem dX6_tellBarge_29 : decode cX6_tellBarge 29 = .ok (.aload_n 0, 1) := by decide +kernel
theorem dX6_tellBarge_30 : decode cX6_tellBarge 30 = .ok (.getfield 56, 3) := by decide +kernel
theorem dX6_tellBarge_33 : decode cX6_tellBarge 33 = .ok (.bipush 61, 2) := by decide +kernel
theorem dX6_tellBarge_35 : decode cX6_tellBarge 35 = .ok (.invokevirtual 248, 3) := by decide +kernel
theorem dX6_tellBarge_38 : decode cX6_tellBarge 38 = .ok (.aload_n 0, 1) := by decide +kernel
theorem dX6_tellBarge_39 : decode cX6_tellBarge 39 = .ok (.getfield 56, 3) := by decide +kernel
theorem dX6_tellBarge_42 : decode cX6_tellBarge 42 = .ok (.aload_n 0, 1) := by decide +kernel
theorem dX6_tellBarge_43 : decode cX6_tellBarge 43 = .ok (.getfield 12, 3) := by decide +kernel
theorem dX6_tellBarge_46 : decode cX6_tellBarge 46 = .ok (.getfield 144, 3) := by decide +kernel
theorem dX6_tellBarge_49 : decode cX6_tellBarge 49 = .ok (.iload_n 1, 1) := by decide +kernel
theorem dX6_tellBarge_50 : decode cX6_tellBarge 50 = .ok (.iaload, 1) := by decide +kernel
theorem dX6_tellBarge_51 : decode cX6_tellBarge 51 = .ok (.invokevirtual 245, 3) := by decide +kernel
theorem dX6_tellBarge_54 : decode cX6_tellBarge 54 = .ok (.aload_n 0, 1) := by decide +kernel
theorem dX6_tellBarge_55 : decode cX6_tellBarge 55 = .ok (.getfield 56, 3) := by decide +kernel
theorem dX6_tellBarge_58 : decode cX6_tellBarge 58 = .ok (.bipush 64, 2) := by decide +kernel
theorem dX6_tellBarge_60 : decode cX6_tellBarge 60 = .ok (.invokevirtual 248, 3) := by decide +kernel
theorem dX6_tellBarge_63 : decode cX6_tellBarge 63 = .ok (.aload_n 0, 1) := by decide +kernel
theorem dX6_tellBarge_64 : decode cX6_tellBarge 64 = .ok (.getfield 56, 3) := by decide +kernel
theorem dX6_tellBarge_67 : decode cX6_tellBarge 67 = .ok (.aload_n 0, 1) := by decide +kernel
theorem dX6_tellBarge_68 : decode cX6_tellBarge 68 = .ok (.getfield 12, 3) := by decide +kernel
theorem dX6_tellBarge_71 : decode cX6_tellBarge 71 = .ok (.iload_n 1, 1) := by decide +kernel
theorem dX6_tellBarge_72 : decode cX6_tellBarge 72 = .ok (.invokevirtual 150, 3) := by decide +kernel
theorem dX6_tellBarge_75 : decode cX6_tellBarge 75 = .ok (.invokevirtual 245, 3) := by decide +kernel
theorem dX6_tellBarge_78 : decode cX6_tellBarge 78 = .ok (.aload_n 0, 1) := by decide +kernel
theorem dX6_tellBarge_79 : decode cX6_tellBarge 79 = .ok (.getfield 56, 3) := by decide +kernel
theorem dX6_tellBarge_82 : decode cX6_tellBarge 82 = .ok (.bipush 43, 2) := by decide +kernel
theorem dX6_tellBarge_84 : decode cX6_tellBarge 84 = .ok (.invokevirtual 248, 3) := by decide +kernel
theorem dX6_tellBarge_87 : decode cX6_tellBarge 87 = .ok (.aload_n 0, 1) := by decide +kernel
theorem dX6_tellBarge_88 : decode cX6_tellBarge 88 = .ok (.getfield 56, 3) := by decide +kernel
theorem dX6_tellBarge_91 : decode cX6_tellBarge 91 = .ok (.aload_n 0, 1) := by decide +kernel
theorem dX6_tellBarge_92 : decode cX6_tellBarge 92 = .ok (.getfield 12, 3) := by decide +kernel
theorem dX6_tellBarge_95 : decode cX6_tellBarge 95 = .ok (.getfield 147, 3) := by decide +kernel
theorem dX6_tellBarge_98 : decode cX6_tellBarge 98 = .ok (.iload_n 1, 1) := by decide +kernel
theorem dX6_tellBarge_99 : decode cX6_tellBarge 99 = .ok (.iaload, 1) := by decide +kernel
theorem dX6_tellBarge_100 : decode cX6_tellBarge 100 = .ok (.invokevirtual 245, 3) := by decide +kernel
theorem dX6_tellBarge_103 : decode cX6_tellBarge 103 = .ok (.aload_n 0, 1) := by decide +kernel
theorem dX6_tellBarge_104 : decode cX6_tellBarge 104 = .ok (.getfield 56, 3) := by decide +kernel
theorem dX6_tellBarge_107 : decode cX6_tellBarge 107 = .ok (.bipush 62, 2) := by decide +kernel
theorem dX6_tellBarge_109 : decode cX6_tellBarge 109 = .ok (.invokevirtual 248, 3) := by decide +kernel
theorem dX6_tellBarge_112 : decode cX6_tellBarge 112 = .ok (.aload_n 0, 1) := by decide +kernel
theorem dX6_tellBarge_113 : decode cX6_tellBarge 113 = .ok (.getfield 26, 3) := by decide +kernel
theorem dX6_tellBarge_116 : decode cX6_tellBarge 116 = .ok (.getfield 153, 3) := by decide +kernel
theorem dX6_tellBarge_119 : decode cX6_tellBarge 119 = .ok (.iload_n 1, 1) := by decide +kernel
theorem dX6_tellBarge_120 : decode cX6_tellBarge 120 = .ok (.iaload, 1) := by decide +kernel
theorem dX6_tellBarge_121 : decode cX6_tellBarge 121 = .ok (.bipush (-15), 2) := by decide +kernel
theorem dX6_tellBarge_123 : decode cX6_tellBarge 123 = .ok (.if_icmp .ne 15, 3) := by decide +kernel
theorem dX6_tellBarge_126 : decode cX6_tellBarge 126 = .ok (.aload_n 0, 1) := by decide +kernel
theorem dX6_tellBarge_127 : decode cX6_tellBarge 127 = .ok (.getfield 56, 3) := by decide +kernel
theorem dX6_tellBarge_130 : decode cX6_tellBarge 130 = .ok (.bipush 45, 2) := by decide +kernel
theorem dX6_tellBarge_132 : decode cX6_tellBarge 132 = .ok (.invokevirtual 248, 3) := by decide +kernel
theorem dX6_tellBarge_135 : decode cX6_tellBarge 135 = .ok (.goto 19, 3) := by decide +kernel
theorem dX6_tellBarge_138 : decode cX6_tellBarge 138 = .ok (.aload_n 0, 1) := by decide +kernel
theorem dX6_tellBarge_139 : decode cX6_tellBarge 139 = .ok (.getfield 56, 3) := by decide +kernel
theorem dX6_tellBarge_142 : decode cX6_tellBarge 142 = .ok (.aload_n 0, 1) := by decide +kernel
theorem dX6_tellBarge_143 : decode cX6_tellBarge 143 = .ok (.getfield 26, 3) := by decide +kernel
theorem dX6_tellBarge_146 : decode cX6_tellBarge 146 = .ok (.getfield 153, 3) := by decide +kernel
theorem dX6_tellBarge_149 : decode cX6_tellBarge 149 = .ok (.iload_n 1, 1) := by decide +kernel
theorem dX6_tellBarge_150 : decode cX6_tellBarge 150 = .ok (.iaload, 1) := by decide +kernel
theorem dX6_tellBarge_151 : decode cX6_tellBarge 151 = .ok (.invokevirtual 245, 3) := by decide +kernel
theorem dX6_tellBarge_154 : decode cX6_tellBarge 154 = .ok (.aload_n 0, 1) := by decide +kernel
theorem dX6_tellBarge_155 : decode cX6_tellBarge 155 = .ok (.getfield 56, 3) := by decide +kernel
theorem dX6_tellBarge_158 : decode cX6_tellBarge 158 = .ok (.getfield 255, 3) := by decide +kernel
theorem dX6_tellBarge_161 : decode cX6_tellBarge 161 = .ok (.ireturn, 1) := by decide +kernel
theorem dX6_character_0 : decode cX6_character 0 = .ok (.iload_n 1, 1) := by decide +kernel
theorem dX6_character_1 : decode cX6_character 1 = .ok (.ifCond .lt 26, 3) := by decide +kernel
theorem dX6_character_4 : decode cX6_character 4 = .ok (.iload_n 1, 1) := by decide +kernel
theorem dX6_character_5 : decode cX6_character 5 = .ok (.aload_n 0, 1) := by decide +kernel
theorem dX6_character_6 : decode cX6_character 6 = .ok (.getfield 56, 3) := by decide +kernel
theorem dX6_character_9 : decode cX6_character 9 = .ok (.getfield 255, 3) := by decide +kernel
theorem dX6_character_12 : decode cX6_character 12 = .ok (.if_icmp .ge 15, 3) := by decide +kernel
theorem dX6_character_15 : decode cX6_character 15 = .ok (.aload_n 0, 1) := by decide +kernel
theorem dX6_character_16 : decode cX6_character 16 = .ok (.getfield 56, 3) := by decide +kernel
theorem dX6_character_19 : decode cX6_character 19 = .ok (.getfield 256, 3) := by decide +kernel
theorem dX6_character_22 : decode cX6_character 22 = .ok (.iload_n 1, 1) := by decide +kernel
theorem dX6_character_23 : decode cX6_character 23 = .ok (.caload, 1) := by decide +kernel
theorem dX6_character_24 : decode cX6_character 24 = .ok (.goto 5, 3) := by decide +kernel
theorem dX6_character_27 : decode cX6_character 27 = .ok (.bipush (-11), 2) := by decide +kernel
theorem dX6_character_29 : decode cX6_character 29 = .ok (.ireturn, 1) := by decide +kernel
set_option maxRecDepth 20000 in
theorem ggX6_account_X1_openPiers : GoodIn wsX6_account wsX1_openPiers := goodIn_r _ [19, 20, 21, 71, 72, 73, 74, 75, 76, 77, 78] (by decide +kernel) (by decide +kernel)
set_option maxRecDepth 20000 in
theorem gX6_account_X1_openPiers : GoodIn wsX6_account (wsV RX6 260 RX1 yX1_openPiers wsX1_openPiers) := goodIn_app (goodIn_of _ (by decide +kernel)) ggX6_account_X1_openPiers
set_option maxRecDepth 20000 in
theorem ggX6_account_X1_allTons : GoodIn wsX6_account wsX1_allTons := goodIn_r _ [25, 26, 27, 71, 72, 73, 74, 75, 76, 77, 78] (by decide +kernel) (by decide +kernel)
set_option maxRecDepth 20000 in
theorem gX6_account_X1_allTons : GoodIn wsX6_account (wsV RX6 269 RX1 yX1_allTons wsX1_allTons) := goodIn_app (goodIn_of _ (by decide +kernel)) ggX6_account_X1_allTons
set_option maxRecDepth 20000 in
theorem ggX6_account_X4_allLyingTons : GoodIn wsX6_account wsX4_allLyingTons := goodIn_r _ [32, 33, 89, 90, 91, 92, 93, 94, 95, 96, 97] (by decide +kernel) (by decide +kernel)
set_option maxRecDepth 20000 in
theorem gX6_account_X4_allLyingTons : GoodIn wsX6_account (wsV RX6 272 RX4 yX4_allLyingTons wsX4_allLyingTons) := goodIn_app (goodIn_of _ (by decide +kernel)) ggX6_account_X4_allLyingTons
set_option maxRecDepth 20000 in
theorem ggX6_account_X1_allRoom : GoodIn wsX6_account wsX1_allRoom := goodIn_r _ [37, 20, 38, 39, 40, 18, 41, 21, 42, 43, 71, 72, 73, 74, 75, 76, 77, 78] (by decide +kernel) (by decide +kernel)
set_option maxRecDepth 20000 in
theorem gX6_account_X1_allRoom : GoodIn wsX6_account (wsV RX6 275 RX1 yX1_allRoom wsX1_allRoom) := goodIn_app (goodIn_of _ (by decide +kernel)) ggX6_account_X1_allRoom
set_option maxRecDepth 20000 in
theorem ggX6_account_X6_hotPiers : GoodIn wsX6_account wsX6_hotPiers := goodIn_r _ [48, 1, 2, 49, 50, 51, 47, 52, 53, 54, 55, 56, 6, 57, 58, 39, 40, 18, 41, 21, 42, 43, 59, 60, 61, 62, 63, 64, 65, 66, 67, 68, 69, 70, 71, 72, 73, 74, 75, 76, 77, 78, 89, 90, 91, 92, 93, 94, 95, 96, 97] (by decide +kernel) (by decide +kernel)
set_option maxRecDepth 20000 in
theorem gX6_account_X6_hotPiers : GoodIn wsX6_account (wsV RX6 284 RX6 yX6_hotPiers wsX6_hotPiers) := goodIn_app (goodIn_of _ (by decide +kernel)) ggX6_account_X6_hotPiers
theorem dX6_account_0 : decode cX6_account 0 = .ok (.iload_n 1, 1) := by decide +kernel
theorem dX6_account_1 : decode cX6_account 1 = .ok (.tableswitch 208 0 14 #[75, 83, 91, 99, 107, 115, 123, 147, 155, 163, 171, 179, 187, 192, 200], 75) := by decide +kernel
theorem dX6_account_76 : decode cX6_account 76 = .ok (.aload_n 0, 1) := by decide +kernel
theorem dX6_account_77 : decode cX6_account 77 = .ok (.getfield 12, 3) := by decide +kernel
theorem dX6_account_80 : decode cX6_account 80 = .ok (.getfield 186, 3) := by decide +kernel
theorem dX6_account_83 : decode cX6_account 83 = .ok (.ireturn, 1) := by decide +kernel
theorem dX6_account_84 : decode cX6_account 84 = .ok (.aload_n 0, 1) := by decide +kernel
theorem dX6_account_85 : decode cX6_account 85 = .ok (.getfield 12, 3) := by decide +kernel
theorem dX6_account_88 : decode cX6_account 88 = .ok (.invokevirtual 260, 3) := by decide +kernel
theorem dX6_account_91 : decode cX6_account 91 = .ok (.ireturn, 1) := by decide +kernel
theorem dX6_account_92 : decode cX6_account 92 = .ok (.aload_n 0, 1) := by decide +kernel
theorem dX6_account_93 : decode cX6_account 93 = .ok (.getfield 19, 3) := by decide +kernel
theorem dX6_account_96 : decode cX6_account 96 = .ok (.getfield 165, 3) := by decide +kernel
theorem dX6_account_99 : decode cX6_account 99 = .ok (.ireturn, 1) := by decide +kernel
theorem dX6_account_100 : decode cX6_account 100 = .ok (.aload_n 0, 1) := by decide +kernel
theorem dX6_account_101 : decode cX6_account 101 = .ok (.getfield 12, 3) := by decide +kernel
theorem dX6_account_104 : decode cX6_account 104 = .ok (.getfield 252, 3) := by decide +kernel
theorem dX6_account_107 : decode cX6_account 107 = .ok (.ireturn, 1) := by decide +kernel
theorem dX6_account_108 : decode cX6_account 108 = .ok (.aload_n 0, 1) := by decide +kernel
theorem dX6_account_109 : decode cX6_account 109 = .ok (.getfield 26, 3) := by decide +kernel
theorem dX6_account_112 : decode cX6_account 112 = .ok (.getfield 263, 3) := by decide +kernel
theorem dX6_account_115 : decode cX6_account 115 = .ok (.ireturn, 1) := by decide +kernel
theorem dX6_account_116 : decode cX6_account 116 = .ok (.aload_n 0, 1) := by decide +kernel
theorem dX6_account_117 : decode cX6_account 117 = .ok (.getfield 26, 3) := by decide +kernel
theorem dX6_account_120 : decode cX6_account 120 = .ok (.getfield 266, 3) := by decide +kernel
theorem dX6_account_123 : decode cX6_account 123 = .ok (.ireturn, 1) := by decide +kernel
theorem dX6_account_124 : decode cX6_account 124 = .ok (.aload_n 0, 1) := by decide +kernel
theorem dX6_account_125 : decode cX6_account 125 = .ok (.getfield 12, 3) := by decide +kernel
theorem dX6_account_128 : decode cX6_account 128 = .ok (.getfield 252, 3) := by decide +kernel
theorem dX6_account_131 : decode cX6_account 131 = .ok (.aload_n 0, 1) := by decide +kernel
theorem dX6_account_132 : decode cX6_account 132 = .ok (.getfield 26, 3) := by decide +kernel
theorem dX6_account_135 : decode cX6_account 135 = .ok (.getfield 263, 3) := by decide +kernel
theorem dX6_account_138 : decode cX6_account 138 = .ok (.isub, 1) := by decide +kernel
theorem dX6_account_139 : decode cX6_account 139 = .ok (.aload_n 0, 1) := by decide +kernel
theorem dX6_account_140 : decode cX6_account 140 = .ok (.getfield 26, 3) := by decide +kernel
theorem dX6_account_143 : decode cX6_account 143 = .ok (.getfield 266, 3) := by decide +kernel
theorem dX6_account_146 : decode cX6_account 146 = .ok (.isub, 1) := by decide +kernel
theorem dX6_account_147 : decode cX6_account 147 = .ok (.ireturn, 1) := by decide +kernel
theorem dX6_account_148 : decode cX6_account 148 = .ok (.aload_n 0, 1) := by decide +kernel
theorem dX6_account_149 : decode cX6_account 149 = .ok (.getfield 12, 3) := by decide +kernel
