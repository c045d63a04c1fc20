theorem dX6_account_152 : decode cX6_account 152 = .ok (.invokevirtual 269, 3) := by decide +kernel
theorem dX6_account_155 : decode cX6_account 155 = .ok (.ireturn, 1) := by decide +kernel
theorem dX6_account_156 : decode cX6_account 156 = .ok (.aload_n 0, 1) := by decide +kernel
theorem dX6_account_157 : decode cX6_account 157 = .ok (.getfield 26, 3) := by decide +kernel
theorem dX6_account_160 : decode cX6_account 160 = .ok (.invokevirtual 272, 3) := by decide +kernel
theorem dX6_account_163 : decode cX6_account 163 = .ok (.ireturn, 1) := by decide +kernel
theorem dX6_account_164 : decode cX6_account 164 = .ok (.aload_n 0, 1) := by decide +kernel
theorem dX6_account_165 : decode cX6_account 165 = .ok (.getfield 12, 3) := by decide +kernel
theorem dX6_account_168 : decode cX6_account 168 = .ok (.invokevirtual 275, 3) := by decide +kernel
theorem dX6_account_171 : decode cX6_account 171 = .ok (.ireturn, 1) := by decide +kernel
theorem dX6_account_172 : decode cX6_account 172 = .ok (.aload_n 0, 1) := by decide +kernel
theorem dX6_account_173 : decode cX6_account 173 = .ok (.getfield 12, 3) := by decide +kernel
theorem dX6_account_176 : decode cX6_account 176 = .ok (.getfield 278, 3) := by decide +kernel
theorem dX6_account_179 : decode cX6_account 179 = .ok (.ireturn, 1) := by decide +kernel
theorem dX6_account_180 : decode cX6_account 180 = .ok (.aload_n 0, 1) := by decide +kernel
theorem dX6_account_181 : decode cX6_account 181 = .ok (.getfield 12, 3) := by decide +kernel
theorem dX6_account_184 : decode cX6_account 184 = .ok (.getfield 281, 3) := by decide +kernel
theorem dX6_account_187 : decode cX6_account 187 = .ok (.ireturn, 1) := by decide +kernel
theorem dX6_account_188 : decode cX6_account 188 = .ok (.aload_n 0, 1) := by decide +kernel
theorem dX6_account_189 : decode cX6_account 189 = .ok (.invokevirtual 284, 3) := by decide +kernel
theorem dX6_account_192 : decode cX6_account 192 = .ok (.ireturn, 1) := by decide +kernel
theorem dX6_account_193 : decode cX6_account 193 = .ok (.aload_n 0, 1) := by decide +kernel
theorem dX6_account_194 : decode cX6_account 194 = .ok (.getfield 49, 3) := by decide +kernel
theorem dX6_account_197 : decode cX6_account 197 = .ok (.getfield 214, 3) := by decide +kernel
theorem dX6_account_200 : decode cX6_account 200 = .ok (.ireturn, 1) := by decide +kernel
theorem dX6_account_201 : decode cX6_account 201 = .ok (.aload_n 0, 1) := by decide +kernel
theorem dX6_account_202 : decode cX6_account 202 = .ok (.getfield 39, 3) := by decide +kernel
theorem dX6_account_205 : decode cX6_account 205 = .ok (.getfield 287, 3) := by decide +kernel
theorem dX6_account_208 : decode cX6_account 208 = .ok (.ireturn, 1) := by decide +kernel
theorem dX6_account_209 : decode cX6_account 209 = .ok (.bipush (-12), 2) := by decide +kernel
theorem dX6_account_211 : decode cX6_account 211 = .ok (.ireturn, 1) := by decide +kernel
set_option maxRecDepth 20000 in
theorem ggX6_isBalanced_X6_homesAgree : GoodIn wsX6_isBalanced wsX6_homesAgree := goodIn_r _ [5, 6, 7, 8, 9, 10, 11, 12, 13, 14, 15, 16, 17, 18, 19, 20, 21, 22, 23, 24, 25, 26, 27, 28, 29, 30, 31, 32, 33, 129, 130, 131, 132, 133, 134, 135, 136, 137, 138, 139, 140, 141, 142, 143, 144, 145, 146, 147, 148, 149, 150, 151, 152, 153, 154, 155, 156, 157, 158] (by decide +kernel) (by decide +kernel)
set_option maxRecDepth 20000 in
theorem gX6_isBalanced_X6_homesAgree : GoodIn wsX6_isBalanced (wsV RX6 290 RX6 yX6_homesAgree wsX6_homesAgree) := goodIn_app (goodIn_of _ (by decide +kernel)) ggX6_isBalanced_X6_homesAgree
set_option maxRecDepth 20000 in
theorem ggX6_isBalanced_X6_stretchesFillTheRing : GoodIn wsX6_isBalanced wsX6_stretchesFillTheRing := goodIn_r _ [37, 6, 38, 8, 39, 40, 41, 18, 42, 25, 43, 20, 26, 44, 45, 46, 47, 48, 49, 50, 12, 51, 52, 53, 129, 130, 131, 132, 133, 134, 135, 136, 137, 138, 139, 140, 141, 142, 143, 144, 145, 146, 147, 148, 149, 150, 151, 152, 153, 154, 155, 156, 157, 158] (by decide +kernel) (by decide +kernel)
set_option maxRecDepth 20000 in
theorem gX6_isBalanced_X6_stretchesFillTheRing : GoodIn wsX6_isBalanced (wsV RX6 293 RX6 yX6_stretchesFillTheRing wsX6_stretchesFillTheRing) := goodIn_app (goodIn_of _ (by decide +kernel)) ggX6_isBalanced_X6_stretchesFillTheRing
set_option maxRecDepth 20000 in
theorem ggX6_isBalanced_X6_nothingExceedsItsRoom : GoodIn wsX6_isBalanced wsX6_nothingExceedsItsRoom := goodIn_r _ [57, 6, 38, 58, 59, 60, 61, 62, 12, 63, 53, 64, 65, 129, 130, 131, 132, 133, 134, 135, 136, 137, 138, 139, 140, 141, 142, 143, 144, 145, 146, 147, 148, 159, 160, 161, 162, 163, 164, 165, 166, 167] (by decide +kernel) (by decide +kernel)
set_option maxRecDepth 20000 in
theorem gX6_isBalanced_X6_nothingExceedsItsRoom : GoodIn wsX6_isBalanced (wsV RX6 296 RX6 yX6_nothingExceedsItsRoom wsX6_nothingExceedsItsRoom) := goodIn_app (goodIn_of _ (by decide +kernel)) ggX6_isBalanced_X6_nothingExceedsItsRoom
set_option maxRecDepth 20000 in
theorem ggX6_isBalanced_X6_closingsStayNear : GoodIn wsX6_isBalanced wsX6_closingsStayNear := goodIn_r _ [69, 6, 38, 70, 71, 72, 73, 4, 74, 8, 7, 58, 75, 76, 77, 78, 79, 18, 80, 25, 20, 43, 81, 82, 83, 84, 85, 86, 87, 88, 89, 90, 91, 92, 12, 93, 64, 94, 95, 96, 97, 53, 14, 98, 52, 99, 65, 100, 101, 102, 103, 104, 33, 105, 106, 26, 107, 108, 109, 110, 111, 112, 113, 114, 115, 116, 117, 118, 119, 27, 28, 120, 121, 122, 123, 124, 125, 126, 127, 128, 9, 10, 11, 13, 15, 16, 17, 19, 21, 22, 23, 24, 129, 130, 131, 132, 133, 134, 135, 136, 137, 138, 139, 140, 141, 142, 143, 144, 145, 146, 147, 148, 159, 160, 161, 162, 163, 164, 165, 166, 167, 149, 150, 151, 152, 153, 154, 155, 156, 157, 158] (by decide +kernel) (by decide +kernel)
set_option maxRecDepth 20000 in
theorem gX6_isBalanced_X6_closingsStayNear : GoodIn wsX6_isBalanced (wsV RX6 299 RX6 yX6_closingsStayNear wsX6_closingsStayNear) := goodIn_app (goodIn_of _ (by decide +kernel)) ggX6_isBalanced_X6_closingsStayNear
theorem dX6_isBalanced_0 : decode cX6_isBalanced 0 = .ok (.aload_n 0, 1) := by decide +kernel
theorem dX6_isBalanced_1 : decode cX6_isBalanced 1 = .ok (.invokevirtual 290, 3) := by decide +kernel
theorem dX6_isBalanced_4 : decode cX6_isBalanced 4 = .ok (.ifCond .eq 28, 3) := by decide +kernel
theorem dX6_isBalanced_7 : decode cX6_isBalanced 7 = .ok (.aload_n 0, 1) := by decide +kernel
theorem dX6_isBalanced_8 : decode cX6_isBalanced 8 = .ok (.invokevirtual 293, 3) := by decide +kernel
theorem dX6_isBalanced_11 : decode cX6_isBalanced 11 = .ok (.ifCond .eq 21, 3) := by decide +kernel
theorem dX6_isBalanced_14 : decode cX6_isBalanced 14 = .ok (.aload_n 0, 1) := by decide +kernel
theorem dX6_isBalanced_15 : decode cX6_isBalanced 15 = .ok (.invokevirtual 296, 3) := by decide +kernel
theorem dX6_isBalanced_18 : decode cX6_isBalanced 18 = .ok (.ifCond .eq 14, 3) := by decide +kernel
theorem dX6_isBalanced_21 : decode cX6_isBalanced 21 = .ok (.aload_n 0, 1) := by decide +kernel
theorem dX6_isBalanced_22 : decode cX6_isBalanced 22 = .ok (.invokevirtual 299, 3) := by decide +kernel
theorem dX6_isBalanced_25 : decode cX6_isBalanced 25 = .ok (.ifCond .eq 7, 3) := by decide +kernel
theorem dX6_isBalanced_28 : decode cX6_isBalanced 28 = .ok (.iconst 1, 1) := by decide +kernel
theorem dX6_isBalanced_29 : decode cX6_isBalanced 29 = .ok (.goto 4, 3) := by decide +kernel
theorem dX6_isBalanced_32 : decode cX6_isBalanced 32 = .ok (.iconst 0, 1) := by decide +kernel
theorem dX6_isBalanced_33 : decode cX6_isBalanced 33 = .ok (.ireturn, 1) := by decide +kernel
set_option maxRecDepth 20000 in
theorem ggX6_meanStretch_X1_openPiers : GoodIn wsX6_meanStretch wsX1_openPiers := goodIn_r _ [7, 8, 9, 22, 23, 24, 25, 26, 27, 28, 29] (by decide +kernel) (by decide +kernel)
set_option maxRecDepth 20000 in
theorem gX6_meanStretch_X1_openPiers : GoodIn wsX6_meanStretch (wsV RX6 260 RX1 yX1_openPiers wsX1_openPiers) := goodIn_app (goodIn_of _ (by decide +kernel)) ggX6_meanStretch_X1_openPiers
theorem dX6_meanStretch_0 : decode cX6_meanStretch 0 = .ok (.aload_n 0, 1) := by decide +kernel
theorem dX6_meanStretch_1 : decode cX6_meanStretch 1 = .ok (.getfield 12, 3) := by decide +kernel
theorem dX6_meanStretch_4 : decode cX6_meanStretch 4 = .ok (.invokevirtual 260, 3) := by decide +kernel
theorem dX6_meanStretch_7 : decode cX6_meanStretch 7 = .ok (.istore_n 1, 1) := by decide +kernel
theorem dX6_meanStretch_8 : decode cX6_meanStretch 8 = .ok (.iload_n 1, 1) := by decide +kernel
theorem dX6_meanStretch_9 : decode cX6_meanStretch 9 = .ok (.ifCond .ne 7, 3) := by decide +kernel
theorem dX6_meanStretch_12 : decode cX6_meanStretch 12 = .ok (.dconst 0, 1) := by decide +kernel
theorem dX6_meanStretch_13 : decode cX6_meanStretch 13 = .ok (.goto 9, 3) := by decide +kernel
theorem dX6_meanStretch_16 : decode cX6_meanStretch 16 = .ok (.ldc2_w 302, 3) := by decide +kernel
theorem dX6_meanStretch_19 : decode cX6_meanStretch 19 = .ok (.iload_n 1, 1) := by decide +kernel
theorem dX6_meanStretch_20 : decode cX6_meanStretch 20 = .ok (.i2d, 1) := by decide +kernel
theorem dX6_meanStretch_21 : decode cX6_meanStretch 21 = .ok (.ddiv, 1) := by decide +kernel
theorem dX6_meanStretch_22 : decode cX6_meanStretch 22 = .ok (.dreturn, 1) := by decide +kernel
set_option maxRecDepth 20000 in
theorem ggX6_takenShare_X1_allRoom : GoodIn wsX6_takenShare wsX1_allRoom := goodIn_r _ [7, 8, 9, 10, 11, 6, 12, 13, 14, 15, 34, 35, 36, 37, 38, 39, 40, 41] (by decide +kernel) (by decide +kernel)
set_option maxRecDepth 20000 in
theorem gX6_takenShare_X1_allRoom : GoodIn wsX6_takenShare (wsV RX6 275 RX1 yX1_allRoom wsX1_allRoom) := goodIn_app (goodIn_of _ (by decide +kernel)) ggX6_takenShare_X1_allRoom
set_option maxRecDepth 20000 in
theorem ggX6_takenShare_X4_allLyingTons : GoodIn wsX6_takenShare wsX4_allLyingTons := goodIn_r _ [20, 21, 42, 43, 44, 45, 46, 47, 48, 49, 50] (by decide +kernel) (by decide +kernel)
set_option maxRecDepth 20000 in
theorem gX6_takenShare_X4_allLyingTons : GoodIn wsX6_takenShare (wsV RX6 272 RX4 yX4_allLyingTons wsX4_allLyingTons) := goodIn_app (goodIn_of _ (by decide +kernel)) ggX6_takenShare_X4_allLyingTons
theorem dX6_takenShare_0 : decode cX6_takenShare 0 = .ok (.aload_n 0, 1) := by decide +kernel
theorem dX6_takenShare_1 : decode cX6_takenShare 1 = .ok (.getfield 12, 3) := by decide +kernel
theorem dX6_takenShare_4 : decode cX6_takenShare 4 = .ok (.invokevirtual 275, 3) := by decide +kernel
theorem dX6_takenShare_7 : decode cX6_takenShare 7 = .ok (.istore_n 1, 1) := by decide +kernel
theorem dX6_takenShare_8 : decode cX6_takenShare 8 = .ok (.iload_n 1, 1) := by decide +kernel
theorem dX6_takenShare_9 : decode cX6_takenShare 9 = .ok (.ifCond .ne 7, 3) := by decide +kernel
theorem dX6_takenShare_12 : decode cX6_takenShare 12 = .ok (.fconst 0, 1) := by decide +kernel
theorem dX6_takenShare_13 : decode cX6_takenShare 13 = .ok (.goto 14, 3) := by decide +kernel
theorem dX6_takenShare_16 : decode cX6_takenShare 16 = .ok (.aload_n 0, 1) := by decide +kernel
theorem dX6_takenShare_17 : decode cX6_takenShare 17 = .ok (.getfield 26, 3) := by decide +kernel
theorem dX6_takenShare_20 : decode cX6_takenShare 20 = .ok (.invokevirtual 272, 3) := by decide +kernel
theorem dX6_takenShare_23 : decode cX6_takenShare 23 = .ok (.i2f, 1) := by decide +kernel
theorem dX6_takenShare_24 : decode cX6_takenShare 24 = .ok (.iload_n 1, 1) := by decide +kernel
theorem dX6_takenShare_25 : decode cX6_takenShare 25 = .ok (.i2f, 1) := by decide +kernel
theorem dX6_takenShare_26 : decode cX6_takenShare 26 = .ok (.fdiv, 1) := by decide +kernel
theorem dX6_takenShare_27 : decode cX6_takenShare 27 = .ok (.freturn, 1) := by decide +kernel
set_option maxRecDepth 20000 in
theorem ggX6_joinPier_X6_refuse : GoodIn wsX6_joinPier wsX6_refuse := goodIn_r _ [7, 8, 9, 119, 120, 121, 122, 123, 124, 125, 126, 127, 128, 129, 130] (by decide +kernel) (by decide +kernel)
set_option maxRecDepth 20000 in
theorem gX6_joinPier_X6_refuse : GoodIn wsX6_joinPier (wsV RX6 241 RX6 yX6_refuse wsX6_refuse) := goodIn_app (goodIn_of _ (by decide +kernel)) ggX6_joinPier_X6_refuse
set_option maxRecDepth 20000 in
theorem ggX6_joinPier_X1_addPier : GoodIn wsX6_joinPier wsX1_addPier := goodIn_r _ [14, 15, 16, 17, 131, 132, 133, 134, 135, 136, 137, 138] (by decide +kernel) (by decide +kernel)
set_option maxRecDepth 20000 in
theorem gX6_joinPier_X1_addPier : GoodIn wsX6_joinPier (wsV RX6 192 RX1 yX1_addPier wsX1_addPier) := goodIn_app (goodIn_of _ (by decide +kernel)) ggX6_joinPier_X1_addPier
set_option maxRecDepth 20000 in
theorem ggX6_joinPier_X6_moveHomes : GoodIn wsX6_joinPier wsX6_moveHomes := goodIn_r _ [21, 22, 1, 23, 24, 25, 26, 27, 28, 29, 30, 31, 32, 33, 34, 35, 36, 37, 38, 39, 40, 41, 42, 43, 13, 44, 17, 16, 45, 46, 47, 48, 49, 50, 51, 52, 53, 54, 55, 56, 57, 58, 59, 60, 61, 62, 63, 64, 65, 66, 67, 68, 69, 70, 71, 72, 73, 74, 75, 76, 77, 78, 79, 80, 81, 82, 83, 84, 85, 86, 87, 88, 89, 90, 91, 92, 93, 94, 95, 96, 97, 98, 99, 100, 101, 102, 103, 104, 105, 106, 107, 108, 109, 110, 111, 112, 113, 114, 115, 116, 117, 118, 119, 120, 121, 122, 123, 124, 125, 126, 127, 128, 129, 130, 131, 132, 133, 134, 135, 136, 137, 138, 139, 140, 141, 142, 143, 144, 145, 146, 147, 148, 149, 150, 151, 152, 153, 154, 155, 156, 157] (by decide +kernel) (by decide +kernel)
set_option maxRecDepth 20000 in
theorem gX6_joinPier_X6_moveHomes : GoodIn wsX6_joinPier (wsV RX6 310 RX6 yX6_moveHomes wsX6_moveHomes) := goodIn_app (goodIn_of _ (by decide +kernel)) ggX6_joinPier_X6_moveHomes
theorem dX6_joinPier_0 : decode cX6_joinPier 0 = .ok (.iload_n 1, 1) := by decide +kernel
theorem dX6_joinPier_1 : decode cX6_joinPier 1 = .ok (.iconst 1, 1) := by decide +kernel
theorem dX6_joinPier_2 : decode cX6_joinPier 2 = .ok (.if_icmp .lt 8, 3) := by decide +kernel
theorem dX6_joinPier_5 : decode cX6_joinPier 5 = .ok (.iload_n 1, 1) := by decide +kernel
theorem dX6_joinPier_6 : decode cX6_joinPier 6 = .ok (.iconst 5, 1) := by decide +kernel
theorem dX6_joinPier_7 : decode cX6_joinPier 7 = .ok (.if_icmp .le 6, 3) := by decide +kernel
theorem dX6_joinPier_10 : decode cX6_joinPier 10 = .ok (.bipush (-12), 2) := by decide +kernel
theorem dX6_joinPier_12 : decode cX6_joinPier 12 = .ok (.ireturn, 1) := by decide +kernel
theorem dX6_joinPier_13 : decode cX6_joinPier 13 = .ok (.aload_n 0, 1) := by decide +kernel
theorem dX6_joinPier_14 : decode cX6_joinPier 14 = .ok (.getfield 12, 3) := by decide +kernel
theorem dX6_joinPier_17 : decode cX6_joinPier 17 = .ok (.getfield 186, 3) := by decide +kernel
theorem dX6_joinPier_20 : decode cX6_joinPier 20 = .ok (.bipush 8, 2) := by decide +kernel
theorem dX6_joinPier_22 : decode cX6_joinPier 22 = .ok (.if_icmp .ne 11, 3) := by decide +kernel
theorem dX6_joinPier_25 : decode cX6_joinPier 25 = .ok (.aload_n 0, 1) := by decide +kernel
theorem dX6_joinPier_26 : decode cX6_joinPier 26 = .ok (.iconst 1, 1) := by decide +kernel
theorem dX6_joinPier_27 : decode cX6_joinPier 27 = .ok (.bipush 8, 2) := by decide +kernel
theorem dX6_joinPier_29 : decode cX6_joinPier 29 = .ok (.invokevirtual 241, 3) := by decide +kernel
theorem dX6_joinPier_32 : decode cX6_joinPier 32 = .ok (.ireturn, 1) := by decide +kernel
theorem dX6_joinPier_33 : decode cX6_joinPier 33 = .ok (.aload_n 0, 1) := by decide +kernel
theorem dX6_joinPier_34 : decode cX6_joinPier 34 = .ok (.getfield 12, 3) := by decide +kernel
theorem dX6_joinPier_37 : decode cX6_joinPier 37 = .ok (.iload_n 1, 1) := by decide +kernel
theorem dX6_joinPier_38 : decode cX6_joinPier 38 = .ok (.invokevirtual 192, 3) := by decide +kernel
theorem dX6_joinPier_41 : decode cX6_joinPier 41 = .ok (.aload_n 0, 1) := by decide +kernel
theorem dX6_joinPier_42 : decode cX6_joinPier 42 = .ok (.invokevirtual 310, 3) := by decide +kernel
theorem dX6_joinPier_45 : decode cX6_joinPier 45 = .ok (.pop, 1) := by decide +kernel
theorem dX6_joinPier_46 : decode cX6_joinPier 46 = .ok (.aload_n 0, 1) := by decide +kernel
theorem dX6_joinPier_47 : decode cX6_joinPier 47 = .ok (.getfield 12, 3) := by decide +kernel
theorem dX6_joinPier_50 : decode cX6_joinPier 50 = .ok (.getfield 186, 3) := by decide +kernel
theorem dX6_joinPier_53 : decode cX6_joinPier 53 = .ok (.iconst 1, 1) := by decide +kernel
theorem dX6_joinPier_54 : decode cX6_joinPier 54 = .ok (.isub, 1) := by decide +kernel
theorem dX6_joinPier_55 : decode cX6_joinPier 55 = .ok (.ireturn, 1) := by decide +kernel
set_option maxRecDepth 20000 in
theorem ggX6_setOpened_X1_hasPier : GoodIn wsX6_setOpened wsX1_hasPier := goodIn_r _ [7, 8, 131, 132, 133, 134, 135, 136, 137, 138] (by decide +kernel) (by decide +kernel)
set_option maxRecDepth 20000 in
theorem gX6_setOpened_X1_hasPier : GoodIn wsX6_setOpened (wsV RX6 93 RX1 yX1_hasPier wsX1_hasPier) := goodIn_app (goodIn_of _ (by decide +kernel)) ggX6_setOpened_X1_hasPier
set_option maxRecDepth 20000 in
theorem ggX6_setOpened_X6_refuse : GoodIn wsX6_setOpened wsX6_refuse := goodIn_r _ [13, 14, 15, 119, 120, 121, 122, 123, 124, 125, 126, 127, 128, 129, 130] (by decide +kernel) (by decide +kernel)
set_option maxRecDepth 20000 in
theorem gX6_setOpened_X6_refuse : GoodIn wsX6_setOpened (wsV RX6 241 RX6 yX6_refuse wsX6_refuse) := goodIn_app (goodIn_of _ (by decide +kernel)) ggX6_setOpened_X6_refuse
set_option maxRecDepth 20000 in
theorem ggX6_setOpened_X6_moveHomes : GoodIn wsX6_setOpened wsX6_moveHomes := goodIn_r _ [19, 20, 1, 21, 22, 23, 24, 25, 26, 27, 28, 29, 30, 31, 32, 33, 34, 35, 36, 37, 38, 39, 40, 41, 6, 42, 43, 44, 45, 46, 47, 48, 49, 50, 51, 52, 53, 54, 55, 56, 57, 58, 59, 60, 61, 62, 63, 64, 65, 66, 67, 68, 69, 70, 71, 72, 73, 74, 75, 76, 77, 78, 79, 80, 81, 82, 83, 84, 85, 86, 87, 88, 89, 90, 91, 92, 93, 94, 95, 96, 97, 98, 99, 100, 101, 102, 103, 104, 105, 106, 107, 108, 109, 110, 111, 112, 113, 114, 115, 116, 117, 118, 119, 120, 121, 122, 123, 124, 125, 126, 127, 128, 129, 130, 131, 132, 133, 134, 135, 136, 137, 138, 139, 140, 141, 142, 143, 144, 145, 146, 147, 148, 149, 150, 151, 152, 153, 154, 155, 156, 157] (by decide +kernel) (by decide +kernel)
set_option maxRecDepth 20000 in
theorem gX6_setOpened_X6_moveHomes : GoodIn wsX6_setOpened (wsV RX6 310 RX6 yX6_moveHomes wsX6_moveHomes) := goodIn_app (goodIn_of _ (by decide +kernel)) ggX6_setOpened_X6_moveHomes
theorem dX6_setOpened_0 : decode cX6_setOpened 0 = .ok (.aload_n 0, 1) := by decide +kernel
theorem dX6_setOpened_1 : decode cX6_setOpened 1 = .ok (.getfield 12, 3) := by decide +kernel
theorem dX6_setOpened_4 : decode cX6_setOpened 4 = .ok (.iload_n 1, 1) := by decide +kernel
theorem dX6_setOpened_5 : decode cX6_setOpened 5 = .ok (.invokevirtual 93, 3) := by decide +kernel
theorem dX6_setOpened_8 : decode cX6_setOpened 8 = .ok (.ifCond .ne 6, 3) := by decide +kernel
theorem dX6_setOpened_11 : decode cX6_setOpened 11 = .ok (.bipush (-11), 2) := by decide +kernel
theorem dX6_setOpened_13 : decode cX6_setOpened 13 = .ok (.ireturn, 1) := by decide +kernel
theorem dX6_setOpened_14 : decode cX6_setOpened 14 = .ok (.aload_n 0, 1) := by decide +kernel
theorem dX6_setOpened_15 : decode cX6_setOpened 15 = .ok (.getfield 12, 3) := by decide +kernel
theorem dX6_setOpened_18 : decode cX6_setOpened 18 = .ok (.getfield 101, 3) := by decide +kernel
theorem dX6_setOpened_21 : decode cX6_setOpened 21 = .ok (.iload_n 1, 1) := by decide +kernel
theorem dX6_setOpened_22 : decode cX6_setOpened 22 = .ok (.baload, 1) := by decide +kernel
theorem dX6_setOpened_23 : decode cX6_setOpened 23 = .ok (.iload_n 2, 1) := by decide +kernel
theorem dX6_setOpened_24 : decode cX6_setOpened 24 = .ok (.if_icmp .ne 10, 3) := by decide +kernel
theorem dX6_setOpened_27 : decode cX6_setOpened 27 = .ok (.aload_n 0, 1) := by decide +kernel
theorem dX6_setOpened_28 : decode cX6_setOpened 28 = .ok (.iconst 3, 1) := by decide +kernel
theorem dX6_setOpened_29 : decode cX6_setOpened 29 = .ok (.iload_n 1, 1) := by decide +kernel
theorem dX6_setOpened_30 : decode cX6_setOpened 30 = .ok (.invokevirtual 241, 3) := by decide +kernel
theorem dX6_setOpened_33 : decode cX6_setOpened 33 = .ok (.ireturn, 1) := by decide +kernel
theorem dX6_setOpened_34 : decode cX6_setOpened 34 = .ok (.aload_n 0, 1) := by decide +kernel
theorem dX6_setOpened_35 : decode cX6_setOpened 35 = .ok (.getfield 12, 3) := by decide +kernel
theorem dX6_setOpened_38 : decode cX6_setOpened 38 = .ok (.getfield 101, 3) := by decide +kernel
theorem dX6_setOpened_41 : decode cX6_setOpened 41 = .ok (.iload_n 1, 1) := by decide +kernel
theorem dX6_setOpened_42 : decode cX6_setOpened 42 = .ok (.iload_n 2, 1) := by decide +kernel
theorem dX6_setOpened_43 : decode cX6_setOpened 43 = .ok (.bastore, 1) := by decide +kernel
theorem dX6_setOpened_44 : decode cX6_setOpened 44 = .ok (.aload_n 0, 1) := by decide +kernel
theorem dX6_setOpened_45 : decode cX6_setOpened 45 = .ok (.invokevirtual 310, 3) := by decide +kernel
theorem dX6_setOpened_48 : decode cX6_setOpened 48 = .ok (.ireturn, 1) := by decide +kernel
set_option maxRecDepth 20000 in
theorem ggX6_setBerths_X1_hasPier : GoodIn wsX6_setBerths wsX1_hasPier := goodIn_r _ [7, 8, 131, 132, 133, 134, 135, 136, 137, 138] (by decide +kernel) (by decide +kernel)
set_option maxRecDepth 20000 in
theorem gX6_setBerths_X1_hasPier : GoodIn wsX6_setBerths (wsV RX6 93 RX1 yX1_hasPier wsX1_hasPier) := goodIn_app (goodIn_of _ (by decide +kernel)) ggX6_setBerths_X1_hasPier
set_option maxRecDepth 20000 in
theorem ggX6_setBerths_X6_refuse : GoodIn wsX6_setBerths wsX6_refuse := goodIn_r _ [13, 14, 15, 119, 120, 121, 122, 123, 124, 125, 126, 127, 128, 129, 130] (by decide +kernel) (by decide +kernel)
set_option maxRecDepth 20000 in
theorem gX6_setBerths_X6_refuse : GoodIn wsX6_setBerths (wsV RX6 241 RX6 yX6_refuse wsX6_refuse) := goodIn_app (goodIn_of _ (by decide +kernel)) ggX6_setBerths_X6_refuse
set_option maxRecDepth 20000 in
theorem ggX6_setBerths_X6_moveHomes : GoodIn wsX6_setBerths wsX6_moveHomes := goodIn_r _ [19, 20, 1, 21, 22, 23, 24, 25, 26, 27, 28, 29, 30, 31, 32, 33, 34, 35, 36, 37, 38, 39, 40, 41, 6, 42, 43, 44, 45, 46, 47, 48, 49, 50, 51, 52, 53, 54, 55, 56, 57, 58, 59, 60, 61, 62, 63, 64, 65, 66, 67, 68, 69, 70, 71, 72, 73, 74, 75, 76, 77, 78, 79, 80, 81, 82, 83, 84, 85, 86, 87, 88, 89, 90, 91, 92, 93, 94, 95, 96, 97, 98, 99, 100, 101, 102, 103, 104, 105, 106, 107, 108, 109, 110, 111, 112, 113, 114, 115, 116, 117, 118, 119, 120, 121, 122, 123, 124, 125, 126, 127, 128, 129, 130, 131, 132, 133, 134, 135, 136, 137, 138, 139, 140, 141, 142, 143, 144, 145, 146, 147, 148, 149, 150, 151, 152, 153, 154, 155, 156, 157] (by decide +kernel) (by decide +kernel)
set_option maxRecDepth 20000 in
theorem gX6_setBerths_X6_moveHomes : GoodIn wsX6_setBerths (wsV RX6 310 RX6 yX6_moveHomes wsX6_moveHomes) := goodIn_app (goodIn_of _ (by decide +kernel)) ggX6_setBerths_X6_moveHomes
theorem dX6_setBerths_0 : decode cX6_setBerths 0 = .ok (.aload_n 0, 1) := by decide +kernel
theorem dX6_setBerths_1 : decode cX6_setBerths 1 = .ok (.getfield 12, 3) := by decide +kernel
theorem dX6_setBerths_4 : decode cX6_setBerths 4 = .ok (.iload_n 1, 1) := by decide +kernel
theorem dX6_setBerths_5 : decode cX6_setBerths 5 = .ok (.invokevirtual 93, 3) := by decide +kernel
theorem dX6_setBerths_8 : decode cX6_setBerths 8 = .ok (.ifCond .ne 6, 3) := by decide +kernel
theorem dX6_setBerths_11 : decode cX6_setBerths 11 = .ok (.bipush (-11), 2) := by decide +kernel
theorem dX6_setBerths_13 : decode cX6_setBerths 13 = .ok (.ireturn, 1) := by decide +kernel
theorem dX6_setBerths_14 : decode cX6_setBerths 14 = .ok (.iload_n 2, 1) := by decide +kernel
theorem dX6_setBerths_15 : decode cX6_setBerths 15 = .ok (.iconst 1, 1) := by decide +kernel
theorem dX6_setBerths_16 : decode cX6_setBerths 16 = .ok (.if_icmp .lt 8, 3) := by decide +kernel
theorem dX6_setBerths_19 : decode cX6_setBerths 19 = .ok (.iload_n 2, 1) := by decide +kernel
theorem dX6_setBerths_20 : decode cX6_setBerths 20 = .ok (.iconst 5, 1) := by decide +kernel
theorem dX6_setBerths_21 : decode cX6_setBerths 21 = .ok (.if_icmp .le 6, 3) := by decide +kernel
theorem dX6_setBerths_24 : decode cX6_setBerths 24 = .ok (.bipush (-12), 2) := by decide +kernel
theorem dX6_setBerths_26 : decode cX6_setBerths 26 = .ok (.ireturn, 1) := by decide +kernel
theorem dX6_setBerths_27 : decode cX6_setBerths 27 = .ok (.aload_n 0, 1) := by decide +kernel
theorem dX6_setBerths_28 : decode cX6_setBerths 28 = .ok (.getfield 12, 3) := by decide +kernel
theorem dX6_setBerths_31 : decode cX6_setBerths 31 = .ok (.getfield 97, 3) := by decide +kernel
theorem dX6_setBerths_34 : decode cX6_setBerths 34 = .ok (.iload_n 1, 1) := by decide +kernel
theorem dX6_setBerths_35 : decode cX6_setBerths 35 = .ok (.iaload, 1) := by decide +kernel
theorem dX6_setBerths_36 : decode cX6_setBerths 36 = .ok (.iload_n 2, 1) := by decide +kernel
theorem dX6_setBerths_37 : decode cX6_setBerths 37 = .ok (.if_icmp .ne 10, 3) := by decide +kernel
theorem dX6_setBerths_40 : decode cX6_setBerths 40 = .ok (.aload_n 0, 1) := by decide +kernel
theorem dX6_setBerths_41 : decode cX6_setBerths 41 = .ok (.iconst 3, 1) := by decide +kernel
theorem dX6_setBerths_42 : decode cX6_setBerths 42 = .ok (.iload_n 2, 1) := by decide +kernel
theorem dX6_setBerths_43 : decode cX6_setBerths 43 = .ok (.invokevirtual 241, 3) := by decide +kernel
theorem dX6_setBerths_46 : decode cX6_setBerths 46 = .ok (.ireturn, 1) := by decide +kernel
theorem dX6_setBerths_47 : decode cX6_setBerths 47 = .ok (.aload_n 0, 1) := by decide +kernel
theorem dX6_setBerths_48 : decode cX6_setBerths 48 = .ok (.getfield 12, 3) := by decide +kernel
theorem dX6_setBerths_51 : decode cX6_setBerths 51 = .ok (.getfield 97, 3) := by decide +kernel
theorem dX6_setBerths_54 : decode cX6_setBerths 54 = .ok (.iload_n 1, 1) := by decide +kernel
theorem dX6_setBerths_55 : decode cX6_setBerths 55 = .ok (.iload_n 2, 1) := by decide +kernel
theorem dX6_setBerths_56 : decode cX6_setBerths 56 = .ok (.iastore, 1) := by decide +kernel
theorem dX6_setBerths_57 : decode cX6_setBerths 57 = .ok (.aload_n 0, 1) := by decide +kernel
theorem dX6_setBerths_58 : decode cX6_setBerths 58 = .ok (.invokevirtual 310, 3) := by decide +kernel
theorem dX6_setBerths_61 : decode cX6_setBerths 61 = .ok (.ireturn, 1) := by decide +kernel
set_option maxRecDepth 20000 in
theorem ggX6_setBerthTons_X6_refuse : GoodIn wsX6_setBerthTons wsX6_refuse := goodIn_r _ [9, 10, 11, 79, 80, 81, 82, 83, 84, 85, 86, 87, 88, 89, 90] (by decide +kernel) (by decide +kernel)
set_option maxRecDepth 20000 in
theorem gX6_setBerthTons_X6_refuse : GoodIn wsX6_setBerthTons (wsV RX6 241 RX6 yX6_refuse wsX6_refuse) := goodIn_app (goodIn_of _ (by decide +kernel)) ggX6_setBerthTons_X6_refuse
set_option maxRecDepth 20000 in
theorem ggX6_setBerthTons_X4_settle : GoodIn wsX6_setBerthTons wsX4_settle := goodIn_r _ [16, 17, 18, 19, 20, 21, 22, 23, 24, 25, 26, 27, 28, 29, 30, 31, 32, 33, 34, 35, 36, 37, 38, 39, 40, 41, 42, 43, 44, 45, 46, 47, 48, 49, 50, 51, 52, 15, 53, 54, 55, 56, 57, 58, 59, 60, 61, 62, 63, 64, 65, 66, 67, 68, 69, 70, 71, 72, 73, 74, 75, 76, 77, 78, 99, 100, 101, 102, 103, 104, 105, 106, 107, 91, 92, 93, 94, 95, 96, 97, 98, 108, 109, 110, 111, 112, 113, 114, 115, 116, 117] (by decide +kernel) (by decide +kernel)
set_option maxRecDepth 20000 in
theorem gX6_setBerthTons_X4_settle : GoodIn wsX6_setBerthTons (wsV RX6 313 RX4 yX4_settle wsX4_settle) := goodIn_app (goodIn_of _ (by decide +kernel)) ggX6_setBerthTons_X4_settle
theorem dX6_setBerthTons_0 : decode cX6_setBerthTons 0 = .ok (.iload_n 1, 1) := by decide +kernel
theorem dX6_setBerthTons_1 : decode cX6_setBerthTons 1 = .ok (.bipush 10, 2) := by decide +kernel
theorem dX6_setBerthTons_3 : decode cX6_setBerthTons 3 = .ok (.if_icmp .lt 10, 3) := by decide +kernel
theorem dX6_setBerthTons_6 : decode cX6_setBerthTons 6 = .ok (.iload_n 1, 1) := by decide +kernel
theorem dX6_setBerthTons_7 : decode cX6_setBerthTons 7 = .ok (.sipush 200, 3) := by decide +kernel
theorem dX6_setBerthTons_10 : decode cX6_setBerthTons 10 = .ok (.if_icmp .le 6, 3) := by decide +kernel
theorem dX6_setBerthTons_13 : decode cX6_setBerthTons 13 = .ok (.bipush (-12), 2) := by decide +kernel
theorem dX6_setBerthTons_15 : decode cX6_setBerthTons 15 = .ok (.ireturn, 1) := by decide +kernel
theorem dX6_setBerthTons_16 : decode cX6_setBerthTons 16 = .ok (.aload_n 0, 1) := by decide +kernel
theorem dX6_setBerthTons_17 : decode cX6_setBerthTons 17 = .ok (.getfield 12, 3) := by decide +kernel
theorem dX6_setBerthTons_20 : decode cX6_setBerthTons 20 = .ok (.getfield 281, 3) := by decide +kernel
theorem dX6_setBerthTons_23 : decode cX6_setBerthTons 23 = .ok (.istore_n 2, 1) := by decide +kernel
theorem dX6_setBerthTons_24 : decode cX6_setBerthTons 24 = .ok (.iload_n 2, 1) := by decide +kernel
theorem dX6_setBerthTons_25 : decode cX6_setBerthTons 25 = .ok (.iload_n 1, 1) := by decide +kernel
theorem dX6_setBerthTons_26 : decode cX6_setBerthTons 26 = .ok (.if_icmp .ne 10, 3) := by decide +kernel
theorem dX6_setBerthTons_29 : decode cX6_setBerthTons 29 = .ok (.aload_n 0, 1) := by decide +kernel
theorem dX6_setBerthTons_30 : decode cX6_setBerthTons 30 = .ok (.iconst 3, 1) := by decide +kernel
theorem dX6_setBerthTons_31 : decode cX6_setBerthTons 31 = .ok (.iload_n 1, 1) := by decide +kernel
theorem dX6_setBerthTons_32 : decode cX6_setBerthTons 32 = .ok (.invokevirtual 241, 3) := by decide +kernel
theorem dX6_setBerthTons_35 : decode cX6_setBerthTons 35 = .ok (.ireturn, 1) := by decide +kernel
theorem dX6_setBerthTons_36 : decode cX6_setBerthTons 36 = .ok (.aload_n 0, 1) := by decide +kernel
theorem dX6_setBerthTons_37 : decode cX6_setBerthTons 37 = .ok (.getfield 12, 3) := by decide +kernel
theorem dX6_setBerthTons_40 : decode cX6_setBerthTons 40 = .ok (.iload_n 1, 1) := by decide +kernel
theorem dX6_setBerthTons_41 : decode cX6_setBerthTons 41 = .ok (.putfield 281, 3) := by decide +kernel
theorem dX6_setBerthTons_44 : decode cX6_setBerthTons 44 = .ok (.aload_n 0, 1) := by decide +kernel
theorem dX6_setBerthTons_45 : decode cX6_setBerthTons 45 = .ok (.getfield 26, 3) := by decide +kernel
theorem dX6_setBerthTons_48 : decode cX6_setBerthTons 48 = .ok (.aload_n 0, 1) := by decide +kernel
theorem dX6_setBerthTons_49 : decode cX6_setBerthTons 49 = .ok (.getfield 12, 3) := by decide +kernel
theorem dX6_setBerthTons_52 : decode cX6_setBerthTons 52 = .ok (.aload_n 0, 1) := by decide +kernel
theorem dX6_setBerthTons_53 : decode cX6_setBerthTons 53 = .ok (.getfield 19, 3) := by decide +kernel
theorem dX6_setBerthTons_56 : decode cX6_setBerthTons 56 = .ok (.invokevirtual 313, 3) := by decide +kernel
theorem dX6_setBerthTons_59 : decode cX6_setBerthTons 59 = .ok (.iload_n 2, 1) := by decide +kernel
theorem dX6_setBerthTons_60 : decode cX6_setBerthTons 60 = .ok (.ireturn, 1) := by decide +kernel
set_option maxRecDepth 20000 in
theorem ggX6_letCome_X1_bargeNamed : GoodIn wsX6_letCome wsX1_bargeNamed := goodIn_r _ [9, 10, 11, 101, 102, 103, 104, 105, 106, 107, 108] (by decide +kernel) (by decide +kernel)
set_option maxRecDepth 20000 in
theorem gX6_letCome_X1_bargeNamed : GoodIn wsX6_letCome (wsV RX6 317 RX1 yX1_bargeNamed wsX1_bargeNamed) := goodIn_app (goodIn_of _ (by decide +kernel)) ggX6_letCome_X1_bargeNamed
set_option maxRecDepth 20000 in
theorem ggX6_letCome_X6_refuse : GoodIn wsX6_letCome wsX6_refuse := goodIn_r _ [16, 17, 18, 89, 90, 91, 92, 93, 94, 95, 96, 97, 98, 99, 100] (by decide +kernel) (by decide +kernel)
set_option maxRecDepth 20000 in
theorem gX6_letCome_X6_refuse : GoodIn wsX6_letCome (wsV RX6 241 RX6 yX6_refuse wsX6_refuse) := goodIn_app (goodIn_of _ (by decide +kernel)) ggX6_letCome_X6_refuse
set_option maxRecDepth 20000 in
theorem ggX6_letCome_X1_addBarge : GoodIn wsX6_letCome wsX1_addBarge := goodIn_r _ [22, 10, 11, 23, 101, 102, 103, 104, 105, 106, 107, 108] (by decide +kernel) (by decide +kernel)
set_option maxRecDepth 20000 in
theorem gX6_letCome_X1_addBarge : GoodIn wsX6_letCome (wsV RX6 320 RX1 yX1_addBarge wsX1_addBarge) := goodIn_app (goodIn_of _ (by decide +kernel)) ggX6_letCome_X1_addBarge
set_option maxRecDepth 20000 in
theorem ggX6_letCome_X4_settle : GoodIn wsX6_letCome wsX4_settle := goodIn_r _ [28, 29, 30, 31, 32, 33, 34, 35, 36, 37, 38, 39, 40, 41, 42, 43, 44, 8, 45, 11, 46, 47, 48, 49, 50, 51, 52, 53, 54, 55, 56, 57, 58, 59, 60, 61, 62, 27, 63, 64, 65, 66, 67, 68, 69, 70, 71, 72, 73, 74, 75, 76, 77, 78, 79, 80, 81, 82, 83, 84, 85, 86, 87, 88, 109, 110, 111, 112, 113, 114, 115, 116, 117, 101, 102, 103, 104, 105, 106, 107, 108, 118, 119, 120, 121, 122, 123, 124, 125, 126, 127] (by decide +kernel) (by decide +kernel)
set_option maxRecDepth 20000 in
theorem gX6_letCome_X4_settle : GoodIn wsX6_letCome (wsV RX6 313 RX4 yX4_settle wsX4_settle) := goodIn_app (goodIn_of _ (by decide +kernel)) ggX6_letCome_X4_settle
theorem dX6_letCome_0 : decode cX6_letCome 0 = .ok (.iload_n 1, 1) := by decide +kernel
theorem dX6_letCome_1 : decode cX6_letCome 1 = .ok (.ifCond .lt 21, 3) := by decide +kernel
theorem dX6_letCome_4 : decode cX6_letCome 4 = .ok (.iload_n 1, 1) := by decide +kernel
theorem dX6_letCome_5 : decode cX6_letCome 5 = .ok (.sipush 9999, 3) := by decide +kernel
theorem dX6_letCome_8 : decode cX6_letCome 8 = .ok (.if_icmp .gt 14, 3) := by decide +kernel
theorem dX6_letCome_11 : decode cX6_letCome 11 = .ok (.iload_n 2, 1) := by decide +kernel
theorem dX6_letCome_12 : decode cX6_letCome 12 = .ok (.iconst 1, 1) := by decide +kernel
theorem dX6_letCome_13 : decode cX6_letCome 13 = .ok (.if_icmp .lt 9, 3) := by decide +kernel
theorem dX6_letCome_16 : decode cX6_letCome 16 = .ok (.iload_n 2, 1) := by decide +kernel
theorem dX6_letCome_17 : decode cX6_letCome 17 = .ok (.bipush 99, 2) := by decide +kernel
theorem dX6_letCome_19 : decode cX6_letCome 19 = .ok (.if_icmp .le 6, 3) := by decide +kernel
theorem dX6_letCome_22 : decode cX6_letCome 22 = .ok (.bipush (-12), 2) := by decide +kernel
theorem dX6_letCome_24 : decode cX6_letCome 24 = .ok (.ireturn, 1) := by decide +kernel
theorem dX6_letCome_25 : decode cX6_letCome 25 = .ok (.aload_n 0, 1) := by decide +kernel
theorem dX6_letCome_26 : decode cX6_letCome 26 = .ok (.getfield 12, 3) := by decide +kernel
theorem dX6_letCome_29 : decode cX6_letCome 29 = .ok (.iload_n 1, 1) := by decide +kernel
theorem dX6_letCome_30 : decode cX6_letCome 30 = .ok (.invokevirtual 317, 3) := by decide +kernel
theorem dX6_letCome_33 : decode cX6_letCome 33 = .ok (.istore_n 3, 1) := by decide +kernel
theorem dX6_letCome_34 : decode cX6_letCome 34 = .ok (.iload_n 3, 1) := by decide +kernel
theorem dX6_letCome_35 : decode cX6_letCome 35 = .ok (.iconst (-1), 1) := by decide +kernel
theorem dX6_letCome_36 : decode cX6_letCome 36 = .ok (.if_icmp .eq 10, 3) := by decide +kernel
theorem dX6_letCome_39 : decode cX6_letCome 39 = .ok (.aload_n 0, 1) := by decide +kernel
theorem dX6_letCome_40 : decode cX6_letCome 40 = .ok (.iconst 2, 1) := by decide +kernel
theorem dX6_letCome_41 : decode cX6_letCome 41 = .ok (.iload_n 3, 1) := by decide +kernel
theorem dX6_letCome_42 : decode cX6_letCome 42 = .ok (.invokevirtual 241, 3) := by decide +kernel
theorem dX6_letCome_45 : decode cX6_letCome 45 = .ok (.ireturn, 1) := by decide +kernel
theorem dX6_letCome_46 : decode cX6_letCome 46 = .ok (.aload_n 0, 1) := by decide +kernel
theorem dX6_letCome_47 : decode cX6_letCome 47 = .ok (.getfield 12, 3) := by decide +kernel
theorem dX6_letCome_50 : decode cX6_letCome 50 = .ok (.getfield 252, 3) := by decide +kernel
theorem dX6_letCome_53 : decode cX6_letCome 53 = .ok (.bipush 24, 2) := by decide +kernel
theorem dX6_letCome_55 : decode cX6_letCome 55 = .ok (.if_icmp .ne 11, 3) := by decide +kernel
theorem dX6_letCome_58 : decode cX6_letCome 58 = .ok (.aload_n 0, 1) := by decide +kernel
theorem dX6_letCome_59 : decode cX6_letCome 59 = .ok (.iconst 1, 1) := by decide +kernel
theorem dX6_letCome_60 : decode cX6_letCome 60 = .ok (.bipush 24, 2) := by decide +kernel
theorem dX6_letCome_62 : decode cX6_letCome 62 = .ok (.invokevirtual 241, 3) := by decide +kernel
theorem dX6_letCome_65 : decode cX6_letCome 65 = .ok (.ireturn, 1) := by decide +kernel
theorem dX6_letCome_66 : decode cX6_letCome 66 = .ok (.aload_n 0, 1) := by decide +kernel
theorem dX6_letCome_67 : decode cX6_letCome 67 = .ok (.getfield 12, 3) := by decide +kernel
theorem dX6_letCome_70 : decode cX6_letCome 70 = .ok (.iload_n 1, 1) := by decide +kernel
theorem dX6_letCome_71 : decode cX6_letCome 71 = .ok (.iload_n 2, 1) := by decide +kernel
theorem dX6_letCome_72 : decode cX6_letCome 72 = .ok (.invokevirtual 320, 3) := by decide +kernel
theorem dX6_letCome_75 : decode cX6_letCome 75 = .ok (.aload_n 0, 1) := by decide +kernel
theorem dX6_letCome_76 : decode cX6_letCome 76 = .ok (.getfield 26, 3) := by decide +kernel
theorem dX6_letCome_79 : decode cX6_letCome 79 = .ok (.aload_n 0, 1) := by decide +kernel
theorem dX6_letCome_80 : decode cX6_letCome 80 = .ok (.getfield 12, 3) := by decide +kernel
theorem dX6_letCome_83 : decode cX6_letCome 83 = .ok (.aload_n 0, 1) := by decide +kernel
theorem dX6_letCome_84 : decode cX6_letCome 84 = .ok (.getfield 19, 3) := by decide +kernel
theorem dX6_letCome_87 : decode cX6_letCome 87 = .ok (.invokevirtual 313, 3) := by decide +kernel
theorem dX6_letCome_90 : decode cX6_letCome 90 = .ok (.aload_n 0, 1) := by decide +kernel
theorem dX6_letCome_91 : decode cX6_letCome 91 = .ok (.getfield 12, 3) := by decide +kernel
theorem dX6_letCome_94 : decode cX6_letCome 94 = .ok (.getfield 252, 3) := by decide +kernel
theorem dX6_letCome_97 : decode cX6_letCome 97 = .ok (.iconst 1, 1) := by decide +kernel
theorem dX6_letCome_98 : decode cX6_letCome 98 = .ok (.isub, 1) := by decide +kernel
theorem dX6_letCome_99 : decode cX6_letCome 99 = .ok (.ireturn, 1) := by decide +kernel
set_option maxRecDepth 20000 in
theorem ggX6_letGo_X1_hasBarge : GoodIn wsX6_letGo wsX1_hasBarge := goodIn_r _ [9, 10, 99, 100, 101, 102, 103, 104, 105, 106] (by decide +kernel) (by decide +kernel)
set_option maxRecDepth 20000 in
theorem gX6_letGo_X1_hasBarge : GoodIn wsX6_letGo (wsV RX6 141 RX1 yX1_hasBarge wsX1_hasBarge) := goodIn_app (goodIn_of _ (by decide +kernel)) ggX6_letGo_X1_hasBarge
set_option maxRecDepth 20000 in
theorem ggX6_letGo_X1_removeBarge : GoodIn wsX6_letGo wsX1_removeBarge := goodIn_r _ [14, 10, 15, 16, 17, 18, 19, 20, 21, 6, 7, 8, 9, 99, 100, 101, 102, 103, 104, 105, 106] (by decide +kernel) (by decide +kernel)
set_option maxRecDepth 20000 in
theorem gX6_letGo_X1_removeBarge : GoodIn wsX6_letGo (wsV RX6 324 RX1 yX1_removeBarge wsX1_removeBarge) := goodIn_app (goodIn_of _ (by decide +kernel)) ggX6_letGo_X1_removeBarge
set_option maxRecDepth 20000 in
theorem ggX6_letGo_X4_settle : GoodIn wsX6_letGo wsX4_settle := goodIn_r _ [26, 27, 28, 29, 30, 31, 32, 33, 34, 35, 36, 37, 38, 39, 40, 41, 42, 8, 43, 15, 44, 45, 46, 47, 48, 49, 50, 51, 52, 53, 54, 55, 56, 57, 58, 59, 60, 25, 61, 62, 63, 64, 65, 66, 67, 68, 69, 70, 71, 72, 73, 74, 75, 76, 77, 78, 79, 80, 81, 82, 83, 84, 85, 86, 107, 108, 109, 110, 111, 112, 113, 114, 115, 99, 100, 101, 102, 103, 104, 105, 106, 116, 117, 118, 119, 120, 121, 122, 123, 124, 125] (by decide +kernel) (by decide +kernel)
set_option maxRecDepth 20000 in
theorem gX6_letGo_X4_settle : GoodIn wsX6_letGo (wsV RX6 313 RX4 yX4_settle wsX4_settle) := goodIn_app (goodIn_of _ (by decide +kernel)) ggX6_letGo_X4_settle
theorem dX6_letGo_0 : decode cX6_letGo 0 = .ok (.aload_n 0, 1) := by decide +kernel
theorem dX6_letGo_1 : decode cX6_letGo 1 = .ok (.getfield 12, 3) := by decide +kernel
theorem dX6_letGo_4 : decode cX6_letGo 4 = .ok (.iload_n 1, 1) := by decide +kernel
theorem dX6_letGo_5 : decode cX6_letGo 5 = .ok (.invokevirtual 141, 3) := by decide +kernel
theorem dX6_letGo_8 : decode cX6_letGo 8 = .ok (.ifCond .ne 6, 3) := by decide +kernel
theorem dX6_letGo_11 : decode cX6_letGo 11 = .ok (.bipush (-11), 2) := by decide +kernel
theorem dX6_letGo_13 : decode cX6_letGo 13 = .ok (.ireturn, 1) := by decide +kernel
theorem dX6_letGo_14 : decode cX6_letGo 14 = .ok (.aload_n 0, 1) := by decide +kernel
theorem dX6_letGo_15 : decode cX6_letGo 15 = .ok (.getfield 12, 3) := by decide +kernel
theorem dX6_letGo_18 : decode cX6_letGo 18 = .ok (.iload_n 1, 1) := by decide +kernel
theorem dX6_letGo_19 : decode cX6_letGo 19 = .ok (.invokevirtual 324, 3) := by decide +kernel
theorem dX6_letGo_22 : decode cX6_letGo 22 = .ok (.aload_n 0, 1) := by decide +kernel
theorem dX6_letGo_23 : decode cX6_letGo 23 = .ok (.getfield 26, 3) := by decide +kernel
theorem dX6_letGo_26 : decode cX6_letGo 26 = .ok (.aload_n 0, 1) := by decide +kernel
theorem dX6_letGo_27 : decode cX6_letGo 27 = .ok (.getfield 12, 3) := by decide +kernel
theorem dX6_letGo_30 : decode cX6_letGo 30 = .ok (.aload_n 0, 1) := by decide +kernel
theorem dX6_letGo_31 : decode cX6_letGo 31 = .ok (.getfield 19, 3) := by decide +kernel
theorem dX6_letGo_34 : decode cX6_letGo 34 = .ok (.invokevirtual 313, 3) := by decide +kernel
theorem dX6_letGo_37 : decode cX6_letGo 37 = .ok (.aload_n 0, 1) := by decide +kernel
theorem dX6_letGo_38 : decode cX6_letGo 38 = .ok (.getfield 12, 3) := by decide +kernel
theorem dX6_letGo_41 : decode cX6_letGo 41 = .ok (.getfield 252, 3) := by decide +kernel
theorem dX6_letGo_44 : decode cX6_letGo 44 = .ok (.ireturn, 1) := by decide +kernel
set_option maxRecDepth 20000 in
theorem ggX6_setTons_X1_hasBarge : GoodIn wsX6_setTons wsX1_hasBarge := goodIn_r _ [9, 10, 96, 97, 98, 99, 100, 101, 102, 103] (by decide +kernel) (by decide +kernel)
set_option maxRecDepth 20000 in
theorem gX6_setTons_X1_hasBarge : GoodIn wsX6_setTons (wsV RX6 141 RX1 yX1_hasBarge wsX1_hasBarge) := goodIn_app (goodIn_of _ (by decide +kernel)) ggX6_setTons_X1_hasBarge
set_option maxRecDepth 20000 in
theorem ggX6_setTons_X6_refuse : GoodIn wsX6_setTons wsX6_refuse := goodIn_r _ [15, 16, 17, 84, 85, 86, 87, 88, 89, 90, 91, 92, 93, 94, 95] (by decide +kernel) (by decide +kernel)
set_option maxRecDepth 20000 in
theorem gX6_setTons_X6_refuse : GoodIn wsX6_setTons (wsV RX6 241 RX6 yX6_refuse wsX6_refuse) := goodIn_app (goodIn_of _ (by decide +kernel)) ggX6_setTons_X6_refuse
set_option maxRecDepth 20000 in
theorem ggX6_setTons_X4_settle : GoodIn wsX6_setTons wsX4_settle := goodIn_r _ [22, 23, 24, 25, 26, 27, 28, 29, 30, 31, 32, 33, 34, 35, 36, 37, 38, 8, 39, 40, 41, 42, 43, 44, 45, 46, 47, 48, 49, 50, 51, 52, 53, 54, 55, 56, 57, 21, 58, 59, 60, 61, 62, 63, 64, 65, 66, 67, 68, 69, 70, 71, 72, 73, 74, 75, 76, 77, 78, 79, 80, 81, 82, 83, 104, 105, 106, 107, 108, 109, 110, 111, 112, 96, 97, 98, 99, 100, 101, 102, 103, 113, 114, 115, 116, 117, 118, 119, 120, 121, 122] (by decide +kernel) (by decide +kernel)
set_option maxRecDepth 20000 in
theorem gX6_setTons_X4_settle : GoodIn wsX6_setTons (wsV RX6 313 RX4 yX4_settle wsX4_settle) := goodIn_app (goodIn_of _ (by decide +kernel)) ggX6_setTons_X4_settle
theorem dX6_setTons_0 : decode cX6_setTons 0 = .ok (.aload_n 0, 1) := by decide +kernel
theorem dX6_setTons_1 : decode cX6_setTons 1 = .ok (.getfield 12, 3) := by decide +kernel
theorem dX6_setTons_4 : decode cX6_setTons 4 = .ok (.iload_n 1, 1) := by decide +kernel
theorem dX6_setTons_5 : decode cX6_setTons 5 = .ok (.invokevirtual 141, 3) := by decide +kernel
theorem dX6_setTons_8 : decode cX6_setTons 8 = .ok (.ifCond .ne 6, 3) := by decide +kernel
theorem dX6_setTons_11 : decode cX6_setTons 11 = .ok (.bipush (-11), 2) := by decide +kernel
theorem dX6_setTons_13 : decode cX6_setTons 13 = .ok (.ireturn, 1) := by decide +kernel
theorem dX6_setTons_14 : decode cX6_setTons 14 = .ok (.iload_n 2, 1) := by decide +kernel
theorem dX6_setTons_15 : decode cX6_setTons 15 = .ok (.iconst 1, 1) := by decide +kernel
theorem dX6_setTons_16 : decode cX6_setTons 16 = .ok (.if_icmp .lt 9, 3) := by decide +kernel
theorem dX6_setTons_19 : decode cX6_setTons 19 = .ok (.iload_n 2, 1) := by decide +kernel
theorem dX6_setTons_20 : decode cX6_setTons 20 = .ok (.bipush 99, 2) := by decide +kernel
theorem dX6_setTons_22 : decode cX6_setTons 22 = .ok (.if_icmp .le 6, 3) := by decide +kernel
theorem dX6_setTons_25 : decode cX6_setTons 25 = .ok (.bipush (-12), 2) := by decide +kernel
theorem dX6_setTons_27 : decode cX6_setTons 27 = .ok (.ireturn, 1) := by decide +kernel
theorem dX6_setTons_28 : decode cX6_setTons 28 = .ok (.aload_n 0, 1) := by decide +kernel
theorem dX6_setTons_29 : decode cX6_setTons 29 = .ok (.getfield 12, 3) := by decide +kernel
theorem dX6_setTons_32 : decode cX6_setTons 32 = .ok (.getfield 147, 3) := by decide +kernel
theorem dX6_setTons_35 : decode cX6_setTons 35 = .ok (.iload_n 1, 1) := by decide +kernel
theorem dX6_setTons_36 : decode cX6_setTons 36 = .ok (.iaload, 1) := by decide +kernel
theorem dX6_setTons_37 : decode cX6_setTons 37 = .ok (.istore_n 3, 1) := by decide +kernel
theorem dX6_setTons_38 : decode cX6_setTons 38 = .ok (.iload_n 3, 1) := by decide +kernel
theorem dX6_setTons_39 : decode cX6_setTons 39 = .ok (.iload_n 2, 1) := by decide +kernel
theorem dX6_setTons_40 : decode cX6_setTons 40 = .ok (.if_icmp .ne 10, 3) := by decide +kernel
theorem dX6_setTons_43 : decode cX6_setTons 43 = .ok (.aload_n 0, 1) := by decide +kernel
theorem dX6_setTons_44 : decode cX6_setTons 44 = .ok (.iconst 3, 1) := by decide +kernel
theorem dX6_setTons_45 : decode cX6_setTons 45 = .ok (.iload_n 2, 1) := by decide +kernel
theorem dX6_setTons_46 : decode cX6_setTons 46 = .ok (.invokevirtual 241, 3) := by decide +kernel
theorem dX6_setTons_49 : decode cX6_setTons 49 = .ok (.ireturn, 1) := by decide +kernel
theorem dX6_setTons_50 : decode cX6_setTons 50 = .ok (.aload_n 0, 1) := by decide +kernel
theorem dX6_setTons_51 : decode cX6_setTons 51 = .ok (.getfield 12, 3) := by decide +kernel
theorem dX6_setTons_54 : decode cX6_setTons 54 = .ok (.getfield 147, 3) := by decide +kernel
theorem dX6_setTons_57 : decode cX6_setTons 57 = .ok (.iload_n 1, 1) := by decide +kernel
theorem dX6_setTons_58 : decode cX6_setTons 58 = .ok (.iload_n 2, 1) := by decide +kernel
theorem dX6_setTons_59 : decode cX6_setTons 59 = .ok (.iastore, 1) := by decide +kernel
theorem dX6_setTons_60 : decode cX6_setTons 60 = .ok (.aload_n 0, 1) := by decide +kernel
theorem dX6_setTons_61 : decode cX6_setTons 61 = .ok (.getfield 26, 3) := by decide +kernel
theorem dX6_setTons_64 : decode cX6_setTons 64 = .ok (.aload_n 0, 1) := by decide +kernel
theorem dX6_setTons_65 : decode cX6_setTons 65 = .ok (.getfield 12, 3) := by decide +kernel
theorem dX6_setTons_68 : decode cX6_setTons 68 = .ok (.aload_n 0, 1) := by decide +kernel
theorem dX6_setTons_69 : decode cX6_setTons 69 = .ok (.getfield 19, 3) := by decide +kernel
theorem dX6_setTons_72 : decode cX6_setTons 72 = .ok (.invokevirtual 313, 3) := by decide +kernel
theorem dX6_setTons_75 : decode cX6_setTons 75 = .ok (.iload_n 3, 1) := by decide +kernel
theorem dX6_setTons_76 : decode cX6_setTons 76 = .ok (.ireturn, 1) := by decide +kernel
theorem dX6_refuse_0 : decode cX6_refuse 0 = .ok (.aload_n 0, 1) := by decide +kernel
theorem dX6_refuse_1 : decode cX6_refuse 1 = .ok (.iload_n 1, 1) := by decide +kernel
theorem dX6_refuse_2 : decode cX6_refuse 2 = .ok (.putfield 64, 3) := by decide +kernel
theorem dX6_refuse_5 : decode cX6_refuse 5 = .ok (.aload_n 0, 1) := by decide +kernel
theorem dX6_refuse_6 : decode cX6_refuse 6 = .ok (.iload_n 2, 1) := by decide +kernel
theorem dX6_refuse_7 : decode cX6_refuse 7 = .ok (.putfield 68, 3) := by decide +kernel
theorem dX6_refuse_10 : decode cX6_refuse 10 = .ok (.bipush (-14), 2) := by decide +kernel
theorem dX6_refuse_12 : decode cX6_refuse 12 = .ok (.ireturn, 1) := by decide +kernel
set_option maxRecDepth 20000 in
theorem ggX6_keepIfDone_X2_keepDraft : GoodIn wsX6_keepIfDone wsX2_keepDraft := goodIn_r _ [6, 7, 8, 9, 10, 11, 12, 25, 26, 27] (by decide +kernel) (by decide +kernel)
set_option maxRecDepth 20000 in
theorem gX6_keepIfDone_X2_keepDraft : GoodIn wsX6_keepIfDone (wsV RX6 327 RX2 yX2_keepDraft wsX2_keepDraft) := goodIn_app (goodIn_of _ (by decide +kernel)) ggX6_keepIfDone_X2_keepDraft
theorem dX6_keepIfDone_0 : decode cX6_keepIfDone 0 = .ok (.iload_n 1, 1) := by decide +kernel
theorem dX6_keepIfDone_1 : decode cX6_keepIfDone 1 = .ok (.ifCond .lt 10, 3) := by decide +kernel
theorem dX6_keepIfDone_4 : decode cX6_keepIfDone 4 = .ok (.aload_n 0, 1) := by decide +kernel
theorem dX6_keepIfDone_5 : decode cX6_keepIfDone 5 = .ok (.getfield 39, 3) := by decide +kernel
theorem dX6_keepIfDone_8 : decode cX6_keepIfDone 8 = .ok (.invokevirtual 327, 3) := by decide +kernel
theorem dX6_keepIfDone_11 : decode cX6_keepIfDone 11 = .ok (.iload_n 1, 1) := by decide +kernel
theorem dX6_keepIfDone_12 : decode cX6_keepIfDone 12 = .ok (.ireturn, 1) := by decide +kernel
set_option maxRecDepth 20000 in
theorem ggX6_moveHomes_X0_build : GoodIn wsX6_moveHomes wsX0_build := goodIn_r _ [9, 10, 11, 12, 13, 14, 15, 16, 17, 18, 19, 20, 21, 22, 23, 24, 25, 26, 27, 28, 29, 30, 8, 31, 32, 33, 34, 35, 36, 37, 38, 39, 40, 41, 42, 43, 122, 123, 124, 125, 126, 127, 128, 129, 130, 131, 114, 115, 116, 117, 118, 119, 120, 121] (by decide +kernel) (by decide +kernel)
set_option maxRecDepth 20000 in
theorem gX6_moveHomes_X0_build : GoodIn wsX6_moveHomes (wsV RX6 196 RX0 yX0_build wsX0_build) := goodIn_app (goodIn_of _ (by decide +kernel)) ggX6_moveHomes_X0_build
set_option maxRecDepth 20000 in
theorem ggX6_moveHomes_X4_homesUnlike : GoodIn wsX6_moveHomes wsX4_homesUnlike := goodIn_r _ [48, 49, 50, 51, 52, 53, 24, 54, 55, 56, 57, 58, 8, 59, 15, 60, 61, 62, 63, 11, 14, 32, 33, 114, 115, 116, 117, 118, 119, 120, 121, 132, 133, 134, 135, 136, 137, 138, 139, 140, 122, 123, 124, 125, 126, 127, 128, 129, 130, 131] (by decide +kernel) (by decide +kernel)
set_option maxRecDepth 20000 in
theorem gX6_moveHomes_X4_homesUnlike : GoodIn wsX6_moveHomes (wsV RX6 199 RX4 yX4_homesUnlike wsX4_homesUnlike) := goodIn_app (goodIn_of _ (by decide +kernel)) ggX6_moveHomes_X4_homesUnlike
set_option maxRecDepth 20000 in
theorem ggX6_moveHomes_X4_settle : GoodIn wsX6_moveHomes wsX4_settle := goodIn_r _ [67, 68, 69, 70, 71, 72, 73, 49, 74, 75, 76, 18, 19, 20, 51, 52, 53, 24, 54, 55, 56, 57, 58, 8, 59, 15, 60, 61, 62, 63, 11, 14, 32, 33, 77, 78, 79, 47, 80, 50, 81, 82, 83, 84, 85, 86, 87, 88, 89, 90, 91, 92, 43, 93, 94, 95, 96, 26, 27, 97, 98, 99, 100, 101, 132, 133, 134, 135, 136, 137, 138, 139, 140, 114, 115, 116, 117, 118, 119, 120, 121, 122, 123, 124, 125, 126, 127, 128, 129, 130, 131] (by decide +kernel) (by decide +kernel)
set_option maxRecDepth 20000 in
theorem gX6_moveHomes_X4_settle : GoodIn wsX6_moveHomes (wsV RX6 313 RX4 yX4_settle wsX4_settle) := goodIn_app (goodIn_of _ (by decide +kernel)) ggX6_moveHomes_X4_settle
theorem dX6_moveHomes_0 : decode cX6_moveHomes 0 = .ok (.aload_n 0, 1) := by decide +kernel
theorem dX6_moveHomes_1 : decode cX6_moveHomes 1 = .ok (.getfield 19, 3) := by decide +kernel
theorem dX6_moveHomes_4 : decode cX6_moveHomes 4 = .ok (.aload_n 0, 1) := by decide +kernel
theorem dX6_moveHomes_5 : decode cX6_moveHomes 5 = .ok (.getfield 12, 3) := by decide +kernel
theorem dX6_moveHomes_8 : decode cX6_moveHomes 8 = .ok (.invokevirtual 196, 3) := by decide +kernel
theorem dX6_moveHomes_11 : decode cX6_moveHomes 11 = .ok (.aload_n 0, 1) := by decide +kernel
theorem dX6_moveHomes_12 : decode cX6_moveHomes 12 = .ok (.getfield 26, 3) := by decide +kernel
theorem dX6_moveHomes_15 : decode cX6_moveHomes 15 = .ok (.aload_n 0, 1) := by decide +kernel
theorem dX6_moveHomes_16 : decode cX6_moveHomes 16 = .ok (.getfield 12, 3) := by decide +kernel
theorem dX6_moveHomes_19 : decode cX6_moveHomes 19 = .ok (.aload_n 0, 1) := by decide +kernel
theorem dX6_moveHomes_20 : decode cX6_moveHomes 20 = .ok (.getfield 19, 3) := by decide +kernel
theorem dX6_moveHomes_23 : decode cX6_moveHomes 23 = .ok (.invokevirtual 199, 3) := by decide +kernel
theorem dX6_moveHomes_26 : decode cX6_moveHomes 26 = .ok (.istore_n 1, 1) := by decide +kernel
theorem dX6_moveHomes_27 : decode cX6_moveHomes 27 = .ok (.aload_n 0, 1) := by decide +kernel
theorem dX6_moveHomes_28 : decode cX6_moveHomes 28 = .ok (.getfield 12, 3) := by decide +kernel
theorem dX6_moveHomes_31 : decode cX6_moveHomes 31 = .ok (.dup, 1) := by decide +kernel
theorem dX6_moveHomes_32 : decode cX6_moveHomes 32 = .ok (.getfield 278, 3) := by decide +kernel
theorem dX6_moveHomes_35 : decode cX6_moveHomes 35 = .ok (.iload_n 1, 1) := by decide +kernel
theorem dX6_moveHomes_36 : decode cX6_moveHomes 36 = .ok (.iadd, 1) := by decide +kernel
theorem dX6_moveHomes_37 : decode cX6_moveHomes 37 = .ok (.putfield 278, 3) := by decide +kernel
theorem dX6_moveHomes_40 : decode cX6_moveHomes 40 = .ok (.aload_n 0, 1) := by decide +kernel
theorem dX6_moveHomes_41 : decode cX6_moveHomes 41 = .ok (.getfield 26, 3) := by decide +kernel
theorem dX6_moveHomes_44 : decode cX6_moveHomes 44 = .ok (.aload_n 0, 1) := by decide +kernel
theorem dX6_moveHomes_45 : decode cX6_moveHomes 45 = .ok (.getfield 12, 3) := by decide +kernel
theorem dX6_moveHomes_48 : decode cX6_moveHomes 48 = .ok (.aload_n 0, 1) := by decide +kernel
theorem dX6_moveHomes_49 : decode cX6_moveHomes 49 = .ok (.getfield 19, 3) := by decide +kernel
theorem dX6_moveHomes_52 : decode cX6_moveHomes 52 = .ok (.invokevirtual 313, 3) := by decide +kernel
theorem dX6_moveHomes_55 : decode cX6_moveHomes 55 = .ok (.iload_n 1, 1) := by decide +kernel
theorem dX6_moveHomes_56 : decode cX6_moveHomes 56 = .ok (.ireturn, 1) := by decide +kernel
set_option maxRecDepth 20000 in
theorem ggX6_supposeClosed_X1_takeFrom : GoodIn wsX6_supposeClosed wsX1_takeFrom := goodIn_r _ [9, 10, 11, 12, 13, 14, 15, 16, 17, 18, 19, 20, 21, 70, 71, 72, 73, 74, 75, 76, 77] (by decide +kernel) (by decide +kernel)
set_option maxRecDepth 20000 in
theorem gX6_supposeClosed_X1_takeFrom : GoodIn wsX6_supposeClosed (wsV RX6 189 RX1 yX1_takeFrom wsX1_takeFrom) := goodIn_app (goodIn_of _ (by decide +kernel)) ggX6_supposeClosed_X1_takeFrom
set_option maxRecDepth 20000 in
theorem ggX6_supposeClosed_X0_build : GoodIn wsX6_supposeClosed wsX0_build := goodIn_r _ [26, 27, 28, 29, 30, 31, 32, 33, 34, 35, 36, 37, 38, 39, 40, 8, 41, 15, 10, 42, 43, 44, 25, 45, 46, 47, 48, 49, 50, 51, 52, 53, 54, 55, 56, 57, 78, 79, 80, 81, 82, 83, 84, 85, 86, 87, 70, 71, 72, 73, 74, 75, 76, 77] (by decide +kernel) (by decide +kernel)
set_option maxRecDepth 20000 in
theorem gX6_supposeClosed_X0_build : GoodIn wsX6_supposeClosed (wsV RX6 196 RX0 yX0_build wsX0_build) := goodIn_app (goodIn_of _ (by decide +kernel)) ggX6_supposeClosed_X0_build
theorem dX6_supposeClosed_0 : decode cX6_supposeClosed 0 = .ok (.aload_n 0, 1) := by decide +kernel
theorem dX6_supposeClosed_1 : decode cX6_supposeClosed 1 = .ok (.getfield 30, 3) := by decide +kernel
theorem dX6_supposeClosed_4 : decode cX6_supposeClosed 4 = .ok (.aload_n 0, 1) := by decide +kernel
theorem dX6_supposeClosed_5 : decode cX6_supposeClosed 5 = .ok (.getfield 12, 3) := by decide +kernel
theorem dX6_supposeClosed_8 : decode cX6_supposeClosed 8 = .ok (.invokevirtual 189, 3) := by decide +kernel
theorem dX6_supposeClosed_11 : decode cX6_supposeClosed 11 = .ok (.aload_n 0, 1) := by decide +kernel
theorem dX6_supposeClosed_12 : decode cX6_supposeClosed 12 = .ok (.getfield 30, 3) := by decide +kernel
theorem dX6_supposeClosed_15 : decode cX6_supposeClosed 15 = .ok (.getfield 101, 3) := by decide +kernel
theorem dX6_supposeClosed_18 : decode cX6_supposeClosed 18 = .ok (.iload_n 1, 1) := by decide +kernel
theorem dX6_supposeClosed_19 : decode cX6_supposeClosed 19 = .ok (.iconst 0, 1) := by decide +kernel
theorem dX6_supposeClosed_20 : decode cX6_supposeClosed 20 = .ok (.bastore, 1) := by decide +kernel
theorem dX6_supposeClosed_21 : decode cX6_supposeClosed 21 = .ok (.aload_n 0, 1) := by decide +kernel
theorem dX6_supposeClosed_22 : decode cX6_supposeClosed 22 = .ok (.getfield 33, 3) := by decide +kernel
theorem dX6_supposeClosed_25 : decode cX6_supposeClosed 25 = .ok (.aload_n 0, 1) := by decide +kernel
theorem dX6_supposeClosed_26 : decode cX6_supposeClosed 26 = .ok (.getfield 30, 3) := by decide +kernel
theorem dX6_supposeClosed_29 : decode cX6_supposeClosed 29 = .ok (.invokevirtual 196, 3) := by decide +kernel
theorem dX6_supposeClosed_32 : decode cX6_supposeClosed 32 = .ok (.return_, 1) := by decide +kernel
set_option maxRecDepth 20000 in
theorem ggX6_isHot_X6_tonsBeyond : GoodIn wsX6_isHot wsX6_tonsBeyond := goodIn_r _ [5, 6, 7, 8, 9, 10, 11, 12, 13, 14, 15, 16, 17, 18, 19, 20, 21, 22, 23, 24, 25, 26, 27, 28, 29, 30, 31, 32, 33, 34, 35, 36, 37, 38, 39, 40, 41, 42, 43, 44, 45] (by decide +kernel) (by decide +kernel)
set_option maxRecDepth 20000 in
theorem gX6_isHot_X6_tonsBeyond : GoodIn wsX6_isHot (wsV RX6 339 RX6 yX6_tonsBeyond wsX6_tonsBeyond) := goodIn_app (goodIn_of _ (by decide +kernel)) ggX6_isHot_X6_tonsBeyond
theorem dX6_isHot_0 : decode cX6_isHot 0 = .ok (.aload_n 0, 1) := by decide +kernel
theorem dX6_isHot_1 : decode cX6_isHot 1 = .ok (.iload_n 1, 1) := by decide +kernel
theorem dX6_isHot_2 : decode cX6_isHot 2 = .ok (.invokevirtual 339, 3) := by decide +kernel
theorem dX6_isHot_5 : decode cX6_isHot 5 = .ok (.ifCond .le 7, 3) := by decide +kernel
theorem dX6_isHot_8 : decode cX6_isHot 8 = .ok (.iconst 1, 1) := by decide +kernel
theorem dX6_isHot_9 : decode cX6_isHot 9 = .ok (.goto 4, 3) := by decide +kernel
theorem dX6_isHot_12 : decode cX6_isHot 12 = .ok (.iconst 0, 1) := by decide +kernel
theorem dX6_isHot_13 : decode cX6_isHot 13 = .ok (.ireturn, 1) := by decide +kernel
set_option maxRecDepth 20000 in
theorem ggX6_hotPiers_X6_isHot : GoodIn wsX6_hotPiers wsX6_isHot := goodIn_r _ [7, 8, 9, 10, 6, 11, 12, 13, 1, 14, 15, 16, 17, 18, 19, 20, 21, 22, 23, 24, 25, 26, 27, 28, 29, 30, 31, 32, 33, 42, 43, 44, 45, 46, 47, 48, 49, 50, 34, 35, 36, 37, 38, 39, 40, 41] (by decide +kernel) (by decide +kernel)
set_option maxRecDepth 20000 in
theorem gX6_hotPiers_X6_isHot : GoodIn wsX6_hotPiers (wsV RX6 126 RX6 yX6_isHot wsX6_isHot) := goodIn_app (goodIn_of _ (by decide +kernel)) ggX6_hotPiers_X6_isHot
theorem dX6_hotPiers_0 : decode cX6_hotPiers 0 = .ok (.iconst 0, 1) := by decide +kernel
theorem dX6_hotPiers_1 : decode cX6_hotPiers 1 = .ok (.istore_n 1, 1) := by decide +kernel
theorem dX6_hotPiers_2 : decode cX6_hotPiers 2 = .ok (.iconst 0, 1) := by decide +kernel
theorem dX6_hotPiers_3 : decode cX6_hotPiers 3 = .ok (.istore_n 2, 1) := by decide +kernel
theorem dX6_hotPiers_4 : decode cX6_hotPiers 4 = .ok (.iload_n 2, 1) := by decide +kernel
theorem dX6_hotPiers_5 : decode cX6_hotPiers 5 = .ok (.aload_n 0, 1) := by decide +kernel
theorem dX6_hotPiers_6 : decode cX6_hotPiers 6 = .ok (.getfield 12, 3) := by decide +kernel
theorem dX6_hotPiers_9 : decode cX6_hotPiers 9 = .ok (.getfield 186, 3) := by decide +kernel
theorem dX6_hotPiers_12 : decode cX6_hotPiers 12 = .ok (.if_icmp .ge 20, 3) := by decide +kernel
theorem dX6_hotPiers_15 : decode cX6_hotPiers 15 = .ok (.aload_n 0, 1) := by decide +kernel
theorem dX6_hotPiers_16 : decode cX6_hotPiers 16 = .ok (.iload_n 2, 1) := by decide +kernel
theorem dX6_hotPiers_17 : decode cX6_hotPiers 17 = .ok (.invokevirtual 126, 3) := by decide +kernel
theorem dX6_hotPiers_20 : decode cX6_hotPiers 20 = .ok (.ifCond .eq 6, 3) := by decide +kernel
theorem dX6_hotPiers_23 : decode cX6_hotPiers 23 = .ok (.iinc 1 1, 3) := by decide +kernel
theorem dX6_hotPiers_26 : decode cX6_hotPiers 26 = .ok (.iinc 2 1, 3) := by decide +kernel
theorem dX6_hotPiers_29 : decode cX6_hotPiers 29 = .ok (.goto (-25), 3) := by decide +kernel
theorem dX6_hotPiers_32 : decode cX6_hotPiers 32 = .ok (.iload_n 1, 1) := by decide +kernel
theorem dX6_hotPiers_33 : decode cX6_hotPiers 33 = .ok (.ireturn, 1) := by decide +kernel
set_option maxRecDepth 20000 in
theorem ggX6_tonsBeyond_X1_roomOf : GoodIn wsX6_tonsBeyond wsX1_roomOf := goodIn_r _ [8, 9, 10, 11, 33, 34, 35, 36, 37, 38, 39, 40] (by decide +kernel) (by decide +kernel)
set_option maxRecDepth 20000 in
theorem gX6_tonsBeyond_X1_roomOf : GoodIn wsX6_tonsBeyond (wsV RX6 123 RX1 yX1_roomOf wsX1_roomOf) := goodIn_app (goodIn_of _ (by decide +kernel)) ggX6_tonsBeyond_X1_roomOf
theorem dX6_tonsBeyond_0 : decode cX6_tonsBeyond 0 = .ok (.aload_n 0, 1) := by decide +kernel
theorem dX6_tonsBeyond_1 : decode cX6_tonsBeyond 1 = .ok (.getfield 26, 3) := by decide +kernel
theorem dX6_tonsBeyond_4 : decode cX6_tonsBeyond 4 = .ok (.getfield 114, 3) := by decide +kernel
theorem dX6_tonsBeyond_7 : decode cX6_tonsBeyond 7 = .ok (.iload_n 1, 1) := by decide +kernel
theorem dX6_tonsBeyond_8 : decode cX6_tonsBeyond 8 = .ok (.iaload, 1) := by decide +kernel
theorem dX6_tonsBeyond_9 : decode cX6_tonsBeyond 9 = .ok (.aload_n 0, 1) := by decide +kernel
theorem dX6_tonsBeyond_10 : decode cX6_tonsBeyond 10 = .ok (.getfield 12, 3) := by decide +kernel
theorem dX6_tonsBeyond_13 : decode cX6_tonsBeyond 13 = .ok (.iload_n 1, 1) := by decide +kernel
theorem dX6_tonsBeyond_14 : decode cX6_tonsBeyond 14 = .ok (.invokevirtual 123, 3) := by decide +kernel
theorem dX6_tonsBeyond_17 : decode cX6_tonsBeyond 17 = .ok (.isub, 1) := by decide +kernel
theorem dX6_tonsBeyond_18 : decode cX6_tonsBeyond 18 = .ok (.ireturn, 1) := by decide +kernel
set_option maxRecDepth 20000 in
theorem ggX6_isHotter_X6_tonsBeyond : GoodIn wsX6_isHotter wsX6_tonsBeyond := goodIn_r _ [7, 8, 9, 1, 10, 11, 12, 13, 14, 15, 16, 17, 18, 19, 20, 21, 22, 23, 24, 25, 26, 27, 28, 29, 38, 39, 40, 41, 42, 43, 44, 45, 46, 30, 31, 32, 33, 34, 35, 36, 37] (by decide +kernel) (by decide +kernel)
set_option maxRecDepth 20000 in
theorem gX6_isHotter_X6_tonsBeyond : GoodIn wsX6_isHotter (wsV RX6 339 RX6 yX6_tonsBeyond wsX6_tonsBeyond) := goodIn_app (goodIn_of _ (by decide +kernel)) ggX6_isHotter_X6_tonsBeyond
theorem dX6_isHotter_0 : decode cX6_isHotter 0 = .ok (.aload_n 0, 1) := by decide +kernel
theorem dX6_isHotter_1 : decode cX6_isHotter 1 = .ok (.iload_n 1, 1) := by decide +kernel
theorem dX6_isHotter_2 : decode cX6_isHotter 2 = .ok (.invokevirtual 339, 3) := by decide +kernel
theorem dX6_isHotter_5 : decode cX6_isHotter 5 = .ok (.aload_n 0, 1) := by decide +kernel
theorem dX6_isHotter_6 : decode cX6_isHotter 6 = .ok (.iload_n 2, 1) := by decide +kernel
theorem dX6_isHotter_7 : decode cX6_isHotter 7 = .ok (.invokevirtual 339, 3) := by decide +kernel
theorem dX6_isHotter_10 : decode cX6_isHotter 10 = .ok (.if_icmp .eq 22, 3) := by decide +kernel
theorem dX6_isHotter_13 : decode cX6_isHotter 13 = .ok (.aload_n 0, 1) := by decide +kernel
theorem dX6_isHotter_14 : decode cX6_isHotter 14 = .ok (.iload_n 1, 1) := by decide +kernel
theorem dX6_isHotter_15 : decode cX6_isHotter 15 = .ok (.invokevirtual 339, 3) := by decide +kernel
theorem dX6_isHotter_18 : decode cX6_isHotter 18 = .ok (.aload_n 0, 1) := by decide +kernel
theorem dX6_isHotter_19 : decode cX6_isHotter 19 = .ok (.iload_n 2, 1) := by decide +kernel
theorem dX6_isHotter_20 : decode cX6_isHotter 20 = .ok (.invokevirtual 339, 3) := by decide +kernel
theorem dX6_isHotter_23 : decode cX6_isHotter 23 = .ok (.if_icmp .le 7, 3) := by decide +kernel
theorem dX6_isHotter_26 : decode cX6_isHotter 26 = .ok (.iconst 1, 1) := by decide +kernel
theorem dX6_isHotter_27 : decode cX6_isHotter 27 = .ok (.goto 4, 3) := by decide +kernel
theorem dX6_isHotter_30 : decode cX6_isHotter 30 = .ok (.iconst 0, 1) := by decide +kernel
theorem dX6_isHotter_31 : decode cX6_isHotter 31 = .ok (.ireturn, 1) := by decide +kernel
theorem dX6_isHotter_32 : decode cX6_isHotter 32 = .ok (.aload_n 0, 1) := by decide +kernel
theorem dX6_isHotter_33 : decode cX6_isHotter 33 = .ok (.getfield 12, 3) := by decide +kernel
theorem dX6_isHotter_36 : decode cX6_isHotter 36 = .ok (.getfield 97, 3) := by decide +kernel
theorem dX6_isHotter_39 : decode cX6_isHotter 39 = .ok (.iload_n 1, 1) := by decide +kernel
theorem dX6_isHotter_40 : decode cX6_isHotter 40 = .ok (.iaload, 1) := by decide +kernel
theorem dX6_isHotter_41 : decode cX6_isHotter 41 = .ok (.aload_n 0, 1) := by decide +kernel
theorem dX6_isHotter_42 : decode cX6_isHotter 42 = .ok (.getfield 12, 3) := by decide +kernel
theorem dX6_isHotter_45 : decode cX6_isHotter 45 = .ok (.getfield 97, 3) := by decide +kernel
theorem dX6_isHotter_48 : decode cX6_isHotter 48 = .ok (.iload_n 2, 1) := by decide +kernel
theorem dX6_isHotter_49 : decode cX6_isHotter 49 = .ok (.iaload, 1) := by decide +kernel
theorem dX6_isHotter_50 : decode cX6_isHotter 50 = .ok (.if_icmp .eq 30, 3) := by decide +kernel
theorem dX6_isHotter_53 : decode cX6_isHotter 53 = .ok (.aload_n 0, 1) := by decide +kernel
theorem dX6_isHotter_54 : decode cX6_isHotter 54 = .ok (.getfield 12, 3) := by decide +kernel
theorem dX6_isHotter_57 : decode cX6_isHotter 57 = .ok (.getfield 97, 3) := by decide +kernel
theorem dX6_isHotter_60 : decode cX6_isHotter 60 = .ok (.iload_n 1, 1) := by decide +kernel
theorem dX6_isHotter_61 : decode cX6_isHotter 61 = .ok (.iaload, 1) := by decide +kernel
theorem dX6_isHotter_62 : decode cX6_isHotter 62 = .ok (.aload_n 0, 1) := by decide +kernel
theorem dX6_isHotter_63 : decode cX6_isHotter 63 = .ok (.getfield 12, 3) := by decide +kernel
theorem dX6_isHotter_66 : decode cX6_isHotter 66 = .ok (.getfield 97, 3) := by decide +kernel
theorem dX6_isHotter_69 : decode cX6_isHotter 69 = .ok (.iload_n 2, 1) := by decide +kernel
theorem dX6_isHotter_70 : decode cX6_isHotter 70 = .ok (.iaload, 1) := by decide +kernel
theorem dX6_isHotter_71 : decode cX6_isHotter 71 = .ok (.if_icmp .ge 7, 3) := by decide +kernel
theorem dX6_isHotter_74 : decode cX6_isHotter 74 = .ok (.iconst 1, 1) := by decide +kernel
theorem dX6_isHotter_75 : decode cX6_isHotter 75 = .ok (.goto 4, 3) := by decide +kernel
theorem dX6_isHotter_78 : decode cX6_isHotter 78 = .ok (.iconst 0, 1) := by decide +kernel
theorem dX6_isHotter_79 : decode cX6_isHotter 79 = .ok (.ireturn, 1) := by decide +kernel
theorem dX6_isHotter_80 : decode cX6_isHotter 80 = .ok (.iload_n 1, 1) := by decide +kernel
theorem dX6_isHotter_81 : decode cX6_isHotter 81 = .ok (.iload_n 2, 1) := by decide +kernel
theorem dX6_isHotter_82 : decode cX6_isHotter 82 = .ok (.if_icmp .ge 7, 3) := by decide +kernel
theorem dX6_isHotter_85 : decode cX6_isHotter 85 = .ok (.iconst 1, 1) := by decide +kernel
theorem dX6_isHotter_86 : decode cX6_isHotter 86 = .ok (.goto 4, 3) := by decide +kernel
theorem dX6_isHotter_89 : decode cX6_isHotter 89 = .ok (.iconst 0, 1) := by decide +kernel
theorem dX6_isHotter_90 : decode cX6_isHotter 90 = .ok (.ireturn, 1) := by decide +kernel
set_option maxRecDepth 20000 in
theorem ggX6_homesAgree_X1_pointOf : GoodIn wsX6_homesAgree wsX1_pointOf := goodIn_r _ [8, 9, 41, 42, 43, 44, 45, 46, 47, 48] (by decide +kernel) (by decide +kernel)
set_option maxRecDepth 20000 in
theorem gX6_homesAgree_X1_pointOf : GoodIn wsX6_homesAgree (wsV RX6 150 RX1 yX1_pointOf wsX1_pointOf) := goodIn_app (goodIn_of _ (by decide +kernel)) ggX6_homesAgree_X1_pointOf
set_option maxRecDepth 20000 in
theorem ggX6_homesAgree_X0_homeByTree : GoodIn wsX6_homesAgree wsX0_homeByTree := goodIn_r _ [14, 15, 16, 17, 18, 13, 19, 20, 21, 22, 23, 49, 50, 51, 52, 53, 54, 55, 56, 57, 58] (by decide +kernel) (by decide +kernel)
set_option maxRecDepth 20000 in
theorem gX6_homesAgree_X0_homeByTree : GoodIn wsX6_homesAgree (wsV RX6 159 RX0 yX0_homeByTree wsX0_homeByTree) := goodIn_app (goodIn_of _ (by decide +kernel)) ggX6_homesAgree_X0_homeByTree
set_option maxRecDepth 20000 in
theorem ggX6_homesAgree_X0_homeAlong : GoodIn wsX6_homesAgree wsX0_homeAlong := goodIn_r _ [27, 28, 15, 49, 50, 51, 52, 53, 54, 55, 56, 57, 58] (by decide +kernel) (by decide +kernel)
set_option maxRecDepth 20000 in
theorem gX6_homesAgree_X0_homeAlong : GoodIn wsX6_homesAgree (wsV RX6 162 RX0 yX0_homeAlong wsX0_homeAlong) := goodIn_app (goodIn_of _ (by decide +kernel)) ggX6_homesAgree_X0_homeAlong
theorem dX6_homesAgree_0 : decode cX6_homesAgree 0 = .ok (.iconst 0, 1) := by decide +kernel
theorem dX6_homesAgree_1 : decode cX6_homesAgree 1 = .ok (.istore_n 1, 1) := by decide +kernel
theorem dX6_homesAgree_2 : decode cX6_homesAgree 2 = .ok (.iload_n 1, 1) := by decide +kernel
theorem dX6_homesAgree_3 : decode cX6_homesAgree 3 = .ok (.aload_n 0, 1) := by decide +kernel
theorem dX6_homesAgree_4 : decode cX6_homesAgree 4 = .ok (.getfield 12, 3) := by decide +kernel
theorem dX6_homesAgree_7 : decode cX6_homesAgree 7 = .ok (.getfield 252, 3) := by decide +kernel
theorem dX6_homesAgree_10 : decode cX6_homesAgree 10 = .ok (.if_icmp .ge 39, 3) := by decide +kernel
theorem dX6_homesAgree_13 : decode cX6_homesAgree 13 = .ok (.aload_n 0, 1) := by decide +kernel
theorem dX6_homesAgree_14 : decode cX6_homesAgree 14 = .ok (.getfield 12, 3) := by decide +kernel
theorem dX6_homesAgree_17 : decode cX6_homesAgree 17 = .ok (.iload_n 1, 1) := by decide +kernel
theorem dX6_homesAgree_18 : decode cX6_homesAgree 18 = .ok (.invokevirtual 150, 3) := by decide +kernel
theorem dX6_homesAgree_21 : decode cX6_homesAgree 21 = .ok (.istore_n 2, 1) := by decide +kernel
theorem dX6_homesAgree_22 : decode cX6_homesAgree 22 = .ok (.aload_n 0, 1) := by decide +kernel
theorem dX6_homesAgree_23 : decode cX6_homesAgree 23 = .ok (.getfield 19, 3) := by decide +kernel
theorem dX6_homesAgree_26 : decode cX6_homesAgree 26 = .ok (.iload_n 2, 1) := by decide +kernel
theorem dX6_homesAgree_27 : decode cX6_homesAgree 27 = .ok (.invokevirtual 159, 3) := by decide +kernel
theorem dX6_homesAgree_30 : decode cX6_homesAgree 30 = .ok (.aload_n 0, 1) := by decide +kernel
theorem dX6_homesAgree_31 : decode cX6_homesAgree 31 = .ok (.getfield 19, 3) := by decide +kernel
theorem dX6_homesAgree_34 : decode cX6_homesAgree 34 = .ok (.iload_n 2, 1) := by decide +kernel
theorem dX6_homesAgree_35 : decode cX6_homesAgree 35 = .ok (.invokevirtual 162, 3) := by decide +kernel
theorem dX6_homesAgree_38 : decode cX6_homesAgree 38 = .ok (.if_icmp .eq 5, 3) := by decide +kernel
theorem dX6_homesAgree_41 : decode cX6_homesAgree 41 = .ok (.iconst 0, 1) := by decide +kernel
theorem dX6_homesAgree_42 : decode cX6_homesAgree 42 = .ok (.ireturn, 1) := by decide +kernel
theorem dX6_homesAgree_43 : decode cX6_homesAgree 43 = .ok (.iinc 1 1, 3) := by decide +kernel
theorem dX6_homesAgree_46 : decode cX6_homesAgree 46 = .ok (.goto (-44), 3) := by decide +kernel
theorem dX6_homesAgree_49 : decode cX6_homesAgree 49 = .ok (.iconst 1, 1) := by decide +kernel
theorem dX6_homesAgree_50 : decode cX6_homesAgree 50 = .ok (.ireturn, 1) := by decide +kernel
set_option maxRecDepth 20000 in
theorem ggX6_stretchesFillTheRing_X0_stretchOf : GoodIn wsX6_stretchesFillTheRing wsX0_stretchOf := goodIn_r _ [8, 9, 10, 11, 12, 13, 14, 15, 16, 44, 45, 46, 47, 48, 49, 50, 51, 52, 53] (by decide +kernel) (by decide +kernel)
set_option maxRecDepth 20000 in
theorem gX6_stretchesFillTheRing_X0_stretchOf : GoodIn wsX6_stretchesFillTheRing (wsV RX6 108 RX0 yX0_stretchOf wsX0_stretchOf) := goodIn_app (goodIn_of _ (by decide +kernel)) ggX6_stretchesFillTheRing_X0_stretchOf
set_option maxRecDepth 20000 in
theorem ggX6_stretchesFillTheRing_X1_openPiers : GoodIn wsX6_stretchesFillTheRing wsX1_openPiers := goodIn_r _ [21, 22, 23, 36, 37, 38, 39, 40, 41, 42, 43] (by decide +kernel) (by decide +kernel)
set_option maxRecDepth 20000 in
theorem gX6_stretchesFillTheRing_X1_openPiers : GoodIn wsX6_stretchesFillTheRing (wsV RX6 260 RX1 yX1_openPiers wsX1_openPiers) := goodIn_app (goodIn_of _ (by decide +kernel)) ggX6_stretchesFillTheRing_X1_openPiers
theorem dX6_stretchesFillTheRing_0 : decode cX6_stretchesFillTheRing 0 = .ok (.iconst 0, 1) := by decide +kernel
theorem dX6_stretchesFillTheRing_1 : decode cX6_stretchesFillTheRing 1 = .ok (.istore_n 1, 1) := by decide +kernel
theorem dX6_stretchesFillTheRing_2 : decode cX6_stretchesFillTheRing 2 = .ok (.iconst 0, 1) := by decide +kernel
theorem dX6_stretchesFillTheRing_3 : decode cX6_stretchesFillTheRing 3 = .ok (.istore_n 2, 1) := by decide +kernel
theorem dX6_stretchesFillTheRing_4 : decode cX6_stretchesFillTheRing 4 = .ok (.iload_n 2, 1) := by decide +kernel
theorem dX6_stretchesFillTheRing_5 : decode cX6_stretchesFillTheRing 5 = .ok (.aload_n 0, 1) := by decide +kernel
theorem dX6_stretchesFillTheRing_6 : decode cX6_stretchesFillTheRing 6 = .ok (.getfield 12, 3) := by decide +kernel
theorem dX6_stretchesFillTheRing_9 : decode cX6_stretchesFillTheRing 9 = .ok (.getfield 186, 3) := by decide +kernel
theorem dX6_stretchesFillTheRing_12 : decode cX6_stretchesFillTheRing 12 = .ok (.if_icmp .ge 20, 3) := by decide +kernel
theorem dX6_stretchesFillTheRing_15 : decode cX6_stretchesFillTheRing 15 = .ok (.iload_n 1, 1) := by decide +kernel
theorem dX6_stretchesFillTheRing_16 : decode cX6_stretchesFillTheRing 16 = .ok (.aload_n 0, 1) := by decide +kernel
theorem dX6_stretchesFillTheRing_17 : decode cX6_stretchesFillTheRing 17 = .ok (.getfield 19, 3) := by decide +kernel
theorem dX6_stretchesFillTheRing_20 : decode cX6_stretchesFillTheRing 20 = .ok (.iload_n 2, 1) := by decide +kernel
theorem dX6_stretchesFillTheRing_21 : decode cX6_stretchesFillTheRing 21 = .ok (.invokevirtual 108, 3) := by decide +kernel
theorem dX6_stretchesFillTheRing_24 : decode cX6_stretchesFillTheRing 24 = .ok (.iadd, 1) := by decide +kernel
theorem dX6_stretchesFillTheRing_25 : decode cX6_stretchesFillTheRing 25 = .ok (.istore_n 1, 1) := by decide +kernel
theorem dX6_stretchesFillTheRing_26 : decode cX6_stretchesFillTheRing 26 = .ok (.iinc 2 1, 3) := by decide +kernel
theorem dX6_stretchesFillTheRing_29 : decode cX6_stretchesFillTheRing 29 = .ok (.goto (-25), 3) := by decide +kernel
theorem dX6_stretchesFillTheRing_32 : decode cX6_stretchesFillTheRing 32 = .ok (.iload_n 1, 1) := by decide +kernel
theorem dX6_stretchesFillTheRing_33 : decode cX6_stretchesFillTheRing 33 = .ok (.sipush 360, 3) := by decide +kernel
theorem dX6_stretchesFillTheRing_36 : decode cX6_stretchesFillTheRing 36 = .ok (.if_icmp .eq 13, 3) := by decide +kernel
theorem dX6_stretchesFillTheRing_39 : decode cX6_stretchesFillTheRing 39 = .ok (.aload_n 0, 1) := by decide +kernel
theorem dX6_stretchesFillTheRing_40 : decode cX6_stretchesFillTheRing 40 = .ok (.getfield 12, 3) := by decide +kernel
theorem dX6_stretchesFillTheRing_43 : decode cX6_stretchesFillTheRing 43 = .ok (.invokevirtual 260, 3) := by decide +kernel
theorem dX6_stretchesFillTheRing_46 : decode cX6_stretchesFillTheRing 46 = .ok (.ifCond .ne 7, 3) := by decide +kernel
theorem dX6_stretchesFillTheRing_49 : decode cX6_stretchesFillTheRing 49 = .ok (.iconst 1, 1) := by decide +kernel
theorem dX6_stretchesFillTheRing_50 : decode cX6_stretchesFillTheRing 50 = .ok (.goto 4, 3) := by decide +kernel
theorem dX6_stretchesFillTheRing_53 : decode cX6_stretchesFillTheRing 53 = .ok (.iconst 0, 1) := by decide +kernel
theorem dX6_stretchesFillTheRing_54 : decode cX6_stretchesFillTheRing 54 = .ok (.ireturn, 1) := by decide +kernel
set_option maxRecDepth 20000 in
theorem ggX6_nothingExceedsItsRoom_X1_roomOf : GoodIn wsX6_nothingExceedsItsRoom wsX1_roomOf := goodIn_r _ [9, 10, 11, 12, 25, 26, 27, 28, 29, 30, 31, 32] (by decide +kernel) (by decide +kernel)
set_option maxRecDepth 20000 in
theorem gX6_nothingExceedsItsRoom_X1_roomOf : GoodIn wsX6_nothingExceedsItsRoom (wsV RX6 123 RX1 yX1_roomOf wsX1_roomOf) := goodIn_app (goodIn_of _ (by decide +kernel)) ggX6_nothingExceedsItsRoom_X1_roomOf
theorem dX6_nothingExceedsItsRoom_0 : decode cX6_nothingExceedsItsRoom 0 = .ok (.iconst 0, 1) := by decide +kernel
theorem dX6_nothingExceedsItsRoom_1 : decode cX6_nothingExceedsItsRoom 1 = .ok (.istore_n 1, 1) := by decide +kernel
theorem dX6_nothingExceedsItsRoom_2 : decode cX6_nothingExceedsItsRoom 2 = .ok (.iload_n 1, 1) := by decide +kernel
theorem dX6_nothingExceedsItsRoom_3 : decode cX6_nothingExceedsItsRoom 3 = .ok (.aload_n 0, 1) := by decide +kernel
theorem dX6_nothingExceedsItsRoom_4 : decode cX6_nothingExceedsItsRoom 4 = .ok (.getfield 12, 3) := by decide +kernel
theorem dX6_nothingExceedsItsRoom_7 : decode cX6_nothingExceedsItsRoom 7 = .ok (.getfield 186, 3) := by decide +kernel
theorem dX6_nothingExceedsItsRoom_10 : decode cX6_nothingExceedsItsRoom 10 = .ok (.if_icmp .ge 31, 3) := by decide +kernel
theorem dX6_nothingExceedsItsRoom_13 : decode cX6_nothingExceedsItsRoom 13 = .ok (.aload_n 0, 1) := by decide +kernel
theorem dX6_nothingExceedsItsRoom_14 : decode cX6_nothingExceedsItsRoom 14 = .ok (.getfield 26, 3) := by decide +kernel
theorem dX6_nothingExceedsItsRoom_17 : decode cX6_nothingExceedsItsRoom 17 = .ok (.getfield 120, 3) := by decide +kernel
theorem dX6_nothingExceedsItsRoom_20 : decode cX6_nothingExceedsItsRoom 20 = .ok (.iload_n 1, 1) := by decide +kernel
theorem dX6_nothingExceedsItsRoom_21 : decode cX6_nothingExceedsItsRoom 21 = .ok (.iaload, 1) := by decide +kernel
theorem dX6_nothingExceedsItsRoom_22 : decode cX6_nothingExceedsItsRoom 22 = .ok (.aload_n 0, 1) := by decide +kernel
theorem dX6_nothingExceedsItsRoom_23 : decode cX6_nothingExceedsItsRoom 23 = .ok (.getfield 12, 3) := by decide +kernel
theorem dX6_nothingExceedsItsRoom_26 : decode cX6_nothingExceedsItsRoom 26 = .ok (.iload_n 1, 1) := by decide +kernel
theorem dX6_nothingExceedsItsRoom_27 : decode cX6_nothingExceedsItsRoom 27 = .ok (.invokevirtual 123, 3) := by decide +kernel
theorem dX6_nothingExceedsItsRoom_30 : decode cX6_nothingExceedsItsRoom 30 = .ok (.if_icmp .le 5, 3) := by decide +kernel
theorem dX6_nothingExceedsItsRoom_33 : decode cX6_nothingExceedsItsRoom 33 = .ok (.iconst 0, 1) := by decide +kernel
theorem dX6_nothingExceedsItsRoom_34 : decode cX6_nothingExceedsItsRoom 34 = .ok (.ireturn, 1) := by decide +kernel
theorem dX6_nothingExceedsItsRoom_35 : decode cX6_nothingExceedsItsRoom 35 = .ok (.iinc 1 1, 3) := by decide +kernel
theorem dX6_nothingExceedsItsRoom_38 : decode cX6_nothingExceedsItsRoom 38 = .ok (.goto (-36), 3) := by decide +kernel
theorem dX6_nothingExceedsItsRoom_41 : decode cX6_nothingExceedsItsRoom 41 = .ok (.iconst 1, 1) := by decide +kernel
theorem dX6_nothingExceedsItsRoom_42 : decode cX6_nothingExceedsItsRoom 42 = .ok (.ireturn, 1) := by decide +kernel
set_option maxRecDepth 20000 in
theorem ggX6_closingsStayNear_X6_closingStaysNear : GoodIn wsX6_closingsStayNear wsX6_closingStaysNear := goodIn_r _ [8, 9, 1, 10, 11, 12, 13, 14, 15, 16, 17, 18, 19, 20, 21, 22, 23, 24, 25, 26, 27, 28, 7, 29, 30, 3, 31, 32, 33, 34, 35, 36, 37, 38, 39, 40, 41, 42, 43, 44, 45, 46, 47, 48, 49, 50, 51, 52, 53, 54, 55, 56, 57, 58, 59, 60, 61, 62, 63, 64, 65, 66, 67, 68, 69, 70, 71, 72, 73, 74, 75, 76, 77, 78, 79, 80, 81, 82, 83, 84, 85, 86, 87, 88, 89, 90, 91, 92, 93, 94, 95, 96, 97, 98, 99, 100, 101, 102, 103, 104, 105, 106, 107, 108, 109, 110, 111, 112, 113, 114, 115, 116, 117, 118, 119, 120, 121, 122, 123, 124, 125, 126, 127, 128, 129, 130] (by decide +kernel) (by decide +kernel)
set_option maxRecDepth 20000 in
theorem gX6_closingsStayNear_X6_closingStaysNear : GoodIn wsX6_closingsStayNear (wsV RX6 342 RX6 yX6_closingStaysNear wsX6_closingStaysNear) := goodIn_app (goodIn_of _ (by decide +kernel)) ggX6_closingsStayNear_X6_closingStaysNear
theorem dX6_closingsStayNear_0 : decode cX6_closingsStayNear 0 = .ok (.iconst 0, 1) := by decide +kernel
theorem dX6_closingsStayNear_1 : decode cX6_closingsStayNear 1 = .ok (.istore_n 1, 1) := by decide +kernel
theorem dX6_closingsStayNear_2 : decode cX6_closingsStayNear 2 = .ok (.iload_n 1, 1) := by decide +kernel
theorem dX6_closingsStayNear_3 : decode cX6_closingsStayNear 3 = .ok (.aload_n 0, 1) := by decide +kernel
theorem dX6_closingsStayNear_4 : decode cX6_closingsStayNear 4 = .ok (.getfield 12, 3) := by decide +kernel
theorem dX6_closingsStayNear_7 : decode cX6_closingsStayNear 7 = .ok (.getfield 186, 3) := by decide +kernel
theorem dX6_closingsStayNear_10 : decode cX6_closingsStayNear 10 = .ok (.if_icmp .ge 31, 3) := by decide +kernel
theorem dX6_closingsStayNear_13 : decode cX6_closingsStayNear 13 = .ok (.aload_n 0, 1) := by decide +kernel
theorem dX6_closingsStayNear_14 : decode cX6_closingsStayNear 14 = .ok (.getfield 12, 3) := by decide +kernel
theorem dX6_closingsStayNear_17 : decode cX6_closingsStayNear 17 = .ok (.getfield 101, 3) := by decide +kernel
theorem dX6_closingsStayNear_20 : decode cX6_closingsStayNear 20 = .ok (.iload_n 1, 1) := by decide +kernel
theorem dX6_closingsStayNear_21 : decode cX6_closingsStayNear 21 = .ok (.baload, 1) := by decide +kernel
theorem dX6_closingsStayNear_22 : decode cX6_closingsStayNear 22 = .ok (.ifCond .eq 13, 3) := by decide +kernel
theorem dX6_closingsStayNear_25 : decode cX6_closingsStayNear 25 = .ok (.aload_n 0, 1) := by decide +kernel
theorem dX6_closingsStayNear_26 : decode cX6_closingsStayNear 26 = .ok (.iload_n 1, 1) := by decide +kernel
theorem dX6_closingsStayNear_27 : decode cX6_closingsStayNear 27 = .ok (.invokevirtual 342, 3) := by decide +kernel
theorem dX6_closingsStayNear_30 : decode cX6_closingsStayNear 30 = .ok (.ifCond .ne 5, 3) := by decide +kernel
theorem dX6_closingsStayNear_33 : decode cX6_closingsStayNear 33 = .ok (.iconst 0, 1) := by decide +kernel
theorem dX6_closingsStayNear_34 : decode cX6_closingsStayNear 34 = .ok (.ireturn, 1) := by decide +kernel
theorem dX6_closingsStayNear_35 : decode cX6_closingsStayNear 35 = .ok (.iinc 1 1, 3) := by decide +kernel
theorem dX6_closingsStayNear_38 : decode cX6_closingsStayNear 38 = .ok (.goto (-36), 3) := by decide +kernel
theorem dX6_closingsStayNear_41 : decode cX6_closingsStayNear 41 = .ok (.iconst 1, 1) := by decide +kernel
theorem dX6_closingsStayNear_42 : decode cX6_closingsStayNear 42 = .ok (.ireturn, 1) := by decide +kernel
set_option maxRecDepth 20000 in
theorem ggX6_closingStaysNear_X0_neighboursOf : GoodIn wsX6_closingStaysNear wsX0_neighboursOf := goodIn_r _ [11, 12, 13, 14, 15, 16, 17, 10, 18, 116, 117, 118, 119, 120, 121, 122, 123, 124, 125] (by decide +kernel) (by decide +kernel)
set_option maxRecDepth 20000 in
theorem gX6_closingStaysNear_X0_neighboursOf : GoodIn wsX6_closingStaysNear (wsV RX6 129 RX0 yX0_neighboursOf wsX0_neighboursOf) := goodIn_app (goodIn_of _ (by decide +kernel)) ggX6_closingStaysNear_X0_neighboursOf
set_option maxRecDepth 20000 in
theorem ggX6_closingStaysNear_X6_supposeClosed : GoodIn wsX6_closingStaysNear wsX6_supposeClosed := goodIn_r _ [23, 24, 2, 25, 6, 26, 27, 28, 29, 30, 31, 32, 33, 34, 35, 36, 37, 38, 39, 40, 41, 42, 43, 44, 45, 10, 46, 47, 12, 48, 49, 50, 13, 51, 52, 53, 54, 55, 56, 57, 58, 59, 60, 61, 62, 63, 64, 65, 66, 67, 68, 69, 70, 71, 72, 73, 74, 14, 87, 88, 89, 90, 91, 92, 93, 94, 95, 96, 97, 98, 99, 100, 101, 102, 103, 104, 105, 106, 116, 117, 118, 119, 120, 121, 122, 123, 124, 125] (by decide +kernel) (by decide +kernel)
set_option maxRecDepth 20000 in
theorem gX6_closingStaysNear_X6_supposeClosed : GoodIn wsX6_closingStaysNear (wsV RX6 203 RX6 yX6_supposeClosed wsX6_supposeClosed) := goodIn_app (goodIn_of _ (by decide +kernel)) ggX6_closingStaysNear_X6_supposeClosed
set_option maxRecDepth 20000 in
theorem ggX6_closingStaysNear_X1_pointOf : GoodIn wsX6_closingStaysNear wsX1_pointOf := goodIn_r _ [78, 37, 99, 100, 101, 102, 103, 104, 105, 106] (by decide +kernel) (by decide +kernel)
set_option maxRecDepth 20000 in
theorem gX6_closingStaysNear_X1_pointOf : GoodIn wsX6_closingStaysNear (wsV RX6 150 RX1 yX1_pointOf wsX1_pointOf) := goodIn_app (goodIn_of _ (by decide +kernel)) ggX6_closingStaysNear_X1_pointOf
set_option maxRecDepth 20000 in
theorem ggX6_closingStaysNear_X0_homeByTree : GoodIn wsX6_closingStaysNear wsX0_homeByTree := goodIn_r _ [82, 13, 83, 84, 85, 10, 86, 12, 50, 64, 65, 116, 117, 118, 119, 120, 121, 122, 123, 124, 125] (by decide +kernel) (by decide +kernel)
set_option maxRecDepth 20000 in
theorem gX6_closingStaysNear_X0_homeByTree : GoodIn wsX6_closingStaysNear (wsV RX6 159 RX0 yX0_homeByTree wsX0_homeByTree) := goodIn_app (goodIn_of _ (by decide +kernel)) ggX6_closingStaysNear_X0_homeByTree
theorem dX6_closingStaysNear_0 : decode cX6_closingStaysNear 0 = .ok (.aload_n 0, 1) := by decide +kernel
theorem dX6_closingStaysNear_1 : decode cX6_closingStaysNear 1 = .ok (.getfield 19, 3) := by decide +kernel
theorem dX6_closingStaysNear_4 : decode cX6_closingStaysNear 4 = .ok (.iload_n 1, 1) := by decide +kernel
theorem dX6_closingStaysNear_5 : decode cX6_closingStaysNear 5 = .ok (.invokevirtual 129, 3) := by decide +kernel
theorem dX6_closingStaysNear_8 : decode cX6_closingStaysNear 8 = .ok (.istore_n 2, 1) := by decide +kernel
theorem dX6_closingStaysNear_9 : decode cX6_closingStaysNear 9 = .ok (.aload_n 0, 1) := by decide +kernel
theorem dX6_closingStaysNear_10 : decode cX6_closingStaysNear 10 = .ok (.iload_n 1, 1) := by decide +kernel
theorem dX6_closingStaysNear_11 : decode cX6_closingStaysNear 11 = .ok (.invokevirtual 203, 3) := by decide +kernel
theorem dX6_closingStaysNear_14 : decode cX6_closingStaysNear 14 = .ok (.iconst 0, 1) := by decide +kernel
theorem dX6_closingStaysNear_15 : decode cX6_closingStaysNear 15 = .ok (.istore_n 3, 1) := by decide +kernel
theorem dX6_closingStaysNear_16 : decode cX6_closingStaysNear 16 = .ok (.iload_n 3, 1) := by decide +kernel
theorem dX6_closingStaysNear_17 : decode cX6_closingStaysNear 17 = .ok (.aload_n 0, 1) := by decide +kernel
theorem dX6_closingStaysNear_18 : decode cX6_closingStaysNear 18 = .ok (.getfield 12, 3) := by decide +kernel
theorem dX6_closingStaysNear_21 : decode cX6_closingStaysNear 21 = .ok (.getfield 252, 3) := by decide +kernel
theorem dX6_closingStaysNear_24 : decode cX6_closingStaysNear 24 = .ok (.if_icmp .ge 81, 3) := by decide +kernel
theorem dX6_closingStaysNear_27 : decode cX6_closingStaysNear 27 = .ok (.aload_n 0, 1) := by decide +kernel
theorem dX6_closingStaysNear_28 : decode cX6_closingStaysNear 28 = .ok (.getfield 26, 3) := by decide +kernel
theorem dX6_closingStaysNear_31 : decode cX6_closingStaysNear 31 = .ok (.getfield 345, 3) := by decide +kernel
theorem dX6_closingStaysNear_34 : decode cX6_closingStaysNear 34 = .ok (.iload_n 3, 1) := by decide +kernel
theorem dX6_closingStaysNear_35 : decode cX6_closingStaysNear 35 = .ok (.iaload, 1) := by decide +kernel
theorem dX6_closingStaysNear_36 : decode cX6_closingStaysNear 36 = .ok (.istore 4, 2) := by decide +kernel
theorem dX6_closingStaysNear_38 : decode cX6_closingStaysNear 38 = .ok (.aload_n 0, 1) := by decide +kernel
theorem dX6_closingStaysNear_39 : decode cX6_closingStaysNear 39 = .ok (.getfield 33, 3) := by decide +kernel
theorem dX6_closingStaysNear_42 : decode cX6_closingStaysNear 42 = .ok (.aload_n 0, 1) := by decide +kernel
theorem dX6_closingStaysNear_43 : decode cX6_closingStaysNear 43 = .ok (.getfield 12, 3) := by decide +kernel
theorem dX6_closingStaysNear_46 : decode cX6_closingStaysNear 46 = .ok (.iload_n 3, 1) := by decide +kernel
theorem dX6_closingStaysNear_47 : decode cX6_closingStaysNear 47 = .ok (.invokevirtual 150, 3) := by decide +kernel
theorem dX6_closingStaysNear_50 : decode cX6_closingStaysNear 50 = .ok (.invokevirtual 159, 3) := by decide +kernel
theorem dX6_closingStaysNear_53 : decode cX6_closingStaysNear 53 = .ok (.istore 5, 2) := by decide +kernel
theorem dX6_closingStaysNear_55 : decode cX6_closingStaysNear 55 = .ok (.iload 5, 2) := by decide +kernel
theorem dX6_closingStaysNear_57 : decode cX6_closingStaysNear 57 = .ok (.iload 4, 2) := by decide +kernel
theorem dX6_closingStaysNear_59 : decode cX6_closingStaysNear 59 = .ok (.if_icmp .eq 40, 3) := by decide +kernel
theorem dX6_closingStaysNear_62 : decode cX6_closingStaysNear 62 = .ok (.iload 5, 2) := by decide +kernel
theorem dX6_closingStaysNear_64 : decode cX6_closingStaysNear 64 = .ok (.bipush (-15), 2) := by decide +kernel
theorem dX6_closingStaysNear_66 : decode cX6_closingStaysNear 66 = .ok (.if_icmp .eq 13, 3) := by decide +kernel
theorem dX6_closingStaysNear_69 : decode cX6_closingStaysNear 69 = .ok (.iload_n 2, 1) := by decide +kernel
theorem dX6_closingStaysNear_70 : decode cX6_closingStaysNear 70 = .ok (.iload 5, 2) := by decide +kernel
theorem dX6_closingStaysNear_72 : decode cX6_closingStaysNear 72 = .ok (.ishr, 1) := by decide +kernel
theorem dX6_closingStaysNear_73 : decode cX6_closingStaysNear 73 = .ok (.iconst 1, 1) := by decide +kernel
theorem dX6_closingStaysNear_74 : decode cX6_closingStaysNear 74 = .ok (.iand, 1) := by decide +kernel
theorem dX6_closingStaysNear_75 : decode cX6_closingStaysNear 75 = .ok (.iconst 1, 1) := by decide +kernel
theorem dX6_closingStaysNear_76 : decode cX6_closingStaysNear 76 = .ok (.if_icmp .ne 7, 3) := by decide +kernel
theorem dX6_closingStaysNear_79 : decode cX6_closingStaysNear 79 = .ok (.iconst 1, 1) := by decide +kernel
theorem dX6_closingStaysNear_80 : decode cX6_closingStaysNear 80 = .ok (.goto 4, 3) := by decide +kernel
theorem dX6_closingStaysNear_83 : decode cX6_closingStaysNear 83 = .ok (.iconst 0, 1) := by decide +kernel
theorem dX6_closingStaysNear_84 : decode cX6_closingStaysNear 84 = .ok (.istore 6, 2) := by decide +kernel
theorem dX6_closingStaysNear_86 : decode cX6_closingStaysNear 86 = .ok (.iload 4, 2) := by decide +kernel
theorem dX6_closingStaysNear_88 : decode cX6_closingStaysNear 88 = .ok (.iload_n 1, 1) := by decide +kernel
theorem dX6_closingStaysNear_89 : decode cX6_closingStaysNear 89 = .ok (.if_icmp .ne 8, 3) := by decide +kernel
theorem dX6_closingStaysNear_92 : decode cX6_closingStaysNear 92 = .ok (.iload 6, 2) := by decide +kernel
theorem dX6_closingStaysNear_94 : decode cX6_closingStaysNear 94 = .ok (.ifCond .ne 5, 3) := by decide +kernel
theorem dX6_closingStaysNear_97 : decode cX6_closingStaysNear 97 = .ok (.iconst 0, 1) := by decide +kernel
theorem dX6_closingStaysNear_98 : decode cX6_closingStaysNear 98 = .ok (.ireturn, 1) := by decide +kernel
theorem dX6_closingStaysNear_99 : decode cX6_closingStaysNear 99 = .ok (.iinc 3 1, 3) := by decide +kernel
theorem dX6_closingStaysNear_102 : decode cX6_closingStaysNear 102 = .ok (.goto (-86), 3) := by decide +kernel
theorem dX6_closingStaysNear_105 : decode cX6_closingStaysNear 105 = .ok (.iconst 1, 1) := by decide +kernel
theorem dX6_closingStaysNear_106 : decode cX6_closingStaysNear 106 = .ok (.ireturn, 1) := by decide +kernel
