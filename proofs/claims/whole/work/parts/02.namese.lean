theorem dX6_hotPiers_29 : decode cX6_hotPiers 29 = .ok (.goto (-25), 3) := by decide +kernel
theorem dX6_hotPiers_32 : decode cX6_hotPiers 32 = .ok (.iload_n 1, 1) := by decide +kernel
theorem dX6_hotPiers_33 : decode cX6_hotPiers 33 = .ok (.ireturn, 1) := by decide +kernel
set_option maxRecDepth 20000 in
theorem ggX6_tonsBeyond_X1_roomOf : GoodIn wsX6_tonsBeyond wsX1_roomOf := goodIn_r _ [8, 9, 10, 11, 33, 34, 35, 36, 37, 38, 39, 40] (by decide +kernel) (by decide +kernel)
set_option maxRecDepth 20000 in
theorem gX6_tonsBeyond_X1_roomOf : GoodIn wsX6_tonsBeyond (wsV RX6 123 RX1 yX1_roomOf wsX1_roomOf) := goodIn_app (goodIn_of _ (by decide +kernel)) ggX6_tonsBeyond_X1_roomOf
theorem dX6_tonsBeyond_0 : decode cX6_tonsBeyond 0 = .ok (.aload_n 0, 1) := by decide +kernel
theorem dX6_tonsBeyond_1 : decode cX6_tonsBeyond 1 = .ok (.getfield 26, 3) := by decide +kernel
theorem dX6_tonsBeyond_4 : decode cX6_tonsBeyond 4 = .ok (.getfield 114, 3) := by decide +kernel
theorem dX6_tonsBeyond_7 : decode cX6_tonsBeyond 7 = .ok (.iload_n 1, 1) := by decide +kernel
theorem dX6_tonsBeyond_8 : decode cX6_tonsBeyond 8 = .ok (.iaload, 1) := by decide +kernel
theorem dX6_tonsBeyond_9 : decode cX6_tonsBeyond 9 = .ok (.aload_n 0, 1) := by decide +kernel
theorem dX6_tonsBeyond_10 : decode cX6_tonsBeyond 10 = .ok (.getfield 12, 3) := by decide +kernel
theorem dX6_tonsBeyond_13 : decode cX6_tonsBeyond 13 = .ok (.iload_n 1, 1) := by decide +kernel
theorem dX6_tonsBeyond_14 : decode cX6_tonsBeyond 14 = .ok (.invokevirtual 123, 3) := by decide +kernel
theorem dX6_tonsBeyond_17 : decode cX6_tonsBeyond 17 = .ok (.isub, 1) := by decide +kernel
theorem dX6_tonsBeyond_18 : decode cX6_tonsBeyond 18 = .ok (.ireturn, 1) := by decide +kernel
set_option maxRecDepth 20000 in
theorem ggX6_isHotter_X6_tonsBeyond : GoodIn wsX6_isHotter wsX6_tonsBeyond := goodIn_r _ [7, 8, 9, 1, 10, 11, 12, 13, 14, 15, 16, 17, 18, 19, 20, 21, 22, 23, 24, 25, 26, 27, 28, 29, 38, 39, 40, 41, 42, 43, 44, 45, 46, 30, 31, 32, 33, 34, 35, 36, 37] (by decide +kernel) (by decide +kernel)
set_option maxRecDepth 20000 in
theorem gX6_isHotter_X6_tonsBeyond : GoodIn wsX6_isHotter (wsV RX6 339 RX6 yX6_tonsBeyond wsX6_tonsBeyond) := goodIn_app (goodIn_of _ (by decide +kernel)) ggX6_isHotter_X6_tonsBeyond
theorem dX6_isHotter_0 : decode cX6_isHotter 0 = .ok (.aload_n 0, 1) := by decide +kernel
theorem dX6_isHotter_1 : decode cX6_isHotter 1 = .ok (.iload_n 1, 1) := by decide +kernel
theorem dX6_isHotter_2 : decode cX6_isHotter 2 = .ok (.invokevirtual 339, 3) := by decide +kernel
theorem dX6_isHotter_5 : decode cX6_isHotter 5 = .ok (.aload_n 0, 1) := by decide +kernel
theorem dX6_isHotter_6 : decode cX6_isHotter 6 = .ok (.iload_n 2, 1) := by decide +kernel
theorem dX6_isHotter_7 : decode cX6_isHotter 7 = .ok (.invokevirtual 339, 3) := by decide +kernel
theorem dX6_isHotter_10 : decode cX6_isHotter 10 = .ok (.if_icmp .eq 22, 3) := by decide +kernel
theorem dX6_isHotter_13 : decode cX6_isHotter 13 = .ok (.aload_n 0, 1) := by decide +kernel
theorem dX6_isHotter_14 : decode cX6_isHotter 14 = .ok (.iload_n 1, 1) := by decide +kernel
theorem dX6_isHotter_15 : decode cX6_isHotter 15 = .ok (.invokevirtual 339, 3) := by decide +kernel
theorem dX6_isHotter_18 : decode cX6_isHotter 18 = .ok (.aload_n 0, 1) := by decide +kernel
theorem dX6_isHotter_19 : decode cX6_isHotter 19 = .ok (.iload_n 2, 1) := by decide +kernel
theorem dX6_isHotter_20 : decode cX6_isHotter 20 = .ok (.invokevirtual 339, 3) := by decide +kernel
theorem dX6_isHotter_23 : decode cX6_isHotter 23 = .ok (.if_icmp .le 7, 3) := by decide +kernel
theorem dX6_isHotter_26 : decode cX6_isHotter 26 = .ok (.iconst 1, 1) := by decide +kernel
theorem dX6_isHotter_27 : decode cX6_isHotter 27 = .ok (.goto 4, 3) := by decide +kernel
theorem dX6_isHotter_30 : decode cX6_isHotter 30 = .ok (.iconst 0, 1) := by decide +kernel
theorem dX6_isHotter_31 : decode cX6_isHotter 31 = .ok (.ireturn, 1) := by decide +kernel
theorem dX6_isHotter_32 : decode cX6_isHotter 32 = .ok (.aload_n 0, 1) := by decide +kernel
theorem dX6_isHotter_33 : decode cX6_isHotter 33 = .ok (.getfield 12, 3) := by decide +kernel
theorem dX6_isHotter_36 : decode cX6_isHotter 36 = .ok (.getfield 97, 3) := by decide +kernel
theorem dX6_isHotter_39 : decode cX6_isHotter 39 = .ok (.iload_n 1, 1) := by decide +kernel
theorem dX6_isHotter_40 : decode cX6_isHotter 40 = .ok (.iaload, 1) := by decide +kernel
theorem dX6_isHotter_41 : decode cX6_isHotter 41 = .ok (.aload_n 0, 1) := by decide +kernel
theorem dX6_isHotter_42 : decode cX6_isHotter 42 = .ok (.getfield 12, 3) := by decide +kernel
theorem dX6_isHotter_45 : decode cX6_isHotter 45 = .ok (.getfield 97, 3) := by decide +kernel
theorem dX6_isHotter_48 : decode cX6_isHotter 48 = .ok (.iload_n 2, 1) := by decide +kernel
theorem dX6_isHotter_49 : decode cX6_isHotter 49 = .ok (.iaload, 1) := by decide +kernel
theorem dX6_isHotter_50 : decode cX6_isHotter 50 = .ok (.if_icmp .eq 30, 3) := by decide +kernel
theorem dX6_isHotter_53 : decode cX6_isHotter 53 = .ok (.aload_n 0, 1) := by decide +kernel
theorem dX6_isHotter_54 : decode cX6_isHotter 54 = .ok (.getfield 12, 3) := by decide +kernel
theorem dX6_isHotter_57 : decode cX6_isHotter 57 = .ok (.getfield 97, 3) := by decide +kernel
theorem dX6_isHotter_60 : decode cX6_isHotter 60 = .ok (.iload_n 1, 1) := by decide +kernel
theorem dX6_isHotter_61 : decode cX6_isHotter 61 = .ok (.iaload, 1) := by decide +kernel
theorem dX6_isHotter_62 : decode cX6_isHotter 62 = .ok (.aload_n 0, 1) := by decide +kernel
theorem dX6_isHotter_63 : decode cX6_isHotter 63 = .ok (.getfield 12, 3) := by decide +kernel
theorem dX6_isHotter_66 : decode cX6_isHotter 66 = .ok (.getfield 97, 3) := by decide +kernel
theorem dX6_isHotter_69 : decode cX6_isHotter 69 = .ok (.iload_n 2, 1) := by decide +kernel
theorem dX6_isHotter_70 : decode cX6_isHotter 70 = .ok (.iaload, 1) := by decide +kernel
theorem dX6_isHotter_71 : decode cX6_isHotter 71 = .ok (.if_icmp .ge 7, 3) := by decide +kernel
theorem dX6_isHotter_74 : decode cX6_isHotter 74 = .ok (.iconst 1, 1) := by decide +kernel
theorem dX6_isHotter_75 : decode cX6_isHotter 75 = .ok (.goto 4, 3) := by decide +kernel
theorem dX6_isHotter_78 : decode cX6_isHotter 78 = .ok (.iconst 0, 1) := by decide +kernel
theorem dX6_isHotter_79 : decode cX6_isHotter 79 = .ok (.ireturn, 1) := by decide +kernel
theorem dX6_isHotter_80 : decode cX6_isHotter 80 = .ok (.iload_n 1, 1) := by decide +kernel
theorem dX6_isHotter_81 : decode cX6_isHotter 81 = .ok (.iload_n 2, 1) := by decide +kernel
theorem dX6_isHotter_82 : decode cX6_isHotter 82 = .ok (.if_icmp .ge 7, 3) := by decide +kernel
theorem dX6_isHotter_85 : decode cX6_isHotter 85 = .ok (.iconst 1, 1) := by decide +kernel
theorem dX6_isHotter_86 : decode cX6_isHotter 86 = .ok (.goto 4, 3) := by decide +kernel
theorem dX6_isHotter_89 : decode cX6_isHotter 89 = .ok (.iconst 0, 1) := by decide +kernel
theorem dX6_isHotter_90 : decode cX6_isHotter 90 = .ok (.ireturn, 1) := by decide +kernel
set_option maxRecDepth 20000 in
theorem ggX6_homesAgree_X1_pointOf : GoodIn wsX6_homesAgree wsX1_pointOf := goodIn_r _ [8, 9, 41, 42, 43, 44, 45, 46, 47, 48] (by decide +kernel) (by decide +kernel)
set_option maxRecDepth 20000 in
theorem gX6_homesAgree_X1_pointOf : GoodIn wsX6_homesAgree (wsV RX6 150 RX1 yX1_pointOf wsX1_pointOf) := goodIn_app (goodIn_of _ (by decide +kernel)) ggX6_homesAgree_X1_pointOf
set_option maxRecDepth 20000 in
theorem ggX6_homesAgree_X0_homeByTree : GoodIn wsX6_homesAgree wsX0_homeByTree := goodIn_r _ [14, 15, 16, 17, 18, 13, 19, 20, 21, 22, 23, 49, 50, 51, 52, 53, 54, 55, 56, 57, 58] (by decide +kernel) (by decide +kernel)
set_option maxRecDepth 20000 in
theorem gX6_homesAgree_X0_homeByTree : GoodIn wsX6_homesAgree (wsV RX6 159 RX0 yX0_homeByTree wsX0_homeByTree) := goodIn_app (goodIn_of _ (by decide +kernel)) ggX6_homesAgree_X0_homeByTree
set_option maxRecDepth 20000 in
theorem ggX6_homesAgree_X0_homeAlong : GoodIn wsX6_homesAgree wsX0_homeAlong := goodIn_r _ [27, 28, 15, 49, 50, 51, 52, 53, 54, 55, 56, 57, 58] (by decide +kernel) (by decide +kernel)
set_option maxRecDepth 20000 in
theorem gX6_homesAgree_X0_homeAlong : GoodIn wsX6_homesAgree (wsV RX6 162 RX0 yX0_homeAlong wsX0_homeAlong) := goodIn_app (goodIn_of _ (by decide +kernel)) ggX6_homesAgree_X0_homeAlong
theorem dX6_homesAgree_0 : decode cX6_homesAgree 0 = .ok (.iconst 0, 1) := by decide +kernel
theorem dX6_homesAgree_1 : decode cX6_homesAgree 1 = .ok (.istore_n 1, 1) := by decide +kernel
theorem dX6_homesAgree_2 : decode cX6_homesAgree 2 = .ok (.iload_n 1, 1) := by decide +kernel
theorem dX6_homesAgree_3 : decode cX6_homesAgree 3 = .ok (.aload_n 0, 1) := by decide +kernel
theorem dX6_homesAgree_4 : decode cX6_homesAgree 4 = .ok (.getfield 12, 3) := by decide +kernel
theorem dX6_homesAgree_7 : decode cX6_homesAgree 7 = .ok (.getfield 252, 3) := by decide +kernel
theorem dX6_homesAgree_10 : decode cX6_homesAgree 10 = .ok (.if_icmp .ge 39, 3) := by decide +kernel
theorem dX6_homesAgree_13 : decode cX6_homesAgree 13 = .ok (.aload_n 0, 1) := by decide +kernel
theorem dX6_homesAgree_14 : decode cX6_homesAgree 14 = .ok (.getfield 12, 3) := by decide +kernel
theorem dX6_homesAgree_17 : decode cX6_homesAgree 17 = .ok (.iload_n 1, 1) := by decide +kernel
theorem dX6_homesAgree_18 : decode cX6_homesAgree 18 = .ok (.invokevirtual 150, 3) := by decide +kernel
theorem dX6_homesAgree_21 : decode cX6_homesAgree 21 = .ok (.istore_n 2, 1) := by decide +kernel
theorem dX6_homesAgree_22 : decode cX6_homesAgree 22 = .ok (.aload_n 0, 1) := by decide +kernel
theorem dX6_homesAgree_23 : decode cX6_homesAgree 23 = .ok (.getfield 19, 3) := by decide +kernel
theorem dX6_homesAgree_26 : decode cX6_homesAgree 26 = .ok (.iload_n 2, 1) := by decide +kernel
theorem dX6_homesAgree_27 : decode cX6_homesAgree 27 = .ok (.invokevirtual 159, 3) := by decide +kernel
theorem dX6_homesAgree_30 : decode cX6_homesAgree 30 = .ok (.aload_n 0, 1) := by decide +kernel
theorem dX6_homesAgree_31 : decode cX6_homesAgree 31 = .ok (.getfield 19, 3) := by decide +kernel
theorem dX6_homesAgree_34 : decode cX6_homesAgree 34 = .ok (.iload_n 2, 1) := by decide +kernel
theorem dX6_homesAgree_35 : decode cX6_homesAgree 35 = .ok (.invokevirtual 162, 3) := by decide +kernel
theorem dX6_homesAgree_38 : decode cX6_homesAgree 38 = .ok (.if_icmp .eq 5, 3) := by decide +kernel
theorem dX6_homesAgree_41 : decode cX6_homesAgree 41 = .ok (.iconst 0, 1) := by decide +kernel
theorem dX6_homesAgree_42 : decode cX6_homesAgree 42 = .ok (.ireturn, 1) := by decide +kernel
theorem dX6_homesAgree_43 : decode cX6_homesAgree 43 = .ok (.iinc 1 1, 3) := by decide +kernel
theorem dX6_homesAgree_46 : decode cX6_homesAgree 46 = .ok (.goto (-44), 3) := by decide +kernel
theorem dX6_homesAgree_49 : decode cX6_homesAgree 49 = .ok (.iconst 1, 1) := by decide +kernel
theorem dX6_homesAgree_50 : decode cX6_homesAgree 50 = .ok (.ireturn, 1) := by decide +kernel
set_option maxRecDepth 20000 in
theorem ggX6_stretchesFillTheRing_X0_stretchOf : GoodIn wsX6_stretchesFillTheRing wsX0_stretchOf := goodIn_r _ [8, 9, 10, 11, 12, 13, 14, 15, 16, 44, 45, 46, 47, 48, 49, 50, 51, 52, 53] (by decide +kernel) (by decide +kernel)
set_option maxRecDepth 20000 in
theorem gX6_stretchesFillTheRing_X0_stretchOf : GoodIn wsX6_stretchesFillTheRing (wsV RX6 108 RX0 yX0_stretchOf wsX0_stretchOf) := goodIn_app (goodIn_of _ (by decide +kernel)) ggX6_stretchesFillTheRing_X0_stretchOf
set_option maxRecDepth 20000 in
theorem ggX6_stretchesFillTheRing_X1_openPiers : GoodIn wsX6_stretchesFillTheRing wsX1_openPiers := goodIn_r _ [21, 22, 23, 36, 37, 38, 39, 40, 41, 42, 43] (by decide +kernel) (by decide +kernel)
set_option maxRecDepth 20000 in
theorem gX6_stretchesFillTheRing_X1_openPiers : GoodIn wsX6_stretchesFillTheRing (wsV RX6 260 RX1 yX1_openPiers wsX1_openPiers) := goodIn_app (goodIn_of _ (by decide +kernel)) ggX6_stretchesFillTheRing_X1_openPiers
theorem dX6_stretchesFillTheRing_0 : decode cX6_stretchesFillTheRing 0 = .ok (.iconst 0, 1) := by decide +kernel
theorem dX6_stretchesFillTheRing_1 : decode cX6_stretchesFillTheRing 1 = .ok (.istore_n 1, 1) := by decide +kernel
theorem dX6_stretchesFillTheRing_2 : decode cX6_stretchesFillTheRing 2 = .ok (.iconst 0, 1) := by decide +kernel
theorem dX6_stretchesFillTheRing_3 : decode cX6_stretchesFillTheRing 3 = .ok (.istore_n 2, 1) := by decide +kernel
theorem dX6_stretchesFillTheRing_4 : decode cX6_stretchesFillTheRing 4 = .ok (.iload_n 2, 1) := by decide +kernel
theorem dX6_stretchesFillTheRing_5 : decode cX6_stretchesFillTheRing 5 = .ok (.aload_n 0, 1) := by decide +kernel
theorem dX6_stretchesFillTheRing_6 : decode cX6_stretchesFillTheRing 6 = .ok (.getfield 12, 3) := by decide +kernel
theorem dX6_stretchesFillTheRing_9 : decode cX6_stretchesFillTheRing 9 = .ok (.getfield 186, 3) := by decide +kernel
theorem dX6_stretchesFillTheRing_12 : decode cX6_stretchesFillTheRing 12 = .ok (.if_icmp .ge 20, 3) := by decide +kernel
theorem dX6_stretchesFillTheRing_15 : decode cX6_stretchesFillTheRing 15 = .ok (.iload_n 1, 1) := by decide +kernel
theorem dX6_stretchesFillTheRing_16 : decode cX6_stretchesFillTheRing 16 = .ok (.aload_n 0, 1) := by decide +kernel
theorem dX6_stretchesFillTheRing_17 : decode cX6_stretchesFillTheRing 17 = .ok (.getfield 19, 3) := by decide +kernel
theorem dX6_stretchesFillTheRing_20 : decode cX6_stretchesFillTheRing 20 = .ok (.iload_n 2, 1) := by decide +kernel
theorem dX6_stretchesFillTheRing_21 : decode cX6_stretchesFillTheRing 21 = .ok (.invokevirtual 108, 3) := by decide +kernel
theorem dX6_stretchesFillTheRing_24 : decode cX6_stretchesFillTheRing 24 = .ok (.iadd, 1) := by decide +kernel
theorem dX6_stretchesFillTheRing_25 : decode cX6_stretchesFillTheRing 25 = .ok (.istore_n 1, 1) := by decide +kernel
theorem dX6_stretchesFillTheRing_26 : decode cX6_stretchesFillTheRing 26 = .ok (.iinc 2 1, 3) := by decide +kernel
theorem dX6_stretchesFillTheRing_29 : decode cX6_stretchesFillTheRing 29 = .ok (.goto (-25), 3) := by decide +kernel
theorem dX6_stretchesFillTheRing_32 : decode cX6_stretchesFillTheRing 32 = .ok (.iload_n 1, 1) := by decide +kernel
theorem dX6_stretchesFillTheRing_33 : decode cX6_stretchesFillTheRing 33 = .ok (.sipush 360, 3) := by decide +kernel
theorem dX6_stretchesFillTheRing_36 : decode cX6_stretchesFillTheRing 36 = .ok (.if_icmp .eq 13, 3) := by decide +kernel
theorem dX6_stretchesFillTheRing_39 : decode cX6_stretchesFillTheRing 39 = .ok (.aload_n 0, 1) := by decide +kernel
theorem dX6_stretchesFillTheRing_40 : decode cX6_stretchesFillTheRing 40 = .ok (.getfield 12, 3) := by decide +kernel
theorem dX6_stretchesFillTheRing_43 : decode cX6_stretchesFillTheRing 43 = .ok (.invokevirtual 260, 3) := by decide +kernel
theorem dX6_stretchesFillTheRing_46 : decode cX6_stretchesFillTheRing 46 = .ok (.ifCond .ne 7, 3) := by decide +kernel
theorem dX6_stretchesFillTheRing_49 : decode cX6_stretchesFillTheRing 49 = .ok (.iconst 1, 1) := by decide +kernel
theorem dX6_stretchesFillTheRing_50 : decode cX6_stretchesFillTheRing 50 = .ok (.goto 4, 3) := by decide +kernel
theorem dX6_stretchesFillTheRing_53 : decode cX6_stretchesFillTheRing 53 = .ok (.iconst 0, 1) := by decide +kernel
theorem dX6_stretchesFillTheRing_54 : decode cX6_stretchesFillTheRing 54 = .ok (.ireturn, 1) := by decide +kernel
set_option maxRecDepth 20000 in
theorem ggX6_nothingExceedsItsRoom_X1_roomOf : GoodIn wsX6_nothingExceedsItsRoom wsX1_roomOf := goodIn_r _ [9, 10, 11, 12, 25, 26, 27, 28, 29, 30, 31, 32] (by decide +kernel) (by decide +kernel)
set_option maxRecDepth 20000 in
theorem gX6_nothingExceedsItsRoom_X1_roomOf : GoodIn wsX6_nothingExceedsItsRoom (wsV RX6 123 RX1 yX1_roomOf wsX1_roomOf) := goodIn_app (goodIn_of _ (by decide +kernel)) ggX6_nothingExceedsItsRoom_X1_roomOf
theorem dX6_nothingExceedsItsRoom_0 : decode cX6_nothingExceedsItsRoom 0 = .ok (.iconst 0, 1) := by decide +kernel
theorem dX6_nothingExceedsItsRoom_1 : decode cX6_nothingExceedsItsRoom 1 = .ok (.istore_n 1, 1) := by decide +kernel
theorem dX6_nothingExceedsItsRoom_2 : decode cX6_nothingExceedsItsRoom 2 = .ok (.iload_n 1, 1) := by decide +kernel
theorem dX6_nothingExceedsItsRoom_3 : decode cX6_nothingExceedsItsRoom 3 = .ok (.aload_n 0, 1) := by decide +kernel
theorem dX6_nothingExceedsItsRoom_4 : decode cX6_nothingExceedsItsRoom 4 = .ok (.getfield 12, 3) := by decide +kernel
theorem dX6_nothingExceedsItsRoom_7 : decode cX6_nothingExceedsItsRoom 7 = .ok (.getfield 186, 3) := by decide +kernel
theorem dX6_nothingExceedsItsRoom_10 : decode cX6_nothingExceedsItsRoom 10 = .ok (.if_icmp .ge 31, 3) := by decide +kernel
theorem dX6_nothingExceedsItsRoom_13 : decode cX6_nothingExceedsItsRoom 13 = .ok (.aload_n 0, 1) := by decide +kernel
theorem dX6_nothingExceedsItsRoom_14 : decode cX6_nothingExceedsItsRoom 14 = .ok (.getfield 26, 3) := by decide +kernel
theorem dX6_nothingExceedsItsRoom_17 : decode cX6_nothingExceedsItsRoom 17 = .ok (.getfield 120, 3) := by decide +kernel
theorem dX6_nothingExceedsItsRoom_20 : decode cX6_nothingExceedsItsRoom 20 = .ok (.iload_n 1, 1) := by decide +kernel
theorem dX6_nothingExceedsItsRoom_21 : decode cX6_nothingExceedsItsRoom 21 = .ok (.iaload, 1) := by decide +kernel
theorem dX6_nothingExceedsItsRoom_22 : decode cX6_nothingExceedsItsRoom 22 = .ok (.aload_n 0, 1) := by decide +kernel
theorem dX6_nothingExceedsItsRoom_23 : decode cX6_nothingExceedsItsRoom 23 = .ok (.getfield 12, 3) := by decide +kernel
theorem dX6_nothingExceedsItsRoom_26 : decode cX6_nothingExceedsItsRoom 26 = .ok (.iload_n 1, 1) := by decide +kernel
theorem dX6_nothingExceedsItsRoom_27 : decode cX6_nothingExceedsItsRoom 27 = .ok (.invokevirtual 123, 3) := by decide +kernel
theorem dX6_nothingExceedsItsRoom_30 : decode cX6_nothingExceedsItsRoom 30 = .ok (.if_icmp .le 5, 3) := by decide +kernel
theorem dX6_nothingExceedsItsRoom_33 : decode cX6_nothingExceedsItsRoom 33 = .ok (.iconst 0, 1) := by decide +kernel
theorem dX6_nothingExceedsItsRoom_34 : decode cX6_nothingExceedsItsRoom 34 = .ok (.ireturn, 1) := by decide +kernel
theorem dX6_nothingExceedsItsRoom_35 : decode cX6_nothingExceedsItsRoom 35 = .ok (.iinc 1 1, 3) := by decide +kernel
theorem dX6_nothingExceedsItsRoom_38 : decode cX6_nothingExceedsItsRoom 38 = .ok (.goto (-36), 3) := by decide +kernel
theorem dX6_nothingExceedsItsRoom_41 : decode cX6_nothingExceedsItsRoom 41 = .ok (.iconst 1, 1) := by decide +kernel
theorem dX6_nothingExceedsItsRoom_42 : decode cX6_nothingExceedsItsRoom 42 = .ok (.ireturn, 1) := by decide +kernel
set_option maxRecDepth 20000 in
theorem ggX6_closingsStayNear_X6_closingStaysNear : GoodIn wsX6_closingsStayNear wsX6_closingStaysNear := goodIn_r _ [8, 9, 1, 10, 11, 12, 13, 14, 15, 16, 17, 18, 19, 20, 21, 22, 23, 24, 25, 26, 27, 28, 7, 29, 30, 3, 31, 32, 33, 34, 35, 36, 37, 38, 39, 40, 41, 42, 43, 44, 45, 46, 47, 48, 49, 50, 51, 52, 53, 54, 55, 56, 57, 58, 59, 60, 61, 62, 63, 64, 65, 66, 67, 68, 69, 70, 71, 72, 73, 74, 75, 76, 77, 78, 79, 80, 81, 82, 83, 84, 85, 86, 87, 88, 89, 90, 91, 92, 93, 94, 95, 96, 97, 98, 99, 100, 101, 102, 103, 104, 105, 106, 107, 108, 109, 110, 111, 112, 113, 114, 115, 116, 117, 118, 119, 120, 121, 122, 123, 124, 125, 126, 127, 128, 129, 130] (by decide +kernel) (by decide +kernel)
set_option maxRecDepth 20000 in
theorem gX6_closingsStayNear_X6_closingStaysNear : GoodIn wsX6_closingsStayNear (wsV RX6 342 RX6 yX6_closingStaysNear wsX6_closingStaysNear) := goodIn_app (goodIn_of _ (by decide +kernel)) ggX6_closingsStayNear_X6_closingStaysNear
theorem dX6_closingsStayNear_0 : decode cX6_closingsStayNear 0 = .ok (.iconst 0, 1) := by decide +kernel
theorem dX6_closingsStayNear_1 : decode cX6_closingsStayNear 1 = .ok (.istore_n 1, 1) := by decide +kernel
theorem dX6_closingsStayNear_2 : decode cX6_closingsStayNear 2 = .ok (.iload_n 1, 1) := by decide +kernel
theorem dX6_closingsStayNear_3 : decode cX6_closingsStayNear 3 = .ok (.aload_n 0, 1) := by decide +kernel
theorem dX6_closingsStayNear_4 : decode cX6_closingsStayNear 4 = .ok (.getfield 12, 3) := by decide +kernel
theorem dX6_closingsStayNear_7 : decode cX6_closingsStayNear 7 = .ok (.getfield 186, 3) := by decide +kernel
theorem dX6_closingsStayNear_10 : decode cX6_closingsStayNear 10 = .ok (.if_icmp .ge 31, 3) := by decide +kernel
theorem dX6_closingsStayNear_13 : decode cX6_closingsStayNear 13 = .ok (.aload_n 0, 1) := by decide +kernel
theorem dX6_closingsStayNear_14 : decode cX6_closingsStayNear 14 = .ok (.getfield 12, 3) := by decide +kernel
theorem dX6_closingsStayNear_17 : decode cX6_closingsStayNear 17 = .ok (.getfield 101, 3) := by decide +kernel
theorem dX6_closingsStayNear_20 : decode cX6_closingsStayNear 20 = .ok (.iload_n 1, 1) := by decide +kernel
theorem dX6_closingsStayNear_21 : decode cX6_closingsStayNear 21 = .ok (.baload, 1) := by decide +kernel
theorem dX6_closingsStayNear_22 : decode cX6_closingsStayNear 22 = .ok (.ifCond .eq 13, 3) := by decide +kernel
theorem dX6_closingsStayNear_25 : decode cX6_closingsStayNear 25 = .ok (.aload_n 0, 1) := by decide +kernel
theorem dX6_closingsStayNear_26 : decode cX6_closingsStayNear 26 = .ok (.iload_n 1, 1) := by decide +kernel
theorem dX6_closingsStayNear_27 : decode cX6_closingsStayNear 27 = .ok (.invokevirtual 342, 3) := by decide +kernel
theorem dX6_closingsStayNear_30 : decode cX6_closingsStayNear 30 = .ok (.ifCond .ne 5, 3) := by decide +kernel
theorem dX6_closingsStayNear_33 : decode cX6_closingsStayNear 33 = .ok (.iconst 0, 1) := by decide +kernel
theorem dX6_closingsStayNear_34 : decode cX6_closingsStayNear 34 = .ok (.ireturn, 1) := by decide +kernel
theorem dX6_closingsStayNear_35 : decode cX6_closingsStayNear 35 = .ok (.iinc 1 1, 3) := by decide +kernel
theorem dX6_closingsStayNear_38 : decode cX6_closingsStayNear 38 = .ok (.goto (-36), 3) := by decide +kernel
theorem dX6_closingsStayNear_41 : decode cX6_closingsStayNear 41 = .ok (.iconst 1, 1) := by decide +kernel
theorem dX6_closingsStayNear_42 : decode cX6_closingsStayNear 42 = .ok (.ireturn, 1) := by decide +kernel
set_option maxRecDepth 20000 in
theorem ggX6_closingStaysNear_X0_neighboursOf : GoodIn wsX6_closingStaysNear wsX0_neighboursOf := goodIn_r _ [11, 12, 13, 14, 15, 16, 17, 10, 18, 116, 117, 118, 119, 120, 121, 122, 123, 124, 125] (by decide +kernel) (by decide +kernel)
set_option maxRecDepth 20000 in
theorem gX6_closingStaysNear_X0_neighboursOf : GoodIn wsX6_closingStaysNear (wsV RX6 129 RX0 yX0_neighboursOf wsX0_neighboursOf) := goodIn_app (goodIn_of _ (by decide +kernel)) ggX6_closingStaysNear_X0_neighboursOf
set_option maxRecDepth 20000 in
theorem ggX6_closingStaysNear_X6_supposeClosed : GoodIn wsX6_closingStaysNear wsX6_supposeClosed := goodIn_r _ [23, 24, 2, 25, 6, 26, 27, 28, 29, 30, 31, 32, 33, 34, 35, 36, 37, 38, 39, 40, 41, 42, 43, 44, 45, 10, 46, 47, 12, 48, 49, 50, 13, 51, 52, 53, 54, 55, 56, 57, 58, 59, 60, 61, 62, 63, 64, 65, 66, 67, 68, 69, 70, 71, 72, 73, 74, 14, 87, 88, 89, 90, 91, 92, 93, 94, 95, 96, 97, 98, 99, 100, 101, 102, 103, 104, 105, 106, 116, 117, 118, 119, 120, 121, 122, 123, 124, 125] (by decide +kernel) (by decide +kernel)
set_option maxRecDepth 20000 in
theorem gX6_closingStaysNear_X6_supposeClosed : GoodIn wsX6_closingStaysNear (wsV RX6 203 RX6 yX6_supposeClosed wsX6_supposeClosed) := goodIn_app (goodIn_of _ (by decide +kernel)) ggX6_closingStaysNear_X6_supposeClosed
set_option maxRecDepth 20000 in
theorem ggX6_closingStaysNear_X1_pointOf : GoodIn wsX6_closingStaysNear wsX1_pointOf := goodIn_r _ [78, 37, 99, 100, 101, 102, 103, 104, 105, 106] (by decide +kernel) (by decide +kernel)
set_option maxRecDepth 20000 in
theorem gX6_closingStaysNear_X1_pointOf : GoodIn wsX6_closingStaysNear (wsV RX6 150 RX1 yX1_pointOf wsX1_pointOf) := goodIn_app (goodIn_of _ (by decide +kernel)) ggX6_closingStaysNear_X1_pointOf
set_option maxRecDepth 20000 in
theorem ggX6_closingStaysNear_X0_homeByTree : GoodIn wsX6_closingStaysNear wsX0_homeByTree := goodIn_r _ [82, 13, 83, 84, 85, 10, 86, 12, 50, 64, 65, 116, 117, 118, 119, 120, 121, 122, 123, 124, 125] (by decide +kernel) (by decide +kernel)
set_option maxRecDepth 20000 in
theorem gX6_closingStaysNear_X0_homeByTree : GoodIn wsX6_closingStaysNear (wsV RX6 159 RX0 yX0_homeByTree wsX0_homeByTree) := goodIn_app (goodIn_of _ (by decide +kernel)) ggX6_closingStaysNear_X0_homeByTree
theorem dX6_closingStaysNear_0 : decode cX6_closingStaysNear 0 = .ok (.aload_n 0, 1) := by decide +kernel
theorem dX6_closingStaysNear_1 : decode cX6_closingStaysNear 1 = .ok (.getfield 19, 3) := by decide +kernel
theorem dX6_closingStaysNear_4 : decode cX6_closingStaysNear 4 = .ok (.iload_n 1, 1) := by decide +kernel
theorem dX6_closingStaysNear_5 : decode cX6_closingStaysNear 5 = .ok (.invokevirtual 129, 3) := by decide +kernel
theorem dX6_closingStaysNear_8 : decode cX6_closingStaysNear 8 = .ok (.istore_n 2, 1) := by decide +kernel
theorem dX6_closingStaysNear_9 : decode cX6_closingStaysNear 9 = .ok (.aload_n 0, 1) := by decide +kernel
theorem dX6_closingStaysNear_10 : decode cX6_closingStaysNear 10 = .ok (.iload_n 1, 1) := by decide +kernel
theorem dX6_closingStaysNear_11 : decode cX6_closingStaysNear 11 = .ok (.invokevirtual 203, 3) := by decide +kernel
theorem dX6_closingStaysNear_14 : decode cX6_closingStaysNear 14 = .ok (.iconst 0, 1) := by decide +kernel
theorem dX6_closingStaysNear_15 : decode cX6_closingStaysNear 15 = .ok (.istore_n 3, 1) := by decide +kernel
theorem dX6_closingStaysNear_16 : decode cX6_closingStaysNear 16 = .ok (.iload_n 3, 1) := by decide +kernel
theorem dX6_closingStaysNear_17 : decode cX6_closingStaysNear 17 = .ok (.aload_n 0, 1) := by decide +kernel
theorem dX6_closingStaysNear_18 : decode cX6_closingStaysNear 18 = .ok (.getfield 12, 3) := by decide +kernel
theorem dX6_closingStaysNear_21 : decode cX6_closingStaysNear 21 = .ok (.getfield 252, 3) := by decide +kernel
theorem dX6_closingStaysNear_24 : decode cX6_closingStaysNear 24 = .ok (.if_icmp .ge 81, 3) := by decide +kernel
theorem dX6_closingStaysNear_27 : decode cX6_closingStaysNear 27 = .ok (.aload_n 0, 1) := by decide +kernel
theorem dX6_closingStaysNear_28 : decode cX6_closingStaysNear 28 = .ok (.getfield 26, 3) := by decide +kernel
theorem dX6_closingStaysNear_31 : decode cX6_closingStaysNear 31 = .ok (.getfield 345, 3) := by decide +kernel
theorem dX6_closingStaysNear_34 : decode cX6_closingStaysNear 34 = .ok (.iload_n 3, 1) := by decide +kernel
theorem dX6_closingStaysNear_35 : decode cX6_closingStaysNear 35 = .ok (.iaload, 1) := by decide +kernel
theorem dX6_closingStaysNear_36 : decode cX6_closingStaysNear 36 = .ok (.istore 4, 2) := by decide +kernel
theorem dX6_closingStaysNear_38 : decode cX6_closingStaysNear 38 = .ok (.aload_n 0, 1) := by decide +kernel
theorem dX6_closingStaysNear_39 : decode cX6_closingStaysNear 39 = .ok (.getfield 33, 3) := by decide +kernel
theorem dX6_closingStaysNear_42 : decode cX6_closingStaysNear 42 = .ok (.aload_n 0, 1) := by decide +kernel
theorem dX6_closingStaysNear_43 : decode cX6_closingStaysNear 43 = .ok (.getfield 12, 3) := by decide +kernel
theorem dX6_closingStaysNear_46 : decode cX6_closingStaysNear 46 = .ok (.iload_n 3, 1) := by decide +kernel
theorem dX6_closingStaysNear_47 : decode cX6_closingStaysNear 47 = .ok (.invokevirtual 150, 3) := by decide +kernel
theorem dX6_closingStaysNear_50 : decode cX6_closingStaysNear 50 = .ok (.invokevirtual 159, 3) := by decide +kernel
theorem dX6_closingStaysNear_53 : decode cX6_closingStaysNear 53 = .ok (.istore 5, 2) := by decide +kernel
theorem dX6_closingStaysNear_55 : decode cX6_closingStaysNear 55 = .ok (.iload 5, 2) := by decide +kernel
theorem dX6_closingStaysNear_57 : decode cX6_closingStaysNear 57 = .ok (.iload 4, 2) := by decide +kernel
theorem dX6_closingStaysNear_59 : decode cX6_closingStaysNear 59 = .ok (.if_icmp .eq 40, 3) := by decide +kernel
theorem dX6_closingStaysNear_62 : decode cX6_closingStaysNear 62 = .ok (.iload 5, 2) := by decide +kernel
theorem dX6_closingStaysNear_64 : decode cX6_closingStaysNear 64 = .ok (.bipush (-15), 2) := by decide +kernel
theorem dX6_closingStaysNear_66 : decode cX6_closingStaysNear 66 = .ok (.if_icmp .eq 13, 3) := by decide +kernel
theorem dX6_closingStaysNear_69 : decode cX6_closingStaysNear 69 = .ok (.iload_n 2, 1) := by decide +kernel
theorem dX6_closingStaysNear_70 : decode cX6_closingStaysNear 70 = .ok (.iload 5, 2) := by decide +kernel
theorem dX6_closingStaysNear_72 : decode cX6_closingStaysNear 72 = .ok (.ishr, 1) := by decide +kernel
theorem dX6_closingStaysNear_73 : decode cX6_closingStaysNear 73 = .ok (.iconst 1, 1) := by decide +kernel
theorem dX6_closingStaysNear_74 : decode cX6_closingStaysNear 74 = .ok (.iand, 1) := by decide +kernel
theorem dX6_closingStaysNear_75 : decode cX6_closingStaysNear 75 = .ok (.iconst 1, 1) := by decide +kernel
theorem dX6_closingStaysNear_76 : decode cX6_closingStaysNear 76 = .ok (.if_icmp .ne 7, 3) := by decide +kernel
theorem dX6_closingStaysNear_79 : decode cX6_closingStaysNear 79 = .ok (.iconst 1, 1) := by decide +kernel
theorem dX6_closingStaysNear_80 : decode cX6_closingStaysNear 80 = .ok (.goto 4, 3) := by decide +kernel
theorem dX6_closingStaysNear_83 : decode cX6_closingStaysNear 83 = .ok (.iconst 0, 1) := by decide +kernel
theorem dX6_closingStaysNear_84 : decode cX6_closingStaysNear 84 = .ok (.istore 6, 2) := by decide +kernel
theorem dX6_closingStaysNear_86 : decode cX6_closingStaysNear 86 = .ok (.iload 4, 2) := by decide +kernel
theorem dX6_closingStaysNear_88 : decode cX6_closingStaysNear 88 = .ok (.iload_n 1, 1) := by decide +kernel
theorem dX6_closingStaysNear_89 : decode cX6_closingStaysNear 89 = .ok (.if_icmp .ne 8, 3) := by decide +kernel
theorem dX6_closingStaysNear_92 : decode cX6_closingStaysNear 92 = .ok (.iload 6, 2) := by decide +kernel
theorem dX6_closingStaysNear_94 : decode cX6_closingStaysNear 94 = .ok (.ifCond .ne 5, 3) := by decide +kernel
theorem dX6_closingStaysNear_97 : decode cX6_closingStaysNear 97 = .ok (.iconst 0, 1) := by decide +kernel
theorem dX6_closingStaysNear_98 : decode cX6_closingStaysNear 98 = .ok (.ireturn, 1) := by decide +kernel
theorem dX6_closingStaysNear_99 : decode cX6_closingStaysNear 99 = .ok (.iinc 3 1, 3) := by decide +kernel
theorem dX6_closingStaysNear_102 : decode cX6_closingStaysNear 102 = .ok (.goto (-86), 3) := by decide +kernel
theorem dX6_closingStaysNear_105 : decode cX6_closingStaysNear 105 = .ok (.iconst 1, 1) := by decide +kernel
theorem dX6_closingStaysNear_106 : decode cX6_closingStaysNear 106 = .ok (.ireturn, 1) := by decide +kernel
