set_option maxRecDepth 20000 in
theorem ggX7_run_X7_refuses : GoodIn wsX7_run wsX7_refuses := goodIn_r _ [62, 63, 64, 151, 152, 153, 154, 155, 156, 157, 158, 159, 160, 161, 162, 163, 164, 165, 166, 167, 168, 169, 170, 171, 172, 173, 174, 175] (by decide +kernel) (by decide +kernel)
set_option maxRecDepth 20000 in
theorem gX7_run_X7_refuses : GoodIn wsX7_run (wsV RX7 104 RX7 yX7_refuses wsX7_refuses) := goodIn_app (goodIn_of _ (by decide +kernel)) ggX7_run_X7_refuses
set_option maxRecDepth 20000 in
theorem ggX7_run_X7_ends : GoodIn wsX7_run wsX7_ends := goodIn_r _ [149, 150, 39, 40, 7, 41, 46, 47, 48, 49, 50, 151, 152, 153, 154, 155, 156, 157, 158, 159, 160, 161, 162, 163, 164, 165, 166, 167, 168, 169, 170, 171, 172, 173, 174, 175] (by decide +kernel) (by decide +kernel)
set_option maxRecDepth 20000 in
theorem gX7_run_X7_ends : GoodIn wsX7_run (wsV RX7 119 RX7 yX7_ends wsX7_ends) := goodIn_app (goodIn_of _ (by decide +kernel)) ggX7_run_X7_ends
theorem dX7_run_0 : decode cX7_run 0 = .ok (.aload_n 0, 1) := by decide +kernel
theorem dX7_run_1 : decode cX7_run 1 = .ok (.invokevirtual 228, 3) := by decide +kernel
theorem dX7_run_4 : decode cX7_run 4 = .ok (.aload_n 0, 1) := by decide +kernel
theorem dX7_run_5 : decode cX7_run 5 = .ok (.iconst 0, 1) := by decide +kernel
theorem dX7_run_6 : decode cX7_run 6 = .ok (.putfield 193, 3) := by decide +kernel
theorem dX7_run_9 : decode cX7_run 9 = .ok (.aload_n 0, 1) := by decide +kernel
theorem dX7_run_10 : decode cX7_run 10 = .ok (.getfield 199, 3) := by decide +kernel
theorem dX7_run_13 : decode cX7_run 13 = .ok (.ifCond .lt 12, 3) := by decide +kernel
theorem dX7_run_16 : decode cX7_run 16 = .ok (.sipush (-1000), 3) := by decide +kernel
theorem dX7_run_19 : decode cX7_run 19 = .ok (.aload_n 0, 1) := by decide +kernel
theorem dX7_run_20 : decode cX7_run 20 = .ok (.getfield 199, 3) := by decide +kernel
theorem dX7_run_23 : decode cX7_run 23 = .ok (.isub, 1) := by decide +kernel
theorem dX7_run_24 : decode cX7_run 24 = .ok (.ireturn, 1) := by decide +kernel
theorem dX7_run_25 : decode cX7_run 25 = .ok (.aload_n 0, 1) := by decide +kernel
theorem dX7_run_26 : decode cX7_run 26 = .ok (.invokevirtual 113, 3) := by decide +kernel
theorem dX7_run_29 : decode cX7_run 29 = .ok (.iconst 0, 1) := by decide +kernel
theorem dX7_run_30 : decode cX7_run 30 = .ok (.istore_n 1, 1) := by decide +kernel
theorem dX7_run_31 : decode cX7_run 31 = .ok (.iload_n 1, 1) := by decide +kernel
theorem dX7_run_32 : decode cX7_run 32 = .ok (.aload_n 0, 1) := by decide +kernel
theorem dX7_run_33 : decode cX7_run 33 = .ok (.getfield 212, 3) := by decide +kernel
theorem dX7_run_36 : decode cX7_run 36 = .ok (.if_icmp .ge 37, 3) := by decide +kernel
theorem dX7_run_39 : decode cX7_run 39 = .ok (.aload_n 0, 1) := by decide +kernel
theorem dX7_run_40 : decode cX7_run 40 = .ok (.iconst 3, 1) := by decide +kernel
theorem dX7_run_41 : decode cX7_run 41 = .ok (.iload_n 1, 1) := by decide +kernel
theorem dX7_run_42 : decode cX7_run 42 = .ok (.imul, 1) := by decide +kernel
theorem dX7_run_43 : decode cX7_run 43 = .ok (.invokevirtual 231, 3) := by decide +kernel
theorem dX7_run_46 : decode cX7_run 46 = .ok (.bipush (-15), 2) := by decide +kernel
theorem dX7_run_48 : decode cX7_run 48 = .ok (.bipush (-11), 2) := by decide +kernel
theorem dX7_run_50 : decode cX7_run 50 = .ok (.invokestatic 59, 3) := by decide +kernel
theorem dX7_run_53 : decode cX7_run 53 = .ok (.ifCond .eq 14, 3) := by decide +kernel
theorem dX7_run_56 : decode cX7_run 56 = .ok (.aload_n 0, 1) := by decide +kernel
theorem dX7_run_57 : decode cX7_run 57 = .ok (.aload_n 0, 1) := by decide +kernel
theorem dX7_run_58 : decode cX7_run 58 = .ok (.iconst 4, 1) := by decide +kernel
theorem dX7_run_59 : decode cX7_run 59 = .ok (.iload_n 1, 1) := by decide +kernel
theorem dX7_run_60 : decode cX7_run 60 = .ok (.invokevirtual 104, 3) := by decide +kernel
theorem dX7_run_63 : decode cX7_run 63 = .ok (.invokevirtual 119, 3) := by decide +kernel
theorem dX7_run_66 : decode cX7_run 66 = .ok (.ireturn, 1) := by decide +kernel
theorem dX7_run_67 : decode cX7_run 67 = .ok (.iinc 1 1, 3) := by decide +kernel
theorem dX7_run_70 : decode cX7_run 70 = .ok (.goto (-39), 3) := by decide +kernel
theorem dX7_run_73 : decode cX7_run 73 = .ok (.aload_n 0, 1) := by decide +kernel
theorem dX7_run_74 : decode cX7_run 74 = .ok (.aload_n 0, 1) := by decide +kernel
theorem dX7_run_75 : decode cX7_run 75 = .ok (.getfield 212, 3) := by decide +kernel
theorem dX7_run_78 : decode cX7_run 78 = .ok (.invokevirtual 119, 3) := by decide +kernel
theorem dX7_run_81 : decode cX7_run 81 = .ok (.ireturn, 1) := by decide +kernel
theorem dX7_writes_0 : decode cX7_writes 0 = .ok (.aload_n 0, 1) := by decide +kernel
theorem dX7_writes_1 : decode cX7_writes 1 = .ok (.getfield 52, 3) := by decide +kernel
theorem dX7_writes_4 : decode cX7_writes 4 = .ok (.aload_n 0, 1) := by decide +kernel
theorem dX7_writes_5 : decode cX7_writes 5 = .ok (.getfield 234, 3) := by decide +kernel
theorem dX7_writes_8 : decode cX7_writes 8 = .ok (.iload_n 1, 1) := by decide +kernel
theorem dX7_writes_9 : decode cX7_writes 9 = .ok (.iastore, 1) := by decide +kernel
theorem dX7_writes_10 : decode cX7_writes 10 = .ok (.aload_n 0, 1) := by decide +kernel
theorem dX7_writes_11 : decode cX7_writes 11 = .ok (.dup, 1) := by decide +kernel
theorem dX7_writes_12 : decode cX7_writes 12 = .ok (.getfield 234, 3) := by decide +kernel
theorem dX7_writes_15 : decode cX7_writes 15 = .ok (.iconst 1, 1) := by decide +kernel
theorem dX7_writes_16 : decode cX7_writes 16 = .ok (.iadd, 1) := by decide +kernel
theorem dX7_writes_17 : decode cX7_writes 17 = .ok (.putfield 234, 3) := by decide +kernel
theorem dX7_writes_20 : decode cX7_writes 20 = .ok (.return_, 1) := by decide +kernel
set_option maxRecDepth 20000 in
theorem ggX7_writesNumber_X7_writesNumber : GoodIn wsX7_writesNumber wsX7_writesNumber := goodIn_r _ [0, 1, 2, 3, 4, 5, 6, 7, 8, 9, 10, 11, 12, 13, 14, 15, 16, 17, 18, 19, 20, 21, 22, 23, 24, 25, 26, 27, 28, 29, 30, 31, 32, 33, 34, 35] (by decide +kernel) (by decide +kernel)
set_option maxRecDepth 20000 in
theorem gX7_writesNumber_X7_writesNumber : GoodIn wsX7_writesNumber (wsV RX7 237 RX7 yX7_writesNumber wsX7_writesNumber) := goodIn_app (goodIn_of _ (by decide +kernel)) ggX7_writesNumber_X7_writesNumber
set_option maxRecDepth 20000 in
theorem ggX7_writesNumber_X7_writes : GoodIn wsX7_writesNumber wsX7_writes := goodIn_r _ [8, 9, 10, 11, 12, 13, 14, 15, 16, 17, 18, 19, 20, 21, 22, 23, 24, 25, 26, 27, 28, 29, 30, 31, 32, 33, 34, 35] (by decide +kernel) (by decide +kernel)
set_option maxRecDepth 20000 in
theorem gX7_writesNumber_X7_writes : GoodIn wsX7_writesNumber (wsV RX7 240 RX7 yX7_writes wsX7_writes) := goodIn_app (goodIn_of _ (by decide +kernel)) ggX7_writesNumber_X7_writes
theorem dX7_writesNumber_0 : decode cX7_writesNumber 0 = .ok (.iload_n 1, 1) := by decide +kernel
theorem dX7_writesNumber_1 : decode cX7_writesNumber 1 = .ok (.bipush 9, 2) := by decide +kernel
theorem dX7_writesNumber_3 : decode cX7_writesNumber 3 = .ok (.if_icmp .le 11, 3) := by decide +kernel
theorem dX7_writesNumber_6 : decode cX7_writesNumber 6 = .ok (.aload_n 0, 1) := by decide +kernel
theorem dX7_writesNumber_7 : decode cX7_writesNumber 7 = .ok (.iload_n 1, 1) := by decide +kernel
theorem dX7_writesNumber_8 : decode cX7_writesNumber 8 = .ok (.bipush 10, 2) := by decide +kernel
theorem dX7_writesNumber_10 : decode cX7_writesNumber 10 = .ok (.idiv, 1) := by decide +kernel
theorem dX7_writesNumber_11 : decode cX7_writesNumber 11 = .ok (.invokevirtual 237, 3) := by decide +kernel
theorem dX7_writesNumber_14 : decode cX7_writesNumber 14 = .ok (.aload_n 0, 1) := by decide +kernel
theorem dX7_writesNumber_15 : decode cX7_writesNumber 15 = .ok (.bipush 48, 2) := by decide +kernel
theorem dX7_writesNumber_17 : decode cX7_writesNumber 17 = .ok (.iload_n 1, 1) := by decide +kernel
theorem dX7_writesNumber_18 : decode cX7_writesNumber 18 = .ok (.bipush 10, 2) := by decide +kernel
theorem dX7_writesNumber_20 : decode cX7_writesNumber 20 = .ok (.irem, 1) := by decide +kernel
theorem dX7_writesNumber_21 : decode cX7_writesNumber 21 = .ok (.iadd, 1) := by decide +kernel
theorem dX7_writesNumber_22 : decode cX7_writesNumber 22 = .ok (.invokevirtual 240, 3) := by decide +kernel
theorem dX7_writesNumber_25 : decode cX7_writesNumber 25 = .ok (.return_, 1) := by decide +kernel
set_option maxRecDepth 20000 in
theorem ggX7_tell_X7_isPier : GoodIn wsX7_tell wsX7_isPier := goodIn_r _ [8, 2, 9, 10, 7, 11, 63, 64, 65, 66, 67, 68, 69, 70, 71, 72, 73, 74, 75, 76, 77, 78, 79, 80, 81, 82, 83, 84, 85, 86, 87] (by decide +kernel) (by decide +kernel)
set_option maxRecDepth 20000 in
theorem gX7_tell_X7_isPier : GoodIn wsX7_tell (wsV RX7 122 RX7 yX7_isPier wsX7_isPier) := goodIn_app (goodIn_of _ (by decide +kernel)) ggX7_tell_X7_isPier
set_option maxRecDepth 20000 in
theorem ggX7_tell_X7_lays : GoodIn wsX7_tell wsX7_lays := goodIn_r _ [15, 16, 2, 17, 18, 19, 7, 20, 21, 22, 23, 24, 25, 26, 27, 28, 29, 30, 31, 32, 33, 34, 35, 36, 37, 38, 39, 40, 41, 3, 42, 43, 44, 45, 46, 47, 48, 49, 50, 51, 52, 53, 63, 64, 65, 66, 67, 68, 69, 70, 71, 72, 73, 74, 75, 76, 77, 78, 79, 80, 81, 82, 83, 84, 85, 86, 87] (by decide +kernel) (by decide +kernel)
set_option maxRecDepth 20000 in
theorem gX7_tell_X7_lays : GoodIn wsX7_tell (wsV RX7 159 RX7 yX7_lays wsX7_lays) := goodIn_app (goodIn_of _ (by decide +kernel)) ggX7_tell_X7_lays
set_option maxRecDepth 20000 in
theorem ggX7_tell_X7_writesNumber : GoodIn wsX7_tell wsX7_writesNumber := goodIn_r _ [57, 54, 55, 56, 7, 58, 59, 60, 61, 62, 1, 63, 64, 65, 66, 67, 68, 69, 70, 71, 72, 73, 74, 75, 76, 77, 78, 79, 80, 81, 82, 83, 84, 85, 86, 87] (by decide +kernel) (by decide +kernel)
set_option maxRecDepth 20000 in
theorem gX7_tell_X7_writesNumber : GoodIn wsX7_tell (wsV RX7 237 RX7 yX7_writesNumber wsX7_writesNumber) := goodIn_app (goodIn_of _ (by decide +kernel)) ggX7_tell_X7_writesNumber
set_option maxRecDepth 20000 in
theorem ggX7_tell_X7_writes : GoodIn wsX7_tell wsX7_writes := goodIn_r _ [61, 62, 1, 63, 64, 65, 66, 67, 68, 69, 70, 71, 72, 73, 74, 75, 76, 77, 78, 79, 80, 81, 82, 83, 84, 85, 86, 87] (by decide +kernel) (by decide +kernel)
set_option maxRecDepth 20000 in
theorem gX7_tell_X7_writes : GoodIn wsX7_tell (wsV RX7 240 RX7 yX7_writes wsX7_writes) := goodIn_app (goodIn_of _ (by decide +kernel)) ggX7_tell_X7_writes
set_option maxRecDepth 20000 in
theorem ggX7_tell_X7_p : GoodIn wsX7_tell wsX7_p := goodIn_r _ [34, 2, 63, 64, 65, 66, 67, 68, 69, 70, 71, 72, 73, 74, 75, 76, 77, 78, 79, 80, 81, 82, 83, 84, 85, 86, 87] (by decide +kernel) (by decide +kernel)
set_option maxRecDepth 20000 in
theorem gX7_tell_X7_p : GoodIn wsX7_tell (wsV RX7 73 RX7 yX7_p wsX7_p) := goodIn_app (goodIn_of _ (by decide +kernel)) ggX7_tell_X7_p
set_option maxRecDepth 20000 in
theorem ggX7_tell_X7_isOpen : GoodIn wsX7_tell wsX7_isOpen := goodIn_r _ [30, 31, 32, 33, 7, 34, 2, 63, 64, 65, 66, 67, 68, 69, 70, 71, 72, 73, 74, 75, 76, 77, 78, 79, 80, 81, 82, 83, 84, 85, 86, 87] (by decide +kernel) (by decide +kernel)
set_option maxRecDepth 20000 in
theorem gX7_tell_X7_isOpen : GoodIn wsX7_tell (wsV RX7 77 RX7 yX7_isOpen wsX7_isOpen) := goodIn_app (goodIn_of _ (by decide +kernel)) ggX7_tell_X7_isOpen
theorem dX7_tell_0 : decode cX7_tell 0 = .ok (.aload_n 0, 1) := by decide +kernel
theorem dX7_tell_1 : decode cX7_tell 1 = .ok (.iload_n 1, 1) := by decide +kernel
theorem dX7_tell_2 : decode cX7_tell 2 = .ok (.invokevirtual 122, 3) := by decide +kernel
theorem dX7_tell_5 : decode cX7_tell 5 = .ok (.ifCond .ne 6, 3) := by decide +kernel
theorem dX7_tell_8 : decode cX7_tell 8 = .ok (.bipush (-11), 2) := by decide +kernel
theorem dX7_tell_10 : decode cX7_tell 10 = .ok (.ireturn, 1) := by decide +kernel
theorem dX7_tell_11 : decode cX7_tell 11 = .ok (.aload_n 0, 1) := by decide +kernel
theorem dX7_tell_12 : decode cX7_tell 12 = .ok (.invokevirtual 159, 3) := by decide +kernel
theorem dX7_tell_15 : decode cX7_tell 15 = .ok (.aload_n 0, 1) := by decide +kernel
theorem dX7_tell_16 : decode cX7_tell 16 = .ok (.iconst 0, 1) := by decide +kernel
theorem dX7_tell_17 : decode cX7_tell 17 = .ok (.putfield 234, 3) := by decide +kernel
theorem dX7_tell_20 : decode cX7_tell 20 = .ok (.aload_n 0, 1) := by decide +kernel
theorem dX7_tell_21 : decode cX7_tell 21 = .ok (.iload_n 1, 1) := by decide +kernel
theorem dX7_tell_22 : decode cX7_tell 22 = .ok (.invokevirtual 237, 3) := by decide +kernel
theorem dX7_tell_25 : decode cX7_tell 25 = .ok (.aload_n 0, 1) := by decide +kernel
theorem dX7_tell_26 : decode cX7_tell 26 = .ok (.bipush 42, 2) := by decide +kernel
theorem dX7_tell_28 : decode cX7_tell 28 = .ok (.invokevirtual 240, 3) := by decide +kernel
theorem dX7_tell_31 : decode cX7_tell 31 = .ok (.aload_n 0, 1) := by decide +kernel
theorem dX7_tell_32 : decode cX7_tell 32 = .ok (.aload_n 0, 1) := by decide +kernel
theorem dX7_tell_33 : decode cX7_tell 33 = .ok (.iload_n 1, 1) := by decide +kernel
theorem dX7_tell_34 : decode cX7_tell 34 = .ok (.iconst 0, 1) := by decide +kernel
theorem dX7_tell_35 : decode cX7_tell 35 = .ok (.invokevirtual 73, 3) := by decide +kernel
theorem dX7_tell_38 : decode cX7_tell 38 = .ok (.invokevirtual 237, 3) := by decide +kernel
theorem dX7_tell_41 : decode cX7_tell 41 = .ok (.aload_n 0, 1) := by decide +kernel
theorem dX7_tell_42 : decode cX7_tell 42 = .ok (.iload_n 1, 1) := by decide +kernel
theorem dX7_tell_43 : decode cX7_tell 43 = .ok (.invokevirtual 77, 3) := by decide +kernel
theorem dX7_tell_46 : decode cX7_tell 46 = .ok (.ifCond .ne 9, 3) := by decide +kernel
theorem dX7_tell_49 : decode cX7_tell 49 = .ok (.aload_n 0, 1) := by decide +kernel
theorem dX7_tell_50 : decode cX7_tell 50 = .ok (.bipush 120, 2) := by decide +kernel
theorem dX7_tell_52 : decode cX7_tell 52 = .ok (.invokevirtual 240, 3) := by decide +kernel
theorem dX7_tell_55 : decode cX7_tell 55 = .ok (.aload_n 0, 1) := by decide +kernel
theorem dX7_tell_56 : decode cX7_tell 56 = .ok (.bipush 58, 2) := by decide +kernel
theorem dX7_tell_58 : decode cX7_tell 58 = .ok (.invokevirtual 240, 3) := by decide +kernel
theorem dX7_tell_61 : decode cX7_tell 61 = .ok (.iconst 1, 1) := by decide +kernel
theorem dX7_tell_62 : decode cX7_tell 62 = .ok (.istore_n 2, 1) := by decide +kernel
theorem dX7_tell_63 : decode cX7_tell 63 = .ok (.iconst 0, 1) := by decide +kernel
theorem dX7_tell_64 : decode cX7_tell 64 = .ok (.istore_n 3, 1) := by decide +kernel
theorem dX7_tell_65 : decode cX7_tell 65 = .ok (.iload_n 3, 1) := by decide +kernel
theorem dX7_tell_66 : decode cX7_tell 66 = .ok (.aload_n 0, 1) := by decide +kernel
theorem dX7_tell_67 : decode cX7_tell 67 = .ok (.getfield 9, 3) := by decide +kernel
theorem dX7_tell_70 : decode cX7_tell 70 = .ok (.iconst 1, 1) := by decide +kernel
theorem dX7_tell_71 : decode cX7_tell 71 = .ok (.iaload, 1) := by decide +kernel
theorem dX7_tell_72 : decode cX7_tell 72 = .ok (.if_icmp .ge 39, 3) := by decide +kernel
theorem dX7_tell_75 : decode cX7_tell 75 = .ok (.aload_n 0, 1) := by decide +kernel
theorem dX7_tell_76 : decode cX7_tell 76 = .ok (.getfield 22, 3) := by decide +kernel
theorem dX7_tell_79 : decode cX7_tell 79 = .ok (.iload_n 3, 1) := by decide +kernel
theorem dX7_tell_80 : decode cX7_tell 80 = .ok (.iaload, 1) := by decide +kernel
theorem dX7_tell_81 : decode cX7_tell 81 = .ok (.iload_n 1, 1) := by decide +kernel
theorem dX7_tell_82 : decode cX7_tell 82 = .ok (.if_icmp .eq 6, 3) := by decide +kernel
theorem dX7_tell_85 : decode cX7_tell 85 = .ok (.goto 20, 3) := by decide +kernel
theorem dX7_tell_88 : decode cX7_tell 88 = .ok (.iload_n 2, 1) := by decide +kernel
theorem dX7_tell_89 : decode cX7_tell 89 = .ok (.ifCond .ne 9, 3) := by decide +kernel
theorem dX7_tell_92 : decode cX7_tell 92 = .ok (.aload_n 0, 1) := by decide +kernel
theorem dX7_tell_93 : decode cX7_tell 93 = .ok (.bipush 44, 2) := by decide +kernel
theorem dX7_tell_95 : decode cX7_tell 95 = .ok (.invokevirtual 240, 3) := by decide +kernel
theorem dX7_tell_98 : decode cX7_tell 98 = .ok (.iconst 0, 1) := by decide +kernel
theorem dX7_tell_99 : decode cX7_tell 99 = .ok (.istore_n 2, 1) := by decide +kernel
theorem dX7_tell_100 : decode cX7_tell 100 = .ok (.aload_n 0, 1) := by decide +kernel
theorem dX7_tell_101 : decode cX7_tell 101 = .ok (.iload_n 3, 1) := by decide +kernel
theorem dX7_tell_102 : decode cX7_tell 102 = .ok (.invokevirtual 237, 3) := by decide +kernel
theorem dX7_tell_105 : decode cX7_tell 105 = .ok (.iinc 3 1, 3) := by decide +kernel
theorem dX7_tell_108 : decode cX7_tell 108 = .ok (.goto (-43), 3) := by decide +kernel
theorem dX7_tell_111 : decode cX7_tell 111 = .ok (.aload_n 0, 1) := by decide +kernel
theorem dX7_tell_112 : decode cX7_tell 112 = .ok (.getfield 234, 3) := by decide +kernel
theorem dX7_tell_115 : decode cX7_tell 115 = .ok (.ireturn, 1) := by decide +kernel
set_option maxRecDepth 20000 in
theorem ggX7_tellBarge_X7_isBarge : GoodIn wsX7_tellBarge wsX7_isBarge := goodIn_r _ [7, 8, 9, 10, 6, 11, 63, 64, 65, 66, 67, 68, 69, 70, 71, 72, 73, 74, 75, 76, 77, 78, 79, 80, 81, 82, 83, 84, 85, 86, 87] (by decide +kernel) (by decide +kernel)
set_option maxRecDepth 20000 in
theorem gX7_tellBarge_X7_isBarge : GoodIn wsX7_tellBarge (wsV RX7 140 RX7 yX7_isBarge wsX7_isBarge) := goodIn_app (goodIn_of _ (by decide +kernel)) ggX7_tellBarge_X7_isBarge
set_option maxRecDepth 20000 in
theorem ggX7_tellBarge_X7_lays : GoodIn wsX7_tellBarge wsX7_lays := goodIn_r _ [15, 16, 8, 17, 18, 19, 6, 20, 21, 22, 23, 24, 25, 26, 27, 28, 29, 30, 31, 32, 33, 34, 35, 36, 37, 38, 39, 40, 41, 2, 42, 43, 44, 45, 46, 47, 48, 49, 50, 51, 52, 53, 63, 64, 65, 66, 67, 68, 69, 70, 71, 72, 73, 74, 75, 76, 77, 78, 79, 80, 81, 82, 83, 84, 85, 86, 87] (by decide +kernel) (by decide +kernel)
set_option maxRecDepth 20000 in
theorem gX7_tellBarge_X7_lays : GoodIn wsX7_tellBarge (wsV RX7 159 RX7 yX7_lays wsX7_lays) := goodIn_app (goodIn_of _ (by decide +kernel)) ggX7_tellBarge_X7_lays
set_option maxRecDepth 20000 in
theorem ggX7_tellBarge_X7_writesNumber : GoodIn wsX7_tellBarge wsX7_writesNumber := goodIn_r _ [57, 54, 55, 56, 6, 58, 59, 60, 61, 62, 1, 63, 64, 65, 66, 67, 68, 69, 70, 71, 72, 73, 74, 75, 76, 77, 78, 79, 80, 81, 82, 83, 84, 85, 86, 87] (by decide +kernel) (by decide +kernel)
set_option maxRecDepth 20000 in
theorem gX7_tellBarge_X7_writesNumber : GoodIn wsX7_tellBarge (wsV RX7 237 RX7 yX7_writesNumber wsX7_writesNumber) := goodIn_app (goodIn_of _ (by decide +kernel)) ggX7_tellBarge_X7_writesNumber
set_option maxRecDepth 20000 in
theorem ggX7_tellBarge_X7_writes : GoodIn wsX7_tellBarge wsX7_writes := goodIn_r _ [61, 62, 1, 63, 64, 65, 66, 67, 68, 69, 70, 71, 72, 73, 74, 75, 76, 77, 78, 79, 80, 81, 82, 83, 84, 85, 86, 87] (by decide +kernel) (by decide +kernel)
set_option maxRecDepth 20000 in
theorem gX7_tellBarge_X7_writes : GoodIn wsX7_tellBarge (wsV RX7 240 RX7 yX7_writes wsX7_writes) := goodIn_app (goodIn_of _ (by decide +kernel)) ggX7_tellBarge_X7_writes
set_option maxRecDepth 20000 in
theorem ggX7_tellBarge_X7_b : GoodIn wsX7_tellBarge wsX7_b := goodIn_r _ [46, 8, 63, 64, 65, 66, 67, 68, 69, 70, 71, 72, 73, 74, 75, 76, 77, 78, 79, 80, 81, 82, 83, 84, 85, 86, 87] (by decide +kernel) (by decide +kernel)
set_option maxRecDepth 20000 in
theorem gX7_tellBarge_X7_b : GoodIn wsX7_tellBarge (wsV RX7 88 RX7 yX7_b wsX7_b) := goodIn_app (goodIn_of _ (by decide +kernel)) ggX7_tellBarge_X7_b
set_option maxRecDepth 20000 in
theorem ggX7_tellBarge_X7_placeOf : GoodIn wsX7_tellBarge wsX7_placeOf := goodIn_r _ [49] (by decide +kernel) (by decide +kernel)
set_option maxRecDepth 20000 in
theorem gX7_tellBarge_X7_placeOf : GoodIn wsX7_tellBarge (va_wsS RX7 91 yX7_placeOf wsX7_placeOf) := goodIn_app (goodIn_of _ (by decide +kernel)) ggX7_tellBarge_X7_placeOf
theorem dX7_tellBarge_0 : decode cX7_tellBarge 0 = .ok (.aload_n 0, 1) := by decide +kernel
theorem dX7_tellBarge_1 : decode cX7_tellBarge 1 = .ok (.iload_n 1, 1) := by decide +kernel
theorem dX7_tellBarge_2 : decode cX7_tellBarge 2 = .ok (.invokevirtual 140, 3) := by decide +kernel
theorem dX7_tellBarge_5 : decode cX7_tellBarge 5 = .ok (.ifCond .ne 6, 3) := by decide +kernel
theorem dX7_tellBarge_8 : decode cX7_tellBarge 8 = .ok (.bipush (-11), 2) := by decide +kernel
theorem dX7_tellBarge_10 : decode cX7_tellBarge 10 = .ok (.ireturn, 1) := by decide +kernel
theorem dX7_tellBarge_11 : decode cX7_tellBarge 11 = .ok (.aload_n 0, 1) := by decide +kernel
theorem dX7_tellBarge_12 : decode cX7_tellBarge 12 = .ok (.invokevirtual 159, 3) := by decide +kernel
theorem dX7_tellBarge_15 : decode cX7_tellBarge 15 = .ok (.aload_n 0, 1) := by decide +kernel
theorem dX7_tellBarge_16 : decode cX7_tellBarge 16 = .ok (.iconst 0, 1) := by decide +kernel
theorem dX7_tellBarge_17 : decode cX7_tellBarge 17 = .ok (.putfield 234, 3) := by decide +kernel
theorem dX7_tellBarge_20 : decode cX7_tellBarge 20 = .ok (.aload_n 0, 1) := by decide +kernel
theorem dX7_tellBarge_21 : decode cX7_tellBarge 21 = .ok (.iload_n 1, 1) := by decide +kernel
theorem dX7_tellBarge_22 : decode cX7_tellBarge 22 = .ok (.invokevirtual 237, 3) := by decide +kernel
theorem dX7_tellBarge_25 : decode cX7_tellBarge 25 = .ok (.aload_n 0, 1) := by decide +kernel
theorem dX7_tellBarge_26 : decode cX7_tellBarge 26 = .ok (.bipush 61, 2) := by decide +kernel
theorem dX7_tellBarge_28 : decode cX7_tellBarge 28 = .ok (.invokevirtual 240, 3) := by decide +kernel
theorem dX7_tellBarge_31 : decode cX7_tellBarge 31 = .ok (.aload_n 0, 1) := by decide +kernel
theorem dX7_tellBarge_32 : decode cX7_tellBarge 32 = .ok (.aload_n 0, 1) := by decide +kernel
theorem dX7_tellBarge_33 : decode cX7_tellBarge 33 = .ok (.iload_n 1, 1) := by decide +kernel
theorem dX7_tellBarge_34 : decode cX7_tellBarge 34 = .ok (.iconst 0, 1) := by decide +kernel
theorem dX7_tellBarge_35 : decode cX7_tellBarge 35 = .ok (.invokevirtual 88, 3) := by decide +kernel
theorem dX7_tellBarge_38 : decode cX7_tellBarge 38 = .ok (.invokevirtual 237, 3) := by decide +kernel
theorem dX7_tellBarge_41 : decode cX7_tellBarge 41 = .ok (.aload_n 0, 1) := by decide +kernel
theorem dX7_tellBarge_42 : decode cX7_tellBarge 42 = .ok (.bipush 64, 2) := by decide +kernel
theorem dX7_tellBarge_44 : decode cX7_tellBarge 44 = .ok (.invokevirtual 240, 3) := by decide +kernel
theorem dX7_tellBarge_47 : decode cX7_tellBarge 47 = .ok (.aload_n 0, 1) := by decide +kernel
theorem dX7_tellBarge_48 : decode cX7_tellBarge 48 = .ok (.aload_n 0, 1) := by decide +kernel
theorem dX7_tellBarge_49 : decode cX7_tellBarge 49 = .ok (.iload_n 1, 1) := by decide +kernel
theorem dX7_tellBarge_50 : decode cX7_tellBarge 50 = .ok (.iconst 0, 1) := by decide +kernel
theorem dX7_tellBarge_51 : decode cX7_tellBarge 51 = .ok (.invokevirtual 88, 3) := by decide +kernel
theorem dX7_tellBarge_54 : decode cX7_tellBarge 54 = .ok (.invokestatic 91, 3) := by decide +kernel
theorem dX7_tellBarge_57 : decode cX7_tellBarge 57 = .ok (.invokevirtual 237, 3) := by decide +kernel
theorem dX7_tellBarge_60 : decode cX7_tellBarge 60 = .ok (.aload_n 0, 1) := by decide +kernel
theorem dX7_tellBarge_61 : decode cX7_tellBarge 61 = .ok (.bipush 43, 2) := by decide +kernel
theorem dX7_tellBarge_63 : decode cX7_tellBarge 63 = .ok (.invokevirtual 240, 3) := by decide +kernel
theorem dX7_tellBarge_66 : decode cX7_tellBarge 66 = .ok (.aload_n 0, 1) := by decide +kernel
theorem dX7_tellBarge_67 : decode cX7_tellBarge 67 = .ok (.aload_n 0, 1) := by decide +kernel
theorem dX7_tellBarge_68 : decode cX7_tellBarge 68 = .ok (.iload_n 1, 1) := by decide +kernel
theorem dX7_tellBarge_69 : decode cX7_tellBarge 69 = .ok (.iconst 1, 1) := by decide +kernel
theorem dX7_tellBarge_70 : decode cX7_tellBarge 70 = .ok (.invokevirtual 88, 3) := by decide +kernel
theorem dX7_tellBarge_73 : decode cX7_tellBarge 73 = .ok (.invokevirtual 237, 3) := by decide +kernel
theorem dX7_tellBarge_76 : decode cX7_tellBarge 76 = .ok (.aload_n 0, 1) := by decide +kernel
theorem dX7_tellBarge_77 : decode cX7_tellBarge 77 = .ok (.bipush 62, 2) := by decide +kernel
theorem dX7_tellBarge_79 : decode cX7_tellBarge 79 = .ok (.invokevirtual 240, 3) := by decide +kernel
theorem dX7_tellBarge_82 : decode cX7_tellBarge 82 = .ok (.aload_n 0, 1) := by decide +kernel
theorem dX7_tellBarge_83 : decode cX7_tellBarge 83 = .ok (.getfield 22, 3) := by decide +kernel
theorem dX7_tellBarge_86 : decode cX7_tellBarge 86 = .ok (.iload_n 1, 1) := by decide +kernel
theorem dX7_tellBarge_87 : decode cX7_tellBarge 87 = .ok (.iaload, 1) := by decide +kernel
theorem dX7_tellBarge_88 : decode cX7_tellBarge 88 = .ok (.iconst (-1), 1) := by decide +kernel
theorem dX7_tellBarge_89 : decode cX7_tellBarge 89 = .ok (.if_icmp .ne 12, 3) := by decide +kernel
theorem dX7_tellBarge_92 : decode cX7_tellBarge 92 = .ok (.aload_n 0, 1) := by decide +kernel
theorem dX7_tellBarge_93 : decode cX7_tellBarge 93 = .ok (.bipush 45, 2) := by decide +kernel
theorem dX7_tellBarge_95 : decode cX7_tellBarge 95 = .ok (.invokevirtual 240, 3) := by decide +kernel
theorem dX7_tellBarge_98 : decode cX7_tellBarge 98 = .ok (.goto 13, 3) := by decide +kernel
theorem dX7_tellBarge_101 : decode cX7_tellBarge 101 = .ok (.aload_n 0, 1) := by decide +kernel
theorem dX7_tellBarge_102 : decode cX7_tellBarge 102 = .ok (.aload_n 0, 1) := by decide +kernel
theorem dX7_tellBarge_103 : decode cX7_tellBarge 103 = .ok (.getfield 22, 3) := by decide +kernel
theorem dX7_tellBarge_106 : decode cX7_tellBarge 106 = .ok (.iload_n 1, 1) := by decide +kernel
theorem dX7_tellBarge_107 : decode cX7_tellBarge 107 = .ok (.iaload, 1) := by decide +kernel
theorem dX7_tellBarge_108 : decode cX7_tellBarge 108 = .ok (.invokevirtual 237, 3) := by decide +kernel
theorem dX7_tellBarge_111 : decode cX7_tellBarge 111 = .ok (.aload_n 0, 1) := by decide +kernel
theorem dX7_tellBarge_112 : decode cX7_tellBarge 112 = .ok (.getfield 234, 3) := by decide +kernel
theorem dX7_tellBarge_115 : decode cX7_tellBarge 115 = .ok (.ireturn, 1) := by decide +kernel
set_option maxRecDepth 20000 in
theorem ggX7_character_X7_in : GoodIn wsX7_character wsX7_in := goodIn_r _ [6] (by decide +kernel) (by decide +kernel)
set_option maxRecDepth 20000 in
theorem gX7_character_X7_in : GoodIn wsX7_character (va_wsS RX7 59 yX7_in wsX7_in) := goodIn_app (goodIn_of _ (by decide +kernel)) ggX7_character_X7_in
theorem dX7_character_0 : decode cX7_character 0 = .ok (.iload_n 1, 1) := by decide +kernel
theorem dX7_character_1 : decode cX7_character 1 = .ok (.iconst 0, 1) := by decide +kernel
theorem dX7_character_2 : decode cX7_character 2 = .ok (.aload_n 0, 1) := by decide +kernel
theorem dX7_character_3 : decode cX7_character 3 = .ok (.getfield 234, 3) := by decide +kernel
theorem dX7_character_6 : decode cX7_character 6 = .ok (.iconst 1, 1) := by decide +kernel
theorem dX7_character_7 : decode cX7_character 7 = .ok (.isub, 1) := by decide +kernel
theorem dX7_character_8 : decode cX7_character 8 = .ok (.invokestatic 59, 3) := by decide +kernel
theorem dX7_character_11 : decode cX7_character 11 = .ok (.ifCond .eq 12, 3) := by decide +kernel
theorem dX7_character_14 : decode cX7_character 14 = .ok (.aload_n 0, 1) := by decide +kernel
theorem dX7_character_15 : decode cX7_character 15 = .ok (.getfield 52, 3) := by decide +kernel
theorem dX7_character_18 : decode cX7_character 18 = .ok (.iload_n 1, 1) := by decide +kernel
theorem dX7_character_19 : decode cX7_character 19 = .ok (.iaload, 1) := by decide +kernel
theorem dX7_character_20 : decode cX7_character 20 = .ok (.goto 5, 3) := by decide +kernel
theorem dX7_character_23 : decode cX7_character 23 = .ok (.bipush (-11), 2) := by decide +kernel
theorem dX7_character_25 : decode cX7_character 25 = .ok (.ireturn, 1) := by decide +kernel
set_option maxRecDepth 20000 in
theorem ggX7_sum_X7_p : GoodIn wsX7_sum wsX7_p := goodIn_r _ [7, 1, 40, 41, 42, 43, 44, 45, 46, 47, 48, 49, 50, 51, 52, 53, 54, 55, 56, 57, 58, 59, 60, 61, 62, 63, 64] (by decide +kernel) (by decide +kernel)
set_option maxRecDepth 20000 in
theorem gX7_sum_X7_p : GoodIn wsX7_sum (wsV RX7 73 RX7 yX7_p wsX7_p) := goodIn_app (goodIn_of _ (by decide +kernel)) ggX7_sum_X7_p
set_option maxRecDepth 20000 in
theorem ggX7_sum_X7_points : GoodIn wsX7_sum wsX7_points := goodIn_r _ [11, 12, 13, 14, 6, 15, 3, 4, 5, 7, 1, 40, 41, 42, 43, 44, 45, 46, 47, 48, 49, 50, 51, 52, 53, 54, 55, 56, 57, 58, 59, 60, 61, 62, 63, 64] (by decide +kernel) (by decide +kernel)
set_option maxRecDepth 20000 in
theorem gX7_sum_X7_points : GoodIn wsX7_sum (wsV RX7 81 RX7 yX7_points wsX7_points) := goodIn_app (goodIn_of _ (by decide +kernel)) ggX7_sum_X7_points
set_option maxRecDepth 20000 in
theorem ggX7_sum_X7_room : GoodIn wsX7_sum wsX7_room := goodIn_r _ [19, 1, 12, 13, 14, 6, 15, 3, 4, 5, 7, 40, 41, 42, 43, 44, 45, 46, 47, 48, 49, 50, 51, 52, 53, 54, 55, 56, 57, 58, 59, 60, 61, 62, 63, 64] (by decide +kernel) (by decide +kernel)
set_option maxRecDepth 20000 in
theorem gX7_sum_X7_room : GoodIn wsX7_sum (wsV RX7 149 RX7 yX7_room wsX7_room) := goodIn_app (goodIn_of _ (by decide +kernel)) ggX7_sum_X7_room
set_option maxRecDepth 20000 in
theorem ggX7_sum_X7_isHot : GoodIn wsX7_sum wsX7_isHot := goodIn_r _ [23, 24, 25, 26, 6, 27, 1, 28, 29, 30, 31, 32, 33, 34, 35, 36, 37, 38, 39, 16, 17, 18, 19, 12, 13, 14, 15, 3, 4, 5, 7, 40, 41, 42, 43, 44, 45, 46, 47, 48, 49, 50, 51, 52, 53, 54, 55, 56, 57, 58, 59, 60, 61, 62, 63, 64] (by decide +kernel) (by decide +kernel)
set_option maxRecDepth 20000 in
theorem gX7_sum_X7_isHot : GoodIn wsX7_sum (wsV RX7 168 RX7 yX7_isHot wsX7_isHot) := goodIn_app (goodIn_of _ (by decide +kernel)) ggX7_sum_X7_isHot
theorem dX7_sum_0 : decode cX7_sum 0 = .ok (.iconst 0, 1) := by decide +kernel
theorem dX7_sum_1 : decode cX7_sum 1 = .ok (.istore_n 2, 1) := by decide +kernel
theorem dX7_sum_2 : decode cX7_sum 2 = .ok (.iconst 0, 1) := by decide +kernel
theorem dX7_sum_3 : decode cX7_sum 3 = .ok (.istore_n 3, 1) := by decide +kernel
theorem dX7_sum_4 : decode cX7_sum 4 = .ok (.iload_n 3, 1) := by decide +kernel
theorem dX7_sum_5 : decode cX7_sum 5 = .ok (.aload_n 0, 1) := by decide +kernel
theorem dX7_sum_6 : decode cX7_sum 6 = .ok (.getfield 9, 3) := by decide +kernel
theorem dX7_sum_9 : decode cX7_sum 9 = .ok (.iconst 0, 1) := by decide +kernel
theorem dX7_sum_10 : decode cX7_sum 10 = .ok (.iaload, 1) := by decide +kernel
theorem dX7_sum_11 : decode cX7_sum 11 = .ok (.if_icmp .ge 78, 3) := by decide +kernel
theorem dX7_sum_14 : decode cX7_sum 14 = .ok (.iload_n 2, 1) := by decide +kernel
theorem dX7_sum_15 : decode cX7_sum 15 = .ok (.iload_n 1, 1) := by decide +kernel
theorem dX7_sum_16 : decode cX7_sum 16 = .ok (.ifCond .ne 12, 3) := by decide +kernel
theorem dX7_sum_19 : decode cX7_sum 19 = .ok (.aload_n 0, 1) := by decide +kernel
theorem dX7_sum_20 : decode cX7_sum 20 = .ok (.iload_n 3, 1) := by decide +kernel
theorem dX7_sum_21 : decode cX7_sum 21 = .ok (.iconst 1, 1) := by decide +kernel
theorem dX7_sum_22 : decode cX7_sum 22 = .ok (.invokevirtual 73, 3) := by decide +kernel
theorem dX7_sum_25 : decode cX7_sum 25 = .ok (.goto 56, 3) := by decide +kernel
theorem dX7_sum_28 : decode cX7_sum 28 = .ok (.iload_n 1, 1) := by decide +kernel
theorem dX7_sum_29 : decode cX7_sum 29 = .ok (.iconst 1, 1) := by decide +kernel
theorem dX7_sum_30 : decode cX7_sum 30 = .ok (.if_icmp .ne 11, 3) := by decide +kernel
theorem dX7_sum_33 : decode cX7_sum 33 = .ok (.aload_n 0, 1) := by decide +kernel
theorem dX7_sum_34 : decode cX7_sum 34 = .ok (.iload_n 3, 1) := by decide +kernel
theorem dX7_sum_35 : decode cX7_sum 35 = .ok (.invokevirtual 81, 3) := by decide +kernel
theorem dX7_sum_38 : decode cX7_sum 38 = .ok (.goto 43, 3) := by decide +kernel
theorem dX7_sum_41 : decode cX7_sum 41 = .ok (.iload_n 1, 1) := by decide +kernel
theorem dX7_sum_42 : decode cX7_sum 42 = .ok (.iconst 2, 1) := by decide +kernel
theorem dX7_sum_43 : decode cX7_sum 43 = .ok (.if_icmp .ne 11, 3) := by decide +kernel
theorem dX7_sum_46 : decode cX7_sum 46 = .ok (.aload_n 0, 1) := by decide +kernel
theorem dX7_sum_47 : decode cX7_sum 47 = .ok (.iload_n 3, 1) := by decide +kernel
theorem dX7_sum_48 : decode cX7_sum 48 = .ok (.invokevirtual 149, 3) := by decide +kernel
theorem dX7_sum_51 : decode cX7_sum 51 = .ok (.goto 30, 3) := by decide +kernel
theorem dX7_sum_54 : decode cX7_sum 54 = .ok (.iload_n 1, 1) := by decide +kernel
theorem dX7_sum_55 : decode cX7_sum 55 = .ok (.iconst 3, 1) := by decide +kernel
theorem dX7_sum_56 : decode cX7_sum 56 = .ok (.if_icmp .ne 12, 3) := by decide +kernel
theorem dX7_sum_59 : decode cX7_sum 59 = .ok (.aload_n 0, 1) := by decide +kernel
theorem dX7_sum_60 : decode cX7_sum 60 = .ok (.getfield 28, 3) := by decide +kernel
theorem dX7_sum_63 : decode cX7_sum 63 = .ok (.iload_n 3, 1) := by decide +kernel
theorem dX7_sum_64 : decode cX7_sum 64 = .ok (.iaload, 1) := by decide +kernel
theorem dX7_sum_65 : decode cX7_sum 65 = .ok (.goto 16, 3) := by decide +kernel
theorem dX7_sum_68 : decode cX7_sum 68 = .ok (.aload_n 0, 1) := by decide +kernel
theorem dX7_sum_69 : decode cX7_sum 69 = .ok (.iload_n 3, 1) := by decide +kernel
theorem dX7_sum_70 : decode cX7_sum 70 = .ok (.invokevirtual 168, 3) := by decide +kernel
theorem dX7_sum_73 : decode cX7_sum 73 = .ok (.ifCond .eq 7, 3) := by decide +kernel
theorem dX7_sum_76 : decode cX7_sum 76 = .ok (.iconst 1, 1) := by decide +kernel
theorem dX7_sum_77 : decode cX7_sum 77 = .ok (.goto 4, 3) := by decide +kernel
theorem dX7_sum_80 : decode cX7_sum 80 = .ok (.iconst 0, 1) := by decide +kernel
theorem dX7_sum_81 : decode cX7_sum 81 = .ok (.iadd, 1) := by decide +kernel
theorem dX7_sum_82 : decode cX7_sum 82 = .ok (.istore_n 2, 1) := by decide +kernel
theorem dX7_sum_83 : decode cX7_sum 83 = .ok (.iinc 3 1, 3) := by decide +kernel
theorem dX7_sum_86 : decode cX7_sum 86 = .ok (.goto (-82), 3) := by decide +kernel
theorem dX7_sum_89 : decode cX7_sum 89 = .ok (.iload_n 2, 1) := by decide +kernel
theorem dX7_sum_90 : decode cX7_sum 90 = .ok (.ireturn, 1) := by decide +kernel
set_option maxRecDepth 20000 in
theorem ggX7_lying_X7_homeAt : GoodIn wsX7_lying wsX7_homeAt := goodIn_r _ [7, 8, 9, 10, 11, 6, 12, 1, 13, 14, 15, 16, 17, 18, 19, 20, 21, 22, 23, 24, 25, 26, 27, 28, 29, 30, 31, 32, 33, 34, 35, 36, 37, 38, 39, 40] (by decide +kernel) (by decide +kernel)
set_option maxRecDepth 20000 in
theorem gX7_lying_X7_homeAt : GoodIn wsX7_lying (wsV RX7 97 RX7 yX7_homeAt wsX7_homeAt) := goodIn_app (goodIn_of _ (by decide +kernel)) ggX7_lying_X7_homeAt
theorem dX7_lying_0 : decode cX7_lying 0 = .ok (.iconst 0, 1) := by decide +kernel
theorem dX7_lying_1 : decode cX7_lying 1 = .ok (.istore_n 2, 1) := by decide +kernel
theorem dX7_lying_2 : decode cX7_lying 2 = .ok (.iconst 0, 1) := by decide +kernel
theorem dX7_lying_3 : decode cX7_lying 3 = .ok (.istore_n 3, 1) := by decide +kernel
theorem dX7_lying_4 : decode cX7_lying 4 = .ok (.iload_n 3, 1) := by decide +kernel
theorem dX7_lying_5 : decode cX7_lying 5 = .ok (.aload_n 0, 1) := by decide +kernel
theorem dX7_lying_6 : decode cX7_lying 6 = .ok (.getfield 9, 3) := by decide +kernel
theorem dX7_lying_9 : decode cX7_lying 9 = .ok (.iconst 1, 1) := by decide +kernel
theorem dX7_lying_10 : decode cX7_lying 10 = .ok (.iaload, 1) := by decide +kernel
theorem dX7_lying_11 : decode cX7_lying 11 = .ok (.if_icmp .ge 54, 3) := by decide +kernel
theorem dX7_lying_14 : decode cX7_lying 14 = .ok (.iload_n 2, 1) := by decide +kernel
theorem dX7_lying_15 : decode cX7_lying 15 = .ok (.aload_n 0, 1) := by decide +kernel
theorem dX7_lying_16 : decode cX7_lying 16 = .ok (.getfield 22, 3) := by decide +kernel
theorem dX7_lying_19 : decode cX7_lying 19 = .ok (.iload_n 3, 1) := by decide +kernel
theorem dX7_lying_20 : decode cX7_lying 20 = .ok (.iaload, 1) := by decide +kernel
theorem dX7_lying_21 : decode cX7_lying 21 = .ok (.iconst (-1), 1) := by decide +kernel
theorem dX7_lying_22 : decode cX7_lying 22 = .ok (.if_icmp .ne 7, 3) := by decide +kernel
theorem dX7_lying_25 : decode cX7_lying 25 = .ok (.iconst 2, 1) := by decide +kernel
theorem dX7_lying_26 : decode cX7_lying 26 = .ok (.goto 22, 3) := by decide +kernel
theorem dX7_lying_29 : decode cX7_lying 29 = .ok (.aload_n 0, 1) := by decide +kernel
theorem dX7_lying_30 : decode cX7_lying 30 = .ok (.getfield 22, 3) := by decide +kernel
theorem dX7_lying_33 : decode cX7_lying 33 = .ok (.iload_n 3, 1) := by decide +kernel
theorem dX7_lying_34 : decode cX7_lying 34 = .ok (.iaload, 1) := by decide +kernel
theorem dX7_lying_35 : decode cX7_lying 35 = .ok (.aload_n 0, 1) := by decide +kernel
theorem dX7_lying_36 : decode cX7_lying 36 = .ok (.iload_n 3, 1) := by decide +kernel
theorem dX7_lying_37 : decode cX7_lying 37 = .ok (.invokevirtual 97, 3) := by decide +kernel
theorem dX7_lying_40 : decode cX7_lying 40 = .ok (.if_icmp .ne 7, 3) := by decide +kernel
theorem dX7_lying_43 : decode cX7_lying 43 = .ok (.iconst 0, 1) := by decide +kernel
theorem dX7_lying_44 : decode cX7_lying 44 = .ok (.goto 4, 3) := by decide +kernel
theorem dX7_lying_47 : decode cX7_lying 47 = .ok (.iconst 1, 1) := by decide +kernel
theorem dX7_lying_48 : decode cX7_lying 48 = .ok (.iload_n 1, 1) := by decide +kernel
theorem dX7_lying_49 : decode cX7_lying 49 = .ok (.if_icmp .ne 7, 3) := by decide +kernel
theorem dX7_lying_52 : decode cX7_lying 52 = .ok (.iconst 1, 1) := by decide +kernel
theorem dX7_lying_53 : decode cX7_lying 53 = .ok (.goto 4, 3) := by decide +kernel
theorem dX7_lying_56 : decode cX7_lying 56 = .ok (.iconst 0, 1) := by decide +kernel
theorem dX7_lying_57 : decode cX7_lying 57 = .ok (.iadd, 1) := by decide +kernel
theorem dX7_lying_58 : decode cX7_lying 58 = .ok (.istore_n 2, 1) := by decide +kernel
theorem dX7_lying_59 : decode cX7_lying 59 = .ok (.iinc 3 1, 3) := by decide +kernel
theorem dX7_lying_62 : decode cX7_lying 62 = .ok (.goto (-58), 3) := by decide +kernel
theorem dX7_lying_65 : decode cX7_lying 65 = .ok (.iload_n 2, 1) := by decide +kernel
theorem dX7_lying_66 : decode cX7_lying 66 = .ok (.ireturn, 1) := by decide +kernel
set_option maxRecDepth 20000 in
theorem ggX7_tons_X7_b : GoodIn wsX7_tons wsX7_b := goodIn_r _ [6, 1, 7, 8, 9, 10, 11, 12, 13, 14, 15, 16, 17, 18, 19, 20, 21, 22, 23, 24, 25, 26, 27, 28, 29, 30, 31] (by decide +kernel) (by decide +kernel)
set_option maxRecDepth 20000 in
theorem gX7_tons_X7_b : GoodIn wsX7_tons (wsV RX7 88 RX7 yX7_b wsX7_b) := goodIn_app (goodIn_of _ (by decide +kernel)) ggX7_tons_X7_b
theorem dX7_tons_0 : decode cX7_tons 0 = .ok (.iconst 0, 1) := by decide +kernel
theorem dX7_tons_1 : decode cX7_tons 1 = .ok (.istore_n 1, 1) := by decide +kernel
theorem dX7_tons_2 : decode cX7_tons 2 = .ok (.iconst 0, 1) := by decide +kernel
theorem dX7_tons_3 : decode cX7_tons 3 = .ok (.istore_n 2, 1) := by decide +kernel
theorem dX7_tons_4 : decode cX7_tons 4 = .ok (.iload_n 2, 1) := by decide +kernel
theorem dX7_tons_5 : decode cX7_tons 5 = .ok (.aload_n 0, 1) := by decide +kernel
theorem dX7_tons_6 : decode cX7_tons 6 = .ok (.getfield 9, 3) := by decide +kernel
theorem dX7_tons_9 : decode cX7_tons 9 = .ok (.iconst 1, 1) := by decide +kernel
theorem dX7_tons_10 : decode cX7_tons 10 = .ok (.iaload, 1) := by decide +kernel
theorem dX7_tons_11 : decode cX7_tons 11 = .ok (.if_icmp .ge 18, 3) := by decide +kernel
theorem dX7_tons_14 : decode cX7_tons 14 = .ok (.iload_n 1, 1) := by decide +kernel
theorem dX7_tons_15 : decode cX7_tons 15 = .ok (.aload_n 0, 1) := by decide +kernel
theorem dX7_tons_16 : decode cX7_tons 16 = .ok (.iload_n 2, 1) := by decide +kernel
theorem dX7_tons_17 : decode cX7_tons 17 = .ok (.iconst 1, 1) := by decide +kernel
theorem dX7_tons_18 : decode cX7_tons 18 = .ok (.invokevirtual 88, 3) := by decide +kernel
theorem dX7_tons_21 : decode cX7_tons 21 = .ok (.iadd, 1) := by decide +kernel
theorem dX7_tons_22 : decode cX7_tons 22 = .ok (.istore_n 1, 1) := by decide +kernel
theorem dX7_tons_23 : decode cX7_tons 23 = .ok (.iinc 2 1, 3) := by decide +kernel
theorem dX7_tons_26 : decode cX7_tons 26 = .ok (.goto (-22), 3) := by decide +kernel
theorem dX7_tons_29 : decode cX7_tons 29 = .ok (.iload_n 1, 1) := by decide +kernel
theorem dX7_tons_30 : decode cX7_tons 30 = .ok (.ireturn, 1) := by decide +kernel
set_option maxRecDepth 20000 in
theorem ggX7_account_X7_lays : GoodIn wsX7_account wsX7_lays := goodIn_r _ [8, 9, 1, 10, 11, 12, 7, 13, 14, 15, 16, 17, 18, 19, 20, 21, 22, 23, 24, 25, 26, 27, 28, 29, 30, 31, 32, 33, 34, 35, 36, 37, 38, 39, 40, 41, 42, 43, 44, 45, 46, 47, 72, 73, 74, 75, 76, 77, 78, 79, 80, 81, 82, 83, 84, 85, 86, 87, 88, 89, 90, 91, 92, 93, 94, 95, 96] (by decide +kernel) (by decide +kernel)
set_option maxRecDepth 20000 in
theorem gX7_account_X7_lays : GoodIn wsX7_account (wsV RX7 159 RX7 yX7_lays wsX7_lays) := goodIn_app (goodIn_of _ (by decide +kernel)) ggX7_account_X7_lays
set_option maxRecDepth 20000 in
theorem ggX7_account_X7_sum : GoodIn wsX7_account wsX7_sum := goodIn_r _ [51, 1, 9, 24, 25, 26, 7, 27, 16, 17, 18, 19, 20, 21, 22, 23, 44, 45, 46, 47, 52, 53, 54, 55, 56, 57, 58, 59, 60, 61, 62, 63, 15, 37, 38, 39, 40, 41, 42, 43, 72, 73, 74, 75, 76, 77, 78, 79, 80, 81, 82, 83, 84, 85, 86, 87, 88, 89, 90, 91, 92, 93, 94, 95, 96] (by decide +kernel) (by decide +kernel)
set_option maxRecDepth 20000 in
theorem gX7_account_X7_sum : GoodIn wsX7_account (wsV RX7 243 RX7 yX7_sum wsX7_sum) := goodIn_app (goodIn_of _ (by decide +kernel)) ggX7_account_X7_sum
set_option maxRecDepth 20000 in
theorem ggX7_account_X7_lying : GoodIn wsX7_account wsX7_lying := goodIn_r _ [67, 1, 35, 60, 61, 62, 7, 63, 15, 37, 38, 39, 40, 41, 42, 43, 72, 73, 74, 75, 76, 77, 78, 79, 80, 81, 82, 83, 84, 85, 86, 87, 88, 89, 90, 91, 92, 93, 94, 95, 96] (by decide +kernel) (by decide +kernel)
set_option maxRecDepth 20000 in
theorem gX7_account_X7_lying : GoodIn wsX7_account (wsV RX7 246 RX7 yX7_lying wsX7_lying) := goodIn_app (goodIn_of _ (by decide +kernel)) ggX7_account_X7_lying
set_option maxRecDepth 20000 in
theorem ggX7_account_X7_tons : GoodIn wsX7_account wsX7_tons := goodIn_r _ [71, 1, 37, 38, 39, 7, 40, 72, 73, 74, 75, 76, 77, 78, 79, 80, 81, 82, 83, 84, 85, 86, 87, 88, 89, 90, 91, 92, 93, 94, 95, 96] (by decide +kernel) (by decide +kernel)
set_option maxRecDepth 20000 in
theorem gX7_account_X7_tons : GoodIn wsX7_account (wsV RX7 249 RX7 yX7_tons wsX7_tons) := goodIn_app (goodIn_of _ (by decide +kernel)) ggX7_account_X7_tons
theorem dX7_account_0 : decode cX7_account 0 = .ok (.aload_n 0, 1) := by decide +kernel
theorem dX7_account_1 : decode cX7_account 1 = .ok (.invokevirtual 159, 3) := by decide +kernel
theorem dX7_account_4 : decode cX7_account 4 = .ok (.iload_n 1, 1) := by decide +kernel
theorem dX7_account_5 : decode cX7_account 5 = .ok (.tableswitch 152 0 14 #[75, 82, 82, 90, 97, 97, 97, 105, 110, 116, 122, 129, 136, 142, 147], 75) := by decide +kernel
theorem dX7_account_80 : decode cX7_account 80 = .ok (.aload_n 0, 1) := by decide +kernel
theorem dX7_account_81 : decode cX7_account 81 = .ok (.getfield 9, 3) := by decide +kernel
theorem dX7_account_84 : decode cX7_account 84 = .ok (.iconst 0, 1) := by decide +kernel
theorem dX7_account_85 : decode cX7_account 85 = .ok (.iaload, 1) := by decide +kernel
theorem dX7_account_86 : decode cX7_account 86 = .ok (.ireturn, 1) := by decide +kernel
theorem dX7_account_87 : decode cX7_account 87 = .ok (.aload_n 0, 1) := by decide +kernel
theorem dX7_account_88 : decode cX7_account 88 = .ok (.iload_n 1, 1) := by decide +kernel
theorem dX7_account_89 : decode cX7_account 89 = .ok (.iconst 1, 1) := by decide +kernel
theorem dX7_account_90 : decode cX7_account 90 = .ok (.isub, 1) := by decide +kernel
theorem dX7_account_91 : decode cX7_account 91 = .ok (.invokevirtual 243, 3) := by decide +kernel
theorem dX7_account_94 : decode cX7_account 94 = .ok (.ireturn, 1) := by decide +kernel
theorem dX7_account_95 : decode cX7_account 95 = .ok (.aload_n 0, 1) := by decide +kernel
theorem dX7_account_96 : decode cX7_account 96 = .ok (.getfield 9, 3) := by decide +kernel
theorem dX7_account_99 : decode cX7_account 99 = .ok (.iconst 1, 1) := by decide +kernel
theorem dX7_account_100 : decode cX7_account 100 = .ok (.iaload, 1) := by decide +kernel
theorem dX7_account_101 : decode cX7_account 101 = .ok (.ireturn, 1) := by decide +kernel
theorem dX7_account_102 : decode cX7_account 102 = .ok (.aload_n 0, 1) := by decide +kernel
theorem dX7_account_103 : decode cX7_account 103 = .ok (.iload_n 1, 1) := by decide +kernel
theorem dX7_account_104 : decode cX7_account 104 = .ok (.iconst 4, 1) := by decide +kernel
theorem dX7_account_105 : decode cX7_account 105 = .ok (.isub, 1) := by decide +kernel
theorem dX7_account_106 : decode cX7_account 106 = .ok (.invokevirtual 246, 3) := by decide +kernel
theorem dX7_account_109 : decode cX7_account 109 = .ok (.ireturn, 1) := by decide +kernel
theorem dX7_account_110 : decode cX7_account 110 = .ok (.aload_n 0, 1) := by decide +kernel
theorem dX7_account_111 : decode cX7_account 111 = .ok (.invokevirtual 249, 3) := by decide +kernel
theorem dX7_account_114 : decode cX7_account 114 = .ok (.ireturn, 1) := by decide +kernel
theorem dX7_account_115 : decode cX7_account 115 = .ok (.aload_n 0, 1) := by decide +kernel
theorem dX7_account_116 : decode cX7_account 116 = .ok (.iconst 3, 1) := by decide +kernel
theorem dX7_account_117 : decode cX7_account 117 = .ok (.invokevirtual 243, 3) := by decide +kernel
theorem dX7_account_120 : decode cX7_account 120 = .ok (.ireturn, 1) := by decide +kernel
theorem dX7_account_121 : decode cX7_account 121 = .ok (.aload_n 0, 1) := by decide +kernel
theorem dX7_account_122 : decode cX7_account 122 = .ok (.iconst 2, 1) := by decide +kernel
theorem dX7_account_123 : decode cX7_account 123 = .ok (.invokevirtual 243, 3) := by decide +kernel
theorem dX7_account_126 : decode cX7_account 126 = .ok (.ireturn, 1) := by decide +kernel
theorem dX7_account_127 : decode cX7_account 127 = .ok (.aload_n 0, 1) := by decide +kernel
theorem dX7_account_128 : decode cX7_account 128 = .ok (.getfield 9, 3) := by decide +kernel
theorem dX7_account_131 : decode cX7_account 131 = .ok (.iconst 3, 1) := by decide +kernel
theorem dX7_account_132 : decode cX7_account 132 = .ok (.iaload, 1) := by decide +kernel
theorem dX7_account_133 : decode cX7_account 133 = .ok (.ireturn, 1) := by decide +kernel
theorem dX7_account_134 : decode cX7_account 134 = .ok (.aload_n 0, 1) := by decide +kernel
theorem dX7_account_135 : decode cX7_account 135 = .ok (.getfield 9, 3) := by decide +kernel
theorem dX7_account_138 : decode cX7_account 138 = .ok (.iconst 2, 1) := by decide +kernel
theorem dX7_account_139 : decode cX7_account 139 = .ok (.iaload, 1) := by decide +kernel
theorem dX7_account_140 : decode cX7_account 140 = .ok (.ireturn, 1) := by decide +kernel
theorem dX7_account_141 : decode cX7_account 141 = .ok (.aload_n 0, 1) := by decide +kernel
theorem dX7_account_142 : decode cX7_account 142 = .ok (.iconst 4, 1) := by decide +kernel
theorem dX7_account_143 : decode cX7_account 143 = .ok (.invokevirtual 243, 3) := by decide +kernel
theorem dX7_account_146 : decode cX7_account 146 = .ok (.ireturn, 1) := by decide +kernel
theorem dX7_account_147 : decode cX7_account 147 = .ok (.aload_n 0, 1) := by decide +kernel
theorem dX7_account_148 : decode cX7_account 148 = .ok (.getfield 193, 3) := by decide +kernel
theorem dX7_account_151 : decode cX7_account 151 = .ok (.ireturn, 1) := by decide +kernel
theorem dX7_account_152 : decode cX7_account 152 = .ok (.aload_n 0, 1) := by decide +kernel
theorem dX7_account_153 : decode cX7_account 153 = .ok (.getfield 63, 3) := by decide +kernel
theorem dX7_account_156 : decode cX7_account 156 = .ok (.ireturn, 1) := by decide +kernel
theorem dX7_account_157 : decode cX7_account 157 = .ok (.bipush (-12), 2) := by decide +kernel
theorem dX7_account_159 : decode cX7_account 159 = .ok (.ireturn, 1) := by decide +kernel
theorem dX7_isBalanced_0 : decode cX7_isBalanced 0 = .ok (.iconst 1, 1) := by decide +kernel
theorem dX7_isBalanced_1 : decode cX7_isBalanced 1 = .ok (.ireturn, 1) := by decide +kernel
set_option maxRecDepth 20000 in
theorem ggX7_meanStretch_X7_sum : GoodIn wsX7_meanStretch wsX7_sum := goodIn_r _ [6, 7, 8, 9, 10, 11, 5, 12, 13, 14, 15, 16, 17, 18, 19, 20, 21, 22, 23, 24, 25, 26, 27, 28, 29, 30, 31, 32, 33, 34, 35, 36, 37, 38, 39, 40, 41, 42, 43, 44, 45, 46, 47, 48, 49, 50, 51, 52, 53, 54, 55, 56, 57, 58, 59, 60, 61, 62, 63, 64, 65, 66, 67, 68, 69] (by decide +kernel) (by decide +kernel)
set_option maxRecDepth 20000 in
theorem gX7_meanStretch_X7_sum : GoodIn wsX7_meanStretch (wsV RX7 243 RX7 yX7_sum wsX7_sum) := goodIn_app (goodIn_of _ (by decide +kernel)) ggX7_meanStretch_X7_sum
theorem dX7_meanStretch_0 : decode cX7_meanStretch 0 = .ok (.aload_n 0, 1) := by decide +kernel
theorem dX7_meanStretch_1 : decode cX7_meanStretch 1 = .ok (.iconst 0, 1) := by decide +kernel
theorem dX7_meanStretch_2 : decode cX7_meanStretch 2 = .ok (.invokevirtual 243, 3) := by decide +kernel
theorem dX7_meanStretch_5 : decode cX7_meanStretch 5 = .ok (.istore_n 1, 1) := by decide +kernel
theorem dX7_meanStretch_6 : decode cX7_meanStretch 6 = .ok (.iload_n 1, 1) := by decide +kernel
theorem dX7_meanStretch_7 : decode cX7_meanStretch 7 = .ok (.ifCond .ne 7, 3) := by decide +kernel
theorem dX7_meanStretch_10 : decode cX7_meanStretch 10 = .ok (.dconst 0, 1) := by decide +kernel
theorem dX7_meanStretch_11 : decode cX7_meanStretch 11 = .ok (.goto 9, 3) := by decide +kernel
theorem dX7_meanStretch_14 : decode cX7_meanStretch 14 = .ok (.ldc2_w 252, 3) := by decide +kernel
theorem dX7_meanStretch_17 : decode cX7_meanStretch 17 = .ok (.iload_n 1, 1) := by decide +kernel
theorem dX7_meanStretch_18 : decode cX7_meanStretch 18 = .ok (.i2d, 1) := by decide +kernel
theorem dX7_meanStretch_19 : decode cX7_meanStretch 19 = .ok (.ddiv, 1) := by decide +kernel
theorem dX7_meanStretch_20 : decode cX7_meanStretch 20 = .ok (.dreturn, 1) := by decide +kernel
set_option maxRecDepth 20000 in
theorem ggX7_takenShare_X7_lays : GoodIn wsX7_takenShare wsX7_lays := goodIn_r _ [5, 6, 7, 8, 9, 10, 4, 11, 12, 13, 14, 15, 16, 17, 18, 19, 20, 21, 22, 23, 24, 25, 26, 27, 28, 29, 30, 31, 32, 33, 34, 35, 36, 37, 38, 39, 40, 41, 42, 43, 44, 45, 62, 63, 64, 65, 66, 67, 68, 69, 70, 71, 72, 73, 74, 75, 76, 77, 78, 79, 80, 81, 82, 83, 84, 85, 86] (by decide +kernel) (by decide +kernel)
set_option maxRecDepth 20000 in
theorem gX7_takenShare_X7_lays : GoodIn wsX7_takenShare (wsV RX7 159 RX7 yX7_lays wsX7_lays) := goodIn_app (goodIn_of _ (by decide +kernel)) ggX7_takenShare_X7_lays
set_option maxRecDepth 20000 in
theorem ggX7_takenShare_X7_sum : GoodIn wsX7_takenShare wsX7_sum := goodIn_r _ [49, 7, 6, 22, 23, 24, 4, 25, 14, 15, 16, 17, 18, 19, 20, 21, 42, 43, 44, 45, 50, 51, 52, 53, 54, 55, 56, 57, 58, 59, 60, 61, 13, 35, 36, 37, 38, 39, 40, 41, 62, 63, 64, 65, 66, 67, 68, 69, 70, 71, 72, 73, 74, 75, 76, 77, 78, 79, 80, 81, 82, 83, 84, 85, 86] (by decide +kernel) (by decide +kernel)
set_option maxRecDepth 20000 in
theorem gX7_takenShare_X7_sum : GoodIn wsX7_takenShare (wsV RX7 243 RX7 yX7_sum wsX7_sum) := goodIn_app (goodIn_of _ (by decide +kernel)) ggX7_takenShare_X7_sum
theorem dX7_takenShare_0 : decode cX7_takenShare 0 = .ok (.aload_n 0, 1) := by decide +kernel
theorem dX7_takenShare_1 : decode cX7_takenShare 1 = .ok (.invokevirtual 159, 3) := by decide +kernel
theorem dX7_takenShare_4 : decode cX7_takenShare 4 = .ok (.aload_n 0, 1) := by decide +kernel
theorem dX7_takenShare_5 : decode cX7_takenShare 5 = .ok (.iconst 2, 1) := by decide +kernel
theorem dX7_takenShare_6 : decode cX7_takenShare 6 = .ok (.invokevirtual 243, 3) := by decide +kernel
theorem dX7_takenShare_9 : decode cX7_takenShare 9 = .ok (.istore_n 1, 1) := by decide +kernel
theorem dX7_takenShare_10 : decode cX7_takenShare 10 = .ok (.iload_n 1, 1) := by decide +kernel
theorem dX7_takenShare_11 : decode cX7_takenShare 11 = .ok (.ifCond .ne 7, 3) := by decide +kernel
theorem dX7_takenShare_14 : decode cX7_takenShare 14 = .ok (.fconst 0, 1) := by decide +kernel
theorem dX7_takenShare_15 : decode cX7_takenShare 15 = .ok (.goto 12, 3) := by decide +kernel
theorem dX7_takenShare_18 : decode cX7_takenShare 18 = .ok (.aload_n 0, 1) := by decide +kernel
theorem dX7_takenShare_19 : decode cX7_takenShare 19 = .ok (.iconst 3, 1) := by decide +kernel
theorem dX7_takenShare_20 : decode cX7_takenShare 20 = .ok (.invokevirtual 243, 3) := by decide +kernel
theorem dX7_takenShare_23 : decode cX7_takenShare 23 = .ok (.i2f, 1) := by decide +kernel
theorem dX7_takenShare_24 : decode cX7_takenShare 24 = .ok (.iload_n 1, 1) := by decide +kernel
theorem dX7_takenShare_25 : decode cX7_takenShare 25 = .ok (.i2f, 1) := by decide +kernel
theorem dX7_takenShare_26 : decode cX7_takenShare 26 = .ok (.fdiv, 1) := by decide +kernel
theorem dX7_takenShare_27 : decode cX7_takenShare 27 = .ok (.freturn, 1) := by decide +kernel
set_option maxRecDepth 20000 in
theorem ggX7_undo_X7_copies : GoodIn wsX7_undo wsX7_copies := goodIn_r _ [6, 7, 8, 9, 10, 11, 12, 13, 14, 15, 16, 17, 18, 19, 20, 21, 22, 23, 24, 25, 26, 27, 28, 29, 30, 31, 32] (by decide +kernel) (by decide +kernel)
set_option maxRecDepth 20000 in
theorem gX7_undo_X7_copies : GoodIn wsX7_undo (wsV RX7 55 RX7 yX7_copies wsX7_copies) := goodIn_app (goodIn_of _ (by decide +kernel)) ggX7_undo_X7_copies
theorem dX7_undo_0 : decode cX7_undo 0 = .ok (.aload_n 0, 1) := by decide +kernel
theorem dX7_undo_1 : decode cX7_undo 1 = .ok (.getfield 63, 3) := by decide +kernel
theorem dX7_undo_4 : decode cX7_undo 4 = .ok (.ifCond .ne 6, 3) := by decide +kernel
theorem dX7_undo_7 : decode cX7_undo 7 = .ok (.bipush (-15), 2) := by decide +kernel
theorem dX7_undo_9 : decode cX7_undo 9 = .ok (.ireturn, 1) := by decide +kernel
theorem dX7_undo_10 : decode cX7_undo 10 = .ok (.aload_n 0, 1) := by decide +kernel
theorem dX7_undo_11 : decode cX7_undo 11 = .ok (.aload_n 0, 1) := by decide +kernel
theorem dX7_undo_12 : decode cX7_undo 12 = .ok (.getfield 63, 3) := by decide +kernel
theorem dX7_undo_15 : decode cX7_undo 15 = .ok (.iconst 0, 1) := by decide +kernel
theorem dX7_undo_16 : decode cX7_undo 16 = .ok (.invokevirtual 55, 3) := by decide +kernel
theorem dX7_undo_19 : decode cX7_undo 19 = .ok (.aload_n 0, 1) := by decide +kernel
theorem dX7_undo_20 : decode cX7_undo 20 = .ok (.dup, 1) := by decide +kernel
theorem dX7_undo_21 : decode cX7_undo 21 = .ok (.getfield 63, 3) := by decide +kernel
theorem dX7_undo_24 : decode cX7_undo 24 = .ok (.iconst 1, 1) := by decide +kernel
theorem dX7_undo_25 : decode cX7_undo 25 = .ok (.isub, 1) := by decide +kernel
theorem dX7_undo_26 : decode cX7_undo 26 = .ok (.putfield 63, 3) := by decide +kernel
theorem dX7_undo_29 : decode cX7_undo 29 = .ok (.aload_n 0, 1) := by decide +kernel
theorem dX7_undo_30 : decode cX7_undo 30 = .ok (.getfield 63, 3) := by decide +kernel
theorem dX7_undo_33 : decode cX7_undo 33 = .ok (.ireturn, 1) := by decide +kernel
set_option maxRecDepth 20000 in
theorem ggX7_save_X7_copies : GoodIn wsX7_save wsX7_copies := goodIn_r _ [7, 2, 8, 9, 10, 11, 12, 13, 14, 15, 16, 17, 18, 19, 20, 21, 22, 23, 24, 25, 26, 27, 28, 29, 30, 31, 32] (by decide +kernel) (by decide +kernel)
set_option maxRecDepth 20000 in
theorem gX7_save_X7_copies : GoodIn wsX7_save (wsV RX7 55 RX7 yX7_copies wsX7_copies) := goodIn_app (goodIn_of _ (by decide +kernel)) ggX7_save_X7_copies
theorem dX7_save_0 : decode cX7_save 0 = .ok (.aload_n 0, 1) := by decide +kernel
theorem dX7_save_1 : decode cX7_save 1 = .ok (.iconst 1, 1) := by decide +kernel
theorem dX7_save_2 : decode cX7_save 2 = .ok (.putfield 254, 3) := by decide +kernel
theorem dX7_save_5 : decode cX7_save 5 = .ok (.aload_n 0, 1) := by decide +kernel
theorem dX7_save_6 : decode cX7_save 6 = .ok (.iconst 0, 1) := by decide +kernel
theorem dX7_save_7 : decode cX7_save 7 = .ok (.bipush 9, 2) := by decide +kernel
theorem dX7_save_9 : decode cX7_save 9 = .ok (.invokevirtual 55, 3) := by decide +kernel
theorem dX7_save_12 : decode cX7_save 12 = .ok (.aload_n 0, 1) := by decide +kernel
theorem dX7_save_13 : decode cX7_save 13 = .ok (.getfield 9, 3) := by decide +kernel
theorem dX7_save_16 : decode cX7_save 16 = .ok (.iconst 1, 1) := by decide +kernel
theorem dX7_save_17 : decode cX7_save 17 = .ok (.iaload, 1) := by decide +kernel
theorem dX7_save_18 : decode cX7_save 18 = .ok (.ireturn, 1) := by decide +kernel
set_option maxRecDepth 20000 in
theorem ggX7_restore_X7_copies : GoodIn wsX7_restore wsX7_copies := goodIn_r _ [8, 3, 9, 10, 11, 12, 13, 14, 15, 16, 17, 18, 19, 20, 21, 22, 23, 24, 25, 26, 27, 28, 29, 30, 31, 32, 33] (by decide +kernel) (by decide +kernel)
set_option maxRecDepth 20000 in
theorem gX7_restore_X7_copies : GoodIn wsX7_restore (wsV RX7 55 RX7 yX7_copies wsX7_copies) := goodIn_app (goodIn_of _ (by decide +kernel)) ggX7_restore_X7_copies
theorem dX7_restore_0 : decode cX7_restore 0 = .ok (.aload_n 0, 1) := by decide +kernel
theorem dX7_restore_1 : decode cX7_restore 1 = .ok (.getfield 254, 3) := by decide +kernel
theorem dX7_restore_4 : decode cX7_restore 4 = .ok (.ifCond .ne 6, 3) := by decide +kernel
theorem dX7_restore_7 : decode cX7_restore 7 = .ok (.bipush (-15), 2) := by decide +kernel
theorem dX7_restore_9 : decode cX7_restore 9 = .ok (.ireturn, 1) := by decide +kernel
theorem dX7_restore_10 : decode cX7_restore 10 = .ok (.aload_n 0, 1) := by decide +kernel
theorem dX7_restore_11 : decode cX7_restore 11 = .ok (.bipush 9, 2) := by decide +kernel
theorem dX7_restore_13 : decode cX7_restore 13 = .ok (.iconst 0, 1) := by decide +kernel
theorem dX7_restore_14 : decode cX7_restore 14 = .ok (.invokevirtual 55, 3) := by decide +kernel
theorem dX7_restore_17 : decode cX7_restore 17 = .ok (.aload_n 0, 1) := by decide +kernel
theorem dX7_restore_18 : decode cX7_restore 18 = .ok (.iconst 0, 1) := by decide +kernel
theorem dX7_restore_19 : decode cX7_restore 19 = .ok (.putfield 63, 3) := by decide +kernel
theorem dX7_restore_22 : decode cX7_restore 22 = .ok (.aload_n 0, 1) := by decide +kernel
theorem dX7_restore_23 : decode cX7_restore 23 = .ok (.getfield 9, 3) := by decide +kernel
theorem dX7_restore_26 : decode cX7_restore 26 = .ok (.iconst 1, 1) := by decide +kernel
theorem dX7_restore_27 : decode cX7_restore 27 = .ok (.iaload, 1) := by decide +kernel
theorem dX7_restore_28 : decode cX7_restore 28 = .ok (.ireturn, 1) := by decide +kernel
