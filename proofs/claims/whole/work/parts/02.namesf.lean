theorem dX7_init_0 : decode cX7_init 0 = .ok (.aload_n 0, 1) := by decide +kernel
theorem dX7_init_1 : decode cX7_init 1 = .ok (.invokespecial 1, 3) := by decide +kernel
theorem dX7_init_4 : decode cX7_init 4 = .ok (.aload_n 0, 1) := by decide +kernel
theorem dX7_init_5 : decode cX7_init 5 = .ok (.sipush 816, 3) := by decide +kernel
theorem dX7_init_8 : decode cX7_init 8 = .ok (.newarray .int, 2) := by decide +kernel
theorem dX7_init_10 : decode cX7_init 10 = .ok (.putfield 9, 3) := by decide +kernel
theorem dX7_init_13 : decode cX7_init 13 = .ok (.aload_n 0, 1) := by decide +kernel
theorem dX7_init_14 : decode cX7_init 14 = .ok (.sipush 360, 3) := by decide +kernel
theorem dX7_init_17 : decode cX7_init 17 = .ok (.newarray .int, 2) := by decide +kernel
theorem dX7_init_19 : decode cX7_init 19 = .ok (.putfield 13, 3) := by decide +kernel
theorem dX7_init_22 : decode cX7_init 22 = .ok (.aload_n 0, 1) := by decide +kernel
theorem dX7_init_23 : decode cX7_init 23 = .ok (.sipush 360, 3) := by decide +kernel
theorem dX7_init_26 : decode cX7_init 26 = .ok (.newarray .int, 2) := by decide +kernel
theorem dX7_init_28 : decode cX7_init 28 = .ok (.putfield 16, 3) := by decide +kernel
theorem dX7_init_31 : decode cX7_init 31 = .ok (.aload_n 0, 1) := by decide +kernel
theorem dX7_init_32 : decode cX7_init 32 = .ok (.bipush 24, 2) := by decide +kernel
theorem dX7_init_34 : decode cX7_init 34 = .ok (.newarray .int, 2) := by decide +kernel
theorem dX7_init_36 : decode cX7_init 36 = .ok (.putfield 19, 3) := by decide +kernel
theorem dX7_init_39 : decode cX7_init 39 = .ok (.aload_n 0, 1) := by decide +kernel
theorem dX7_init_40 : decode cX7_init 40 = .ok (.bipush 24, 2) := by decide +kernel
theorem dX7_init_42 : decode cX7_init 42 = .ok (.newarray .int, 2) := by decide +kernel
theorem dX7_init_44 : decode cX7_init 44 = .ok (.putfield 22, 3) := by decide +kernel
theorem dX7_init_47 : decode cX7_init 47 = .ok (.aload_n 0, 1) := by decide +kernel
theorem dX7_init_48 : decode cX7_init 48 = .ok (.bipush 24, 2) := by decide +kernel
theorem dX7_init_50 : decode cX7_init 50 = .ok (.newarray .int, 2) := by decide +kernel
theorem dX7_init_52 : decode cX7_init 52 = .ok (.putfield 25, 3) := by decide +kernel
theorem dX7_init_55 : decode cX7_init 55 = .ok (.aload_n 0, 1) := by decide +kernel
theorem dX7_init_56 : decode cX7_init 56 = .ok (.bipush 8, 2) := by decide +kernel
theorem dX7_init_58 : decode cX7_init 58 = .ok (.newarray .int, 2) := by decide +kernel
theorem dX7_init_60 : decode cX7_init 60 = .ok (.putfield 28, 3) := by decide +kernel
theorem dX7_init_63 : decode cX7_init 63 = .ok (.aload_n 0, 1) := by decide +kernel
theorem dX7_init_64 : decode cX7_init 64 = .ok (.sipush 360, 3) := by decide +kernel
theorem dX7_init_67 : decode cX7_init 67 = .ok (.newarray .int, 2) := by decide +kernel
theorem dX7_init_69 : decode cX7_init 69 = .ok (.putfield 31, 3) := by decide +kernel
theorem dX7_init_72 : decode cX7_init 72 = .ok (.aload_n 0, 1) := by decide +kernel
theorem dX7_init_73 : decode cX7_init 73 = .ok (.bipush 80, 2) := by decide +kernel
theorem dX7_init_75 : decode cX7_init 75 = .ok (.newarray .int, 2) := by decide +kernel
theorem dX7_init_77 : decode cX7_init 77 = .ok (.putfield 34, 3) := by decide +kernel
theorem dX7_init_80 : decode cX7_init 80 = .ok (.aload_n 0, 1) := by decide +kernel
theorem dX7_init_81 : decode cX7_init 81 = .ok (.bipush 80, 2) := by decide +kernel
theorem dX7_init_83 : decode cX7_init 83 = .ok (.newarray .int, 2) := by decide +kernel
theorem dX7_init_85 : decode cX7_init 85 = .ok (.putfield 37, 3) := by decide +kernel
theorem dX7_init_88 : decode cX7_init 88 = .ok (.aload_n 0, 1) := by decide +kernel
theorem dX7_init_89 : decode cX7_init 89 = .ok (.bipush 80, 2) := by decide +kernel
theorem dX7_init_91 : decode cX7_init 91 = .ok (.newarray .int, 2) := by decide +kernel
theorem dX7_init_93 : decode cX7_init 93 = .ok (.putfield 40, 3) := by decide +kernel
theorem dX7_init_96 : decode cX7_init 96 = .ok (.aload_n 0, 1) := by decide +kernel
theorem dX7_init_97 : decode cX7_init 97 = .ok (.sipush 360, 3) := by decide +kernel
theorem dX7_init_100 : decode cX7_init 100 = .ok (.newarray .int, 2) := by decide +kernel
theorem dX7_init_102 : decode cX7_init 102 = .ok (.putfield 43, 3) := by decide +kernel
theorem dX7_init_105 : decode cX7_init 105 = .ok (.aload_n 0, 1) := by decide +kernel
theorem dX7_init_106 : decode cX7_init 106 = .ok (.bipush 60, 2) := by decide +kernel
theorem dX7_init_108 : decode cX7_init 108 = .ok (.newarray .int, 2) := by decide +kernel
theorem dX7_init_110 : decode cX7_init 110 = .ok (.putfield 46, 3) := by decide +kernel
theorem dX7_init_113 : decode cX7_init 113 = .ok (.aload_n 0, 1) := by decide +kernel
theorem dX7_init_114 : decode cX7_init 114 = .ok (.sipush 183, 3) := by decide +kernel
theorem dX7_init_117 : decode cX7_init 117 = .ok (.newarray .int, 2) := by decide +kernel
theorem dX7_init_119 : decode cX7_init 119 = .ok (.putfield 49, 3) := by decide +kernel
theorem dX7_init_122 : decode cX7_init 122 = .ok (.aload_n 0, 1) := by decide +kernel
theorem dX7_init_123 : decode cX7_init 123 = .ok (.bipush 120, 2) := by decide +kernel
theorem dX7_init_125 : decode cX7_init 125 = .ok (.newarray .int, 2) := by decide +kernel
theorem dX7_init_127 : decode cX7_init 127 = .ok (.putfield 52, 3) := by decide +kernel
theorem dX7_init_130 : decode cX7_init 130 = .ok (.aload_n 0, 1) := by decide +kernel
theorem dX7_init_131 : decode cX7_init 131 = .ok (.getfield 9, 3) := by decide +kernel
theorem dX7_init_134 : decode cX7_init 134 = .ok (.iconst 2, 1) := by decide +kernel
theorem dX7_init_135 : decode cX7_init 135 = .ok (.bipush 60, 2) := by decide +kernel
theorem dX7_init_137 : decode cX7_init 137 = .ok (.iastore, 1) := by decide +kernel
theorem dX7_init_138 : decode cX7_init 138 = .ok (.return_, 1) := by decide +kernel
theorem dX7_in_0 : decode cX7_in 0 = .ok (.iload_n 0, 1) := by decide +kernel
theorem dX7_in_1 : decode cX7_in 1 = .ok (.iload_n 1, 1) := by decide +kernel
theorem dX7_in_2 : decode cX7_in 2 = .ok (.if_icmp .lt 12, 3) := by decide +kernel
theorem dX7_in_5 : decode cX7_in 5 = .ok (.iload_n 0, 1) := by decide +kernel
theorem dX7_in_6 : decode cX7_in 6 = .ok (.iload_n 2, 1) := by decide +kernel
theorem dX7_in_7 : decode cX7_in 7 = .ok (.if_icmp .gt 7, 3) := by decide +kernel
theorem dX7_in_10 : decode cX7_in 10 = .ok (.iconst 1, 1) := by decide +kernel
theorem dX7_in_11 : decode cX7_in 11 = .ok (.goto 4, 3) := by decide +kernel
theorem dX7_in_14 : decode cX7_in 14 = .ok (.iconst 0, 1) := by decide +kernel
theorem dX7_in_15 : decode cX7_in 15 = .ok (.ireturn, 1) := by decide +kernel
theorem dX7_copies_0 : decode cX7_copies 0 = .ok (.iconst 0, 1) := by decide +kernel
theorem dX7_copies_1 : decode cX7_copies 1 = .ok (.istore_n 3, 1) := by decide +kernel
theorem dX7_copies_2 : decode cX7_copies 2 = .ok (.iload_n 3, 1) := by decide +kernel
theorem dX7_copies_3 : decode cX7_copies 3 = .ok (.bipush 68, 2) := by decide +kernel
theorem dX7_copies_5 : decode cX7_copies 5 = .ok (.if_icmp .ge 31, 3) := by decide +kernel
theorem dX7_copies_8 : decode cX7_copies 8 = .ok (.aload_n 0, 1) := by decide +kernel
theorem dX7_copies_9 : decode cX7_copies 9 = .ok (.getfield 9, 3) := by decide +kernel
theorem dX7_copies_12 : decode cX7_copies 12 = .ok (.bipush 68, 2) := by decide +kernel
theorem dX7_copies_14 : decode cX7_copies 14 = .ok (.iload_n 2, 1) := by decide +kernel
theorem dX7_copies_15 : decode cX7_copies 15 = .ok (.imul, 1) := by decide +kernel
theorem dX7_copies_16 : decode cX7_copies 16 = .ok (.iload_n 3, 1) := by decide +kernel
theorem dX7_copies_17 : decode cX7_copies 17 = .ok (.iadd, 1) := by decide +kernel
theorem dX7_copies_18 : decode cX7_copies 18 = .ok (.aload_n 0, 1) := by decide +kernel
theorem dX7_copies_19 : decode cX7_copies 19 = .ok (.getfield 9, 3) := by decide +kernel
theorem dX7_copies_22 : decode cX7_copies 22 = .ok (.bipush 68, 2) := by decide +kernel
theorem dX7_copies_24 : decode cX7_copies 24 = .ok (.iload_n 1, 1) := by decide +kernel
theorem dX7_copies_25 : decode cX7_copies 25 = .ok (.imul, 1) := by decide +kernel
theorem dX7_copies_26 : decode cX7_copies 26 = .ok (.iload_n 3, 1) := by decide +kernel
theorem dX7_copies_27 : decode cX7_copies 27 = .ok (.iadd, 1) := by decide +kernel
theorem dX7_copies_28 : decode cX7_copies 28 = .ok (.iaload, 1) := by decide +kernel
theorem dX7_copies_29 : decode cX7_copies 29 = .ok (.iastore, 1) := by decide +kernel
theorem dX7_copies_30 : decode cX7_copies 30 = .ok (.iinc 3 1, 3) := by decide +kernel
theorem dX7_copies_33 : decode cX7_copies 33 = .ok (.goto (-31), 3) := by decide +kernel
theorem dX7_copies_36 : decode cX7_copies 36 = .ok (.return_, 1) := by decide +kernel
set_option maxRecDepth 20000 in
theorem ggX7_begins_X7_copies : GoodIn wsX7_begins wsX7_copies := goodIn_r _ [5, 6, 7, 8, 9, 10, 11, 12, 13, 14, 15, 16, 17, 18, 19, 20, 21, 22, 23, 24, 25, 26, 27, 28, 29, 30, 31] (by decide +kernel) (by decide +kernel)
set_option maxRecDepth 20000 in
theorem gX7_begins_X7_copies : GoodIn wsX7_begins (wsV RX7 55 RX7 yX7_copies wsX7_copies) := goodIn_app (goodIn_of _ (by decide +kernel)) ggX7_begins_X7_copies
theorem dX7_begins_0 : decode cX7_begins 0 = .ok (.aload_n 0, 1) := by decide +kernel
theorem dX7_begins_1 : decode cX7_begins 1 = .ok (.iconst 0, 1) := by decide +kernel
theorem dX7_begins_2 : decode cX7_begins 2 = .ok (.bipush 10, 2) := by decide +kernel
theorem dX7_begins_4 : decode cX7_begins 4 = .ok (.invokevirtual 55, 3) := by decide +kernel
theorem dX7_begins_7 : decode cX7_begins 7 = .ok (.return_, 1) := by decide +kernel
set_option maxRecDepth 20000 in
theorem ggX7_ends_X7_in : GoodIn wsX7_ends wsX7_in := goodIn_r _ [5] (by decide +kernel) (by decide +kernel)
set_option maxRecDepth 20000 in
theorem gX7_ends_X7_in : GoodIn wsX7_ends (va_wsS RX7 59 yX7_in wsX7_in) := goodIn_app (goodIn_of _ (by decide +kernel)) ggX7_ends_X7_in
set_option maxRecDepth 20000 in
theorem ggX7_ends_X7_copies : GoodIn wsX7_ends wsX7_copies := goodIn_r _ [9, 10, 11, 12, 13, 14, 15, 16, 17, 18, 19, 20, 21, 22, 23, 24, 25, 26, 27, 28, 29, 30, 31, 32, 33, 34, 35] (by decide +kernel) (by decide +kernel)
set_option maxRecDepth 20000 in
theorem gX7_ends_X7_copies : GoodIn wsX7_ends (wsV RX7 55 RX7 yX7_copies wsX7_copies) := goodIn_app (goodIn_of _ (by decide +kernel)) ggX7_ends_X7_copies
theorem dX7_ends_0 : decode cX7_ends 0 = .ok (.iload_n 1, 1) := by decide +kernel
theorem dX7_ends_1 : decode cX7_ends 1 = .ok (.bipush (-15), 2) := by decide +kernel
theorem dX7_ends_3 : decode cX7_ends 3 = .ok (.bipush (-11), 2) := by decide +kernel
theorem dX7_ends_5 : decode cX7_ends 5 = .ok (.invokestatic 59, 3) := by decide +kernel
theorem dX7_ends_8 : decode cX7_ends 8 = .ok (.ifCond .eq 12, 3) := by decide +kernel
theorem dX7_ends_11 : decode cX7_ends 11 = .ok (.aload_n 0, 1) := by decide +kernel
theorem dX7_ends_12 : decode cX7_ends 12 = .ok (.bipush 10, 2) := by decide +kernel
theorem dX7_ends_14 : decode cX7_ends 14 = .ok (.iconst 0, 1) := by decide +kernel
theorem dX7_ends_15 : decode cX7_ends 15 = .ok (.invokevirtual 55, 3) := by decide +kernel
theorem dX7_ends_18 : decode cX7_ends 18 = .ok (.iload_n 1, 1) := by decide +kernel
theorem dX7_ends_19 : decode cX7_ends 19 = .ok (.ireturn, 1) := by decide +kernel
theorem dX7_ends_20 : decode cX7_ends 20 = .ok (.aload_n 0, 1) := by decide +kernel
theorem dX7_ends_21 : decode cX7_ends 21 = .ok (.getfield 63, 3) := by decide +kernel
theorem dX7_ends_24 : decode cX7_ends 24 = .ok (.bipush 8, 2) := by decide +kernel
theorem dX7_ends_26 : decode cX7_ends 26 = .ok (.if_icmp .ne 35, 3) := by decide +kernel
theorem dX7_ends_29 : decode cX7_ends 29 = .ok (.iconst 1, 1) := by decide +kernel
theorem dX7_ends_30 : decode cX7_ends 30 = .ok (.istore_n 2, 1) := by decide +kernel
theorem dX7_ends_31 : decode cX7_ends 31 = .ok (.iload_n 2, 1) := by decide +kernel
theorem dX7_ends_32 : decode cX7_ends 32 = .ok (.bipush 8, 2) := by decide +kernel
theorem dX7_ends_34 : decode cX7_ends 34 = .ok (.if_icmp .ge 17, 3) := by decide +kernel
theorem dX7_ends_37 : decode cX7_ends 37 = .ok (.aload_n 0, 1) := by decide +kernel
theorem dX7_ends_38 : decode cX7_ends 38 = .ok (.iload_n 2, 1) := by decide +kernel
theorem dX7_ends_39 : decode cX7_ends 39 = .ok (.iconst 1, 1) := by decide +kernel
theorem dX7_ends_40 : decode cX7_ends 40 = .ok (.iadd, 1) := by decide +kernel
theorem dX7_ends_41 : decode cX7_ends 41 = .ok (.iload_n 2, 1) := by decide +kernel
theorem dX7_ends_42 : decode cX7_ends 42 = .ok (.invokevirtual 55, 3) := by decide +kernel
theorem dX7_ends_45 : decode cX7_ends 45 = .ok (.iinc 2 1, 3) := by decide +kernel
theorem dX7_ends_48 : decode cX7_ends 48 = .ok (.goto (-17), 3) := by decide +kernel
theorem dX7_ends_51 : decode cX7_ends 51 = .ok (.aload_n 0, 1) := by decide +kernel
theorem dX7_ends_52 : decode cX7_ends 52 = .ok (.dup, 1) := by decide +kernel
theorem dX7_ends_53 : decode cX7_ends 53 = .ok (.getfield 63, 3) := by decide +kernel
theorem dX7_ends_56 : decode cX7_ends 56 = .ok (.iconst 1, 1) := by decide +kernel
theorem dX7_ends_57 : decode cX7_ends 57 = .ok (.isub, 1) := by decide +kernel
theorem dX7_ends_58 : decode cX7_ends 58 = .ok (.putfield 63, 3) := by decide +kernel
theorem dX7_ends_61 : decode cX7_ends 61 = .ok (.aload_n 0, 1) := by decide +kernel
theorem dX7_ends_62 : decode cX7_ends 62 = .ok (.dup, 1) := by decide +kernel
theorem dX7_ends_63 : decode cX7_ends 63 = .ok (.getfield 63, 3) := by decide +kernel
theorem dX7_ends_66 : decode cX7_ends 66 = .ok (.iconst 1, 1) := by decide +kernel
theorem dX7_ends_67 : decode cX7_ends 67 = .ok (.iadd, 1) := by decide +kernel
theorem dX7_ends_68 : decode cX7_ends 68 = .ok (.putfield 63, 3) := by decide +kernel
theorem dX7_ends_71 : decode cX7_ends 71 = .ok (.aload_n 0, 1) := by decide +kernel
theorem dX7_ends_72 : decode cX7_ends 72 = .ok (.bipush 10, 2) := by decide +kernel
theorem dX7_ends_74 : decode cX7_ends 74 = .ok (.aload_n 0, 1) := by decide +kernel
theorem dX7_ends_75 : decode cX7_ends 75 = .ok (.getfield 63, 3) := by decide +kernel
theorem dX7_ends_78 : decode cX7_ends 78 = .ok (.invokevirtual 55, 3) := by decide +kernel
theorem dX7_ends_81 : decode cX7_ends 81 = .ok (.iload_n 1, 1) := by decide +kernel
theorem dX7_ends_82 : decode cX7_ends 82 = .ok (.ireturn, 1) := by decide +kernel
theorem dX7_refuses_0 : decode cX7_refuses 0 = .ok (.aload_n 0, 1) := by decide +kernel
theorem dX7_refuses_1 : decode cX7_refuses 1 = .ok (.iload_n 1, 1) := by decide +kernel
theorem dX7_refuses_2 : decode cX7_refuses 2 = .ok (.putfield 67, 3) := by decide +kernel
theorem dX7_refuses_5 : decode cX7_refuses 5 = .ok (.aload_n 0, 1) := by decide +kernel
theorem dX7_refuses_6 : decode cX7_refuses 6 = .ok (.iload_n 2, 1) := by decide +kernel
theorem dX7_refuses_7 : decode cX7_refuses 7 = .ok (.putfield 70, 3) := by decide +kernel
theorem dX7_refuses_10 : decode cX7_refuses 10 = .ok (.bipush (-14), 2) := by decide +kernel
theorem dX7_refuses_12 : decode cX7_refuses 12 = .ok (.ireturn, 1) := by decide +kernel
theorem dX7_reason_0 : decode cX7_reason 0 = .ok (.aload_n 0, 1) := by decide +kernel
theorem dX7_reason_1 : decode cX7_reason 1 = .ok (.getfield 67, 3) := by decide +kernel
theorem dX7_reason_4 : decode cX7_reason 4 = .ok (.ifCond .ne 8, 3) := by decide +kernel
theorem dX7_reason_7 : decode cX7_reason 7 = .ok (.bipush (-15), 2) := by decide +kernel
theorem dX7_reason_9 : decode cX7_reason 9 = .ok (.goto 18, 3) := by decide +kernel
theorem dX7_reason_12 : decode cX7_reason 12 = .ok (.iload_n 1, 1) := by decide +kernel
theorem dX7_reason_13 : decode cX7_reason 13 = .ok (.ifCond .eq 10, 3) := by decide +kernel
theorem dX7_reason_16 : decode cX7_reason 16 = .ok (.aload_n 0, 1) := by decide +kernel
theorem dX7_reason_17 : decode cX7_reason 17 = .ok (.getfield 70, 3) := by decide +kernel
theorem dX7_reason_20 : decode cX7_reason 20 = .ok (.goto 7, 3) := by decide +kernel
theorem dX7_reason_23 : decode cX7_reason 23 = .ok (.aload_n 0, 1) := by decide +kernel
theorem dX7_reason_24 : decode cX7_reason 24 = .ok (.getfield 67, 3) := by decide +kernel
theorem dX7_reason_27 : decode cX7_reason 27 = .ok (.ireturn, 1) := by decide +kernel
theorem dX7_p_0 : decode cX7_p 0 = .ok (.aload_n 0, 1) := by decide +kernel
theorem dX7_p_1 : decode cX7_p 1 = .ok (.getfield 9, 3) := by decide +kernel
theorem dX7_p_4 : decode cX7_p 4 = .ok (.iconst 4, 1) := by decide +kernel
theorem dX7_p_5 : decode cX7_p 5 = .ok (.iconst 2, 1) := by decide +kernel
theorem dX7_p_6 : decode cX7_p 6 = .ok (.iload_n 1, 1) := by decide +kernel
theorem dX7_p_7 : decode cX7_p 7 = .ok (.imul, 1) := by decide +kernel
theorem dX7_p_8 : decode cX7_p 8 = .ok (.iadd, 1) := by decide +kernel
theorem dX7_p_9 : decode cX7_p 9 = .ok (.iload_n 2, 1) := by decide +kernel
theorem dX7_p_10 : decode cX7_p 10 = .ok (.iadd, 1) := by decide +kernel
theorem dX7_p_11 : decode cX7_p 11 = .ok (.iaload, 1) := by decide +kernel
theorem dX7_p_12 : decode cX7_p 12 = .ok (.ireturn, 1) := by decide +kernel
theorem dX7_b_0 : decode cX7_b 0 = .ok (.aload_n 0, 1) := by decide +kernel
theorem dX7_b_1 : decode cX7_b 1 = .ok (.getfield 9, 3) := by decide +kernel
theorem dX7_b_4 : decode cX7_b 4 = .ok (.bipush 20, 2) := by decide +kernel
theorem dX7_b_6 : decode cX7_b 6 = .ok (.iconst 2, 1) := by decide +kernel
theorem dX7_b_7 : decode cX7_b 7 = .ok (.iload_n 1, 1) := by decide +kernel
theorem dX7_b_8 : decode cX7_b 8 = .ok (.imul, 1) := by decide +kernel
theorem dX7_b_9 : decode cX7_b 9 = .ok (.iadd, 1) := by decide +kernel
theorem dX7_b_10 : decode cX7_b 10 = .ok (.iload_n 2, 1) := by decide +kernel
theorem dX7_b_11 : decode cX7_b 11 = .ok (.iadd, 1) := by decide +kernel
theorem dX7_b_12 : decode cX7_b 12 = .ok (.iaload, 1) := by decide +kernel
theorem dX7_b_13 : decode cX7_b 13 = .ok (.ireturn, 1) := by decide +kernel
set_option maxRecDepth 20000 in
theorem ggX7_isPier_X7_in : GoodIn wsX7_isPier wsX7_in := goodIn_r _ [5] (by decide +kernel) (by decide +kernel)
set_option maxRecDepth 20000 in
theorem gX7_isPier_X7_in : GoodIn wsX7_isPier (va_wsS RX7 59 yX7_in wsX7_in) := goodIn_app (goodIn_of _ (by decide +kernel)) ggX7_isPier_X7_in
theorem dX7_isPier_0 : decode cX7_isPier 0 = .ok (.iload_n 1, 1) := by decide +kernel
theorem dX7_isPier_1 : decode cX7_isPier 1 = .ok (.iconst 0, 1) := by decide +kernel
theorem dX7_isPier_2 : decode cX7_isPier 2 = .ok (.aload_n 0, 1) := by decide +kernel
theorem dX7_isPier_3 : decode cX7_isPier 3 = .ok (.getfield 9, 3) := by decide +kernel
theorem dX7_isPier_6 : decode cX7_isPier 6 = .ok (.iconst 0, 1) := by decide +kernel
theorem dX7_isPier_7 : decode cX7_isPier 7 = .ok (.iaload, 1) := by decide +kernel
theorem dX7_isPier_8 : decode cX7_isPier 8 = .ok (.iconst 1, 1) := by decide +kernel
theorem dX7_isPier_9 : decode cX7_isPier 9 = .ok (.isub, 1) := by decide +kernel
theorem dX7_isPier_10 : decode cX7_isPier 10 = .ok (.invokestatic 59, 3) := by decide +kernel
theorem dX7_isPier_13 : decode cX7_isPier 13 = .ok (.ireturn, 1) := by decide +kernel
set_option maxRecDepth 20000 in
theorem ggX7_isBarge_X7_in : GoodIn wsX7_isBarge wsX7_in := goodIn_r _ [5] (by decide +kernel) (by decide +kernel)
set_option maxRecDepth 20000 in
theorem gX7_isBarge_X7_in : GoodIn wsX7_isBarge (va_wsS RX7 59 yX7_in wsX7_in) := goodIn_app (goodIn_of _ (by decide +kernel)) ggX7_isBarge_X7_in
theorem dX7_isBarge_0 : decode cX7_isBarge 0 = .ok (.iload_n 1, 1) := by decide +kernel
theorem dX7_isBarge_1 : decode cX7_isBarge 1 = .ok (.iconst 0, 1) := by decide +kernel
theorem dX7_isBarge_2 : decode cX7_isBarge 2 = .ok (.aload_n 0, 1) := by decide +kernel
theorem dX7_isBarge_3 : decode cX7_isBarge 3 = .ok (.getfield 9, 3) := by decide +kernel
theorem dX7_isBarge_6 : decode cX7_isBarge 6 = .ok (.iconst 1, 1) := by decide +kernel
theorem dX7_isBarge_7 : decode cX7_isBarge 7 = .ok (.iaload, 1) := by decide +kernel
theorem dX7_isBarge_8 : decode cX7_isBarge 8 = .ok (.iconst 1, 1) := by decide +kernel
theorem dX7_isBarge_9 : decode cX7_isBarge 9 = .ok (.isub, 1) := by decide +kernel
theorem dX7_isBarge_10 : decode cX7_isBarge 10 = .ok (.invokestatic 59, 3) := by decide +kernel
theorem dX7_isBarge_13 : decode cX7_isBarge 13 = .ok (.ireturn, 1) := by decide +kernel
set_option maxRecDepth 20000 in
theorem ggX7_isOpen_X7_p : GoodIn wsX7_isOpen wsX7_p := goodIn_r _ [5, 6, 7, 8, 9, 10, 11, 12, 13, 14, 15, 16, 17, 18, 19, 20, 21, 22, 23, 24, 25, 26, 27, 28, 29, 30, 31] (by decide +kernel) (by decide +kernel)
set_option maxRecDepth 20000 in
theorem gX7_isOpen_X7_p : GoodIn wsX7_isOpen (wsV RX7 73 RX7 yX7_p wsX7_p) := goodIn_app (goodIn_of _ (by decide +kernel)) ggX7_isOpen_X7_p
theorem dX7_isOpen_0 : decode cX7_isOpen 0 = .ok (.aload_n 0, 1) := by decide +kernel
theorem dX7_isOpen_1 : decode cX7_isOpen 1 = .ok (.iload_n 1, 1) := by decide +kernel
theorem dX7_isOpen_2 : decode cX7_isOpen 2 = .ok (.iconst 1, 1) := by decide +kernel
theorem dX7_isOpen_3 : decode cX7_isOpen 3 = .ok (.invokevirtual 73, 3) := by decide +kernel
theorem dX7_isOpen_6 : decode cX7_isOpen 6 = .ok (.iconst 1, 1) := by decide +kernel
theorem dX7_isOpen_7 : decode cX7_isOpen 7 = .ok (.if_icmp .ne 7, 3) := by decide +kernel
theorem dX7_isOpen_10 : decode cX7_isOpen 10 = .ok (.iconst 1, 1) := by decide +kernel
theorem dX7_isOpen_11 : decode cX7_isOpen 11 = .ok (.goto 4, 3) := by decide +kernel
theorem dX7_isOpen_14 : decode cX7_isOpen 14 = .ok (.iconst 0, 1) := by decide +kernel
theorem dX7_isOpen_15 : decode cX7_isOpen 15 = .ok (.ireturn, 1) := by decide +kernel
theorem dX7_pointOf_0 : decode cX7_pointOf 0 = .ok (.bipush 8, 2) := by decide +kernel
theorem dX7_pointOf_2 : decode cX7_pointOf 2 = .ok (.bipush 17, 2) := by decide +kernel
theorem dX7_pointOf_4 : decode cX7_pointOf 4 = .ok (.iload_n 0, 1) := by decide +kernel
theorem dX7_pointOf_5 : decode cX7_pointOf 5 = .ok (.imul, 1) := by decide +kernel
theorem dX7_pointOf_6 : decode cX7_pointOf 6 = .ok (.bipush 7, 2) := by decide +kernel
theorem dX7_pointOf_8 : decode cX7_pointOf 8 = .ok (.iload_n 1, 1) := by decide +kernel
theorem dX7_pointOf_9 : decode cX7_pointOf 9 = .ok (.imul, 1) := by decide +kernel
theorem dX7_pointOf_10 : decode cX7_pointOf 10 = .ok (.iadd, 1) := by decide +kernel
theorem dX7_pointOf_11 : decode cX7_pointOf 11 = .ok (.bipush 45, 2) := by decide +kernel
theorem dX7_pointOf_13 : decode cX7_pointOf 13 = .ok (.irem, 1) := by decide +kernel
theorem dX7_pointOf_14 : decode cX7_pointOf 14 = .ok (.imul, 1) := by decide +kernel
theorem dX7_pointOf_15 : decode cX7_pointOf 15 = .ok (.iload_n 0, 1) := by decide +kernel
theorem dX7_pointOf_16 : decode cX7_pointOf 16 = .ok (.iadd, 1) := by decide +kernel
theorem dX7_pointOf_17 : decode cX7_pointOf 17 = .ok (.ireturn, 1) := by decide +kernel
set_option maxRecDepth 20000 in
theorem ggX7_points_X7_isOpen : GoodIn wsX7_points wsX7_isOpen := goodIn_r _ [5, 6, 7, 8, 4, 9, 10, 11, 12, 13, 14, 15, 16, 17, 18, 19, 20, 21, 22, 23, 24, 25, 26, 27, 28, 29, 30, 31, 32, 33, 34, 35] (by decide +kernel) (by decide +kernel)
set_option maxRecDepth 20000 in
theorem gX7_points_X7_isOpen : GoodIn wsX7_points (wsV RX7 77 RX7 yX7_isOpen wsX7_isOpen) := goodIn_app (goodIn_of _ (by decide +kernel)) ggX7_points_X7_isOpen
set_option maxRecDepth 20000 in
theorem ggX7_points_X7_p : GoodIn wsX7_points wsX7_p := goodIn_r _ [9, 10, 11, 12, 13, 14, 15, 16, 17, 18, 19, 20, 21, 22, 23, 24, 25, 26, 27, 28, 29, 30, 31, 32, 33, 34, 35] (by decide +kernel) (by decide +kernel)
set_option maxRecDepth 20000 in
theorem gX7_points_X7_p : GoodIn wsX7_points (wsV RX7 73 RX7 yX7_p wsX7_p) := goodIn_app (goodIn_of _ (by decide +kernel)) ggX7_points_X7_p
theorem dX7_points_0 : decode cX7_points 0 = .ok (.aload_n 0, 1) := by decide +kernel
theorem dX7_points_1 : decode cX7_points 1 = .ok (.iload_n 1, 1) := by decide +kernel
theorem dX7_points_2 : decode cX7_points 2 = .ok (.invokevirtual 77, 3) := by decide +kernel
theorem dX7_points_5 : decode cX7_points 5 = .ok (.ifCond .eq 14, 3) := by decide +kernel
theorem dX7_points_8 : decode cX7_points 8 = .ok (.iconst 2, 1) := by decide +kernel
theorem dX7_points_9 : decode cX7_points 9 = .ok (.aload_n 0, 1) := by decide +kernel
theorem dX7_points_10 : decode cX7_points 10 = .ok (.iload_n 1, 1) := by decide +kernel
theorem dX7_points_11 : decode cX7_points 11 = .ok (.iconst 0, 1) := by decide +kernel
theorem dX7_points_12 : decode cX7_points 12 = .ok (.invokevirtual 73, 3) := by decide +kernel
theorem dX7_points_15 : decode cX7_points 15 = .ok (.imul, 1) := by decide +kernel
theorem dX7_points_16 : decode cX7_points 16 = .ok (.goto 4, 3) := by decide +kernel
theorem dX7_points_19 : decode cX7_points 19 = .ok (.iconst 0, 1) := by decide +kernel
theorem dX7_points_20 : decode cX7_points 20 = .ok (.ireturn, 1) := by decide +kernel
set_option maxRecDepth 20000 in
theorem ggX7_room_X7_isOpen : GoodIn wsX7_room wsX7_isOpen := goodIn_r _ [6, 7, 8, 9, 5, 10, 1, 11, 12, 13, 14, 15, 16, 17, 18, 19, 20, 21, 22, 23, 24, 25, 26, 27, 28, 29, 30, 31, 32, 33, 34, 35] (by decide +kernel) (by decide +kernel)
set_option maxRecDepth 20000 in
theorem gX7_room_X7_isOpen : GoodIn wsX7_room (wsV RX7 77 RX7 yX7_isOpen wsX7_isOpen) := goodIn_app (goodIn_of _ (by decide +kernel)) ggX7_room_X7_isOpen
set_option maxRecDepth 20000 in
theorem ggX7_room_X7_p : GoodIn wsX7_room wsX7_p := goodIn_r _ [10, 1, 11, 12, 13, 14, 15, 16, 17, 18, 19, 20, 21, 22, 23, 24, 25, 26, 27, 28, 29, 30, 31, 32, 33, 34, 35] (by decide +kernel) (by decide +kernel)
set_option maxRecDepth 20000 in
theorem gX7_room_X7_p : GoodIn wsX7_room (wsV RX7 73 RX7 yX7_p wsX7_p) := goodIn_app (goodIn_of _ (by decide +kernel)) ggX7_room_X7_p
theorem dX7_room_0 : decode cX7_room 0 = .ok (.aload_n 0, 1) := by decide +kernel
theorem dX7_room_1 : decode cX7_room 1 = .ok (.iload_n 1, 1) := by decide +kernel
theorem dX7_room_2 : decode cX7_room 2 = .ok (.invokevirtual 77, 3) := by decide +kernel
theorem dX7_room_5 : decode cX7_room 5 = .ok (.ifCond .eq 19, 3) := by decide +kernel
theorem dX7_room_8 : decode cX7_room 8 = .ok (.aload_n 0, 1) := by decide +kernel
theorem dX7_room_9 : decode cX7_room 9 = .ok (.iload_n 1, 1) := by decide +kernel
theorem dX7_room_10 : decode cX7_room 10 = .ok (.iconst 0, 1) := by decide +kernel
theorem dX7_room_11 : decode cX7_room 11 = .ok (.invokevirtual 73, 3) := by decide +kernel
theorem dX7_room_14 : decode cX7_room 14 = .ok (.aload_n 0, 1) := by decide +kernel
theorem dX7_room_15 : decode cX7_room 15 = .ok (.getfield 9, 3) := by decide +kernel
theorem dX7_room_18 : decode cX7_room 18 = .ok (.iconst 2, 1) := by decide +kernel
theorem dX7_room_19 : decode cX7_room 19 = .ok (.iaload, 1) := by decide +kernel
theorem dX7_room_20 : decode cX7_room 20 = .ok (.imul, 1) := by decide +kernel
theorem dX7_room_21 : decode cX7_room 21 = .ok (.goto 4, 3) := by decide +kernel
theorem dX7_room_24 : decode cX7_room 24 = .ok (.iconst 0, 1) := by decide +kernel
theorem dX7_room_25 : decode cX7_room 25 = .ok (.ireturn, 1) := by decide +kernel
theorem dX7_placeOf_0 : decode cX7_placeOf 0 = .ok (.bipush 37, 2) := by decide +kernel
theorem dX7_placeOf_2 : decode cX7_placeOf 2 = .ok (.iload_n 0, 1) := by decide +kernel
theorem dX7_placeOf_3 : decode cX7_placeOf 3 = .ok (.imul, 1) := by decide +kernel
theorem dX7_placeOf_4 : decode cX7_placeOf 4 = .ok (.bipush 11, 2) := by decide +kernel
theorem dX7_placeOf_6 : decode cX7_placeOf 6 = .ok (.iadd, 1) := by decide +kernel
theorem dX7_placeOf_7 : decode cX7_placeOf 7 = .ok (.sipush 360, 3) := by decide +kernel
theorem dX7_placeOf_10 : decode cX7_placeOf 10 = .ok (.irem, 1) := by decide +kernel
theorem dX7_placeOf_11 : decode cX7_placeOf 11 = .ok (.ireturn, 1) := by decide +kernel
set_option maxRecDepth 20000 in
theorem ggX7_laysRing_X7_points : GoodIn wsX7_laysRing wsX7_points := goodIn_r _ [8, 9, 10, 11, 7, 12, 13, 14, 15, 16, 2, 20, 21, 22, 23, 24, 25, 26, 27, 28, 29, 30, 31, 32, 33, 34, 35, 36, 37, 38, 39, 40, 41, 42, 43, 44] (by decide +kernel) (by decide +kernel)
set_option maxRecDepth 20000 in
theorem gX7_laysRing_X7_points : GoodIn wsX7_laysRing (wsV RX7 81 RX7 yX7_points wsX7_points) := goodIn_app (goodIn_of _ (by decide +kernel)) ggX7_laysRing_X7_points
set_option maxRecDepth 20000 in
theorem ggX7_laysRing_X7_pointOf : GoodIn wsX7_laysRing wsX7_pointOf := goodIn_r _ [19] (by decide +kernel) (by decide +kernel)
set_option maxRecDepth 20000 in
theorem gX7_laysRing_X7_pointOf : GoodIn wsX7_laysRing (va_wsS RX7 85 yX7_pointOf wsX7_pointOf) := goodIn_app (goodIn_of _ (by decide +kernel)) ggX7_laysRing_X7_pointOf
theorem dX7_laysRing_0 : decode cX7_laysRing 0 = .ok (.iconst 0, 1) := by decide +kernel
theorem dX7_laysRing_1 : decode cX7_laysRing 1 = .ok (.istore_n 1, 1) := by decide +kernel
theorem dX7_laysRing_2 : decode cX7_laysRing 2 = .ok (.iload_n 1, 1) := by decide +kernel
theorem dX7_laysRing_3 : decode cX7_laysRing 3 = .ok (.sipush 360, 3) := by decide +kernel
theorem dX7_laysRing_6 : decode cX7_laysRing 6 = .ok (.if_icmp .ge 16, 3) := by decide +kernel
theorem dX7_laysRing_9 : decode cX7_laysRing 9 = .ok (.aload_n 0, 1) := by decide +kernel
theorem dX7_laysRing_10 : decode cX7_laysRing 10 = .ok (.getfield 13, 3) := by decide +kernel
theorem dX7_laysRing_13 : decode cX7_laysRing 13 = .ok (.iload_n 1, 1) := by decide +kernel
theorem dX7_laysRing_14 : decode cX7_laysRing 14 = .ok (.iconst (-1), 1) := by decide +kernel
theorem dX7_laysRing_15 : decode cX7_laysRing 15 = .ok (.iastore, 1) := by decide +kernel
theorem dX7_laysRing_16 : decode cX7_laysRing 16 = .ok (.iinc 1 1, 3) := by decide +kernel
theorem dX7_laysRing_19 : decode cX7_laysRing 19 = .ok (.goto (-17), 3) := by decide +kernel
theorem dX7_laysRing_22 : decode cX7_laysRing 22 = .ok (.iconst 0, 1) := by decide +kernel
theorem dX7_laysRing_23 : decode cX7_laysRing 23 = .ok (.istore_n 1, 1) := by decide +kernel
theorem dX7_laysRing_24 : decode cX7_laysRing 24 = .ok (.iload_n 1, 1) := by decide +kernel
theorem dX7_laysRing_25 : decode cX7_laysRing 25 = .ok (.aload_n 0, 1) := by decide +kernel
theorem dX7_laysRing_26 : decode cX7_laysRing 26 = .ok (.getfield 9, 3) := by decide +kernel
theorem dX7_laysRing_29 : decode cX7_laysRing 29 = .ok (.iconst 0, 1) := by decide +kernel
theorem dX7_laysRing_30 : decode cX7_laysRing 30 = .ok (.iaload, 1) := by decide +kernel
theorem dX7_laysRing_31 : decode cX7_laysRing 31 = .ok (.if_icmp .ge 42, 3) := by decide +kernel
theorem dX7_laysRing_34 : decode cX7_laysRing 34 = .ok (.iconst 0, 1) := by decide +kernel
theorem dX7_laysRing_35 : decode cX7_laysRing 35 = .ok (.istore_n 2, 1) := by decide +kernel
theorem dX7_laysRing_36 : decode cX7_laysRing 36 = .ok (.iload_n 2, 1) := by decide +kernel
theorem dX7_laysRing_37 : decode cX7_laysRing 37 = .ok (.aload_n 0, 1) := by decide +kernel
theorem dX7_laysRing_38 : decode cX7_laysRing 38 = .ok (.iload_n 1, 1) := by decide +kernel
theorem dX7_laysRing_39 : decode cX7_laysRing 39 = .ok (.invokevirtual 81, 3) := by decide +kernel
theorem dX7_laysRing_42 : decode cX7_laysRing 42 = .ok (.if_icmp .ge 25, 3) := by decide +kernel
theorem dX7_laysRing_45 : decode cX7_laysRing 45 = .ok (.aload_n 0, 1) := by decide +kernel
theorem dX7_laysRing_46 : decode cX7_laysRing 46 = .ok (.getfield 13, 3) := by decide +kernel
theorem dX7_laysRing_49 : decode cX7_laysRing 49 = .ok (.iload_n 1, 1) := by decide +kernel
theorem dX7_laysRing_50 : decode cX7_laysRing 50 = .ok (.iload_n 2, 1) := by decide +kernel
theorem dX7_laysRing_51 : decode cX7_laysRing 51 = .ok (.invokestatic 85, 3) := by decide +kernel
theorem dX7_laysRing_54 : decode cX7_laysRing 54 = .ok (.bipush 8, 2) := by decide +kernel
theorem dX7_laysRing_56 : decode cX7_laysRing 56 = .ok (.iload_n 2, 1) := by decide +kernel
theorem dX7_laysRing_57 : decode cX7_laysRing 57 = .ok (.imul, 1) := by decide +kernel
theorem dX7_laysRing_58 : decode cX7_laysRing 58 = .ok (.iload_n 1, 1) := by decide +kernel
theorem dX7_laysRing_59 : decode cX7_laysRing 59 = .ok (.iadd, 1) := by decide +kernel
theorem dX7_laysRing_60 : decode cX7_laysRing 60 = .ok (.iastore, 1) := by decide +kernel
theorem dX7_laysRing_61 : decode cX7_laysRing 61 = .ok (.iinc 2 1, 3) := by decide +kernel
theorem dX7_laysRing_64 : decode cX7_laysRing 64 = .ok (.goto (-28), 3) := by decide +kernel
theorem dX7_laysRing_67 : decode cX7_laysRing 67 = .ok (.iinc 1 1, 3) := by decide +kernel
theorem dX7_laysRing_70 : decode cX7_laysRing 70 = .ok (.goto (-46), 3) := by decide +kernel
theorem dX7_laysRing_73 : decode cX7_laysRing 73 = .ok (.iconst (-1), 1) := by decide +kernel
theorem dX7_laysRing_74 : decode cX7_laysRing 74 = .ok (.istore_n 1, 1) := by decide +kernel
theorem dX7_laysRing_75 : decode cX7_laysRing 75 = .ok (.sipush 719, 3) := by decide +kernel
theorem dX7_laysRing_78 : decode cX7_laysRing 78 = .ok (.istore_n 2, 1) := by decide +kernel
theorem dX7_laysRing_79 : decode cX7_laysRing 79 = .ok (.iload_n 2, 1) := by decide +kernel
theorem dX7_laysRing_80 : decode cX7_laysRing 80 = .ok (.ifCond .lt 52, 3) := by decide +kernel
theorem dX7_laysRing_83 : decode cX7_laysRing 83 = .ok (.aload_n 0, 1) := by decide +kernel
theorem dX7_laysRing_84 : decode cX7_laysRing 84 = .ok (.getfield 13, 3) := by decide +kernel
theorem dX7_laysRing_87 : decode cX7_laysRing 87 = .ok (.iload_n 2, 1) := by decide +kernel
theorem dX7_laysRing_88 : decode cX7_laysRing 88 = .ok (.sipush 360, 3) := by decide +kernel
theorem dX7_laysRing_91 : decode cX7_laysRing 91 = .ok (.irem, 1) := by decide +kernel
theorem dX7_laysRing_92 : decode cX7_laysRing 92 = .ok (.iaload, 1) := by decide +kernel
theorem dX7_laysRing_93 : decode cX7_laysRing 93 = .ok (.iconst (-1), 1) := by decide +kernel
theorem dX7_laysRing_94 : decode cX7_laysRing 94 = .ok (.if_icmp .ne 7, 3) := by decide +kernel
theorem dX7_laysRing_97 : decode cX7_laysRing 97 = .ok (.iload_n 1, 1) := by decide +kernel
theorem dX7_laysRing_98 : decode cX7_laysRing 98 = .ok (.goto 16, 3) := by decide +kernel
theorem dX7_laysRing_101 : decode cX7_laysRing 101 = .ok (.aload_n 0, 1) := by decide +kernel
theorem dX7_laysRing_102 : decode cX7_laysRing 102 = .ok (.getfield 13, 3) := by decide +kernel
theorem dX7_laysRing_105 : decode cX7_laysRing 105 = .ok (.iload_n 2, 1) := by decide +kernel
theorem dX7_laysRing_106 : decode cX7_laysRing 106 = .ok (.sipush 360, 3) := by decide +kernel
theorem dX7_laysRing_109 : decode cX7_laysRing 109 = .ok (.irem, 1) := by decide +kernel
theorem dX7_laysRing_110 : decode cX7_laysRing 110 = .ok (.iaload, 1) := by decide +kernel
theorem dX7_laysRing_111 : decode cX7_laysRing 111 = .ok (.bipush 8, 2) := by decide +kernel
theorem dX7_laysRing_113 : decode cX7_laysRing 113 = .ok (.irem, 1) := by decide +kernel
theorem dX7_laysRing_114 : decode cX7_laysRing 114 = .ok (.istore_n 1, 1) := by decide +kernel
theorem dX7_laysRing_115 : decode cX7_laysRing 115 = .ok (.aload_n 0, 1) := by decide +kernel
theorem dX7_laysRing_116 : decode cX7_laysRing 116 = .ok (.getfield 16, 3) := by decide +kernel
theorem dX7_laysRing_119 : decode cX7_laysRing 119 = .ok (.iload_n 2, 1) := by decide +kernel
theorem dX7_laysRing_120 : decode cX7_laysRing 120 = .ok (.sipush 360, 3) := by decide +kernel
theorem dX7_laysRing_123 : decode cX7_laysRing 123 = .ok (.irem, 1) := by decide +kernel
theorem dX7_laysRing_124 : decode cX7_laysRing 124 = .ok (.iload_n 1, 1) := by decide +kernel
theorem dX7_laysRing_125 : decode cX7_laysRing 125 = .ok (.iastore, 1) := by decide +kernel
theorem dX7_laysRing_126 : decode cX7_laysRing 126 = .ok (.iinc 2 (-1), 3) := by decide +kernel
theorem dX7_laysRing_129 : decode cX7_laysRing 129 = .ok (.goto (-50), 3) := by decide +kernel
theorem dX7_laysRing_132 : decode cX7_laysRing 132 = .ok (.return_, 1) := by decide +kernel
set_option maxRecDepth 20000 in
theorem ggX7_homeAt_X7_b : GoodIn wsX7_homeAt wsX7_b := goodIn_r _ [6, 7, 11, 12, 13, 14, 15, 16, 17, 18, 19, 20, 21, 22, 23, 24, 25, 26, 27, 28, 29, 30, 31, 32, 33, 34, 35] (by decide +kernel) (by decide +kernel)
set_option maxRecDepth 20000 in
theorem gX7_homeAt_X7_b : GoodIn wsX7_homeAt (wsV RX7 88 RX7 yX7_b wsX7_b) := goodIn_app (goodIn_of _ (by decide +kernel)) ggX7_homeAt_X7_b
set_option maxRecDepth 20000 in
theorem ggX7_homeAt_X7_placeOf : GoodIn wsX7_homeAt wsX7_placeOf := goodIn_r _ [10] (by decide +kernel) (by decide +kernel)
set_option maxRecDepth 20000 in
theorem gX7_homeAt_X7_placeOf : GoodIn wsX7_homeAt (va_wsS RX7 91 yX7_placeOf wsX7_placeOf) := goodIn_app (goodIn_of _ (by decide +kernel)) ggX7_homeAt_X7_placeOf
theorem dX7_homeAt_0 : decode cX7_homeAt 0 = .ok (.aload_n 0, 1) := by decide +kernel
theorem dX7_homeAt_1 : decode cX7_homeAt 1 = .ok (.getfield 16, 3) := by decide +kernel
theorem dX7_homeAt_4 : decode cX7_homeAt 4 = .ok (.aload_n 0, 1) := by decide +kernel
theorem dX7_homeAt_5 : decode cX7_homeAt 5 = .ok (.iload_n 1, 1) := by decide +kernel
theorem dX7_homeAt_6 : decode cX7_homeAt 6 = .ok (.iconst 0, 1) := by decide +kernel
theorem dX7_homeAt_7 : decode cX7_homeAt 7 = .ok (.invokevirtual 88, 3) := by decide +kernel
theorem dX7_homeAt_10 : decode cX7_homeAt 10 = .ok (.invokestatic 91, 3) := by decide +kernel
theorem dX7_homeAt_13 : decode cX7_homeAt 13 = .ok (.iaload, 1) := by decide +kernel
theorem dX7_homeAt_14 : decode cX7_homeAt 14 = .ok (.ireturn, 1) := by decide +kernel
set_option maxRecDepth 20000 in
theorem ggX7_looksAtHomes_X7_laysRing : GoodIn wsX7_looksAtHomes wsX7_laysRing := goodIn_r _ [7, 8, 1, 9, 10, 11, 12, 6, 13, 14, 15, 16, 17, 18, 19, 20, 21, 22, 23, 24, 36, 37, 38, 39, 40, 41, 42, 43, 44, 45, 46, 47, 48, 49, 50, 51, 52, 53, 54, 55, 56, 57, 58, 59, 60] (by decide +kernel) (by decide +kernel)
set_option maxRecDepth 20000 in
theorem gX7_looksAtHomes_X7_laysRing : GoodIn wsX7_looksAtHomes (wsV RX7 94 RX7 yX7_laysRing wsX7_laysRing) := goodIn_app (goodIn_of _ (by decide +kernel)) ggX7_looksAtHomes_X7_laysRing
set_option maxRecDepth 20000 in
theorem ggX7_looksAtHomes_X7_homeAt : GoodIn wsX7_looksAtHomes wsX7_homeAt := goodIn_r _ [28, 9, 29, 30, 31, 6, 32, 1, 33, 34, 35, 36, 37, 38, 39, 40, 41, 42, 43, 44, 45, 46, 47, 48, 49, 50, 51, 52, 53, 54, 55, 56, 57, 58, 59, 60] (by decide +kernel) (by decide +kernel)
set_option maxRecDepth 20000 in
theorem gX7_looksAtHomes_X7_homeAt : GoodIn wsX7_looksAtHomes (wsV RX7 97 RX7 yX7_homeAt wsX7_homeAt) := goodIn_app (goodIn_of _ (by decide +kernel)) ggX7_looksAtHomes_X7_homeAt
theorem dX7_looksAtHomes_0 : decode cX7_looksAtHomes 0 = .ok (.aload_n 0, 1) := by decide +kernel
theorem dX7_looksAtHomes_1 : decode cX7_looksAtHomes 1 = .ok (.invokevirtual 94, 3) := by decide +kernel
theorem dX7_looksAtHomes_4 : decode cX7_looksAtHomes 4 = .ok (.iconst 0, 1) := by decide +kernel
theorem dX7_looksAtHomes_5 : decode cX7_looksAtHomes 5 = .ok (.istore_n 1, 1) := by decide +kernel
theorem dX7_looksAtHomes_6 : decode cX7_looksAtHomes 6 = .ok (.iload_n 1, 1) := by decide +kernel
theorem dX7_looksAtHomes_7 : decode cX7_looksAtHomes 7 = .ok (.aload_n 0, 1) := by decide +kernel
theorem dX7_looksAtHomes_8 : decode cX7_looksAtHomes 8 = .ok (.getfield 9, 3) := by decide +kernel
theorem dX7_looksAtHomes_11 : decode cX7_looksAtHomes 11 = .ok (.iconst 1, 1) := by decide +kernel
theorem dX7_looksAtHomes_12 : decode cX7_looksAtHomes 12 = .ok (.iaload, 1) := by decide +kernel
theorem dX7_looksAtHomes_13 : decode cX7_looksAtHomes 13 = .ok (.if_icmp .ge 20, 3) := by decide +kernel
theorem dX7_looksAtHomes_16 : decode cX7_looksAtHomes 16 = .ok (.aload_n 0, 1) := by decide +kernel
theorem dX7_looksAtHomes_17 : decode cX7_looksAtHomes 17 = .ok (.getfield 19, 3) := by decide +kernel
theorem dX7_looksAtHomes_20 : decode cX7_looksAtHomes 20 = .ok (.iload_n 1, 1) := by decide +kernel
theorem dX7_looksAtHomes_21 : decode cX7_looksAtHomes 21 = .ok (.aload_n 0, 1) := by decide +kernel
theorem dX7_looksAtHomes_22 : decode cX7_looksAtHomes 22 = .ok (.iload_n 1, 1) := by decide +kernel
theorem dX7_looksAtHomes_23 : decode cX7_looksAtHomes 23 = .ok (.invokevirtual 97, 3) := by decide +kernel
theorem dX7_looksAtHomes_26 : decode cX7_looksAtHomes 26 = .ok (.iastore, 1) := by decide +kernel
theorem dX7_looksAtHomes_27 : decode cX7_looksAtHomes 27 = .ok (.iinc 1 1, 3) := by decide +kernel
theorem dX7_looksAtHomes_30 : decode cX7_looksAtHomes 30 = .ok (.goto (-24), 3) := by decide +kernel
theorem dX7_looksAtHomes_33 : decode cX7_looksAtHomes 33 = .ok (.return_, 1) := by decide +kernel
set_option maxRecDepth 20000 in
theorem ggX7_moved_X7_laysRing : GoodIn wsX7_moved wsX7_laysRing := goodIn_r _ [7, 8, 1, 9, 10, 11, 12, 6, 13, 14, 15, 16, 17, 18, 19, 20, 21, 22, 23, 24, 36, 37, 38, 39, 40, 41, 42, 43, 44, 45, 46, 47, 48, 49, 50, 51, 52, 53, 54, 55, 56, 57, 58, 59, 60] (by decide +kernel) (by decide +kernel)
set_option maxRecDepth 20000 in
theorem gX7_moved_X7_laysRing : GoodIn wsX7_moved (wsV RX7 94 RX7 yX7_laysRing wsX7_laysRing) := goodIn_app (goodIn_of _ (by decide +kernel)) ggX7_moved_X7_laysRing
set_option maxRecDepth 20000 in
theorem ggX7_moved_X7_homeAt : GoodIn wsX7_moved wsX7_homeAt := goodIn_r _ [28, 9, 29, 30, 31, 6, 32, 1, 33, 34, 35, 36, 37, 38, 39, 40, 41, 42, 43, 44, 45, 46, 47, 48, 49, 50, 51, 52, 53, 54, 55, 56, 57, 58, 59, 60] (by decide +kernel) (by decide +kernel)
set_option maxRecDepth 20000 in
theorem gX7_moved_X7_homeAt : GoodIn wsX7_moved (wsV RX7 97 RX7 yX7_homeAt wsX7_homeAt) := goodIn_app (goodIn_of _ (by decide +kernel)) ggX7_moved_X7_homeAt
theorem dX7_moved_0 : decode cX7_moved 0 = .ok (.aload_n 0, 1) := by decide +kernel
theorem dX7_moved_1 : decode cX7_moved 1 = .ok (.invokevirtual 94, 3) := by decide +kernel
theorem dX7_moved_4 : decode cX7_moved 4 = .ok (.iconst 0, 1) := by decide +kernel
theorem dX7_moved_5 : decode cX7_moved 5 = .ok (.istore_n 1, 1) := by decide +kernel
theorem dX7_moved_6 : decode cX7_moved 6 = .ok (.iconst 0, 1) := by decide +kernel
theorem dX7_moved_7 : decode cX7_moved 7 = .ok (.istore_n 2, 1) := by decide +kernel
theorem dX7_moved_8 : decode cX7_moved 8 = .ok (.iload_n 2, 1) := by decide +kernel
theorem dX7_moved_9 : decode cX7_moved 9 = .ok (.aload_n 0, 1) := by decide +kernel
theorem dX7_moved_10 : decode cX7_moved 10 = .ok (.getfield 9, 3) := by decide +kernel
theorem dX7_moved_13 : decode cX7_moved 13 = .ok (.iconst 1, 1) := by decide +kernel
theorem dX7_moved_14 : decode cX7_moved 14 = .ok (.iaload, 1) := by decide +kernel
theorem dX7_moved_15 : decode cX7_moved 15 = .ok (.if_icmp .ge 31, 3) := by decide +kernel
theorem dX7_moved_18 : decode cX7_moved 18 = .ok (.iload_n 1, 1) := by decide +kernel
theorem dX7_moved_19 : decode cX7_moved 19 = .ok (.aload_n 0, 1) := by decide +kernel
theorem dX7_moved_20 : decode cX7_moved 20 = .ok (.iload_n 2, 1) := by decide +kernel
theorem dX7_moved_21 : decode cX7_moved 21 = .ok (.invokevirtual 97, 3) := by decide +kernel
theorem dX7_moved_24 : decode cX7_moved 24 = .ok (.aload_n 0, 1) := by decide +kernel
theorem dX7_moved_25 : decode cX7_moved 25 = .ok (.getfield 19, 3) := by decide +kernel
theorem dX7_moved_28 : decode cX7_moved 28 = .ok (.iload_n 2, 1) := by decide +kernel
theorem dX7_moved_29 : decode cX7_moved 29 = .ok (.iaload, 1) := by decide +kernel
theorem dX7_moved_30 : decode cX7_moved 30 = .ok (.if_icmp .ne 7, 3) := by decide +kernel
theorem dX7_moved_33 : decode cX7_moved 33 = .ok (.iconst 0, 1) := by decide +kernel
theorem dX7_moved_34 : decode cX7_moved 34 = .ok (.goto 4, 3) := by decide +kernel
theorem dX7_moved_37 : decode cX7_moved 37 = .ok (.iconst 1, 1) := by decide +kernel
theorem dX7_moved_38 : decode cX7_moved 38 = .ok (.iadd, 1) := by decide +kernel
theorem dX7_moved_39 : decode cX7_moved 39 = .ok (.istore_n 1, 1) := by decide +kernel
theorem dX7_moved_40 : decode cX7_moved 40 = .ok (.iinc 2 1, 3) := by decide +kernel
theorem dX7_moved_43 : decode cX7_moved 43 = .ok (.goto (-35), 3) := by decide +kernel
theorem dX7_moved_46 : decode cX7_moved 46 = .ok (.iload_n 1, 1) := by decide +kernel
theorem dX7_moved_47 : decode cX7_moved 47 = .ok (.ireturn, 1) := by decide +kernel
set_option maxRecDepth 20000 in
theorem ggX7_moves_X7_moved : GoodIn wsX7_moves wsX7_moved := goodIn_r _ [6, 1, 7, 8, 9, 10, 5, 11, 12, 13, 14, 15, 16, 17, 18, 19, 20, 21, 22, 23, 24, 25, 26, 27, 28, 29, 30, 31, 32, 33, 34, 35, 36, 37, 38, 39, 40, 41, 42, 43, 44, 45, 46, 47, 48, 49, 50, 51, 52, 53, 54, 55, 56, 57, 58, 59, 60, 61, 62, 63, 64] (by decide +kernel) (by decide +kernel)
set_option maxRecDepth 20000 in
theorem gX7_moves_X7_moved : GoodIn wsX7_moves (wsV RX7 100 RX7 yX7_moved wsX7_moved) := goodIn_app (goodIn_of _ (by decide +kernel)) ggX7_moves_X7_moved
theorem dX7_moves_0 : decode cX7_moves 0 = .ok (.aload_n 0, 1) := by decide +kernel
theorem dX7_moves_1 : decode cX7_moves 1 = .ok (.invokevirtual 100, 3) := by decide +kernel
theorem dX7_moves_4 : decode cX7_moves 4 = .ok (.istore_n 1, 1) := by decide +kernel
theorem dX7_moves_5 : decode cX7_moves 5 = .ok (.aload_n 0, 1) := by decide +kernel
theorem dX7_moves_6 : decode cX7_moves 6 = .ok (.getfield 9, 3) := by decide +kernel
theorem dX7_moves_9 : decode cX7_moves 9 = .ok (.iconst 3, 1) := by decide +kernel
theorem dX7_moves_10 : decode cX7_moves 10 = .ok (.dup2, 1) := by decide +kernel
theorem dX7_moves_11 : decode cX7_moves 11 = .ok (.iaload, 1) := by decide +kernel
theorem dX7_moves_12 : decode cX7_moves 12 = .ok (.iload_n 1, 1) := by decide +kernel
theorem dX7_moves_13 : decode cX7_moves 13 = .ok (.iadd, 1) := by decide +kernel
theorem dX7_moves_14 : decode cX7_moves 14 = .ok (.iastore, 1) := by decide +kernel
theorem dX7_moves_15 : decode cX7_moves 15 = .ok (.iload_n 1, 1) := by decide +kernel
theorem dX7_moves_16 : decode cX7_moves 16 = .ok (.ireturn, 1) := by decide +kernel
set_option maxRecDepth 20000 in
theorem ggX7_joins_X7_in : GoodIn wsX7_joins wsX7_in := goodIn_r _ [5] (by decide +kernel) (by decide +kernel)
set_option maxRecDepth 20000 in
theorem gX7_joins_X7_in : GoodIn wsX7_joins (va_wsS RX7 59 yX7_in wsX7_in) := goodIn_app (goodIn_of _ (by decide +kernel)) ggX7_joins_X7_in
set_option maxRecDepth 20000 in
theorem ggX7_joins_X7_refuses : GoodIn wsX7_joins wsX7_refuses := goodIn_r _ [9, 10, 11, 57, 58, 59, 60, 61, 62, 63, 64, 65, 66, 67, 68, 69, 70, 71, 72, 73, 74, 75, 76, 77, 78, 79, 80, 81] (by decide +kernel) (by decide +kernel)
set_option maxRecDepth 20000 in
theorem gX7_joins_X7_refuses : GoodIn wsX7_joins (wsV RX7 104 RX7 yX7_refuses wsX7_refuses) := goodIn_app (goodIn_of _ (by decide +kernel)) ggX7_joins_X7_refuses
set_option maxRecDepth 20000 in
theorem ggX7_joins_X7_looksAtHomes : GoodIn wsX7_joins wsX7_looksAtHomes := goodIn_r _ [15, 1, 16, 17, 18, 19, 4, 20, 21, 22, 23, 24, 25, 26, 27, 28, 29, 30, 31, 32, 33, 34, 35, 36, 37, 38, 39, 40, 41, 42, 43, 44, 45, 46, 47, 48, 57, 58, 59, 60, 61, 62, 63, 64, 65, 66, 67, 68, 69, 70, 71, 72, 73, 74, 75, 76, 77, 78, 79, 80, 81] (by decide +kernel) (by decide +kernel)
set_option maxRecDepth 20000 in
theorem gX7_joins_X7_looksAtHomes : GoodIn wsX7_joins (wsV RX7 107 RX7 yX7_looksAtHomes wsX7_looksAtHomes) := goodIn_app (goodIn_of _ (by decide +kernel)) ggX7_joins_X7_looksAtHomes
set_option maxRecDepth 20000 in
theorem ggX7_joins_X7_moves : GoodIn wsX7_joins wsX7_moves := goodIn_r _ [52, 1, 53, 54, 55, 4, 56, 16, 17, 18, 19, 20, 21, 22, 23, 24, 25, 26, 27, 28, 29, 30, 31, 32, 33, 34, 35, 36, 37, 38, 39, 40, 41, 42, 43, 44, 45, 46, 47, 48, 57, 58, 59, 60, 61, 62, 63, 64, 65, 66, 67, 68, 69, 70, 71, 72, 73, 74, 75, 76, 77, 78, 79, 80, 81] (by decide +kernel) (by decide +kernel)
set_option maxRecDepth 20000 in
theorem gX7_joins_X7_moves : GoodIn wsX7_joins (wsV RX7 110 RX7 yX7_moves wsX7_moves) := goodIn_app (goodIn_of _ (by decide +kernel)) ggX7_joins_X7_moves
theorem dX7_joins_0 : decode cX7_joins 0 = .ok (.iload_n 1, 1) := by decide +kernel
theorem dX7_joins_1 : decode cX7_joins 1 = .ok (.iconst 1, 1) := by decide +kernel
theorem dX7_joins_2 : decode cX7_joins 2 = .ok (.iconst 5, 1) := by decide +kernel
theorem dX7_joins_3 : decode cX7_joins 3 = .ok (.invokestatic 59, 3) := by decide +kernel
theorem dX7_joins_6 : decode cX7_joins 6 = .ok (.ifCond .ne 6, 3) := by decide +kernel
theorem dX7_joins_9 : decode cX7_joins 9 = .ok (.bipush (-12), 2) := by decide +kernel
theorem dX7_joins_11 : decode cX7_joins 11 = .ok (.ireturn, 1) := by decide +kernel
theorem dX7_joins_12 : decode cX7_joins 12 = .ok (.aload_n 0, 1) := by decide +kernel
theorem dX7_joins_13 : decode cX7_joins 13 = .ok (.getfield 9, 3) := by decide +kernel
theorem dX7_joins_16 : decode cX7_joins 16 = .ok (.iconst 0, 1) := by decide +kernel
theorem dX7_joins_17 : decode cX7_joins 17 = .ok (.iaload, 1) := by decide +kernel
theorem dX7_joins_18 : decode cX7_joins 18 = .ok (.istore_n 2, 1) := by decide +kernel
theorem dX7_joins_19 : decode cX7_joins 19 = .ok (.iload_n 2, 1) := by decide +kernel
theorem dX7_joins_20 : decode cX7_joins 20 = .ok (.bipush 8, 2) := by decide +kernel
theorem dX7_joins_22 : decode cX7_joins 22 = .ok (.if_icmp .ne 11, 3) := by decide +kernel
theorem dX7_joins_25 : decode cX7_joins 25 = .ok (.aload_n 0, 1) := by decide +kernel
theorem dX7_joins_26 : decode cX7_joins 26 = .ok (.iconst 1, 1) := by decide +kernel
theorem dX7_joins_27 : decode cX7_joins 27 = .ok (.bipush 8, 2) := by decide +kernel
theorem dX7_joins_29 : decode cX7_joins 29 = .ok (.invokevirtual 104, 3) := by decide +kernel
theorem dX7_joins_32 : decode cX7_joins 32 = .ok (.ireturn, 1) := by decide +kernel
theorem dX7_joins_33 : decode cX7_joins 33 = .ok (.aload_n 0, 1) := by decide +kernel
theorem dX7_joins_34 : decode cX7_joins 34 = .ok (.invokevirtual 107, 3) := by decide +kernel
theorem dX7_joins_37 : decode cX7_joins 37 = .ok (.aload_n 0, 1) := by decide +kernel
theorem dX7_joins_38 : decode cX7_joins 38 = .ok (.getfield 9, 3) := by decide +kernel
theorem dX7_joins_41 : decode cX7_joins 41 = .ok (.iconst 4, 1) := by decide +kernel
theorem dX7_joins_42 : decode cX7_joins 42 = .ok (.iconst 2, 1) := by decide +kernel
theorem dX7_joins_43 : decode cX7_joins 43 = .ok (.iload_n 2, 1) := by decide +kernel
theorem dX7_joins_44 : decode cX7_joins 44 = .ok (.imul, 1) := by decide +kernel
theorem dX7_joins_45 : decode cX7_joins 45 = .ok (.iadd, 1) := by decide +kernel
theorem dX7_joins_46 : decode cX7_joins 46 = .ok (.iconst 0, 1) := by decide +kernel
theorem dX7_joins_47 : decode cX7_joins 47 = .ok (.iadd, 1) := by decide +kernel
theorem dX7_joins_48 : decode cX7_joins 48 = .ok (.iload_n 1, 1) := by decide +kernel
theorem dX7_joins_49 : decode cX7_joins 49 = .ok (.iastore, 1) := by decide +kernel
theorem dX7_joins_50 : decode cX7_joins 50 = .ok (.aload_n 0, 1) := by decide +kernel
theorem dX7_joins_51 : decode cX7_joins 51 = .ok (.getfield 9, 3) := by decide +kernel
theorem dX7_joins_54 : decode cX7_joins 54 = .ok (.iconst 4, 1) := by decide +kernel
theorem dX7_joins_55 : decode cX7_joins 55 = .ok (.iconst 2, 1) := by decide +kernel
theorem dX7_joins_56 : decode cX7_joins 56 = .ok (.iload_n 2, 1) := by decide +kernel
theorem dX7_joins_57 : decode cX7_joins 57 = .ok (.imul, 1) := by decide +kernel
theorem dX7_joins_58 : decode cX7_joins 58 = .ok (.iadd, 1) := by decide +kernel
theorem dX7_joins_59 : decode cX7_joins 59 = .ok (.iconst 1, 1) := by decide +kernel
theorem dX7_joins_60 : decode cX7_joins 60 = .ok (.iadd, 1) := by decide +kernel
theorem dX7_joins_61 : decode cX7_joins 61 = .ok (.iconst 1, 1) := by decide +kernel
theorem dX7_joins_62 : decode cX7_joins 62 = .ok (.iastore, 1) := by decide +kernel
theorem dX7_joins_63 : decode cX7_joins 63 = .ok (.aload_n 0, 1) := by decide +kernel
theorem dX7_joins_64 : decode cX7_joins 64 = .ok (.getfield 9, 3) := by decide +kernel
theorem dX7_joins_67 : decode cX7_joins 67 = .ok (.iconst 0, 1) := by decide +kernel
theorem dX7_joins_68 : decode cX7_joins 68 = .ok (.dup2, 1) := by decide +kernel
theorem dX7_joins_69 : decode cX7_joins 69 = .ok (.iaload, 1) := by decide +kernel
theorem dX7_joins_70 : decode cX7_joins 70 = .ok (.iconst 1, 1) := by decide +kernel
theorem dX7_joins_71 : decode cX7_joins 71 = .ok (.iadd, 1) := by decide +kernel
theorem dX7_joins_72 : decode cX7_joins 72 = .ok (.iastore, 1) := by decide +kernel
theorem dX7_joins_73 : decode cX7_joins 73 = .ok (.aload_n 0, 1) := by decide +kernel
theorem dX7_joins_74 : decode cX7_joins 74 = .ok (.invokevirtual 110, 3) := by decide +kernel
theorem dX7_joins_77 : decode cX7_joins 77 = .ok (.istore_n 3, 1) := by decide +kernel
theorem dX7_joins_78 : decode cX7_joins 78 = .ok (.iload_n 2, 1) := by decide +kernel
theorem dX7_joins_79 : decode cX7_joins 79 = .ok (.ireturn, 1) := by decide +kernel
set_option maxRecDepth 20000 in
theorem ggX7_pier_X7_begins : GoodIn wsX7_pier wsX7_begins := goodIn_r _ [5, 6, 7, 8, 4, 9, 10, 74, 75, 76, 77, 78, 79, 80, 81, 82, 83, 84, 85, 86, 87, 88, 89, 90, 91, 92, 93, 94, 95, 96, 97, 98] (by decide +kernel) (by decide +kernel)
set_option maxRecDepth 20000 in
theorem gX7_pier_X7_begins : GoodIn wsX7_pier (wsV RX7 113 RX7 yX7_begins wsX7_begins) := goodIn_app (goodIn_of _ (by decide +kernel)) ggX7_pier_X7_begins
set_option maxRecDepth 20000 in
theorem ggX7_pier_X7_joins : GoodIn wsX7_pier wsX7_joins := goodIn_r _ [14, 10, 15, 16, 4, 17, 18, 19, 20, 21, 22, 23, 24, 25, 26, 27, 28, 29, 30, 31, 32, 33, 34, 35, 36, 37, 38, 39, 40, 41, 42, 43, 44, 45, 46, 47, 48, 49, 50, 51, 52, 53, 54, 55, 56, 57, 58, 59, 60, 61, 62, 63, 64, 65, 66, 67, 68, 74, 75, 76, 77, 78, 79, 80, 81, 82, 83, 84, 85, 86, 87, 88, 89, 90, 91, 92, 93, 94, 95, 96, 97, 98] (by decide +kernel) (by decide +kernel)
set_option maxRecDepth 20000 in
theorem gX7_pier_X7_joins : GoodIn wsX7_pier (wsV RX7 116 RX7 yX7_joins wsX7_joins) := goodIn_app (goodIn_of _ (by decide +kernel)) ggX7_pier_X7_joins
set_option maxRecDepth 20000 in
theorem ggX7_pier_X7_ends : GoodIn wsX7_pier wsX7_ends := goodIn_r _ [72, 73, 15, 16, 4, 17, 6, 7, 8, 9, 10, 74, 75, 76, 77, 78, 79, 80, 81, 82, 83, 84, 85, 86, 87, 88, 89, 90, 91, 92, 93, 94, 95, 96, 97, 98] (by decide +kernel) (by decide +kernel)
set_option maxRecDepth 20000 in
theorem gX7_pier_X7_ends : GoodIn wsX7_pier (wsV RX7 119 RX7 yX7_ends wsX7_ends) := goodIn_app (goodIn_of _ (by decide +kernel)) ggX7_pier_X7_ends
theorem dX7_pier_0 : decode cX7_pier 0 = .ok (.aload_n 0, 1) := by decide +kernel
theorem dX7_pier_1 : decode cX7_pier 1 = .ok (.invokevirtual 113, 3) := by decide +kernel
theorem dX7_pier_4 : decode cX7_pier 4 = .ok (.aload_n 0, 1) := by decide +kernel
theorem dX7_pier_5 : decode cX7_pier 5 = .ok (.aload_n 0, 1) := by decide +kernel
theorem dX7_pier_6 : decode cX7_pier 6 = .ok (.iload_n 1, 1) := by decide +kernel
theorem dX7_pier_7 : decode cX7_pier 7 = .ok (.invokevirtual 116, 3) := by decide +kernel
theorem dX7_pier_10 : decode cX7_pier 10 = .ok (.invokevirtual 119, 3) := by decide +kernel
theorem dX7_pier_13 : decode cX7_pier 13 = .ok (.ireturn, 1) := by decide +kernel
set_option maxRecDepth 20000 in
theorem ggX7_turns_X7_isPier : GoodIn wsX7_turns wsX7_isPier := goodIn_r _ [6, 1, 7, 8, 5, 9, 61, 62, 63, 64, 65, 66, 67, 68, 69, 70, 71, 72, 73, 74, 75, 76, 77, 78, 79, 80, 81, 82, 83, 84, 85] (by decide +kernel) (by decide +kernel)
set_option maxRecDepth 20000 in
theorem gX7_turns_X7_isPier : GoodIn wsX7_turns (wsV RX7 122 RX7 yX7_isPier wsX7_isPier) := goodIn_app (goodIn_of _ (by decide +kernel)) ggX7_turns_X7_isPier
set_option maxRecDepth 20000 in
theorem ggX7_turns_X7_p : GoodIn wsX7_turns wsX7_p := goodIn_r _ [13, 1, 61, 62, 63, 64, 65, 66, 67, 68, 69, 70, 71, 72, 73, 74, 75, 76, 77, 78, 79, 80, 81, 82, 83, 84, 85] (by decide +kernel) (by decide +kernel)
set_option maxRecDepth 20000 in
theorem gX7_turns_X7_p : GoodIn wsX7_turns (wsV RX7 73 RX7 yX7_p wsX7_p) := goodIn_app (goodIn_of _ (by decide +kernel)) ggX7_turns_X7_p
set_option maxRecDepth 20000 in
theorem ggX7_turns_X7_refuses : GoodIn wsX7_turns wsX7_refuses := goodIn_r _ [17, 18, 19, 61, 62, 63, 64, 65, 66, 67, 68, 69, 70, 71, 72, 73, 74, 75, 76, 77, 78, 79, 80, 81, 82, 83, 84, 85] (by decide +kernel) (by decide +kernel)
set_option maxRecDepth 20000 in
theorem gX7_turns_X7_refuses : GoodIn wsX7_turns (wsV RX7 104 RX7 yX7_refuses wsX7_refuses) := goodIn_app (goodIn_of _ (by decide +kernel)) ggX7_turns_X7_refuses
set_option maxRecDepth 20000 in
theorem ggX7_turns_X7_looksAtHomes : GoodIn wsX7_turns wsX7_looksAtHomes := goodIn_r _ [23, 1, 24, 25, 26, 27, 5, 28, 29, 30, 31, 32, 33, 34, 35, 36, 37, 38, 10, 11, 12, 13, 39, 40, 41, 42, 43, 44, 45, 46, 47, 48, 49, 50, 51, 52, 61, 62, 63, 64, 65, 66, 67, 68, 69, 70, 71, 72, 73, 74, 75, 76, 77, 78, 79, 80, 81, 82, 83, 84, 85] (by decide +kernel) (by decide +kernel)
set_option maxRecDepth 20000 in
theorem gX7_turns_X7_looksAtHomes : GoodIn wsX7_turns (wsV RX7 107 RX7 yX7_looksAtHomes wsX7_looksAtHomes) := goodIn_app (goodIn_of _ (by decide +kernel)) ggX7_turns_X7_looksAtHomes
set_option maxRecDepth 20000 in
theorem ggX7_turns_X7_moves : GoodIn wsX7_turns wsX7_moves := goodIn_r _ [56, 1, 57, 58, 59, 5, 60, 24, 25, 26, 27, 28, 29, 30, 31, 32, 33, 34, 35, 36, 37, 38, 10, 11, 12, 13, 39, 40, 41, 42, 43, 44, 45, 46, 47, 48, 49, 50, 51, 52, 61, 62, 63, 64, 65, 66, 67, 68, 69, 70, 71, 72, 73, 74, 75, 76, 77, 78, 79, 80, 81, 82, 83, 84, 85] (by decide +kernel) (by decide +kernel)
set_option maxRecDepth 20000 in
theorem gX7_turns_X7_moves : GoodIn wsX7_turns (wsV RX7 110 RX7 yX7_moves wsX7_moves) := goodIn_app (goodIn_of _ (by decide +kernel)) ggX7_turns_X7_moves
theorem dX7_turns_0 : decode cX7_turns 0 = .ok (.aload_n 0, 1) := by decide +kernel
theorem dX7_turns_1 : decode cX7_turns 1 = .ok (.iload_n 1, 1) := by decide +kernel
theorem dX7_turns_2 : decode cX7_turns 2 = .ok (.invokevirtual 122, 3) := by decide +kernel
theorem dX7_turns_5 : decode cX7_turns 5 = .ok (.ifCond .ne 6, 3) := by decide +kernel
theorem dX7_turns_8 : decode cX7_turns 8 = .ok (.bipush (-11), 2) := by decide +kernel
theorem dX7_turns_10 : decode cX7_turns 10 = .ok (.ireturn, 1) := by decide +kernel
theorem dX7_turns_11 : decode cX7_turns 11 = .ok (.aload_n 0, 1) := by decide +kernel
theorem dX7_turns_12 : decode cX7_turns 12 = .ok (.iload_n 1, 1) := by decide +kernel
theorem dX7_turns_13 : decode cX7_turns 13 = .ok (.iconst 1, 1) := by decide +kernel
theorem dX7_turns_14 : decode cX7_turns 14 = .ok (.invokevirtual 73, 3) := by decide +kernel
theorem dX7_turns_17 : decode cX7_turns 17 = .ok (.iload_n 2, 1) := by decide +kernel
theorem dX7_turns_18 : decode cX7_turns 18 = .ok (.if_icmp .ne 10, 3) := by decide +kernel
theorem dX7_turns_21 : decode cX7_turns 21 = .ok (.aload_n 0, 1) := by decide +kernel
theorem dX7_turns_22 : decode cX7_turns 22 = .ok (.iconst 3, 1) := by decide +kernel
theorem dX7_turns_23 : decode cX7_turns 23 = .ok (.iload_n 1, 1) := by decide +kernel
theorem dX7_turns_24 : decode cX7_turns 24 = .ok (.invokevirtual 104, 3) := by decide +kernel
theorem dX7_turns_27 : decode cX7_turns 27 = .ok (.ireturn, 1) := by decide +kernel
theorem dX7_turns_28 : decode cX7_turns 28 = .ok (.aload_n 0, 1) := by decide +kernel
theorem dX7_turns_29 : decode cX7_turns 29 = .ok (.invokevirtual 107, 3) := by decide +kernel
theorem dX7_turns_32 : decode cX7_turns 32 = .ok (.aload_n 0, 1) := by decide +kernel
theorem dX7_turns_33 : decode cX7_turns 33 = .ok (.getfield 9, 3) := by decide +kernel
theorem dX7_turns_36 : decode cX7_turns 36 = .ok (.iconst 4, 1) := by decide +kernel
theorem dX7_turns_37 : decode cX7_turns 37 = .ok (.iconst 2, 1) := by decide +kernel
theorem dX7_turns_38 : decode cX7_turns 38 = .ok (.iload_n 1, 1) := by decide +kernel
theorem dX7_turns_39 : decode cX7_turns 39 = .ok (.imul, 1) := by decide +kernel
theorem dX7_turns_40 : decode cX7_turns 40 = .ok (.iadd, 1) := by decide +kernel
theorem dX7_turns_41 : decode cX7_turns 41 = .ok (.iconst 1, 1) := by decide +kernel
theorem dX7_turns_42 : decode cX7_turns 42 = .ok (.iadd, 1) := by decide +kernel
theorem dX7_turns_43 : decode cX7_turns 43 = .ok (.iload_n 2, 1) := by decide +kernel
theorem dX7_turns_44 : decode cX7_turns 44 = .ok (.iastore, 1) := by decide +kernel
theorem dX7_turns_45 : decode cX7_turns 45 = .ok (.aload_n 0, 1) := by decide +kernel
theorem dX7_turns_46 : decode cX7_turns 46 = .ok (.invokevirtual 110, 3) := by decide +kernel
theorem dX7_turns_49 : decode cX7_turns 49 = .ok (.ireturn, 1) := by decide +kernel
set_option maxRecDepth 20000 in
theorem ggX7_close_X7_begins : GoodIn wsX7_close wsX7_begins := goodIn_r _ [5, 6, 7, 8, 4, 9, 10, 78, 79, 80, 81, 82, 83, 84, 85, 86, 87, 88, 89, 90, 91, 92, 93, 94, 95, 96, 97, 98, 99, 100, 101, 102] (by decide +kernel) (by decide +kernel)
set_option maxRecDepth 20000 in
theorem gX7_close_X7_begins : GoodIn wsX7_close (wsV RX7 113 RX7 yX7_begins wsX7_begins) := goodIn_app (goodIn_of _ (by decide +kernel)) ggX7_close_X7_begins
set_option maxRecDepth 20000 in
theorem ggX7_close_X7_turns : GoodIn wsX7_close wsX7_turns := goodIn_r _ [14, 10, 15, 16, 17, 4, 18, 19, 20, 21, 22, 23, 24, 25, 26, 27, 28, 29, 30, 31, 32, 33, 34, 35, 36, 37, 38, 39, 40, 41, 42, 43, 44, 45, 46, 47, 48, 49, 50, 51, 52, 53, 54, 55, 56, 57, 58, 59, 60, 61, 62, 63, 64, 65, 66, 67, 68, 69, 70, 71, 72, 78, 79, 80, 81, 82, 83, 84, 85, 86, 87, 88, 89, 90, 91, 92, 93, 94, 95, 96, 97, 98, 99, 100, 101, 102] (by decide +kernel) (by decide +kernel)
set_option maxRecDepth 20000 in
theorem gX7_close_X7_turns : GoodIn wsX7_close (wsV RX7 125 RX7 yX7_turns wsX7_turns) := goodIn_app (goodIn_of _ (by decide +kernel)) ggX7_close_X7_turns
set_option maxRecDepth 20000 in
theorem ggX7_close_X7_ends : GoodIn wsX7_close wsX7_ends := goodIn_r _ [76, 77, 19, 20, 4, 21, 6, 7, 8, 9, 10, 78, 79, 80, 81, 82, 83, 84, 85, 86, 87, 88, 89, 90, 91, 92, 93, 94, 95, 96, 97, 98, 99, 100, 101, 102] (by decide +kernel) (by decide +kernel)
set_option maxRecDepth 20000 in
theorem gX7_close_X7_ends : GoodIn wsX7_close (wsV RX7 119 RX7 yX7_ends wsX7_ends) := goodIn_app (goodIn_of _ (by decide +kernel)) ggX7_close_X7_ends
theorem dX7_close_0 : decode cX7_close 0 = .ok (.aload_n 0, 1) := by decide +kernel
theorem dX7_close_1 : decode cX7_close 1 = .ok (.invokevirtual 113, 3) := by decide +kernel
theorem dX7_close_4 : decode cX7_close 4 = .ok (.aload_n 0, 1) := by decide +kernel
theorem dX7_close_5 : decode cX7_close 5 = .ok (.aload_n 0, 1) := by decide +kernel
theorem dX7_close_6 : decode cX7_close 6 = .ok (.iload_n 1, 1) := by decide +kernel
theorem dX7_close_7 : decode cX7_close 7 = .ok (.iconst 0, 1) := by decide +kernel
theorem dX7_close_8 : decode cX7_close 8 = .ok (.invokevirtual 125, 3) := by decide +kernel
theorem dX7_close_11 : decode cX7_close 11 = .ok (.invokevirtual 119, 3) := by decide +kernel
theorem dX7_close_14 : decode cX7_close 14 = .ok (.ireturn, 1) := by decide +kernel
set_option maxRecDepth 20000 in
theorem ggX7_open_X7_begins : GoodIn wsX7_open wsX7_begins := goodIn_r _ [5, 6, 7, 8, 4, 9, 10, 78, 79, 80, 81, 82, 83, 84, 85, 86, 87, 88, 89, 90, 91, 92, 93, 94, 95, 96, 97, 98, 99, 100, 101, 102] (by decide +kernel) (by decide +kernel)
set_option maxRecDepth 20000 in
theorem gX7_open_X7_begins : GoodIn wsX7_open (wsV RX7 113 RX7 yX7_begins wsX7_begins) := goodIn_app (goodIn_of _ (by decide +kernel)) ggX7_open_X7_begins
set_option maxRecDepth 20000 in
theorem ggX7_open_X7_turns : GoodIn wsX7_open wsX7_turns := goodIn_r _ [14, 10, 15, 16, 17, 4, 18, 19, 20, 21, 22, 23, 24, 25, 26, 27, 28, 29, 30, 31, 32, 33, 34, 35, 36, 37, 38, 39, 40, 41, 42, 43, 44, 45, 46, 47, 48, 49, 50, 51, 52, 53, 54, 55, 56, 57, 58, 59, 60, 61, 62, 63, 64, 65, 66, 67, 68, 69, 70, 71, 72, 78, 79, 80, 81, 82, 83, 84, 85, 86, 87, 88, 89, 90, 91, 92, 93, 94, 95, 96, 97, 98, 99, 100, 101, 102] (by decide +kernel) (by decide +kernel)
set_option maxRecDepth 20000 in
theorem gX7_open_X7_turns : GoodIn wsX7_open (wsV RX7 125 RX7 yX7_turns wsX7_turns) := goodIn_app (goodIn_of _ (by decide +kernel)) ggX7_open_X7_turns
set_option maxRecDepth 20000 in
theorem ggX7_open_X7_ends : GoodIn wsX7_open wsX7_ends := goodIn_r _ [76, 77, 19, 20, 4, 21, 6, 7, 8, 9, 10, 78, 79, 80, 81, 82, 83, 84, 85, 86, 87, 88, 89, 90, 91, 92, 93, 94, 95, 96, 97, 98, 99, 100, 101, 102] (by decide +kernel) (by decide +kernel)
set_option maxRecDepth 20000 in
theorem gX7_open_X7_ends : GoodIn wsX7_open (wsV RX7 119 RX7 yX7_ends wsX7_ends) := goodIn_app (goodIn_of _ (by decide +kernel)) ggX7_open_X7_ends
theorem dX7_open_0 : decode cX7_open 0 = .ok (.aload_n 0, 1) := by decide +kernel
theorem dX7_open_1 : decode cX7_open 1 = .ok (.invokevirtual 113, 3) := by decide +kernel
theorem dX7_open_4 : decode cX7_open 4 = .ok (.aload_n 0, 1) := by decide +kernel
theorem dX7_open_5 : decode cX7_open 5 = .ok (.aload_n 0, 1) := by decide +kernel
theorem dX7_open_6 : decode cX7_open 6 = .ok (.iload_n 1, 1) := by decide +kernel
theorem dX7_open_7 : decode cX7_open 7 = .ok (.iconst 1, 1) := by decide +kernel
theorem dX7_open_8 : decode cX7_open 8 = .ok (.invokevirtual 125, 3) := by decide +kernel
theorem dX7_open_11 : decode cX7_open 11 = .ok (.invokevirtual 119, 3) := by decide +kernel
theorem dX7_open_14 : decode cX7_open 14 = .ok (.ireturn, 1) := by decide +kernel
set_option maxRecDepth 20000 in
theorem ggX7_weighs_X7_isPier : GoodIn wsX7_weighs wsX7_isPier := goodIn_r _ [6, 1, 7, 8, 5, 9, 61, 62, 63, 64, 65, 66, 67, 68, 69, 70, 71, 72, 73, 74, 75, 76, 77, 78, 79, 80, 81, 82, 83, 84, 85] (by decide +kernel) (by decide +kernel)
set_option maxRecDepth 20000 in
theorem gX7_weighs_X7_isPier : GoodIn wsX7_weighs (wsV RX7 122 RX7 yX7_isPier wsX7_isPier) := goodIn_app (goodIn_of _ (by decide +kernel)) ggX7_weighs_X7_isPier
set_option maxRecDepth 20000 in
theorem ggX7_weighs_X7_in : GoodIn wsX7_weighs wsX7_in := goodIn_r _ [9] (by decide +kernel) (by decide +kernel)
set_option maxRecDepth 20000 in
theorem gX7_weighs_X7_in : GoodIn wsX7_weighs (va_wsS RX7 59 yX7_in wsX7_in) := goodIn_app (goodIn_of _ (by decide +kernel)) ggX7_weighs_X7_in
set_option maxRecDepth 20000 in
theorem ggX7_weighs_X7_p : GoodIn wsX7_weighs wsX7_p := goodIn_r _ [13, 1, 61, 62, 63, 64, 65, 66, 67, 68, 69, 70, 71, 72, 73, 74, 75, 76, 77, 78, 79, 80, 81, 82, 83, 84, 85] (by decide +kernel) (by decide +kernel)
set_option maxRecDepth 20000 in
theorem gX7_weighs_X7_p : GoodIn wsX7_weighs (wsV RX7 73 RX7 yX7_p wsX7_p) := goodIn_app (goodIn_of _ (by decide +kernel)) ggX7_weighs_X7_p
set_option maxRecDepth 20000 in
theorem ggX7_weighs_X7_refuses : GoodIn wsX7_weighs wsX7_refuses := goodIn_r _ [17, 18, 19, 61, 62, 63, 64, 65, 66, 67, 68, 69, 70, 71, 72, 73, 74, 75, 76, 77, 78, 79, 80, 81, 82, 83, 84, 85] (by decide +kernel) (by decide +kernel)
set_option maxRecDepth 20000 in
theorem gX7_weighs_X7_refuses : GoodIn wsX7_weighs (wsV RX7 104 RX7 yX7_refuses wsX7_refuses) := goodIn_app (goodIn_of _ (by decide +kernel)) ggX7_weighs_X7_refuses
set_option maxRecDepth 20000 in
theorem ggX7_weighs_X7_looksAtHomes : GoodIn wsX7_weighs wsX7_looksAtHomes := goodIn_r _ [23, 1, 24, 25, 26, 27, 5, 28, 29, 30, 31, 32, 33, 34, 35, 36, 37, 38, 10, 11, 12, 13, 39, 40, 41, 42, 43, 44, 45, 46, 47, 48, 49, 50, 51, 52, 61, 62, 63, 64, 65, 66, 67, 68, 69, 70, 71, 72, 73, 74, 75, 76, 77, 78, 79, 80, 81, 82, 83, 84, 85] (by decide +kernel) (by decide +kernel)
set_option maxRecDepth 20000 in
theorem gX7_weighs_X7_looksAtHomes : GoodIn wsX7_weighs (wsV RX7 107 RX7 yX7_looksAtHomes wsX7_looksAtHomes) := goodIn_app (goodIn_of _ (by decide +kernel)) ggX7_weighs_X7_looksAtHomes
set_option maxRecDepth 20000 in
theorem ggX7_weighs_X7_moves : GoodIn wsX7_weighs wsX7_moves := goodIn_r _ [56, 1, 57, 58, 59, 5, 60, 24, 25, 26, 27, 28, 29, 30, 31, 32, 33, 34, 35, 36, 37, 38, 10, 11, 12, 13, 39, 40, 41, 42, 43, 44, 45, 46, 47, 48, 49, 50, 51, 52, 61, 62, 63, 64, 65, 66, 67, 68, 69, 70, 71, 72, 73, 74, 75, 76, 77, 78, 79, 80, 81, 82, 83, 84, 85] (by decide +kernel) (by decide +kernel)
set_option maxRecDepth 20000 in
theorem gX7_weighs_X7_moves : GoodIn wsX7_weighs (wsV RX7 110 RX7 yX7_moves wsX7_moves) := goodIn_app (goodIn_of _ (by decide +kernel)) ggX7_weighs_X7_moves
theorem dX7_weighs_0 : decode cX7_weighs 0 = .ok (.aload_n 0, 1) := by decide +kernel
theorem dX7_weighs_1 : decode cX7_weighs 1 = .ok (.iload_n 1, 1) := by decide +kernel
theorem dX7_weighs_2 : decode cX7_weighs 2 = .ok (.invokevirtual 122, 3) := by decide +kernel
theorem dX7_weighs_5 : decode cX7_weighs 5 = .ok (.ifCond .ne 6, 3) := by decide +kernel
theorem dX7_weighs_8 : decode cX7_weighs 8 = .ok (.bipush (-11), 2) := by decide +kernel
theorem dX7_weighs_10 : decode cX7_weighs 10 = .ok (.ireturn, 1) := by decide +kernel
theorem dX7_weighs_11 : decode cX7_weighs 11 = .ok (.iload_n 2, 1) := by decide +kernel
theorem dX7_weighs_12 : decode cX7_weighs 12 = .ok (.iconst 1, 1) := by decide +kernel
theorem dX7_weighs_13 : decode cX7_weighs 13 = .ok (.iconst 5, 1) := by decide +kernel
theorem dX7_weighs_14 : decode cX7_weighs 14 = .ok (.invokestatic 59, 3) := by decide +kernel
theorem dX7_weighs_17 : decode cX7_weighs 17 = .ok (.ifCond .ne 6, 3) := by decide +kernel
theorem dX7_weighs_20 : decode cX7_weighs 20 = .ok (.bipush (-12), 2) := by decide +kernel
theorem dX7_weighs_22 : decode cX7_weighs 22 = .ok (.ireturn, 1) := by decide +kernel
theorem dX7_weighs_23 : decode cX7_weighs 23 = .ok (.aload_n 0, 1) := by decide +kernel
theorem dX7_weighs_24 : decode cX7_weighs 24 = .ok (.iload_n 1, 1) := by decide +kernel
theorem dX7_weighs_25 : decode cX7_weighs 25 = .ok (.iconst 0, 1) := by decide +kernel
theorem dX7_weighs_26 : decode cX7_weighs 26 = .ok (.invokevirtual 73, 3) := by decide +kernel
theorem dX7_weighs_29 : decode cX7_weighs 29 = .ok (.iload_n 2, 1) := by decide +kernel
theorem dX7_weighs_30 : decode cX7_weighs 30 = .ok (.if_icmp .ne 10, 3) := by decide +kernel
theorem dX7_weighs_33 : decode cX7_weighs 33 = .ok (.aload_n 0, 1) := by decide +kernel
theorem dX7_weighs_34 : decode cX7_weighs 34 = .ok (.iconst 3, 1) := by decide +kernel
theorem dX7_weighs_35 : decode cX7_weighs 35 = .ok (.iload_n 2, 1) := by decide +kernel
theorem dX7_weighs_36 : decode cX7_weighs 36 = .ok (.invokevirtual 104, 3) := by decide +kernel
theorem dX7_weighs_39 : decode cX7_weighs 39 = .ok (.ireturn, 1) := by decide +kernel
theorem dX7_weighs_40 : decode cX7_weighs 40 = .ok (.aload_n 0, 1) := by decide +kernel
theorem dX7_weighs_41 : decode cX7_weighs 41 = .ok (.invokevirtual 107, 3) := by decide +kernel
theorem dX7_weighs_44 : decode cX7_weighs 44 = .ok (.aload_n 0, 1) := by decide +kernel
theorem dX7_weighs_45 : decode cX7_weighs 45 = .ok (.getfield 9, 3) := by decide +kernel
theorem dX7_weighs_48 : decode cX7_weighs 48 = .ok (.iconst 4, 1) := by decide +kernel
theorem dX7_weighs_49 : decode cX7_weighs 49 = .ok (.iconst 2, 1) := by decide +kernel
theorem dX7_weighs_50 : decode cX7_weighs 50 = .ok (.iload_n 1, 1) := by decide +kernel
theorem dX7_weighs_51 : decode cX7_weighs 51 = .ok (.imul, 1) := by decide +kernel
theorem dX7_weighs_52 : decode cX7_weighs 52 = .ok (.iadd, 1) := by decide +kernel
theorem dX7_weighs_53 : decode cX7_weighs 53 = .ok (.iconst 0, 1) := by decide +kernel
theorem dX7_weighs_54 : decode cX7_weighs 54 = .ok (.iadd, 1) := by decide +kernel
theorem dX7_weighs_55 : decode cX7_weighs 55 = .ok (.iload_n 2, 1) := by decide +kernel
theorem dX7_weighs_56 : decode cX7_weighs 56 = .ok (.iastore, 1) := by decide +kernel
theorem dX7_weighs_57 : decode cX7_weighs 57 = .ok (.aload_n 0, 1) := by decide +kernel
theorem dX7_weighs_58 : decode cX7_weighs 58 = .ok (.invokevirtual 110, 3) := by decide +kernel
theorem dX7_weighs_61 : decode cX7_weighs 61 = .ok (.ireturn, 1) := by decide +kernel
set_option maxRecDepth 20000 in
theorem ggX7_weigh_X7_begins : GoodIn wsX7_weigh wsX7_begins := goodIn_r _ [5, 6, 7, 8, 4, 9, 10, 78, 79, 80, 81, 82, 83, 84, 85, 86, 87, 88, 89, 90, 91, 92, 93, 94, 95, 96, 97, 98, 99, 100, 101, 102] (by decide +kernel) (by decide +kernel)
set_option maxRecDepth 20000 in
theorem gX7_weigh_X7_begins : GoodIn wsX7_weigh (wsV RX7 113 RX7 yX7_begins wsX7_begins) := goodIn_app (goodIn_of _ (by decide +kernel)) ggX7_weigh_X7_begins
set_option maxRecDepth 20000 in
theorem ggX7_weigh_X7_weighs : GoodIn wsX7_weigh wsX7_weighs := goodIn_r _ [14, 10, 15, 16, 17, 4, 18, 19, 20, 21, 22, 23, 24, 25, 26, 27, 28, 29, 30, 31, 32, 33, 34, 35, 36, 37, 38, 39, 40, 41, 42, 43, 44, 45, 46, 47, 48, 49, 50, 51, 52, 53, 54, 55, 56, 57, 58, 59, 60, 61, 62, 63, 64, 65, 66, 67, 68, 69, 70, 71, 72, 78, 79, 80, 81, 82, 83, 84, 85, 86, 87, 88, 89, 90, 91, 92, 93, 94, 95, 96, 97, 98, 99, 100, 101, 102] (by decide +kernel) (by decide +kernel)
set_option maxRecDepth 20000 in
theorem gX7_weigh_X7_weighs : GoodIn wsX7_weigh (wsV RX7 128 RX7 yX7_weighs wsX7_weighs) := goodIn_app (goodIn_of _ (by decide +kernel)) ggX7_weigh_X7_weighs
set_option maxRecDepth 20000 in
theorem ggX7_weigh_X7_ends : GoodIn wsX7_weigh wsX7_ends := goodIn_r _ [76, 77, 19, 20, 4, 21, 6, 7, 8, 9, 10, 78, 79, 80, 81, 82, 83, 84, 85, 86, 87, 88, 89, 90, 91, 92, 93, 94, 95, 96, 97, 98, 99, 100, 101, 102] (by decide +kernel) (by decide +kernel)
set_option maxRecDepth 20000 in
theorem gX7_weigh_X7_ends : GoodIn wsX7_weigh (wsV RX7 119 RX7 yX7_ends wsX7_ends) := goodIn_app (goodIn_of _ (by decide +kernel)) ggX7_weigh_X7_ends
theorem dX7_weigh_0 : decode cX7_weigh 0 = .ok (.aload_n 0, 1) := by decide +kernel
theorem dX7_weigh_1 : decode cX7_weigh 1 = .ok (.invokevirtual 113, 3) := by decide +kernel
theorem dX7_weigh_4 : decode cX7_weigh 4 = .ok (.aload_n 0, 1) := by decide +kernel
theorem dX7_weigh_5 : decode cX7_weigh 5 = .ok (.aload_n 0, 1) := by decide +kernel
theorem dX7_weigh_6 : decode cX7_weigh 6 = .ok (.iload_n 1, 1) := by decide +kernel
theorem dX7_weigh_7 : decode cX7_weigh 7 = .ok (.iload_n 2, 1) := by decide +kernel
theorem dX7_weigh_8 : decode cX7_weigh 8 = .ok (.invokevirtual 128, 3) := by decide +kernel
theorem dX7_weigh_11 : decode cX7_weigh 11 = .ok (.invokevirtual 119, 3) := by decide +kernel
theorem dX7_weigh_14 : decode cX7_weigh 14 = .ok (.ireturn, 1) := by decide +kernel
set_option maxRecDepth 20000 in
theorem ggX7_bears_X7_in : GoodIn wsX7_bears wsX7_in := goodIn_r _ [5] (by decide +kernel) (by decide +kernel)
set_option maxRecDepth 20000 in
theorem gX7_bears_X7_in : GoodIn wsX7_bears (va_wsS RX7 59 yX7_in wsX7_in) := goodIn_app (goodIn_of _ (by decide +kernel)) ggX7_bears_X7_in
set_option maxRecDepth 20000 in
theorem ggX7_bears_X7_refuses : GoodIn wsX7_bears wsX7_refuses := goodIn_r _ [9, 10, 11, 12, 13, 14, 15, 16, 17, 18, 19, 20, 21, 22, 23, 24, 25, 26, 27, 28, 29, 30, 31, 32, 33, 34, 35, 36] (by decide +kernel) (by decide +kernel)
set_option maxRecDepth 20000 in
theorem gX7_bears_X7_refuses : GoodIn wsX7_bears (wsV RX7 104 RX7 yX7_refuses wsX7_refuses) := goodIn_app (goodIn_of _ (by decide +kernel)) ggX7_bears_X7_refuses
theorem dX7_bears_0 : decode cX7_bears 0 = .ok (.iload_n 1, 1) := by decide +kernel
theorem dX7_bears_1 : decode cX7_bears 1 = .ok (.bipush 10, 2) := by decide +kernel
theorem dX7_bears_3 : decode cX7_bears 3 = .ok (.sipush 200, 3) := by decide +kernel
theorem dX7_bears_6 : decode cX7_bears 6 = .ok (.invokestatic 59, 3) := by decide +kernel
theorem dX7_bears_9 : decode cX7_bears 9 = .ok (.ifCond .ne 6, 3) := by decide +kernel
theorem dX7_bears_12 : decode cX7_bears 12 = .ok (.bipush (-12), 2) := by decide +kernel
theorem dX7_bears_14 : decode cX7_bears 14 = .ok (.ireturn, 1) := by decide +kernel
theorem dX7_bears_15 : decode cX7_bears 15 = .ok (.aload_n 0, 1) := by decide +kernel
theorem dX7_bears_16 : decode cX7_bears 16 = .ok (.getfield 9, 3) := by decide +kernel
theorem dX7_bears_19 : decode cX7_bears 19 = .ok (.iconst 2, 1) := by decide +kernel
theorem dX7_bears_20 : decode cX7_bears 20 = .ok (.iaload, 1) := by decide +kernel
theorem dX7_bears_21 : decode cX7_bears 21 = .ok (.istore_n 2, 1) := by decide +kernel
theorem dX7_bears_22 : decode cX7_bears 22 = .ok (.iload_n 2, 1) := by decide +kernel
theorem dX7_bears_23 : decode cX7_bears 23 = .ok (.iload_n 1, 1) := by decide +kernel
theorem dX7_bears_24 : decode cX7_bears 24 = .ok (.if_icmp .ne 10, 3) := by decide +kernel
theorem dX7_bears_27 : decode cX7_bears 27 = .ok (.aload_n 0, 1) := by decide +kernel
theorem dX7_bears_28 : decode cX7_bears 28 = .ok (.iconst 3, 1) := by decide +kernel
theorem dX7_bears_29 : decode cX7_bears 29 = .ok (.iload_n 1, 1) := by decide +kernel
theorem dX7_bears_30 : decode cX7_bears 30 = .ok (.invokevirtual 104, 3) := by decide +kernel
theorem dX7_bears_33 : decode cX7_bears 33 = .ok (.ireturn, 1) := by decide +kernel
theorem dX7_bears_34 : decode cX7_bears 34 = .ok (.aload_n 0, 1) := by decide +kernel
theorem dX7_bears_35 : decode cX7_bears 35 = .ok (.getfield 9, 3) := by decide +kernel
theorem dX7_bears_38 : decode cX7_bears 38 = .ok (.iconst 2, 1) := by decide +kernel
theorem dX7_bears_39 : decode cX7_bears 39 = .ok (.iload_n 1, 1) := by decide +kernel
theorem dX7_bears_40 : decode cX7_bears 40 = .ok (.iastore, 1) := by decide +kernel
theorem dX7_bears_41 : decode cX7_bears 41 = .ok (.iload_n 2, 1) := by decide +kernel
theorem dX7_bears_42 : decode cX7_bears 42 = .ok (.ireturn, 1) := by decide +kernel
set_option maxRecDepth 20000 in
theorem ggX7_berth_X7_begins : GoodIn wsX7_berth wsX7_begins := goodIn_r _ [5, 6, 7, 8, 4, 9, 10, 29, 30, 31, 32, 33, 34, 35, 36, 37, 38, 39, 40, 41, 42, 43, 44, 45, 46, 47, 48, 49, 50, 51, 52, 53] (by decide +kernel) (by decide +kernel)
set_option maxRecDepth 20000 in
theorem gX7_berth_X7_begins : GoodIn wsX7_berth (wsV RX7 113 RX7 yX7_begins wsX7_begins) := goodIn_app (goodIn_of _ (by decide +kernel)) ggX7_berth_X7_begins
set_option maxRecDepth 20000 in
theorem ggX7_berth_X7_bears : GoodIn wsX7_berth wsX7_bears := goodIn_r _ [14, 10, 15, 16, 4, 17, 18, 19, 20, 21, 22, 23, 29, 30, 31, 32, 33, 34, 35, 36, 37, 38, 39, 40, 41, 42, 43, 44, 45, 46, 47, 48, 49, 50, 51, 52, 53] (by decide +kernel) (by decide +kernel)
set_option maxRecDepth 20000 in
theorem gX7_berth_X7_bears : GoodIn wsX7_berth (wsV RX7 131 RX7 yX7_bears wsX7_bears) := goodIn_app (goodIn_of _ (by decide +kernel)) ggX7_berth_X7_bears
set_option maxRecDepth 20000 in
theorem ggX7_berth_X7_ends : GoodIn wsX7_berth wsX7_ends := goodIn_r _ [27, 28, 15, 16, 4, 17, 6, 7, 8, 9, 10, 29, 30, 31, 32, 33, 34, 35, 36, 37, 38, 39, 40, 41, 42, 43, 44, 45, 46, 47, 48, 49, 50, 51, 52, 53] (by decide +kernel) (by decide +kernel)
set_option maxRecDepth 20000 in
theorem gX7_berth_X7_ends : GoodIn wsX7_berth (wsV RX7 119 RX7 yX7_ends wsX7_ends) := goodIn_app (goodIn_of _ (by decide +kernel)) ggX7_berth_X7_ends
theorem dX7_berth_0 : decode cX7_berth 0 = .ok (.aload_n 0, 1) := by decide +kernel
theorem dX7_berth_1 : decode cX7_berth 1 = .ok (.invokevirtual 113, 3) := by decide +kernel
theorem dX7_berth_4 : decode cX7_berth 4 = .ok (.aload_n 0, 1) := by decide +kernel
theorem dX7_berth_5 : decode cX7_berth 5 = .ok (.aload_n 0, 1) := by decide +kernel
theorem dX7_berth_6 : decode cX7_berth 6 = .ok (.iload_n 1, 1) := by decide +kernel
theorem dX7_berth_7 : decode cX7_berth 7 = .ok (.invokevirtual 131, 3) := by decide +kernel
theorem dX7_berth_10 : decode cX7_berth 10 = .ok (.invokevirtual 119, 3) := by decide +kernel
theorem dX7_berth_13 : decode cX7_berth 13 = .ok (.ireturn, 1) := by decide +kernel
set_option maxRecDepth 20000 in
theorem ggX7_bargeWith_X7_b : GoodIn wsX7_bargeWith wsX7_b := goodIn_r _ [6, 1, 7, 8, 9, 10, 11, 12, 13, 14, 15, 16, 17, 18, 19, 20, 21, 22, 23, 24, 25, 26, 27, 28, 29, 30, 31] (by decide +kernel) (by decide +kernel)
set_option maxRecDepth 20000 in
theorem gX7_bargeWith_X7_b : GoodIn wsX7_bargeWith (wsV RX7 88 RX7 yX7_b wsX7_b) := goodIn_app (goodIn_of _ (by decide +kernel)) ggX7_bargeWith_X7_b
theorem dX7_bargeWith_0 : decode cX7_bargeWith 0 = .ok (.iconst 0, 1) := by decide +kernel
theorem dX7_bargeWith_1 : decode cX7_bargeWith 1 = .ok (.istore_n 2, 1) := by decide +kernel
theorem dX7_bargeWith_2 : decode cX7_bargeWith 2 = .ok (.iload_n 2, 1) := by decide +kernel
theorem dX7_bargeWith_3 : decode cX7_bargeWith 3 = .ok (.aload_n 0, 1) := by decide +kernel
theorem dX7_bargeWith_4 : decode cX7_bargeWith 4 = .ok (.getfield 9, 3) := by decide +kernel
theorem dX7_bargeWith_7 : decode cX7_bargeWith 7 = .ok (.iconst 1, 1) := by decide +kernel
theorem dX7_bargeWith_8 : decode cX7_bargeWith 8 = .ok (.iaload, 1) := by decide +kernel
theorem dX7_bargeWith_9 : decode cX7_bargeWith 9 = .ok (.if_icmp .ge 21, 3) := by decide +kernel
theorem dX7_bargeWith_12 : decode cX7_bargeWith 12 = .ok (.aload_n 0, 1) := by decide +kernel
theorem dX7_bargeWith_13 : decode cX7_bargeWith 13 = .ok (.iload_n 2, 1) := by decide +kernel
theorem dX7_bargeWith_14 : decode cX7_bargeWith 14 = .ok (.iconst 0, 1) := by decide +kernel
theorem dX7_bargeWith_15 : decode cX7_bargeWith 15 = .ok (.invokevirtual 88, 3) := by decide +kernel
theorem dX7_bargeWith_18 : decode cX7_bargeWith 18 = .ok (.iload_n 1, 1) := by decide +kernel
theorem dX7_bargeWith_19 : decode cX7_bargeWith 19 = .ok (.if_icmp .ne 5, 3) := by decide +kernel
theorem dX7_bargeWith_22 : decode cX7_bargeWith 22 = .ok (.iload_n 2, 1) := by decide +kernel
theorem dX7_bargeWith_23 : decode cX7_bargeWith 23 = .ok (.ireturn, 1) := by decide +kernel
theorem dX7_bargeWith_24 : decode cX7_bargeWith 24 = .ok (.iinc 2 1, 3) := by decide +kernel
theorem dX7_bargeWith_27 : decode cX7_bargeWith 27 = .ok (.goto (-25), 3) := by decide +kernel
theorem dX7_bargeWith_30 : decode cX7_bargeWith 30 = .ok (.iconst (-1), 1) := by decide +kernel
theorem dX7_bargeWith_31 : decode cX7_bargeWith 31 = .ok (.ireturn, 1) := by decide +kernel
set_option maxRecDepth 20000 in
theorem ggX7_comes_X7_in : GoodIn wsX7_comes wsX7_in := goodIn_r _ [5] (by decide +kernel) (by decide +kernel)
set_option maxRecDepth 20000 in
theorem gX7_comes_X7_in : GoodIn wsX7_comes (va_wsS RX7 59 yX7_in wsX7_in) := goodIn_app (goodIn_of _ (by decide +kernel)) ggX7_comes_X7_in
set_option maxRecDepth 20000 in
theorem ggX7_comes_X7_bargeWith : GoodIn wsX7_comes wsX7_bargeWith := goodIn_r _ [9, 1, 10, 11, 12, 4, 13, 20, 21, 22, 23, 24, 25, 26, 27, 28, 29, 30, 31, 32, 33, 34, 35, 36, 37, 38, 39, 40, 41, 42, 43, 44] (by decide +kernel) (by decide +kernel)
set_option maxRecDepth 20000 in
theorem gX7_comes_X7_bargeWith : GoodIn wsX7_comes (wsV RX7 134 RX7 yX7_bargeWith wsX7_bargeWith) := goodIn_app (goodIn_of _ (by decide +kernel)) ggX7_comes_X7_bargeWith
set_option maxRecDepth 20000 in
theorem ggX7_comes_X7_refuses : GoodIn wsX7_comes wsX7_refuses := goodIn_r _ [17, 18, 19, 20, 21, 22, 23, 24, 25, 26, 27, 28, 29, 30, 31, 32, 33, 34, 35, 36, 37, 38, 39, 40, 41, 42, 43, 44] (by decide +kernel) (by decide +kernel)
set_option maxRecDepth 20000 in
theorem gX7_comes_X7_refuses : GoodIn wsX7_comes (wsV RX7 104 RX7 yX7_refuses wsX7_refuses) := goodIn_app (goodIn_of _ (by decide +kernel)) ggX7_comes_X7_refuses
theorem dX7_comes_0 : decode cX7_comes 0 = .ok (.iload_n 1, 1) := by decide +kernel
theorem dX7_comes_1 : decode cX7_comes 1 = .ok (.iconst 0, 1) := by decide +kernel
theorem dX7_comes_2 : decode cX7_comes 2 = .ok (.sipush 9999, 3) := by decide +kernel
theorem dX7_comes_5 : decode cX7_comes 5 = .ok (.invokestatic 59, 3) := by decide +kernel
theorem dX7_comes_8 : decode cX7_comes 8 = .ok (.ifCond .eq 13, 3) := by decide +kernel
theorem dX7_comes_11 : decode cX7_comes 11 = .ok (.iload_n 2, 1) := by decide +kernel
theorem dX7_comes_12 : decode cX7_comes 12 = .ok (.iconst 1, 1) := by decide +kernel
theorem dX7_comes_13 : decode cX7_comes 13 = .ok (.bipush 99, 2) := by decide +kernel
theorem dX7_comes_15 : decode cX7_comes 15 = .ok (.invokestatic 59, 3) := by decide +kernel
theorem dX7_comes_18 : decode cX7_comes 18 = .ok (.ifCond .ne 6, 3) := by decide +kernel
theorem dX7_comes_21 : decode cX7_comes 21 = .ok (.bipush (-12), 2) := by decide +kernel
theorem dX7_comes_23 : decode cX7_comes 23 = .ok (.ireturn, 1) := by decide +kernel
theorem dX7_comes_24 : decode cX7_comes 24 = .ok (.aload_n 0, 1) := by decide +kernel
theorem dX7_comes_25 : decode cX7_comes 25 = .ok (.iload_n 1, 1) := by decide +kernel
theorem dX7_comes_26 : decode cX7_comes 26 = .ok (.invokevirtual 134, 3) := by decide +kernel
theorem dX7_comes_29 : decode cX7_comes 29 = .ok (.istore_n 3, 1) := by decide +kernel
theorem dX7_comes_30 : decode cX7_comes 30 = .ok (.aload_n 0, 1) := by decide +kernel
theorem dX7_comes_31 : decode cX7_comes 31 = .ok (.getfield 9, 3) := by decide +kernel
theorem dX7_comes_34 : decode cX7_comes 34 = .ok (.iconst 1, 1) := by decide +kernel
theorem dX7_comes_35 : decode cX7_comes 35 = .ok (.iaload, 1) := by decide +kernel
theorem dX7_comes_36 : decode cX7_comes 36 = .ok (.istore 4, 2) := by decide +kernel
theorem dX7_comes_38 : decode cX7_comes 38 = .ok (.iload_n 3, 1) := by decide +kernel
theorem dX7_comes_39 : decode cX7_comes 39 = .ok (.iconst (-1), 1) := by decide +kernel
theorem dX7_comes_40 : decode cX7_comes 40 = .ok (.if_icmp .eq 10, 3) := by decide +kernel
theorem dX7_comes_43 : decode cX7_comes 43 = .ok (.aload_n 0, 1) := by decide +kernel
theorem dX7_comes_44 : decode cX7_comes 44 = .ok (.iconst 2, 1) := by decide +kernel
theorem dX7_comes_45 : decode cX7_comes 45 = .ok (.iload_n 3, 1) := by decide +kernel
theorem dX7_comes_46 : decode cX7_comes 46 = .ok (.invokevirtual 104, 3) := by decide +kernel
theorem dX7_comes_49 : decode cX7_comes 49 = .ok (.ireturn, 1) := by decide +kernel
theorem dX7_comes_50 : decode cX7_comes 50 = .ok (.iload 4, 2) := by decide +kernel
theorem dX7_comes_52 : decode cX7_comes 52 = .ok (.bipush 24, 2) := by decide +kernel
theorem dX7_comes_54 : decode cX7_comes 54 = .ok (.if_icmp .ne 11, 3) := by decide +kernel
theorem dX7_comes_57 : decode cX7_comes 57 = .ok (.aload_n 0, 1) := by decide +kernel
