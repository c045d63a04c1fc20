theorem dL_cell_0 : decode cL_cell 0 = .ok (.iload_n 1, 1) := by decide +kernel
theorem dL_cell_1 : decode cL_cell 1 = .ok (.aload_n 0, 1) := by decide +kernel
theorem dL_cell_2 : decode cL_cell 2 = .ok (.arraylength, 1) := by decide +kernel
theorem dL_cell_3 : decode cL_cell 3 = .ok (.if_icmp .ge 9, 3) := by decide +kernel
theorem dL_cell_6 : decode cL_cell 6 = .ok (.aload_n 0, 1) := by decide +kernel
theorem dL_cell_7 : decode cL_cell 7 = .ok (.iload_n 1, 1) := by decide +kernel
theorem dL_cell_8 : decode cL_cell 8 = .ok (.iaload, 1) := by decide +kernel
theorem dL_cell_9 : decode cL_cell 9 = .ok (.goto 11, 3) := by decide +kernel
theorem dL_cell_12 : decode cL_cell 12 = .ok (.sipush 7919, 3) := by decide +kernel
theorem dL_cell_15 : decode cL_cell 15 = .ok (.iload_n 1, 1) := by decide +kernel
theorem dL_cell_16 : decode cL_cell 16 = .ok (.imul, 1) := by decide +kernel
theorem dL_cell_17 : decode cL_cell 17 = .ok (.bipush 12, 2) := by decide +kernel
theorem dL_cell_19 : decode cL_cell 19 = .ok (.iadd, 1) := by decide +kernel
theorem dL_cell_20 : decode cL_cell 20 = .ok (.ireturn, 1) := by decide +kernel
set_option maxRecDepth 20000 in
theorem ggL_some_L_cell : GoodIn wsL_some wsL_cell := goodIn_r _ [4] (by decide +kernel) (by decide +kernel)
set_option maxRecDepth 20000 in
theorem gL_some_L_cell : GoodIn wsL_some (va_wsS RL 7 yL_cell wsL_cell) := goodIn_app (goodIn_of _ (by decide +kernel)) ggL_some_L_cell
theorem dL_some_0 : decode cL_some 0 = .ok (.aload_n 0, 1) := by decide +kernel
theorem dL_some_1 : decode cL_some 1 = .ok (.iload_n 1, 1) := by decide +kernel
theorem dL_some_2 : decode cL_some 2 = .ok (.invokestatic 7, 3) := by decide +kernel
theorem dL_some_5 : decode cL_some 5 = .ok (.iconst 3, 1) := by decide +kernel
theorem dL_some_6 : decode cL_some 6 = .ok (.iushr, 1) := by decide +kernel
theorem dL_some_7 : decode cL_some 7 = .ok (.iload_n 2, 1) := by decide +kernel
theorem dL_some_8 : decode cL_some 8 = .ok (.irem, 1) := by decide +kernel
theorem dL_some_9 : decode cL_some 9 = .ok (.ireturn, 1) := by decide +kernel
set_option maxRecDepth 20000 in
theorem ggL_build_L_some : GoodIn wsL_build wsL_some := goodIn_r _ [4, 5, 6, 3, 7] (by decide +kernel) (by decide +kernel)
set_option maxRecDepth 20000 in
theorem gL_build_L_some : GoodIn wsL_build (va_wsS RL 36 yL_some wsL_some) := goodIn_app (goodIn_of _ (by decide +kernel)) ggL_build_L_some
set_option maxRecDepth 20000 in
theorem ggL_build_X6_pier : GoodIn wsL_build wsX6_pier := goodIn_r _ [12, 13, 14, 15, 16, 17, 18, 19, 20, 21, 22, 23, 24, 25, 26, 27, 28, 29, 30, 31, 32, 33, 34, 35, 36, 37, 38, 39, 40, 41, 11, 42, 43, 44, 45, 46, 47, 48, 49, 50, 51, 52, 53, 54, 55, 56, 57, 58, 59, 60, 61, 62, 63, 64, 65, 66, 67, 68, 69, 70, 71, 72, 73, 74, 75, 76, 77, 78, 79, 80, 81, 82, 83, 84, 85, 86, 87, 88, 89, 90, 91, 92, 93, 94, 95, 96, 97, 98, 99, 100, 101, 102, 103, 104, 105, 106, 107, 108, 109, 110, 111, 112, 113, 114, 115, 116, 117, 118, 119, 120, 121, 122, 123, 124, 125, 126, 127, 128, 129, 130, 131, 132, 133, 134, 135, 136, 137, 138, 139, 140, 141, 142, 143, 144, 145, 146, 147, 148, 149, 150, 151, 152, 153, 154, 155, 156, 157, 158, 159, 160, 161, 162, 163, 164, 288, 289, 290, 291, 292, 293, 294, 295, 296, 297, 298, 299, 300, 301, 302, 303, 304, 305, 306, 307, 308, 309, 310, 311, 312, 313, 314, 315, 316, 317, 318, 319, 320, 321, 322, 323, 324, 325, 326, 327, 328, 329] (by decide +kernel) (by decide +kernel)
set_option maxRecDepth 20000 in
theorem gL_build_X6_pier : GoodIn wsL_build (wsV RL 40 RX6 yX6_pier wsX6_pier) := goodIn_app (goodIn_of _ (by decide +kernel)) ggL_build_X6_pier
set_option maxRecDepth 20000 in
theorem ggL_build_X6_barge : GoodIn wsL_build wsX6_barge := goodIn_r _ [168, 13, 14, 15, 16, 17, 18, 19, 20, 21, 22, 23, 24, 25, 26, 27, 28, 29, 30, 31, 32, 33, 34, 35, 36, 37, 38, 169, 170, 171, 11, 172, 173, 59, 58, 174, 175, 176, 177, 44, 45, 46, 47, 48, 49, 178, 179, 180, 181, 116, 117, 118, 100, 119, 120, 121, 122, 123, 124, 125, 102, 126, 127, 128, 74, 75, 76, 104, 105, 106, 107, 108, 109, 110, 64, 111, 71, 112, 113, 114, 115, 67, 70, 85, 86, 129, 130, 131, 132, 103, 133, 134, 135, 136, 137, 138, 139, 140, 141, 142, 143, 144, 96, 145, 146, 147, 148, 149, 150, 151, 152, 153, 154, 155, 156, 157, 158, 159, 160, 161, 162, 163, 90, 164, 288, 289, 290, 291, 292, 293, 294, 295, 296, 297, 298, 299, 300, 301, 302, 303, 304, 305, 306, 307, 308, 309, 310, 321, 322, 323, 324, 325, 326, 327, 328, 329, 311, 312, 313, 314, 315, 316, 317, 318, 319, 320] (by decide +kernel) (by decide +kernel)
set_option maxRecDepth 20000 in
theorem gL_build_X6_barge : GoodIn wsL_build (wsV RL 43 RX6 yX6_barge wsX6_barge) := goodIn_app (goodIn_of _ (by decide +kernel)) ggL_build_X6_barge
set_option maxRecDepth 20000 in
theorem ggL_build_X6_berth : GoodIn wsL_build wsX6_berth := goodIn_r _ [185, 13, 14, 15, 16, 17, 18, 19, 20, 21, 22, 23, 24, 25, 26, 27, 28, 29, 30, 31, 32, 33, 34, 35, 36, 37, 38, 186, 187, 188, 11, 189, 190, 59, 58, 44, 45, 46, 47, 48, 49, 116, 117, 118, 100, 119, 120, 121, 122, 123, 124, 125, 102, 126, 127, 128, 74, 75, 76, 104, 105, 106, 107, 108, 109, 110, 64, 111, 71, 112, 113, 114, 115, 67, 70, 85, 86, 129, 130, 131, 132, 103, 133, 134, 135, 136, 137, 138, 139, 140, 141, 142, 143, 144, 96, 145, 146, 147, 148, 149, 150, 151, 152, 153, 154, 155, 156, 157, 158, 159, 160, 161, 162, 163, 90, 164, 288, 289, 290, 291, 292, 293, 294, 295, 296, 297, 298, 299, 300, 301, 302, 303, 304, 305, 306, 307, 308, 309, 310, 321, 322, 323, 324, 325, 326, 327, 328, 329, 311, 312, 313, 314, 315, 316, 317, 318, 319, 320] (by decide +kernel) (by decide +kernel)
set_option maxRecDepth 20000 in
theorem gL_build_X6_berth : GoodIn wsL_build (wsV RL 47 RX6 yX6_berth wsX6_berth) := goodIn_app (goodIn_of _ (by decide +kernel)) ggL_build_X6_berth
set_option maxRecDepth 20000 in
theorem ggL_build_L_acts : GoodIn wsL_build wsL_acts := goodIn_r _ [193, 194, 89, 90, 91, 195, 196, 197, 11, 198, 14, 43, 58, 199, 173, 59, 200, 201, 60, 190, 202, 203, 13, 204, 205, 206, 207, 25, 208, 35, 32, 209, 210, 211, 212, 36, 34, 213, 214, 215, 100, 216, 123, 217, 218, 219, 220, 221, 146, 147, 148, 27, 37, 222, 223, 224, 225, 226, 227, 228, 229, 230, 231, 232, 233, 234, 235, 1, 2, 3, 4, 5, 6, 7, 8, 9, 10, 12, 15, 16, 17, 18, 19, 20, 21, 22, 23, 24, 26, 28, 29, 30, 31, 33, 38, 39, 40, 41, 42, 44, 45, 46, 47, 48, 49, 50, 51, 52, 53, 54, 55, 56, 57, 61, 62, 63, 64, 65, 66, 67, 68, 69, 70, 71, 72, 73, 74, 75, 76, 77, 78, 79, 80, 81, 82, 83, 84, 85, 86, 87, 88, 92, 93, 94, 95, 96, 97, 98, 99, 101, 102, 103, 104, 105, 106, 107, 108, 109, 110, 111, 112, 113, 114, 115, 116, 117, 118, 119, 120, 121, 122, 124, 125, 126, 127, 128, 129, 130, 131, 132, 133, 134, 135, 136, 137, 138, 139, 140, 141, 142, 143, 144, 145, 149, 150, 151, 152, 153, 154, 155, 156, 157, 158, 159, 160, 161, 162, 163, 164, 236, 237, 238, 239, 240, 241, 242, 243, 244, 245, 246, 247, 248, 249, 250, 251, 252, 253, 254, 255, 256, 257, 258, 259, 260, 261, 165, 166, 167, 168, 169, 170, 171, 172, 174, 175, 176, 177, 178, 179, 180, 181, 262, 263, 264, 265, 266, 267, 268, 269, 270, 271, 272, 273, 274, 275, 276, 277, 278, 279, 280, 281, 282, 283, 284, 285, 286, 287, 182, 183, 184, 185, 186, 187, 188, 189, 288, 289, 290, 291, 292, 293, 294, 295, 296, 297, 298, 299, 303, 304, 305, 306, 307, 308, 309, 310, 311, 312, 313, 314, 315, 316, 317, 318, 319, 320, 321, 322, 323, 324, 325, 326, 327, 328, 329, 330, 331, 332, 333, 334, 335, 300, 301, 302] (by decide +kernel) (by decide +kernel)
set_option maxRecDepth 20000 in
theorem gL_build_L_acts : GoodIn wsL_build (va_wsS RL 50 yL_acts wsL_acts) := goodIn_app (goodIn_of _ (by decide +kernel)) ggL_build_L_acts
theorem dL_build_0 : decode cL_build 0 = .ok (.iconst 0, 1) := by decide +kernel
theorem dL_build_1 : decode cL_build 1 = .ok (.istore_n 3, 1) := by decide +kernel
theorem dL_build_2 : decode cL_build 2 = .ok (.iload_n 3, 1) := by decide +kernel
theorem dL_build_3 : decode cL_build 3 = .ok (.iconst 2, 1) := by decide +kernel
theorem dL_build_4 : decode cL_build 4 = .ok (.aload_n 1, 1) := by decide +kernel
theorem dL_build_5 : decode cL_build 5 = .ok (.iconst 0, 1) := by decide +kernel
theorem dL_build_6 : decode cL_build 6 = .ok (.iconst 4, 1) := by decide +kernel
theorem dL_build_7 : decode cL_build 7 = .ok (.invokestatic 36, 3) := by decide +kernel
theorem dL_build_10 : decode cL_build 10 = .ok (.iadd, 1) := by decide +kernel
theorem dL_build_11 : decode cL_build 11 = .ok (.if_icmp .ge 24, 3) := by decide +kernel
theorem dL_build_14 : decode cL_build 14 = .ok (.aload_n 0, 1) := by decide +kernel
theorem dL_build_15 : decode cL_build 15 = .ok (.iconst 1, 1) := by decide +kernel
theorem dL_build_16 : decode cL_build 16 = .ok (.aload_n 1, 1) := by decide +kernel
theorem dL_build_17 : decode cL_build 17 = .ok (.iconst 1, 1) := by decide +kernel
theorem dL_build_18 : decode cL_build 18 = .ok (.iload_n 3, 1) := by decide +kernel
theorem dL_build_19 : decode cL_build 19 = .ok (.iadd, 1) := by decide +kernel
theorem dL_build_20 : decode cL_build 20 = .ok (.iconst 3, 1) := by decide +kernel
theorem dL_build_21 : decode cL_build 21 = .ok (.invokestatic 36, 3) := by decide +kernel
theorem dL_build_24 : decode cL_build 24 = .ok (.iadd, 1) := by decide +kernel
theorem dL_build_25 : decode cL_build 25 = .ok (.invokevirtual 40, 3) := by decide +kernel
theorem dL_build_28 : decode cL_build 28 = .ok (.istore_n 2, 1) := by decide +kernel
theorem dL_build_29 : decode cL_build 29 = .ok (.iinc 3 1, 3) := by decide +kernel
theorem dL_build_32 : decode cL_build 32 = .ok (.goto (-30), 3) := by decide +kernel
theorem dL_build_35 : decode cL_build 35 = .ok (.iconst 0, 1) := by decide +kernel
theorem dL_build_36 : decode cL_build 36 = .ok (.istore_n 3, 1) := by decide +kernel
theorem dL_build_37 : decode cL_build 37 = .ok (.iload_n 3, 1) := by decide +kernel
theorem dL_build_38 : decode cL_build 38 = .ok (.bipush 6, 2) := by decide +kernel
theorem dL_build_40 : decode cL_build 40 = .ok (.aload_n 1, 1) := by decide +kernel
theorem dL_build_41 : decode cL_build 41 = .ok (.bipush 7, 2) := by decide +kernel
theorem dL_build_43 : decode cL_build 43 = .ok (.bipush 8, 2) := by decide +kernel
theorem dL_build_45 : decode cL_build 45 = .ok (.invokestatic 36, 3) := by decide +kernel
theorem dL_build_48 : decode cL_build 48 = .ok (.iadd, 1) := by decide +kernel
theorem dL_build_49 : decode cL_build 49 = .ok (.if_icmp .ge 37, 3) := by decide +kernel
theorem dL_build_52 : decode cL_build 52 = .ok (.aload_n 0, 1) := by decide +kernel
theorem dL_build_53 : decode cL_build 53 = .ok (.aload_n 1, 1) := by decide +kernel
theorem dL_build_54 : decode cL_build 54 = .ok (.bipush 8, 2) := by decide +kernel
theorem dL_build_56 : decode cL_build 56 = .ok (.iload_n 3, 1) := by decide +kernel
theorem dL_build_57 : decode cL_build 57 = .ok (.iadd, 1) := by decide +kernel
theorem dL_build_58 : decode cL_build 58 = .ok (.sipush 400, 3) := by decide +kernel
theorem dL_build_61 : decode cL_build 61 = .ok (.invokestatic 36, 3) := by decide +kernel
theorem dL_build_64 : decode cL_build 64 = .ok (.iconst 1, 1) := by decide +kernel
theorem dL_build_65 : decode cL_build 65 = .ok (.aload_n 1, 1) := by decide +kernel
theorem dL_build_66 : decode cL_build 66 = .ok (.bipush 22, 2) := by decide +kernel
theorem dL_build_68 : decode cL_build 68 = .ok (.iload_n 3, 1) := by decide +kernel
theorem dL_build_69 : decode cL_build 69 = .ok (.iadd, 1) := by decide +kernel
theorem dL_build_70 : decode cL_build 70 = .ok (.bipush 60, 2) := by decide +kernel
theorem dL_build_72 : decode cL_build 72 = .ok (.invokestatic 36, 3) := by decide +kernel
theorem dL_build_75 : decode cL_build 75 = .ok (.iadd, 1) := by decide +kernel
theorem dL_build_76 : decode cL_build 76 = .ok (.invokevirtual 43, 3) := by decide +kernel
theorem dL_build_79 : decode cL_build 79 = .ok (.istore_n 2, 1) := by decide +kernel
theorem dL_build_80 : decode cL_build 80 = .ok (.iinc 3 1, 3) := by decide +kernel
theorem dL_build_83 : decode cL_build 83 = .ok (.goto (-46), 3) := by decide +kernel
theorem dL_build_86 : decode cL_build 86 = .ok (.aload_n 1, 1) := by decide +kernel
theorem dL_build_87 : decode cL_build 87 = .ok (.bipush 36, 2) := by decide +kernel
theorem dL_build_89 : decode cL_build 89 = .ok (.iconst 3, 1) := by decide +kernel
theorem dL_build_90 : decode cL_build 90 = .ok (.invokestatic 36, 3) := by decide +kernel
theorem dL_build_93 : decode cL_build 93 = .ok (.ifCond .ne 19, 3) := by decide +kernel
theorem dL_build_96 : decode cL_build 96 = .ok (.aload_n 0, 1) := by decide +kernel
theorem dL_build_97 : decode cL_build 97 = .ok (.bipush 10, 2) := by decide +kernel
theorem dL_build_99 : decode cL_build 99 = .ok (.aload_n 1, 1) := by decide +kernel
theorem dL_build_100 : decode cL_build 100 = .ok (.bipush 37, 2) := by decide +kernel
theorem dL_build_102 : decode cL_build 102 = .ok (.bipush 100, 2) := by decide +kernel
theorem dL_build_104 : decode cL_build 104 = .ok (.invokestatic 36, 3) := by decide +kernel
theorem dL_build_107 : decode cL_build 107 = .ok (.iadd, 1) := by decide +kernel
theorem dL_build_108 : decode cL_build 108 = .ok (.invokevirtual 47, 3) := by decide +kernel
theorem dL_build_111 : decode cL_build 111 = .ok (.istore_n 2, 1) := by decide +kernel
theorem dL_build_112 : decode cL_build 112 = .ok (.iconst 0, 1) := by decide +kernel
theorem dL_build_113 : decode cL_build 113 = .ok (.istore_n 3, 1) := by decide +kernel
theorem dL_build_114 : decode cL_build 114 = .ok (.iload_n 3, 1) := by decide +kernel
theorem dL_build_115 : decode cL_build 115 = .ok (.iconst 4, 1) := by decide +kernel
theorem dL_build_116 : decode cL_build 116 = .ok (.if_icmp .ge 20, 3) := by decide +kernel
theorem dL_build_119 : decode cL_build 119 = .ok (.aload_n 0, 1) := by decide +kernel
theorem dL_build_120 : decode cL_build 120 = .ok (.aload_n 1, 1) := by decide +kernel
theorem dL_build_121 : decode cL_build 121 = .ok (.bipush 38, 2) := by decide +kernel
theorem dL_build_123 : decode cL_build 123 = .ok (.iconst 4, 1) := by decide +kernel
theorem dL_build_124 : decode cL_build 124 = .ok (.iload_n 3, 1) := by decide +kernel
theorem dL_build_125 : decode cL_build 125 = .ok (.imul, 1) := by decide +kernel
theorem dL_build_126 : decode cL_build 126 = .ok (.iadd, 1) := by decide +kernel
theorem dL_build_127 : decode cL_build 127 = .ok (.invokestatic 50, 3) := by decide +kernel
theorem dL_build_130 : decode cL_build 130 = .ok (.iinc 3 1, 3) := by decide +kernel
theorem dL_build_133 : decode cL_build 133 = .ok (.goto (-19), 3) := by decide +kernel
theorem dL_build_136 : decode cL_build 136 = .ok (.return_, 1) := by decide +kernel
set_option maxRecDepth 20000 in
theorem ggL_acts_X6_account : GoodIn wsL_acts wsX6_account := goodIn_r _ [9, 10, 11, 12, 13, 14, 15, 16, 17, 18, 19, 20, 21, 22, 23, 24, 25, 26, 27, 28, 29, 30, 31, 32, 33, 34, 35, 36, 37, 38, 39, 40, 41, 42, 43, 44, 45, 46, 47, 48, 49, 50, 51, 52, 53, 54, 55, 8, 56, 57, 58, 59, 60, 61, 62, 63, 64, 65, 66, 285, 286, 287, 288, 289, 290, 291, 292, 293, 294, 295, 296, 297, 298, 299, 300, 301, 302, 303, 304, 305, 306, 307, 308, 309, 310, 311, 312, 313, 314, 315, 316, 317, 318, 319, 320, 321, 322, 323, 324, 325, 326, 327, 328, 329, 330, 331, 332] (by decide +kernel) (by decide +kernel)
set_option maxRecDepth 20000 in
theorem gL_acts_X6_account : GoodIn wsL_acts (wsV RL 54 RX6 yX6_account wsX6_account) := goodIn_app (goodIn_of _ (by decide +kernel)) ggL_acts_X6_account
set_option maxRecDepth 20000 in
theorem ggL_acts_L_some : GoodIn wsL_acts wsL_some := goodIn_r _ [70, 71, 72, 69, 73] (by decide +kernel) (by decide +kernel)
set_option maxRecDepth 20000 in
theorem gL_acts_L_some : GoodIn wsL_acts (va_wsS RL 36 yL_some wsL_some) := goodIn_app (goodIn_of _ (by decide +kernel)) ggL_acts_L_some
set_option maxRecDepth 20000 in
theorem ggL_acts_X6_pier : GoodIn wsL_acts wsX6_pier := goodIn_r _ [77, 22, 10, 78, 79, 80, 81, 82, 83, 84, 85, 86, 87, 27, 88, 51, 89, 90, 91, 92, 30, 93, 36, 29, 35, 52, 94, 95, 96, 97, 8, 98, 11, 99, 100, 101, 102, 103, 104, 105, 106, 107, 108, 109, 110, 111, 112, 12, 15, 18, 113, 114, 115, 116, 117, 118, 119, 120, 121, 122, 123, 124, 125, 126, 127, 128, 129, 130, 131, 132, 133, 134, 135, 136, 137, 138, 139, 140, 2, 3, 4, 141, 142, 143, 144, 145, 146, 147, 148, 40, 149, 150, 151, 152, 153, 154, 155, 156, 157, 158, 159, 160, 161, 162, 163, 164, 165, 166, 167, 168, 169, 170, 42, 171, 172, 173, 174, 175, 176, 177, 178, 179, 180, 181, 182, 183, 184, 185, 186, 187, 188, 189, 190, 191, 192, 48, 49, 50, 193, 194, 195, 196, 197, 198, 199, 200, 201, 202, 203, 204, 205, 206, 207, 208, 285, 286, 287, 288, 289, 290, 291, 292, 293, 294, 295, 296, 330, 331, 332, 297, 298, 299, 300, 301, 302, 303, 304, 305, 306, 307, 308, 309, 310, 311, 312, 313, 314, 315, 316, 317, 318, 319, 320, 321, 322, 323] (by decide +kernel) (by decide +kernel)
set_option maxRecDepth 20000 in
theorem gL_acts_X6_pier : GoodIn wsL_acts (wsV RL 40 RX6 yX6_pier wsX6_pier) := goodIn_app (goodIn_of _ (by decide +kernel)) ggL_acts_X6_pier
set_option maxRecDepth 20000 in
theorem ggL_acts_X6_close : GoodIn wsL_acts wsX6_close := goodIn_r _ [212, 22, 10, 78, 79, 80, 81, 82, 83, 84, 85, 86, 87, 27, 88, 51, 89, 90, 91, 92, 30, 93, 36, 29, 35, 52, 94, 213, 214, 215, 8, 216, 217, 218, 219, 220, 221, 99, 100, 101, 102, 103, 104, 109, 110, 111, 112, 12, 15, 18, 113, 114, 115, 116, 117, 118, 119, 120, 121, 122, 123, 124, 125, 126, 127, 128, 129, 130, 131, 132, 133, 134, 135, 136, 137, 138, 139, 140, 2, 3, 4, 141, 142, 143, 144, 145, 146, 147, 148, 40, 149, 150, 151, 152, 153, 154, 155, 156, 157, 158, 159, 160, 161, 162, 163, 164, 165, 166, 167, 168, 169, 170, 42, 171, 172, 173, 174, 175, 176, 177, 178, 179, 180, 181, 182, 183, 184, 185, 186, 187, 188, 189, 190, 191, 192, 48, 49, 50, 193, 194, 195, 196, 197, 198, 199, 200, 201, 202, 203, 204, 205, 206, 207, 208, 285, 286, 287, 288, 289, 290, 291, 292, 293, 294, 295, 296, 330, 331, 332, 297, 298, 299, 300, 301, 302, 303, 304, 305, 306, 307, 308, 309, 310, 311, 312, 313, 314, 315, 316, 317, 318, 319, 320, 321, 322, 323] (by decide +kernel) (by decide +kernel)
set_option maxRecDepth 20000 in
theorem gL_acts_X6_close : GoodIn wsL_acts (wsV RL 62 RX6 yX6_close wsX6_close) := goodIn_app (goodIn_of _ (by decide +kernel)) ggL_acts_X6_close
set_option maxRecDepth 20000 in
theorem ggL_acts_X6_open : GoodIn wsL_acts wsX6_open := goodIn_r _ [225, 22, 10, 78, 79, 80, 81, 82, 83, 84, 85, 86, 87, 27, 88, 51, 89, 90, 91, 92, 30, 93, 36, 29, 35, 52, 94, 213, 214, 215, 8, 216, 217, 218, 219, 220, 221, 99, 100, 101, 102, 103, 104, 109, 110, 111, 112, 12, 15, 18, 113, 114, 115, 116, 117, 118, 119, 120, 121, 122, 123, 124, 125, 126, 127, 128, 129, 130, 131, 132, 133, 134, 135, 136, 137, 138, 139, 140, 2, 3, 4, 141, 142, 143, 144, 145, 146, 147, 148, 40, 149, 150, 151, 152, 153, 154, 155, 156, 157, 158, 159, 160, 161, 162, 163, 164, 165, 166, 167, 168, 169, 170, 42, 171, 172, 173, 174, 175, 176, 177, 178, 179, 180, 181, 182, 183, 184, 185, 186, 187, 188, 189, 190, 191, 192, 48, 49, 50, 193, 194, 195, 196, 197, 198, 199, 200, 201, 202, 203, 204, 205, 206, 207, 208, 285, 286, 287, 288, 289, 290, 291, 292, 293, 294, 295, 296, 330, 331, 332, 297, 298, 299, 300, 301, 302, 303, 304, 305, 306, 307, 308, 309, 310, 311, 312, 313, 314, 315, 316, 317, 318, 319, 320, 321, 322, 323] (by decide +kernel) (by decide +kernel)
set_option maxRecDepth 20000 in
theorem gL_acts_X6_open : GoodIn wsL_acts (wsV RL 65 RX6 yX6_open wsX6_open) := goodIn_app (goodIn_of _ (by decide +kernel)) ggL_acts_X6_open
set_option maxRecDepth 20000 in
theorem ggL_acts_X6_weigh : GoodIn wsL_acts wsX6_weigh := goodIn_r _ [229, 22, 10, 78, 79, 80, 81, 82, 83, 84, 85, 86, 87, 27, 88, 51, 89, 90, 91, 92, 30, 93, 36, 29, 35, 52, 94, 230, 231, 232, 8, 233, 234, 218, 219, 220, 221, 99, 100, 101, 102, 103, 104, 109, 110, 111, 112, 12, 15, 18, 113, 114, 115, 116, 117, 118, 119, 120, 121, 122, 123, 124, 125, 126, 127, 128, 129, 130, 131, 132, 133, 134, 135, 136, 137, 138, 139, 140, 2, 3, 4, 141, 142, 143, 144, 145, 146, 147, 148, 40, 149, 150, 151, 152, 153, 154, 155, 156, 157, 158, 159, 160, 161, 162, 163, 164, 165, 166, 167, 168, 169, 170, 42, 171, 172, 173, 174, 175, 176, 177, 178, 179, 180, 181, 182, 183, 184, 185, 186, 187, 188, 189, 190, 191, 192, 48, 49, 50, 193, 194, 195, 196, 197, 198, 199, 200, 201, 202, 203, 204, 205, 206, 207, 208, 285, 286, 287, 288, 289, 290, 291, 292, 293, 294, 295, 296, 330, 331, 332, 297, 298, 299, 300, 301, 302, 303, 304, 305, 306, 307, 308, 309, 310, 311, 312, 313, 314, 315, 316, 317, 318, 319, 320, 321, 322, 323] (by decide +kernel) (by decide +kernel)
set_option maxRecDepth 20000 in
theorem gL_acts_X6_weigh : GoodIn wsL_acts (wsV RL 68 RX6 yX6_weigh wsX6_weigh) := goodIn_app (goodIn_of _ (by decide +kernel)) ggL_acts_X6_weigh
set_option maxRecDepth 20000 in
theorem ggL_acts_X6_barge : GoodIn wsL_acts wsX6_barge := goodIn_r _ [238, 22, 10, 78, 79, 80, 81, 82, 83, 84, 85, 86, 87, 27, 88, 51, 89, 90, 91, 92, 30, 93, 36, 29, 35, 52, 94, 239, 240, 241, 8, 242, 14, 15, 12, 243, 244, 245, 246, 99, 100, 101, 102, 103, 104, 247, 248, 249, 250, 164, 165, 166, 40, 167, 168, 169, 170, 42, 171, 172, 150, 173, 174, 175, 126, 127, 128, 152, 153, 154, 155, 156, 157, 158, 116, 159, 123, 160, 161, 162, 163, 119, 122, 137, 138, 176, 177, 178, 179, 151, 180, 181, 182, 183, 184, 185, 186, 187, 188, 189, 190, 191, 145, 192, 48, 49, 50, 193, 194, 195, 196, 197, 198, 199, 200, 201, 202, 203, 204, 205, 206, 207, 3, 208, 285, 286, 287, 288, 289, 290, 291, 292, 293, 294, 295, 296, 330, 331, 332, 297, 298, 299, 300, 301, 302, 303, 304, 315, 316, 317, 318, 319, 320, 321, 322, 323, 305, 306, 307, 308, 309, 310, 311, 312, 313, 314] (by decide +kernel) (by decide +kernel)
set_option maxRecDepth 20000 in
theorem gL_acts_X6_barge : GoodIn wsL_acts (wsV RL 43 RX6 yX6_barge wsX6_barge) := goodIn_app (goodIn_of _ (by decide +kernel)) ggL_acts_X6_barge
set_option maxRecDepth 20000 in
theorem ggL_acts_X6_leave : GoodIn wsL_acts wsX6_leave := goodIn_r _ [254, 22, 10, 78, 79, 80, 81, 82, 83, 84, 85, 86, 87, 27, 88, 51, 89, 90, 91, 92, 30, 93, 36, 29, 35, 52, 94, 255, 256, 257, 8, 258, 15, 12, 14, 259, 260, 261, 262, 263, 264, 265, 266, 267, 164, 165, 166, 40, 167, 168, 169, 170, 42, 171, 172, 150, 173, 174, 175, 126, 127, 128, 152, 153, 154, 155, 156, 157, 158, 116, 159, 123, 160, 161, 162, 163, 119, 122, 137, 138, 176, 177, 178, 179, 151, 180, 181, 182, 183, 184, 185, 186, 187, 188, 189, 190, 191, 145, 192, 48, 49, 50, 193, 194, 195, 196, 197, 198, 199, 200, 201, 202, 203, 204, 205, 206, 207, 3, 208, 285, 286, 287, 288, 289, 290, 291, 292, 293, 294, 295, 296, 330, 331, 332, 297, 298, 299, 300, 301, 302, 303, 304, 315, 316, 317, 318, 319, 320, 321, 322, 323, 305, 306, 307, 308, 309, 310, 311, 312, 313, 314] (by decide +kernel) (by decide +kernel)
set_option maxRecDepth 20000 in
theorem gL_acts_X6_leave : GoodIn wsL_acts (wsV RL 71 RX6 yX6_leave wsX6_leave) := goodIn_app (goodIn_of _ (by decide +kernel)) ggL_acts_X6_leave
set_option maxRecDepth 20000 in
theorem ggL_acts_X6_load : GoodIn wsL_acts wsX6_load := goodIn_r _ [271, 22, 10, 78, 79, 80, 81, 82, 83, 84, 85, 86, 87, 27, 88, 51, 89, 90, 91, 92, 30, 93, 36, 29, 35, 52, 94, 272, 273, 274, 8, 275, 276, 15, 12, 259, 260, 261, 262, 99, 100, 101, 102, 103, 104, 164, 165, 166, 40, 167, 168, 169, 170, 42, 171, 172, 150, 173, 174, 175, 126, 127, 128, 152, 153, 154, 155, 156, 157, 158, 116, 159, 123, 160, 161, 162, 163, 119, 122, 137, 138, 176, 177, 178, 179, 151, 180, 181, 182, 183, 184, 185, 186, 187, 188, 189, 190, 191, 145, 192, 48, 49, 50, 193, 194, 195, 196, 197, 198, 199, 200, 201, 202, 203, 204, 205, 206, 207, 3, 208, 285, 286, 287, 288, 289, 290, 291, 292, 293, 294, 295, 296, 330, 331, 332, 297, 298, 299, 300, 301, 302, 303, 304, 315, 316, 317, 318, 319, 320, 321, 322, 323, 305, 306, 307, 308, 309, 310, 311, 312, 313, 314] (by decide +kernel) (by decide +kernel)
set_option maxRecDepth 20000 in
theorem gL_acts_X6_load : GoodIn wsL_acts (wsV RL 74 RX6 yX6_load wsX6_load) := goodIn_app (goodIn_of _ (by decide +kernel)) ggL_acts_X6_load
set_option maxRecDepth 20000 in
theorem ggL_acts_X6_berth : GoodIn wsL_acts wsX6_berth := goodIn_r _ [280, 22, 10, 78, 79, 80, 81, 82, 83, 84, 85, 86, 87, 27, 88, 51, 89, 90, 91, 92, 30, 93, 36, 29, 35, 52, 94, 281, 282, 283, 8, 284, 19, 15, 12, 99, 100, 101, 102, 103, 104, 164, 165, 166, 40, 167, 168, 169, 170, 42, 171, 172, 150, 173, 174, 175, 126, 127, 128, 152, 153, 154, 155, 156, 157, 158, 116, 159, 123, 160, 161, 162, 163, 119, 122, 137, 138, 176, 177, 178, 179, 151, 180, 181, 182, 183, 184, 185, 186, 187, 188, 189, 190, 191, 145, 192, 48, 49, 50, 193, 194, 195, 196, 197, 198, 199, 200, 201, 202, 203, 204, 205, 206, 207, 3, 208, 285, 286, 287, 288, 289, 290, 291, 292, 293, 294, 295, 296, 330, 331, 332, 297, 298, 299, 300, 301, 302, 303, 304, 315, 316, 317, 318, 319, 320, 321, 322, 323, 305, 306, 307, 308, 309, 310, 311, 312, 313, 314] (by decide +kernel) (by decide +kernel)
set_option maxRecDepth 20000 in
theorem gL_acts_X6_berth : GoodIn wsL_acts (wsV RL 47 RX6 yX6_berth wsX6_berth) := goodIn_app (goodIn_of _ (by decide +kernel)) ggL_acts_X6_berth
theorem dL_acts_0 : decode cL_acts 0 = .ok (.aload_n 0, 1) := by decide +kernel
theorem dL_acts_1 : decode cL_acts 1 = .ok (.iconst 0, 1) := by decide +kernel
theorem dL_acts_2 : decode cL_acts 2 = .ok (.invokevirtual 54, 3) := by decide +kernel
theorem dL_acts_5 : decode cL_acts 5 = .ok (.istore_n 3, 1) := by decide +kernel
theorem dL_acts_6 : decode cL_acts 6 = .ok (.aload_n 0, 1) := by decide +kernel
theorem dL_acts_7 : decode cL_acts 7 = .ok (.iconst 3, 1) := by decide +kernel
theorem dL_acts_8 : decode cL_acts 8 = .ok (.invokevirtual 54, 3) := by decide +kernel
theorem dL_acts_11 : decode cL_acts 11 = .ok (.istore 4, 2) := by decide +kernel
theorem dL_acts_13 : decode cL_acts 13 = .ok (.aload_n 1, 1) := by decide +kernel
theorem dL_acts_14 : decode cL_acts 14 = .ok (.iload_n 2, 1) := by decide +kernel
theorem dL_acts_15 : decode cL_acts 15 = .ok (.iconst 1, 1) := by decide +kernel
theorem dL_acts_16 : decode cL_acts 16 = .ok (.iadd, 1) := by decide +kernel
theorem dL_acts_17 : decode cL_acts 17 = .ok (.iload_n 3, 1) := by decide +kernel
theorem dL_acts_18 : decode cL_acts 18 = .ok (.invokestatic 36, 3) := by decide +kernel
theorem dL_acts_21 : decode cL_acts 21 = .ok (.istore 5, 2) := by decide +kernel
theorem dL_acts_23 : decode cL_acts 23 = .ok (.aload_n 1, 1) := by decide +kernel
theorem dL_acts_24 : decode cL_acts 24 = .ok (.iload_n 2, 1) := by decide +kernel
theorem dL_acts_25 : decode cL_acts 25 = .ok (.iconst 2, 1) := by decide +kernel
theorem dL_acts_26 : decode cL_acts 26 = .ok (.iadd, 1) := by decide +kernel
theorem dL_acts_27 : decode cL_acts 27 = .ok (.iconst 1, 1) := by decide +kernel
theorem dL_acts_28 : decode cL_acts 28 = .ok (.iload 4, 2) := by decide +kernel
theorem dL_acts_30 : decode cL_acts 30 = .ok (.invokestatic 57, 3) := by decide +kernel
theorem dL_acts_33 : decode cL_acts 33 = .ok (.invokestatic 36, 3) := by decide +kernel
theorem dL_acts_36 : decode cL_acts 36 = .ok (.istore 6, 2) := by decide +kernel
theorem dL_acts_38 : decode cL_acts 38 = .ok (.aload_n 1, 1) := by decide +kernel
theorem dL_acts_39 : decode cL_acts 39 = .ok (.iload_n 2, 1) := by decide +kernel
theorem dL_acts_40 : decode cL_acts 40 = .ok (.iconst 3, 1) := by decide +kernel
theorem dL_acts_41 : decode cL_acts 41 = .ok (.iadd, 1) := by decide +kernel
theorem dL_acts_42 : decode cL_acts 42 = .ok (.iconst 5, 1) := by decide +kernel
theorem dL_acts_43 : decode cL_acts 43 = .ok (.invokestatic 36, 3) := by decide +kernel
theorem dL_acts_46 : decode cL_acts 46 = .ok (.istore 7, 2) := by decide +kernel
theorem dL_acts_48 : decode cL_acts 48 = .ok (.aload_n 1, 1) := by decide +kernel
theorem dL_acts_49 : decode cL_acts 49 = .ok (.iload_n 2, 1) := by decide +kernel
theorem dL_acts_50 : decode cL_acts 50 = .ok (.bipush 9, 2) := by decide +kernel
theorem dL_acts_52 : decode cL_acts 52 = .ok (.invokestatic 36, 3) := by decide +kernel
theorem dL_acts_55 : decode cL_acts 55 = .ok (.tableswitch 160 0 7 #[45, 68, 68, 79, 90, 105, 131, 142], 45) := by decide +kernel
theorem dL_acts_100 : decode cL_acts 100 = .ok (.iload_n 3, 1) := by decide +kernel
theorem dL_acts_101 : decode cL_acts 101 = .ok (.bipush 7, 2) := by decide +kernel
theorem dL_acts_103 : decode cL_acts 103 = .ok (.if_icmp .ge 14, 3) := by decide +kernel
theorem dL_acts_106 : decode cL_acts 106 = .ok (.aload_n 0, 1) := by decide +kernel
theorem dL_acts_107 : decode cL_acts 107 = .ok (.iconst 1, 1) := by decide +kernel
theorem dL_acts_108 : decode cL_acts 108 = .ok (.iload 7, 2) := by decide +kernel
theorem dL_acts_110 : decode cL_acts 110 = .ok (.iadd, 1) := by decide +kernel
theorem dL_acts_111 : decode cL_acts 111 = .ok (.invokevirtual 40, 3) := by decide +kernel
theorem dL_acts_114 : decode cL_acts 114 = .ok (.goto 4, 3) := by decide +kernel
theorem dL_acts_117 : decode cL_acts 117 = .ok (.iconst 0, 1) := by decide +kernel
theorem dL_acts_118 : decode cL_acts 118 = .ok (.istore 8, 2) := by decide +kernel
theorem dL_acts_120 : decode cL_acts 120 = .ok (.goto 109, 3) := by decide +kernel
theorem dL_acts_123 : decode cL_acts 123 = .ok (.aload_n 0, 1) := by decide +kernel
theorem dL_acts_124 : decode cL_acts 124 = .ok (.iload 5, 2) := by decide +kernel
theorem dL_acts_126 : decode cL_acts 126 = .ok (.invokevirtual 62, 3) := by decide +kernel
theorem dL_acts_129 : decode cL_acts 129 = .ok (.istore 8, 2) := by decide +kernel
theorem dL_acts_131 : decode cL_acts 131 = .ok (.goto 98, 3) := by decide +kernel
theorem dL_acts_134 : decode cL_acts 134 = .ok (.aload_n 0, 1) := by decide +kernel
theorem dL_acts_135 : decode cL_acts 135 = .ok (.iload 5, 2) := by decide +kernel
theorem dL_acts_137 : decode cL_acts 137 = .ok (.invokevirtual 65, 3) := by decide +kernel
theorem dL_acts_140 : decode cL_acts 140 = .ok (.istore 8, 2) := by decide +kernel
theorem dL_acts_142 : decode cL_acts 142 = .ok (.goto 87, 3) := by decide +kernel
theorem dL_acts_145 : decode cL_acts 145 = .ok (.aload_n 0, 1) := by decide +kernel
theorem dL_acts_146 : decode cL_acts 146 = .ok (.iload 5, 2) := by decide +kernel
theorem dL_acts_148 : decode cL_acts 148 = .ok (.iconst 1, 1) := by decide +kernel
theorem dL_acts_149 : decode cL_acts 149 = .ok (.iload 7, 2) := by decide +kernel
theorem dL_acts_151 : decode cL_acts 151 = .ok (.iadd, 1) := by decide +kernel
theorem dL_acts_152 : decode cL_acts 152 = .ok (.invokevirtual 68, 3) := by decide +kernel
theorem dL_acts_155 : decode cL_acts 155 = .ok (.istore 8, 2) := by decide +kernel
theorem dL_acts_157 : decode cL_acts 157 = .ok (.goto 72, 3) := by decide +kernel
theorem dL_acts_160 : decode cL_acts 160 = .ok (.aload_n 0, 1) := by decide +kernel
theorem dL_acts_161 : decode cL_acts 161 = .ok (.aload_n 1, 1) := by decide +kernel
theorem dL_acts_162 : decode cL_acts 162 = .ok (.iload_n 2, 1) := by decide +kernel
theorem dL_acts_163 : decode cL_acts 163 = .ok (.iconst 2, 1) := by decide +kernel
theorem dL_acts_164 : decode cL_acts 164 = .ok (.iadd, 1) := by decide +kernel
theorem dL_acts_165 : decode cL_acts 165 = .ok (.sipush 9999, 3) := by decide +kernel
theorem dL_acts_168 : decode cL_acts 168 = .ok (.invokestatic 36, 3) := by decide +kernel
theorem dL_acts_171 : decode cL_acts 171 = .ok (.bipush 9, 2) := by decide +kernel
theorem dL_acts_173 : decode cL_acts 173 = .ok (.iload 7, 2) := by decide +kernel
theorem dL_acts_175 : decode cL_acts 175 = .ok (.imul, 1) := by decide +kernel
theorem dL_acts_176 : decode cL_acts 176 = .ok (.iconst 5, 1) := by decide +kernel
theorem dL_acts_177 : decode cL_acts 177 = .ok (.iadd, 1) := by decide +kernel
theorem dL_acts_178 : decode cL_acts 178 = .ok (.invokevirtual 43, 3) := by decide +kernel
theorem dL_acts_181 : decode cL_acts 181 = .ok (.istore 8, 2) := by decide +kernel
theorem dL_acts_183 : decode cL_acts 183 = .ok (.goto 46, 3) := by decide +kernel
theorem dL_acts_186 : decode cL_acts 186 = .ok (.aload_n 0, 1) := by decide +kernel
theorem dL_acts_187 : decode cL_acts 187 = .ok (.iload 6, 2) := by decide +kernel
theorem dL_acts_189 : decode cL_acts 189 = .ok (.invokevirtual 71, 3) := by decide +kernel
theorem dL_acts_192 : decode cL_acts 192 = .ok (.istore 8, 2) := by decide +kernel
theorem dL_acts_194 : decode cL_acts 194 = .ok (.goto 35, 3) := by decide +kernel
theorem dL_acts_197 : decode cL_acts 197 = .ok (.aload_n 0, 1) := by decide +kernel
theorem dL_acts_198 : decode cL_acts 198 = .ok (.iload 6, 2) := by decide +kernel
theorem dL_acts_200 : decode cL_acts 200 = .ok (.bipush 11, 2) := by decide +kernel
theorem dL_acts_202 : decode cL_acts 202 = .ok (.iload 7, 2) := by decide +kernel
theorem dL_acts_204 : decode cL_acts 204 = .ok (.imul, 1) := by decide +kernel
theorem dL_acts_205 : decode cL_acts 205 = .ok (.iconst 1, 1) := by decide +kernel
theorem dL_acts_206 : decode cL_acts 206 = .ok (.iadd, 1) := by decide +kernel
theorem dL_acts_207 : decode cL_acts 207 = .ok (.invokevirtual 74, 3) := by decide +kernel
theorem dL_acts_210 : decode cL_acts 210 = .ok (.istore 8, 2) := by decide +kernel
theorem dL_acts_212 : decode cL_acts 212 = .ok (.goto 17, 3) := by decide +kernel
theorem dL_acts_215 : decode cL_acts 215 = .ok (.aload_n 0, 1) := by decide +kernel
theorem dL_acts_216 : decode cL_acts 216 = .ok (.bipush 20, 2) := by decide +kernel
theorem dL_acts_218 : decode cL_acts 218 = .ok (.bipush 20, 2) := by decide +kernel
theorem dL_acts_220 : decode cL_acts 220 = .ok (.iload 7, 2) := by decide +kernel
theorem dL_acts_222 : decode cL_acts 222 = .ok (.imul, 1) := by decide +kernel
theorem dL_acts_223 : decode cL_acts 223 = .ok (.iadd, 1) := by decide +kernel
theorem dL_acts_224 : decode cL_acts 224 = .ok (.invokevirtual 47, 3) := by decide +kernel
theorem dL_acts_227 : decode cL_acts 227 = .ok (.istore 8, 2) := by decide +kernel
theorem dL_acts_229 : decode cL_acts 229 = .ok (.return_, 1) := by decide +kernel
set_option maxRecDepth 20000 in
theorem ggL_owners_X6_account : GoodIn wsL_owners wsX6_account := goodIn_r _ [6, 7, 8, 9, 10, 11, 12, 13, 14, 15, 16, 17, 18, 19, 20, 21, 22, 23, 24, 25, 26, 27, 28, 29, 30, 31, 32, 33, 34, 35, 36, 37, 38, 39, 40, 41, 42, 43, 44, 45, 46, 47, 48, 49, 50, 51, 52, 5, 53, 54, 55, 56, 57, 58, 59, 60, 61, 62, 63, 94, 95, 96, 97, 98, 99, 100, 101, 102, 103, 104, 105, 106, 107, 108, 109, 110, 111, 112, 113, 114, 115, 116, 117, 118, 119, 120, 121, 122, 123, 124, 125, 126, 127, 128, 129, 130, 131, 132, 133, 134, 135, 136, 137, 138, 139, 140, 141] (by decide +kernel) (by decide +kernel)
set_option maxRecDepth 20000 in
theorem gL_owners_X6_account : GoodIn wsL_owners (wsV RL 54 RX6 yX6_account wsX6_account) := goodIn_app (goodIn_of _ (by decide +kernel)) ggL_owners_X6_account
set_option maxRecDepth 20000 in
theorem ggL_owners_X6_pierOf : GoodIn wsL_owners wsX6_pierOf := goodIn_r _ [67, 7, 68, 69, 9, 12, 70, 62, 71, 72, 73, 74, 75, 24, 76, 26, 77, 78, 79, 80, 27, 48, 81, 82, 83, 84, 85, 86, 87, 88, 89, 90, 91, 92, 93, 63, 45, 46, 47, 49, 54, 55, 56, 5, 57, 58, 59, 60, 61, 94, 95, 96, 97, 98, 99, 100, 101, 102, 103, 104, 105, 106, 107, 108, 109, 110, 111, 112, 113, 124, 125, 126, 127, 128, 129, 130, 131, 132, 114, 115, 116, 117, 118, 119, 120, 121, 122, 123] (by decide +kernel) (by decide +kernel)
set_option maxRecDepth 20000 in
theorem gL_owners_X6_pierOf : GoodIn wsL_owners (wsV RL 81 RX6 yX6_pierOf wsX6_pierOf) := goodIn_app (goodIn_of _ (by decide +kernel)) ggL_owners_X6_pierOf
theorem dL_owners_0 : decode cL_owners 0 = .ok (.sipush 360, 3) := by decide +kernel
theorem dL_owners_3 : decode cL_owners 3 = .ok (.newarray .int, 2) := by decide +kernel
theorem dL_owners_5 : decode cL_owners 5 = .ok (.astore_n 2, 1) := by decide +kernel
theorem dL_owners_6 : decode cL_owners 6 = .ok (.iconst 0, 1) := by decide +kernel
theorem dL_owners_7 : decode cL_owners 7 = .ok (.istore_n 3, 1) := by decide +kernel
theorem dL_owners_8 : decode cL_owners 8 = .ok (.iload_n 3, 1) := by decide +kernel
theorem dL_owners_9 : decode cL_owners 9 = .ok (.sipush 360, 3) := by decide +kernel
theorem dL_owners_12 : decode cL_owners 12 = .ok (.if_icmp .ge 13, 3) := by decide +kernel
theorem dL_owners_15 : decode cL_owners 15 = .ok (.aload_n 2, 1) := by decide +kernel
theorem dL_owners_16 : decode cL_owners 16 = .ok (.iload_n 3, 1) := by decide +kernel
theorem dL_owners_17 : decode cL_owners 17 = .ok (.iconst (-1), 1) := by decide +kernel
theorem dL_owners_18 : decode cL_owners 18 = .ok (.iastore, 1) := by decide +kernel
theorem dL_owners_19 : decode cL_owners 19 = .ok (.iinc 3 1, 3) := by decide +kernel
theorem dL_owners_22 : decode cL_owners 22 = .ok (.goto (-14), 3) := by decide +kernel
theorem dL_owners_25 : decode cL_owners 25 = .ok (.iconst 0, 1) := by decide +kernel
theorem dL_owners_26 : decode cL_owners 26 = .ok (.istore_n 3, 1) := by decide +kernel
theorem dL_owners_27 : decode cL_owners 27 = .ok (.iload_n 3, 1) := by decide +kernel
theorem dL_owners_28 : decode cL_owners 28 = .ok (.aload_n 0, 1) := by decide +kernel
theorem dL_owners_29 : decode cL_owners 29 = .ok (.iconst 0, 1) := by decide +kernel
theorem dL_owners_30 : decode cL_owners 30 = .ok (.invokevirtual 54, 3) := by decide +kernel
theorem dL_owners_33 : decode cL_owners 33 = .ok (.if_icmp .ge 67, 3) := by decide +kernel
theorem dL_owners_36 : decode cL_owners 36 = .ok (.iconst 0, 1) := by decide +kernel
theorem dL_owners_37 : decode cL_owners 37 = .ok (.istore 4, 2) := by decide +kernel
theorem dL_owners_39 : decode cL_owners 39 = .ok (.iload 4, 2) := by decide +kernel
theorem dL_owners_41 : decode cL_owners 41 = .ok (.iconst 2, 1) := by decide +kernel
theorem dL_owners_42 : decode cL_owners 42 = .ok (.aload_n 0, 1) := by decide +kernel
theorem dL_owners_43 : decode cL_owners 43 = .ok (.iload_n 3, 1) := by decide +kernel
theorem dL_owners_44 : decode cL_owners 44 = .ok (.iconst 0, 1) := by decide +kernel
theorem dL_owners_45 : decode cL_owners 45 = .ok (.invokevirtual 81, 3) := by decide +kernel
theorem dL_owners_48 : decode cL_owners 48 = .ok (.imul, 1) := by decide +kernel
theorem dL_owners_49 : decode cL_owners 49 = .ok (.if_icmp .ge 45, 3) := by decide +kernel
theorem dL_owners_52 : decode cL_owners 52 = .ok (.aload_n 0, 1) := by decide +kernel
theorem dL_owners_53 : decode cL_owners 53 = .ok (.iload_n 3, 1) := by decide +kernel
theorem dL_owners_54 : decode cL_owners 54 = .ok (.iconst 1, 1) := by decide +kernel
theorem dL_owners_55 : decode cL_owners 55 = .ok (.invokevirtual 81, 3) := by decide +kernel
theorem dL_owners_58 : decode cL_owners 58 = .ok (.iconst 1, 1) := by decide +kernel
theorem dL_owners_59 : decode cL_owners 59 = .ok (.if_icmp .ne 35, 3) := by decide +kernel
theorem dL_owners_62 : decode cL_owners 62 = .ok (.iload_n 3, 1) := by decide +kernel
theorem dL_owners_63 : decode cL_owners 63 = .ok (.iload_n 1, 1) := by decide +kernel
theorem dL_owners_64 : decode cL_owners 64 = .ok (.if_icmp .eq 30, 3) := by decide +kernel
theorem dL_owners_67 : decode cL_owners 67 = .ok (.aload_n 2, 1) := by decide +kernel
theorem dL_owners_68 : decode cL_owners 68 = .ok (.bipush 8, 2) := by decide +kernel
theorem dL_owners_70 : decode cL_owners 70 = .ok (.bipush 17, 2) := by decide +kernel
theorem dL_owners_72 : decode cL_owners 72 = .ok (.iload_n 3, 1) := by decide +kernel
theorem dL_owners_73 : decode cL_owners 73 = .ok (.imul, 1) := by decide +kernel
theorem dL_owners_74 : decode cL_owners 74 = .ok (.bipush 7, 2) := by decide +kernel
theorem dL_owners_76 : decode cL_owners 76 = .ok (.iload 4, 2) := by decide +kernel
theorem dL_owners_78 : decode cL_owners 78 = .ok (.imul, 1) := by decide +kernel
theorem dL_owners_79 : decode cL_owners 79 = .ok (.iadd, 1) := by decide +kernel
theorem dL_owners_80 : decode cL_owners 80 = .ok (.bipush 45, 2) := by decide +kernel
theorem dL_owners_82 : decode cL_owners 82 = .ok (.irem, 1) := by decide +kernel
theorem dL_owners_83 : decode cL_owners 83 = .ok (.imul, 1) := by decide +kernel
theorem dL_owners_84 : decode cL_owners 84 = .ok (.iload_n 3, 1) := by decide +kernel
theorem dL_owners_85 : decode cL_owners 85 = .ok (.iadd, 1) := by decide +kernel
theorem dL_owners_86 : decode cL_owners 86 = .ok (.iload_n 3, 1) := by decide +kernel
theorem dL_owners_87 : decode cL_owners 87 = .ok (.iastore, 1) := by decide +kernel
theorem dL_owners_88 : decode cL_owners 88 = .ok (.iinc 4 1, 3) := by decide +kernel
theorem dL_owners_91 : decode cL_owners 91 = .ok (.goto (-52), 3) := by decide +kernel
theorem dL_owners_94 : decode cL_owners 94 = .ok (.iinc 3 1, 3) := by decide +kernel
theorem dL_owners_97 : decode cL_owners 97 = .ok (.goto (-70), 3) := by decide +kernel
theorem dL_owners_100 : decode cL_owners 100 = .ok (.aload_n 2, 1) := by decide +kernel
theorem dL_owners_101 : decode cL_owners 101 = .ok (.areturn, 1) := by decide +kernel
theorem dL_home_0 : decode cL_home 0 = .ok (.iconst 0, 1) := by decide +kernel
theorem dL_home_1 : decode cL_home 1 = .ok (.istore_n 2, 1) := by decide +kernel
theorem dL_home_2 : decode cL_home 2 = .ok (.iload_n 2, 1) := by decide +kernel
theorem dL_home_3 : decode cL_home 3 = .ok (.sipush 360, 3) := by decide +kernel
theorem dL_home_6 : decode cL_home 6 = .ok (.if_icmp .ge 31, 3) := by decide +kernel
theorem dL_home_9 : decode cL_home 9 = .ok (.aload_n 0, 1) := by decide +kernel
theorem dL_home_10 : decode cL_home 10 = .ok (.iload_n 1, 1) := by decide +kernel
theorem dL_home_11 : decode cL_home 11 = .ok (.iload_n 2, 1) := by decide +kernel
theorem dL_home_12 : decode cL_home 12 = .ok (.iadd, 1) := by decide +kernel
theorem dL_home_13 : decode cL_home 13 = .ok (.sipush 360, 3) := by decide +kernel
theorem dL_home_16 : decode cL_home 16 = .ok (.irem, 1) := by decide +kernel
theorem dL_home_17 : decode cL_home 17 = .ok (.iaload, 1) := by decide +kernel
theorem dL_home_18 : decode cL_home 18 = .ok (.ifCond .lt 13, 3) := by decide +kernel
theorem dL_home_21 : decode cL_home 21 = .ok (.aload_n 0, 1) := by decide +kernel
theorem dL_home_22 : decode cL_home 22 = .ok (.iload_n 1, 1) := by decide +kernel
theorem dL_home_23 : decode cL_home 23 = .ok (.iload_n 2, 1) := by decide +kernel
theorem dL_home_24 : decode cL_home 24 = .ok (.iadd, 1) := by decide +kernel
theorem dL_home_25 : decode cL_home 25 = .ok (.sipush 360, 3) := by decide +kernel
theorem dL_home_28 : decode cL_home 28 = .ok (.irem, 1) := by decide +kernel
theorem dL_home_29 : decode cL_home 29 = .ok (.iaload, 1) := by decide +kernel
theorem dL_home_30 : decode cL_home 30 = .ok (.ireturn, 1) := by decide +kernel
theorem dL_home_31 : decode cL_home 31 = .ok (.iinc 2 1, 3) := by decide +kernel
theorem dL_home_34 : decode cL_home 34 = .ok (.goto (-32), 3) := by decide +kernel
theorem dL_home_37 : decode cL_home 37 = .ok (.iconst (-1), 1) := by decide +kernel
theorem dL_home_38 : decode cL_home 38 = .ok (.ireturn, 1) := by decide +kernel
set_option maxRecDepth 20000 in
theorem ggL_order_X6_ring : GoodIn wsL_order wsX6_ring := goodIn_r _ [5, 6, 7, 8, 9, 10, 11, 12, 13, 14, 15, 16, 17, 18, 19, 20, 21, 22, 23, 24, 25, 26, 27, 28, 29, 30, 31, 32, 33, 34] (by decide +kernel) (by decide +kernel)
set_option maxRecDepth 20000 in
theorem gL_order_X6_ring : GoodIn wsL_order (wsV RL 87 RX6 yX6_ring wsX6_ring) := goodIn_app (goodIn_of _ (by decide +kernel)) ggL_order_X6_ring
theorem dL_order_0 : decode cL_order 0 = .ok (.bipush 10, 2) := by decide +kernel
theorem dL_order_2 : decode cL_order 2 = .ok (.aload_n 0, 1) := by decide +kernel
theorem dL_order_3 : decode cL_order 3 = .ok (.iload_n 1, 1) := by decide +kernel
theorem dL_order_4 : decode cL_order 4 = .ok (.iconst 1, 1) := by decide +kernel
theorem dL_order_5 : decode cL_order 5 = .ok (.invokevirtual 87, 3) := by decide +kernel
theorem dL_order_8 : decode cL_order 8 = .ok (.imul, 1) := by decide +kernel
theorem dL_order_9 : decode cL_order 9 = .ok (.aload_n 0, 1) := by decide +kernel
theorem dL_order_10 : decode cL_order 10 = .ok (.iload_n 1, 1) := by decide +kernel
theorem dL_order_11 : decode cL_order 11 = .ok (.iconst 2, 1) := by decide +kernel
theorem dL_order_12 : decode cL_order 12 = .ok (.invokevirtual 87, 3) := by decide +kernel
theorem dL_order_15 : decode cL_order 15 = .ok (.iadd, 1) := by decide +kernel
theorem dL_order_16 : decode cL_order 16 = .ok (.ireturn, 1) := by decide +kernel
set_option maxRecDepth 20000 in
theorem ggL_isNearest_L_order : GoodIn wsL_isNearest wsL_order := goodIn_r _ [11, 12, 13, 14, 15, 16, 17, 18, 19, 20, 21, 22, 23, 24, 25, 26, 27, 28, 29, 30, 31, 32, 33, 34, 35, 36, 37, 38, 39, 40, 41, 42, 43, 44, 45] (by decide +kernel) (by decide +kernel)
set_option maxRecDepth 20000 in
theorem gL_isNearest_L_order : GoodIn wsL_isNearest (va_wsS RL 90 yL_order wsL_order) := goodIn_app (goodIn_of _ (by decide +kernel)) ggL_isNearest_L_order
theorem dL_isNearest_0 : decode cL_isNearest 0 = .ok (.aload_n 0, 1) := by decide +kernel
theorem dL_isNearest_1 : decode cL_isNearest 1 = .ok (.iload_n 1, 1) := by decide +kernel
theorem dL_isNearest_2 : decode cL_isNearest 2 = .ok (.invokestatic 90, 3) := by decide +kernel
theorem dL_isNearest_5 : decode cL_isNearest 5 = .ok (.istore_n 3, 1) := by decide +kernel
theorem dL_isNearest_6 : decode cL_isNearest 6 = .ok (.iload_n 1, 1) := by decide +kernel
theorem dL_isNearest_7 : decode cL_isNearest 7 = .ok (.iload_n 2, 1) := by decide +kernel
theorem dL_isNearest_8 : decode cL_isNearest 8 = .ok (.invokestatic 94, 3) := by decide +kernel
theorem dL_isNearest_11 : decode cL_isNearest 11 = .ok (.istore 4, 2) := by decide +kernel
theorem dL_isNearest_13 : decode cL_isNearest 13 = .ok (.iload 4, 2) := by decide +kernel
theorem dL_isNearest_15 : decode cL_isNearest 15 = .ok (.iload_n 1, 1) := by decide +kernel
theorem dL_isNearest_16 : decode cL_isNearest 16 = .ok (.iload_n 2, 1) := by decide +kernel
theorem dL_isNearest_17 : decode cL_isNearest 17 = .ok (.invokestatic 57, 3) := by decide +kernel
theorem dL_isNearest_20 : decode cL_isNearest 20 = .ok (.if_icmp .gt 27, 3) := by decide +kernel
theorem dL_isNearest_23 : decode cL_isNearest 23 = .ok (.iload 4, 2) := by decide +kernel
theorem dL_isNearest_25 : decode cL_isNearest 25 = .ok (.iload_n 1, 1) := by decide +kernel
theorem dL_isNearest_26 : decode cL_isNearest 26 = .ok (.if_icmp .eq 15, 3) := by decide +kernel
theorem dL_isNearest_29 : decode cL_isNearest 29 = .ok (.aload_n 0, 1) := by decide +kernel
theorem dL_isNearest_30 : decode cL_isNearest 30 = .ok (.iload 4, 2) := by decide +kernel
theorem dL_isNearest_32 : decode cL_isNearest 32 = .ok (.invokestatic 90, 3) := by decide +kernel
theorem dL_isNearest_35 : decode cL_isNearest 35 = .ok (.iload_n 3, 1) := by decide +kernel
theorem dL_isNearest_36 : decode cL_isNearest 36 = .ok (.if_icmp .ge 5, 3) := by decide +kernel
theorem dL_isNearest_39 : decode cL_isNearest 39 = .ok (.iconst 0, 1) := by decide +kernel
theorem dL_isNearest_40 : decode cL_isNearest 40 = .ok (.ireturn, 1) := by decide +kernel
theorem dL_isNearest_41 : decode cL_isNearest 41 = .ok (.iinc 4 1, 3) := by decide +kernel
theorem dL_isNearest_44 : decode cL_isNearest 44 = .ok (.goto (-31), 3) := by decide +kernel
theorem dL_isNearest_47 : decode cL_isNearest 47 = .ok (.iconst 1, 1) := by decide +kernel
theorem dL_isNearest_48 : decode cL_isNearest 48 = .ok (.ireturn, 1) := by decide +kernel
set_option maxRecDepth 20000 in
theorem ggL_law_X6_init : GoodIn wsL_law wsX6_init := goodIn_r _ [18, 19, 20, 21, 22, 23, 24, 25, 26, 27, 28, 29, 30, 31, 32, 33, 34, 35, 36, 37, 38, 39, 40, 41, 42, 43, 44, 45, 46, 47, 48, 49, 50, 51, 52, 53, 54, 3, 55, 56, 57, 58, 59, 60, 61, 62, 63, 64, 65, 66, 67, 68, 69, 70, 71, 72, 73, 74, 75, 76, 77, 78, 79, 80, 81, 82, 83, 84, 85, 86, 87, 88, 89, 90, 91, 92, 93, 94, 95, 96, 97, 98, 99, 100, 101, 102, 103, 104, 105, 106, 107, 108, 109, 110, 111, 112, 113, 114, 115, 116, 765, 766, 767, 768, 769, 770, 771, 772, 749, 750, 751, 752, 753, 754, 755, 756, 757, 758, 759, 760, 773, 774, 775, 776, 777, 778, 779, 780, 781, 782, 783, 784, 785, 786, 787, 788, 789, 790, 791, 792, 793, 794, 795, 796, 797, 798, 799, 800, 801, 802] (by decide +kernel) (by decide +kernel)
set_option maxRecDepth 20000 in
theorem gL_law_X6_init : GoodIn wsL_law (wsX6_init) := ggL_law_X6_init
set_option maxRecDepth 20000 in
theorem ggL_law_L_build : GoodIn wsL_law wsL_build := goodIn_r _ [120, 121, 122, 119, 123, 124, 125, 126, 127, 128, 129, 2, 130, 39, 25, 131, 132, 133, 38, 134, 100, 101, 135, 136, 137, 24, 138, 55, 139, 140, 141, 142, 57, 58, 59, 60, 61, 62, 63, 143, 144, 145, 146, 147, 148, 149, 150, 151, 50, 51, 152, 153, 154, 155, 156, 157, 158, 159, 29, 33, 160, 161, 162, 163, 28, 164, 75, 73, 74, 165, 69, 70, 71, 78, 79, 80, 81, 166, 167, 168, 169, 170, 171, 172, 173, 76, 77, 72, 174, 10, 11, 12, 175, 176, 177, 178, 68, 179, 180, 181, 32, 182, 183, 85, 184, 185, 186, 187, 188, 189, 190, 191, 192, 193, 194, 195, 196, 197, 198, 199, 88, 89, 90, 91, 92, 93, 200, 86, 201, 202, 203, 204, 205, 206, 207, 208, 209, 87, 210, 211, 212, 213, 214, 215, 216, 217, 218, 219, 220, 221, 222, 223, 224, 225, 226, 227, 228, 229, 230, 231, 232, 98, 233, 14, 15, 234, 235, 236, 237, 238, 239, 240, 241, 242, 243, 244, 245, 246, 247, 248, 249, 250, 251, 252, 253, 254, 255, 256, 257, 258, 259, 260, 261, 262, 9, 263, 264, 265, 266, 267, 268, 269, 44, 270, 271, 272, 273, 274, 275, 276, 277, 278, 279, 280, 281, 282, 283, 284, 285, 286, 287, 288, 289, 290, 291, 292, 293, 294, 295, 296, 297, 298, 299, 300, 301, 302, 303, 304, 305, 306, 307, 308, 309, 310, 311, 312, 313, 314, 315, 316, 317, 318, 319, 320, 321, 322, 323, 324, 325, 326, 327, 328, 329, 330, 331, 332, 333, 334, 335, 336, 337, 338, 339, 340, 341, 342, 343, 344, 345, 346, 347, 348, 349, 350, 351, 352, 353, 354, 749, 750, 751, 752, 753, 754, 755, 756, 757, 758, 759, 760, 792, 793, 794, 765, 766, 767, 768, 769, 770, 771, 772, 773, 774, 775, 776, 777, 778, 779, 780, 781, 782, 783, 784, 785, 786, 787, 788, 789, 790, 791, 795, 796, 797, 798, 799, 800] (by decide +kernel) (by decide +kernel)
set_option maxRecDepth 20000 in
theorem gL_law_L_build : GoodIn wsL_law (va_wsS RL 98 yL_build wsL_build) := goodIn_app (goodIn_of _ (by decide +kernel)) ggL_law_L_build
set_option maxRecDepth 20000 in
theorem ggL_law_X6_account : GoodIn wsL_law wsX6_account := goodIn_r _ [266, 25, 147, 29, 267, 242, 33, 268, 269, 160, 259, 44, 270, 39, 271, 272, 273, 274, 24, 275, 60, 57, 276, 277, 278, 279, 61, 59, 280, 281, 282, 32, 283, 91, 284, 285, 286, 287, 288, 218, 219, 220, 55, 62, 289, 290, 291, 2, 292, 293, 294, 295, 296, 297, 298, 299, 300, 301, 302, 749, 750, 751, 752, 753, 754, 755, 756, 757, 758, 759, 760, 765, 766, 767, 768, 769, 770, 771, 772, 773, 774, 775, 776, 777, 778, 779, 780, 781, 782, 783, 784, 785, 786, 787, 788, 789, 790, 791, 795, 796, 797, 798, 799, 800, 792, 793, 794] (by decide +kernel) (by decide +kernel)
set_option maxRecDepth 20000 in
theorem gL_law_X6_account : GoodIn wsL_law (wsV RL 54 RX6 yX6_account wsX6_account) := goodIn_app (goodIn_of _ (by decide +kernel)) ggL_law_X6_account
set_option maxRecDepth 20000 in
theorem ggL_law_L_owners : GoodIn wsL_law wsL_owners := goodIn_r _ [357, 3, 263, 264, 265, 2, 266, 25, 147, 29, 267, 242, 33, 268, 269, 160, 259, 44, 270, 39, 271, 272, 273, 274, 24, 275, 60, 57, 276, 277, 278, 279, 61, 59, 280, 281, 282, 32, 283, 91, 284, 285, 286, 287, 288, 218, 219, 220, 55, 62, 289, 290, 291, 292, 293, 294, 295, 296, 297, 298, 299, 300, 301, 302, 358, 359, 360, 361, 328, 311, 362, 363, 364, 312, 313, 314, 315, 365, 167, 168, 169, 366, 367, 368, 28, 369, 73, 68, 70, 69, 370, 371, 372, 373, 749, 750, 751, 752, 753, 754, 755, 756, 757, 758, 759, 760, 765, 766, 767, 768, 769, 770, 771, 772, 773, 774, 775, 776, 777, 778, 779, 780, 781, 782, 783, 784, 785, 786, 787, 788, 789, 790, 791, 795, 796, 797, 798, 799, 800, 792, 793, 794] (by decide +kernel) (by decide +kernel)
set_option maxRecDepth 20000 in
theorem gL_law_L_owners : GoodIn wsL_law (va_wsS RL 102 yL_owners wsL_owners) := goodIn_app (goodIn_of _ (by decide +kernel)) ggL_law_L_owners
set_option maxRecDepth 20000 in
theorem ggL_law_L_home : GoodIn wsL_law wsL_home := goodIn_r _ [376] (by decide +kernel) (by decide +kernel)
set_option maxRecDepth 20000 in
theorem gL_law_L_home : GoodIn wsL_law (va_wsS RL 106 yL_home wsL_home) := goodIn_app (goodIn_of _ (by decide +kernel)) ggL_law_L_home
set_option maxRecDepth 20000 in
theorem ggL_law_X6_homeOf : GoodIn wsL_law wsX6_homeOf := goodIn_r _ [380, 29, 381, 189, 190, 28, 191, 70, 192, 193, 194, 195, 73, 69, 76, 77, 749, 750, 751, 752, 753, 754, 755, 756, 757, 758, 759, 760, 773, 774, 775, 776, 777, 778, 779, 780, 781, 782] (by decide +kernel) (by decide +kernel)
set_option maxRecDepth 20000 in
theorem gL_law_X6_homeOf : GoodIn wsL_law (wsV RL 109 RX6 yX6_homeOf wsX6_homeOf) := goodIn_app (goodIn_of _ (by decide +kernel)) ggL_law_X6_homeOf
set_option maxRecDepth 20000 in
theorem ggL_law_J4_init_da8c8 : GoodIn wsL_law wsJ4_init_da8c8 := goodIn_r _ [384, 385, 386, 387, 388, 389, 20, 21, 390, 391, 392, 393, 394, 395, 396, 397, 398, 399, 400, 401, 761, 762, 763, 764] (by decide +kernel) (by decide +kernel)
set_option maxRecDepth 20000 in
theorem gL_law_J4_init_da8c8 : GoodIn wsL_law (wsJ4_init_da8c8) := ggL_law_J4_init_da8c8
set_option maxRecDepth 20000 in
theorem ggL_law_J4_append_bf812 : GoodIn wsL_law wsJ4_append_bf812 := goodIn_r _ [405, 406, 407, 408, 409, 387, 410, 411, 392, 412, 413, 414, 415, 416, 417, 418, 419, 420, 393, 421, 422, 423, 424, 425, 426, 427, 428, 429, 430, 431, 10, 11, 12, 432, 433, 434, 435, 436, 437, 80, 438, 439, 440, 441, 442, 443, 444, 391, 445, 14, 15, 446, 140, 141, 142, 447, 448, 449, 450, 451, 390, 452, 453, 454, 455, 456, 457, 458, 396, 459, 460, 461, 462, 463, 464, 465, 466, 467, 468, 469, 470, 471, 472, 473, 474, 475, 476, 477, 478, 479, 480, 481, 482, 483, 484, 485, 761, 762, 763, 764] (by decide +kernel) (by decide +kernel)
set_option maxRecDepth 20000 in
theorem gL_law_J4_append_bf812 : GoodIn wsL_law (wsV RL 115 RJ4 yJ4_append_bf812 wsJ4_append_bf812) := goodIn_app (goodIn_of _ (by decide +kernel)) ggL_law_J4_append_bf812
set_option maxRecDepth 20000 in
theorem ggL_law_J4_append_15ec4 : GoodIn wsL_law wsJ4_append_15ec4 := goodIn_r _ [489, 490, 491, 408, 492, 387, 493, 411, 494, 495, 496, 497, 498, 392, 416, 417, 418, 419, 420, 393, 421, 422, 423, 424, 425, 426, 427, 428, 429, 430, 431, 10, 11, 12, 432, 433, 434, 435, 436, 437, 80, 438, 439, 440, 441, 442, 443, 444, 391, 445, 14, 15, 446, 140, 141, 142, 447, 448, 449, 450, 451, 390, 499, 500, 396, 501, 460, 461, 462, 463, 464, 465, 466, 467, 468, 469, 470, 471, 472, 473, 474, 475, 481, 482, 483, 484, 485, 502, 503, 504, 505, 506, 507, 508, 509, 510, 511, 512, 513, 514, 515, 516, 517, 518, 519, 520, 521, 522, 523, 524, 525, 526, 527, 528, 394, 395, 397, 398, 399, 400, 401, 529, 530, 531, 532, 533, 534, 535, 536, 537, 538, 539, 540, 541, 542, 543, 544, 545, 546, 547, 548, 549, 550, 761, 762, 763, 764, 803, 804, 805, 806] (by decide +kernel) (by decide +kernel)
set_option maxRecDepth 20000 in
theorem gL_law_J4_append_15ec4 : GoodIn wsL_law (wsV RL 120 RJ4 yJ4_append_15ec4 wsJ4_append_15ec4) := goodIn_app (goodIn_of _ (by decide +kernel)) ggL_law_J4_append_15ec4
set_option maxRecDepth 20000 in
theorem ggL_law_X6_pierOf : GoodIn wsL_law wsX6_pierOf := goodIn_r _ [361, 25, 328, 311, 29, 33, 362, 301, 363, 364, 312, 313, 314, 24, 315, 60, 365, 167, 168, 169, 57, 55, 366, 367, 368, 28, 369, 73, 68, 70, 69, 370, 371, 372, 373, 302, 218, 219, 220, 62, 293, 294, 295, 2, 296, 297, 298, 299, 300, 749, 750, 751, 752, 753, 754, 755, 756, 757, 758, 759, 760, 765, 766, 767, 768, 769, 770, 771, 772, 783, 784, 785, 786, 787, 788, 789, 790, 791, 773, 774, 775, 776, 777, 778, 779, 780, 781, 782] (by decide +kernel) (by decide +kernel)
set_option maxRecDepth 20000 in
theorem gL_law_X6_pierOf : GoodIn wsL_law (wsV RL 81 RX6 yX6_pierOf wsX6_pierOf) := goodIn_app (goodIn_of _ (by decide +kernel)) ggL_law_X6_pierOf
set_option maxRecDepth 20000 in
theorem ggL_law_J4_toString_0e30d : GoodIn wsL_law wsJ4_toString_0e30d := goodIn_r _ [554, 555, 556, 469, 557, 558, 559, 560, 561, 562, 563, 20, 21, 512, 506, 511, 564, 565, 566, 567, 568, 387, 569, 392, 570, 571, 572, 573, 574, 7, 575, 576, 408, 577, 578, 411, 579, 448, 449, 450, 451, 390, 393, 580, 581, 80, 582, 439, 440, 441, 442, 443, 444, 583, 584, 585, 391, 445, 14, 11, 15, 446, 140, 141, 142, 586, 587, 588, 589, 590, 396, 591, 592, 593, 594, 536, 537, 538, 464, 465, 466, 539, 540, 541, 471, 542, 543, 474, 544, 595, 596, 597, 460, 484, 485, 398, 399, 400, 401, 598, 599, 600, 601, 803, 804, 805, 806, 761, 762, 763, 764] (by decide +kernel) (by decide +kernel)
set_option maxRecDepth 20000 in
theorem gL_law_J4_toString_0e30d : GoodIn wsL_law (wsV RL 129 RJ4 yJ4_toString_0e30d wsJ4_toString_0e30d) := goodIn_app (goodIn_of _ (by decide +kernel)) ggL_law_J4_toString_0e30d
set_option maxRecDepth 20000 in
theorem ggL_law_X6_bargeOf : GoodIn wsL_law wsX6_bargeOf := goodIn_r _ [605, 25, 606, 354, 33, 607, 608, 337, 338, 339, 24, 340, 61, 609, 185, 186, 187, 58, 749, 750, 751, 752, 753, 754, 755, 756, 757, 758, 759, 760, 765, 766, 767, 768, 769, 770, 771, 772, 783, 784, 785, 786, 787, 788, 789, 790, 791] (by decide +kernel) (by decide +kernel)
set_option maxRecDepth 20000 in
theorem gL_law_X6_bargeOf : GoodIn wsL_law (wsV RL 84 RX6 yX6_bargeOf wsX6_bargeOf) := goodIn_app (goodIn_of _ (by decide +kernel)) ggL_law_X6_bargeOf
set_option maxRecDepth 20000 in
theorem ggL_law_X6_home : GoodIn wsL_law wsX6_home := goodIn_r _ [613, 25, 29, 337, 338, 339, 24, 340, 61, 609, 185, 186, 187, 58, 381, 189, 190, 28, 191, 70, 192, 193, 194, 195, 73, 69, 76, 77, 749, 750, 751, 752, 753, 754, 755, 756, 757, 758, 759, 760, 765, 766, 767, 768, 769, 770, 771, 772, 773, 774, 775, 776, 777, 778, 779, 780, 781, 782] (by decide +kernel) (by decide +kernel)
set_option maxRecDepth 20000 in
theorem gL_law_X6_home : GoodIn wsL_law (wsV RL 143 RX6 yX6_home wsX6_home) := goodIn_app (goodIn_of _ (by decide +kernel)) ggL_law_X6_home
set_option maxRecDepth 20000 in
theorem ggL_law_X6_homeAgain : GoodIn wsL_law wsX6_homeAgain := goodIn_r _ [617, 25, 29, 337, 338, 339, 24, 340, 61, 609, 185, 186, 187, 58, 618, 619, 620, 28, 621, 75, 70, 749, 750, 751, 752, 753, 754, 755, 756, 757, 758, 759, 760, 765, 766, 767, 768, 769, 770, 771, 772, 773, 774, 775, 776, 777, 778, 779, 780, 781, 782] (by decide +kernel) (by decide +kernel)
set_option maxRecDepth 20000 in
theorem gL_law_X6_homeAgain : GoodIn wsL_law (wsV RL 145 RX6 yX6_homeAgain wsX6_homeAgain) := goodIn_app (goodIn_of _ (by decide +kernel)) ggL_law_X6_homeAgain
set_option maxRecDepth 20000 in
theorem ggL_law_X6_tellBarge : GoodIn wsL_law wsX6_tellBarge := goodIn_r _ [625, 25, 48, 606, 354, 33, 607, 626, 337, 338, 339, 24, 340, 61, 627, 628, 629, 47, 630, 116, 631, 632, 633, 634, 635, 636, 637, 638, 115, 639, 609, 185, 186, 187, 58, 749, 750, 751, 752, 753, 754, 755, 756, 757, 758, 759, 760, 765, 766, 767, 768, 769, 770, 771, 772, 783, 784, 785, 786, 787, 788, 789, 790, 791, 801, 802] (by decide +kernel) (by decide +kernel)
set_option maxRecDepth 20000 in
theorem gL_law_X6_tellBarge : GoodIn wsL_law (wsV RL 148 RX6 yX6_tellBarge wsX6_tellBarge) := goodIn_app (goodIn_of _ (by decide +kernel)) ggL_law_X6_tellBarge
set_option maxRecDepth 20000 in
theorem ggL_law_J0_length_8abf5 : GoodIn wsL_law wsJ0_length_8abf5 := goodIn_r _ [505, 506, 507, 508, 509, 469, 510, 511, 512, 803, 804, 805, 806] (by decide +kernel) (by decide +kernel)
set_option maxRecDepth 20000 in
theorem gL_law_J0_length_8abf5 : GoodIn wsL_law (wsV RL 19 RJ0 yJ0_length_8abf5 wsJ0_length_8abf5) := goodIn_app (goodIn_of _ (by decide +kernel)) ggL_law_J0_length_8abf5
set_option maxRecDepth 20000 in
theorem ggL_law_X6_character : GoodIn wsL_law wsX6_character := goodIn_r _ [644, 48, 626, 645, 749, 750, 751, 752, 753, 754, 755, 756, 757, 758, 759, 760, 801, 802] (by decide +kernel) (by decide +kernel)
set_option maxRecDepth 20000 in
theorem gL_law_X6_character : GoodIn wsL_law (wsV RL 151 RX6 yX6_character wsX6_character) := goodIn_app (goodIn_of _ (by decide +kernel)) ggL_law_X6_character
set_option maxRecDepth 20000 in
theorem ggL_law_J0_charAt_5068e : GoodIn wsL_law wsJ0_charAt_5068e := goodIn_r _ [649, 506, 650, 651, 652, 469, 653, 511, 512, 654, 655, 531, 656, 657, 658, 659, 471, 660, 661, 474, 662, 663, 664, 396, 665, 666, 667, 668, 464, 465, 466, 669, 595, 596, 597, 460, 484, 485, 803, 804, 805, 806] (by decide +kernel) (by decide +kernel)
set_option maxRecDepth 20000 in
theorem gL_law_J0_charAt_5068e : GoodIn wsL_law (wsV RL 25 RJ0 yJ0_charAt_5068e wsJ0_charAt_5068e) := goodIn_app (goodIn_of _ (by decide +kernel)) ggL_law_J0_charAt_5068e
set_option maxRecDepth 20000 in
theorem ggL_law_X6_tell : GoodIn wsL_law wsX6_tell := goodIn_r _ [673, 25, 48, 328, 311, 242, 33, 607, 626, 312, 313, 314, 24, 315, 60, 627, 628, 629, 47, 630, 116, 631, 632, 633, 634, 635, 636, 637, 638, 115, 639, 749, 750, 751, 752, 753, 754, 755, 756, 757, 758, 759, 760, 765, 766, 767, 768, 769, 770, 771, 772, 783, 784, 785, 786, 787, 788, 789, 790, 791, 801, 802] (by decide +kernel) (by decide +kernel)
set_option maxRecDepth 20000 in
theorem gL_law_X6_tell : GoodIn wsL_law (wsV RL 156 RX6 yX6_tell wsX6_tell) := goodIn_app (goodIn_of _ (by decide +kernel)) ggL_law_X6_tell
set_option maxRecDepth 20000 in
theorem ggL_law_X6_isBalanced : GoodIn wsL_law wsX6_isBalanced := goodIn_r _ [677, 678, 679, 680, 2, 681, 25, 242, 29, 609, 185, 186, 24, 187, 58, 381, 189, 190, 28, 191, 70, 192, 193, 194, 195, 73, 69, 76, 77, 618, 619, 620, 621, 75, 682, 683, 684, 685, 147, 366, 367, 368, 369, 68, 370, 371, 372, 373, 272, 273, 274, 275, 60, 57, 686, 687, 688, 689, 33, 364, 302, 218, 219, 220, 55, 62, 690, 691, 692, 693, 311, 694, 695, 696, 697, 698, 35, 699, 700, 701, 702, 703, 704, 705, 706, 707, 708, 709, 710, 34, 711, 136, 137, 138, 139, 140, 141, 142, 59, 61, 63, 161, 162, 163, 164, 74, 165, 71, 78, 79, 80, 81, 166, 167, 168, 169, 170, 171, 172, 173, 72, 174, 10, 11, 12, 175, 176, 177, 178, 749, 750, 751, 752, 753, 754, 755, 756, 757, 758, 759, 760, 765, 766, 767, 768, 769, 770, 771, 772, 773, 774, 775, 776, 777, 778, 779, 780, 781, 782, 783, 784, 785, 786, 787, 788, 789, 790, 791] (by decide +kernel) (by decide +kernel)
set_option maxRecDepth 20000 in
theorem gL_law_X6_isBalanced : GoodIn wsL_law (wsV RL 159 RX6 yX6_isBalanced wsX6_isBalanced) := goodIn_app (goodIn_of _ (by decide +kernel)) ggL_law_X6_isBalanced
set_option maxRecDepth 20000 in
theorem ggL_law_X6_meanStretch : GoodIn wsL_law wsX6_meanStretch := goodIn_r _ [715, 25, 716, 272, 273, 274, 24, 275, 60, 57, 749, 750, 751, 752, 753, 754, 755, 756, 757, 758, 759, 760, 765, 766, 767, 768, 769, 770, 771, 772] (by decide +kernel) (by decide +kernel)
set_option maxRecDepth 20000 in
theorem gL_law_X6_meanStretch : GoodIn wsL_law (wsV RL 162 RX6 yX6_meanStretch wsX6_meanStretch) := goodIn_app (goodIn_of _ (by decide +kernel)) ggL_law_X6_meanStretch
set_option maxRecDepth 20000 in
theorem ggL_law_X6_takenShare : GoodIn wsL_law wsX6_takenShare := goodIn_r _ [720, 25, 33, 284, 285, 286, 24, 287, 60, 288, 218, 219, 220, 57, 55, 62, 280, 281, 282, 32, 283, 91, 749, 750, 751, 752, 753, 754, 755, 756, 757, 758, 759, 760, 765, 766, 767, 768, 769, 770, 771, 772, 783, 784, 785, 786, 787, 788, 789, 790, 791] (by decide +kernel) (by decide +kernel)
set_option maxRecDepth 20000 in
theorem gL_law_X6_takenShare : GoodIn wsL_law (wsV RL 168 RX6 yX6_takenShare wsX6_takenShare) := goodIn_app (goodIn_of _ (by decide +kernel)) ggL_law_X6_takenShare
set_option maxRecDepth 20000 in
theorem ggL_law_X6_hottest : GoodIn wsL_law wsX6_hottest := goodIn_r _ [724, 25, 147, 725, 726, 727, 2, 728, 328, 297, 298, 299, 300, 33, 301, 302, 218, 219, 24, 220, 57, 55, 62, 749, 750, 751, 752, 753, 754, 755, 756, 757, 758, 759, 760, 765, 766, 767, 768, 769, 770, 771, 772, 783, 784, 785, 786, 787, 788, 789, 790, 791] (by decide +kernel) (by decide +kernel)
set_option maxRecDepth 20000 in
theorem gL_law_X6_hottest : GoodIn wsL_law (wsV RL 172 RX6 yX6_hottest wsX6_hottest) := goodIn_app (goodIn_of _ (by decide +kernel)) ggL_law_X6_hottest
set_option maxRecDepth 20000 in
theorem ggL_law_X6_ring : GoodIn wsL_law wsX6_ring := goodIn_r _ [732, 29, 267, 733, 734, 735, 736, 737, 749, 750, 751, 752, 753, 754, 755, 756, 757, 758, 759, 760, 773, 774, 775, 776, 777, 778, 779, 780, 781, 782] (by decide +kernel) (by decide +kernel)
set_option maxRecDepth 20000 in
theorem gL_law_X6_ring : GoodIn wsL_law (wsV RL 87 RX6 yX6_ring wsX6_ring) := goodIn_app (goodIn_of _ (by decide +kernel)) ggL_law_X6_ring
set_option maxRecDepth 20000 in
theorem ggL_law_X6_deep : GoodIn wsL_law wsX6_deep := goodIn_r _ [741, 29, 742, 749, 750, 751, 752, 753, 754, 755, 756, 757, 758, 759, 760, 773, 774, 775, 776, 777, 778, 779, 780, 781, 782] (by decide +kernel) (by decide +kernel)
set_option maxRecDepth 20000 in
theorem gL_law_X6_deep : GoodIn wsL_law (wsV RL 175 RX6 yX6_deep wsX6_deep) := goodIn_app (goodIn_of _ (by decide +kernel)) ggL_law_X6_deep
set_option maxRecDepth 20000 in
theorem ggL_law_L_some : GoodIn wsL_law wsL_some := goodIn_r _ [123, 124, 125, 119, 126] (by decide +kernel) (by decide +kernel)
set_option maxRecDepth 20000 in
theorem gL_law_L_some : GoodIn wsL_law (va_wsS RL 36 yL_some wsL_some) := goodIn_app (goodIn_of _ (by decide +kernel)) ggL_law_L_some
set_option maxRecDepth 20000 in
theorem ggL_law_L_order : GoodIn wsL_law wsL_order := goodIn_r _ [745, 729, 730, 731, 2, 732, 29, 267, 733, 734, 735, 736, 737, 749, 750, 751, 752, 753, 754, 755, 756, 757, 758, 759, 760, 773, 774, 775, 776, 777, 778, 779, 780, 781, 782] (by decide +kernel) (by decide +kernel)
set_option maxRecDepth 20000 in
theorem gL_law_L_order : GoodIn wsL_law (va_wsS RL 90 yL_order wsL_order) := goodIn_app (goodIn_of _ (by decide +kernel)) ggL_law_L_order
set_option maxRecDepth 20000 in
theorem ggL_law_L_isNearest : GoodIn wsL_law wsL_isNearest := goodIn_r _ [748, 13, 14, 11, 15, 9, 10, 12, 743, 744, 119, 745, 729, 730, 731, 2, 732, 29, 267, 733, 734, 735, 736, 737, 749, 750, 751, 752, 753, 754, 755, 756, 757, 758, 759, 760, 773, 774, 775, 776, 777, 778, 779, 780, 781, 782] (by decide +kernel) (by decide +kernel)
set_option maxRecDepth 20000 in
theorem gL_law_L_isNearest : GoodIn wsL_law (va_wsS RL 178 yL_isNearest wsL_isNearest) := goodIn_app (goodIn_of _ (by decide +kernel)) ggL_law_L_isNearest
set_option maxRecDepth 20000 in
theorem ggL_law_L_acts : GoodIn wsL_law wsL_acts := goodIn_r _ [262, 9, 10, 11, 12, 263, 264, 265, 2, 266, 25, 147, 29, 267, 242, 33, 268, 269, 160, 259, 44, 270, 39, 271, 272, 273, 274, 24, 275, 60, 57, 276, 277, 278, 279, 61, 59, 280, 281, 282, 32, 283, 91, 284, 285, 286, 287, 288, 218, 219, 220, 55, 62, 289, 290, 291, 292, 293, 294, 295, 296, 297, 298, 299, 300, 301, 302, 121, 122, 119, 123, 124, 125, 126, 127, 128, 129, 130, 131, 132, 133, 38, 134, 100, 101, 135, 136, 137, 138, 139, 140, 141, 142, 58, 63, 143, 144, 145, 146, 148, 149, 150, 151, 50, 51, 152, 153, 154, 155, 156, 157, 158, 159, 161, 162, 163, 28, 164, 75, 73, 74, 165, 69, 70, 71, 78, 79, 80, 81, 166, 167, 168, 169, 170, 171, 172, 173, 76, 77, 72, 174, 175, 176, 177, 178, 68, 179, 180, 181, 182, 183, 85, 184, 185, 186, 187, 188, 189, 190, 191, 192, 193, 194, 195, 196, 197, 198, 199, 88, 89, 90, 92, 93, 200, 86, 201, 202, 203, 204, 205, 206, 207, 208, 209, 87, 210, 211, 212, 213, 214, 215, 216, 217, 221, 222, 223, 224, 225, 226, 227, 228, 229, 230, 231, 232, 98, 233, 14, 15, 303, 304, 305, 306, 307, 308, 309, 310, 311, 312, 313, 314, 315, 316, 317, 318, 319, 320, 321, 322, 323, 324, 325, 326, 327, 328, 234, 235, 236, 237, 238, 239, 240, 241, 243, 244, 245, 246, 247, 248, 249, 250, 329, 330, 331, 332, 333, 334, 335, 336, 337, 338, 339, 340, 341, 342, 343, 344, 345, 346, 347, 348, 349, 350, 351, 352, 353, 354, 251, 252, 253, 254, 255, 256, 257, 258, 749, 750, 751, 752, 753, 754, 755, 756, 757, 758, 759, 760, 765, 766, 767, 768, 769, 770, 771, 772, 773, 774, 775, 776, 777, 778, 779, 780, 781, 782, 783, 784, 785, 786, 787, 788, 789, 790, 791, 795, 796, 797, 798, 799, 800, 792, 793, 794] (by decide +kernel) (by decide +kernel)
set_option maxRecDepth 20000 in
theorem gL_law_L_acts : GoodIn wsL_law (va_wsS RL 50 yL_acts wsL_acts) := goodIn_app (goodIn_of _ (by decide +kernel)) ggL_law_L_acts
