set_option maxRecDepth 20000 in
theorem ggX6_tellBarge_X1_pointOf : GoodIn wsX6_tellBarge wsX1_pointOf := goodIn_r _ [33, 34, 47, 48, 49, 50, 51, 52, 53, 54] (by decide +kernel) (by decide +kernel)
set_option maxRecDepth 20000 in
theorem gX6_tellBarge_X1_pointOf : GoodIn wsX6_tellBarge (wsV RX6 150 RX1 yX1_pointOf wsX1_pointOf) := goodIn_app (goodIn_of _ (by decide +kernel)) ggX6_tellBarge_X1_pointOf
theorem dX6_tellBarge_0 : decode cX6_tellBarge 0 = .ok (.aload_n 0, 1) := by decide +kernel
theorem dX6_tellBarge_1 : decode cX6_tellBarge 1 = .ok (.getfield 12, 3) := by decide +kernel
theorem dX6_tellBarge_4 : decode cX6_tellBarge 4 = .ok (.iload_n 1, 1) := by decide +kernel
theorem dX6_tellBarge_5 : decode cX6_tellBarge 5 = .ok (.invokevirtual 141, 3) := by decide +kernel
theorem dX6_tellBarge_8 : decode cX6_tellBarge 8 = .ok (.ifCond .ne 6, 3) := by decide +kernel
theorem dX6_tellBarge_11 : decode cX6_tellBarge 11 = .ok (.bipush (-11), 2) := by decide +kernel
theorem dX6_tellBarge_13 : decode cX6_tellBarge 13 = .ok (.ireturn, 1) := by decide +kernel
theorem dX6_tellBarge_14 : decode cX6_tellBarge 14 = .ok (.aload_n 0, 1) := by decide +kernel
theorem dX6_tellBarge_15 : decode cX6_tellBarge 15 = .ok (.getfield 56, 3) := by decide +kernel
theorem dX6_tellBarge_18 : decode cX6_tellBarge 18 = .ok (.invokevirtual 244, 3) := by decide +kernel
theorem dX6_tellBarge_21 : decode cX6_tellBarge 21 = .ok (.aload_n 0, 1) := by decide +kernel
theorem dX6_tellBarge_22 : decode cX6_tellBarge 22 = .ok (.getfield 56, 3) := by decide +kernel
theorem dX6_tellBarge_25 : decode cX6_tellBarge 25 = .ok (.iload_n 1, 1) := by decide +kernel
theorem dX6_tellBarge_26 : decode cX6_tellBarge 26 = .ok (.invokevirtual 245, 3) := by decide +kernel
theorem dX6_tellBarge_29 : decode cX6_tellBarge 29 = .ok (.aload_n 0, 1) := by decide +kernel
theorem dX6_tellBarge_30 : decode cX6_tellBarge 30 = .ok (.getfield 56, 3) := by decide +kernel
theorem dX6_tellBarge_33 : decode cX6_tellBarge 33 = .ok (.bipush 61, 2) := by decide +kernel
theorem dX6_tellBarge_35 : decode cX6_tellBarge 35 = .ok (.invokevirtual 248, 3) := by decide +kernel
theorem dX6_tellBarge_38 : decode cX6_tellBarge 38 = .ok (.aload_n 0, 1) := by decide +kernel
theorem dX6_tellBarge_39 : decode cX6_tellBarge 39 = .ok (.getfield 56, 3) := by decide +kernel
theorem dX6_tellBarge_42 : decode cX6_tellBarge 42 = .ok (.aload_n 0, 1) := by decide +kernel
theorem dX6_tellBarge_43 : decode cX6_tellBarge 43 = .ok (.getfield 12, 3) := by decide +kernel
theorem dX6_tellBarge_46 : decode cX6_tellBarge 46 = .ok (.getfield 144, 3) := by decide +kernel
theorem dX6_tellBarge_49 : decode cX6_tellBarge 49 = .ok (.iload_n 1, 1) := by decide +kernel
theorem dX6_tellBarge_50 : decode cX6_tellBarge 50 = .ok (.iaload, 1) := by decide +kernel
theorem dX6_tellBarge_51 : decode cX6_tellBarge 51 = .ok (.invokevirtual 245, 3) := by decide +kernel
theorem dX6_tellBarge_54 : decode cX6_tellBarge 54 = .ok (.aload_n 0, 1) := by decide +kernel
theorem dX6_tellBarge_55 : decode cX6_tellBarge 55 = .ok (.getfield 56, 3) := by decide +kernel
theorem dX6_tellBarge_58 : decode cX6_tellBarge 58 = .ok (.bipush 64, 2) := by decide +kernel
theorem dX6_tellBarge_60 : decode cX6_tellBarge 60 = .ok (.invokevirtual 248, 3) := by decide +kernel
theorem dX6_tellBarge_63 : decode cX6_tellBarge 63 = .ok (.aload_n 0, 1) := by decide +kernel
theorem dX6_tellBarge_64 : decode cX6_tellBarge 64 = .ok (.getfield 56, 3) := by decide +kernel
theorem dX6_tellBarge_67 : decode cX6_tellBarge 67 = .ok (.aload_n 0, 1) := by decide +kernel
theorem dX6_tellBarge_68 : decode cX6_tellBarge 68 = .ok (.getfield 12, 3) := by decide +kernel
theorem dX6_tellBarge_71 : decode cX6_tellBarge 71 = .ok (.iload_n 1, 1) := by decide +kernel
theorem dX6_tellBarge_72 : decode cX6_tellBarge 72 = .ok (.invokevirtual 150, 3) := by decide +kernel
theorem dX6_tellBarge_75 : decode cX6_tellBarge 75 = .ok (.invokevirtual 245, 3) := by decide +kernel
theorem dX6_tellBarge_78 : decode cX6_tellBarge 78 = .ok (.aload_n 0, 1) := by decide +kernel
theorem dX6_tellBarge_79 : decode cX6_tellBarge 79 = .ok (.getfield 56, 3) := by decide +kernel
theorem dX6_tellBarge_82 : decode cX6_tellBarge 82 = .ok (.bipush 43, 2) := by decide +kernel
theorem dX6_tellBarge_84 : decode cX6_tellBarge 84 = .ok (.invokevirtual 248, 3) := by decide +kernel
theorem dX6_tellBarge_87 : decode cX6_tellBarge 87 = .ok (.aload_n 0, 1) := by decide +kernel
theorem dX6_tellBarge_88 : decode cX6_tellBarge 88 = .ok (.getfield 56, 3) := by decide +kernel
theorem dX6_tellBarge_91 : decode cX6_tellBarge 91 = .ok (.aload_n 0, 1) := by decide +kernel
theorem dX6_tellBarge_92 : decode cX6_tellBarge 92 = .ok (.getfield 12, 3) := by decide +kernel
theorem dX6_tellBarge_95 : decode cX6_tellBarge 95 = .ok (.getfield 147, 3) := by decide +kernel
theorem dX6_tellBarge_98 : decode cX6_tellBarge 98 = .ok (.iload_n 1, 1) := by decide +kernel
theorem dX6_tellBarge_99 : decode cX6_tellBarge 99 = .ok (.iaload, 1) := by decide +kernel
theorem dX6_tellBarge_100 : decode cX6_tellBarge 100 = .ok (.invokevirtual 245, 3) := by decide +kernel
theorem dX6_tellBarge_103 : decode cX6_tellBarge 103 = .ok (.aload_n 0, 1) := by decide +kernel
theorem dX6_tellBarge_104 : decode cX6_tellBarge 104 = .ok (.getfield 56, 3) := by decide +kernel
theorem dX6_tellBarge_107 : decode cX6_tellBarge 107 = .ok (.bipush 62, 2) := by decide +kernel
theorem dX6_tellBarge_109 : decode cX6_tellBarge 109 = .ok (.invokevirtual 248, 3) := by decide +kernel
theorem dX6_tellBarge_112 : decode cX6_tellBarge 112 = .ok (.aload_n 0, 1) := by decide +kernel
theorem dX6_tellBarge_113 : decode cX6_tellBarge 113 = .ok (.getfield 26, 3) := by decide +kernel
theorem dX6_tellBarge_116 : decode cX6_tellBarge 116 = .ok (.getfield 153, 3) := by decide +kernel
theorem dX6_tellBarge_119 : decode cX6_tellBarge 119 = .ok (.iload_n 1, 1) := by decide +kernel
theorem dX6_tellBarge_120 : decode cX6_tellBarge 120 = .ok (.iaload, 1) := by decide +kernel
theorem dX6_tellBarge_121 : decode cX6_tellBarge 121 = .ok (.bipush (-15), 2) := by decide +kernel
theorem dX6_tellBarge_123 : decode cX6_tellBarge 123 = .ok (.if_icmp .ne 15, 3) := by decide +kernel
theorem dX6_tellBarge_126 : decode cX6_tellBarge 126 = .ok (.aload_n 0, 1) := by decide +kernel
theorem dX6_tellBarge_127 : decode cX6_tellBarge 127 = .ok (.getfield 56, 3) := by decide +kernel
theorem dX6_tellBarge_130 : decode cX6_tellBarge 130 = .ok (.bipush 45, 2) := by decide +kernel
theorem dX6_tellBarge_132 : decode cX6_tellBarge 132 = .ok (.invokevirtual 248, 3) := by decide +kernel
theorem dX6_tellBarge_135 : decode cX6_tellBarge 135 = .ok (.goto 19, 3) := by decide +kernel
theorem dX6_tellBarge_138 : decode cX6_tellBarge 138 = .ok (.aload_n 0, 1) := by decide +kernel
theorem dX6_tellBarge_139 : decode cX6_tellBarge 139 = .ok (.getfield 56, 3) := by decide +kernel
theorem dX6_tellBarge_142 : decode cX6_tellBarge 142 = .ok (.aload_n 0, 1) := by decide +kernel
theorem dX6_tellBarge_143 : decode cX6_tellBarge 143 = .ok (.getfield 26, 3) := by decide +kernel
theorem dX6_tellBarge_146 : decode cX6_tellBarge 146 = .ok (.getfield 153, 3) := by decide +kernel
theorem dX6_tellBarge_149 : decode cX6_tellBarge 149 = .ok (.iload_n 1, 1) := by decide +kernel
theorem dX6_tellBarge_150 : decode cX6_tellBarge 150 = .ok (.iaload, 1) := by decide +kernel
theorem dX6_tellBarge_151 : decode cX6_tellBarge 151 = .ok (.invokevirtual 245, 3) := by decide +kernel
theorem dX6_tellBarge_154 : decode cX6_tellBarge 154 = .ok (.aload_n 0, 1) := by decide +kernel
theorem dX6_tellBarge_155 : decode cX6_tellBarge 155 = .ok (.getfield 56, 3) := by decide +kernel
theorem dX6_tellBarge_158 : decode cX6_tellBarge 158 = .ok (.getfield 255, 3) := by decide +kernel
theorem dX6_tellBarge_161 : decode cX6_tellBarge 161 = .ok (.ireturn, 1) := by decide +kernel
theorem dX6_character_0 : decode cX6_character 0 = .ok (.iload_n 1, 1) := by decide +kernel
theorem dX6_character_1 : decode cX6_character 1 = .ok (.ifCond .lt 26, 3) := by decide +kernel
theorem dX6_character_4 : decode cX6_character 4 = .ok (.iload_n 1, 1) := by decide +kernel
theorem dX6_character_5 : decode cX6_character 5 = .ok (.aload_n 0, 1) := by decide +kernel
theorem dX6_character_6 : decode cX6_character 6 = .ok (.getfield 56, 3) := by decide +kernel
theorem dX6_character_9 : decode cX6_character 9 = .ok (.getfield 255, 3) := by decide +kernel
theorem dX6_character_12 : decode cX6_character 12 = .ok (.if_icmp .ge 15, 3) := by decide +kernel
theorem dX6_character_15 : decode cX6_character 15 = .ok (.aload_n 0, 1) := by decide +kernel
theorem dX6_character_16 : decode cX6_character 16 = .ok (.getfield 56, 3) := by decide +kernel
theorem dX6_character_19 : decode cX6_character 19 = .ok (.getfield 256, 3) := by decide +kernel
theorem dX6_character_22 : decode cX6_character 22 = .ok (.iload_n 1, 1) := by decide +kernel
theorem dX6_character_23 : decode cX6_character 23 = .ok (.caload, 1) := by decide +kernel
theorem dX6_character_24 : decode cX6_character 24 = .ok (.goto 5, 3) := by decide +kernel
theorem dX6_character_27 : decode cX6_character 27 = .ok (.bipush (-11), 2) := by decide +kernel
theorem dX6_character_29 : decode cX6_character 29 = .ok (.ireturn, 1) := by decide +kernel
theorem dX6_reason_0 : decode cX6_reason 0 = .ok (.iload_n 1, 1) := by decide +kernel
theorem dX6_reason_1 : decode cX6_reason 1 = .ok (.ifCond .eq 10, 3) := by decide +kernel
theorem dX6_reason_4 : decode cX6_reason 4 = .ok (.aload_n 0, 1) := by decide +kernel
theorem dX6_reason_5 : decode cX6_reason 5 = .ok (.getfield 68, 3) := by decide +kernel
theorem dX6_reason_8 : decode cX6_reason 8 = .ok (.goto 7, 3) := by decide +kernel
theorem dX6_reason_11 : decode cX6_reason 11 = .ok (.aload_n 0, 1) := by decide +kernel
theorem dX6_reason_12 : decode cX6_reason 12 = .ok (.getfield 64, 3) := by decide +kernel
theorem dX6_reason_15 : decode cX6_reason 15 = .ok (.ireturn, 1) := by decide +kernel
set_option maxRecDepth 20000 in
theorem ggX6_account_X1_openPiers : GoodIn wsX6_account wsX1_openPiers := goodIn_r _ [19, 20, 21, 71, 72, 73, 74, 75, 76, 77, 78] (by decide +kernel) (by decide +kernel)
set_option maxRecDepth 20000 in
theorem gX6_account_X1_openPiers : GoodIn wsX6_account (wsV RX6 260 RX1 yX1_openPiers wsX1_openPiers) := goodIn_app (goodIn_of _ (by decide +kernel)) ggX6_account_X1_openPiers
set_option maxRecDepth 20000 in
theorem ggX6_account_X1_allTons : GoodIn wsX6_account wsX1_allTons := goodIn_r _ [25, 26, 27, 71, 72, 73, 74, 75, 76, 77, 78] (by decide +kernel) (by decide +kernel)
set_option maxRecDepth 20000 in
theorem gX6_account_X1_allTons : GoodIn wsX6_account (wsV RX6 269 RX1 yX1_allTons wsX1_allTons) := goodIn_app (goodIn_of _ (by decide +kernel)) ggX6_account_X1_allTons
set_option maxRecDepth 20000 in
theorem ggX6_account_X4_allLyingTons : GoodIn wsX6_account wsX4_allLyingTons := goodIn_r _ [32, 33, 89, 90, 91, 92, 93, 94, 95, 96, 97] (by decide +kernel) (by decide +kernel)
set_option maxRecDepth 20000 in
theorem gX6_account_X4_allLyingTons : GoodIn wsX6_account (wsV RX6 272 RX4 yX4_allLyingTons wsX4_allLyingTons) := goodIn_app (goodIn_of _ (by decide +kernel)) ggX6_account_X4_allLyingTons
set_option maxRecDepth 20000 in
theorem ggX6_account_X1_allRoom : GoodIn wsX6_account wsX1_allRoom := goodIn_r _ [37, 20, 38, 39, 40, 18, 41, 21, 42, 43, 71, 72, 73, 74, 75, 76, 77, 78] (by decide +kernel) (by decide +kernel)
set_option maxRecDepth 20000 in
theorem gX6_account_X1_allRoom : GoodIn wsX6_account (wsV RX6 275 RX1 yX1_allRoom wsX1_allRoom) := goodIn_app (goodIn_of _ (by decide +kernel)) ggX6_account_X1_allRoom
set_option maxRecDepth 20000 in
theorem ggX6_account_X6_hotPiers : GoodIn wsX6_account wsX6_hotPiers := goodIn_r _ [48, 1, 2, 49, 50, 51, 47, 52, 53, 54, 55, 56, 6, 57, 58, 39, 40, 18, 41, 21, 42, 43, 59, 60, 61, 62, 63, 64, 65, 66, 67, 68, 69, 70, 71, 72, 73, 74, 75, 76, 77, 78, 89, 90, 91, 92, 93, 94, 95, 96, 97] (by decide +kernel) (by decide +kernel)
set_option maxRecDepth 20000 in
theorem gX6_account_X6_hotPiers : GoodIn wsX6_account (wsV RX6 284 RX6 yX6_hotPiers wsX6_hotPiers) := goodIn_app (goodIn_of _ (by decide +kernel)) ggX6_account_X6_hotPiers
theorem dX6_account_0 : decode cX6_account 0 = .ok (.iload_n 1, 1) := by decide +kernel
theorem dX6_account_1 : decode cX6_account 1 = .ok (.tableswitch 208 0 14 #[75, 83, 91, 99, 107, 115, 123, 147, 155, 163, 171, 179, 187, 192, 200], 75) := by decide +kernel
theorem dX6_account_76 : decode cX6_account 76 = .ok (.aload_n 0, 1) := by decide +kernel
theorem dX6_account_77 : decode cX6_account 77 = .ok (.getfield 12, 3) := by decide +kernel
theorem dX6_account_80 : decode cX6_account 80 = .ok (.getfield 186, 3) := by decide +kernel
theorem dX6_account_83 : decode cX6_account 83 = .ok (.ireturn, 1) := by decide +kernel
theorem dX6_account_84 : decode cX6_account 84 = .ok (.aload_n 0, 1) := by decide +kernel
theorem dX6_account_85 : decode cX6_account 85 = .ok (.getfield 12, 3) := by decide +kernel
theorem dX6_account_88 : decode cX6_account 88 = .ok (.invokevirtual 260, 3) := by decide +kernel
theorem dX6_account_91 : decode cX6_account 91 = .ok (.ireturn, 1) := by decide +kernel
theorem dX6_account_92 : decode cX6_account 92 = .ok (.aload_n 0, 1) := by decide +kernel
theorem dX6_account_93 : decode cX6_account 93 = .ok (.getfield 19, 3) := by decide +kernel
theorem dX6_account_96 : decode cX6_account 96 = .ok (.getfield 165, 3) := by decide +kernel
theorem dX6_account_99 : decode cX6_account 99 = .ok (.ireturn, 1) := by decide +kernel
theorem dX6_account_100 : decode cX6_account 100 = .ok (.aload_n 0, 1) := by decide +kernel
theorem dX6_account_101 : decode cX6_account 101 = .ok (.getfield 12, 3) := by decide +kernel
theorem dX6_account_104 : decode cX6_account 104 = .ok (.getfield 252, 3) := by decide +kernel
theorem dX6_account_107 : decode cX6_account 107 = .ok (.ireturn, 1) := by decide +kernel
theorem dX6_account_108 : decode cX6_account 108 = .ok (.aload_n 0, 1) := by decide +kernel
theorem dX6_account_109 : decode cX6_account 109 = .ok (.getfield 26, 3) := by decide +kernel
theorem dX6_account_112 : decode cX6_account 112 = .ok (.getfield 263, 3) := by decide +kernel
theorem dX6_account_115 : decode cX6_account 115 = .ok (.ireturn, 1) := by decide +kernel
theorem dX6_account_116 : decode cX6_account 116 = .ok (.aload_n 0, 1) := by decide +kernel
theorem dX6_account_117 : decode cX6_account 117 = .ok (.getfield 26, 3) := by decide +kernel
theorem dX6_account_120 : decode cX6_account 120 = .ok (.getfield 266, 3) := by decide +kernel
theorem dX6_account_123 : decode cX6_account 123 = .ok (.ireturn, 1) := by decide +kernel
theorem dX6_account_124 : decode cX6_account 124 = .ok (.aload_n 0, 1) := by decide +kernel
theorem dX6_account_125 : decode cX6_account 125 = .ok (.getfield 12, 3) := by decide +kernel
theorem dX6_account_128 : decode cX6_account 128 = .ok (.getfield 252, 3) := by decide +kernel
theorem dX6_account_131 : decode cX6_account 131 = .ok (.aload_n 0, 1) := by decide +kernel
theorem dX6_account_132 : decode cX6_account 132 = .ok (.getfield 26, 3) := by decide +kernel
theorem dX6_account_135 : decode cX6_account 135 = .ok (.getfield 263, 3) := by decide +kernel
theorem dX6_account_138 : decode cX6_account 138 = .ok (.isub, 1) := by decide +kernel
theorem dX6_account_139 : decode cX6_account 139 = .ok (.aload_n 0, 1) := by decide +kernel
theorem dX6_account_140 : decode cX6_account 140 = .ok (.getfield 26, 3) := by decide +kernel
theorem dX6_account_143 : decode cX6_account 143 = .ok (.getfield 266, 3) := by decide +kernel
theorem dX6_account_146 : decode cX6_account 146 = .ok (.isub, 1) := by decide +kernel
theorem dX6_account_147 : decode cX6_account 147 = .ok (.ireturn, 1) := by decide +kernel
theorem dX6_account_148 : decode cX6_account 148 = .ok (.aload_n 0, 1) := by decide +kernel
theorem dX6_account_149 : decode cX6_account 149 = .ok (.getfield 12, 3) := by decide +kernel
theorem dX6_account_152 : decode cX6_account 152 = .ok (.invokevirtual 269, 3) := by decide +kernel
theorem dX6_account_155 : decode cX6_account 155 = .ok (.ireturn, 1) := by decide +kernel
theorem dX6_account_156 : decode cX6_account 156 = .ok (.aload_n 0, 1) := by decide +kernel
theorem dX6_account_157 : decode cX6_account 157 = .ok (.getfield 26, 3) := by decide +kernel
theorem dX6_account_160 : decode cX6_account 160 = .ok (.invokevirtual 272, 3) := by decide +kernel
theorem dX6_account_163 : decode cX6_account 163 = .ok (.ireturn, 1) := by decide +kernel
theorem dX6_account_164 : decode cX6_account 164 = .ok (.aload_n 0, 1) := by decide +kernel
theorem dX6_account_165 : decode cX6_account 165 = .ok (.getfield 12, 3) := by decide +kernel
theorem dX6_account_168 : decode cX6_account 168 = .ok (.invokevirtual 275, 3) := by decide +kernel
theorem dX6_account_171 : decode cX6_account 171 = .ok (.ireturn, 1) := by decide +kernel
theorem dX6_account_172 : decode cX6_account 172 = .ok (.aload_n 0, 1) := by decide +kernel
theorem dX6_account_173 : decode cX6_account 173 = .ok (.getfield 12, 3) := by decide +kernel
theorem dX6_account_176 : decode cX6_account 176 = .ok (.getfield 278, 3) := by decide +kernel
theorem dX6_account_179 : decode cX6_account 179 = .ok (.ireturn, 1) := by decide +kernel
theorem dX6_account_180 : decode cX6_account 180 = .ok (.aload_n 0, 1) := by decide +kernel
theorem dX6_account_181 : decode cX6_account 181 = .ok (.getfield 12, 3) := by decide +kernel
theorem dX6_account_184 : decode cX6_account 184 = .ok (.getfield 281, 3) := by decide +kernel
theorem dX6_account_187 : decode cX6_account 187 = .ok (.ireturn, 1) := by decide +kernel
theorem dX6_account_188 : decode cX6_account 188 = .ok (.aload_n 0, 1) := by decide +kernel
theorem dX6_account_189 : decode cX6_account 189 = .ok (.invokevirtual 284, 3) := by decide +kernel
theorem dX6_account_192 : decode cX6_account 192 = .ok (.ireturn, 1) := by decide +kernel
theorem dX6_account_193 : decode cX6_account 193 = .ok (.aload_n 0, 1) := by decide +kernel
theorem dX6_account_194 : decode cX6_account 194 = .ok (.getfield 49, 3) := by decide +kernel
theorem dX6_account_197 : decode cX6_account 197 = .ok (.getfield 214, 3) := by decide +kernel
theorem dX6_account_200 : decode cX6_account 200 = .ok (.ireturn, 1) := by decide +kernel
theorem dX6_account_201 : decode cX6_account 201 = .ok (.aload_n 0, 1) := by decide +kernel
theorem dX6_account_202 : decode cX6_account 202 = .ok (.getfield 39, 3) := by decide +kernel
theorem dX6_account_205 : decode cX6_account 205 = .ok (.getfield 287, 3) := by decide +kernel
theorem dX6_account_208 : decode cX6_account 208 = .ok (.ireturn, 1) := by decide +kernel
theorem dX6_account_209 : decode cX6_account 209 = .ok (.bipush (-12), 2) := by decide +kernel
theorem dX6_account_211 : decode cX6_account 211 = .ok (.ireturn, 1) := by decide +kernel
set_option maxRecDepth 20000 in
theorem ggX6_isBalanced_X6_homesAgree : GoodIn wsX6_isBalanced wsX6_homesAgree := goodIn_r _ [5, 6, 7, 8, 9, 10, 11, 12, 13, 14, 15, 16, 17, 18, 19, 20, 21, 22, 23, 24, 25, 26, 27, 28, 29, 30, 31, 32, 33, 129, 130, 131, 132, 133, 134, 135, 136, 137, 138, 139, 140, 141, 142, 143, 144, 145, 146, 147, 148, 149, 150, 151, 152, 153, 154, 155, 156, 157, 158] (by decide +kernel) (by decide +kernel)
set_option maxRecDepth 20000 in
theorem gX6_isBalanced_X6_homesAgree : GoodIn wsX6_isBalanced (wsV RX6 290 RX6 yX6_homesAgree wsX6_homesAgree) := goodIn_app (goodIn_of _ (by decide +kernel)) ggX6_isBalanced_X6_homesAgree
set_option maxRecDepth 20000 in
theorem ggX6_isBalanced_X6_stretchesFillTheRing : GoodIn wsX6_isBalanced wsX6_stretchesFillTheRing := goodIn_r _ [37, 6, 38, 8, 39, 40, 41, 18, 42, 25, 43, 20, 26, 44, 45, 46, 47, 48, 49, 50, 12, 51, 52, 53, 129, 130, 131, 132, 133, 134, 135, 136, 137, 138, 139, 140, 141, 142, 143, 144, 145, 146, 147, 148, 149, 150, 151, 152, 153, 154, 155, 156, 157, 158] (by decide +kernel) (by decide +kernel)
set_option maxRecDepth 20000 in
theorem gX6_isBalanced_X6_stretchesFillTheRing : GoodIn wsX6_isBalanced (wsV RX6 293 RX6 yX6_stretchesFillTheRing wsX6_stretchesFillTheRing) := goodIn_app (goodIn_of _ (by decide +kernel)) ggX6_isBalanced_X6_stretchesFillTheRing
set_option maxRecDepth 20000 in
theorem ggX6_isBalanced_X6_nothingExceedsItsRoom : GoodIn wsX6_isBalanced wsX6_nothingExceedsItsRoom := goodIn_r _ [57, 6, 38, 58, 59, 60, 61, 62, 12, 63, 53, 64, 65, 129, 130, 131, 132, 133, 134, 135, 136, 137, 138, 139, 140, 141, 142, 143, 144, 145, 146, 147, 148, 159, 160, 161, 162, 163, 164, 165, 166, 167] (by decide +kernel) (by decide +kernel)
set_option maxRecDepth 20000 in
theorem gX6_isBalanced_X6_nothingExceedsItsRoom : GoodIn wsX6_isBalanced (wsV RX6 296 RX6 yX6_nothingExceedsItsRoom wsX6_nothingExceedsItsRoom) := goodIn_app (goodIn_of _ (by decide +kernel)) ggX6_isBalanced_X6_nothingExceedsItsRoom
set_option maxRecDepth 20000 in
theorem ggX6_isBalanced_X6_closingsStayNear : GoodIn wsX6_isBalanced wsX6_closingsStayNear := goodIn_r _ [69, 6, 38, 70, 71, 72, 73, 4, 74, 8, 7, 58, 75, 76, 77, 78, 79, 18, 80, 25, 20, 43, 81, 82, 83, 84, 85, 86, 87, 88, 89, 90, 91, 92, 12, 93, 64, 94, 95, 96, 97, 53, 14, 98, 52, 99, 65, 100, 101, 102, 103, 104, 33, 105, 106, 26, 107, 108, 109, 110, 111, 112, 113, 114, 115, 116, 117, 118, 119, 27, 28, 120, 121, 122, 123, 124, 125, 126, 127, 128, 9, 10, 11, 13, 15, 16, 17, 19, 21, 22, 23, 24, 129, 130, 131, 132, 133, 134, 135, 136, 137, 138, 139, 140, 141, 142, 143, 144, 145, 146, 147, 148, 159, 160, 161, 162, 163, 164, 165, 166, 167, 149, 150, 151, 152, 153, 154, 155, 156, 157, 158] (by decide +kernel) (by decide +kernel)
set_option maxRecDepth 20000 in
theorem gX6_isBalanced_X6_closingsStayNear : GoodIn wsX6_isBalanced (wsV RX6 299 RX6 yX6_closingsStayNear wsX6_closingsStayNear) := goodIn_app (goodIn_of _ (by decide +kernel)) ggX6_isBalanced_X6_closingsStayNear
theorem dX6_isBalanced_0 : decode cX6_isBalanced 0 = .ok (.aload_n 0, 1) := by decide +kernel
theorem dX6_isBalanced_1 : decode cX6_isBalanced 1 = .ok (.invokevirtual 290, 3) := by decide +kernel
theorem dX6_isBalanced_4 : decode cX6_isBalanced 4 = .ok (.ifCond .eq 28, 3) := by decide +kernel
theorem dX6_isBalanced_7 : decode cX6_isBalanced 7 = .ok (.aload_n 0, 1) := by decide +kernel
theorem dX6_isBalanced_8 : decode cX6_isBalanced 8 = .ok (.invokevirtual 293, 3) := by decide +kernel
theorem dX6_isBalanced_11 : decode cX6_isBalanced 11 = .ok (.ifCond .eq 21, 3) := by decide +kernel
theorem dX6_isBalanced_14 : decode cX6_isBalanced 14 = .ok (.aload_n 0, 1) := by decide +kernel
theorem dX6_isBalanced_15 : decode cX6_isBalanced 15 = .ok (.invokevirtual 296, 3) := by decide +kernel
theorem dX6_isBalanced_18 : decode cX6_isBalanced 18 = .ok (.ifCond .eq 14, 3) := by decide +kernel
theorem dX6_isBalanced_21 : decode cX6_isBalanced 21 = .ok (.aload_n 0, 1) := by decide +kernel
theorem dX6_isBalanced_22 : decode cX6_isBalanced 22 = .ok (.invokevirtual 299, 3) := by decide +kernel
theorem dX6_isBalanced_25 : decode cX6_isBalanced 25 = .ok (.ifCond .eq 7, 3) := by decide +kernel
theorem dX6_isBalanced_28 : decode cX6_isBalanced 28 = .ok (.iconst 1, 1) := by decide +kernel
theorem dX6_isBalanced_29 : decode cX6_isBalanced 29 = .ok (.goto 4, 3) := by decide +kernel
theorem dX6_isBalanced_32 : decode cX6_isBalanced 32 = .ok (.iconst 0, 1) := by decide +kernel
theorem dX6_isBalanced_33 : decode cX6_isBalanced 33 = .ok (.ireturn, 1) := by decide +kernel
set_option maxRecDepth 20000 in
theorem ggX6_meanStretch_X1_openPiers : GoodIn wsX6_meanStretch wsX1_openPiers := goodIn_r _ [7, 8, 9, 22, 23, 24, 25, 26, 27, 28, 29] (by decide +kernel) (by decide +kernel)
set_option maxRecDepth 20000 in
theorem gX6_meanStretch_X1_openPiers : GoodIn wsX6_meanStretch (wsV RX6 260 RX1 yX1_openPiers wsX1_openPiers) := goodIn_app (goodIn_of _ (by decide +kernel)) ggX6_meanStretch_X1_openPiers
theorem dX6_meanStretch_0 : decode cX6_meanStretch 0 = .ok (.aload_n 0, 1) := by decide +kernel
theorem dX6_meanStretch_1 : decode cX6_meanStretch 1 = .ok (.getfield 12, 3) := by decide +kernel
theorem dX6_meanStretch_4 : decode cX6_meanStretch 4 = .ok (.invokevirtual 260, 3) := by decide +kernel
theorem dX6_meanStretch_7 : decode cX6_meanStretch 7 = .ok (.istore_n 1, 1) := by decide +kernel
theorem dX6_meanStretch_8 : decode cX6_meanStretch 8 = .ok (.iload_n 1, 1) := by decide +kernel
theorem dX6_meanStretch_9 : decode cX6_meanStretch 9 = .ok (.ifCond .ne 7, 3) := by decide +kernel
theorem dX6_meanStretch_12 : decode cX6_meanStretch 12 = .ok (.dconst 0, 1) := by decide +kernel
theorem dX6_meanStretch_13 : decode cX6_meanStretch 13 = .ok (.goto 9, 3) := by decide +kernel
theorem dX6_meanStretch_16 : decode cX6_meanStretch 16 = .ok (.ldc2_w 302, 3) := by decide +kernel
theorem dX6_meanStretch_19 : decode cX6_meanStretch 19 = .ok (.iload_n 1, 1) := by decide +kernel
theorem dX6_meanStretch_20 : decode cX6_meanStretch 20 = .ok (.i2d, 1) := by decide +kernel
theorem dX6_meanStretch_21 : decode cX6_meanStretch 21 = .ok (.ddiv, 1) := by decide +kernel
theorem dX6_meanStretch_22 : decode cX6_meanStretch 22 = .ok (.dreturn, 1) := by decide +kernel
set_option maxRecDepth 20000 in
theorem ggX6_takenShare_X1_allRoom : GoodIn wsX6_takenShare wsX1_allRoom := goodIn_r _ [7, 8, 9, 10, 11, 6, 12, 13, 14, 15, 34, 35, 36, 37, 38, 39, 40, 41] (by decide +kernel) (by decide +kernel)
set_option maxRecDepth 20000 in
theorem gX6_takenShare_X1_allRoom : GoodIn wsX6_takenShare (wsV RX6 275 RX1 yX1_allRoom wsX1_allRoom) := goodIn_app (goodIn_of _ (by decide +kernel)) ggX6_takenShare_X1_allRoom
set_option maxRecDepth 20000 in
theorem ggX6_takenShare_X4_allLyingTons : GoodIn wsX6_takenShare wsX4_allLyingTons := goodIn_r _ [20, 21, 42, 43, 44, 45, 46, 47, 48, 49, 50] (by decide +kernel) (by decide +kernel)
set_option maxRecDepth 20000 in
theorem gX6_takenShare_X4_allLyingTons : GoodIn wsX6_takenShare (wsV RX6 272 RX4 yX4_allLyingTons wsX4_allLyingTons) := goodIn_app (goodIn_of _ (by decide +kernel)) ggX6_takenShare_X4_allLyingTons
theorem dX6_takenShare_0 : decode cX6_takenShare 0 = .ok (.aload_n 0, 1) := by decide +kernel
theorem dX6_takenShare_1 : decode cX6_takenShare 1 = .ok (.getfield 12, 3) := by decide +kernel
theorem dX6_takenShare_4 : decode cX6_takenShare 4 = .ok (.invokevirtual 275, 3) := by decide +kernel
theorem dX6_takenShare_7 : decode cX6_takenShare 7 = .ok (.istore_n 1, 1) := by decide +kernel
theorem dX6_takenShare_8 : decode cX6_takenShare 8 = .ok (.iload_n 1, 1) := by decide +kernel
theorem dX6_takenShare_9 : decode cX6_takenShare 9 = .ok (.ifCond .ne 7, 3) := by decide +kernel
theorem dX6_takenShare_12 : decode cX6_takenShare 12 = .ok (.fconst 0, 1) := by decide +kernel
theorem dX6_takenShare_13 : decode cX6_takenShare 13 = .ok (.goto 14, 3) := by decide +kernel
theorem dX6_takenShare_16 : decode cX6_takenShare 16 = .ok (.aload_n 0, 1) := by decide +kernel
theorem dX6_takenShare_17 : decode cX6_takenShare 17 = .ok (.getfield 26, 3) := by decide +kernel
theorem dX6_takenShare_20 : decode cX6_takenShare 20 = .ok (.invokevirtual 272, 3) := by decide +kernel
theorem dX6_takenShare_23 : decode cX6_takenShare 23 = .ok (.i2f, 1) := by decide +kernel
theorem dX6_takenShare_24 : decode cX6_takenShare 24 = .ok (.iload_n 1, 1) := by decide +kernel
theorem dX6_takenShare_25 : decode cX6_takenShare 25 = .ok (.i2f, 1) := by decide +kernel
theorem dX6_takenShare_26 : decode cX6_takenShare 26 = .ok (.fdiv, 1) := by decide +kernel
theorem dX6_takenShare_27 : decode cX6_takenShare 27 = .ok (.freturn, 1) := by decide +kernel
set_option maxRecDepth 20000 in
theorem ggX6_undo_X2_takeBackInto : GoodIn wsX6_undo wsX2_takeBackInto := goodIn_r _ [8, 9, 10, 11, 12, 13, 14, 15, 16, 17, 18, 19, 20, 21, 22, 23, 24, 25, 26, 27, 28, 136, 137, 138, 139, 140, 141, 142, 143, 144, 145, 146] (by decide +kernel) (by decide +kernel)
set_option maxRecDepth 20000 in
theorem gX6_undo_X2_takeBackInto : GoodIn wsX6_undo (wsV RX6 304 RX2 yX2_takeBackInto wsX2_takeBackInto) := goodIn_app (goodIn_of _ (by decide +kernel)) ggX6_undo_X2_takeBackInto
set_option maxRecDepth 20000 in
theorem ggX6_undo_X6_settleAnew : GoodIn wsX6_undo wsX6_settleAnew := goodIn_r _ [33, 34, 3, 35, 36, 37, 38, 39, 40, 41, 42, 43, 44, 45, 46, 47, 48, 49, 50, 51, 52, 53, 54, 15, 55, 22, 17, 56, 57, 58, 59, 60, 61, 62, 63, 64, 65, 66, 67, 68, 69, 70, 71, 72, 73, 74, 75, 76, 77, 78, 79, 80, 81, 82, 83, 84, 85, 86, 87, 88, 89, 90, 23, 91, 92, 93, 94, 95, 96, 97, 98, 99, 100, 101, 102, 103, 104, 105, 106, 107, 108, 109, 110, 111, 112, 113, 114, 115, 116, 117, 118, 119, 27, 120, 121, 122, 123, 124, 125, 126, 127, 128, 129, 130, 131, 132, 133, 134, 135, 147, 148, 149, 150, 151, 152, 153, 154, 155, 156, 139, 140, 141, 142, 143, 144, 145, 146, 157, 158, 159, 160, 161, 162, 163, 164, 165] (by decide +kernel) (by decide +kernel)
set_option maxRecDepth 20000 in
theorem gX6_undo_X6_settleAnew : GoodIn wsX6_undo (wsV RX6 238 RX6 yX6_settleAnew wsX6_settleAnew) := goodIn_app (goodIn_of _ (by decide +kernel)) ggX6_undo_X6_settleAnew
theorem dX6_undo_0 : decode cX6_undo 0 = .ok (.aload_n 0, 1) := by decide +kernel
theorem dX6_undo_1 : decode cX6_undo 1 = .ok (.getfield 39, 3) := by decide +kernel
theorem dX6_undo_4 : decode cX6_undo 4 = .ok (.getfield 287, 3) := by decide +kernel
theorem dX6_undo_7 : decode cX6_undo 7 = .ok (.ifCond .ne 6, 3) := by decide +kernel
theorem dX6_undo_10 : decode cX6_undo 10 = .ok (.bipush (-15), 2) := by decide +kernel
theorem dX6_undo_12 : decode cX6_undo 12 = .ok (.ireturn, 1) := by decide +kernel
theorem dX6_undo_13 : decode cX6_undo 13 = .ok (.aload_n 0, 1) := by decide +kernel
theorem dX6_undo_14 : decode cX6_undo 14 = .ok (.getfield 39, 3) := by decide +kernel
theorem dX6_undo_17 : decode cX6_undo 17 = .ok (.aload_n 0, 1) := by decide +kernel
theorem dX6_undo_18 : decode cX6_undo 18 = .ok (.getfield 12, 3) := by decide +kernel
theorem dX6_undo_21 : decode cX6_undo 21 = .ok (.invokevirtual 304, 3) := by decide +kernel
theorem dX6_undo_24 : decode cX6_undo 24 = .ok (.aload_n 0, 1) := by decide +kernel
theorem dX6_undo_25 : decode cX6_undo 25 = .ok (.invokevirtual 238, 3) := by decide +kernel
theorem dX6_undo_28 : decode cX6_undo 28 = .ok (.aload_n 0, 1) := by decide +kernel
theorem dX6_undo_29 : decode cX6_undo 29 = .ok (.getfield 39, 3) := by decide +kernel
theorem dX6_undo_32 : decode cX6_undo 32 = .ok (.getfield 287, 3) := by decide +kernel
theorem dX6_undo_35 : decode cX6_undo 35 = .ok (.ireturn, 1) := by decide +kernel
set_option maxRecDepth 20000 in
theorem ggX6_save_X1_takeFrom : GoodIn wsX6_save wsX1_takeFrom := goodIn_r _ [9, 10, 11, 12, 13, 14, 15, 16, 17, 18, 19, 20, 21, 34, 35, 36, 37, 38, 39, 40, 41] (by decide +kernel) (by decide +kernel)
set_option maxRecDepth 20000 in
theorem gX6_save_X1_takeFrom : GoodIn wsX6_save (wsV RX6 189 RX1 yX1_takeFrom wsX1_takeFrom) := goodIn_app (goodIn_of _ (by decide +kernel)) ggX6_save_X1_takeFrom
theorem dX6_save_0 : decode cX6_save 0 = .ok (.aload_n 0, 1) := by decide +kernel
theorem dX6_save_1 : decode cX6_save 1 = .ok (.getfield 43, 3) := by decide +kernel
theorem dX6_save_4 : decode cX6_save 4 = .ok (.aload_n 0, 1) := by decide +kernel
theorem dX6_save_5 : decode cX6_save 5 = .ok (.getfield 12, 3) := by decide +kernel
theorem dX6_save_8 : decode cX6_save 8 = .ok (.invokevirtual 189, 3) := by decide +kernel
theorem dX6_save_11 : decode cX6_save 11 = .ok (.aload_n 0, 1) := by decide +kernel
theorem dX6_save_12 : decode cX6_save 12 = .ok (.iconst 1, 1) := by decide +kernel
theorem dX6_save_13 : decode cX6_save 13 = .ok (.putfield 60, 3) := by decide +kernel
theorem dX6_save_16 : decode cX6_save 16 = .ok (.aload_n 0, 1) := by decide +kernel
theorem dX6_save_17 : decode cX6_save 17 = .ok (.getfield 12, 3) := by decide +kernel
theorem dX6_save_20 : decode cX6_save 20 = .ok (.getfield 252, 3) := by decide +kernel
theorem dX6_save_23 : decode cX6_save 23 = .ok (.ireturn, 1) := by decide +kernel
set_option maxRecDepth 20000 in
theorem ggX6_restore_X1_takeFrom : GoodIn wsX6_restore wsX1_takeFrom := goodIn_r _ [10, 11, 12, 13, 14, 15, 16, 17, 18, 19, 20, 21, 22, 136, 137, 138, 139, 140, 141, 142, 143] (by decide +kernel) (by decide +kernel)
set_option maxRecDepth 20000 in
theorem gX6_restore_X1_takeFrom : GoodIn wsX6_restore (wsV RX6 189 RX1 yX1_takeFrom wsX1_takeFrom) := goodIn_app (goodIn_of _ (by decide +kernel)) ggX6_restore_X1_takeFrom
set_option maxRecDepth 20000 in
theorem ggX6_restore_X2_forgetAll : GoodIn wsX6_restore wsX2_forgetAll := goodIn_r _ [27, 28, 144, 145, 146] (by decide +kernel) (by decide +kernel)
set_option maxRecDepth 20000 in
theorem gX6_restore_X2_forgetAll : GoodIn wsX6_restore (wsV RX6 307 RX2 yX2_forgetAll wsX2_forgetAll) := goodIn_app (goodIn_of _ (by decide +kernel)) ggX6_restore_X2_forgetAll
set_option maxRecDepth 20000 in
theorem ggX6_restore_X6_settleAnew : GoodIn wsX6_restore wsX6_settleAnew := goodIn_r _ [33, 34, 2, 35, 36, 37, 38, 39, 40, 41, 42, 43, 44, 45, 46, 47, 48, 49, 50, 51, 52, 53, 54, 9, 55, 16, 11, 56, 57, 58, 59, 60, 61, 62, 63, 64, 65, 66, 67, 68, 69, 70, 71, 72, 73, 74, 75, 76, 77, 78, 79, 80, 81, 82, 83, 84, 85, 86, 87, 88, 89, 90, 17, 91, 92, 93, 94, 95, 96, 97, 98, 99, 100, 101, 102, 103, 104, 105, 106, 107, 108, 109, 110, 111, 112, 113, 114, 115, 116, 117, 118, 119, 21, 120, 121, 122, 123, 124, 125, 126, 127, 128, 129, 130, 131, 132, 133, 134, 135, 147, 148, 149, 150, 151, 152, 153, 154, 155, 156, 136, 137, 138, 139, 140, 141, 142, 143, 157, 158, 159, 160, 161, 162, 163, 164, 165] (by decide +kernel) (by decide +kernel)
set_option maxRecDepth 20000 in
theorem gX6_restore_X6_settleAnew : GoodIn wsX6_restore (wsV RX6 238 RX6 yX6_settleAnew wsX6_settleAnew) := goodIn_app (goodIn_of _ (by decide +kernel)) ggX6_restore_X6_settleAnew
theorem dX6_restore_0 : decode cX6_restore 0 = .ok (.aload_n 0, 1) := by decide +kernel
theorem dX6_restore_1 : decode cX6_restore 1 = .ok (.getfield 60, 3) := by decide +kernel
theorem dX6_restore_4 : decode cX6_restore 4 = .ok (.ifCond .ne 6, 3) := by decide +kernel
theorem dX6_restore_7 : decode cX6_restore 7 = .ok (.bipush (-15), 2) := by decide +kernel
theorem dX6_restore_9 : decode cX6_restore 9 = .ok (.ireturn, 1) := by decide +kernel
theorem dX6_restore_10 : decode cX6_restore 10 = .ok (.aload_n 0, 1) := by decide +kernel
theorem dX6_restore_11 : decode cX6_restore 11 = .ok (.getfield 12, 3) := by decide +kernel
theorem dX6_restore_14 : decode cX6_restore 14 = .ok (.aload_n 0, 1) := by decide +kernel
theorem dX6_restore_15 : decode cX6_restore 15 = .ok (.getfield 43, 3) := by decide +kernel
theorem dX6_restore_18 : decode cX6_restore 18 = .ok (.invokevirtual 189, 3) := by decide +kernel
theorem dX6_restore_21 : decode cX6_restore 21 = .ok (.aload_n 0, 1) := by decide +kernel
theorem dX6_restore_22 : decode cX6_restore 22 = .ok (.getfield 39, 3) := by decide +kernel
theorem dX6_restore_25 : decode cX6_restore 25 = .ok (.invokevirtual 307, 3) := by decide +kernel
theorem dX6_restore_28 : decode cX6_restore 28 = .ok (.aload_n 0, 1) := by decide +kernel
theorem dX6_restore_29 : decode cX6_restore 29 = .ok (.invokevirtual 238, 3) := by decide +kernel
theorem dX6_restore_32 : decode cX6_restore 32 = .ok (.aload_n 0, 1) := by decide +kernel
theorem dX6_restore_33 : decode cX6_restore 33 = .ok (.getfield 12, 3) := by decide +kernel
theorem dX6_restore_36 : decode cX6_restore 36 = .ok (.getfield 252, 3) := by decide +kernel
theorem dX6_restore_39 : decode cX6_restore 39 = .ok (.ireturn, 1) := by decide +kernel
set_option maxRecDepth 20000 in
theorem ggX6_joinPier_X6_refuse : GoodIn wsX6_joinPier wsX6_refuse := goodIn_r _ [7, 8, 9, 119, 120, 121, 122, 123, 124, 125, 126, 127, 128, 129, 130] (by decide +kernel) (by decide +kernel)
set_option maxRecDepth 20000 in
theorem gX6_joinPier_X6_refuse : GoodIn wsX6_joinPier (wsV RX6 241 RX6 yX6_refuse wsX6_refuse) := goodIn_app (goodIn_of _ (by decide +kernel)) ggX6_joinPier_X6_refuse
set_option maxRecDepth 20000 in
theorem ggX6_joinPier_X1_addPier : GoodIn wsX6_joinPier wsX1_addPier := goodIn_r _ [14, 15, 16, 17, 131, 132, 133, 134, 135, 136, 137, 138] (by decide +kernel) (by decide +kernel)
set_option maxRecDepth 20000 in
theorem gX6_joinPier_X1_addPier : GoodIn wsX6_joinPier (wsV RX6 192 RX1 yX1_addPier wsX1_addPier) := goodIn_app (goodIn_of _ (by decide +kernel)) ggX6_joinPier_X1_addPier
set_option maxRecDepth 20000 in
theorem ggX6_joinPier_X6_moveHomes : GoodIn wsX6_joinPier wsX6_moveHomes := goodIn_r _ [21, 22, 1, 23, 24, 25, 26, 27, 28, 29, 30, 31, 32, 33, 34, 35, 36, 37, 38, 39, 40, 41, 42, 43, 13, 44, 17, 16, 45, 46, 47, 48, 49, 50, 51, 52, 53, 54, 55, 56, 57, 58, 59, 60, 61, 62, 63, 64, 65, 66, 67, 68, 69, 70, 71, 72, 73, 74, 75, 76, 77, 78, 79, 80, 81, 82, 83, 84, 85, 86, 87, 88, 89, 90, 91, 92, 93, 94, 95, 96, 97, 98, 99, 100, 101, 102, 103, 104, 105, 106, 107, 108, 109, 110, 111, 112, 113, 114, 115, 116, 117, 118, 119, 120, 121, 122, 123, 124, 125, 126, 127, 128, 129, 130, 131, 132, 133, 134, 135, 136, 137, 138, 139, 140, 141, 142, 143, 144, 145, 146, 147, 148, 149, 150, 151, 152, 153, 154, 155, 156, 157] (by decide +kernel) (by decide +kernel)
set_option maxRecDepth 20000 in
theorem gX6_joinPier_X6_moveHomes : GoodIn wsX6_joinPier (wsV RX6 310 RX6 yX6_moveHomes wsX6_moveHomes) := goodIn_app (goodIn_of _ (by decide +kernel)) ggX6_joinPier_X6_moveHomes
theorem dX6_joinPier_0 : decode cX6_joinPier 0 = .ok (.iload_n 1, 1) := by decide +kernel
theorem dX6_joinPier_1 : decode cX6_joinPier 1 = .ok (.iconst 1, 1) := by decide +kernel
theorem dX6_joinPier_2 : decode cX6_joinPier 2 = .ok (.if_icmp .lt 8, 3) := by decide +kernel
theorem dX6_joinPier_5 : decode cX6_joinPier 5 = .ok (.iload_n 1, 1) := by decide +kernel
theorem dX6_joinPier_6 : decode cX6_joinPier 6 = .ok (.iconst 5, 1) := by decide +kernel
theorem dX6_joinPier_7 : decode cX6_joinPier 7 = .ok (.if_icmp .le 6, 3) := by decide +kernel
theorem dX6_joinPier_10 : decode cX6_joinPier 10 = .ok (.bipush (-12), 2) := by decide +kernel
theorem dX6_joinPier_12 : decode cX6_joinPier 12 = .ok (.ireturn, 1) := by decide +kernel
theorem dX6_joinPier_13 : decode cX6_joinPier 13 = .ok (.aload_n 0, 1) := by decide +kernel
theorem dX6_joinPier_14 : decode cX6_joinPier 14 = .ok (.getfield 12, 3) := by decide +kernel
theorem dX6_joinPier_17 : decode cX6_joinPier 17 = .ok (.getfield 186, 3) := by decide +kernel
theorem dX6_joinPier_20 : decode cX6_joinPier 20 = .ok (.bipush 8, 2) := by decide +kernel
theorem dX6_joinPier_22 : decode cX6_joinPier 22 = .ok (.if_icmp .ne 11, 3) := by decide +kernel
theorem dX6_joinPier_25 : decode cX6_joinPier 25 = .ok (.aload_n 0, 1) := by decide +kernel
theorem dX6_joinPier_26 : decode cX6_joinPier 26 = .ok (.iconst 1, 1) := by decide +kernel
theorem dX6_joinPier_27 : decode cX6_joinPier 27 = .ok (.bipush 8, 2) := by decide +kernel
theorem dX6_joinPier_29 : decode cX6_joinPier 29 = .ok (.invokevirtual 241, 3) := by decide +kernel
theorem dX6_joinPier_32 : decode cX6_joinPier 32 = .ok (.ireturn, 1) := by decide +kernel
theorem dX6_joinPier_33 : decode cX6_joinPier 33 = .ok (.aload_n 0, 1) := by decide +kernel
theorem dX6_joinPier_34 : decode cX6_joinPier 34 = .ok (.getfield 12, 3) := by decide +kernel
theorem dX6_joinPier_37 : decode cX6_joinPier 37 = .ok (.iload_n 1, 1) := by decide +kernel
theorem dX6_joinPier_38 : decode cX6_joinPier 38 = .ok (.invokevirtual 192, 3) := by decide +kernel
theorem dX6_joinPier_41 : decode cX6_joinPier 41 = .ok (.aload_n 0, 1) := by decide +kernel
theorem dX6_joinPier_42 : decode cX6_joinPier 42 = .ok (.invokevirtual 310, 3) := by decide +kernel
theorem dX6_joinPier_45 : decode cX6_joinPier 45 = .ok (.pop, 1) := by decide +kernel
theorem dX6_joinPier_46 : decode cX6_joinPier 46 = .ok (.aload_n 0, 1) := by decide +kernel
theorem dX6_joinPier_47 : decode cX6_joinPier 47 = .ok (.getfield 12, 3) := by decide +kernel
theorem dX6_joinPier_50 : decode cX6_joinPier 50 = .ok (.getfield 186, 3) := by decide +kernel
theorem dX6_joinPier_53 : decode cX6_joinPier 53 = .ok (.iconst 1, 1) := by decide +kernel
theorem dX6_joinPier_54 : decode cX6_joinPier 54 = .ok (.isub, 1) := by decide +kernel
theorem dX6_joinPier_55 : decode cX6_joinPier 55 = .ok (.ireturn, 1) := by decide +kernel
set_option maxRecDepth 20000 in
theorem ggX6_setOpened_X1_hasPier : GoodIn wsX6_setOpened wsX1_hasPier := goodIn_r _ [7, 8, 131, 132, 133, 134, 135, 136, 137, 138] (by decide +kernel) (by decide +kernel)
set_option maxRecDepth 20000 in
theorem gX6_setOpened_X1_hasPier : GoodIn wsX6_setOpened (wsV RX6 93 RX1 yX1_hasPier wsX1_hasPier) := goodIn_app (goodIn_of _ (by decide +kernel)) ggX6_setOpened_X1_hasPier
set_option maxRecDepth 20000 in
theorem ggX6_setOpened_X6_refuse : GoodIn wsX6_setOpened wsX6_refuse := goodIn_r _ [13, 14, 15, 119, 120, 121, 122, 123, 124, 125, 126, 127, 128, 129, 130] (by decide +kernel) (by decide +kernel)
set_option maxRecDepth 20000 in
theorem gX6_setOpened_X6_refuse : GoodIn wsX6_setOpened (wsV RX6 241 RX6 yX6_refuse wsX6_refuse) := goodIn_app (goodIn_of _ (by decide +kernel)) ggX6_setOpened_X6_refuse
set_option maxRecDepth 20000 in
theorem ggX6_setOpened_X6_moveHomes : GoodIn wsX6_setOpened wsX6_moveHomes := goodIn_r _ [19, 20, 1, 21, 22, 23, 24, 25, 26, 27, 28, 29, 30, 31, 32, 33, 34, 35, 36, 37, 38, 39, 40, 41, 6, 42, 43, 44, 45, 46, 47, 48, 49, 50, 51, 52, 53, 54, 55, 56, 57, 58, 59, 60, 61, 62, 63, 64, 65, 66, 67, 68, 69, 70, 71, 72, 73, 74, 75, 76, 77, 78, 79, 80, 81, 82, 83, 84, 85, 86, 87, 88, 89, 90, 91, 92, 93, 94, 95, 96, 97, 98, 99, 100, 101, 102, 103, 104, 105, 106, 107, 108, 109, 110, 111, 112, 113, 114, 115, 116, 117, 118, 119, 120, 121, 122, 123, 124, 125, 126, 127, 128, 129, 130, 131, 132, 133, 134, 135, 136, 137, 138, 139, 140, 141, 142, 143, 144, 145, 146, 147, 148, 149, 150, 151, 152, 153, 154, 155, 156, 157] (by decide +kernel) (by decide +kernel)
set_option maxRecDepth 20000 in
theorem gX6_setOpened_X6_moveHomes : GoodIn wsX6_setOpened (wsV RX6 310 RX6 yX6_moveHomes wsX6_moveHomes) := goodIn_app (goodIn_of _ (by decide +kernel)) ggX6_setOpened_X6_moveHomes
theorem dX6_setOpened_0 : decode cX6_setOpened 0 = .ok (.aload_n 0, 1) := by decide +kernel
theorem dX6_setOpened_1 : decode cX6_setOpened 1 = .ok (.getfield 12, 3) := by decide +kernel
theorem dX6_setOpened_4 : decode cX6_setOpened 4 = .ok (.iload_n 1, 1) := by decide +kernel
theorem dX6_setOpened_5 : decode cX6_setOpened 5 = .ok (.invokevirtual 93, 3) := by decide +kernel
theorem dX6_setOpened_8 : decode cX6_setOpened 8 = .ok (.ifCond .ne 6, 3) := by decide +kernel
theorem dX6_setOpened_11 : decode cX6_setOpened 11 = .ok (.bipush (-11), 2) := by decide +kernel
theorem dX6_setOpened_13 : decode cX6_setOpened 13 = .ok (.ireturn, 1) := by decide +kernel
theorem dX6_setOpened_14 : decode cX6_setOpened 14 = .ok (.aload_n 0, 1) := by decide +kernel
theorem dX6_setOpened_15 : decode cX6_setOpened 15 = .ok (.getfield 12, 3) := by decide +kernel
theorem dX6_setOpened_18 : decode cX6_setOpened 18 = .ok (.getfield 101, 3) := by decide +kernel
theorem dX6_setOpened_21 : decode cX6_setOpened 21 = .ok (.iload_n 1, 1) := by decide +kernel
theorem dX6_setOpened_22 : decode cX6_setOpened 22 = .ok (.baload, 1) := by decide +kernel
theorem dX6_setOpened_23 : decode cX6_setOpened 23 = .ok (.iload_n 2, 1) := by decide +kernel
theorem dX6_setOpened_24 : decode cX6_setOpened 24 = .ok (.if_icmp .ne 10, 3) := by decide +kernel
theorem dX6_setOpened_27 : decode cX6_setOpened 27 = .ok (.aload_n 0, 1) := by decide +kernel
theorem dX6_setOpened_28 : decode cX6_setOpened 28 = .ok (.iconst 3, 1) := by decide +kernel
theorem dX6_setOpened_29 : decode cX6_setOpened 29 = .ok (.iload_n 1, 1) := by decide +kernel
theorem dX6_setOpened_30 : decode cX6_setOpened 30 = .ok (.invokevirtual 241, 3) := by decide +kernel
theorem dX6_setOpened_33 : decode cX6_setOpened 33 = .ok (.ireturn, 1) := by decide +kernel
theorem dX6_setOpened_34 : decode cX6_setOpened 34 = .ok (.aload_n 0, 1) := by decide +kernel
theorem dX6_setOpened_35 : decode cX6_setOpened 35 = .ok (.getfield 12, 3) := by decide +kernel
theorem dX6_setOpened_38 : decode cX6_setOpened 38 = .ok (.getfield 101, 3) := by decide +kernel
theorem dX6_setOpened_41 : decode cX6_setOpened 41 = .ok (.iload_n 1, 1) := by decide +kernel
theorem dX6_setOpened_42 : decode cX6_setOpened 42 = .ok (.iload_n 2, 1) := by decide +kernel
theorem dX6_setOpened_43 : decode cX6_setOpened 43 = .ok (.bastore, 1) := by decide +kernel
theorem dX6_setOpened_44 : decode cX6_setOpened 44 = .ok (.aload_n 0, 1) := by decide +kernel
theorem dX6_setOpened_45 : decode cX6_setOpened 45 = .ok (.invokevirtual 310, 3) := by decide +kernel
theorem dX6_setOpened_48 : decode cX6_setOpened 48 = .ok (.ireturn, 1) := by decide +kernel
set_option maxRecDepth 20000 in
theorem ggX6_setBerths_X1_hasPier : GoodIn wsX6_setBerths wsX1_hasPier := goodIn_r _ [7, 8, 131, 132, 133, 134, 135, 136, 137, 138] (by decide +kernel) (by decide +kernel)
set_option maxRecDepth 20000 in
theorem gX6_setBerths_X1_hasPier : GoodIn wsX6_setBerths (wsV RX6 93 RX1 yX1_hasPier wsX1_hasPier) := goodIn_app (goodIn_of _ (by decide +kernel)) ggX6_setBerths_X1_hasPier
set_option maxRecDepth 20000 in
theorem ggX6_setBerths_X6_refuse : GoodIn wsX6_setBerths wsX6_refuse := goodIn_r _ [13, 14, 15, 119, 120, 121, 122, 123, 124, 125, 126, 127, 128, 129, 130] (by decide +kernel) (by decide +kernel)
set_option maxRecDepth 20000 in
theorem gX6_setBerths_X6_refuse : GoodIn wsX6_setBerths (wsV RX6 241 RX6 yX6_refuse wsX6_refuse) := goodIn_app (goodIn_of _ (by decide +kernel)) ggX6_setBerths_X6_refuse
set_option maxRecDepth 20000 in
theorem ggX6_setBerths_X6_moveHomes : GoodIn wsX6_setBerths wsX6_moveHomes := goodIn_r _ [19, 20, 1, 21, 22, 23, 24, 25, 26, 27, 28, 29, 30, 31, 32, 33, 34, 35, 36, 37, 38, 39, 40, 41, 6, 42, 43, 44, 45, 46, 47, 48, 49, 50, 51, 52, 53, 54, 55, 56, 57, 58, 59, 60, 61, 62, 63, 64, 65, 66, 67, 68, 69, 70, 71, 72, 73, 74, 75, 76, 77, 78, 79, 80, 81, 82, 83, 84, 85, 86, 87, 88, 89, 90, 91, 92, 93, 94, 95, 96, 97, 98, 99, 100, 101, 102, 103, 104, 105, 106, 107, 108, 109, 110, 111, 112, 113, 114, 115, 116, 117, 118, 119, 120, 121, 122, 123, 124, 125, 126, 127, 128, 129, 130, 131, 132, 133, 134, 135, 136, 137, 138, 139, 140, 141, 142, 143, 144, 145, 146, 147, 148, 149, 150, 151, 152, 153, 154, 155, 156, 157] (by decide +kernel) (by decide +kernel)
set_option maxRecDepth 20000 in
theorem gX6_setBerths_X6_moveHomes : GoodIn wsX6_setBerths (wsV RX6 310 RX6 yX6_moveHomes wsX6_moveHomes) := goodIn_app (goodIn_of _ (by decide +kernel)) ggX6_setBerths_X6_moveHomes
theorem dX6_setBerths_0 : decode cX6_setBerths 0 = .ok (.aload_n 0, 1) := by decide +kernel
theorem dX6_setBerths_1 : decode cX6_setBerths 1 = .ok (.getfield 12, 3) := by decide +kernel
theorem dX6_setBerths_4 : decode cX6_setBerths 4 = .ok (.iload_n 1, 1) := by decide +kernel
theorem dX6_setBerths_5 : decode cX6_setBerths 5 = .ok (.invokevirtual 93, 3) := by decide +kernel
theorem dX6_setBerths_8 : decode cX6_setBerths 8 = .ok (.ifCond .ne 6, 3) := by decide +kernel
theorem dX6_setBerths_11 : decode cX6_setBerths 11 = .ok (.bipush (-11), 2) := by decide +kernel
theorem dX6_setBerths_13 : decode cX6_setBerths 13 = .ok (.ireturn, 1) := by decide +kernel
theorem dX6_setBerths_14 : decode cX6_setBerths 14 = .ok (.iload_n 2, 1) := by decide +kernel
theorem dX6_setBerths_15 : decode cX6_setBerths 15 = .ok (.iconst 1, 1) := by decide +kernel
theorem dX6_setBerths_16 : decode cX6_setBerths 16 = .ok (.if_icmp .lt 8, 3) := by decide +kernel
theorem dX6_setBerths_19 : decode cX6_setBerths 19 = .ok (.iload_n 2, 1) := by decide +kernel
theorem dX6_setBerths_20 : decode cX6_setBerths 20 = .ok (.iconst 5, 1) := by decide +kernel
theorem dX6_setBerths_21 : decode cX6_setBerths 21 = .ok (.if_icmp .le 6, 3) := by decide +kernel
theorem dX6_setBerths_24 : decode cX6_setBerths 24 = .ok (.bipush (-12), 2) := by decide +kernel
theorem dX6_setBerths_26 : decode cX6_setBerths 26 = .ok (.ireturn, 1) := by decide +kernel
theorem dX6_setBerths_27 : decode cX6_setBerths 27 = .ok (.aload_n 0, 1) := by decide +kernel
theorem dX6_setBerths_28 : decode cX6_setBerths 28 = .ok (.getfield 12, 3) := by decide +kernel
theorem dX6_setBerths_31 : decode cX6_setBerths 31 = .ok (.getfield 97, 3) := by decide +kernel
theorem dX6_setBerths_34 : decode cX6_setBerths 34 = .ok (.iload_n 1, 1) := by decide +kernel
theorem dX6_setBerths_35 : decode cX6_setBerths 35 = .ok (.iaload, 1) := by decide +kernel
theorem dX6_setBerths_36 : decode cX6_setBerths 36 = .ok (.iload_n 2, 1) := by decide +kernel
theorem dX6_setBerths_37 : decode cX6_setBerths 37 = .ok (.if_icmp .ne 10, 3) := by decide +kernel
theorem dX6_setBerths_40 : decode cX6_setBerths 40 = .ok (.aload_n 0, 1) := by decide +kernel
theorem dX6_setBerths_41 : decode cX6_setBerths 41 = .ok (.iconst 3, 1) := by decide +kernel
theorem dX6_setBerths_42 : decode cX6_setBerths 42 = .ok (.iload_n 2, 1) := by decide +kernel
theorem dX6_setBerths_43 : decode cX6_setBerths 43 = .ok (.invokevirtual 241, 3) := by decide +kernel
theorem dX6_setBerths_46 : decode cX6_setBerths 46 = .ok (.ireturn, 1) := by decide +kernel
theorem dX6_setBerths_47 : decode cX6_setBerths 47 = .ok (.aload_n 0, 1) := by decide +kernel
theorem dX6_setBerths_48 : decode cX6_setBerths 48 = .ok (.getfield 12, 3) := by decide +kernel
theorem dX6_setBerths_51 : decode cX6_setBerths 51 = .ok (.getfield 97, 3) := by decide +kernel
theorem dX6_setBerths_54 : decode cX6_setBerths 54 = .ok (.iload_n 1, 1) := by decide +kernel
theorem dX6_setBerths_55 : decode cX6_setBerths 55 = .ok (.iload_n 2, 1) := by decide +kernel
theorem dX6_setBerths_56 : decode cX6_setBerths 56 = .ok (.iastore, 1) := by decide +kernel
theorem dX6_setBerths_57 : decode cX6_setBerths 57 = .ok (.aload_n 0, 1) := by decide +kernel
theorem dX6_setBerths_58 : decode cX6_setBerths 58 = .ok (.invokevirtual 310, 3) := by decide +kernel
theorem dX6_setBerths_61 : decode cX6_setBerths 61 = .ok (.ireturn, 1) := by decide +kernel
set_option maxRecDepth 20000 in
theorem ggX6_setBerthTons_X6_refuse : GoodIn wsX6_setBerthTons wsX6_refuse := goodIn_r _ [9, 10, 11, 79, 80, 81, 82, 83, 84, 85, 86, 87, 88, 89, 90] (by decide +kernel) (by decide +kernel)
set_option maxRecDepth 20000 in
theorem gX6_setBerthTons_X6_refuse : GoodIn wsX6_setBerthTons (wsV RX6 241 RX6 yX6_refuse wsX6_refuse) := goodIn_app (goodIn_of _ (by decide +kernel)) ggX6_setBerthTons_X6_refuse
set_option maxRecDepth 20000 in
theorem ggX6_setBerthTons_X4_settle : GoodIn wsX6_setBerthTons wsX4_settle := goodIn_r _ [16, 17, 18, 19, 20, 21, 22, 23, 24, 25, 26, 27, 28, 29, 30, 31, 32, 33, 34, 35, 36, 37, 38, 39, 40, 41, 42, 43, 44, 45, 46, 47, 48, 49, 50, 51, 52, 15, 53, 54, 55, 56, 57, 58, 59, 60, 61, 62, 63, 64, 65, 66, 67, 68, 69, 70, 71, 72, 73, 74, 75, 76, 77, 78, 99, 100, 101, 102, 103, 104, 105, 106, 107, 91, 92, 93, 94, 95, 96, 97, 98, 108, 109, 110, 111, 112, 113, 114, 115, 116, 117] (by decide +kernel) (by decide +kernel)
set_option maxRecDepth 20000 in
theorem gX6_setBerthTons_X4_settle : GoodIn wsX6_setBerthTons (wsV RX6 313 RX4 yX4_settle wsX4_settle) := goodIn_app (goodIn_of _ (by decide +kernel)) ggX6_setBerthTons_X4_settle
theorem dX6_setBerthTons_0 : decode cX6_setBerthTons 0 = .ok (.iload_n 1, 1) := by decide +kernel
theorem dX6_setBerthTons_1 : decode cX6_setBerthTons 1 = .ok (.bipush 10, 2) := by decide +kernel
theorem dX6_setBerthTons_3 : decode cX6_setBerthTons 3 = .ok (.if_icmp .lt 10, 3) := by decide +kernel
theorem dX6_setBerthTons_6 : decode cX6_setBerthTons 6 = .ok (.iload_n 1, 1) := by decide +kernel
theorem dX6_setBerthTons_7 : decode cX6_setBerthTons 7 = .ok (.sipush 200, 3) := by decide +kernel
theorem dX6_setBerthTons_10 : decode cX6_setBerthTons 10 = .ok (.if_icmp .le 6, 3) := by decide +kernel
theorem dX6_setBerthTons_13 : decode cX6_setBerthTons 13 = .ok (.bipush (-12), 2) := by decide +kernel
theorem dX6_setBerthTons_15 : decode cX6_setBerthTons 15 = .ok (.ireturn, 1) := by decide +kernel
theorem dX6_setBerthTons_16 : decode cX6_setBerthTons 16 = .ok (.aload_n 0, 1) := by decide +kernel
theorem dX6_setBerthTons_17 : decode cX6_setBerthTons 17 = .ok (.getfield 12, 3) := by decide +kernel
theorem dX6_setBerthTons_20 : decode cX6_setBerthTons 20 = .ok (.getfield 281, 3) := by decide +kernel
theorem dX6_setBerthTons_23 : decode cX6_setBerthTons 23 = .ok (.istore_n 2, 1) := by decide +kernel
theorem dX6_setBerthTons_24 : decode cX6_setBerthTons 24 = .ok (.iload_n 2, 1) := by decide +kernel
theorem dX6_setBerthTons_25 : decode cX6_setBerthTons 25 = .ok (.iload_n 1, 1) := by decide +kernel
theorem dX6_setBerthTons_26 : decode cX6_setBerthTons 26 = .ok (.if_icmp .ne 10, 3) := by decide +kernel
theorem dX6_setBerthTons_29 : decode cX6_setBerthTons 29 = .ok (.aload_n 0, 1) := by decide +kernel
theorem dX6_setBerthTons_30 : decode cX6_setBerthTons 30 = .ok (.iconst 3, 1) := by decide +kernel
theorem dX6_setBerthTons_31 : decode cX6_setBerthTons 31 = .ok (.iload_n 1, 1) := by decide +kernel
theorem dX6_setBerthTons_32 : decode cX6_setBerthTons 32 = .ok (.invokevirtual 241, 3) := by decide +kernel
theorem dX6_setBerthTons_35 : decode cX6_setBerthTons 35 = .ok (.ireturn, 1) := by decide +kernel
theorem dX6_setBerthTons_36 : decode cX6_setBerthTons 36 = .ok (.aload_n 0, 1) := by decide +kernel
theorem dX6_setBerthTons_37 : decode cX6_setBerthTons 37 = .ok (.getfield 12, 3) := by decide +kernel
theorem dX6_setBerthTons_40 : decode cX6_setBerthTons 40 = .ok (.iload_n 1, 1) := by decide +kernel
theorem dX6_setBerthTons_41 : decode cX6_setBerthTons 41 = .ok (.putfield 281, 3) := by decide +kernel
theorem dX6_setBerthTons_44 : decode cX6_setBerthTons 44 = .ok (.aload_n 0, 1) := by decide +kernel
theorem dX6_setBerthTons_45 : decode cX6_setBerthTons 45 = .ok (.getfield 26, 3) := by decide +kernel
theorem dX6_setBerthTons_48 : decode cX6_setBerthTons 48 = .ok (.aload_n 0, 1) := by decide +kernel
theorem dX6_setBerthTons_49 : decode cX6_setBerthTons 49 = .ok (.getfield 12, 3) := by decide +kernel
theorem dX6_setBerthTons_52 : decode cX6_setBerthTons 52 = .ok (.aload_n 0, 1) := by decide +kernel
theorem dX6_setBerthTons_53 : decode cX6_setBerthTons 53 = .ok (.getfield 19, 3) := by decide +kernel
theorem dX6_setBerthTons_56 : decode cX6_setBerthTons 56 = .ok (.invokevirtual 313, 3) := by decide +kernel
theorem dX6_setBerthTons_59 : decode cX6_setBerthTons 59 = .ok (.iload_n 2, 1) := by decide +kernel
theorem dX6_setBerthTons_60 : decode cX6_setBerthTons 60 = .ok (.ireturn, 1) := by decide +kernel
set_option maxRecDepth 20000 in
theorem ggX6_letCome_X1_bargeNamed : GoodIn wsX6_letCome wsX1_bargeNamed := goodIn_r _ [9, 10, 11, 101, 102, 103, 104, 105, 106, 107, 108] (by decide +kernel) (by decide +kernel)
set_option maxRecDepth 20000 in
theorem gX6_letCome_X1_bargeNamed : GoodIn wsX6_letCome (wsV RX6 317 RX1 yX1_bargeNamed wsX1_bargeNamed) := goodIn_app (goodIn_of _ (by decide +kernel)) ggX6_letCome_X1_bargeNamed
set_option maxRecDepth 20000 in
theorem ggX6_letCome_X6_refuse : GoodIn wsX6_letCome wsX6_refuse := goodIn_r _ [16, 17, 18, 89, 90, 91, 92, 93, 94, 95, 96, 97, 98, 99, 100] (by decide +kernel) (by decide +kernel)
set_option maxRecDepth 20000 in
theorem gX6_letCome_X6_refuse : GoodIn wsX6_letCome (wsV RX6 241 RX6 yX6_refuse wsX6_refuse) := goodIn_app (goodIn_of _ (by decide +kernel)) ggX6_letCome_X6_refuse
set_option maxRecDepth 20000 in
theorem ggX6_letCome_X1_addBarge : GoodIn wsX6_letCome wsX1_addBarge := goodIn_r _ [22, 10, 11, 23, 101, 102, 103, 104, 105, 106, 107, 108] (by decide +kernel) (by decide +kernel)
set_option maxRecDepth 20000 in
theorem gX6_letCome_X1_addBarge : GoodIn wsX6_letCome (wsV RX6 320 RX1 yX1_addBarge wsX1_addBarge) := goodIn_app (goodIn_of _ (by decide +kernel)) ggX6_letCome_X1_addBarge
set_option maxRecDepth 20000 in
theorem ggX6_letCome_X4_settle : GoodIn wsX6_letCome wsX4_settle := goodIn_r _ [28, 29, 30, 31, 32, 33, 34, 35, 36, 37, 38, 39, 40, 41, 42, 43, 44, 8, 45, 11, 46, 47, 48, 49, 50, 51, 52, 53, 54, 55, 56, 57, 58, 59, 60, 61, 62, 27, 63, 64, 65, 66, 67, 68, 69, 70, 71, 72, 73, 74, 75, 76, 77, 78, 79, 80, 81, 82, 83, 84, 85, 86, 87, 88, 109, 110, 111, 112, 113, 114, 115, 116, 117, 101, 102, 103, 104, 105, 106, 107, 108, 118, 119, 120, 121, 122, 123, 124, 125, 126, 127] (by decide +kernel) (by decide +kernel)
set_option maxRecDepth 20000 in
theorem gX6_letCome_X4_settle : GoodIn wsX6_letCome (wsV RX6 313 RX4 yX4_settle wsX4_settle) := goodIn_app (goodIn_of _ (by decide +kernel)) ggX6_letCome_X4_settle
theorem dX6_letCome_0 : decode cX6_letCome 0 = .ok (.iload_n 1, 1) := by decide +kernel
theorem dX6_letCome_1 : decode cX6_letCome 1 = .ok (.ifCond .lt 21, 3) := by decide +kernel
theorem dX6_letCome_4 : decode cX6_letCome 4 = .ok (.iload_n 1, 1) := by decide +kernel
theorem dX6_letCome_5 : decode cX6_letCome 5 = .ok (.sipush 9999, 3) := by decide +kernel
theorem dX6_letCome_8 : decode cX6_letCome 8 = .ok (.if_icmp .gt 14, 3) := by decide +kernel
theorem dX6_letCome_11 : decode cX6_letCome 11 = .ok (.iload_n 2, 1) := by decide +kernel
theorem dX6_letCome_12 : decode cX6_letCome 12 = .ok (.iconst 1, 1) := by decide +kernel
theorem dX6_letCome_13 : decode cX6_letCome 13 = .ok (.if_icmp .lt 9, 3) := by decide +kernel
theorem dX6_letCome_16 : decode cX6_letCome 16 = .ok (.iload_n 2, 1) := by decide +kernel
theorem dX6_letCome_17 : decode cX6_letCome 17 = .ok (.bipush 99, 2) := by decide +kernel
theorem dX6_letCome_19 : decode cX6_letCome 19 = .ok (.if_icmp .le 6, 3) := by decide +kernel
theorem dX6_letCome_22 : decode cX6_letCome 22 = .ok (.bipush (-12), 2) := by decide +kernel
theorem dX6_letCome_24 : decode cX6_letCome 24 = .ok (.ireturn, 1) := by decide +kernel
theorem dX6_letCome_25 : decode cX6_letCome 25 = .ok (.aload_n 0, 1) := by decide +kernel
theorem dX6_letCome_26 : decode cX6_letCome 26 = .ok (.getfield 12, 3) := by decide +kernel
theorem dX6_letCome_29 : decode cX6_letCome 29 = .ok (.iload_n 1, 1) := by decide +kernel
theorem dX6_letCome_30 : decode cX6_letCome 30 = .ok (.invokevirtual 317, 3) := by decide +kernel
theorem dX6_letCome_33 : decode cX6_letCome 33 = .ok (.istore_n 3, 1) := by decide +kernel
theorem dX6_letCome_34 : decode cX6_letCome 34 = .ok (.iload_n 3, 1) := by decide +kernel
theorem dX6_letCome_35 : decode cX6_letCome 35 = .ok (.iconst (-1), 1) := by decide +kernel
theorem dX6_letCome_36 : decode cX6_letCome 36 = .ok (.if_icmp .eq 10, 3) := by decide +kernel
theorem dX6_letCome_39 : decode cX6_letCome 39 = .ok (.aload_n 0, 1) := by decide +kernel
theorem dX6_letCome_40 : decode cX6_letCome 40 = .ok (.iconst 2, 1) := by decide +kernel
theorem dX6_letCome_41 : decode cX6_letCome 41 = .ok (.iload_n 3, 1) := by decide +kernel
theorem dX6_letCome_42 : decode cX6_letCome 42 = .ok (.invokevirtual 241, 3) := by decide +kernel
theorem dX6_letCome_45 : decode cX6_letCome 45 = .ok (.ireturn, 1) := by decide +kernel
theorem dX6_letCome_46 : decode cX6_letCome 46 = .ok (.aload_n 0, 1) := by decide +kernel
theorem dX6_letCome_47 : decode cX6_letCome 47 = .ok (.getfield 12, 3) := by decide +kernel
theorem dX6_letCome_50 : decode cX6_letCome 50 = .ok (.getfield 252, 3) := by decide +kernel
theorem dX6_letCome_53 : decode cX6_letCome 53 = .ok (.bipush 24, 2) := by decide +kernel
theorem dX6_letCome_55 : decode cX6_letCome 55 = .ok (.if_icmp .ne 11, 3) := by decide +kernel
theorem dX6_letCome_58 : decode cX6_letCome 58 = .ok (.aload_n 0, 1) := by decide +kernel
theorem dX6_letCome_59 : decode cX6_letCome 59 = .ok (.iconst 1, 1) := by decide +kernel
theorem dX6_letCome_60 : decode cX6_letCome 60 = .ok (.bipush 24, 2) := by decide +kernel
theorem dX6_letCome_62 : decode cX6_letCome 62 = .ok (.invokevirtual 241, 3) := by decide +kernel
theorem dX6_letCome_65 : decode cX6_letCome 65 = .ok (.ireturn, 1) := by decide +kernel
theorem dX6_letCome_66 : decode cX6_letCome 66 = .ok (.aload_n 0, 1) := by decide +kernel
theorem dX6_letCome_67 : decode cX6_letCome 67 = .ok (.getfield 12, 3) := by decide +kernel
theorem dX6_letCome_70 : decode cX6_letCome 70 = .ok (.iload_n 1, 1) := by decide +kernel
theorem dX6_letCome_71 : decode cX6_letCome 71 = .ok (.iload_n 2, 1) := by decide +kernel
theorem dX6_letCome_72 : decode cX6_letCome 72 = .ok (.invokevirtual 320, 3) := by decide +kernel
theorem dX6_letCome_75 : decode cX6_letCome 75 = .ok (.aload_n 0, 1) := by decide +kernel
theorem dX6_letCome_76 : decode cX6_letCome 76 = .ok (.getfield 26, 3) := by decide +kernel
theorem dX6_letCome_79 : decode cX6_letCome 79 = .ok (.aload_n 0, 1) := by decide +kernel
theorem dX6_letCome_80 : decode cX6_letCome 80 = .ok (.getfield 12, 3) := by decide +kernel
theorem dX6_letCome_83 : decode cX6_letCome 83 = .ok (.aload_n 0, 1) := by decide +kernel
theorem dX6_letCome_84 : decode cX6_letCome 84 = .ok (.getfield 19, 3) := by decide +kernel
theorem dX6_letCome_87 : decode cX6_letCome 87 = .ok (.invokevirtual 313, 3) := by decide +kernel
theorem dX6_letCome_90 : decode cX6_letCome 90 = .ok (.aload_n 0, 1) := by decide +kernel
theorem dX6_letCome_91 : decode cX6_letCome 91 = .ok (.getfield 12, 3) := by decide +kernel
theorem dX6_letCome_94 : decode cX6_letCome 94 = .ok (.getfield 252, 3) := by decide +kernel
theorem dX6_letCome_97 : decode cX6_letCome 97 = .ok (.iconst 1, 1) := by decide +kernel
theorem dX6_letCome_98 : decode cX6_letCome 98 = .ok (.isub, 1) := by decide +kernel
theorem dX6_letCome_99 : decode cX6_letCome 99 = .ok (.ireturn, 1) := by decide +kernel
set_option maxRecDepth 20000 in
theorem ggX6_letGo_X1_hasBarge : GoodIn wsX6_letGo wsX1_hasBarge := goodIn_r _ [9, 10, 99, 100, 101, 102, 103, 104, 105, 106] (by decide +kernel) (by decide +kernel)
set_option maxRecDepth 20000 in
theorem gX6_letGo_X1_hasBarge : GoodIn wsX6_letGo (wsV RX6 141 RX1 yX1_hasBarge wsX1_hasBarge) := goodIn_app (goodIn_of _ (by decide +kernel)) ggX6_letGo_X1_hasBarge
set_option maxRecDepth 20000 in
theorem ggX6_letGo_X1_removeBarge : GoodIn wsX6_letGo wsX1_removeBarge := goodIn_r _ [14, 10, 15, 16, 17, 18, 19, 20, 21, 6, 7, 8, 9, 99, 100, 101, 102, 103, 104, 105, 106] (by decide +kernel) (by decide +kernel)
set_option maxRecDepth 20000 in
theorem gX6_letGo_X1_removeBarge : GoodIn wsX6_letGo (wsV RX6 324 RX1 yX1_removeBarge wsX1_removeBarge) := goodIn_app (goodIn_of _ (by decide +kernel)) ggX6_letGo_X1_removeBarge
set_option maxRecDepth 20000 in
theorem ggX6_letGo_X4_settle : GoodIn wsX6_letGo wsX4_settle := goodIn_r _ [26, 27, 28, 29, 30, 31, 32, 33, 34, 35, 36, 37, 38, 39, 40, 41, 42, 8, 43, 15, 44, 45, 46, 47, 48, 49, 50, 51, 52, 53, 54, 55, 56, 57, 58, 59, 60, 25, 61, 62, 63, 64, 65, 66, 67, 68, 69, 70, 71, 72, 73, 74, 75, 76, 77, 78, 79, 80, 81, 82, 83, 84, 85, 86, 107, 108, 109, 110, 111, 112, 113, 114, 115, 99, 100, 101, 102, 103, 104, 105, 106, 116, 117, 118, 119, 120, 121, 122, 123, 124, 125] (by decide +kernel) (by decide +kernel)
set_option maxRecDepth 20000 in
theorem gX6_letGo_X4_settle : GoodIn wsX6_letGo (wsV RX6 313 RX4 yX4_settle wsX4_settle) := goodIn_app (goodIn_of _ (by decide +kernel)) ggX6_letGo_X4_settle
theorem dX6_letGo_0 : decode cX6_letGo 0 = .ok (.aload_n 0, 1) := by decide +kernel
theorem dX6_letGo_1 : decode cX6_letGo 1 = .ok (.getfield 12, 3) := by decide +kernel
theorem dX6_letGo_4 : decode cX6_letGo 4 = .ok (.iload_n 1, 1) := by decide +kernel
theorem dX6_letGo_5 : decode cX6_letGo 5 = .ok (.invokevirtual 141, 3) := by decide +kernel
theorem dX6_letGo_8 : decode cX6_letGo 8 = .ok (.ifCond .ne 6, 3) := by decide +kernel
theorem dX6_letGo_11 : decode cX6_letGo 11 = .ok (.bipush (-11), 2) := by decide +kernel
theorem dX6_letGo_13 : decode cX6_letGo 13 = .ok (.ireturn, 1) := by decide +kernel
theorem dX6_letGo_14 : decode cX6_letGo 14 = .ok (.aload_n 0, 1) := by decide +kernel
theorem dX6_letGo_15 : decode cX6_letGo 15 = .ok (.getfield 12, 3) := by decide +kernel
theorem dX6_letGo_18 : decode cX6_letGo 18 = .ok (.iload_n 1, 1) := by decide +kernel
theorem dX6_letGo_19 : decode cX6_letGo 19 = .ok (.invokevirtual 324, 3) := by decide +kernel
theorem dX6_letGo_22 : decode cX6_letGo 22 = .ok (.aload_n 0, 1) := by decide +kernel
theorem dX6_letGo_23 : decode cX6_letGo 23 = .ok (.getfield 26, 3) := by decide +kernel
theorem dX6_letGo_26 : decode cX6_letGo 26 = .ok (.aload_n 0, 1) := by decide +kernel
theorem dX6_letGo_27 : decode cX6_letGo 27 = .ok (.getfield 12, 3) := by decide +kernel
theorem dX6_letGo_30 : decode cX6_letGo 30 = .ok (.aload_n 0, 1) := by decide +kernel
theorem dX6_letGo_31 : decode cX6_letGo 31 = .ok (.getfield 19, 3) := by decide +kernel
theorem dX6_letGo_34 : decode cX6_letGo 34 = .ok (.invokevirtual 313, 3) := by decide +kernel
theorem dX6_letGo_37 : decode cX6_letGo 37 = .ok (.aload_n 0, 1) := by decide +kernel
theorem dX6_letGo_38 : decode cX6_letGo 38 = .ok (.getfield 12, 3) := by decide +kernel
theorem dX6_letGo_41 : decode cX6_letGo 41 = .ok (.getfield 252, 3) := by decide +kernel
theorem dX6_letGo_44 : decode cX6_letGo 44 = .ok (.ireturn, 1) := by decide +kernel
set_option maxRecDepth 20000 in
theorem ggX6_setTons_X1_hasBarge : GoodIn wsX6_setTons wsX1_hasBarge := goodIn_r _ [9, 10, 96, 97, 98, 99, 100, 101, 102, 103] (by decide +kernel) (by decide +kernel)
set_option maxRecDepth 20000 in
theorem gX6_setTons_X1_hasBarge : GoodIn wsX6_setTons (wsV RX6 141 RX1 yX1_hasBarge wsX1_hasBarge) := goodIn_app (goodIn_of _ (by decide +kernel)) ggX6_setTons_X1_hasBarge
set_option maxRecDepth 20000 in
theorem ggX6_setTons_X6_refuse : GoodIn wsX6_setTons wsX6_refuse := goodIn_r _ [15, 16, 17, 84, 85, 86, 87, 88, 89, 90, 91, 92, 93, 94, 95] (by decide +kernel) (by decide +kernel)
set_option maxRecDepth 20000 in
theorem gX6_setTons_X6_refuse : GoodIn wsX6_setTons (wsV RX6 241 RX6 yX6_refuse wsX6_refuse) := goodIn_app (goodIn_of _ (by decide +kernel)) ggX6_setTons_X6_refuse
set_option maxRecDepth 20000 in
theorem ggX6_setTons_X4_settle : GoodIn wsX6_setTons wsX4_settle := goodIn_r _ [22, 23, 24, 25, 26, 27, 28, 29, 30, 31, 32, 33, 34, 35, 36, 37, 38, 8, 39, 40, 41, 42, 43, 44, 45, 46, 47, 48, 49, 50, 51, 52, 53, 54, 55, 56, 57, 21, 58, 59, 60, 61, 62, 63, 64, 65, 66, 67, 68, 69, 70, 71, 72, 73, 74, 75, 76, 77, 78, 79, 80, 81, 82, 83, 104, 105, 106, 107, 108, 109, 110, 111, 112, 96, 97, 98, 99, 100, 101, 102, 103, 113, 114, 115, 116, 117, 118, 119, 120, 121, 122] (by decide +kernel) (by decide +kernel)
set_option maxRecDepth 20000 in
theorem gX6_setTons_X4_settle : GoodIn wsX6_setTons (wsV RX6 313 RX4 yX4_settle wsX4_settle) := goodIn_app (goodIn_of _ (by decide +kernel)) ggX6_setTons_X4_settle
theorem dX6_setTons_0 : decode cX6_setTons 0 = .ok (.aload_n 0, 1) := by decide +kernel
theorem dX6_setTons_1 : decode cX6_setTons 1 = .ok (.getfield 12, 3) := by decide +kernel
theorem dX6_setTons_4 : decode cX6_setTons 4 = .ok (.iload_n 1, 1) := by decide +kernel
theorem dX6_setTons_5 : decode cX6_setTons 5 = .ok (.invokevirtual 141, 3) := by decide +kernel
theorem dX6_setTons_8 : decode cX6_setTons 8 = .ok (.ifCond .ne 6, 3) := by decide +kernel
theorem dX6_setTons_11 : decode cX6_setTons 11 = .ok (.bipush (-11), 2) := by decide +kernel
theorem dX6_setTons_13 : decode cX6_setTons 13 = .ok (.ireturn, 1) := by decide +kernel
theorem dX6_setTons_14 : decode cX6_setTons 14 = .ok (.iload_n 2, 1) := by decide +kernel
theorem dX6_setTons_15 : decode cX6_setTons 15 = .ok (.iconst 1, 1) := by decide +kernel
theorem dX6_setTons_16 : decode cX6_setTons 16 = .ok (.if_icmp .lt 9, 3) := by decide +kernel
theorem dX6_setTons_19 : decode cX6_setTons 19 = .ok (.iload_n 2, 1) := by decide +kernel
theorem dX6_setTons_20 : decode cX6_setTons 20 = .ok (.bipush 99, 2) := by decide +kernel
theorem dX6_setTons_22 : decode cX6_setTons 22 = .ok (.if_icmp .le 6, 3) := by decide +kernel
theorem dX6_setTons_25 : decode cX6_setTons 25 = .ok (.bipush (-12), 2) := by decide +kernel
theorem dX6_setTons_27 : decode cX6_setTons 27 = .ok (.ireturn, 1) := by decide +kernel
theorem dX6_setTons_28 : decode cX6_setTons 28 = .ok (.aload_n 0, 1) := by decide +kernel
theorem dX6_setTons_29 : decode cX6_setTons 29 = .ok (.getfield 12, 3) := by decide +kernel
theorem dX6_setTons_32 : decode cX6_setTons 32 = .ok (.getfield 147, 3) := by decide +kernel
theorem dX6_setTons_35 : decode cX6_setTons 35 = .ok (.iload_n 1, 1) := by decide +kernel
theorem dX6_setTons_36 : decode cX6_setTons 36 = .ok (.iaload, 1) := by decide +kernel
theorem dX6_setTons_37 : decode cX6_setTons 37 = .ok (.istore_n 3, 1) := by decide +kernel
theorem dX6_setTons_38 : decode cX6_setTons 38 = .ok (.iload_n 3, 1) := by decide +kernel
theorem dX6_setTons_39 : decode cX6_setTons 39 = .ok (.iload_n 2, 1) := by decide +kernel
theorem dX6_setTons_40 : decode cX6_setTons 40 = .ok (.if_icmp .ne 10, 3) := by decide +kernel
theorem dX6_setTons_43 : decode cX6_setTons 43 = .ok (.aload_n 0, 1) := by decide +kernel
theorem dX6_setTons_44 : decode cX6_setTons 44 = .ok (.iconst 3, 1) := by decide +kernel
theorem dX6_setTons_45 : decode cX6_setTons 45 = .ok (.iload_n 2, 1) := by decide +kernel
theorem dX6_setTons_46 : decode cX6_setTons 46 = .ok (.invokevirtual 241, 3) := by decide +kernel
theorem dX6_setTons_49 : decode cX6_setTons 49 = .ok (.ireturn, 1) := by decide +kernel
theorem dX6_setTons_50 : decode cX6_setTons 50 = .ok (.aload_n 0, 1) := by decide +kernel
theorem dX6_setTons_51 : decode cX6_setTons 51 = .ok (.getfield 12, 3) := by decide +kernel
theorem dX6_setTons_54 : decode cX6_setTons 54 = .ok (.getfield 147, 3) := by decide +kernel
theorem dX6_setTons_57 : decode cX6_setTons 57 = .ok (.iload_n 1, 1) := by decide +kernel
theorem dX6_setTons_58 : decode cX6_setTons 58 = .ok (.iload_n 2, 1) := by decide +kernel
theorem dX6_setTons_59 : decode cX6_setTons 59 = .ok (.iastore, 1) := by decide +kernel
theorem dX6_setTons_60 : decode cX6_setTons 60 = .ok (.aload_n 0, 1) := by decide +kernel
theorem dX6_setTons_61 : decode cX6_setTons 61 = .ok (.getfield 26, 3) := by decide +kernel
theorem dX6_setTons_64 : decode cX6_setTons 64 = .ok (.aload_n 0, 1) := by decide +kernel
theorem dX6_setTons_65 : decode cX6_setTons 65 = .ok (.getfield 12, 3) := by decide +kernel
theorem dX6_setTons_68 : decode cX6_setTons 68 = .ok (.aload_n 0, 1) := by decide +kernel
theorem dX6_setTons_69 : decode cX6_setTons 69 = .ok (.getfield 19, 3) := by decide +kernel
theorem dX6_setTons_72 : decode cX6_setTons 72 = .ok (.invokevirtual 313, 3) := by decide +kernel
theorem dX6_setTons_75 : decode cX6_setTons 75 = .ok (.iload_n 3, 1) := by decide +kernel
theorem dX6_setTons_76 : decode cX6_setTons 76 = .ok (.ireturn, 1) := by decide +kernel
theorem dX6_refuse_0 : decode cX6_refuse 0 = .ok (.aload_n 0, 1) := by decide +kernel
theorem dX6_refuse_1 : decode cX6_refuse 1 = .ok (.iload_n 1, 1) := by decide +kernel
theorem dX6_refuse_2 : decode cX6_refuse 2 = .ok (.putfield 64, 3) := by decide +kernel
theorem dX6_refuse_5 : decode cX6_refuse 5 = .ok (.aload_n 0, 1) := by decide +kernel
theorem dX6_refuse_6 : decode cX6_refuse 6 = .ok (.iload_n 2, 1) := by decide +kernel
theorem dX6_refuse_7 : decode cX6_refuse 7 = .ok (.putfield 68, 3) := by decide +kernel
theorem dX6_refuse_10 : decode cX6_refuse 10 = .ok (.bipush (-14), 2) := by decide +kernel
theorem dX6_refuse_12 : decode cX6_refuse 12 = .ok (.ireturn, 1) := by decide +kernel
set_option maxRecDepth 20000 in
theorem ggX6_keepIfDone_X2_keepDraft : GoodIn wsX6_keepIfDone wsX2_keepDraft := goodIn_r _ [6, 7, 8, 9, 10, 11, 12, 25, 26, 27] (by decide +kernel) (by decide +kernel)
set_option maxRecDepth 20000 in
theorem gX6_keepIfDone_X2_keepDraft : GoodIn wsX6_keepIfDone (wsV RX6 327 RX2 yX2_keepDraft wsX2_keepDraft) := goodIn_app (goodIn_of _ (by decide +kernel)) ggX6_keepIfDone_X2_keepDraft
theorem dX6_keepIfDone_0 : decode cX6_keepIfDone 0 = .ok (.iload_n 1, 1) := by decide +kernel
theorem dX6_keepIfDone_1 : decode cX6_keepIfDone 1 = .ok (.ifCond .lt 10, 3) := by decide +kernel
theorem dX6_keepIfDone_4 : decode cX6_keepIfDone 4 = .ok (.aload_n 0, 1) := by decide +kernel
theorem dX6_keepIfDone_5 : decode cX6_keepIfDone 5 = .ok (.getfield 39, 3) := by decide +kernel
theorem dX6_keepIfDone_8 : decode cX6_keepIfDone 8 = .ok (.invokevirtual 327, 3) := by decide +kernel
theorem dX6_keepIfDone_11 : decode cX6_keepIfDone 11 = .ok (.iload_n 1, 1) := by decide +kernel
theorem dX6_keepIfDone_12 : decode cX6_keepIfDone 12 = .ok (.ireturn, 1) := by decide +kernel
set_option maxRecDepth 20000 in
theorem ggX6_moveHomes_X0_build : GoodIn wsX6_moveHomes wsX0_build := goodIn_r _ [9, 10, 11, 12, 13, 14, 15, 16, 17, 18, 19, 20, 21, 22, 23, 24, 25, 26, 27, 28, 29, 30, 8, 31, 32, 33, 34, 35, 36, 37, 38, 39, 40, 41, 42, 43, 122, 123, 124, 125, 126, 127, 128, 129, 130, 131, 114, 115, 116, 117, 118, 119, 120, 121] (by decide +kernel) (by decide +kernel)
set_option maxRecDepth 20000 in
theorem gX6_moveHomes_X0_build : GoodIn wsX6_moveHomes (wsV RX6 196 RX0 yX0_build wsX0_build) := goodIn_app (goodIn_of _ (by decide +kernel)) ggX6_moveHomes_X0_build
set_option maxRecDepth 20000 in
theorem ggX6_moveHomes_X4_homesUnlike : GoodIn wsX6_moveHomes wsX4_homesUnlike := goodIn_r _ [48, 49, 50, 51, 52, 53, 24, 54, 55, 56, 57, 58, 8, 59, 15, 60, 61, 62, 63, 11, 14, 32, 33, 114, 115, 116, 117, 118, 119, 120, 121, 132, 133, 134, 135, 136, 137, 138, 139, 140, 122, 123, 124, 125, 126, 127, 128, 129, 130, 131] (by decide +kernel) (by decide +kernel)
set_option maxRecDepth 20000 in
theorem gX6_moveHomes_X4_homesUnlike : GoodIn wsX6_moveHomes (wsV RX6 199 RX4 yX4_homesUnlike wsX4_homesUnlike) := goodIn_app (goodIn_of _ (by decide +kernel)) ggX6_moveHomes_X4_homesUnlike
set_option maxRecDepth 20000 in
theorem ggX6_moveHomes_X4_settle : GoodIn wsX6_moveHomes wsX4_settle := goodIn_r _ [67, 68, 69, 70, 71, 72, 73, 49, 74, 75, 76, 18, 19, 20, 51, 52, 53, 24, 54, 55, 56, 57, 58, 8, 59, 15, 60, 61, 62, 63, 11, 14, 32, 33, 77, 78, 79, 47, 80, 50, 81, 82, 83, 84, 85, 86, 87, 88, 89, 90, 91, 92, 43, 93, 94, 95, 96, 26, 27, 97, 98, 99, 100, 101, 132, 133, 134, 135, 136, 137, 138, 139, 140, 114, 115, 116, 117, 118, 119, 120, 121, 122, 123, 124, 125, 126, 127, 128, 129, 130, 131] (by decide +kernel) (by decide +kernel)
set_option maxRecDepth 20000 in
theorem gX6_moveHomes_X4_settle : GoodIn wsX6_moveHomes (wsV RX6 313 RX4 yX4_settle wsX4_settle) := goodIn_app (goodIn_of _ (by decide +kernel)) ggX6_moveHomes_X4_settle
theorem dX6_moveHomes_0 : decode cX6_moveHomes 0 = .ok (.aload_n 0, 1) := by decide +kernel
theorem dX6_moveHomes_1 : decode cX6_moveHomes 1 = .ok (.getfield 19, 3) := by decide +kernel
theorem dX6_moveHomes_4 : decode cX6_moveHomes 4 = .ok (.aload_n 0, 1) := by decide +kernel
theorem dX6_moveHomes_5 : decode cX6_moveHomes 5 = .ok (.getfield 12, 3) := by decide +kernel
theorem dX6_moveHomes_8 : decode cX6_moveHomes 8 = .ok (.invokevirtual 196, 3) := by decide +kernel
theorem dX6_moveHomes_11 : decode cX6_moveHomes 11 = .ok (.aload_n 0, 1) := by decide +kernel
theorem dX6_moveHomes_12 : decode cX6_moveHomes 12 = .ok (.getfield 26, 3) := by decide +kernel
theorem dX6_moveHomes_15 : decode cX6_moveHomes 15 = .ok (.aload_n 0, 1) := by decide +kernel
theorem dX6_moveHomes_16 : decode cX6_moveHomes 16 = .ok (.getfield 12, 3) := by decide +kernel
theorem dX6_moveHomes_19 : decode cX6_moveHomes 19 = .ok (.aload_n 0, 1) := by decide +kernel
theorem dX6_moveHomes_20 : decode cX6_moveHomes 20 = .ok (.getfield 19, 3) := by decide +kernel
theorem dX6_moveHomes_23 : decode cX6_moveHomes 23 = .ok (.invokevirtual 199, 3) := by decide +kernel
theorem dX6_moveHomes_26 : decode cX6_moveHomes 26 = .ok (.istore_n 1, 1) := by decide +kernel
theorem dX6_moveHomes_27 : decode cX6_moveHomes 27 = .ok (.aload_n 0, 1) := by decide +kernel
theorem dX6_moveHomes_28 : decode cX6_moveHomes 28 = .ok (.getfield 12, 3) := by decide +kernel
theorem dX6_moveHomes_31 : decode cX6_moveHomes 31 = .ok (.dup, 1) := by decide +kernel
theorem dX6_moveHomes_32 : decode cX6_moveHomes 32 = .ok (.getfield 278, 3) := by decide +kernel
theorem dX6_moveHomes_35 : decode cX6_moveHomes 35 = .ok (.iload_n 1, 1) := by decide +kernel
theorem dX6_moveHomes_36 : decode cX6_moveHomes 36 = .ok (.iadd, 1) := by decide +kernel
theorem dX6_moveHomes_37 : decode cX6_moveHomes 37 = .ok (.putfield 278, 3) := by decide +kernel
theorem dX6_moveHomes_40 : decode cX6_moveHomes 40 = .ok (.aload_n 0, 1) := by decide +kernel
theorem dX6_moveHomes_41 : decode cX6_moveHomes 41 = .ok (.getfield 26, 3) := by decide +kernel
theorem dX6_moveHomes_44 : decode cX6_moveHomes 44 = .ok (.aload_n 0, 1) := by decide +kernel
theorem dX6_moveHomes_45 : decode cX6_moveHomes 45 = .ok (.getfield 12, 3) := by decide +kernel
theorem dX6_moveHomes_48 : decode cX6_moveHomes 48 = .ok (.aload_n 0, 1) := by decide +kernel
theorem dX6_moveHomes_49 : decode cX6_moveHomes 49 = .ok (.getfield 19, 3) := by decide +kernel
theorem dX6_moveHomes_52 : decode cX6_moveHomes 52 = .ok (.invokevirtual 313, 3) := by decide +kernel
theorem dX6_moveHomes_55 : decode cX6_moveHomes 55 = .ok (.iload_n 1, 1) := by decide +kernel
theorem dX6_moveHomes_56 : decode cX6_moveHomes 56 = .ok (.ireturn, 1) := by decide +kernel
set_option maxRecDepth 20000 in
theorem ggX6_settleAnew_X0_build : GoodIn wsX6_settleAnew wsX0_build := goodIn_r _ [8, 9, 10, 11, 12, 13, 14, 15, 16, 17, 18, 19, 20, 21, 22, 23, 24, 25, 26, 27, 28, 29, 7, 30, 31, 32, 33, 34, 35, 36, 37, 38, 39, 40, 41, 42, 109, 110, 111, 112, 113, 114, 115, 116, 117, 118, 119, 120, 121, 122, 123, 124, 125, 126] (by decide +kernel) (by decide +kernel)
set_option maxRecDepth 20000 in
theorem gX6_settleAnew_X0_build : GoodIn wsX6_settleAnew (wsV RX6 196 RX0 yX0_build wsX0_build) := goodIn_app (goodIn_of _ (by decide +kernel)) ggX6_settleAnew_X0_build
set_option maxRecDepth 20000 in
theorem ggX6_settleAnew_X4_settle : GoodIn wsX6_settleAnew wsX4_settle := goodIn_r _ [47, 48, 49, 50, 51, 52, 53, 54, 55, 56, 57, 17, 18, 19, 58, 59, 60, 23, 61, 62, 63, 64, 65, 7, 66, 14, 67, 68, 69, 70, 10, 13, 31, 32, 71, 72, 73, 46, 74, 75, 76, 77, 78, 79, 80, 81, 82, 83, 84, 85, 86, 87, 42, 88, 89, 90, 91, 25, 26, 92, 93, 94, 95, 96, 127, 128, 129, 130, 131, 132, 133, 134, 135, 119, 120, 121, 122, 123, 124, 125, 126, 109, 110, 111, 112, 113, 114, 115, 116, 117, 118] (by decide +kernel) (by decide +kernel)
set_option maxRecDepth 20000 in
theorem gX6_settleAnew_X4_settle : GoodIn wsX6_settleAnew (wsV RX6 313 RX4 yX4_settle wsX4_settle) := goodIn_app (goodIn_of _ (by decide +kernel)) ggX6_settleAnew_X4_settle
theorem dX6_settleAnew_0 : decode cX6_settleAnew 0 = .ok (.aload_n 0, 1) := by decide +kernel
theorem dX6_settleAnew_1 : decode cX6_settleAnew 1 = .ok (.getfield 19, 3) := by decide +kernel
theorem dX6_settleAnew_4 : decode cX6_settleAnew 4 = .ok (.aload_n 0, 1) := by decide +kernel
theorem dX6_settleAnew_5 : decode cX6_settleAnew 5 = .ok (.getfield 12, 3) := by decide +kernel
theorem dX6_settleAnew_8 : decode cX6_settleAnew 8 = .ok (.invokevirtual 196, 3) := by decide +kernel
theorem dX6_settleAnew_11 : decode cX6_settleAnew 11 = .ok (.aload_n 0, 1) := by decide +kernel
theorem dX6_settleAnew_12 : decode cX6_settleAnew 12 = .ok (.getfield 26, 3) := by decide +kernel
theorem dX6_settleAnew_15 : decode cX6_settleAnew 15 = .ok (.aload_n 0, 1) := by decide +kernel
theorem dX6_settleAnew_16 : decode cX6_settleAnew 16 = .ok (.getfield 12, 3) := by decide +kernel
theorem dX6_settleAnew_19 : decode cX6_settleAnew 19 = .ok (.aload_n 0, 1) := by decide +kernel
theorem dX6_settleAnew_20 : decode cX6_settleAnew 20 = .ok (.getfield 19, 3) := by decide +kernel
theorem dX6_settleAnew_23 : decode cX6_settleAnew 23 = .ok (.invokevirtual 313, 3) := by decide +kernel
theorem dX6_settleAnew_26 : decode cX6_settleAnew 26 = .ok (.return_, 1) := by decide +kernel
set_option maxRecDepth 20000 in
theorem ggX6_carryOut_X6_joinPier : GoodIn wsX6_carryOut wsX6_joinPier := goodIn_r _ [9, 10, 11, 12, 13, 14, 8, 15, 16, 17, 18, 19, 20, 21, 22, 23, 24, 25, 26, 27, 28, 29, 30, 31, 32, 33, 34, 35, 36, 37, 38, 39, 40, 41, 42, 43, 44, 45, 46, 47, 48, 49, 50, 51, 52, 53, 54, 55, 56, 57, 58, 59, 60, 61, 62, 63, 64, 65, 66, 67, 68, 69, 70, 71, 72, 73, 74, 75, 76, 77, 78, 79, 80, 81, 82, 83, 84, 85, 86, 87, 88, 89, 90, 91, 92, 93, 94, 95, 96, 97, 98, 99, 100, 101, 102, 103, 104, 105, 106, 107, 108, 109, 110, 111, 112, 113, 114, 115, 116, 117, 118, 119, 120, 121, 122, 123, 124, 125, 126, 183, 184, 185, 186, 187, 188, 189, 190, 191, 192, 193, 194, 201, 202, 203, 204, 205, 206, 207, 208, 209, 210, 211, 212, 213, 214, 215, 216, 217, 218, 219, 220, 221, 222, 223, 224, 225, 226, 227] (by decide +kernel) (by decide +kernel)
set_option maxRecDepth 20000 in
theorem gX6_carryOut_X6_joinPier : GoodIn wsX6_carryOut (wsV RX6 75 RX6 yX6_joinPier wsX6_joinPier) := goodIn_app (goodIn_of _ (by decide +kernel)) ggX6_carryOut_X6_joinPier
set_option maxRecDepth 20000 in
theorem ggX6_carryOut_X6_setOpened : GoodIn wsX6_carryOut wsX6_setOpened := goodIn_r _ [130, 10, 131, 132, 133, 134, 21, 135, 23, 12, 13, 14, 8, 15, 16, 17, 26, 27, 28, 29, 30, 31, 32, 33, 34, 35, 36, 37, 38, 39, 40, 41, 42, 43, 44, 45, 46, 47, 48, 49, 50, 51, 52, 25, 24, 53, 54, 55, 56, 57, 58, 59, 60, 61, 62, 63, 64, 65, 66, 67, 68, 69, 70, 71, 72, 73, 74, 75, 76, 77, 78, 79, 80, 81, 82, 83, 84, 85, 86, 87, 88, 89, 90, 91, 92, 93, 94, 95, 96, 97, 98, 99, 100, 101, 102, 103, 104, 105, 106, 107, 108, 109, 110, 111, 112, 113, 114, 115, 116, 117, 118, 119, 120, 121, 122, 123, 124, 125, 126, 183, 184, 185, 186, 187, 188, 189, 190, 191, 192, 193, 194, 201, 202, 203, 204, 205, 206, 207, 208, 209, 210, 211, 212, 213, 214, 215, 216, 217, 218, 219, 220, 221, 222, 223, 224, 225, 226, 227] (by decide +kernel) (by decide +kernel)
set_option maxRecDepth 20000 in
theorem gX6_carryOut_X6_setOpened : GoodIn wsX6_carryOut (wsV RX6 82 RX6 yX6_setOpened wsX6_setOpened) := goodIn_app (goodIn_of _ (by decide +kernel)) ggX6_carryOut_X6_setOpened
set_option maxRecDepth 20000 in
theorem ggX6_carryOut_X6_setBerths : GoodIn wsX6_carryOut wsX6_setBerths := goodIn_r _ [139, 10, 140, 132, 133, 134, 21, 135, 23, 12, 13, 14, 8, 15, 16, 17, 26, 27, 28, 29, 30, 31, 32, 33, 34, 35, 36, 37, 38, 39, 40, 41, 42, 43, 44, 45, 46, 47, 48, 49, 50, 51, 52, 25, 24, 53, 54, 55, 56, 57, 58, 59, 60, 61, 62, 63, 64, 65, 66, 67, 68, 69, 70, 71, 72, 73, 74, 75, 76, 77, 78, 79, 80, 81, 82, 83, 84, 85, 86, 87, 88, 89, 90, 91, 92, 93, 94, 95, 96, 97, 98, 99, 100, 101, 102, 103, 104, 105, 106, 107, 108, 109, 110, 111, 112, 113, 114, 115, 116, 117, 118, 119, 120, 121, 122, 123, 124, 125, 126, 183, 184, 185, 186, 187, 188, 189, 190, 191, 192, 193, 194, 201, 202, 203, 204, 205, 206, 207, 208, 209, 210, 211, 212, 213, 214, 215, 216, 217, 218, 219, 220, 221, 222, 223, 224, 225, 226, 227] (by decide +kernel) (by decide +kernel)
set_option maxRecDepth 20000 in
theorem gX6_carryOut_X6_setBerths : GoodIn wsX6_carryOut (wsV RX6 86 RX6 yX6_setBerths wsX6_setBerths) := goodIn_app (goodIn_of _ (by decide +kernel)) ggX6_carryOut_X6_setBerths
set_option maxRecDepth 20000 in
theorem ggX6_carryOut_X6_letCome : GoodIn wsX6_carryOut wsX6_letCome := goodIn_r _ [144, 10, 145, 31, 30, 146, 147, 148, 21, 149, 150, 80, 12, 13, 14, 8, 15, 16, 17, 151, 152, 153, 154, 155, 89, 90, 91, 72, 92, 93, 94, 95, 96, 97, 98, 74, 99, 100, 101, 46, 47, 48, 76, 77, 78, 79, 81, 82, 83, 36, 84, 43, 85, 86, 87, 88, 39, 42, 57, 58, 102, 103, 104, 105, 75, 106, 107, 108, 109, 110, 111, 112, 113, 114, 115, 116, 117, 68, 118, 119, 120, 121, 25, 24, 122, 123, 124, 125, 126, 183, 184, 185, 186, 187, 188, 189, 190, 191, 192, 193, 194, 201, 202, 203, 204, 205, 206, 207, 208, 219, 220, 221, 222, 223, 224, 225, 226, 227, 209, 210, 211, 212, 213, 214, 215, 216, 217, 218] (by decide +kernel) (by decide +kernel)
set_option maxRecDepth 20000 in
theorem gX6_carryOut_X6_letCome : GoodIn wsX6_carryOut (wsV RX6 132 RX6 yX6_letCome wsX6_letCome) := goodIn_app (goodIn_of _ (by decide +kernel)) ggX6_carryOut_X6_letCome
set_option maxRecDepth 20000 in
theorem ggX6_carryOut_X6_letGo : GoodIn wsX6_carryOut wsX6_letGo := goodIn_r _ [159, 10, 31, 30, 145, 160, 161, 162, 21, 163, 150, 164, 165, 166, 167, 80, 168, 169, 170, 171, 155, 172, 89, 90, 91, 72, 92, 93, 94, 95, 96, 97, 98, 74, 99, 100, 101, 46, 47, 48, 76, 77, 78, 79, 81, 82, 83, 36, 84, 43, 85, 86, 87, 88, 39, 42, 57, 58, 102, 103, 104, 105, 75, 106, 107, 108, 109, 110, 111, 112, 113, 114, 115, 116, 117, 68, 118, 119, 120, 121, 25, 24, 122, 123, 124, 125, 126, 183, 184, 185, 186, 187, 188, 189, 190, 191, 192, 193, 194, 201, 202, 203, 204, 205, 206, 207, 208, 219, 220, 221, 222, 223, 224, 225, 226, 227, 209, 210, 211, 212, 213, 214, 215, 216, 217, 218] (by decide +kernel) (by decide +kernel)
set_option maxRecDepth 20000 in
theorem gX6_carryOut_X6_letGo : GoodIn wsX6_carryOut (wsV RX6 135 RX6 yX6_letGo wsX6_letGo) := goodIn_app (goodIn_of _ (by decide +kernel)) ggX6_carryOut_X6_letGo
set_option maxRecDepth 20000 in
theorem ggX6_carryOut_X6_setTons : GoodIn wsX6_carryOut wsX6_setTons := goodIn_r _ [176, 10, 177, 31, 30, 160, 161, 162, 21, 163, 150, 12, 13, 14, 8, 15, 16, 17, 89, 90, 91, 72, 92, 93, 94, 95, 96, 97, 98, 74, 99, 100, 101, 46, 47, 48, 76, 77, 78, 79, 80, 81, 82, 83, 36, 84, 43, 85, 86, 87, 88, 39, 42, 57, 58, 102, 103, 104, 105, 75, 106, 107, 108, 109, 110, 111, 112, 113, 114, 115, 116, 117, 68, 118, 119, 120, 121, 25, 24, 122, 123, 124, 125, 126, 183, 184, 185, 186, 187, 188, 189, 190, 191, 192, 193, 194, 201, 202, 203, 204, 205, 206, 207, 208, 219, 220, 221, 222, 223, 224, 225, 226, 227, 209, 210, 211, 212, 213, 214, 215, 216, 217, 218] (by decide +kernel) (by decide +kernel)
set_option maxRecDepth 20000 in
theorem gX6_carryOut_X6_setTons : GoodIn wsX6_carryOut (wsV RX6 138 RX6 yX6_setTons wsX6_setTons) := goodIn_app (goodIn_of _ (by decide +kernel)) ggX6_carryOut_X6_setTons
set_option maxRecDepth 20000 in
theorem ggX6_carryOut_X6_setBerthTons : GoodIn wsX6_carryOut wsX6_setBerthTons := goodIn_r _ [181, 10, 182, 31, 30, 12, 13, 14, 8, 15, 16, 17, 89, 90, 91, 72, 92, 93, 94, 95, 96, 97, 98, 74, 99, 100, 101, 46, 47, 48, 76, 77, 78, 21, 79, 80, 81, 82, 83, 36, 84, 43, 85, 86, 87, 88, 39, 42, 57, 58, 102, 103, 104, 105, 75, 106, 107, 108, 109, 110, 111, 112, 113, 114, 115, 116, 117, 68, 118, 119, 120, 121, 25, 24, 122, 123, 124, 125, 126, 183, 184, 185, 186, 187, 188, 189, 190, 191, 192, 193, 194, 201, 202, 203, 204, 205, 206, 207, 208, 219, 220, 221, 222, 223, 224, 225, 226, 227, 209, 210, 211, 212, 213, 214, 215, 216, 217, 218] (by decide +kernel) (by decide +kernel)
set_option maxRecDepth 20000 in
theorem gX6_carryOut_X6_setBerthTons : GoodIn wsX6_carryOut (wsV RX6 90 RX6 yX6_setBerthTons wsX6_setBerthTons) := goodIn_app (goodIn_of _ (by decide +kernel)) ggX6_carryOut_X6_setBerthTons
theorem dX6_carryOut_0 : decode cX6_carryOut 0 = .ok (.aload_n 0, 1) := by decide +kernel
theorem dX6_carryOut_1 : decode cX6_carryOut 1 = .ok (.getfield 49, 3) := by decide +kernel
theorem dX6_carryOut_4 : decode cX6_carryOut 4 = .ok (.getfield 330, 3) := by decide +kernel
theorem dX6_carryOut_7 : decode cX6_carryOut 7 = .ok (.tableswitch 148 0 6 #[41, 53, 66, 79, 98, 117, 129], 41) := by decide +kernel
theorem dX6_carryOut_48 : decode cX6_carryOut 48 = .ok (.aload_n 0, 1) := by decide +kernel
theorem dX6_carryOut_49 : decode cX6_carryOut 49 = .ok (.aload_n 0, 1) := by decide +kernel
theorem dX6_carryOut_50 : decode cX6_carryOut 50 = .ok (.getfield 49, 3) := by decide +kernel
theorem dX6_carryOut_53 : decode cX6_carryOut 53 = .ok (.getfield 333, 3) := by decide +kernel
theorem dX6_carryOut_56 : decode cX6_carryOut 56 = .ok (.invokevirtual 75, 3) := by decide +kernel
theorem dX6_carryOut_59 : decode cX6_carryOut 59 = .ok (.ireturn, 1) := by decide +kernel
theorem dX6_carryOut_60 : decode cX6_carryOut 60 = .ok (.aload_n 0, 1) := by decide +kernel
theorem dX6_carryOut_61 : decode cX6_carryOut 61 = .ok (.aload_n 0, 1) := by decide +kernel
theorem dX6_carryOut_62 : decode cX6_carryOut 62 = .ok (.getfield 49, 3) := by decide +kernel
theorem dX6_carryOut_65 : decode cX6_carryOut 65 = .ok (.getfield 333, 3) := by decide +kernel
theorem dX6_carryOut_68 : decode cX6_carryOut 68 = .ok (.iconst 0, 1) := by decide +kernel
theorem dX6_carryOut_69 : decode cX6_carryOut 69 = .ok (.invokevirtual 82, 3) := by decide +kernel
theorem dX6_carryOut_72 : decode cX6_carryOut 72 = .ok (.ireturn, 1) := by decide +kernel
theorem dX6_carryOut_73 : decode cX6_carryOut 73 = .ok (.aload_n 0, 1) := by decide +kernel
theorem dX6_carryOut_74 : decode cX6_carryOut 74 = .ok (.aload_n 0, 1) := by decide +kernel
theorem dX6_carryOut_75 : decode cX6_carryOut 75 = .ok (.getfield 49, 3) := by decide +kernel
theorem dX6_carryOut_78 : decode cX6_carryOut 78 = .ok (.getfield 333, 3) := by decide +kernel
theorem dX6_carryOut_81 : decode cX6_carryOut 81 = .ok (.iconst 1, 1) := by decide +kernel
theorem dX6_carryOut_82 : decode cX6_carryOut 82 = .ok (.invokevirtual 82, 3) := by decide +kernel
theorem dX6_carryOut_85 : decode cX6_carryOut 85 = .ok (.ireturn, 1) := by decide +kernel
theorem dX6_carryOut_86 : decode cX6_carryOut 86 = .ok (.aload_n 0, 1) := by decide +kernel
theorem dX6_carryOut_87 : decode cX6_carryOut 87 = .ok (.aload_n 0, 1) := by decide +kernel
theorem dX6_carryOut_88 : decode cX6_carryOut 88 = .ok (.getfield 49, 3) := by decide +kernel
theorem dX6_carryOut_91 : decode cX6_carryOut 91 = .ok (.getfield 333, 3) := by decide +kernel
theorem dX6_carryOut_94 : decode cX6_carryOut 94 = .ok (.aload_n 0, 1) := by decide +kernel
theorem dX6_carryOut_95 : decode cX6_carryOut 95 = .ok (.getfield 49, 3) := by decide +kernel
theorem dX6_carryOut_98 : decode cX6_carryOut 98 = .ok (.getfield 336, 3) := by decide +kernel
theorem dX6_carryOut_101 : decode cX6_carryOut 101 = .ok (.invokevirtual 86, 3) := by decide +kernel
theorem dX6_carryOut_104 : decode cX6_carryOut 104 = .ok (.ireturn, 1) := by decide +kernel
theorem dX6_carryOut_105 : decode cX6_carryOut 105 = .ok (.aload_n 0, 1) := by decide +kernel
theorem dX6_carryOut_106 : decode cX6_carryOut 106 = .ok (.aload_n 0, 1) := by decide +kernel
theorem dX6_carryOut_107 : decode cX6_carryOut 107 = .ok (.getfield 49, 3) := by decide +kernel
theorem dX6_carryOut_110 : decode cX6_carryOut 110 = .ok (.getfield 333, 3) := by decide +kernel
theorem dX6_carryOut_113 : decode cX6_carryOut 113 = .ok (.aload_n 0, 1) := by decide +kernel
theorem dX6_carryOut_114 : decode cX6_carryOut 114 = .ok (.getfield 49, 3) := by decide +kernel
theorem dX6_carryOut_117 : decode cX6_carryOut 117 = .ok (.getfield 336, 3) := by decide +kernel
theorem dX6_carryOut_120 : decode cX6_carryOut 120 = .ok (.invokevirtual 132, 3) := by decide +kernel
theorem dX6_carryOut_123 : decode cX6_carryOut 123 = .ok (.ireturn, 1) := by decide +kernel
theorem dX6_carryOut_124 : decode cX6_carryOut 124 = .ok (.aload_n 0, 1) := by decide +kernel
theorem dX6_carryOut_125 : decode cX6_carryOut 125 = .ok (.aload_n 0, 1) := by decide +kernel
theorem dX6_carryOut_126 : decode cX6_carryOut 126 = .ok (.getfield 49, 3) := by decide +kernel
theorem dX6_carryOut_129 : decode cX6_carryOut 129 = .ok (.getfield 333, 3) := by decide +kernel
theorem dX6_carryOut_132 : decode cX6_carryOut 132 = .ok (.invokevirtual 135, 3) := by decide +kernel
theorem dX6_carryOut_135 : decode cX6_carryOut 135 = .ok (.ireturn, 1) := by decide +kernel
theorem dX6_carryOut_136 : decode cX6_carryOut 136 = .ok (.aload_n 0, 1) := by decide +kernel
theorem dX6_carryOut_137 : decode cX6_carryOut 137 = .ok (.aload_n 0, 1) := by decide +kernel
theorem dX6_carryOut_138 : decode cX6_carryOut 138 = .ok (.getfield 49, 3) := by decide +kernel
theorem dX6_carryOut_141 : decode cX6_carryOut 141 = .ok (.getfield 333, 3) := by decide +kernel
theorem dX6_carryOut_144 : decode cX6_carryOut 144 = .ok (.aload_n 0, 1) := by decide +kernel
theorem dX6_carryOut_145 : decode cX6_carryOut 145 = .ok (.getfield 49, 3) := by decide +kernel
theorem dX6_carryOut_148 : decode cX6_carryOut 148 = .ok (.getfield 336, 3) := by decide +kernel
theorem dX6_carryOut_151 : decode cX6_carryOut 151 = .ok (.invokevirtual 138, 3) := by decide +kernel
theorem dX6_carryOut_154 : decode cX6_carryOut 154 = .ok (.ireturn, 1) := by decide +kernel
theorem dX6_carryOut_155 : decode cX6_carryOut 155 = .ok (.aload_n 0, 1) := by decide +kernel
theorem dX6_carryOut_156 : decode cX6_carryOut 156 = .ok (.aload_n 0, 1) := by decide +kernel
theorem dX6_carryOut_157 : decode cX6_carryOut 157 = .ok (.getfield 49, 3) := by decide +kernel
theorem dX6_carryOut_160 : decode cX6_carryOut 160 = .ok (.getfield 333, 3) := by decide +kernel
theorem dX6_carryOut_163 : decode cX6_carryOut 163 = .ok (.invokevirtual 90, 3) := by decide +kernel
theorem dX6_carryOut_166 : decode cX6_carryOut 166 = .ok (.ireturn, 1) := by decide +kernel
set_option maxRecDepth 20000 in
theorem ggX6_supposeClosed_X1_takeFrom : GoodIn wsX6_supposeClosed wsX1_takeFrom := goodIn_r _ [9, 10, 11, 12, 13, 14, 15, 16, 17, 18, 19, 20, 21, 70, 71, 72, 73, 74, 75, 76, 77] (by decide +kernel) (by decide +kernel)
set_option maxRecDepth 20000 in
theorem gX6_supposeClosed_X1_takeFrom : GoodIn wsX6_supposeClosed (wsV RX6 189 RX1 yX1_takeFrom wsX1_takeFrom) := goodIn_app (goodIn_of _ (by decide +kernel)) ggX6_supposeClosed_X1_takeFrom
set_option maxRecDepth 20000 in
theorem ggX6_supposeClosed_X0_build : GoodIn wsX6_supposeClosed wsX0_build := goodIn_r _ [26, 27, 28, 29, 30, 31, 32, 33, 34, 35, 36, 37, 38, 39, 40, 8, 41, 15, 10, 42, 43, 44, 25, 45, 46, 47, 48, 49, 50, 51, 52, 53, 54, 55, 56, 57, 78, 79, 80, 81, 82, 83, 84, 85, 86, 87, 70, 71, 72, 73, 74, 75, 76, 77] (by decide +kernel) (by decide +kernel)
set_option maxRecDepth 20000 in
theorem gX6_supposeClosed_X0_build : GoodIn wsX6_supposeClosed (wsV RX6 196 RX0 yX0_build wsX0_build) := goodIn_app (goodIn_of _ (by decide +kernel)) ggX6_supposeClosed_X0_build
theorem dX6_supposeClosed_0 : decode cX6_supposeClosed 0 = .ok (.aload_n 0, 1) := by decide +kernel
theorem dX6_supposeClosed_1 : decode cX6_supposeClosed 1 = .ok (.getfield 30, 3) := by decide +kernel
theorem dX6_supposeClosed_4 : decode cX6_supposeClosed 4 = .ok (.aload_n 0, 1) := by decide +kernel
theorem dX6_supposeClosed_5 : decode cX6_supposeClosed 5 = .ok (.getfield 12, 3) := by decide +kernel
theorem dX6_supposeClosed_8 : decode cX6_supposeClosed 8 = .ok (.invokevirtual 189, 3) := by decide +kernel
theorem dX6_supposeClosed_11 : decode cX6_supposeClosed 11 = .ok (.aload_n 0, 1) := by decide +kernel
theorem dX6_supposeClosed_12 : decode cX6_supposeClosed 12 = .ok (.getfield 30, 3) := by decide +kernel
theorem dX6_supposeClosed_15 : decode cX6_supposeClosed 15 = .ok (.getfield 101, 3) := by decide +kernel
theorem dX6_supposeClosed_18 : decode cX6_supposeClosed 18 = .ok (.iload_n 1, 1) := by decide +kernel
theorem dX6_supposeClosed_19 : decode cX6_supposeClosed 19 = .ok (.iconst 0, 1) := by decide +kernel
theorem dX6_supposeClosed_20 : decode cX6_supposeClosed 20 = .ok (.bastore, 1) := by decide +kernel
theorem dX6_supposeClosed_21 : decode cX6_supposeClosed 21 = .ok (.aload_n 0, 1) := by decide +kernel
theorem dX6_supposeClosed_22 : decode cX6_supposeClosed 22 = .ok (.getfield 33, 3) := by decide +kernel
theorem dX6_supposeClosed_25 : decode cX6_supposeClosed 25 = .ok (.aload_n 0, 1) := by decide +kernel
theorem dX6_supposeClosed_26 : decode cX6_supposeClosed 26 = .ok (.getfield 30, 3) := by decide +kernel
theorem dX6_supposeClosed_29 : decode cX6_supposeClosed 29 = .ok (.invokevirtual 196, 3) := by decide +kernel
theorem dX6_supposeClosed_32 : decode cX6_supposeClosed 32 = .ok (.return_, 1) := by decide +kernel
set_option maxRecDepth 20000 in
theorem ggX6_isHot_X6_tonsBeyond : GoodIn wsX6_isHot wsX6_tonsBeyond := goodIn_r _ [5, 6, 7, 8, 9, 10, 11, 12, 13, 14, 15, 16, 17, 18, 19, 20, 21, 22, 23, 24, 25, 26, 27, 28, 29, 30, 31, 32, 33, 34, 35, 36, 37, 38, 39, 40, 41, 42, 43, 44, 45] (by decide +kernel) (by decide +kernel)
set_option maxRecDepth 20000 in
theorem gX6_isHot_X6_tonsBeyond : GoodIn wsX6_isHot (wsV RX6 339 RX6 yX6_tonsBeyond wsX6_tonsBeyond) := goodIn_app (goodIn_of _ (by decide +kernel)) ggX6_isHot_X6_tonsBeyond
theorem dX6_isHot_0 : decode cX6_isHot 0 = .ok (.aload_n 0, 1) := by decide +kernel
theorem dX6_isHot_1 : decode cX6_isHot 1 = .ok (.iload_n 1, 1) := by decide +kernel
theorem dX6_isHot_2 : decode cX6_isHot 2 = .ok (.invokevirtual 339, 3) := by decide +kernel
theorem dX6_isHot_5 : decode cX6_isHot 5 = .ok (.ifCond .le 7, 3) := by decide +kernel
theorem dX6_isHot_8 : decode cX6_isHot 8 = .ok (.iconst 1, 1) := by decide +kernel
theorem dX6_isHot_9 : decode cX6_isHot 9 = .ok (.goto 4, 3) := by decide +kernel
theorem dX6_isHot_12 : decode cX6_isHot 12 = .ok (.iconst 0, 1) := by decide +kernel
theorem dX6_isHot_13 : decode cX6_isHot 13 = .ok (.ireturn, 1) := by decide +kernel
set_option maxRecDepth 20000 in
theorem ggX6_hotPiers_X6_isHot : GoodIn wsX6_hotPiers wsX6_isHot := goodIn_r _ [7, 8, 9, 10, 6, 11, 12, 13, 1, 14, 15, 16, 17, 18, 19, 20, 21, 22, 23, 24, 25, 26, 27, 28, 29, 30, 31, 32, 33, 42, 43, 44, 45, 46, 47, 48, 49, 50, 34, 35, 36, 37, 38, 39, 40, 41] (by decide +kernel) (by decide +kernel)
set_option maxRecDepth 20000 in
theorem gX6_hotPiers_X6_isHot : GoodIn wsX6_hotPiers (wsV RX6 126 RX6 yX6_isHot wsX6_isHot) := goodIn_app (goodIn_of _ (by decide +kernel)) ggX6_hotPiers_X6_isHot
theorem dX6_hotPiers_0 : decode cX6_hotPiers 0 = .ok (.iconst 0, 1) := by decide +kernel
theorem dX6_hotPiers_1 : decode cX6_hotPiers 1 = .ok (.istore_n 1, 1) := by decide +kernel
theorem dX6_hotPiers_2 : decode cX6_hotPiers 2 = .ok (.iconst 0, 1) := by decide +kernel
theorem dX6_hotPiers_3 : decode cX6_hotPiers 3 = .ok (.istore_n 2, 1) := by decide +kernel
theorem dX6_hotPiers_4 : decode cX6_hotPiers 4 = .ok (.iload_n 2, 1) := by decide +kernel
theorem dX6_hotPiers_5 : decode cX6_hotPiers 5 = .ok (.aload_n 0, 1) := by decide +kernel
theorem dX6_hotPiers_6 : decode cX6_hotPiers 6 = .ok (.getfield 12, 3) := by decide +kernel
theorem dX6_hotPiers_9 : decode cX6_hotPiers 9 = .ok (.getfield 186, 3) := by decide +kernel
theorem dX6_hotPiers_12 : decode cX6_hotPiers 12 = .ok (.if_icmp .ge 20, 3) := by decide +kernel
theorem dX6_hotPiers_15 : decode cX6_hotPiers 15 = .ok (.aload_n 0, 1) := by decide +kernel
theorem dX6_hotPiers_16 : decode cX6_hotPiers 16 = .ok (.iload_n 2, 1) := by decide +kernel
theorem dX6_hotPiers_17 : decode cX6_hotPiers 17 = .ok (.invokevirtual 126, 3) := by decide +kernel
theorem dX6_hotPiers_20 : decode cX6_hotPiers 20 = .ok (.ifCond .eq 6, 3) := by decide +kernel
theorem dX6_hotPiers_23 : decode cX6_hotPiers 23 = .ok (.iinc 1 1, 3) := by decide +kernel
theorem dX6_hotPiers_26 : decode cX6_hotPiers 26 = .ok (.iinc 2 1, 3) := by decide +kernel
