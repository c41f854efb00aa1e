-- the program's names, words and instructions, as printed by TURN
theorem dL_cell_0 : decode cL_cell 0 = .ok (.iload_n 1, 1) := by decide +kernel
theorem dL_cell_1 : decode cL_cell 1 = .ok (.aload_n 0, 1) := by decide +kernel
theorem dL_cell_2 : decode cL_cell 2 = .ok (.arraylength, 1) := by decide +kernel
theorem dL_cell_3 : decode cL_cell 3 = .ok (.if_icmp .ge 9, 3) := by decide +kernel
theorem dL_cell_6 : decode cL_cell 6 = .ok (.aload_n 0, 1) := by decide +kernel
theorem dL_cell_7 : decode cL_cell 7 = .ok (.iload_n 1, 1) := by decide +kernel
theorem dL_cell_8 : decode cL_cell 8 = .ok (.iaload, 1) := by decide +kernel
theorem dL_cell_9 : decode cL_cell 9 = .ok (.goto 9, 3) := by decide +kernel
theorem dL_cell_12 : decode cL_cell 12 = .ok (.ldc 7, 2) := by decide +kernel
theorem dL_cell_14 : decode cL_cell 14 = .ok (.iload_n 1, 1) := by decide +kernel
theorem dL_cell_15 : decode cL_cell 15 = .ok (.iconst 1, 1) := by decide +kernel
theorem dL_cell_16 : decode cL_cell 16 = .ok (.iadd, 1) := by decide +kernel
theorem dL_cell_17 : decode cL_cell 17 = .ok (.imul, 1) := by decide +kernel
theorem dL_cell_18 : decode cL_cell 18 = .ok (.ireturn, 1) := by decide +kernel
theorem dL_low_0 : decode cL_low 0 = .ok (.iload_n 0, 1) := by decide +kernel
theorem dL_low_1 : decode cL_low 1 = .ok (.ldc 8, 2) := by decide +kernel
theorem dL_low_3 : decode cL_low 3 = .ok (.iand, 1) := by decide +kernel
theorem dL_low_4 : decode cL_low 4 = .ok (.iload_n 1, 1) := by decide +kernel
theorem dL_low_5 : decode cL_low 5 = .ok (.irem, 1) := by decide +kernel
theorem dL_low_6 : decode cL_low 6 = .ok (.ireturn, 1) := by decide +kernel
set_option maxRecDepth 20000 in
theorem ggL_print_X9_color : GoodIn wsL_print wsX9_color := goodIn_r _ [7, 8, 9, 10, 6, 11, 12, 13, 14, 15, 16, 17, 238, 239, 240, 241, 242, 243, 244, 245, 246, 247, 248, 249, 250, 251, 252] (by decide +kernel) (by decide +kernel)
set_option maxRecDepth 20000 in
theorem gL_print_X9_color : GoodIn wsL_print (wsV RL 13 RX9 yX9_color wsX9_color) := goodIn_app (goodIn_of _ (by decide +kernel)) ggL_print_X9_color
set_option maxRecDepth 20000 in
theorem ggL_print_X9_code : GoodIn wsL_print wsX9_code := goodIn_r _ [21, 8, 22, 23, 24, 25, 26, 27, 28, 29, 30, 31, 32, 33, 34, 35, 36, 37, 38, 39, 40, 41, 42, 43, 44, 45, 46, 47, 48, 238, 239, 240, 241, 242, 243, 244, 245, 246, 247, 248, 249, 250, 251, 253, 254, 255, 256, 257] (by decide +kernel) (by decide +kernel)
set_option maxRecDepth 20000 in
theorem gL_print_X9_code : GoodIn wsL_print (wsV RL 19 RX9 yX9_code wsX9_code) := goodIn_app (goodIn_of _ (by decide +kernel)) ggL_print_X9_code
set_option maxRecDepth 20000 in
theorem ggL_print_X9_account : GoodIn wsL_print wsX9_account := goodIn_r _ [52, 8, 53, 54, 55, 56, 57, 58, 238, 239, 240, 241, 242, 243, 244, 245, 246, 247, 248, 249, 250, 251, 258, 259, 260, 261, 262, 263, 264] (by decide +kernel) (by decide +kernel)
set_option maxRecDepth 20000 in
theorem gL_print_X9_account : GoodIn wsL_print (wsV RL 22 RX9 yX9_account wsX9_account) := goodIn_app (goodIn_of _ (by decide +kernel)) ggL_print_X9_account
set_option maxRecDepth 20000 in
theorem ggL_print_X9_lamp : GoodIn wsL_print wsX9_lamp := goodIn_r _ [62, 8, 9, 10, 6, 11, 63, 64, 65, 66, 67, 68, 69, 70, 71, 72, 73, 74, 75, 76, 77, 78, 79, 80, 81, 82, 83, 84, 85, 86, 87, 88, 89, 90, 91, 92, 93, 238, 239, 240, 241, 242, 243, 244, 245, 246, 247, 248, 249, 250, 251, 265, 266, 267, 268, 269, 270, 271] (by decide +kernel) (by decide +kernel)
set_option maxRecDepth 20000 in
theorem gL_print_X9_lamp : GoodIn wsL_print (wsV RL 25 RX9 yX9_lamp wsX9_lamp) := goodIn_app (goodIn_of _ (by decide +kernel)) ggL_print_X9_lamp
set_option maxRecDepth 20000 in
theorem ggL_print_X9_count : GoodIn wsL_print wsX9_count := goodIn_r _ [97, 8, 98, 99, 100, 101, 102, 103, 15, 104, 105, 106, 107, 108, 109, 13, 14, 16, 17, 110, 111, 112, 66, 113, 114, 64, 65, 67, 68, 69, 70, 71, 115, 116, 117, 118, 119, 91, 92, 93, 85, 120, 121, 122, 123, 124, 125, 238, 239, 240, 241, 242, 243, 244, 245, 246, 247, 248, 249, 250, 251, 265, 266, 267, 268, 269, 270, 271, 272, 273, 274, 275, 276, 277, 278, 279, 280, 281, 252, 258, 259, 260, 261, 262, 263, 264] (by decide +kernel) (by decide +kernel)
set_option maxRecDepth 20000 in
theorem gL_print_X9_count : GoodIn wsL_print (wsV RL 29 RX9 yX9_count wsX9_count) := goodIn_app (goodIn_of _ (by decide +kernel)) ggL_print_X9_count
set_option maxRecDepth 20000 in
theorem ggL_print_X9_entry : GoodIn wsL_print wsX9_entry := goodIn_r _ [129, 8, 9, 10, 6, 11, 120, 121, 122, 123, 124, 125, 130, 131, 132, 133, 134, 135, 136, 137, 238, 239, 240, 241, 242, 243, 244, 245, 246, 247, 248, 249, 250, 251, 258, 259, 260, 261, 262, 263, 264] (by decide +kernel) (by decide +kernel)
set_option maxRecDepth 20000 in
theorem gL_print_X9_entry : GoodIn wsL_print (wsV RL 32 RX9 yX9_entry wsX9_entry) := goodIn_app (goodIn_of _ (by decide +kernel)) ggL_print_X9_entry
set_option maxRecDepth 20000 in
theorem ggL_print_X9_seen : GoodIn wsL_print wsX9_seen := goodIn_r _ [141, 8, 9, 10, 6, 11, 142, 143, 144, 123, 145, 146, 238, 239, 240, 241, 242, 243, 244, 245, 246, 247, 248, 249, 250, 251, 258, 259, 260, 261, 262, 263, 264] (by decide +kernel) (by decide +kernel)
set_option maxRecDepth 20000 in
theorem gL_print_X9_seen : GoodIn wsL_print (wsV RL 35 RX9 yX9_seen wsX9_seen) := goodIn_app (goodIn_of _ (by decide +kernel)) ggL_print_X9_seen
set_option maxRecDepth 20000 in
theorem ggL_print_X9_shareBits : GoodIn wsL_print wsX9_shareBits := goodIn_r _ [150, 8, 151, 152, 153, 25, 154, 32, 48, 29, 30, 31, 33, 155, 156, 157, 158, 159, 160, 161, 162, 238, 239, 240, 241, 242, 243, 244, 245, 246, 247, 248, 249, 250, 251, 253, 254, 255, 256, 257] (by decide +kernel) (by decide +kernel)
set_option maxRecDepth 20000 in
theorem gL_print_X9_shareBits : GoodIn wsL_print (wsV RL 38 RX9 yX9_shareBits wsX9_shareBits) := goodIn_app (goodIn_of _ (by decide +kernel)) ggL_print_X9_shareBits
set_option maxRecDepth 20000 in
theorem ggL_print_X9_rangeBits : GoodIn wsL_print wsX9_rangeBits := goodIn_r _ [166, 8, 9, 10, 6, 11, 167, 168, 169, 56, 170, 171, 172, 173, 174, 175, 87, 88, 66, 89, 68, 76, 85, 69, 70, 71, 176, 177, 178, 179, 180, 157, 181, 159, 160, 161, 162, 238, 239, 240, 241, 242, 243, 244, 245, 246, 247, 248, 249, 250, 251, 265, 266, 267, 268, 269, 270, 271] (by decide +kernel) (by decide +kernel)
set_option maxRecDepth 20000 in
theorem gL_print_X9_rangeBits : GoodIn wsL_print (wsV RL 42 RX9 yX9_rangeBits wsX9_rangeBits) := goodIn_app (goodIn_of _ (by decide +kernel)) ggL_print_X9_rangeBits
set_option maxRecDepth 20000 in
theorem ggL_print_X9_untilIdle : GoodIn wsL_print wsX9_untilIdle := goodIn_r _ [185, 186, 8, 187, 188, 189, 56, 190, 191, 192, 171, 193, 58, 194, 195, 196, 197, 198, 173, 199, 200, 201, 202, 15, 203, 17, 204, 205, 206, 207, 25, 208, 46, 209, 47, 27, 32, 33, 210, 211, 212, 66, 213, 76, 214, 68, 85, 215, 216, 217, 218, 219, 220, 221, 123, 222, 134, 223, 135, 136, 137, 146, 224, 125, 225, 226, 227, 228, 229, 230, 231, 232, 119, 91, 92, 93, 69, 70, 71, 233, 43, 44, 45, 48, 29, 30, 31, 234, 235, 236, 237, 238, 239, 240, 241, 242, 243, 244, 245, 246, 247, 248, 249, 250, 251, 252, 253, 254, 255, 256, 257, 265, 266, 267, 268, 269, 270, 271, 258, 259, 260, 261, 262, 263, 264] (by decide +kernel) (by decide +kernel)
set_option maxRecDepth 20000 in
theorem gL_print_X9_untilIdle : GoodIn wsL_print (wsV RL 45 RX9 yX9_untilIdle wsX9_untilIdle) := goodIn_app (goodIn_of _ (by decide +kernel)) ggL_print_X9_untilIdle
theorem dL_print_0 : decode cL_print 0 = .ok (.ldc2_w 9, 3) := by decide +kernel
theorem dL_print_3 : decode cL_print 3 = .ok (.lstore_n 1, 1) := by decide +kernel
theorem dL_print_4 : decode cL_print 4 = .ok (.iconst 0, 1) := by decide +kernel
theorem dL_print_5 : decode cL_print 5 = .ok (.istore_n 3, 1) := by decide +kernel
theorem dL_print_6 : decode cL_print 6 = .ok (.iload_n 3, 1) := by decide +kernel
theorem dL_print_7 : decode cL_print 7 = .ok (.bipush 64, 2) := by decide +kernel
theorem dL_print_9 : decode cL_print 9 = .ok (.if_icmp .ge 22, 3) := by decide +kernel
theorem dL_print_12 : decode cL_print 12 = .ok (.ldc2_w 11, 3) := by decide +kernel
theorem dL_print_15 : decode cL_print 15 = .ok (.lload_n 1, 1) := by decide +kernel
theorem dL_print_16 : decode cL_print 16 = .ok (.lmul, 1) := by decide +kernel
theorem dL_print_17 : decode cL_print 17 = .ok (.aload_n 0, 1) := by decide +kernel
theorem dL_print_18 : decode cL_print 18 = .ok (.iload_n 3, 1) := by decide +kernel
theorem dL_print_19 : decode cL_print 19 = .ok (.invokevirtual 13, 3) := by decide +kernel
theorem dL_print_22 : decode cL_print 22 = .ok (.i2l, 1) := by decide +kernel
theorem dL_print_23 : decode cL_print 23 = .ok (.ladd, 1) := by decide +kernel
theorem dL_print_24 : decode cL_print 24 = .ok (.lstore_n 1, 1) := by decide +kernel
theorem dL_print_25 : decode cL_print 25 = .ok (.iinc 3 1, 3) := by decide +kernel
theorem dL_print_28 : decode cL_print 28 = .ok (.goto (-22), 3) := by decide +kernel
theorem dL_print_31 : decode cL_print 31 = .ok (.iconst 0, 1) := by decide +kernel
theorem dL_print_32 : decode cL_print 32 = .ok (.istore_n 3, 1) := by decide +kernel
theorem dL_print_33 : decode cL_print 33 = .ok (.iload_n 3, 1) := by decide +kernel
theorem dL_print_34 : decode cL_print 34 = .ok (.iconst 5, 1) := by decide +kernel
theorem dL_print_35 : decode cL_print 35 = .ok (.if_icmp .ge 22, 3) := by decide +kernel
theorem dL_print_38 : decode cL_print 38 = .ok (.ldc2_w 11, 3) := by decide +kernel
theorem dL_print_41 : decode cL_print 41 = .ok (.lload_n 1, 1) := by decide +kernel
theorem dL_print_42 : decode cL_print 42 = .ok (.lmul, 1) := by decide +kernel
theorem dL_print_43 : decode cL_print 43 = .ok (.aload_n 0, 1) := by decide +kernel
theorem dL_print_44 : decode cL_print 44 = .ok (.iload_n 3, 1) := by decide +kernel
theorem dL_print_45 : decode cL_print 45 = .ok (.invokevirtual 19, 3) := by decide +kernel
theorem dL_print_48 : decode cL_print 48 = .ok (.i2l, 1) := by decide +kernel
theorem dL_print_49 : decode cL_print 49 = .ok (.ladd, 1) := by decide +kernel
theorem dL_print_50 : decode cL_print 50 = .ok (.lstore_n 1, 1) := by decide +kernel
theorem dL_print_51 : decode cL_print 51 = .ok (.iinc 3 1, 3) := by decide +kernel
theorem dL_print_54 : decode cL_print 54 = .ok (.goto (-21), 3) := by decide +kernel
theorem dL_print_57 : decode cL_print 57 = .ok (.iconst 0, 1) := by decide +kernel
theorem dL_print_58 : decode cL_print 58 = .ok (.istore_n 3, 1) := by decide +kernel
theorem dL_print_59 : decode cL_print 59 = .ok (.iload_n 3, 1) := by decide +kernel
theorem dL_print_60 : decode cL_print 60 = .ok (.bipush 8, 2) := by decide +kernel
theorem dL_print_62 : decode cL_print 62 = .ok (.if_icmp .ge 64, 3) := by decide +kernel
theorem dL_print_65 : decode cL_print 65 = .ok (.ldc2_w 11, 3) := by decide +kernel
theorem dL_print_68 : decode cL_print 68 = .ok (.ldc2_w 11, 3) := by decide +kernel
theorem dL_print_71 : decode cL_print 71 = .ok (.lload_n 1, 1) := by decide +kernel
theorem dL_print_72 : decode cL_print 72 = .ok (.lmul, 1) := by decide +kernel
theorem dL_print_73 : decode cL_print 73 = .ok (.aload_n 0, 1) := by decide +kernel
theorem dL_print_74 : decode cL_print 74 = .ok (.iload_n 3, 1) := by decide +kernel
theorem dL_print_75 : decode cL_print 75 = .ok (.invokevirtual 22, 3) := by decide +kernel
theorem dL_print_78 : decode cL_print 78 = .ok (.i2l, 1) := by decide +kernel
theorem dL_print_79 : decode cL_print 79 = .ok (.ladd, 1) := by decide +kernel
theorem dL_print_80 : decode cL_print 80 = .ok (.lmul, 1) := by decide +kernel
theorem dL_print_81 : decode cL_print 81 = .ok (.iload_n 3, 1) := by decide +kernel
theorem dL_print_82 : decode cL_print 82 = .ok (.bipush 6, 2) := by decide +kernel
theorem dL_print_84 : decode cL_print 84 = .ok (.if_icmp .ge 32, 3) := by decide +kernel
theorem dL_print_87 : decode cL_print 87 = .ok (.aload_n 0, 1) := by decide +kernel
theorem dL_print_88 : decode cL_print 88 = .ok (.iload_n 3, 1) := by decide +kernel
theorem dL_print_89 : decode cL_print 89 = .ok (.iconst 3, 1) := by decide +kernel
theorem dL_print_90 : decode cL_print 90 = .ok (.invokevirtual 25, 3) := by decide +kernel
theorem dL_print_93 : decode cL_print 93 = .ok (.bipush 7, 2) := by decide +kernel
theorem dL_print_95 : decode cL_print 95 = .ok (.aload_n 0, 1) := by decide +kernel
theorem dL_print_96 : decode cL_print 96 = .ok (.iload_n 3, 1) := by decide +kernel
theorem dL_print_97 : decode cL_print 97 = .ok (.iconst 4, 1) := by decide +kernel
theorem dL_print_98 : decode cL_print 98 = .ok (.invokevirtual 25, 3) := by decide +kernel
theorem dL_print_101 : decode cL_print 101 = .ok (.imul, 1) := by decide +kernel
theorem dL_print_102 : decode cL_print 102 = .ok (.iadd, 1) := by decide +kernel
theorem dL_print_103 : decode cL_print 103 = .ok (.bipush 49, 2) := by decide +kernel
theorem dL_print_105 : decode cL_print 105 = .ok (.aload_n 0, 1) := by decide +kernel
theorem dL_print_106 : decode cL_print 106 = .ok (.iload_n 3, 1) := by decide +kernel
theorem dL_print_107 : decode cL_print 107 = .ok (.iconst 1, 1) := by decide +kernel
theorem dL_print_108 : decode cL_print 108 = .ok (.invokevirtual 25, 3) := by decide +kernel
theorem dL_print_111 : decode cL_print 111 = .ok (.imul, 1) := by decide +kernel
theorem dL_print_112 : decode cL_print 112 = .ok (.iadd, 1) := by decide +kernel
theorem dL_print_113 : decode cL_print 113 = .ok (.goto 4, 3) := by decide +kernel
theorem dL_print_116 : decode cL_print 116 = .ok (.iconst 0, 1) := by decide +kernel
theorem dL_print_117 : decode cL_print 117 = .ok (.i2l, 1) := by decide +kernel
theorem dL_print_118 : decode cL_print 118 = .ok (.ladd, 1) := by decide +kernel
theorem dL_print_119 : decode cL_print 119 = .ok (.lstore_n 1, 1) := by decide +kernel
theorem dL_print_120 : decode cL_print 120 = .ok (.iinc 3 1, 3) := by decide +kernel
theorem dL_print_123 : decode cL_print 123 = .ok (.goto (-64), 3) := by decide +kernel
theorem dL_print_126 : decode cL_print 126 = .ok (.iconst 0, 1) := by decide +kernel
theorem dL_print_127 : decode cL_print 127 = .ok (.istore_n 3, 1) := by decide +kernel
theorem dL_print_128 : decode cL_print 128 = .ok (.iload_n 3, 1) := by decide +kernel
theorem dL_print_129 : decode cL_print 129 = .ok (.bipush 9, 2) := by decide +kernel
theorem dL_print_131 : decode cL_print 131 = .ok (.if_icmp .ge 22, 3) := by decide +kernel
theorem dL_print_134 : decode cL_print 134 = .ok (.ldc2_w 11, 3) := by decide +kernel
theorem dL_print_137 : decode cL_print 137 = .ok (.lload_n 1, 1) := by decide +kernel
theorem dL_print_138 : decode cL_print 138 = .ok (.lmul, 1) := by decide +kernel
theorem dL_print_139 : decode cL_print 139 = .ok (.aload_n 0, 1) := by decide +kernel
theorem dL_print_140 : decode cL_print 140 = .ok (.iload_n 3, 1) := by decide +kernel
theorem dL_print_141 : decode cL_print 141 = .ok (.invokevirtual 29, 3) := by decide +kernel
theorem dL_print_144 : decode cL_print 144 = .ok (.i2l, 1) := by decide +kernel
theorem dL_print_145 : decode cL_print 145 = .ok (.ladd, 1) := by decide +kernel
theorem dL_print_146 : decode cL_print 146 = .ok (.lstore_n 1, 1) := by decide +kernel
theorem dL_print_147 : decode cL_print 147 = .ok (.iinc 3 1, 3) := by decide +kernel
theorem dL_print_150 : decode cL_print 150 = .ok (.goto (-22), 3) := by decide +kernel
theorem dL_print_153 : decode cL_print 153 = .ok (.iconst 0, 1) := by decide +kernel
theorem dL_print_154 : decode cL_print 154 = .ok (.istore_n 3, 1) := by decide +kernel
theorem dL_print_155 : decode cL_print 155 = .ok (.iload_n 3, 1) := by decide +kernel
theorem dL_print_156 : decode cL_print 156 = .ok (.iconst 4, 1) := by decide +kernel
theorem dL_print_157 : decode cL_print 157 = .ok (.if_icmp .ge 34, 3) := by decide +kernel
theorem dL_print_160 : decode cL_print 160 = .ok (.ldc2_w 11, 3) := by decide +kernel
theorem dL_print_163 : decode cL_print 163 = .ok (.ldc2_w 11, 3) := by decide +kernel
theorem dL_print_166 : decode cL_print 166 = .ok (.lload_n 1, 1) := by decide +kernel
theorem dL_print_167 : decode cL_print 167 = .ok (.lmul, 1) := by decide +kernel
theorem dL_print_168 : decode cL_print 168 = .ok (.aload_n 0, 1) := by decide +kernel
theorem dL_print_169 : decode cL_print 169 = .ok (.iload_n 3, 1) := by decide +kernel
theorem dL_print_170 : decode cL_print 170 = .ok (.iload_n 3, 1) := by decide +kernel
theorem dL_print_171 : decode cL_print 171 = .ok (.invokevirtual 32, 3) := by decide +kernel
theorem dL_print_174 : decode cL_print 174 = .ok (.i2l, 1) := by decide +kernel
theorem dL_print_175 : decode cL_print 175 = .ok (.ladd, 1) := by decide +kernel
theorem dL_print_176 : decode cL_print 176 = .ok (.lmul, 1) := by decide +kernel
theorem dL_print_177 : decode cL_print 177 = .ok (.aload_n 0, 1) := by decide +kernel
theorem dL_print_178 : decode cL_print 178 = .ok (.iload_n 3, 1) := by decide +kernel
theorem dL_print_179 : decode cL_print 179 = .ok (.invokevirtual 35, 3) := by decide +kernel
theorem dL_print_182 : decode cL_print 182 = .ok (.i2l, 1) := by decide +kernel
theorem dL_print_183 : decode cL_print 183 = .ok (.ladd, 1) := by decide +kernel
theorem dL_print_184 : decode cL_print 184 = .ok (.lstore_n 1, 1) := by decide +kernel
theorem dL_print_185 : decode cL_print 185 = .ok (.iinc 3 1, 3) := by decide +kernel
theorem dL_print_188 : decode cL_print 188 = .ok (.goto (-33), 3) := by decide +kernel
theorem dL_print_191 : decode cL_print 191 = .ok (.ldc2_w 11, 3) := by decide +kernel
theorem dL_print_194 : decode cL_print 194 = .ok (.ldc2_w 11, 3) := by decide +kernel
theorem dL_print_197 : decode cL_print 197 = .ok (.ldc2_w 11, 3) := by decide +kernel
theorem dL_print_200 : decode cL_print 200 = .ok (.lload_n 1, 1) := by decide +kernel
theorem dL_print_201 : decode cL_print 201 = .ok (.lmul, 1) := by decide +kernel
theorem dL_print_202 : decode cL_print 202 = .ok (.aload_n 0, 1) := by decide +kernel
theorem dL_print_203 : decode cL_print 203 = .ok (.invokevirtual 38, 3) := by decide +kernel
theorem dL_print_206 : decode cL_print 206 = .ok (.ladd, 1) := by decide +kernel
theorem dL_print_207 : decode cL_print 207 = .ok (.lmul, 1) := by decide +kernel
theorem dL_print_208 : decode cL_print 208 = .ok (.aload_n 0, 1) := by decide +kernel
theorem dL_print_209 : decode cL_print 209 = .ok (.iconst 2, 1) := by decide +kernel
theorem dL_print_210 : decode cL_print 210 = .ok (.invokevirtual 42, 3) := by decide +kernel
theorem dL_print_213 : decode cL_print 213 = .ok (.i2l, 1) := by decide +kernel
theorem dL_print_214 : decode cL_print 214 = .ok (.ladd, 1) := by decide +kernel
theorem dL_print_215 : decode cL_print 215 = .ok (.lmul, 1) := by decide +kernel
theorem dL_print_216 : decode cL_print 216 = .ok (.aload_n 0, 1) := by decide +kernel
theorem dL_print_217 : decode cL_print 217 = .ok (.invokevirtual 45, 3) := by decide +kernel
theorem dL_print_220 : decode cL_print 220 = .ok (.i2l, 1) := by decide +kernel
theorem dL_print_221 : decode cL_print 221 = .ok (.ladd, 1) := by decide +kernel
theorem dL_print_222 : decode cL_print 222 = .ok (.lreturn, 1) := by decide +kernel
set_option maxRecDepth 20000 in
theorem ggL_areErrors_L_print : GoodIn wsL_areErrors wsL_print := goodIn_r _ [4, 5, 6, 7, 8, 9, 10, 11, 12, 13, 14, 15, 16, 17, 18, 19, 20, 21, 22, 23, 24, 25, 26, 27, 28, 29, 30, 31, 32, 33, 34, 35, 36, 37, 38, 39, 40, 41, 42, 43, 44, 45, 46, 47, 48, 49, 50, 51, 52, 53, 54, 55, 56, 57, 58, 59, 60, 61, 62, 63, 64, 65, 66, 67, 68, 69, 70, 71, 72, 73, 74, 75, 76, 77, 78, 79, 80, 81, 82, 83, 84, 85, 86, 87, 88, 89, 90, 91, 92, 93, 94, 95, 96, 97, 98, 99, 100, 101, 102, 103, 104, 105, 106, 107, 108, 109, 110, 111, 112, 113, 114, 115, 116, 117, 118, 119, 120, 121, 122, 123, 124, 125, 126, 127, 128, 129, 130, 131, 132, 133, 134, 135, 136, 137, 138, 139, 140, 141, 142, 143, 144, 145, 146, 147, 148, 149, 150, 151, 152, 153, 154, 155, 156, 157, 158, 159, 160, 161, 162, 163, 164, 165, 166, 167, 168, 169, 170, 171, 172, 173, 174, 175, 176, 177, 178, 179, 180, 181, 182, 183, 184, 185, 186, 187, 188, 189, 190, 191, 192, 193, 194, 195, 196, 197, 198, 199, 200, 201, 202, 203, 204, 205, 206, 207, 208, 209, 210, 211, 212, 213, 214, 215, 216, 217, 218, 219, 220, 221, 222, 223, 224, 225, 226, 227, 228, 229, 230, 231, 232, 233, 234, 235, 236, 237, 238, 239, 240, 241, 569, 570, 571, 572, 573, 574, 575, 576, 577, 578, 579, 580, 581, 582, 583, 584, 585, 586, 587, 588, 589, 590, 591, 592, 593, 594, 595, 596, 597, 598, 599, 600, 601, 602, 603, 604, 605, 606, 607, 608, 609, 610, 611, 612] (by decide +kernel) (by decide +kernel)
set_option maxRecDepth 20000 in
theorem gL_areErrors_L_print : GoodIn wsL_areErrors (va_wsS RL 49 yL_print wsL_print) := goodIn_app (goodIn_of _ (by decide +kernel)) ggL_areErrors_L_print
set_option maxRecDepth 20000 in
theorem ggL_areErrors_X9_paint : GoodIn wsL_areErrors wsX9_paint := goodIn_r _ [245, 102, 12, 13, 14, 10, 15, 246, 247, 248, 249, 250, 251, 252, 253, 254, 192, 193, 60, 194, 195, 196, 175, 197, 62, 198, 199, 200, 201, 202, 177, 203, 204, 205, 206, 19, 207, 21, 208, 209, 210, 211, 29, 212, 50, 213, 51, 31, 36, 37, 214, 215, 216, 70, 217, 80, 218, 72, 89, 219, 220, 221, 222, 223, 224, 225, 127, 226, 138, 227, 139, 140, 141, 150, 228, 129, 255, 256, 257, 258, 569, 570, 571, 572, 573, 574, 575, 576, 577, 578, 579, 580, 581, 582, 603, 604, 605, 583, 584, 585, 586, 587, 588, 596, 597, 598, 599, 600, 601, 602, 589, 590, 591, 592, 593, 594, 595] (by decide +kernel) (by decide +kernel)
set_option maxRecDepth 20000 in
theorem gL_areErrors_X9_paint : GoodIn wsL_areErrors (wsV RL 55 RX9 yX9_paint wsX9_paint) := goodIn_app (goodIn_of _ (by decide +kernel)) ggL_areErrors_X9_paint
set_option maxRecDepth 20000 in
theorem ggL_areErrors_X9_color : GoodIn wsL_areErrors wsX9_color := goodIn_r _ [11, 12, 13, 14, 10, 15, 16, 17, 18, 19, 20, 21, 569, 570, 571, 572, 573, 574, 575, 576, 577, 578, 579, 580, 581, 582, 583] (by decide +kernel) (by decide +kernel)
set_option maxRecDepth 20000 in
theorem gL_areErrors_X9_color : GoodIn wsL_areErrors (wsV RL 13 RX9 yX9_color wsX9_color) := goodIn_app (goodIn_of _ (by decide +kernel)) ggL_areErrors_X9_color
set_option maxRecDepth 20000 in
theorem ggL_areErrors_X9_sector : GoodIn wsL_areErrors wsX9_sector := goodIn_r _ [262, 12, 13, 14, 10, 15, 263, 264, 265, 19, 266, 109, 110, 111, 112, 113, 17, 18, 20, 21, 267, 268, 269, 270, 16, 569, 570, 571, 572, 573, 574, 575, 576, 577, 578, 579, 580, 581, 582, 583] (by decide +kernel) (by decide +kernel)
set_option maxRecDepth 20000 in
theorem gL_areErrors_X9_sector : GoodIn wsL_areErrors (wsV RL 59 RX9 yX9_sector wsX9_sector) := goodIn_app (goodIn_of _ (by decide +kernel)) ggL_areErrors_X9_sector
set_option maxRecDepth 20000 in
theorem ggL_areErrors_X9_direction : GoodIn wsL_areErrors wsX9_direction := goodIn_r _ [274, 275, 276, 10, 277, 13, 14, 15, 278, 279, 280, 281, 282, 283, 284, 285, 286, 287, 288] (by decide +kernel) (by decide +kernel)
set_option maxRecDepth 20000 in
theorem gL_areErrors_X9_direction : GoodIn wsL_areErrors (wsV RL 62 RX9 yX9_direction wsX9_direction) := goodIn_app (goodIn_of _ (by decide +kernel)) ggL_areErrors_X9_direction
set_option maxRecDepth 20000 in
theorem ggL_areErrors_X9_again : GoodIn wsL_areErrors wsX9_again := goodIn_r _ [292, 275, 276, 10, 277, 13, 14, 15, 293, 294, 280, 295, 296, 297, 298, 282, 283, 284, 285, 286, 287, 288] (by decide +kernel) (by decide +kernel)
set_option maxRecDepth 20000 in
theorem gL_areErrors_X9_again : GoodIn wsL_areErrors (wsV RL 65 RX9 yX9_again wsX9_again) := goodIn_app (goodIn_of _ (by decide +kernel)) ggL_areErrors_X9_again
set_option maxRecDepth 20000 in
theorem ggL_areErrors_X9_setCode : GoodIn wsL_areErrors wsX9_setCode := goodIn_r _ [302, 12, 102, 13, 14, 10, 15, 303, 304, 305, 29, 306, 31, 246, 247, 248, 249, 250, 251, 252, 253, 254, 192, 193, 60, 194, 195, 196, 175, 197, 62, 198, 199, 200, 201, 202, 177, 203, 204, 205, 206, 19, 207, 21, 208, 209, 210, 211, 212, 50, 213, 51, 36, 37, 214, 215, 216, 70, 217, 80, 218, 72, 89, 219, 220, 221, 222, 223, 224, 225, 127, 226, 138, 227, 139, 140, 141, 150, 228, 129, 307, 308, 309, 310, 311, 312, 313, 314, 32, 33, 34, 35, 569, 570, 571, 572, 573, 574, 575, 576, 577, 578, 579, 580, 581, 582, 584, 585, 586, 587, 588, 603, 604, 605, 583, 596, 597, 598, 599, 600, 601, 602, 589, 590, 591, 592, 593, 594, 595] (by decide +kernel) (by decide +kernel)
set_option maxRecDepth 20000 in
theorem gL_areErrors_X9_setCode : GoodIn wsL_areErrors (wsV RL 68 RX9 yX9_setCode wsX9_setCode) := goodIn_app (goodIn_of _ (by decide +kernel)) ggL_areErrors_X9_setCode
set_option maxRecDepth 20000 in
theorem ggL_areErrors_X9_code : GoodIn wsL_areErrors wsX9_code := goodIn_r _ [25, 12, 26, 27, 28, 29, 30, 31, 32, 33, 34, 35, 36, 37, 38, 39, 40, 41, 42, 43, 44, 45, 46, 47, 48, 49, 50, 51, 52, 569, 570, 571, 572, 573, 574, 575, 576, 577, 578, 579, 580, 581, 582, 584, 585, 586, 587, 588] (by decide +kernel) (by decide +kernel)
set_option maxRecDepth 20000 in
theorem gL_areErrors_X9_code : GoodIn wsL_areErrors (wsV RL 19 RX9 yX9_code wsX9_code) := goodIn_app (goodIn_of _ (by decide +kernel)) ggL_areErrors_X9_code
set_option maxRecDepth 20000 in
theorem ggL_areErrors_X9_next : GoodIn wsL_areErrors wsX9_next := goodIn_r _ [318, 12, 13, 14, 10, 15, 32, 33, 34, 29, 35, 36, 37, 46, 47, 48, 49, 31, 50, 51, 52, 569, 570, 571, 572, 573, 574, 575, 576, 577, 578, 579, 580, 581, 582, 584, 585, 586, 587, 588] (by decide +kernel) (by decide +kernel)
set_option maxRecDepth 20000 in
theorem gL_areErrors_X9_next : GoodIn wsL_areErrors (wsV RL 71 RX9 yX9_next wsX9_next) := goodIn_app (goodIn_of _ (by decide +kernel)) ggL_areErrors_X9_next
set_option maxRecDepth 20000 in
theorem ggL_areErrors_X9_setChanger : GoodIn wsL_areErrors wsX9_setChanger := goodIn_r _ [322, 102, 12, 13, 14, 10, 15, 246, 247, 248, 249, 250, 251, 252, 253, 254, 192, 193, 60, 194, 195, 196, 175, 197, 62, 198, 199, 200, 201, 202, 177, 203, 204, 205, 206, 19, 207, 21, 208, 209, 210, 211, 29, 212, 50, 213, 51, 31, 36, 37, 214, 215, 216, 70, 217, 80, 218, 72, 89, 219, 220, 221, 222, 223, 224, 225, 127, 226, 138, 227, 139, 140, 141, 150, 228, 129, 114, 115, 116, 117, 118, 68, 69, 71, 73, 74, 75, 323, 324, 325, 326, 327, 328, 329, 330, 569, 570, 571, 572, 573, 574, 575, 576, 577, 578, 579, 580, 581, 582, 603, 604, 605, 583, 584, 585, 586, 587, 588, 596, 597, 598, 599, 600, 601, 602, 589, 590, 591, 592, 593, 594, 595] (by decide +kernel) (by decide +kernel)
set_option maxRecDepth 20000 in
theorem gL_areErrors_X9_setChanger : GoodIn wsL_areErrors (wsV RL 74 RX9 yX9_setChanger wsX9_setChanger) := goodIn_app (goodIn_of _ (by decide +kernel)) ggL_areErrors_X9_setChanger
set_option maxRecDepth 20000 in
theorem ggL_areErrors_X9_addLamp : GoodIn wsL_areErrors wsX9_addLamp := goodIn_r _ [334, 12, 102, 13, 14, 10, 15, 335, 336, 337, 70, 338, 118, 68, 69, 71, 72, 73, 74, 75, 246, 247, 248, 249, 250, 251, 252, 253, 254, 192, 193, 60, 194, 195, 196, 175, 197, 62, 198, 199, 200, 201, 202, 177, 203, 204, 205, 206, 19, 207, 21, 208, 209, 210, 211, 29, 212, 50, 213, 51, 31, 36, 37, 214, 215, 216, 217, 80, 218, 89, 219, 220, 221, 222, 223, 224, 225, 127, 226, 138, 227, 139, 140, 141, 150, 228, 129, 339, 328, 329, 330, 569, 570, 571, 572, 573, 574, 575, 576, 577, 578, 579, 580, 581, 582, 596, 597, 598, 599, 600, 601, 602, 603, 604, 605, 583, 584, 585, 586, 587, 588, 589, 590, 591, 592, 593, 594, 595] (by decide +kernel) (by decide +kernel)
set_option maxRecDepth 20000 in
theorem gL_areErrors_X9_addLamp : GoodIn wsL_areErrors (wsV RL 77 RX9 yX9_addLamp wsX9_addLamp) := goodIn_app (goodIn_of _ (by decide +kernel)) ggL_areErrors_X9_addLamp
set_option maxRecDepth 20000 in
theorem ggL_areErrors_X9_count : GoodIn wsL_areErrors wsX9_count := goodIn_r _ [101, 12, 102, 103, 104, 105, 106, 107, 19, 108, 109, 110, 111, 112, 113, 17, 18, 20, 21, 114, 115, 116, 70, 117, 118, 68, 69, 71, 72, 73, 74, 75, 119, 120, 121, 122, 123, 95, 96, 97, 89, 124, 125, 126, 127, 128, 129, 569, 570, 571, 572, 573, 574, 575, 576, 577, 578, 579, 580, 581, 582, 596, 597, 598, 599, 600, 601, 602, 603, 604, 605, 606, 607, 608, 609, 610, 611, 612, 583, 589, 590, 591, 592, 593, 594, 595] (by decide +kernel) (by decide +kernel)
set_option maxRecDepth 20000 in
theorem gL_areErrors_X9_count : GoodIn wsL_areErrors (wsV RL 29 RX9 yX9_count wsX9_count) := goodIn_app (goodIn_of _ (by decide +kernel)) ggL_areErrors_X9_count
set_option maxRecDepth 20000 in
theorem ggL_areErrors_X9_takeLamp : GoodIn wsL_areErrors wsX9_takeLamp := goodIn_r _ [343, 12, 102, 13, 14, 10, 15, 67, 68, 69, 70, 71, 72, 73, 74, 75, 246, 247, 248, 249, 250, 251, 252, 253, 254, 192, 193, 60, 194, 195, 196, 175, 197, 62, 198, 199, 200, 201, 202, 177, 203, 204, 205, 206, 19, 207, 21, 208, 209, 210, 211, 29, 212, 50, 213, 51, 31, 36, 37, 214, 215, 216, 217, 80, 218, 89, 219, 220, 221, 222, 223, 224, 225, 127, 226, 138, 227, 139, 140, 141, 150, 228, 129, 85, 86, 87, 88, 339, 328, 329, 330, 569, 570, 571, 572, 573, 574, 575, 576, 577, 578, 579, 580, 581, 582, 596, 597, 598, 599, 600, 601, 602, 603, 604, 605, 583, 584, 585, 586, 587, 588, 589, 590, 591, 592, 593, 594, 595] (by decide +kernel) (by decide +kernel)
set_option maxRecDepth 20000 in
theorem gL_areErrors_X9_takeLamp : GoodIn wsL_areErrors (wsV RL 80 RX9 yX9_takeLamp wsX9_takeLamp) := goodIn_app (goodIn_of _ (by decide +kernel)) ggL_areErrors_X9_takeLamp
set_option maxRecDepth 20000 in
theorem ggL_areErrors_X9_lamp : GoodIn wsL_areErrors wsX9_lamp := goodIn_r _ [66, 12, 13, 14, 10, 15, 67, 68, 69, 70, 71, 72, 73, 74, 75, 76, 77, 78, 79, 80, 81, 82, 83, 84, 85, 86, 87, 88, 89, 90, 91, 92, 93, 94, 95, 96, 97, 569, 570, 571, 572, 573, 574, 575, 576, 577, 578, 579, 580, 581, 582, 596, 597, 598, 599, 600, 601, 602] (by decide +kernel) (by decide +kernel)
set_option maxRecDepth 20000 in
theorem gL_areErrors_X9_lamp : GoodIn wsL_areErrors (wsV RL 25 RX9 yX9_lamp wsX9_lamp) := goodIn_app (goodIn_of _ (by decide +kernel)) ggL_areErrors_X9_lamp
set_option maxRecDepth 20000 in
theorem ggL_areErrors_X9_set : GoodIn wsL_areErrors wsX9_set := goodIn_r _ [347, 102, 12, 13, 14, 10, 15, 246, 247, 248, 249, 250, 251, 252, 253, 254, 192, 193, 60, 194, 195, 196, 175, 197, 62, 198, 199, 200, 201, 202, 177, 203, 204, 205, 206, 19, 207, 21, 208, 209, 210, 211, 29, 212, 50, 213, 51, 31, 36, 37, 214, 215, 216, 70, 217, 80, 218, 72, 89, 219, 220, 221, 222, 223, 224, 225, 127, 226, 138, 227, 139, 140, 141, 150, 228, 129, 569, 570, 571, 572, 573, 574, 575, 576, 577, 578, 579, 580, 581, 582, 596, 597, 598, 599, 600, 601, 602, 603, 604, 605, 583, 584, 585, 586, 587, 588, 589, 590, 591, 592, 593, 594, 595] (by decide +kernel) (by decide +kernel)
set_option maxRecDepth 20000 in
theorem gL_areErrors_X9_set : GoodIn wsL_areErrors (wsV RL 83 RX9 yX9_set wsX9_set) := goodIn_app (goodIn_of _ (by decide +kernel)) ggL_areErrors_X9_set
set_option maxRecDepth 20000 in
theorem ggL_areErrors_X9_rangeBits : GoodIn wsL_areErrors wsX9_rangeBits := goodIn_r _ [170, 12, 13, 14, 10, 15, 171, 172, 173, 60, 174, 175, 176, 177, 178, 179, 91, 92, 70, 93, 72, 80, 89, 73, 74, 75, 180, 181, 182, 183, 184, 161, 185, 163, 164, 165, 166, 569, 570, 571, 572, 573, 574, 575, 576, 577, 578, 579, 580, 581, 582, 596, 597, 598, 599, 600, 601, 602] (by decide +kernel) (by decide +kernel)
set_option maxRecDepth 20000 in
theorem gL_areErrors_X9_rangeBits : GoodIn wsL_areErrors (wsV RL 42 RX9 yX9_rangeBits wsX9_rangeBits) := goodIn_app (goodIn_of _ (by decide +kernel)) ggL_areErrors_X9_rangeBits
set_option maxRecDepth 20000 in
theorem ggL_areErrors_X9_advance : GoodIn wsL_areErrors wsX9_advance := goodIn_r _ [351, 352, 12, 102, 13, 14, 10, 15, 246, 247, 248, 249, 250, 251, 252, 253, 254, 192, 193, 60, 194, 195, 196, 175, 197, 62, 198, 199, 200, 201, 202, 177, 203, 204, 205, 206, 19, 207, 21, 208, 209, 210, 211, 29, 212, 50, 213, 51, 31, 36, 37, 214, 215, 216, 70, 217, 80, 218, 72, 89, 219, 220, 221, 222, 223, 224, 225, 127, 226, 138, 227, 139, 140, 141, 150, 228, 129, 229, 230, 231, 232, 233, 234, 235, 236, 123, 95, 96, 97, 73, 74, 75, 237, 47, 48, 49, 52, 33, 34, 35, 238, 239, 240, 241, 569, 570, 571, 572, 573, 574, 575, 576, 577, 578, 579, 580, 581, 582, 603, 604, 605, 583, 584, 585, 586, 587, 588, 596, 597, 598, 599, 600, 601, 602, 589, 590, 591, 592, 593, 594, 595] (by decide +kernel) (by decide +kernel)
set_option maxRecDepth 20000 in
theorem gL_areErrors_X9_advance : GoodIn wsL_areErrors (wsV RL 86 RX9 yX9_advance wsX9_advance) := goodIn_app (goodIn_of _ (by decide +kernel)) ggL_areErrors_X9_advance
set_option maxRecDepth 20000 in
theorem ggL_areErrors_X9_account : GoodIn wsL_areErrors wsX9_account := goodIn_r _ [56, 12, 57, 58, 59, 60, 61, 62, 569, 570, 571, 572, 573, 574, 575, 576, 577, 578, 579, 580, 581, 582, 589, 590, 591, 592, 593, 594, 595] (by decide +kernel) (by decide +kernel)
set_option maxRecDepth 20000 in
theorem gL_areErrors_X9_account : GoodIn wsL_areErrors (wsV RL 22 RX9 yX9_account wsX9_account) := goodIn_app (goodIn_of _ (by decide +kernel)) ggL_areErrors_X9_account
set_option maxRecDepth 20000 in
theorem ggL_areErrors_X9_sees : GoodIn wsL_areErrors wsX9_sees := goodIn_r _ [356, 190, 12, 275, 276, 10, 277, 13, 14, 15, 191, 192, 193, 60, 194, 195, 196, 175, 197, 62, 198, 199, 200, 201, 202, 177, 203, 204, 205, 206, 19, 207, 21, 208, 209, 210, 211, 29, 212, 50, 213, 51, 31, 36, 37, 214, 215, 216, 70, 217, 80, 218, 72, 89, 219, 220, 221, 222, 223, 224, 225, 127, 226, 138, 227, 139, 140, 141, 150, 228, 129, 229, 230, 231, 232, 233, 234, 235, 236, 123, 95, 96, 97, 73, 74, 75, 237, 47, 48, 49, 52, 33, 34, 35, 238, 239, 240, 241, 357, 358, 359, 360, 361, 294, 280, 295, 296, 297, 298, 282, 283, 284, 285, 286, 287, 288, 362, 17, 18, 20, 363, 364, 365, 366, 367, 172, 173, 174, 176, 178, 179, 91, 92, 93, 180, 181, 182, 569, 570, 571, 572, 573, 574, 575, 576, 577, 578, 579, 580, 581, 582, 583, 584, 585, 586, 587, 588, 596, 597, 598, 599, 600, 601, 602, 589, 590, 591, 592, 593, 594, 595] (by decide +kernel) (by decide +kernel)
set_option maxRecDepth 20000 in
theorem gL_areErrors_X9_sees : GoodIn wsL_areErrors (wsV RL 89 RX9 yX9_sees wsX9_sees) := goodIn_app (goodIn_of _ (by decide +kernel)) ggL_areErrors_X9_sees
set_option maxRecDepth 20000 in
theorem ggL_areErrors_X9_pass : GoodIn wsL_areErrors wsX9_pass := goodIn_r _ [371, 352, 12, 102, 275, 276, 10, 277, 13, 14, 15, 246, 247, 248, 249, 250, 251, 252, 253, 254, 192, 193, 60, 194, 195, 196, 175, 197, 62, 198, 199, 200, 201, 202, 177, 203, 204, 205, 206, 19, 207, 21, 208, 209, 210, 211, 29, 212, 50, 213, 51, 31, 36, 37, 214, 215, 216, 70, 217, 80, 218, 72, 89, 219, 220, 221, 222, 223, 224, 225, 127, 226, 138, 227, 139, 140, 141, 150, 228, 129, 372, 373, 374, 375, 376, 377, 378, 379, 380, 381, 382, 383, 384, 230, 231, 232, 233, 234, 235, 236, 123, 95, 96, 97, 73, 74, 75, 237, 47, 48, 49, 52, 33, 34, 35, 238, 239, 240, 241, 385, 358, 359, 360, 361, 294, 280, 295, 296, 297, 298, 282, 283, 284, 285, 286, 287, 288, 362, 17, 18, 20, 363, 364, 365, 366, 367, 172, 173, 174, 176, 178, 179, 91, 92, 93, 180, 181, 182, 386, 387, 388, 389, 390, 391, 392, 393, 569, 570, 571, 572, 573, 574, 575, 576, 577, 578, 579, 580, 581, 582, 589, 590, 591, 592, 593, 594, 595, 603, 604, 605, 583, 584, 585, 586, 587, 588, 596, 597, 598, 599, 600, 601, 602] (by decide +kernel) (by decide +kernel)
set_option maxRecDepth 20000 in
theorem gL_areErrors_X9_pass : GoodIn wsL_areErrors (wsV RL 92 RX9 yX9_pass wsX9_pass) := goodIn_app (goodIn_of _ (by decide +kernel)) ggL_areErrors_X9_pass
set_option maxRecDepth 20000 in
theorem ggL_areErrors_X9_entry : GoodIn wsL_areErrors wsX9_entry := goodIn_r _ [133, 12, 13, 14, 10, 15, 124, 125, 126, 127, 128, 129, 134, 135, 136, 137, 138, 139, 140, 141, 569, 570, 571, 572, 573, 574, 575, 576, 577, 578, 579, 580, 581, 582, 589, 590, 591, 592, 593, 594, 595] (by decide +kernel) (by decide +kernel)
set_option maxRecDepth 20000 in
theorem gL_areErrors_X9_entry : GoodIn wsL_areErrors (wsV RL 32 RX9 yX9_entry wsX9_entry) := goodIn_app (goodIn_of _ (by decide +kernel)) ggL_areErrors_X9_entry
set_option maxRecDepth 20000 in
theorem ggL_areErrors_X9_seen : GoodIn wsL_areErrors wsX9_seen := goodIn_r _ [145, 12, 13, 14, 10, 15, 146, 147, 148, 127, 149, 150, 569, 570, 571, 572, 573, 574, 575, 576, 577, 578, 579, 580, 581, 582, 589, 590, 591, 592, 593, 594, 595] (by decide +kernel) (by decide +kernel)
set_option maxRecDepth 20000 in
theorem gL_areErrors_X9_seen : GoodIn wsL_areErrors (wsV RL 35 RX9 yX9_seen wsX9_seen) := goodIn_app (goodIn_of _ (by decide +kernel)) ggL_areErrors_X9_seen
set_option maxRecDepth 20000 in
theorem ggL_areErrors_X9_compare : GoodIn wsL_areErrors wsX9_compare := goodIn_r _ [397, 104, 12, 398, 352, 13, 14, 10, 15, 399, 400, 401, 19, 402, 113, 17, 18, 20, 21, 403, 404, 405, 29, 406, 31, 50, 51, 407, 408, 409, 70, 410, 411, 412, 413, 414, 219, 118, 68, 69, 71, 72, 73, 74, 75, 415, 77, 78, 79, 80, 416, 82, 83, 84, 417, 86, 87, 88, 89, 569, 570, 571, 572, 573, 574, 575, 576, 577, 578, 579, 580, 581, 582, 583, 584, 585, 586, 587, 588, 596, 597, 598, 599, 600, 601, 602] (by decide +kernel) (by decide +kernel)
set_option maxRecDepth 20000 in
theorem gL_areErrors_X9_compare : GoodIn wsL_areErrors (wsV RL 96 RX9 yX9_compare wsX9_compare) := goodIn_app (goodIn_of _ (by decide +kernel)) ggL_areErrors_X9_compare
set_option maxRecDepth 20000 in
theorem ggL_areErrors_X9_type : GoodIn wsL_areErrors wsX9_type := goodIn_r _ [421, 103, 13, 14, 10, 15, 422, 423, 424, 425, 426, 427, 428, 429, 430, 431, 432, 569, 570, 571, 572, 573, 574, 606, 607, 608, 609, 610, 611, 612] (by decide +kernel) (by decide +kernel)
set_option maxRecDepth 20000 in
theorem gL_areErrors_X9_type : GoodIn wsL_areErrors (wsV RL 99 RX9 yX9_type wsX9_type) := goodIn_app (goodIn_of _ (by decide +kernel)) ggL_areErrors_X9_type
set_option maxRecDepth 20000 in
theorem ggL_areErrors_X9_fault : GoodIn wsL_areErrors wsX9_fault := goodIn_r _ [436, 190, 12, 103, 13, 14, 10, 15, 191, 192, 193, 60, 194, 195, 196, 175, 197, 62, 198, 199, 200, 201, 202, 177, 203, 204, 205, 206, 19, 207, 21, 208, 209, 210, 211, 29, 212, 50, 213, 51, 31, 36, 37, 214, 215, 216, 70, 217, 80, 218, 72, 89, 219, 220, 221, 222, 223, 224, 225, 127, 226, 138, 227, 139, 140, 141, 150, 228, 129, 437, 438, 439, 425, 440, 441, 442, 427, 443, 444, 445, 446, 447, 448, 449, 450, 451, 452, 453, 454, 455, 456, 432, 457, 458, 459, 460, 461, 462, 463, 464, 465, 466, 467, 468, 469, 470, 471, 472, 473, 474, 475, 476, 477, 478, 479, 480, 481, 482, 483, 484, 485, 486, 487, 488, 489, 490, 491, 492, 493, 494, 495, 496, 497, 498, 499, 500, 501, 502, 503, 504, 505, 506, 507, 508, 509, 510, 511, 512, 513, 514, 515, 516, 517, 518, 519, 520, 521, 522, 523, 524, 525, 526, 256, 257, 258, 527, 528, 529, 530, 531, 532, 308, 309, 310, 533, 312, 313, 314, 534, 535, 536, 537, 538, 539, 540, 541, 542, 324, 325, 326, 327, 328, 329, 330, 73, 74, 75, 543, 544, 545, 546, 547, 336, 337, 338, 118, 68, 69, 71, 548, 549, 550, 551, 552, 553, 554, 555, 556, 557, 558, 559, 560, 569, 570, 571, 572, 573, 574, 606, 607, 608, 609, 610, 611, 612, 575, 576, 577, 578, 579, 580, 581, 582, 583, 584, 585, 586, 587, 588, 596, 597, 598, 599, 600, 601, 602, 589, 590, 591, 592, 593, 594, 595] (by decide +kernel) (by decide +kernel)
set_option maxRecDepth 20000 in
theorem gL_areErrors_X9_fault : GoodIn wsL_areErrors (wsV RL 102 RX9 yX9_fault wsX9_fault) := goodIn_app (goodIn_of _ (by decide +kernel)) ggL_areErrors_X9_fault
set_option maxRecDepth 20000 in
theorem ggL_areErrors_X9_load : GoodIn wsL_areErrors wsX9_load := goodIn_r _ [564, 190, 12, 103, 102, 191, 192, 193, 60, 194, 195, 196, 175, 197, 62, 198, 199, 200, 201, 202, 177, 203, 204, 205, 206, 19, 207, 21, 208, 209, 210, 211, 29, 212, 50, 213, 51, 31, 36, 37, 214, 215, 216, 70, 217, 80, 218, 72, 89, 219, 220, 221, 222, 223, 224, 225, 127, 226, 138, 227, 139, 140, 141, 150, 228, 129, 437, 438, 439, 425, 440, 441, 442, 427, 443, 444, 445, 446, 447, 448, 449, 450, 451, 452, 453, 454, 455, 456, 432, 457, 458, 459, 460, 461, 462, 463, 464, 465, 466, 467, 468, 469, 470, 471, 472, 473, 474, 475, 476, 477, 478, 479, 480, 481, 482, 483, 484, 485, 486, 487, 488, 489, 490, 491, 492, 493, 494, 495, 496, 497, 498, 499, 500, 501, 502, 503, 504, 505, 506, 507, 508, 509, 510, 511, 512, 513, 514, 515, 516, 517, 518, 519, 520, 521, 522, 523, 524, 525, 526, 256, 257, 258, 527, 528, 529, 530, 531, 532, 308, 309, 310, 533, 312, 313, 314, 534, 535, 536, 537, 538, 539, 540, 541, 542, 324, 325, 326, 327, 328, 329, 330, 73, 74, 75, 543, 544, 545, 546, 547, 336, 337, 338, 118, 68, 69, 71, 548, 549, 550, 551, 552, 553, 554, 555, 556, 557, 558, 559, 560, 246, 247, 248, 249, 250, 251, 252, 253, 254, 569, 570, 571, 572, 573, 574, 606, 607, 608, 609, 610, 611, 612, 575, 576, 577, 578, 579, 580, 581, 582, 583, 584, 585, 586, 587, 588, 596, 597, 598, 599, 600, 601, 602, 589, 590, 591, 592, 593, 594, 595, 603, 604, 605] (by decide +kernel) (by decide +kernel)
set_option maxRecDepth 20000 in
theorem gL_areErrors_X9_load : GoodIn wsL_areErrors (wsV RL 105 RX9 yX9_load wsX9_load) := goodIn_app (goodIn_of _ (by decide +kernel)) ggL_areErrors_X9_load
set_option maxRecDepth 20000 in
theorem ggL_areErrors_X9_recall : GoodIn wsL_areErrors wsX9_recall := goodIn_r _ [568, 104, 102, 12, 398, 246, 247, 248, 249, 250, 251, 252, 253, 254, 192, 193, 60, 194, 195, 196, 175, 197, 62, 198, 199, 200, 201, 202, 177, 203, 204, 205, 206, 19, 207, 21, 208, 209, 210, 211, 29, 212, 50, 213, 51, 31, 36, 37, 214, 215, 216, 70, 217, 80, 218, 72, 89, 219, 220, 221, 222, 223, 224, 225, 127, 226, 138, 227, 139, 140, 141, 150, 228, 129, 191, 569, 570, 571, 572, 573, 574, 575, 576, 577, 578, 579, 580, 581, 582, 603, 604, 605, 583, 584, 585, 586, 587, 588, 596, 597, 598, 599, 600, 601, 602, 589, 590, 591, 592, 593, 594, 595] (by decide +kernel) (by decide +kernel)
set_option maxRecDepth 20000 in
theorem gL_areErrors_X9_recall : GoodIn wsL_areErrors (wsV RL 108 RX9 yX9_recall wsX9_recall) := goodIn_app (goodIn_of _ (by decide +kernel)) ggL_areErrors_X9_recall
theorem dL_areErrors_0 : decode cL_areErrors 0 = .ok (.aload_n 0, 1) := by decide +kernel
theorem dL_areErrors_1 : decode cL_areErrors 1 = .ok (.invokestatic 49, 3) := by decide +kernel
theorem dL_areErrors_4 : decode cL_areErrors 4 = .ok (.lstore_n 1, 1) := by decide +kernel
theorem dL_areErrors_5 : decode cL_areErrors 5 = .ok (.aload_n 0, 1) := by decide +kernel
theorem dL_areErrors_6 : decode cL_areErrors 6 = .ok (.iconst 4, 1) := by decide +kernel
theorem dL_areErrors_7 : decode cL_areErrors 7 = .ok (.iconst 0, 1) := by decide +kernel
theorem dL_areErrors_8 : decode cL_areErrors 8 = .ok (.iconst 0, 1) := by decide +kernel
theorem dL_areErrors_9 : decode cL_areErrors 9 = .ok (.invokevirtual 55, 3) := by decide +kernel
theorem dL_areErrors_12 : decode cL_areErrors 12 = .ok (.iconst (-1), 1) := by decide +kernel
theorem dL_areErrors_13 : decode cL_areErrors 13 = .ok (.if_icmp .ne 304, 3) := by decide +kernel
theorem dL_areErrors_16 : decode cL_areErrors 16 = .ok (.aload_n 0, 1) := by decide +kernel
theorem dL_areErrors_17 : decode cL_areErrors 17 = .ok (.iconst 0, 1) := by decide +kernel
theorem dL_areErrors_18 : decode cL_areErrors 18 = .ok (.bipush 64, 2) := by decide +kernel
theorem dL_areErrors_20 : decode cL_areErrors 20 = .ok (.iconst 0, 1) := by decide +kernel
theorem dL_areErrors_21 : decode cL_areErrors 21 = .ok (.invokevirtual 55, 3) := by decide +kernel
theorem dL_areErrors_24 : decode cL_areErrors 24 = .ok (.iconst (-1), 1) := by decide +kernel
theorem dL_areErrors_25 : decode cL_areErrors 25 = .ok (.if_icmp .ne 292, 3) := by decide +kernel
theorem dL_areErrors_28 : decode cL_areErrors 28 = .ok (.aload_n 0, 1) := by decide +kernel
theorem dL_areErrors_29 : decode cL_areErrors 29 = .ok (.iconst 0, 1) := by decide +kernel
theorem dL_areErrors_30 : decode cL_areErrors 30 = .ok (.iconst 0, 1) := by decide +kernel
theorem dL_areErrors_31 : decode cL_areErrors 31 = .ok (.iconst (-1), 1) := by decide +kernel
theorem dL_areErrors_32 : decode cL_areErrors 32 = .ok (.invokevirtual 55, 3) := by decide +kernel
theorem dL_areErrors_35 : decode cL_areErrors 35 = .ok (.iconst (-1), 1) := by decide +kernel
theorem dL_areErrors_36 : decode cL_areErrors 36 = .ok (.if_icmp .ne 281, 3) := by decide +kernel
theorem dL_areErrors_39 : decode cL_areErrors 39 = .ok (.aload_n 0, 1) := by decide +kernel
theorem dL_areErrors_40 : decode cL_areErrors 40 = .ok (.bipush 64, 2) := by decide +kernel
theorem dL_areErrors_42 : decode cL_areErrors 42 = .ok (.invokevirtual 13, 3) := by decide +kernel
theorem dL_areErrors_45 : decode cL_areErrors 45 = .ok (.iconst (-1), 1) := by decide +kernel
theorem dL_areErrors_46 : decode cL_areErrors 46 = .ok (.if_icmp .ne 271, 3) := by decide +kernel
theorem dL_areErrors_49 : decode cL_areErrors 49 = .ok (.aload_n 0, 1) := by decide +kernel
theorem dL_areErrors_50 : decode cL_areErrors 50 = .ok (.iconst (-1), 1) := by decide +kernel
theorem dL_areErrors_51 : decode cL_areErrors 51 = .ok (.iconst 0, 1) := by decide +kernel
theorem dL_areErrors_52 : decode cL_areErrors 52 = .ok (.invokevirtual 59, 3) := by decide +kernel
theorem dL_areErrors_55 : decode cL_areErrors 55 = .ok (.iconst (-1), 1) := by decide +kernel
theorem dL_areErrors_56 : decode cL_areErrors 56 = .ok (.if_icmp .ne 261, 3) := by decide +kernel
theorem dL_areErrors_59 : decode cL_areErrors 59 = .ok (.aload_n 0, 1) := by decide +kernel
theorem dL_areErrors_60 : decode cL_areErrors 60 = .ok (.iconst 0, 1) := by decide +kernel
theorem dL_areErrors_61 : decode cL_areErrors 61 = .ok (.iconst 3, 1) := by decide +kernel
theorem dL_areErrors_62 : decode cL_areErrors 62 = .ok (.invokevirtual 59, 3) := by decide +kernel
theorem dL_areErrors_65 : decode cL_areErrors 65 = .ok (.iconst (-1), 1) := by decide +kernel
theorem dL_areErrors_66 : decode cL_areErrors 66 = .ok (.if_icmp .ne 251, 3) := by decide +kernel
theorem dL_areErrors_69 : decode cL_areErrors 69 = .ok (.aload_n 0, 1) := by decide +kernel
theorem dL_areErrors_70 : decode cL_areErrors 70 = .ok (.bipush 64, 2) := by decide +kernel
theorem dL_areErrors_72 : decode cL_areErrors 72 = .ok (.iconst 0, 1) := by decide +kernel
theorem dL_areErrors_73 : decode cL_areErrors 73 = .ok (.invokevirtual 59, 3) := by decide +kernel
theorem dL_areErrors_76 : decode cL_areErrors 76 = .ok (.bipush (-4), 2) := by decide +kernel
theorem dL_areErrors_78 : decode cL_areErrors 78 = .ok (.if_icmp .ne 239, 3) := by decide +kernel
theorem dL_areErrors_81 : decode cL_areErrors 81 = .ok (.aload_n 0, 1) := by decide +kernel
theorem dL_areErrors_82 : decode cL_areErrors 82 = .ok (.sipush 10001, 3) := by decide +kernel
theorem dL_areErrors_85 : decode cL_areErrors 85 = .ok (.iconst 0, 1) := by decide +kernel
theorem dL_areErrors_86 : decode cL_areErrors 86 = .ok (.invokevirtual 62, 3) := by decide +kernel
theorem dL_areErrors_89 : decode cL_areErrors 89 = .ok (.iconst (-1), 1) := by decide +kernel
theorem dL_areErrors_90 : decode cL_areErrors 90 = .ok (.if_icmp .ne 227, 3) := by decide +kernel
theorem dL_areErrors_93 : decode cL_areErrors 93 = .ok (.aload_n 0, 1) := by decide +kernel
theorem dL_areErrors_94 : decode cL_areErrors 94 = .ok (.iconst 0, 1) := by decide +kernel
theorem dL_areErrors_95 : decode cL_areErrors 95 = .ok (.iconst 0, 1) := by decide +kernel
theorem dL_areErrors_96 : decode cL_areErrors 96 = .ok (.invokevirtual 62, 3) := by decide +kernel
theorem dL_areErrors_99 : decode cL_areErrors 99 = .ok (.bipush (-4), 2) := by decide +kernel
theorem dL_areErrors_101 : decode cL_areErrors 101 = .ok (.if_icmp .ne 216, 3) := by decide +kernel
theorem dL_areErrors_104 : decode cL_areErrors 104 = .ok (.aload_n 0, 1) := by decide +kernel
theorem dL_areErrors_105 : decode cL_areErrors 105 = .ok (.iconst 0, 1) := by decide +kernel
theorem dL_areErrors_106 : decode cL_areErrors 106 = .ok (.sipush (-10001), 3) := by decide +kernel
theorem dL_areErrors_109 : decode cL_areErrors 109 = .ok (.invokevirtual 65, 3) := by decide +kernel
theorem dL_areErrors_112 : decode cL_areErrors 112 = .ok (.iconst (-1), 1) := by decide +kernel
theorem dL_areErrors_113 : decode cL_areErrors 113 = .ok (.if_icmp .ne 204, 3) := by decide +kernel
theorem dL_areErrors_116 : decode cL_areErrors 116 = .ok (.aload_n 0, 1) := by decide +kernel
theorem dL_areErrors_117 : decode cL_areErrors 117 = .ok (.iconst 0, 1) := by decide +kernel
theorem dL_areErrors_118 : decode cL_areErrors 118 = .ok (.iconst 0, 1) := by decide +kernel
theorem dL_areErrors_119 : decode cL_areErrors 119 = .ok (.invokevirtual 65, 3) := by decide +kernel
theorem dL_areErrors_122 : decode cL_areErrors 122 = .ok (.bipush (-4), 2) := by decide +kernel
theorem dL_areErrors_124 : decode cL_areErrors 124 = .ok (.if_icmp .ne 193, 3) := by decide +kernel
theorem dL_areErrors_127 : decode cL_areErrors 127 = .ok (.aload_n 0, 1) := by decide +kernel
theorem dL_areErrors_128 : decode cL_areErrors 128 = .ok (.iconst 0, 1) := by decide +kernel
theorem dL_areErrors_129 : decode cL_areErrors 129 = .ok (.iconst 0, 1) := by decide +kernel
theorem dL_areErrors_130 : decode cL_areErrors 130 = .ok (.iconst 0, 1) := by decide +kernel
theorem dL_areErrors_131 : decode cL_areErrors 131 = .ok (.invokevirtual 68, 3) := by decide +kernel
theorem dL_areErrors_134 : decode cL_areErrors 134 = .ok (.iconst (-1), 1) := by decide +kernel
theorem dL_areErrors_135 : decode cL_areErrors 135 = .ok (.if_icmp .ne 182, 3) := by decide +kernel
theorem dL_areErrors_138 : decode cL_areErrors 138 = .ok (.aload_n 0, 1) := by decide +kernel
theorem dL_areErrors_139 : decode cL_areErrors 139 = .ok (.iconst 1, 1) := by decide +kernel
theorem dL_areErrors_140 : decode cL_areErrors 140 = .ok (.bipush 61, 2) := by decide +kernel
theorem dL_areErrors_142 : decode cL_areErrors 142 = .ok (.iconst 0, 1) := by decide +kernel
theorem dL_areErrors_143 : decode cL_areErrors 143 = .ok (.invokevirtual 68, 3) := by decide +kernel
theorem dL_areErrors_146 : decode cL_areErrors 146 = .ok (.iconst (-1), 1) := by decide +kernel
theorem dL_areErrors_147 : decode cL_areErrors 147 = .ok (.if_icmp .ne 170, 3) := by decide +kernel
theorem dL_areErrors_150 : decode cL_areErrors 150 = .ok (.aload_n 0, 1) := by decide +kernel
theorem dL_areErrors_151 : decode cL_areErrors 151 = .ok (.iconst 1, 1) := by decide +kernel
theorem dL_areErrors_152 : decode cL_areErrors 152 = .ok (.iconst 1, 1) := by decide +kernel
theorem dL_areErrors_153 : decode cL_areErrors 153 = .ok (.iconst 2, 1) := by decide +kernel
theorem dL_areErrors_154 : decode cL_areErrors 154 = .ok (.invokevirtual 68, 3) := by decide +kernel
theorem dL_areErrors_157 : decode cL_areErrors 157 = .ok (.iconst (-1), 1) := by decide +kernel
theorem dL_areErrors_158 : decode cL_areErrors 158 = .ok (.if_icmp .ne 159, 3) := by decide +kernel
theorem dL_areErrors_161 : decode cL_areErrors 161 = .ok (.aload_n 0, 1) := by decide +kernel
theorem dL_areErrors_162 : decode cL_areErrors 162 = .ok (.iconst 5, 1) := by decide +kernel
theorem dL_areErrors_163 : decode cL_areErrors 163 = .ok (.invokevirtual 19, 3) := by decide +kernel
theorem dL_areErrors_166 : decode cL_areErrors 166 = .ok (.iconst (-1), 1) := by decide +kernel
theorem dL_areErrors_167 : decode cL_areErrors 167 = .ok (.if_icmp .ne 150, 3) := by decide +kernel
theorem dL_areErrors_170 : decode cL_areErrors 170 = .ok (.aload_n 0, 1) := by decide +kernel
theorem dL_areErrors_171 : decode cL_areErrors 171 = .ok (.iconst 2, 1) := by decide +kernel
theorem dL_areErrors_172 : decode cL_areErrors 172 = .ok (.invokevirtual 71, 3) := by decide +kernel
theorem dL_areErrors_175 : decode cL_areErrors 175 = .ok (.iconst (-1), 1) := by decide +kernel
theorem dL_areErrors_176 : decode cL_areErrors 176 = .ok (.if_icmp .ne 141, 3) := by decide +kernel
theorem dL_areErrors_179 : decode cL_areErrors 179 = .ok (.aload_n 0, 1) := by decide +kernel
theorem dL_areErrors_180 : decode cL_areErrors 180 = .ok (.iconst 2, 1) := by decide +kernel
theorem dL_areErrors_181 : decode cL_areErrors 181 = .ok (.invokevirtual 74, 3) := by decide +kernel
theorem dL_areErrors_184 : decode cL_areErrors 184 = .ok (.iconst (-1), 1) := by decide +kernel
theorem dL_areErrors_185 : decode cL_areErrors 185 = .ok (.if_icmp .ne 132, 3) := by decide +kernel
theorem dL_areErrors_188 : decode cL_areErrors 188 = .ok (.aload_n 0, 1) := by decide +kernel
theorem dL_areErrors_189 : decode cL_areErrors 189 = .ok (.iconst 2, 1) := by decide +kernel
theorem dL_areErrors_190 : decode cL_areErrors 190 = .ok (.iconst 1, 1) := by decide +kernel
theorem dL_areErrors_191 : decode cL_areErrors 191 = .ok (.iconst 1, 1) := by decide +kernel
theorem dL_areErrors_192 : decode cL_areErrors 192 = .ok (.invokevirtual 77, 3) := by decide +kernel
theorem dL_areErrors_195 : decode cL_areErrors 195 = .ok (.iconst (-1), 1) := by decide +kernel
theorem dL_areErrors_196 : decode cL_areErrors 196 = .ok (.if_icmp .ne 121, 3) := by decide +kernel
theorem dL_areErrors_199 : decode cL_areErrors 199 = .ok (.aload_n 0, 1) := by decide +kernel
theorem dL_areErrors_200 : decode cL_areErrors 200 = .ok (.iconst 0, 1) := by decide +kernel
theorem dL_areErrors_201 : decode cL_areErrors 201 = .ok (.iconst 0, 1) := by decide +kernel
theorem dL_areErrors_202 : decode cL_areErrors 202 = .ok (.iconst 1, 1) := by decide +kernel
theorem dL_areErrors_203 : decode cL_areErrors 203 = .ok (.invokevirtual 77, 3) := by decide +kernel
theorem dL_areErrors_206 : decode cL_areErrors 206 = .ok (.iconst (-1), 1) := by decide +kernel
theorem dL_areErrors_207 : decode cL_areErrors 207 = .ok (.if_icmp .ne 110, 3) := by decide +kernel
theorem dL_areErrors_210 : decode cL_areErrors 210 = .ok (.aload_n 0, 1) := by decide +kernel
theorem dL_areErrors_211 : decode cL_areErrors 211 = .ok (.iconst 0, 1) := by decide +kernel
theorem dL_areErrors_212 : decode cL_areErrors 212 = .ok (.iconst 1, 1) := by decide +kernel
theorem dL_areErrors_213 : decode cL_areErrors 213 = .ok (.sipush 5001, 3) := by decide +kernel
theorem dL_areErrors_216 : decode cL_areErrors 216 = .ok (.invokevirtual 77, 3) := by decide +kernel
theorem dL_areErrors_219 : decode cL_areErrors 219 = .ok (.iconst (-1), 1) := by decide +kernel
theorem dL_areErrors_220 : decode cL_areErrors 220 = .ok (.if_icmp .ne 97, 3) := by decide +kernel
theorem dL_areErrors_223 : decode cL_areErrors 223 = .ok (.aload_n 0, 1) := by decide +kernel
theorem dL_areErrors_224 : decode cL_areErrors 224 = .ok (.iconst 1, 1) := by decide +kernel
theorem dL_areErrors_225 : decode cL_areErrors 225 = .ok (.aload_n 0, 1) := by decide +kernel
theorem dL_areErrors_226 : decode cL_areErrors 226 = .ok (.iconst 5, 1) := by decide +kernel
theorem dL_areErrors_227 : decode cL_areErrors 227 = .ok (.invokevirtual 29, 3) := by decide +kernel
theorem dL_areErrors_230 : decode cL_areErrors 230 = .ok (.isub, 1) := by decide +kernel
theorem dL_areErrors_231 : decode cL_areErrors 231 = .ok (.iconst 1, 1) := by decide +kernel
theorem dL_areErrors_232 : decode cL_areErrors 232 = .ok (.iconst 1, 1) := by decide +kernel
theorem dL_areErrors_233 : decode cL_areErrors 233 = .ok (.invokevirtual 77, 3) := by decide +kernel
theorem dL_areErrors_236 : decode cL_areErrors 236 = .ok (.bipush (-2), 2) := by decide +kernel
theorem dL_areErrors_238 : decode cL_areErrors 238 = .ok (.if_icmp .ne 79, 3) := by decide +kernel
theorem dL_areErrors_241 : decode cL_areErrors 241 = .ok (.aload_n 0, 1) := by decide +kernel
theorem dL_areErrors_242 : decode cL_areErrors 242 = .ok (.bipush 6, 2) := by decide +kernel
theorem dL_areErrors_244 : decode cL_areErrors 244 = .ok (.invokevirtual 80, 3) := by decide +kernel
theorem dL_areErrors_247 : decode cL_areErrors 247 = .ok (.iconst (-1), 1) := by decide +kernel
theorem dL_areErrors_248 : decode cL_areErrors 248 = .ok (.if_icmp .ne 69, 3) := by decide +kernel
theorem dL_areErrors_251 : decode cL_areErrors 251 = .ok (.aload_n 0, 1) := by decide +kernel
theorem dL_areErrors_252 : decode cL_areErrors 252 = .ok (.bipush 6, 2) := by decide +kernel
theorem dL_areErrors_254 : decode cL_areErrors 254 = .ok (.iconst 0, 1) := by decide +kernel
theorem dL_areErrors_255 : decode cL_areErrors 255 = .ok (.invokevirtual 25, 3) := by decide +kernel
theorem dL_areErrors_258 : decode cL_areErrors 258 = .ok (.iconst (-1), 1) := by decide +kernel
theorem dL_areErrors_259 : decode cL_areErrors 259 = .ok (.if_icmp .ne 58, 3) := by decide +kernel
theorem dL_areErrors_262 : decode cL_areErrors 262 = .ok (.aload_n 0, 1) := by decide +kernel
theorem dL_areErrors_263 : decode cL_areErrors 263 = .ok (.iconst 0, 1) := by decide +kernel
theorem dL_areErrors_264 : decode cL_areErrors 264 = .ok (.bipush 6, 2) := by decide +kernel
theorem dL_areErrors_266 : decode cL_areErrors 266 = .ok (.invokevirtual 25, 3) := by decide +kernel
theorem dL_areErrors_269 : decode cL_areErrors 269 = .ok (.iconst (-1), 1) := by decide +kernel
theorem dL_areErrors_270 : decode cL_areErrors 270 = .ok (.if_icmp .ne 47, 3) := by decide +kernel
theorem dL_areErrors_273 : decode cL_areErrors 273 = .ok (.aload_n 0, 1) := by decide +kernel
theorem dL_areErrors_274 : decode cL_areErrors 274 = .ok (.iconst 2, 1) := by decide +kernel
theorem dL_areErrors_275 : decode cL_areErrors 275 = .ok (.iconst 1, 1) := by decide +kernel
theorem dL_areErrors_276 : decode cL_areErrors 276 = .ok (.invokevirtual 83, 3) := by decide +kernel
theorem dL_areErrors_279 : decode cL_areErrors 279 = .ok (.iconst (-1), 1) := by decide +kernel
theorem dL_areErrors_280 : decode cL_areErrors 280 = .ok (.if_icmp .ne 37, 3) := by decide +kernel
theorem dL_areErrors_283 : decode cL_areErrors 283 = .ok (.aload_n 0, 1) := by decide +kernel
theorem dL_areErrors_284 : decode cL_areErrors 284 = .ok (.iconst 0, 1) := by decide +kernel
theorem dL_areErrors_285 : decode cL_areErrors 285 = .ok (.bipush 51, 2) := by decide +kernel
theorem dL_areErrors_287 : decode cL_areErrors 287 = .ok (.invokevirtual 83, 3) := by decide +kernel
theorem dL_areErrors_290 : decode cL_areErrors 290 = .ok (.iconst (-1), 1) := by decide +kernel
theorem dL_areErrors_291 : decode cL_areErrors 291 = .ok (.if_icmp .ne 26, 3) := by decide +kernel
theorem dL_areErrors_294 : decode cL_areErrors 294 = .ok (.aload_n 0, 1) := by decide +kernel
theorem dL_areErrors_295 : decode cL_areErrors 295 = .ok (.iconst 1, 1) := by decide +kernel
theorem dL_areErrors_296 : decode cL_areErrors 296 = .ok (.iconst 0, 1) := by decide +kernel
theorem dL_areErrors_297 : decode cL_areErrors 297 = .ok (.invokevirtual 83, 3) := by decide +kernel
theorem dL_areErrors_300 : decode cL_areErrors 300 = .ok (.iconst (-1), 1) := by decide +kernel
theorem dL_areErrors_301 : decode cL_areErrors 301 = .ok (.if_icmp .ne 16, 3) := by decide +kernel
theorem dL_areErrors_304 : decode cL_areErrors 304 = .ok (.aload_n 0, 1) := by decide +kernel
theorem dL_areErrors_305 : decode cL_areErrors 305 = .ok (.iconst 4, 1) := by decide +kernel
theorem dL_areErrors_306 : decode cL_areErrors 306 = .ok (.invokevirtual 42, 3) := by decide +kernel
theorem dL_areErrors_309 : decode cL_areErrors 309 = .ok (.iconst (-1), 1) := by decide +kernel
theorem dL_areErrors_310 : decode cL_areErrors 310 = .ok (.if_icmp .ne 7, 3) := by decide +kernel
theorem dL_areErrors_313 : decode cL_areErrors 313 = .ok (.iconst 1, 1) := by decide +kernel
theorem dL_areErrors_314 : decode cL_areErrors 314 = .ok (.goto 4, 3) := by decide +kernel
theorem dL_areErrors_317 : decode cL_areErrors 317 = .ok (.iconst 0, 1) := by decide +kernel
theorem dL_areErrors_318 : decode cL_areErrors 318 = .ok (.istore_n 3, 1) := by decide +kernel
theorem dL_areErrors_319 : decode cL_areErrors 319 = .ok (.iload_n 3, 1) := by decide +kernel
theorem dL_areErrors_320 : decode cL_areErrors 320 = .ok (.ifCond .eq 211, 3) := by decide +kernel
theorem dL_areErrors_323 : decode cL_areErrors 323 = .ok (.aload_n 0, 1) := by decide +kernel
theorem dL_areErrors_324 : decode cL_areErrors 324 = .ok (.iconst 0, 1) := by decide +kernel
theorem dL_areErrors_325 : decode cL_areErrors 325 = .ok (.invokevirtual 86, 3) := by decide +kernel
theorem dL_areErrors_328 : decode cL_areErrors 328 = .ok (.iconst (-1), 1) := by decide +kernel
theorem dL_areErrors_329 : decode cL_areErrors 329 = .ok (.if_icmp .ne 202, 3) := by decide +kernel
theorem dL_areErrors_332 : decode cL_areErrors 332 = .ok (.aload_n 0, 1) := by decide +kernel
theorem dL_areErrors_333 : decode cL_areErrors 333 = .ok (.sipush 2001, 3) := by decide +kernel
theorem dL_areErrors_336 : decode cL_areErrors 336 = .ok (.invokevirtual 86, 3) := by decide +kernel
theorem dL_areErrors_339 : decode cL_areErrors 339 = .ok (.iconst (-1), 1) := by decide +kernel
theorem dL_areErrors_340 : decode cL_areErrors 340 = .ok (.if_icmp .ne 191, 3) := by decide +kernel
theorem dL_areErrors_343 : decode cL_areErrors 343 = .ok (.aload_n 0, 1) := by decide +kernel
theorem dL_areErrors_344 : decode cL_areErrors 344 = .ok (.bipush 8, 2) := by decide +kernel
theorem dL_areErrors_346 : decode cL_areErrors 346 = .ok (.invokevirtual 22, 3) := by decide +kernel
theorem dL_areErrors_349 : decode cL_areErrors 349 = .ok (.iconst (-1), 1) := by decide +kernel
theorem dL_areErrors_350 : decode cL_areErrors 350 = .ok (.if_icmp .ne 181, 3) := by decide +kernel
theorem dL_areErrors_353 : decode cL_areErrors 353 = .ok (.aload_n 0, 1) := by decide +kernel
theorem dL_areErrors_354 : decode cL_areErrors 354 = .ok (.bipush 12, 2) := by decide +kernel
theorem dL_areErrors_356 : decode cL_areErrors 356 = .ok (.invokevirtual 29, 3) := by decide +kernel
theorem dL_areErrors_359 : decode cL_areErrors 359 = .ok (.iconst (-1), 1) := by decide +kernel
theorem dL_areErrors_360 : decode cL_areErrors 360 = .ok (.if_icmp .ne 171, 3) := by decide +kernel
theorem dL_areErrors_363 : decode cL_areErrors 363 = .ok (.aload_n 0, 1) := by decide +kernel
theorem dL_areErrors_364 : decode cL_areErrors 364 = .ok (.sipush 10001, 3) := by decide +kernel
theorem dL_areErrors_367 : decode cL_areErrors 367 = .ok (.iconst 0, 1) := by decide +kernel
theorem dL_areErrors_368 : decode cL_areErrors 368 = .ok (.invokevirtual 89, 3) := by decide +kernel
theorem dL_areErrors_371 : decode cL_areErrors 371 = .ok (.iconst (-1), 1) := by decide +kernel
theorem dL_areErrors_372 : decode cL_areErrors 372 = .ok (.if_icmp .ne 159, 3) := by decide +kernel
theorem dL_areErrors_375 : decode cL_areErrors 375 = .ok (.aload_n 0, 1) := by decide +kernel
theorem dL_areErrors_376 : decode cL_areErrors 376 = .ok (.iconst 0, 1) := by decide +kernel
theorem dL_areErrors_377 : decode cL_areErrors 377 = .ok (.iconst 0, 1) := by decide +kernel
theorem dL_areErrors_378 : decode cL_areErrors 378 = .ok (.invokevirtual 89, 3) := by decide +kernel
theorem dL_areErrors_381 : decode cL_areErrors 381 = .ok (.bipush (-2), 2) := by decide +kernel
theorem dL_areErrors_383 : decode cL_areErrors 383 = .ok (.if_icmp .ne 148, 3) := by decide +kernel
theorem dL_areErrors_386 : decode cL_areErrors 386 = .ok (.aload_n 0, 1) := by decide +kernel
theorem dL_areErrors_387 : decode cL_areErrors 387 = .ok (.iconst 0, 1) := by decide +kernel
theorem dL_areErrors_388 : decode cL_areErrors 388 = .ok (.iconst 0, 1) := by decide +kernel
theorem dL_areErrors_389 : decode cL_areErrors 389 = .ok (.iconst 0, 1) := by decide +kernel
theorem dL_areErrors_390 : decode cL_areErrors 390 = .ok (.sipush 10001, 3) := by decide +kernel
theorem dL_areErrors_393 : decode cL_areErrors 393 = .ok (.iconst 1, 1) := by decide +kernel
theorem dL_areErrors_394 : decode cL_areErrors 394 = .ok (.invokevirtual 92, 3) := by decide +kernel
theorem dL_areErrors_397 : decode cL_areErrors 397 = .ok (.iconst (-1), 1) := by decide +kernel
theorem dL_areErrors_398 : decode cL_areErrors 398 = .ok (.if_icmp .ne 133, 3) := by decide +kernel
theorem dL_areErrors_401 : decode cL_areErrors 401 = .ok (.aload_n 0, 1) := by decide +kernel
theorem dL_areErrors_402 : decode cL_areErrors 402 = .ok (.iconst 0, 1) := by decide +kernel
theorem dL_areErrors_403 : decode cL_areErrors 403 = .ok (.iconst 0, 1) := by decide +kernel
theorem dL_areErrors_404 : decode cL_areErrors 404 = .ok (.iconst 0, 1) := by decide +kernel
theorem dL_areErrors_405 : decode cL_areErrors 405 = .ok (.iconst 0, 1) := by decide +kernel
theorem dL_areErrors_406 : decode cL_areErrors 406 = .ok (.sipush 501, 3) := by decide +kernel
theorem dL_areErrors_409 : decode cL_areErrors 409 = .ok (.invokevirtual 92, 3) := by decide +kernel
theorem dL_areErrors_412 : decode cL_areErrors 412 = .ok (.iconst (-1), 1) := by decide +kernel
theorem dL_areErrors_413 : decode cL_areErrors 413 = .ok (.if_icmp .ne 118, 3) := by decide +kernel
theorem dL_areErrors_416 : decode cL_areErrors 416 = .ok (.aload_n 0, 1) := by decide +kernel
theorem dL_areErrors_417 : decode cL_areErrors 417 = .ok (.iconst (-1), 1) := by decide +kernel
theorem dL_areErrors_418 : decode cL_areErrors 418 = .ok (.iconst 0, 1) := by decide +kernel
theorem dL_areErrors_419 : decode cL_areErrors 419 = .ok (.invokevirtual 32, 3) := by decide +kernel
theorem dL_areErrors_422 : decode cL_areErrors 422 = .ok (.iconst (-1), 1) := by decide +kernel
theorem dL_areErrors_423 : decode cL_areErrors 423 = .ok (.if_icmp .ne 108, 3) := by decide +kernel
theorem dL_areErrors_426 : decode cL_areErrors 426 = .ok (.aload_n 0, 1) := by decide +kernel
theorem dL_areErrors_427 : decode cL_areErrors 427 = .ok (.iconst 0, 1) := by decide +kernel
theorem dL_areErrors_428 : decode cL_areErrors 428 = .ok (.iconst 4, 1) := by decide +kernel
theorem dL_areErrors_429 : decode cL_areErrors 429 = .ok (.invokevirtual 32, 3) := by decide +kernel
theorem dL_areErrors_432 : decode cL_areErrors 432 = .ok (.iconst (-1), 1) := by decide +kernel
theorem dL_areErrors_433 : decode cL_areErrors 433 = .ok (.if_icmp .ne 98, 3) := by decide +kernel
theorem dL_areErrors_436 : decode cL_areErrors 436 = .ok (.aload_n 0, 1) := by decide +kernel
theorem dL_areErrors_437 : decode cL_areErrors 437 = .ok (.aload_n 0, 1) := by decide +kernel
theorem dL_areErrors_438 : decode cL_areErrors 438 = .ok (.bipush 8, 2) := by decide +kernel
theorem dL_areErrors_440 : decode cL_areErrors 440 = .ok (.invokevirtual 29, 3) := by decide +kernel
theorem dL_areErrors_443 : decode cL_areErrors 443 = .ok (.iconst 0, 1) := by decide +kernel
theorem dL_areErrors_444 : decode cL_areErrors 444 = .ok (.invokevirtual 32, 3) := by decide +kernel
theorem dL_areErrors_447 : decode cL_areErrors 447 = .ok (.bipush (-4), 2) := by decide +kernel
theorem dL_areErrors_449 : decode cL_areErrors 449 = .ok (.if_icmp .ne 82, 3) := by decide +kernel
theorem dL_areErrors_452 : decode cL_areErrors 452 = .ok (.aload_n 0, 1) := by decide +kernel
theorem dL_areErrors_453 : decode cL_areErrors 453 = .ok (.iconst 4, 1) := by decide +kernel
theorem dL_areErrors_454 : decode cL_areErrors 454 = .ok (.invokevirtual 35, 3) := by decide +kernel
theorem dL_areErrors_457 : decode cL_areErrors 457 = .ok (.iconst (-1), 1) := by decide +kernel
theorem dL_areErrors_458 : decode cL_areErrors 458 = .ok (.if_icmp .ne 73, 3) := by decide +kernel
theorem dL_areErrors_461 : decode cL_areErrors 461 = .ok (.aload_n 0, 1) := by decide +kernel
theorem dL_areErrors_462 : decode cL_areErrors 462 = .ok (.bipush 6, 2) := by decide +kernel
theorem dL_areErrors_464 : decode cL_areErrors 464 = .ok (.invokevirtual 22, 3) := by decide +kernel
theorem dL_areErrors_467 : decode cL_areErrors 467 = .ok (.ifCond .gt 13, 3) := by decide +kernel
theorem dL_areErrors_470 : decode cL_areErrors 470 = .ok (.aload_n 0, 1) := by decide +kernel
theorem dL_areErrors_471 : decode cL_areErrors 471 = .ok (.iconst 0, 1) := by decide +kernel
theorem dL_areErrors_472 : decode cL_areErrors 472 = .ok (.invokevirtual 35, 3) := by decide +kernel
theorem dL_areErrors_475 : decode cL_areErrors 475 = .ok (.bipush (-2), 2) := by decide +kernel
theorem dL_areErrors_477 : decode cL_areErrors 477 = .ok (.if_icmp .ne 54, 3) := by decide +kernel
theorem dL_areErrors_480 : decode cL_areErrors 480 = .ok (.aload_n 0, 1) := by decide +kernel
theorem dL_areErrors_481 : decode cL_areErrors 481 = .ok (.iconst 4, 1) := by decide +kernel
theorem dL_areErrors_482 : decode cL_areErrors 482 = .ok (.invokevirtual 96, 3) := by decide +kernel
theorem dL_areErrors_485 : decode cL_areErrors 485 = .ok (.iconst (-1), 1) := by decide +kernel
theorem dL_areErrors_486 : decode cL_areErrors 486 = .ok (.if_icmp .ne 45, 3) := by decide +kernel
theorem dL_areErrors_489 : decode cL_areErrors 489 = .ok (.aload_n 0, 1) := by decide +kernel
theorem dL_areErrors_490 : decode cL_areErrors 490 = .ok (.bipush 31, 2) := by decide +kernel
theorem dL_areErrors_492 : decode cL_areErrors 492 = .ok (.invokevirtual 99, 3) := by decide +kernel
theorem dL_areErrors_495 : decode cL_areErrors 495 = .ok (.iconst (-1), 1) := by decide +kernel
theorem dL_areErrors_496 : decode cL_areErrors 496 = .ok (.if_icmp .ne 35, 3) := by decide +kernel
theorem dL_areErrors_499 : decode cL_areErrors 499 = .ok (.aload_n 0, 1) := by decide +kernel
theorem dL_areErrors_500 : decode cL_areErrors 500 = .ok (.iconst 2, 1) := by decide +kernel
theorem dL_areErrors_501 : decode cL_areErrors 501 = .ok (.invokevirtual 102, 3) := by decide +kernel
theorem dL_areErrors_504 : decode cL_areErrors 504 = .ok (.iconst (-1), 1) := by decide +kernel
theorem dL_areErrors_505 : decode cL_areErrors 505 = .ok (.if_icmp .ne 26, 3) := by decide +kernel
theorem dL_areErrors_508 : decode cL_areErrors 508 = .ok (.aload_n 0, 1) := by decide +kernel
theorem dL_areErrors_509 : decode cL_areErrors 509 = .ok (.iconst 0, 1) := by decide +kernel
theorem dL_areErrors_510 : decode cL_areErrors 510 = .ok (.invokevirtual 102, 3) := by decide +kernel
theorem dL_areErrors_513 : decode cL_areErrors 513 = .ok (.bipush (-4), 2) := by decide +kernel
theorem dL_areErrors_515 : decode cL_areErrors 515 = .ok (.if_icmp .eq 12, 3) := by decide +kernel
theorem dL_areErrors_518 : decode cL_areErrors 518 = .ok (.aload_n 0, 1) := by decide +kernel
theorem dL_areErrors_519 : decode cL_areErrors 519 = .ok (.invokevirtual 105, 3) := by decide +kernel
theorem dL_areErrors_522 : decode cL_areErrors 522 = .ok (.bipush (-2), 2) := by decide +kernel
theorem dL_areErrors_524 : decode cL_areErrors 524 = .ok (.if_icmp .ne 7, 3) := by decide +kernel
theorem dL_areErrors_527 : decode cL_areErrors 527 = .ok (.iconst 1, 1) := by decide +kernel
theorem dL_areErrors_528 : decode cL_areErrors 528 = .ok (.goto 4, 3) := by decide +kernel
theorem dL_areErrors_531 : decode cL_areErrors 531 = .ok (.iconst 0, 1) := by decide +kernel
theorem dL_areErrors_532 : decode cL_areErrors 532 = .ok (.istore_n 3, 1) := by decide +kernel
theorem dL_areErrors_533 : decode cL_areErrors 533 = .ok (.aload_n 0, 1) := by decide +kernel
theorem dL_areErrors_534 : decode cL_areErrors 534 = .ok (.bipush 11, 2) := by decide +kernel
theorem dL_areErrors_536 : decode cL_areErrors 536 = .ok (.invokevirtual 29, 3) := by decide +kernel
theorem dL_areErrors_539 : decode cL_areErrors 539 = .ok (.ifCond .ne 32, 3) := by decide +kernel
theorem dL_areErrors_542 : decode cL_areErrors 542 = .ok (.iload_n 3, 1) := by decide +kernel
theorem dL_areErrors_543 : decode cL_areErrors 543 = .ok (.ifCond .eq 26, 3) := by decide +kernel
theorem dL_areErrors_546 : decode cL_areErrors 546 = .ok (.aload_n 0, 1) := by decide +kernel
theorem dL_areErrors_547 : decode cL_areErrors 547 = .ok (.invokevirtual 108, 3) := by decide +kernel
theorem dL_areErrors_550 : decode cL_areErrors 550 = .ok (.bipush (-2), 2) := by decide +kernel
theorem dL_areErrors_552 : decode cL_areErrors 552 = .ok (.if_icmp .ne 17, 3) := by decide +kernel
theorem dL_areErrors_555 : decode cL_areErrors 555 = .ok (.aload_n 0, 1) := by decide +kernel
theorem dL_areErrors_556 : decode cL_areErrors 556 = .ok (.iconst 0, 1) := by decide +kernel
theorem dL_areErrors_557 : decode cL_areErrors 557 = .ok (.invokevirtual 96, 3) := by decide +kernel
theorem dL_areErrors_560 : decode cL_areErrors 560 = .ok (.bipush (-2), 2) := by decide +kernel
theorem dL_areErrors_562 : decode cL_areErrors 562 = .ok (.if_icmp .ne 7, 3) := by decide +kernel
theorem dL_areErrors_565 : decode cL_areErrors 565 = .ok (.iconst 1, 1) := by decide +kernel
theorem dL_areErrors_566 : decode cL_areErrors 566 = .ok (.goto 4, 3) := by decide +kernel
theorem dL_areErrors_569 : decode cL_areErrors 569 = .ok (.iconst 0, 1) := by decide +kernel
theorem dL_areErrors_570 : decode cL_areErrors 570 = .ok (.istore_n 3, 1) := by decide +kernel
theorem dL_areErrors_571 : decode cL_areErrors 571 = .ok (.iload_n 3, 1) := by decide +kernel
theorem dL_areErrors_572 : decode cL_areErrors 572 = .ok (.ifCond .eq 64, 3) := by decide +kernel
theorem dL_areErrors_575 : decode cL_areErrors 575 = .ok (.aload_n 0, 1) := by decide +kernel
theorem dL_areErrors_576 : decode cL_areErrors 576 = .ok (.iconst 1, 1) := by decide +kernel
theorem dL_areErrors_577 : decode cL_areErrors 577 = .ok (.invokevirtual 29, 3) := by decide +kernel
theorem dL_areErrors_580 : decode cL_areErrors 580 = .ok (.bipush 6, 2) := by decide +kernel
theorem dL_areErrors_582 : decode cL_areErrors 582 = .ok (.if_icmp .lt 19, 3) := by decide +kernel
theorem dL_areErrors_585 : decode cL_areErrors 585 = .ok (.aload_n 0, 1) := by decide +kernel
theorem dL_areErrors_586 : decode cL_areErrors 586 = .ok (.aload_n 0, 1) := by decide +kernel
theorem dL_areErrors_587 : decode cL_areErrors 587 = .ok (.iconst 5, 1) := by decide +kernel
theorem dL_areErrors_588 : decode cL_areErrors 588 = .ok (.invokevirtual 29, 3) := by decide +kernel
theorem dL_areErrors_591 : decode cL_areErrors 591 = .ok (.iconst 1, 1) := by decide +kernel
theorem dL_areErrors_592 : decode cL_areErrors 592 = .ok (.iconst 1, 1) := by decide +kernel
theorem dL_areErrors_593 : decode cL_areErrors 593 = .ok (.invokevirtual 77, 3) := by decide +kernel
theorem dL_areErrors_596 : decode cL_areErrors 596 = .ok (.bipush (-3), 2) := by decide +kernel
theorem dL_areErrors_598 : decode cL_areErrors 598 = .ok (.if_icmp .ne 38, 3) := by decide +kernel
theorem dL_areErrors_601 : decode cL_areErrors 601 = .ok (.aload_n 0, 1) := by decide +kernel
theorem dL_areErrors_602 : decode cL_areErrors 602 = .ok (.iconst 0, 1) := by decide +kernel
theorem dL_areErrors_603 : decode cL_areErrors 603 = .ok (.invokevirtual 19, 3) := by decide +kernel
theorem dL_areErrors_606 : decode cL_areErrors 606 = .ok (.bipush 8, 2) := by decide +kernel
theorem dL_areErrors_608 : decode cL_areErrors 608 = .ok (.if_icmp .lt 15, 3) := by decide +kernel
theorem dL_areErrors_611 : decode cL_areErrors 611 = .ok (.aload_n 0, 1) := by decide +kernel
theorem dL_areErrors_612 : decode cL_areErrors 612 = .ok (.iconst 1, 1) := by decide +kernel
theorem dL_areErrors_613 : decode cL_areErrors 613 = .ok (.iconst 1, 1) := by decide +kernel
theorem dL_areErrors_614 : decode cL_areErrors 614 = .ok (.iconst 0, 1) := by decide +kernel
theorem dL_areErrors_615 : decode cL_areErrors 615 = .ok (.invokevirtual 68, 3) := by decide +kernel
theorem dL_areErrors_618 : decode cL_areErrors 618 = .ok (.bipush (-3), 2) := by decide +kernel
theorem dL_areErrors_620 : decode cL_areErrors 620 = .ok (.if_icmp .ne 16, 3) := by decide +kernel
theorem dL_areErrors_623 : decode cL_areErrors 623 = .ok (.aload_n 0, 1) := by decide +kernel
theorem dL_areErrors_624 : decode cL_areErrors 624 = .ok (.invokestatic 49, 3) := by decide +kernel
theorem dL_areErrors_627 : decode cL_areErrors 627 = .ok (.lload_n 1, 1) := by decide +kernel
theorem dL_areErrors_628 : decode cL_areErrors 628 = .ok (.lcmp, 1) := by decide +kernel
theorem dL_areErrors_629 : decode cL_areErrors 629 = .ok (.ifCond .ne 7, 3) := by decide +kernel
theorem dL_areErrors_632 : decode cL_areErrors 632 = .ok (.iconst 1, 1) := by decide +kernel
theorem dL_areErrors_633 : decode cL_areErrors 633 = .ok (.goto 4, 3) := by decide +kernel
theorem dL_areErrors_636 : decode cL_areErrors 636 = .ok (.iconst 0, 1) := by decide +kernel
theorem dL_areErrors_637 : decode cL_areErrors 637 = .ok (.ireturn, 1) := by decide +kernel
set_option maxRecDepth 20000 in
theorem ggL_isLight_X9_count : GoodIn wsL_isLight wsX9_count := goodIn_r _ [5, 6, 7, 8, 9, 10, 11, 12, 13, 14, 15, 16, 17, 18, 19, 20, 21, 22, 23, 24, 25, 26, 27, 28, 29, 30, 31, 32, 33, 34, 35, 36, 37, 38, 39, 40, 41, 42, 43, 44, 45, 46, 47, 48, 49, 50, 51, 164, 165, 166, 167, 168, 169, 170, 171, 172, 173, 174, 175, 176, 177, 178, 179, 180, 181, 182, 183, 184, 185, 186, 187, 188, 189, 190, 191, 192, 193, 194, 195, 196, 197, 198, 199, 200, 201, 202] (by decide +kernel) (by decide +kernel)
set_option maxRecDepth 20000 in
theorem gL_isLight_X9_count : GoodIn wsL_isLight (wsV RL 29 RX9 yX9_count wsX9_count) := goodIn_app (goodIn_of _ (by decide +kernel)) ggL_isLight_X9_count
set_option maxRecDepth 20000 in
theorem ggL_isLight_X9_sector : GoodIn wsL_isLight wsX9_sector := goodIn_r _ [55, 6, 56, 57, 4, 58, 59, 60, 61, 13, 62, 15, 16, 17, 18, 19, 20, 21, 22, 23, 63, 64, 65, 66, 67, 164, 165, 166, 167, 168, 169, 170, 171, 172, 173, 174, 175, 176, 177, 195] (by decide +kernel) (by decide +kernel)
set_option maxRecDepth 20000 in
theorem gL_isLight_X9_sector : GoodIn wsL_isLight (wsV RL 59 RX9 yX9_sector wsX9_sector) := goodIn_app (goodIn_of _ (by decide +kernel)) ggL_isLight_X9_sector
set_option maxRecDepth 20000 in
theorem ggL_isLight_X9_color : GoodIn wsL_isLight wsX9_color := goodIn_r _ [71, 6, 56, 57, 4, 58, 67, 20, 21, 13, 22, 23, 164, 165, 166, 167, 168, 169, 170, 171, 172, 173, 174, 175, 176, 177, 195] (by decide +kernel) (by decide +kernel)
set_option maxRecDepth 20000 in
theorem gL_isLight_X9_color : GoodIn wsL_isLight (wsV RL 13 RX9 yX9_color wsX9_color) := goodIn_app (goodIn_of _ (by decide +kernel)) ggL_isLight_X9_color
set_option maxRecDepth 20000 in
theorem ggL_isLight_X9_account : GoodIn wsL_isLight wsX9_account := goodIn_r _ [75, 6, 76, 77, 78, 79, 80, 81, 164, 165, 166, 167, 168, 169, 170, 171, 172, 173, 174, 175, 176, 177, 196, 197, 198, 199, 200, 201, 202] (by decide +kernel) (by decide +kernel)
set_option maxRecDepth 20000 in
theorem gL_isLight_X9_account : GoodIn wsL_isLight (wsV RL 22 RX9 yX9_account wsX9_account) := goodIn_app (goodIn_of _ (by decide +kernel)) ggL_isLight_X9_account
set_option maxRecDepth 20000 in
theorem ggL_isLight_X9_code : GoodIn wsL_isLight wsX9_code := goodIn_r _ [85, 6, 86, 87, 88, 89, 90, 91, 92, 93, 94, 95, 96, 97, 98, 99, 100, 101, 102, 103, 104, 105, 106, 107, 108, 109, 110, 111, 112, 164, 165, 166, 167, 168, 169, 170, 171, 172, 173, 174, 175, 176, 177, 203, 204, 205, 206, 207] (by decide +kernel) (by decide +kernel)
set_option maxRecDepth 20000 in
theorem gL_isLight_X9_code : GoodIn wsL_isLight (wsV RL 19 RX9 yX9_code wsX9_code) := goodIn_app (goodIn_of _ (by decide +kernel)) ggL_isLight_X9_code
set_option maxRecDepth 20000 in
theorem ggL_isLight_X9_next : GoodIn wsL_isLight wsX9_next := goodIn_r _ [116, 6, 56, 57, 4, 58, 92, 93, 94, 89, 95, 96, 97, 106, 107, 108, 109, 91, 110, 111, 112, 164, 165, 166, 167, 168, 169, 170, 171, 172, 173, 174, 175, 176, 177, 203, 204, 205, 206, 207] (by decide +kernel) (by decide +kernel)
set_option maxRecDepth 20000 in
theorem gL_isLight_X9_next : GoodIn wsL_isLight (wsV RL 71 RX9 yX9_next wsX9_next) := goodIn_app (goodIn_of _ (by decide +kernel)) ggL_isLight_X9_next
set_option maxRecDepth 20000 in
theorem ggL_isLight_X9_lamp : GoodIn wsL_isLight wsX9_lamp := goodIn_r _ [120, 6, 56, 57, 4, 58, 121, 30, 31, 27, 32, 33, 34, 35, 36, 122, 123, 124, 125, 126, 127, 128, 129, 130, 131, 132, 133, 134, 45, 135, 136, 137, 138, 139, 42, 43, 44, 164, 165, 166, 167, 168, 169, 170, 171, 172, 173, 174, 175, 176, 177, 178, 179, 180, 181, 182, 183, 184] (by decide +kernel) (by decide +kernel)
set_option maxRecDepth 20000 in
theorem gL_isLight_X9_lamp : GoodIn wsL_isLight (wsV RL 25 RX9 yX9_lamp wsX9_lamp) := goodIn_app (goodIn_of _ (by decide +kernel)) ggL_isLight_X9_lamp
set_option maxRecDepth 20000 in
theorem ggL_isLight_X9_rangeBits : GoodIn wsL_isLight wsX9_rangeBits := goodIn_r _ [143, 6, 56, 57, 4, 58, 144, 145, 146, 79, 147, 148, 149, 150, 151, 152, 136, 137, 27, 138, 33, 126, 45, 34, 35, 36, 153, 154, 155, 156, 157, 158, 159, 160, 161, 162, 163, 164, 165, 166, 167, 168, 169, 170, 171, 172, 173, 174, 175, 176, 177, 178, 179, 180, 181, 182, 183, 184] (by decide +kernel) (by decide +kernel)
set_option maxRecDepth 20000 in
theorem gL_isLight_X9_rangeBits : GoodIn wsL_isLight (wsV RL 42 RX9 yX9_rangeBits wsX9_rangeBits) := goodIn_app (goodIn_of _ (by decide +kernel)) ggL_isLight_X9_rangeBits
theorem dL_isLight_0 : decode cL_isLight 0 = .ok (.iconst 0, 1) := by decide +kernel
theorem dL_isLight_1 : decode cL_isLight 1 = .ok (.istore_n 1, 1) := by decide +kernel
theorem dL_isLight_2 : decode cL_isLight 2 = .ok (.aload_n 0, 1) := by decide +kernel
theorem dL_isLight_3 : decode cL_isLight 3 = .ok (.iconst 0, 1) := by decide +kernel
theorem dL_isLight_4 : decode cL_isLight 4 = .ok (.invokevirtual 29, 3) := by decide +kernel
theorem dL_isLight_7 : decode cL_isLight 7 = .ok (.istore_n 2, 1) := by decide +kernel
theorem dL_isLight_8 : decode cL_isLight 8 = .ok (.iconst 1, 1) := by decide +kernel
theorem dL_isLight_9 : decode cL_isLight 9 = .ok (.istore_n 3, 1) := by decide +kernel
theorem dL_isLight_10 : decode cL_isLight 10 = .ok (.iconst 0, 1) := by decide +kernel
theorem dL_isLight_11 : decode cL_isLight 11 = .ok (.istore 4, 2) := by decide +kernel
theorem dL_isLight_13 : decode cL_isLight 13 = .ok (.iload 4, 2) := by decide +kernel
theorem dL_isLight_15 : decode cL_isLight 15 = .ok (.iload_n 2, 1) := by decide +kernel
theorem dL_isLight_16 : decode cL_isLight 16 = .ok (.if_icmp .ge 128, 3) := by decide +kernel
theorem dL_isLight_19 : decode cL_isLight 19 = .ok (.iload_n 3, 1) := by decide +kernel
theorem dL_isLight_20 : decode cL_isLight 20 = .ok (.ifCond .eq 124, 3) := by decide +kernel
theorem dL_isLight_23 : decode cL_isLight 23 = .ok (.aload_n 0, 1) := by decide +kernel
theorem dL_isLight_24 : decode cL_isLight 24 = .ok (.iload 4, 2) := by decide +kernel
theorem dL_isLight_26 : decode cL_isLight 26 = .ok (.iconst 0, 1) := by decide +kernel
theorem dL_isLight_27 : decode cL_isLight 27 = .ok (.invokevirtual 59, 3) := by decide +kernel
theorem dL_isLight_30 : decode cL_isLight 30 = .ok (.istore 5, 2) := by decide +kernel
theorem dL_isLight_32 : decode cL_isLight 32 = .ok (.aload_n 0, 1) := by decide +kernel
theorem dL_isLight_33 : decode cL_isLight 33 = .ok (.iload 4, 2) := by decide +kernel
theorem dL_isLight_35 : decode cL_isLight 35 = .ok (.iconst 1, 1) := by decide +kernel
theorem dL_isLight_36 : decode cL_isLight 36 = .ok (.invokevirtual 59, 3) := by decide +kernel
theorem dL_isLight_39 : decode cL_isLight 39 = .ok (.istore 6, 2) := by decide +kernel
theorem dL_isLight_41 : decode cL_isLight 41 = .ok (.iload_n 1, 1) := by decide +kernel
theorem dL_isLight_42 : decode cL_isLight 42 = .ok (.iload 6, 2) := by decide +kernel
theorem dL_isLight_44 : decode cL_isLight 44 = .ok (.iadd, 1) := by decide +kernel
theorem dL_isLight_45 : decode cL_isLight 45 = .ok (.istore_n 1, 1) := by decide +kernel
theorem dL_isLight_46 : decode cL_isLight 46 = .ok (.iload 4, 2) := by decide +kernel
theorem dL_isLight_48 : decode cL_isLight 48 = .ok (.ifCond .eq 17, 3) := by decide +kernel
theorem dL_isLight_51 : decode cL_isLight 51 = .ok (.iload 5, 2) := by decide +kernel
theorem dL_isLight_53 : decode cL_isLight 53 = .ok (.aload_n 0, 1) := by decide +kernel
theorem dL_isLight_54 : decode cL_isLight 54 = .ok (.iload 4, 2) := by decide +kernel
theorem dL_isLight_56 : decode cL_isLight 56 = .ok (.iconst 1, 1) := by decide +kernel
theorem dL_isLight_57 : decode cL_isLight 57 = .ok (.isub, 1) := by decide +kernel
theorem dL_isLight_58 : decode cL_isLight 58 = .ok (.iconst 0, 1) := by decide +kernel
theorem dL_isLight_59 : decode cL_isLight 59 = .ok (.invokevirtual 59, 3) := by decide +kernel
theorem dL_isLight_62 : decode cL_isLight 62 = .ok (.if_icmp .le 74, 3) := by decide +kernel
theorem dL_isLight_65 : decode cL_isLight 65 = .ok (.aload_n 0, 1) := by decide +kernel
theorem dL_isLight_66 : decode cL_isLight 66 = .ok (.iload 5, 2) := by decide +kernel
theorem dL_isLight_68 : decode cL_isLight 68 = .ok (.invokevirtual 13, 3) := by decide +kernel
theorem dL_isLight_71 : decode cL_isLight 71 = .ok (.aload_n 0, 1) := by decide +kernel
theorem dL_isLight_72 : decode cL_isLight 72 = .ok (.iload 4, 2) := by decide +kernel
theorem dL_isLight_74 : decode cL_isLight 74 = .ok (.iconst 2, 1) := by decide +kernel
theorem dL_isLight_75 : decode cL_isLight 75 = .ok (.invokevirtual 59, 3) := by decide +kernel
theorem dL_isLight_78 : decode cL_isLight 78 = .ok (.if_icmp .ne 58, 3) := by decide +kernel
theorem dL_isLight_81 : decode cL_isLight 81 = .ok (.aload_n 0, 1) := by decide +kernel
theorem dL_isLight_82 : decode cL_isLight 82 = .ok (.iload 5, 2) := by decide +kernel
theorem dL_isLight_84 : decode cL_isLight 84 = .ok (.iload 6, 2) := by decide +kernel
theorem dL_isLight_86 : decode cL_isLight 86 = .ok (.iadd, 1) := by decide +kernel
theorem dL_isLight_87 : decode cL_isLight 87 = .ok (.iconst 1, 1) := by decide +kernel
theorem dL_isLight_88 : decode cL_isLight 88 = .ok (.isub, 1) := by decide +kernel
theorem dL_isLight_89 : decode cL_isLight 89 = .ok (.bipush 64, 2) := by decide +kernel
theorem dL_isLight_91 : decode cL_isLight 91 = .ok (.irem, 1) := by decide +kernel
theorem dL_isLight_92 : decode cL_isLight 92 = .ok (.invokevirtual 13, 3) := by decide +kernel
theorem dL_isLight_95 : decode cL_isLight 95 = .ok (.aload_n 0, 1) := by decide +kernel
theorem dL_isLight_96 : decode cL_isLight 96 = .ok (.iload 4, 2) := by decide +kernel
theorem dL_isLight_98 : decode cL_isLight 98 = .ok (.iconst 2, 1) := by decide +kernel
theorem dL_isLight_99 : decode cL_isLight 99 = .ok (.invokevirtual 59, 3) := by decide +kernel
theorem dL_isLight_102 : decode cL_isLight 102 = .ok (.if_icmp .ne 34, 3) := by decide +kernel
theorem dL_isLight_105 : decode cL_isLight 105 = .ok (.iload_n 2, 1) := by decide +kernel
theorem dL_isLight_106 : decode cL_isLight 106 = .ok (.iconst 1, 1) := by decide +kernel
theorem dL_isLight_107 : decode cL_isLight 107 = .ok (.if_icmp .eq 25, 3) := by decide +kernel
theorem dL_isLight_110 : decode cL_isLight 110 = .ok (.aload_n 0, 1) := by decide +kernel
theorem dL_isLight_111 : decode cL_isLight 111 = .ok (.iload 5, 2) := by decide +kernel
theorem dL_isLight_113 : decode cL_isLight 113 = .ok (.iload 6, 2) := by decide +kernel
theorem dL_isLight_115 : decode cL_isLight 115 = .ok (.iadd, 1) := by decide +kernel
theorem dL_isLight_116 : decode cL_isLight 116 = .ok (.bipush 64, 2) := by decide +kernel
theorem dL_isLight_118 : decode cL_isLight 118 = .ok (.irem, 1) := by decide +kernel
theorem dL_isLight_119 : decode cL_isLight 119 = .ok (.invokevirtual 13, 3) := by decide +kernel
theorem dL_isLight_122 : decode cL_isLight 122 = .ok (.aload_n 0, 1) := by decide +kernel
theorem dL_isLight_123 : decode cL_isLight 123 = .ok (.iload 4, 2) := by decide +kernel
theorem dL_isLight_125 : decode cL_isLight 125 = .ok (.iconst 2, 1) := by decide +kernel
theorem dL_isLight_126 : decode cL_isLight 126 = .ok (.invokevirtual 59, 3) := by decide +kernel
theorem dL_isLight_129 : decode cL_isLight 129 = .ok (.if_icmp .eq 7, 3) := by decide +kernel
theorem dL_isLight_132 : decode cL_isLight 132 = .ok (.iconst 1, 1) := by decide +kernel
theorem dL_isLight_133 : decode cL_isLight 133 = .ok (.goto 4, 3) := by decide +kernel
theorem dL_isLight_136 : decode cL_isLight 136 = .ok (.iconst 0, 1) := by decide +kernel
theorem dL_isLight_137 : decode cL_isLight 137 = .ok (.istore_n 3, 1) := by decide +kernel
theorem dL_isLight_138 : decode cL_isLight 138 = .ok (.iinc 4 1, 3) := by decide +kernel
theorem dL_isLight_141 : decode cL_isLight 141 = .ok (.goto (-128), 3) := by decide +kernel
theorem dL_isLight_144 : decode cL_isLight 144 = .ok (.iload_n 3, 1) := by decide +kernel
theorem dL_isLight_145 : decode cL_isLight 145 = .ok (.ifCond .eq 131, 3) := by decide +kernel
theorem dL_isLight_148 : decode cL_isLight 148 = .ok (.iload_n 1, 1) := by decide +kernel
theorem dL_isLight_149 : decode cL_isLight 149 = .ok (.bipush 64, 2) := by decide +kernel
theorem dL_isLight_151 : decode cL_isLight 151 = .ok (.if_icmp .ne 125, 3) := by decide +kernel
theorem dL_isLight_154 : decode cL_isLight 154 = .ok (.aload_n 0, 1) := by decide +kernel
theorem dL_isLight_155 : decode cL_isLight 155 = .ok (.iconst 0, 1) := by decide +kernel
theorem dL_isLight_156 : decode cL_isLight 156 = .ok (.invokevirtual 22, 3) := by decide +kernel
theorem dL_isLight_159 : decode cL_isLight 159 = .ok (.aload_n 0, 1) := by decide +kernel
theorem dL_isLight_160 : decode cL_isLight 160 = .ok (.iconst 1, 1) := by decide +kernel
theorem dL_isLight_161 : decode cL_isLight 161 = .ok (.invokevirtual 22, 3) := by decide +kernel
theorem dL_isLight_164 : decode cL_isLight 164 = .ok (.aload_n 0, 1) := by decide +kernel
theorem dL_isLight_165 : decode cL_isLight 165 = .ok (.iconst 2, 1) := by decide +kernel
theorem dL_isLight_166 : decode cL_isLight 166 = .ok (.invokevirtual 22, 3) := by decide +kernel
theorem dL_isLight_169 : decode cL_isLight 169 = .ok (.iadd, 1) := by decide +kernel
theorem dL_isLight_170 : decode cL_isLight 170 = .ok (.aload_n 0, 1) := by decide +kernel
theorem dL_isLight_171 : decode cL_isLight 171 = .ok (.iconst 3, 1) := by decide +kernel
theorem dL_isLight_172 : decode cL_isLight 172 = .ok (.invokevirtual 22, 3) := by decide +kernel
theorem dL_isLight_175 : decode cL_isLight 175 = .ok (.iadd, 1) := by decide +kernel
theorem dL_isLight_176 : decode cL_isLight 176 = .ok (.aload_n 0, 1) := by decide +kernel
theorem dL_isLight_177 : decode cL_isLight 177 = .ok (.iconst 4, 1) := by decide +kernel
theorem dL_isLight_178 : decode cL_isLight 178 = .ok (.invokevirtual 22, 3) := by decide +kernel
theorem dL_isLight_181 : decode cL_isLight 181 = .ok (.iadd, 1) := by decide +kernel
theorem dL_isLight_182 : decode cL_isLight 182 = .ok (.if_icmp .ne 94, 3) := by decide +kernel
theorem dL_isLight_185 : decode cL_isLight 185 = .ok (.aload_n 0, 1) := by decide +kernel
theorem dL_isLight_186 : decode cL_isLight 186 = .ok (.iconst 2, 1) := by decide +kernel
theorem dL_isLight_187 : decode cL_isLight 187 = .ok (.invokevirtual 19, 3) := by decide +kernel
theorem dL_isLight_190 : decode cL_isLight 190 = .ok (.aload_n 0, 1) := by decide +kernel
theorem dL_isLight_191 : decode cL_isLight 191 = .ok (.iconst 1, 1) := by decide +kernel
theorem dL_isLight_192 : decode cL_isLight 192 = .ok (.invokevirtual 19, 3) := by decide +kernel
theorem dL_isLight_195 : decode cL_isLight 195 = .ok (.if_icmp .gt 81, 3) := by decide +kernel
theorem dL_isLight_198 : decode cL_isLight 198 = .ok (.aload_n 0, 1) := by decide +kernel
theorem dL_isLight_199 : decode cL_isLight 199 = .ok (.iconst 3, 1) := by decide +kernel
theorem dL_isLight_200 : decode cL_isLight 200 = .ok (.invokevirtual 19, 3) := by decide +kernel
theorem dL_isLight_203 : decode cL_isLight 203 = .ok (.ifCond .ne 7, 3) := by decide +kernel
theorem dL_isLight_206 : decode cL_isLight 206 = .ok (.iconst 1, 1) := by decide +kernel
theorem dL_isLight_207 : decode cL_isLight 207 = .ok (.goto 4, 3) := by decide +kernel
theorem dL_isLight_210 : decode cL_isLight 210 = .ok (.iconst 0, 1) := by decide +kernel
theorem dL_isLight_211 : decode cL_isLight 211 = .ok (.aload_n 0, 1) := by decide +kernel
theorem dL_isLight_212 : decode cL_isLight 212 = .ok (.iconst 1, 1) := by decide +kernel
theorem dL_isLight_213 : decode cL_isLight 213 = .ok (.invokevirtual 19, 3) := by decide +kernel
theorem dL_isLight_216 : decode cL_isLight 216 = .ok (.aload_n 0, 1) := by decide +kernel
theorem dL_isLight_217 : decode cL_isLight 217 = .ok (.iconst 2, 1) := by decide +kernel
theorem dL_isLight_218 : decode cL_isLight 218 = .ok (.invokevirtual 19, 3) := by decide +kernel
theorem dL_isLight_221 : decode cL_isLight 221 = .ok (.if_icmp .ne 7, 3) := by decide +kernel
theorem dL_isLight_224 : decode cL_isLight 224 = .ok (.iconst 1, 1) := by decide +kernel
theorem dL_isLight_225 : decode cL_isLight 225 = .ok (.goto 4, 3) := by decide +kernel
theorem dL_isLight_228 : decode cL_isLight 228 = .ok (.iconst 0, 1) := by decide +kernel
theorem dL_isLight_229 : decode cL_isLight 229 = .ok (.if_icmp .ne 47, 3) := by decide +kernel
theorem dL_isLight_232 : decode cL_isLight 232 = .ok (.aload_n 0, 1) := by decide +kernel
theorem dL_isLight_233 : decode cL_isLight 233 = .ok (.iconst 2, 1) := by decide +kernel
theorem dL_isLight_234 : decode cL_isLight 234 = .ok (.invokevirtual 29, 3) := by decide +kernel
theorem dL_isLight_237 : decode cL_isLight 237 = .ok (.aload_n 0, 1) := by decide +kernel
theorem dL_isLight_238 : decode cL_isLight 238 = .ok (.iconst 1, 1) := by decide +kernel
theorem dL_isLight_239 : decode cL_isLight 239 = .ok (.invokevirtual 29, 3) := by decide +kernel
theorem dL_isLight_242 : decode cL_isLight 242 = .ok (.if_icmp .gt 34, 3) := by decide +kernel
theorem dL_isLight_245 : decode cL_isLight 245 = .ok (.aload_n 0, 1) := by decide +kernel
theorem dL_isLight_246 : decode cL_isLight 246 = .ok (.iconst 4, 1) := by decide +kernel
theorem dL_isLight_247 : decode cL_isLight 247 = .ok (.invokevirtual 29, 3) := by decide +kernel
theorem dL_isLight_250 : decode cL_isLight 250 = .ok (.bipush 50, 2) := by decide +kernel
theorem dL_isLight_252 : decode cL_isLight 252 = .ok (.if_icmp .gt 24, 3) := by decide +kernel
theorem dL_isLight_255 : decode cL_isLight 255 = .ok (.aload_n 0, 1) := by decide +kernel
theorem dL_isLight_256 : decode cL_isLight 256 = .ok (.aload_n 0, 1) := by decide +kernel
theorem dL_isLight_257 : decode cL_isLight 257 = .ok (.iconst 4, 1) := by decide +kernel
theorem dL_isLight_258 : decode cL_isLight 258 = .ok (.invokevirtual 19, 3) := by decide +kernel
theorem dL_isLight_261 : decode cL_isLight 261 = .ok (.invokevirtual 71, 3) := by decide +kernel
theorem dL_isLight_264 : decode cL_isLight 264 = .ok (.aload_n 0, 1) := by decide +kernel
theorem dL_isLight_265 : decode cL_isLight 265 = .ok (.iconst 0, 1) := by decide +kernel
theorem dL_isLight_266 : decode cL_isLight 266 = .ok (.invokevirtual 22, 3) := by decide +kernel
theorem dL_isLight_269 : decode cL_isLight 269 = .ok (.if_icmp .ne 7, 3) := by decide +kernel
theorem dL_isLight_272 : decode cL_isLight 272 = .ok (.iconst 1, 1) := by decide +kernel
theorem dL_isLight_273 : decode cL_isLight 273 = .ok (.goto 4, 3) := by decide +kernel
theorem dL_isLight_276 : decode cL_isLight 276 = .ok (.iconst 0, 1) := by decide +kernel
theorem dL_isLight_277 : decode cL_isLight 277 = .ok (.istore_n 3, 1) := by decide +kernel
theorem dL_isLight_278 : decode cL_isLight 278 = .ok (.iconst 0, 1) := by decide +kernel
theorem dL_isLight_279 : decode cL_isLight 279 = .ok (.istore 4, 2) := by decide +kernel
theorem dL_isLight_281 : decode cL_isLight 281 = .ok (.iload 4, 2) := by decide +kernel
theorem dL_isLight_283 : decode cL_isLight 283 = .ok (.bipush 6, 2) := by decide +kernel
theorem dL_isLight_285 : decode cL_isLight 285 = .ok (.if_icmp .ge 131, 3) := by decide +kernel
theorem dL_isLight_288 : decode cL_isLight 288 = .ok (.iload_n 3, 1) := by decide +kernel
theorem dL_isLight_289 : decode cL_isLight 289 = .ok (.ifCond .eq 127, 3) := by decide +kernel
theorem dL_isLight_292 : decode cL_isLight 292 = .ok (.aload_n 0, 1) := by decide +kernel
theorem dL_isLight_293 : decode cL_isLight 293 = .ok (.iload 4, 2) := by decide +kernel
theorem dL_isLight_295 : decode cL_isLight 295 = .ok (.iconst 0, 1) := by decide +kernel
theorem dL_isLight_296 : decode cL_isLight 296 = .ok (.invokevirtual 25, 3) := by decide +kernel
theorem dL_isLight_299 : decode cL_isLight 299 = .ok (.bipush (-4), 2) := by decide +kernel
theorem dL_isLight_301 : decode cL_isLight 301 = .ok (.if_icmp .eq 103, 3) := by decide +kernel
theorem dL_isLight_304 : decode cL_isLight 304 = .ok (.aload_n 0, 1) := by decide +kernel
theorem dL_isLight_305 : decode cL_isLight 305 = .ok (.iload 4, 2) := by decide +kernel
theorem dL_isLight_307 : decode cL_isLight 307 = .ok (.iconst 0, 1) := by decide +kernel
theorem dL_isLight_308 : decode cL_isLight 308 = .ok (.invokevirtual 25, 3) := by decide +kernel
theorem dL_isLight_311 : decode cL_isLight 311 = .ok (.aload_n 0, 1) := by decide +kernel
theorem dL_isLight_312 : decode cL_isLight 312 = .ok (.iconst 5, 1) := by decide +kernel
theorem dL_isLight_313 : decode cL_isLight 313 = .ok (.invokevirtual 29, 3) := by decide +kernel
theorem dL_isLight_316 : decode cL_isLight 316 = .ok (.if_icmp .ne 92, 3) := by decide +kernel
theorem dL_isLight_319 : decode cL_isLight 319 = .ok (.aload_n 0, 1) := by decide +kernel
theorem dL_isLight_320 : decode cL_isLight 320 = .ok (.iload 4, 2) := by decide +kernel
theorem dL_isLight_322 : decode cL_isLight 322 = .ok (.iconst 3, 1) := by decide +kernel
theorem dL_isLight_323 : decode cL_isLight 323 = .ok (.invokevirtual 25, 3) := by decide +kernel
theorem dL_isLight_326 : decode cL_isLight 326 = .ok (.aload_n 0, 1) := by decide +kernel
theorem dL_isLight_327 : decode cL_isLight 327 = .ok (.iload 4, 2) := by decide +kernel
theorem dL_isLight_329 : decode cL_isLight 329 = .ok (.iconst 2, 1) := by decide +kernel
theorem dL_isLight_330 : decode cL_isLight 330 = .ok (.invokevirtual 25, 3) := by decide +kernel
theorem dL_isLight_333 : decode cL_isLight 333 = .ok (.if_icmp .gt 75, 3) := by decide +kernel
theorem dL_isLight_336 : decode cL_isLight 336 = .ok (.aload_n 0, 1) := by decide +kernel
theorem dL_isLight_337 : decode cL_isLight 337 = .ok (.iload 4, 2) := by decide +kernel
theorem dL_isLight_339 : decode cL_isLight 339 = .ok (.iconst 4, 1) := by decide +kernel
theorem dL_isLight_340 : decode cL_isLight 340 = .ok (.invokevirtual 25, 3) := by decide +kernel
theorem dL_isLight_343 : decode cL_isLight 343 = .ok (.iconst 2, 1) := by decide +kernel
theorem dL_isLight_344 : decode cL_isLight 344 = .ok (.imul, 1) := by decide +kernel
theorem dL_isLight_345 : decode cL_isLight 345 = .ok (.aload_n 0, 1) := by decide +kernel
theorem dL_isLight_346 : decode cL_isLight 346 = .ok (.iload 4, 2) := by decide +kernel
theorem dL_isLight_348 : decode cL_isLight 348 = .ok (.iconst 1, 1) := by decide +kernel
theorem dL_isLight_349 : decode cL_isLight 349 = .ok (.invokevirtual 25, 3) := by decide +kernel
theorem dL_isLight_352 : decode cL_isLight 352 = .ok (.if_icmp .lt 56, 3) := by decide +kernel
theorem dL_isLight_355 : decode cL_isLight 355 = .ok (.aload_n 0, 1) := by decide +kernel
theorem dL_isLight_356 : decode cL_isLight 356 = .ok (.iload 4, 2) := by decide +kernel
theorem dL_isLight_358 : decode cL_isLight 358 = .ok (.iconst 4, 1) := by decide +kernel
theorem dL_isLight_359 : decode cL_isLight 359 = .ok (.invokevirtual 25, 3) := by decide +kernel
theorem dL_isLight_362 : decode cL_isLight 362 = .ok (.aload_n 0, 1) := by decide +kernel
theorem dL_isLight_363 : decode cL_isLight 363 = .ok (.iload 4, 2) := by decide +kernel
theorem dL_isLight_365 : decode cL_isLight 365 = .ok (.iconst 1, 1) := by decide +kernel
theorem dL_isLight_366 : decode cL_isLight 366 = .ok (.invokevirtual 25, 3) := by decide +kernel
theorem dL_isLight_369 : decode cL_isLight 369 = .ok (.if_icmp .gt 39, 3) := by decide +kernel
theorem dL_isLight_372 : decode cL_isLight 372 = .ok (.aload_n 0, 1) := by decide +kernel
theorem dL_isLight_373 : decode cL_isLight 373 = .ok (.iload 4, 2) := by decide +kernel
theorem dL_isLight_375 : decode cL_isLight 375 = .ok (.iconst 5, 1) := by decide +kernel
theorem dL_isLight_376 : decode cL_isLight 376 = .ok (.invokevirtual 25, 3) := by decide +kernel
theorem dL_isLight_379 : decode cL_isLight 379 = .ok (.aload_n 0, 1) := by decide +kernel
theorem dL_isLight_380 : decode cL_isLight 380 = .ok (.iload 4, 2) := by decide +kernel
theorem dL_isLight_382 : decode cL_isLight 382 = .ok (.iconst 3, 1) := by decide +kernel
theorem dL_isLight_383 : decode cL_isLight 383 = .ok (.invokevirtual 25, 3) := by decide +kernel
theorem dL_isLight_386 : decode cL_isLight 386 = .ok (.aload_n 0, 1) := by decide +kernel
theorem dL_isLight_387 : decode cL_isLight 387 = .ok (.iload 4, 2) := by decide +kernel
theorem dL_isLight_389 : decode cL_isLight 389 = .ok (.iconst 2, 1) := by decide +kernel
theorem dL_isLight_390 : decode cL_isLight 390 = .ok (.invokevirtual 25, 3) := by decide +kernel
theorem dL_isLight_393 : decode cL_isLight 393 = .ok (.if_icmp .lt 7, 3) := by decide +kernel
theorem dL_isLight_396 : decode cL_isLight 396 = .ok (.iconst 1, 1) := by decide +kernel
theorem dL_isLight_397 : decode cL_isLight 397 = .ok (.goto 4, 3) := by decide +kernel
theorem dL_isLight_400 : decode cL_isLight 400 = .ok (.iconst 0, 1) := by decide +kernel
theorem dL_isLight_401 : decode cL_isLight 401 = .ok (.if_icmp .ne 7, 3) := by decide +kernel
theorem dL_isLight_404 : decode cL_isLight 404 = .ok (.iconst 1, 1) := by decide +kernel
theorem dL_isLight_405 : decode cL_isLight 405 = .ok (.goto 4, 3) := by decide +kernel
theorem dL_isLight_408 : decode cL_isLight 408 = .ok (.iconst 0, 1) := by decide +kernel
theorem dL_isLight_409 : decode cL_isLight 409 = .ok (.istore_n 3, 1) := by decide +kernel
theorem dL_isLight_410 : decode cL_isLight 410 = .ok (.iinc 4 1, 3) := by decide +kernel
theorem dL_isLight_413 : decode cL_isLight 413 = .ok (.goto (-132), 3) := by decide +kernel
theorem dL_isLight_416 : decode cL_isLight 416 = .ok (.iload_n 3, 1) := by decide +kernel
theorem dL_isLight_417 : decode cL_isLight 417 = .ok (.ifCond .eq 41, 3) := by decide +kernel
theorem dL_isLight_420 : decode cL_isLight 420 = .ok (.aload_n 0, 1) := by decide +kernel
theorem dL_isLight_421 : decode cL_isLight 421 = .ok (.iconst 0, 1) := by decide +kernel
theorem dL_isLight_422 : decode cL_isLight 422 = .ok (.invokevirtual 42, 3) := by decide +kernel
theorem dL_isLight_425 : decode cL_isLight 425 = .ok (.ifCond .ne 33, 3) := by decide +kernel
theorem dL_isLight_428 : decode cL_isLight 428 = .ok (.aload_n 0, 1) := by decide +kernel
theorem dL_isLight_429 : decode cL_isLight 429 = .ok (.iconst 2, 1) := by decide +kernel
theorem dL_isLight_430 : decode cL_isLight 430 = .ok (.invokevirtual 42, 3) := by decide +kernel
theorem dL_isLight_433 : decode cL_isLight 433 = .ok (.aload_n 0, 1) := by decide +kernel
theorem dL_isLight_434 : decode cL_isLight 434 = .ok (.iconst 3, 1) := by decide +kernel
theorem dL_isLight_435 : decode cL_isLight 435 = .ok (.invokevirtual 42, 3) := by decide +kernel
theorem dL_isLight_438 : decode cL_isLight 438 = .ok (.if_icmp .gt 20, 3) := by decide +kernel
theorem dL_isLight_441 : decode cL_isLight 441 = .ok (.aload_n 0, 1) := by decide +kernel
theorem dL_isLight_442 : decode cL_isLight 442 = .ok (.iconst 3, 1) := by decide +kernel
theorem dL_isLight_443 : decode cL_isLight 443 = .ok (.invokevirtual 42, 3) := by decide +kernel
theorem dL_isLight_446 : decode cL_isLight 446 = .ok (.aload_n 0, 1) := by decide +kernel
theorem dL_isLight_447 : decode cL_isLight 447 = .ok (.iconst 1, 1) := by decide +kernel
theorem dL_isLight_448 : decode cL_isLight 448 = .ok (.invokevirtual 42, 3) := by decide +kernel
theorem dL_isLight_451 : decode cL_isLight 451 = .ok (.if_icmp .gt 7, 3) := by decide +kernel
theorem dL_isLight_454 : decode cL_isLight 454 = .ok (.iconst 1, 1) := by decide +kernel
theorem dL_isLight_455 : decode cL_isLight 455 = .ok (.goto 4, 3) := by decide +kernel
theorem dL_isLight_458 : decode cL_isLight 458 = .ok (.iconst 0, 1) := by decide +kernel
theorem dL_isLight_459 : decode cL_isLight 459 = .ok (.ireturn, 1) := by decide +kernel
set_option maxRecDepth 20000 in
theorem ggL_areDirections_X9_direction : GoodIn wsL_areDirections wsX9_direction := goodIn_r _ [5, 6, 7, 4, 8, 9, 10, 11, 12, 13, 14, 15, 16, 17, 18, 19, 20, 21, 22] (by decide +kernel) (by decide +kernel)
set_option maxRecDepth 20000 in
theorem gL_areDirections_X9_direction : GoodIn wsL_areDirections (wsV RL 62 RX9 yX9_direction wsX9_direction) := goodIn_app (goodIn_of _ (by decide +kernel)) ggL_areDirections_X9_direction
set_option maxRecDepth 20000 in
theorem ggL_areDirections_X9_again : GoodIn wsL_areDirections wsX9_again := goodIn_r _ [26, 6, 7, 4, 8, 9, 10, 11, 27, 28, 14, 29, 30, 31, 32, 16, 17, 18, 19, 20, 21, 22] (by decide +kernel) (by decide +kernel)
set_option maxRecDepth 20000 in
theorem gL_areDirections_X9_again : GoodIn wsL_areDirections (wsV RL 65 RX9 yX9_again wsX9_again) := goodIn_app (goodIn_of _ (by decide +kernel)) ggL_areDirections_X9_again
set_option maxRecDepth 20000 in
theorem ggL_areDirections_X9_sees : GoodIn wsL_areDirections wsX9_sees := goodIn_r _ [36, 37, 38, 6, 7, 4, 8, 9, 10, 11, 39, 40, 41, 42, 43, 44, 45, 46, 47, 48, 49, 50, 51, 52, 53, 54, 55, 56, 57, 58, 59, 60, 61, 62, 63, 64, 65, 66, 67, 68, 69, 70, 71, 72, 73, 74, 75, 76, 77, 78, 79, 80, 81, 82, 83, 84, 85, 86, 87, 88, 89, 90, 91, 92, 93, 94, 95, 96, 97, 98, 99, 100, 101, 102, 103, 104, 105, 106, 107, 108, 109, 110, 111, 112, 113, 114, 115, 116, 117, 118, 119, 120, 121, 122, 123, 124, 125, 126, 127, 128, 129, 130, 131, 28, 14, 29, 30, 31, 32, 16, 17, 18, 19, 20, 21, 22, 132, 133, 134, 135, 136, 137, 138, 139, 140, 141, 142, 143, 144, 145, 146, 147, 148, 149, 150, 151, 152, 158, 159, 160, 161, 162, 163, 164, 165, 166, 167, 168, 169, 170, 171, 172, 173, 174, 175, 176, 177, 178, 179, 180, 181, 182, 183, 184, 185, 186, 187, 188, 189, 190, 191] (by decide +kernel) (by decide +kernel)
set_option maxRecDepth 20000 in
theorem gL_areDirections_X9_sees : GoodIn wsL_areDirections (wsV RL 89 RX9 yX9_sees wsX9_sees) := goodIn_app (goodIn_of _ (by decide +kernel)) ggL_areDirections_X9_sees
set_option maxRecDepth 20000 in
theorem ggL_areDirections_X9_color : GoodIn wsL_areDirections wsX9_color := goodIn_r _ [156, 38, 9, 10, 4, 11, 157, 133, 134, 59, 135, 61, 158, 159, 160, 161, 162, 163, 164, 165, 166, 167, 168, 169, 170, 171, 172] (by decide +kernel) (by decide +kernel)
set_option maxRecDepth 20000 in
theorem gL_areDirections_X9_color : GoodIn wsL_areDirections (wsV RL 13 RX9 yX9_color wsX9_color) := goodIn_app (goodIn_of _ (by decide +kernel)) ggL_areDirections_X9_color
theorem dL_areDirections_0 : decode cL_areDirections 0 = .ok (.aload_n 0, 1) := by decide +kernel
theorem dL_areDirections_1 : decode cL_areDirections 1 = .ok (.iload_n 1, 1) := by decide +kernel
theorem dL_areDirections_2 : decode cL_areDirections 2 = .ok (.iload_n 2, 1) := by decide +kernel
theorem dL_areDirections_3 : decode cL_areDirections 3 = .ok (.invokevirtual 62, 3) := by decide +kernel
theorem dL_areDirections_6 : decode cL_areDirections 6 = .ok (.istore_n 3, 1) := by decide +kernel
theorem dL_areDirections_7 : decode cL_areDirections 7 = .ok (.iload_n 3, 1) := by decide +kernel
theorem dL_areDirections_8 : decode cL_areDirections 8 = .ok (.aload_n 0, 1) := by decide +kernel
theorem dL_areDirections_9 : decode cL_areDirections 9 = .ok (.iload_n 1, 1) := by decide +kernel
theorem dL_areDirections_10 : decode cL_areDirections 10 = .ok (.iload_n 2, 1) := by decide +kernel
theorem dL_areDirections_11 : decode cL_areDirections 11 = .ok (.invokevirtual 65, 3) := by decide +kernel
theorem dL_areDirections_14 : decode cL_areDirections 14 = .ok (.if_icmp .ne 64, 3) := by decide +kernel
theorem dL_areDirections_17 : decode cL_areDirections 17 = .ok (.aload_n 0, 1) := by decide +kernel
theorem dL_areDirections_18 : decode cL_areDirections 18 = .ok (.iload_n 1, 1) := by decide +kernel
theorem dL_areDirections_19 : decode cL_areDirections 19 = .ok (.ineg, 1) := by decide +kernel
theorem dL_areDirections_20 : decode cL_areDirections 20 = .ok (.iload_n 2, 1) := by decide +kernel
theorem dL_areDirections_21 : decode cL_areDirections 21 = .ok (.ineg, 1) := by decide +kernel
theorem dL_areDirections_22 : decode cL_areDirections 22 = .ok (.invokevirtual 62, 3) := by decide +kernel
theorem dL_areDirections_25 : decode cL_areDirections 25 = .ok (.iload_n 3, 1) := by decide +kernel
theorem dL_areDirections_26 : decode cL_areDirections 26 = .ok (.bipush (-4), 2) := by decide +kernel
theorem dL_areDirections_28 : decode cL_areDirections 28 = .ok (.if_icmp .ne 8, 3) := by decide +kernel
theorem dL_areDirections_31 : decode cL_areDirections 31 = .ok (.bipush (-4), 2) := by decide +kernel
theorem dL_areDirections_33 : decode cL_areDirections 33 = .ok (.goto 10, 3) := by decide +kernel
theorem dL_areDirections_36 : decode cL_areDirections 36 = .ok (.iload_n 3, 1) := by decide +kernel
theorem dL_areDirections_37 : decode cL_areDirections 37 = .ok (.bipush 32, 2) := by decide +kernel
theorem dL_areDirections_39 : decode cL_areDirections 39 = .ok (.iadd, 1) := by decide +kernel
theorem dL_areDirections_40 : decode cL_areDirections 40 = .ok (.bipush 64, 2) := by decide +kernel
theorem dL_areDirections_42 : decode cL_areDirections 42 = .ok (.irem, 1) := by decide +kernel
theorem dL_areDirections_43 : decode cL_areDirections 43 = .ok (.if_icmp .ne 35, 3) := by decide +kernel
theorem dL_areDirections_46 : decode cL_areDirections 46 = .ok (.aload_n 0, 1) := by decide +kernel
theorem dL_areDirections_47 : decode cL_areDirections 47 = .ok (.iload_n 2, 1) := by decide +kernel
theorem dL_areDirections_48 : decode cL_areDirections 48 = .ok (.iload_n 1, 1) := by decide +kernel
theorem dL_areDirections_49 : decode cL_areDirections 49 = .ok (.ineg, 1) := by decide +kernel
theorem dL_areDirections_50 : decode cL_areDirections 50 = .ok (.invokevirtual 62, 3) := by decide +kernel
theorem dL_areDirections_53 : decode cL_areDirections 53 = .ok (.iload_n 3, 1) := by decide +kernel
theorem dL_areDirections_54 : decode cL_areDirections 54 = .ok (.bipush (-4), 2) := by decide +kernel
theorem dL_areDirections_56 : decode cL_areDirections 56 = .ok (.if_icmp .ne 8, 3) := by decide +kernel
theorem dL_areDirections_59 : decode cL_areDirections 59 = .ok (.bipush (-4), 2) := by decide +kernel
theorem dL_areDirections_61 : decode cL_areDirections 61 = .ok (.goto 10, 3) := by decide +kernel
theorem dL_areDirections_64 : decode cL_areDirections 64 = .ok (.iload_n 3, 1) := by decide +kernel
theorem dL_areDirections_65 : decode cL_areDirections 65 = .ok (.bipush 16, 2) := by decide +kernel
theorem dL_areDirections_67 : decode cL_areDirections 67 = .ok (.iadd, 1) := by decide +kernel
theorem dL_areDirections_68 : decode cL_areDirections 68 = .ok (.bipush 64, 2) := by decide +kernel
theorem dL_areDirections_70 : decode cL_areDirections 70 = .ok (.irem, 1) := by decide +kernel
theorem dL_areDirections_71 : decode cL_areDirections 71 = .ok (.if_icmp .ne 7, 3) := by decide +kernel
theorem dL_areDirections_74 : decode cL_areDirections 74 = .ok (.iconst 1, 1) := by decide +kernel
theorem dL_areDirections_75 : decode cL_areDirections 75 = .ok (.goto 4, 3) := by decide +kernel
theorem dL_areDirections_78 : decode cL_areDirections 78 = .ok (.iconst 0, 1) := by decide +kernel
theorem dL_areDirections_79 : decode cL_areDirections 79 = .ok (.istore 4, 2) := by decide +kernel
theorem dL_areDirections_81 : decode cL_areDirections 81 = .ok (.iload 4, 2) := by decide +kernel
theorem dL_areDirections_83 : decode cL_areDirections 83 = .ok (.ifCond .eq 36, 3) := by decide +kernel
theorem dL_areDirections_86 : decode cL_areDirections 86 = .ok (.iload_n 3, 1) := by decide +kernel
theorem dL_areDirections_87 : decode cL_areDirections 87 = .ok (.bipush (-4), 2) := by decide +kernel
theorem dL_areDirections_89 : decode cL_areDirections 89 = .ok (.if_icmp .eq 26, 3) := by decide +kernel
theorem dL_areDirections_92 : decode cL_areDirections 92 = .ok (.aload_n 0, 1) := by decide +kernel
theorem dL_areDirections_93 : decode cL_areDirections 93 = .ok (.iload_n 1, 1) := by decide +kernel
theorem dL_areDirections_94 : decode cL_areDirections 94 = .ok (.iload_n 2, 1) := by decide +kernel
theorem dL_areDirections_95 : decode cL_areDirections 95 = .ok (.invokevirtual 89, 3) := by decide +kernel
theorem dL_areDirections_98 : decode cL_areDirections 98 = .ok (.ifCond .eq 17, 3) := by decide +kernel
theorem dL_areDirections_101 : decode cL_areDirections 101 = .ok (.aload_n 0, 1) := by decide +kernel
theorem dL_areDirections_102 : decode cL_areDirections 102 = .ok (.iload_n 1, 1) := by decide +kernel
theorem dL_areDirections_103 : decode cL_areDirections 103 = .ok (.iload_n 2, 1) := by decide +kernel
theorem dL_areDirections_104 : decode cL_areDirections 104 = .ok (.invokevirtual 89, 3) := by decide +kernel
theorem dL_areDirections_107 : decode cL_areDirections 107 = .ok (.aload_n 0, 1) := by decide +kernel
theorem dL_areDirections_108 : decode cL_areDirections 108 = .ok (.iload_n 3, 1) := by decide +kernel
theorem dL_areDirections_109 : decode cL_areDirections 109 = .ok (.invokevirtual 13, 3) := by decide +kernel
theorem dL_areDirections_112 : decode cL_areDirections 112 = .ok (.if_icmp .ne 7, 3) := by decide +kernel
theorem dL_areDirections_115 : decode cL_areDirections 115 = .ok (.iconst 1, 1) := by decide +kernel
theorem dL_areDirections_116 : decode cL_areDirections 116 = .ok (.goto 4, 3) := by decide +kernel
theorem dL_areDirections_119 : decode cL_areDirections 119 = .ok (.iconst 0, 1) := by decide +kernel
theorem dL_areDirections_120 : decode cL_areDirections 120 = .ok (.ireturn, 1) := by decide +kernel
set_option maxRecDepth 20000 in
theorem ggL_isAhead_L_print : GoodIn wsL_isAhead wsL_print := goodIn_r _ [4, 5, 6, 7, 8, 9, 10, 11, 12, 13, 14, 15, 16, 17, 18, 19, 20, 21, 22, 23, 24, 25, 26, 27, 28, 29, 30, 31, 32, 33, 34, 35, 36, 37, 38, 39, 40, 41, 42, 43, 44, 45, 46, 47, 48, 49, 50, 51, 52, 53, 54, 55, 56, 57, 58, 59, 60, 61, 62, 63, 64, 65, 66, 67, 68, 69, 70, 71, 72, 73, 74, 75, 76, 77, 78, 79, 80, 81, 82, 83, 84, 85, 86, 87, 88, 89, 90, 91, 92, 93, 94, 95, 96, 97, 98, 99, 100, 101, 102, 103, 104, 105, 106, 107, 108, 109, 110, 111, 112, 113, 114, 115, 116, 117, 118, 119, 120, 121, 122, 123, 124, 125, 126, 127, 128, 129, 130, 131, 132, 133, 134, 135, 136, 137, 138, 139, 140, 141, 142, 143, 144, 145, 146, 147, 148, 149, 150, 151, 152, 153, 154, 155, 156, 157, 158, 159, 160, 161, 162, 163, 164, 165, 166, 167, 168, 169, 170, 171, 172, 173, 174, 175, 176, 177, 178, 179, 180, 181, 182, 183, 184, 185, 186, 187, 188, 189, 190, 191, 192, 193, 194, 195, 196, 197, 198, 199, 200, 201, 202, 203, 204, 205, 206, 207, 208, 209, 210, 211, 212, 213, 214, 215, 216, 217, 218, 219, 220, 221, 222, 223, 224, 225, 226, 227, 228, 229, 230, 231, 232, 233, 234, 235, 236, 237, 238, 239, 240, 241, 264, 265, 266, 267, 268, 269, 270, 271, 272, 273, 274, 275, 276, 277, 278, 279, 280, 281, 282, 283, 284, 285, 286, 287, 288, 289, 290, 291, 292, 293, 294, 295, 296, 297, 298, 299, 300, 301, 302, 303, 304, 305, 306, 307] (by decide +kernel) (by decide +kernel)
set_option maxRecDepth 20000 in
theorem gL_isAhead_L_print : GoodIn wsL_isAhead (va_wsS RL 49 yL_print wsL_print) := goodIn_app (goodIn_of _ (by decide +kernel)) ggL_isAhead_L_print
set_option maxRecDepth 20000 in
theorem ggL_isAhead_X9_untilIdle : GoodIn wsL_isAhead wsX9_untilIdle := goodIn_r _ [189, 190, 12, 191, 192, 193, 60, 194, 195, 196, 175, 197, 62, 198, 199, 200, 201, 202, 177, 203, 204, 205, 206, 19, 207, 21, 208, 209, 210, 211, 29, 212, 50, 213, 51, 31, 36, 37, 214, 215, 216, 70, 217, 80, 218, 72, 89, 219, 220, 221, 222, 223, 224, 225, 127, 226, 138, 227, 139, 140, 141, 150, 228, 129, 229, 230, 231, 232, 233, 234, 235, 236, 123, 95, 96, 97, 73, 74, 75, 237, 47, 48, 49, 52, 33, 34, 35, 238, 239, 240, 241, 264, 265, 266, 267, 268, 269, 270, 271, 272, 273, 274, 275, 276, 277, 278, 279, 280, 281, 282, 283, 291, 292, 293, 294, 295, 296, 297, 284, 285, 286, 287, 288, 289, 290] (by decide +kernel) (by decide +kernel)
set_option maxRecDepth 20000 in
theorem gL_isAhead_X9_untilIdle : GoodIn wsL_isAhead (wsV RL 45 RX9 yX9_untilIdle wsX9_untilIdle) := goodIn_app (goodIn_of _ (by decide +kernel)) ggL_isAhead_X9_untilIdle
set_option maxRecDepth 20000 in
theorem ggL_isAhead_X9_account : GoodIn wsL_isAhead wsX9_account := goodIn_r _ [56, 12, 57, 58, 59, 60, 61, 62, 264, 265, 266, 267, 268, 269, 270, 271, 272, 273, 274, 275, 276, 277, 284, 285, 286, 287, 288, 289, 290] (by decide +kernel) (by decide +kernel)
set_option maxRecDepth 20000 in
theorem gL_isAhead_X9_account : GoodIn wsL_isAhead (wsV RL 22 RX9 yX9_account wsX9_account) := goodIn_app (goodIn_of _ (by decide +kernel)) ggL_isAhead_X9_account
set_option maxRecDepth 20000 in
theorem ggL_isAhead_X9_advance : GoodIn wsL_isAhead wsX9_advance := goodIn_r _ [245, 246, 12, 102, 13, 14, 10, 15, 247, 248, 249, 250, 251, 252, 253, 254, 255, 192, 193, 60, 194, 195, 196, 175, 197, 62, 198, 199, 200, 201, 202, 177, 203, 204, 205, 206, 19, 207, 21, 208, 209, 210, 211, 29, 212, 50, 213, 51, 31, 36, 37, 214, 215, 216, 70, 217, 80, 218, 72, 89, 219, 220, 221, 222, 223, 224, 225, 127, 226, 138, 227, 139, 140, 141, 150, 228, 129, 229, 230, 231, 232, 233, 234, 235, 236, 123, 95, 96, 97, 73, 74, 75, 237, 47, 48, 49, 52, 33, 34, 35, 238, 239, 240, 241, 264, 265, 266, 267, 268, 269, 270, 271, 272, 273, 274, 275, 276, 277, 298, 299, 300, 278, 279, 280, 281, 282, 283, 291, 292, 293, 294, 295, 296, 297, 284, 285, 286, 287, 288, 289, 290] (by decide +kernel) (by decide +kernel)
set_option maxRecDepth 20000 in
theorem gL_isAhead_X9_advance : GoodIn wsL_isAhead (wsV RL 86 RX9 yX9_advance wsX9_advance) := goodIn_app (goodIn_of _ (by decide +kernel)) ggL_isAhead_X9_advance
set_option maxRecDepth 20000 in
theorem ggL_isAhead_X9_undo : GoodIn wsL_isAhead wsX9_undo := goodIn_r _ [259, 102, 12, 260, 261, 262, 250, 263, 252, 253, 254, 255, 192, 193, 60, 194, 195, 196, 175, 197, 62, 198, 199, 200, 201, 202, 177, 203, 204, 205, 206, 19, 207, 21, 208, 209, 210, 211, 29, 212, 50, 213, 51, 31, 36, 37, 214, 215, 216, 70, 217, 80, 218, 72, 89, 219, 220, 221, 222, 223, 224, 225, 127, 226, 138, 227, 139, 140, 141, 150, 228, 129, 264, 265, 266, 267, 268, 269, 298, 299, 300, 270, 271, 272, 273, 274, 275, 276, 277, 278, 279, 280, 281, 282, 283, 291, 292, 293, 294, 295, 296, 297, 284, 285, 286, 287, 288, 289, 290] (by decide +kernel) (by decide +kernel)
set_option maxRecDepth 20000 in
theorem gL_isAhead_X9_undo : GoodIn wsL_isAhead (wsV RL 111 RX9 yX9_undo wsX9_undo) := goodIn_app (goodIn_of _ (by decide +kernel)) ggL_isAhead_X9_undo
theorem dL_isAhead_0 : decode cL_isAhead 0 = .ok (.aload_n 0, 1) := by decide +kernel
theorem dL_isAhead_1 : decode cL_isAhead 1 = .ok (.invokestatic 49, 3) := by decide +kernel
theorem dL_isAhead_4 : decode cL_isAhead 4 = .ok (.lstore_n 1, 1) := by decide +kernel
theorem dL_isAhead_5 : decode cL_isAhead 5 = .ok (.aload_n 0, 1) := by decide +kernel
theorem dL_isAhead_6 : decode cL_isAhead 6 = .ok (.invokevirtual 45, 3) := by decide +kernel
theorem dL_isAhead_9 : decode cL_isAhead 9 = .ok (.istore_n 3, 1) := by decide +kernel
theorem dL_isAhead_10 : decode cL_isAhead 10 = .ok (.aload_n 0, 1) := by decide +kernel
theorem dL_isAhead_11 : decode cL_isAhead 11 = .ok (.iconst 4, 1) := by decide +kernel
theorem dL_isAhead_12 : decode cL_isAhead 12 = .ok (.invokevirtual 22, 3) := by decide +kernel
theorem dL_isAhead_15 : decode cL_isAhead 15 = .ok (.istore 4, 2) := by decide +kernel
theorem dL_isAhead_17 : decode cL_isAhead 17 = .ok (.iconst 1, 1) := by decide +kernel
theorem dL_isAhead_18 : decode cL_isAhead 18 = .ok (.istore 5, 2) := by decide +kernel
theorem dL_isAhead_20 : decode cL_isAhead 20 = .ok (.iload_n 3, 1) := by decide +kernel
theorem dL_isAhead_21 : decode cL_isAhead 21 = .ok (.bipush (-4), 2) := by decide +kernel
theorem dL_isAhead_23 : decode cL_isAhead 23 = .ok (.if_icmp .eq 10, 3) := by decide +kernel
theorem dL_isAhead_26 : decode cL_isAhead 26 = .ok (.iload_n 3, 1) := by decide +kernel
theorem dL_isAhead_27 : decode cL_isAhead 27 = .ok (.sipush 1999, 3) := by decide +kernel
theorem dL_isAhead_30 : decode cL_isAhead 30 = .ok (.if_icmp .le 9, 3) := by decide +kernel
theorem dL_isAhead_33 : decode cL_isAhead 33 = .ok (.sipush 1999, 3) := by decide +kernel
theorem dL_isAhead_36 : decode cL_isAhead 36 = .ok (.goto 4, 3) := by decide +kernel
theorem dL_isAhead_39 : decode cL_isAhead 39 = .ok (.iload_n 3, 1) := by decide +kernel
theorem dL_isAhead_40 : decode cL_isAhead 40 = .ok (.istore 6, 2) := by decide +kernel
theorem dL_isAhead_42 : decode cL_isAhead 42 = .ok (.iload 6, 2) := by decide +kernel
theorem dL_isAhead_44 : decode cL_isAhead 44 = .ok (.ifCond .le 62, 3) := by decide +kernel
theorem dL_isAhead_47 : decode cL_isAhead 47 = .ok (.aload_n 0, 1) := by decide +kernel
theorem dL_isAhead_48 : decode cL_isAhead 48 = .ok (.iconst 1, 1) := by decide +kernel
theorem dL_isAhead_49 : decode cL_isAhead 49 = .ok (.invokevirtual 22, 3) := by decide +kernel
theorem dL_isAhead_52 : decode cL_isAhead 52 = .ok (.istore 7, 2) := by decide +kernel
theorem dL_isAhead_54 : decode cL_isAhead 54 = .ok (.aload_n 0, 1) := by decide +kernel
theorem dL_isAhead_55 : decode cL_isAhead 55 = .ok (.iload 6, 2) := by decide +kernel
theorem dL_isAhead_57 : decode cL_isAhead 57 = .ok (.invokevirtual 86, 3) := by decide +kernel
theorem dL_isAhead_60 : decode cL_isAhead 60 = .ok (.istore 8, 2) := by decide +kernel
theorem dL_isAhead_62 : decode cL_isAhead 62 = .ok (.iload 8, 2) := by decide +kernel
theorem dL_isAhead_64 : decode cL_isAhead 64 = .ok (.bipush (-3), 2) := by decide +kernel
theorem dL_isAhead_66 : decode cL_isAhead 66 = .ok (.if_icmp .eq 33, 3) := by decide +kernel
theorem dL_isAhead_69 : decode cL_isAhead 69 = .ok (.aload_n 0, 1) := by decide +kernel
theorem dL_isAhead_70 : decode cL_isAhead 70 = .ok (.iconst 4, 1) := by decide +kernel
theorem dL_isAhead_71 : decode cL_isAhead 71 = .ok (.invokevirtual 22, 3) := by decide +kernel
theorem dL_isAhead_74 : decode cL_isAhead 74 = .ok (.iload 4, 2) := by decide +kernel
theorem dL_isAhead_76 : decode cL_isAhead 76 = .ok (.if_icmp .ne 27, 3) := by decide +kernel
theorem dL_isAhead_79 : decode cL_isAhead 79 = .ok (.aload_n 0, 1) := by decide +kernel
theorem dL_isAhead_80 : decode cL_isAhead 80 = .ok (.iconst 1, 1) := by decide +kernel
theorem dL_isAhead_81 : decode cL_isAhead 81 = .ok (.invokevirtual 22, 3) := by decide +kernel
theorem dL_isAhead_84 : decode cL_isAhead 84 = .ok (.iload 7, 2) := by decide +kernel
theorem dL_isAhead_86 : decode cL_isAhead 86 = .ok (.iload 8, 2) := by decide +kernel
theorem dL_isAhead_88 : decode cL_isAhead 88 = .ok (.iadd, 1) := by decide +kernel
theorem dL_isAhead_89 : decode cL_isAhead 89 = .ok (.if_icmp .ne 14, 3) := by decide +kernel
theorem dL_isAhead_92 : decode cL_isAhead 92 = .ok (.aload_n 0, 1) := by decide +kernel
theorem dL_isAhead_93 : decode cL_isAhead 93 = .ok (.invokevirtual 111, 3) := by decide +kernel
theorem dL_isAhead_96 : decode cL_isAhead 96 = .ok (.ifCond .lt 7, 3) := by decide +kernel
theorem dL_isAhead_99 : decode cL_isAhead 99 = .ok (.iconst 1, 1) := by decide +kernel
theorem dL_isAhead_100 : decode cL_isAhead 100 = .ok (.goto 4, 3) := by decide +kernel
theorem dL_isAhead_103 : decode cL_isAhead 103 = .ok (.iconst 0, 1) := by decide +kernel
theorem dL_isAhead_104 : decode cL_isAhead 104 = .ok (.istore 5, 2) := by decide +kernel
theorem dL_isAhead_106 : decode cL_isAhead 106 = .ok (.iload_n 3, 1) := by decide +kernel
theorem dL_isAhead_107 : decode cL_isAhead 107 = .ok (.ifCond .lt 57, 3) := by decide +kernel
theorem dL_isAhead_110 : decode cL_isAhead 110 = .ok (.iload_n 3, 1) := by decide +kernel
theorem dL_isAhead_111 : decode cL_isAhead 111 = .ok (.sipush 1999, 3) := by decide +kernel
theorem dL_isAhead_114 : decode cL_isAhead 114 = .ok (.if_icmp .ge 50, 3) := by decide +kernel
theorem dL_isAhead_117 : decode cL_isAhead 117 = .ok (.iload 5, 2) := by decide +kernel
theorem dL_isAhead_119 : decode cL_isAhead 119 = .ok (.ifCond .eq 45, 3) := by decide +kernel
theorem dL_isAhead_122 : decode cL_isAhead 122 = .ok (.aload_n 0, 1) := by decide +kernel
theorem dL_isAhead_123 : decode cL_isAhead 123 = .ok (.iload_n 3, 1) := by decide +kernel
theorem dL_isAhead_124 : decode cL_isAhead 124 = .ok (.iconst 1, 1) := by decide +kernel
theorem dL_isAhead_125 : decode cL_isAhead 125 = .ok (.iadd, 1) := by decide +kernel
theorem dL_isAhead_126 : decode cL_isAhead 126 = .ok (.invokevirtual 86, 3) := by decide +kernel
theorem dL_isAhead_129 : decode cL_isAhead 129 = .ok (.istore 7, 2) := by decide +kernel
theorem dL_isAhead_131 : decode cL_isAhead 131 = .ok (.iload 7, 2) := by decide +kernel
theorem dL_isAhead_133 : decode cL_isAhead 133 = .ok (.bipush (-3), 2) := by decide +kernel
theorem dL_isAhead_135 : decode cL_isAhead 135 = .ok (.if_icmp .eq 22, 3) := by decide +kernel
theorem dL_isAhead_138 : decode cL_isAhead 138 = .ok (.aload_n 0, 1) := by decide +kernel
theorem dL_isAhead_139 : decode cL_isAhead 139 = .ok (.iconst 4, 1) := by decide +kernel
theorem dL_isAhead_140 : decode cL_isAhead 140 = .ok (.invokevirtual 22, 3) := by decide +kernel
theorem dL_isAhead_143 : decode cL_isAhead 143 = .ok (.iload 4, 2) := by decide +kernel
theorem dL_isAhead_145 : decode cL_isAhead 145 = .ok (.iconst 1, 1) := by decide +kernel
theorem dL_isAhead_146 : decode cL_isAhead 146 = .ok (.iadd, 1) := by decide +kernel
theorem dL_isAhead_147 : decode cL_isAhead 147 = .ok (.if_icmp .ne 14, 3) := by decide +kernel
theorem dL_isAhead_150 : decode cL_isAhead 150 = .ok (.aload_n 0, 1) := by decide +kernel
theorem dL_isAhead_151 : decode cL_isAhead 151 = .ok (.invokevirtual 111, 3) := by decide +kernel
theorem dL_isAhead_154 : decode cL_isAhead 154 = .ok (.ifCond .lt 7, 3) := by decide +kernel
theorem dL_isAhead_157 : decode cL_isAhead 157 = .ok (.iconst 1, 1) := by decide +kernel
theorem dL_isAhead_158 : decode cL_isAhead 158 = .ok (.goto 4, 3) := by decide +kernel
theorem dL_isAhead_161 : decode cL_isAhead 161 = .ok (.iconst 0, 1) := by decide +kernel
theorem dL_isAhead_162 : decode cL_isAhead 162 = .ok (.istore 5, 2) := by decide +kernel
theorem dL_isAhead_164 : decode cL_isAhead 164 = .ok (.iload 5, 2) := by decide +kernel
theorem dL_isAhead_166 : decode cL_isAhead 166 = .ok (.ifCond .eq 16, 3) := by decide +kernel
theorem dL_isAhead_169 : decode cL_isAhead 169 = .ok (.aload_n 0, 1) := by decide +kernel
theorem dL_isAhead_170 : decode cL_isAhead 170 = .ok (.invokestatic 49, 3) := by decide +kernel
theorem dL_isAhead_173 : decode cL_isAhead 173 = .ok (.lload_n 1, 1) := by decide +kernel
theorem dL_isAhead_174 : decode cL_isAhead 174 = .ok (.lcmp, 1) := by decide +kernel
theorem dL_isAhead_175 : decode cL_isAhead 175 = .ok (.ifCond .ne 7, 3) := by decide +kernel
theorem dL_isAhead_178 : decode cL_isAhead 178 = .ok (.iconst 1, 1) := by decide +kernel
theorem dL_isAhead_179 : decode cL_isAhead 179 = .ok (.goto 4, 3) := by decide +kernel
theorem dL_isAhead_182 : decode cL_isAhead 182 = .ok (.iconst 0, 1) := by decide +kernel
theorem dL_isAhead_183 : decode cL_isAhead 183 = .ok (.ireturn, 1) := by decide +kernel
set_option maxRecDepth 20000 in
theorem ggL_isPassage_L_print : GoodIn wsL_isPassage wsL_print := goodIn_r _ [4, 5, 6, 7, 8, 9, 10, 11, 12, 13, 14, 15, 16, 17, 18, 19, 20, 21, 22, 23, 24, 25, 26, 27, 28, 29, 30, 31, 32, 33, 34, 35, 36, 37, 38, 39, 40, 41, 42, 43, 44, 45, 46, 47, 48, 49, 50, 51, 52, 53, 54, 55, 56, 57, 58, 59, 60, 61, 62, 63, 64, 65, 66, 67, 68, 69, 70, 71, 72, 73, 74, 75, 76, 77, 78, 79, 80, 81, 82, 83, 84, 85, 86, 87, 88, 89, 90, 91, 92, 93, 94, 95, 96, 97, 98, 99, 100, 101, 102, 103, 104, 105, 106, 107, 108, 109, 110, 111, 112, 113, 114, 115, 116, 117, 118, 119, 120, 121, 122, 123, 124, 125, 126, 127, 128, 129, 130, 131, 132, 133, 134, 135, 136, 137, 138, 139, 140, 141, 142, 143, 144, 145, 146, 147, 148, 149, 150, 151, 152, 153, 154, 155, 156, 157, 158, 159, 160, 161, 162, 163, 164, 165, 166, 167, 168, 169, 170, 171, 172, 173, 174, 175, 176, 177, 178, 179, 180, 181, 182, 183, 184, 185, 186, 187, 188, 189, 190, 191, 192, 193, 194, 195, 196, 197, 198, 199, 200, 201, 202, 203, 204, 205, 206, 207, 208, 209, 210, 211, 212, 213, 214, 215, 216, 217, 218, 219, 220, 221, 222, 223, 224, 225, 226, 227, 228, 229, 230, 231, 232, 233, 234, 235, 236, 237, 238, 239, 240, 241, 324, 325, 326, 327, 328, 329, 330, 331, 332, 333, 334, 335, 336, 337, 338, 339, 340, 341, 342, 343, 344, 345, 346, 347, 348, 349, 350, 351, 352, 353, 354, 355, 356, 357, 358, 359, 360, 361, 362, 363, 364, 365, 366, 367] (by decide +kernel) (by decide +kernel)
set_option maxRecDepth 20000 in
theorem gL_isPassage_L_print : GoodIn wsL_isPassage (va_wsS RL 49 yL_print wsL_print) := goodIn_app (goodIn_of _ (by decide +kernel)) ggL_isPassage_L_print
set_option maxRecDepth 20000 in
theorem ggL_isPassage_X9_account : GoodIn wsL_isPassage wsX9_account := goodIn_r _ [56, 12, 57, 58, 59, 60, 61, 62, 324, 325, 326, 327, 328, 329, 330, 331, 332, 333, 334, 335, 336, 337, 344, 345, 346, 347, 348, 349, 350] (by decide +kernel) (by decide +kernel)
set_option maxRecDepth 20000 in
theorem gL_isPassage_X9_account : GoodIn wsL_isPassage (wsV RL 22 RX9 yX9_account wsX9_account) := goodIn_app (goodIn_of _ (by decide +kernel)) ggL_isPassage_X9_account
set_option maxRecDepth 20000 in
theorem ggL_isPassage_X9_sees : GoodIn wsL_isPassage wsX9_sees := goodIn_r _ [245, 190, 12, 246, 247, 10, 248, 13, 14, 15, 191, 192, 193, 60, 194, 195, 196, 175, 197, 62, 198, 199, 200, 201, 202, 177, 203, 204, 205, 206, 19, 207, 21, 208, 209, 210, 211, 29, 212, 50, 213, 51, 31, 36, 37, 214, 215, 216, 70, 217, 80, 218, 72, 89, 219, 220, 221, 222, 223, 224, 225, 127, 226, 138, 227, 139, 140, 141, 150, 228, 129, 229, 230, 231, 232, 233, 234, 235, 236, 123, 95, 96, 97, 73, 74, 75, 237, 47, 48, 49, 52, 33, 34, 35, 238, 239, 240, 241, 249, 250, 251, 252, 253, 254, 255, 256, 257, 258, 259, 260, 261, 262, 263, 264, 265, 266, 267, 17, 18, 20, 268, 269, 270, 271, 272, 172, 173, 174, 176, 178, 179, 91, 92, 93, 180, 181, 182, 324, 325, 326, 327, 328, 329, 330, 331, 332, 333, 334, 335, 336, 337, 338, 339, 340, 341, 342, 343, 351, 352, 353, 354, 355, 356, 357, 344, 345, 346, 347, 348, 349, 350] (by decide +kernel) (by decide +kernel)
set_option maxRecDepth 20000 in
theorem gL_isPassage_X9_sees : GoodIn wsL_isPassage (wsV RL 89 RX9 yX9_sees wsX9_sees) := goodIn_app (goodIn_of _ (by decide +kernel)) ggL_isPassage_X9_sees
set_option maxRecDepth 20000 in
theorem ggL_isPassage_X9_pass : GoodIn wsL_isPassage wsX9_pass := goodIn_r _ [276, 277, 12, 102, 246, 247, 10, 248, 13, 14, 15, 278, 279, 280, 281, 282, 283, 284, 285, 286, 192, 193, 60, 194, 195, 196, 175, 197, 62, 198, 199, 200, 201, 202, 177, 203, 204, 205, 206, 19, 207, 21, 208, 209, 210, 211, 29, 212, 50, 213, 51, 31, 36, 37, 214, 215, 216, 70, 217, 80, 218, 72, 89, 219, 220, 221, 222, 223, 224, 225, 127, 226, 138, 227, 139, 140, 141, 150, 228, 129, 287, 288, 289, 290, 291, 292, 293, 294, 295, 296, 297, 298, 299, 230, 231, 232, 233, 234, 235, 236, 123, 95, 96, 97, 73, 74, 75, 237, 47, 48, 49, 52, 33, 34, 35, 238, 239, 240, 241, 300, 250, 251, 252, 253, 254, 255, 256, 257, 258, 259, 260, 261, 262, 263, 264, 265, 266, 267, 17, 18, 20, 268, 269, 270, 271, 272, 172, 173, 174, 176, 178, 179, 91, 92, 93, 180, 181, 182, 301, 302, 303, 304, 305, 306, 307, 308, 324, 325, 326, 327, 328, 329, 330, 331, 332, 333, 334, 335, 336, 337, 344, 345, 346, 347, 348, 349, 350, 358, 359, 360, 338, 339, 340, 341, 342, 343, 351, 352, 353, 354, 355, 356, 357] (by decide +kernel) (by decide +kernel)
set_option maxRecDepth 20000 in
theorem gL_isPassage_X9_pass : GoodIn wsL_isPassage (wsV RL 92 RX9 yX9_pass wsX9_pass) := goodIn_app (goodIn_of _ (by decide +kernel)) ggL_isPassage_X9_pass
set_option maxRecDepth 20000 in
theorem ggL_isPassage_X9_seen : GoodIn wsL_isPassage wsX9_seen := goodIn_r _ [145, 12, 13, 14, 10, 15, 146, 147, 148, 127, 149, 150, 324, 325, 326, 327, 328, 329, 330, 331, 332, 333, 334, 335, 336, 337, 344, 345, 346, 347, 348, 349, 350] (by decide +kernel) (by decide +kernel)
set_option maxRecDepth 20000 in
theorem gL_isPassage_X9_seen : GoodIn wsL_isPassage (wsV RL 35 RX9 yX9_seen wsX9_seen) := goodIn_app (goodIn_of _ (by decide +kernel)) ggL_isPassage_X9_seen
set_option maxRecDepth 20000 in
theorem ggL_isPassage_X9_count : GoodIn wsL_isPassage wsX9_count := goodIn_r _ [101, 12, 102, 103, 104, 105, 106, 107, 19, 108, 109, 110, 111, 112, 113, 17, 18, 20, 21, 114, 115, 116, 70, 117, 118, 68, 69, 71, 72, 73, 74, 75, 119, 120, 121, 122, 123, 95, 96, 97, 89, 124, 125, 126, 127, 128, 129, 324, 325, 326, 327, 328, 329, 330, 331, 332, 333, 334, 335, 336, 337, 351, 352, 353, 354, 355, 356, 357, 358, 359, 360, 361, 362, 363, 364, 365, 366, 367, 338, 344, 345, 346, 347, 348, 349, 350] (by decide +kernel) (by decide +kernel)
set_option maxRecDepth 20000 in
theorem gL_isPassage_X9_count : GoodIn wsL_isPassage (wsV RL 29 RX9 yX9_count wsX9_count) := goodIn_app (goodIn_of _ (by decide +kernel)) ggL_isPassage_X9_count
set_option maxRecDepth 20000 in
theorem ggL_isPassage_X9_entry : GoodIn wsL_isPassage wsX9_entry := goodIn_r _ [133, 12, 13, 14, 10, 15, 124, 125, 126, 127, 128, 129, 134, 135, 136, 137, 138, 139, 140, 141, 324, 325, 326, 327, 328, 329, 330, 331, 332, 333, 334, 335, 336, 337, 344, 345, 346, 347, 348, 349, 350] (by decide +kernel) (by decide +kernel)
set_option maxRecDepth 20000 in
theorem gL_isPassage_X9_entry : GoodIn wsL_isPassage (wsV RL 32 RX9 yX9_entry wsX9_entry) := goodIn_app (goodIn_of _ (by decide +kernel)) ggL_isPassage_X9_entry
set_option maxRecDepth 20000 in
theorem ggL_isPassage_X9_direction : GoodIn wsL_isPassage wsX9_direction := goodIn_r _ [312, 246, 247, 10, 248, 13, 14, 15, 313, 314, 255, 315, 260, 261, 262, 263, 264, 265, 266] (by decide +kernel) (by decide +kernel)
set_option maxRecDepth 20000 in
theorem gL_isPassage_X9_direction : GoodIn wsL_isPassage (wsV RL 62 RX9 yX9_direction wsX9_direction) := goodIn_app (goodIn_of _ (by decide +kernel)) ggL_isPassage_X9_direction
set_option maxRecDepth 20000 in
theorem ggL_isPassage_X9_undo : GoodIn wsL_isPassage wsX9_undo := goodIn_r _ [319, 102, 12, 320, 321, 322, 281, 323, 283, 284, 285, 286, 192, 193, 60, 194, 195, 196, 175, 197, 62, 198, 199, 200, 201, 202, 177, 203, 204, 205, 206, 19, 207, 21, 208, 209, 210, 211, 29, 212, 50, 213, 51, 31, 36, 37, 214, 215, 216, 70, 217, 80, 218, 72, 89, 219, 220, 221, 222, 223, 224, 225, 127, 226, 138, 227, 139, 140, 141, 150, 228, 129, 324, 325, 326, 327, 328, 329, 358, 359, 360, 330, 331, 332, 333, 334, 335, 336, 337, 338, 339, 340, 341, 342, 343, 351, 352, 353, 354, 355, 356, 357, 344, 345, 346, 347, 348, 349, 350] (by decide +kernel) (by decide +kernel)
set_option maxRecDepth 20000 in
theorem gL_isPassage_X9_undo : GoodIn wsL_isPassage (wsV RL 111 RX9 yX9_undo wsX9_undo) := goodIn_app (goodIn_of _ (by decide +kernel)) ggL_isPassage_X9_undo
theorem dL_isPassage_0 : decode cL_isPassage 0 = .ok (.aload_n 0, 1) := by decide +kernel
theorem dL_isPassage_1 : decode cL_isPassage 1 = .ok (.invokestatic 49, 3) := by decide +kernel
theorem dL_isPassage_4 : decode cL_isPassage 4 = .ok (.lstore 4, 2) := by decide +kernel
theorem dL_isPassage_6 : decode cL_isPassage 6 = .ok (.aload_n 0, 1) := by decide +kernel
theorem dL_isPassage_7 : decode cL_isPassage 7 = .ok (.iconst 0, 1) := by decide +kernel
theorem dL_isPassage_8 : decode cL_isPassage 8 = .ok (.invokevirtual 22, 3) := by decide +kernel
theorem dL_isPassage_11 : decode cL_isPassage 11 = .ok (.istore 6, 2) := by decide +kernel
theorem dL_isPassage_13 : decode cL_isPassage 13 = .ok (.aload_n 0, 1) := by decide +kernel
theorem dL_isPassage_14 : decode cL_isPassage 14 = .ok (.bipush 7, 2) := by decide +kernel
theorem dL_isPassage_16 : decode cL_isPassage 16 = .ok (.invokevirtual 22, 3) := by decide +kernel
theorem dL_isPassage_19 : decode cL_isPassage 19 = .ok (.istore 7, 2) := by decide +kernel
theorem dL_isPassage_21 : decode cL_isPassage 21 = .ok (.aload_n 0, 1) := by decide +kernel
theorem dL_isPassage_22 : decode cL_isPassage 22 = .ok (.iload_n 1, 1) := by decide +kernel
theorem dL_isPassage_23 : decode cL_isPassage 23 = .ok (.iload_n 2, 1) := by decide +kernel
theorem dL_isPassage_24 : decode cL_isPassage 24 = .ok (.invokevirtual 89, 3) := by decide +kernel
theorem dL_isPassage_27 : decode cL_isPassage 27 = .ok (.istore 8, 2) := by decide +kernel
theorem dL_isPassage_29 : decode cL_isPassage 29 = .ok (.aload_n 0, 1) := by decide +kernel
theorem dL_isPassage_30 : decode cL_isPassage 30 = .ok (.iload_n 1, 1) := by decide +kernel
theorem dL_isPassage_31 : decode cL_isPassage 31 = .ok (.iload_n 2, 1) := by decide +kernel
theorem dL_isPassage_32 : decode cL_isPassage 32 = .ok (.iload_n 2, 1) := by decide +kernel
theorem dL_isPassage_33 : decode cL_isPassage 33 = .ok (.iload_n 1, 1) := by decide +kernel
theorem dL_isPassage_34 : decode cL_isPassage 34 = .ok (.iload_n 3, 1) := by decide +kernel
theorem dL_isPassage_35 : decode cL_isPassage 35 = .ok (.invokevirtual 92, 3) := by decide +kernel
theorem dL_isPassage_38 : decode cL_isPassage 38 = .ok (.istore 9, 2) := by decide +kernel
theorem dL_isPassage_40 : decode cL_isPassage 40 = .ok (.iload 9, 2) := by decide +kernel
theorem dL_isPassage_42 : decode cL_isPassage 42 = .ok (.bipush (-3), 2) := by decide +kernel
theorem dL_isPassage_44 : decode cL_isPassage 44 = .ok (.if_icmp .ne 19, 3) := by decide +kernel
theorem dL_isPassage_47 : decode cL_isPassage 47 = .ok (.aload_n 0, 1) := by decide +kernel
theorem dL_isPassage_48 : decode cL_isPassage 48 = .ok (.invokestatic 49, 3) := by decide +kernel
theorem dL_isPassage_51 : decode cL_isPassage 51 = .ok (.lload 4, 2) := by decide +kernel
theorem dL_isPassage_53 : decode cL_isPassage 53 = .ok (.lcmp, 1) := by decide +kernel
theorem dL_isPassage_54 : decode cL_isPassage 54 = .ok (.ifCond .ne 7, 3) := by decide +kernel
theorem dL_isPassage_57 : decode cL_isPassage 57 = .ok (.iconst 1, 1) := by decide +kernel
theorem dL_isPassage_58 : decode cL_isPassage 58 = .ok (.goto 4, 3) := by decide +kernel
theorem dL_isPassage_61 : decode cL_isPassage 61 = .ok (.iconst 0, 1) := by decide +kernel
theorem dL_isPassage_62 : decode cL_isPassage 62 = .ok (.ireturn, 1) := by decide +kernel
theorem dL_isPassage_63 : decode cL_isPassage 63 = .ok (.aload_n 0, 1) := by decide +kernel
theorem dL_isPassage_64 : decode cL_isPassage 64 = .ok (.iconst 0, 1) := by decide +kernel
theorem dL_isPassage_65 : decode cL_isPassage 65 = .ok (.invokevirtual 35, 3) := by decide +kernel
theorem dL_isPassage_68 : decode cL_isPassage 68 = .ok (.aload_n 0, 1) := by decide +kernel
theorem dL_isPassage_69 : decode cL_isPassage 69 = .ok (.iconst 1, 1) := by decide +kernel
theorem dL_isPassage_70 : decode cL_isPassage 70 = .ok (.invokevirtual 35, 3) := by decide +kernel
theorem dL_isPassage_73 : decode cL_isPassage 73 = .ok (.iadd, 1) := by decide +kernel
theorem dL_isPassage_74 : decode cL_isPassage 74 = .ok (.aload_n 0, 1) := by decide +kernel
theorem dL_isPassage_75 : decode cL_isPassage 75 = .ok (.iconst 2, 1) := by decide +kernel
theorem dL_isPassage_76 : decode cL_isPassage 76 = .ok (.invokevirtual 35, 3) := by decide +kernel
theorem dL_isPassage_79 : decode cL_isPassage 79 = .ok (.iadd, 1) := by decide +kernel
theorem dL_isPassage_80 : decode cL_isPassage 80 = .ok (.aload_n 0, 1) := by decide +kernel
theorem dL_isPassage_81 : decode cL_isPassage 81 = .ok (.iconst 3, 1) := by decide +kernel
theorem dL_isPassage_82 : decode cL_isPassage 82 = .ok (.invokevirtual 35, 3) := by decide +kernel
theorem dL_isPassage_85 : decode cL_isPassage 85 = .ok (.iadd, 1) := by decide +kernel
theorem dL_isPassage_86 : decode cL_isPassage 86 = .ok (.istore 10, 2) := by decide +kernel
theorem dL_isPassage_88 : decode cL_isPassage 88 = .ok (.iload 9, 2) := by decide +kernel
theorem dL_isPassage_90 : decode cL_isPassage 90 = .ok (.ifCond .le 74, 3) := by decide +kernel
theorem dL_isPassage_93 : decode cL_isPassage 93 = .ok (.iload 9, 2) := by decide +kernel
theorem dL_isPassage_95 : decode cL_isPassage 95 = .ok (.iload_n 3, 1) := by decide +kernel
theorem dL_isPassage_96 : decode cL_isPassage 96 = .ok (.if_icmp .gt 68, 3) := by decide +kernel
theorem dL_isPassage_99 : decode cL_isPassage 99 = .ok (.iload 10, 2) := by decide +kernel
theorem dL_isPassage_101 : decode cL_isPassage 101 = .ok (.iload_n 3, 1) := by decide +kernel
theorem dL_isPassage_102 : decode cL_isPassage 102 = .ok (.if_icmp .ne 62, 3) := by decide +kernel
theorem dL_isPassage_105 : decode cL_isPassage 105 = .ok (.aload_n 0, 1) := by decide +kernel
theorem dL_isPassage_106 : decode cL_isPassage 106 = .ok (.iconst 0, 1) := by decide +kernel
theorem dL_isPassage_107 : decode cL_isPassage 107 = .ok (.invokevirtual 22, 3) := by decide +kernel
theorem dL_isPassage_110 : decode cL_isPassage 110 = .ok (.iload 6, 2) := by decide +kernel
theorem dL_isPassage_112 : decode cL_isPassage 112 = .ok (.iload_n 3, 1) := by decide +kernel
theorem dL_isPassage_113 : decode cL_isPassage 113 = .ok (.iadd, 1) := by decide +kernel
theorem dL_isPassage_114 : decode cL_isPassage 114 = .ok (.if_icmp .ne 50, 3) := by decide +kernel
theorem dL_isPassage_117 : decode cL_isPassage 117 = .ok (.aload_n 0, 1) := by decide +kernel
theorem dL_isPassage_118 : decode cL_isPassage 118 = .ok (.bipush 7, 2) := by decide +kernel
theorem dL_isPassage_120 : decode cL_isPassage 120 = .ok (.invokevirtual 22, 3) := by decide +kernel
theorem dL_isPassage_123 : decode cL_isPassage 123 = .ok (.iload 7, 2) := by decide +kernel
theorem dL_isPassage_125 : decode cL_isPassage 125 = .ok (.iload 9, 2) := by decide +kernel
theorem dL_isPassage_127 : decode cL_isPassage 127 = .ok (.iadd, 1) := by decide +kernel
theorem dL_isPassage_128 : decode cL_isPassage 128 = .ok (.if_icmp .ne 36, 3) := by decide +kernel
theorem dL_isPassage_131 : decode cL_isPassage 131 = .ok (.aload_n 0, 1) := by decide +kernel
theorem dL_isPassage_132 : decode cL_isPassage 132 = .ok (.bipush 8, 2) := by decide +kernel
theorem dL_isPassage_134 : decode cL_isPassage 134 = .ok (.invokevirtual 29, 3) := by decide +kernel
theorem dL_isPassage_137 : decode cL_isPassage 137 = .ok (.iload 7, 2) := by decide +kernel
theorem dL_isPassage_139 : decode cL_isPassage 139 = .ok (.iload 9, 2) := by decide +kernel
theorem dL_isPassage_141 : decode cL_isPassage 141 = .ok (.iadd, 1) := by decide +kernel
theorem dL_isPassage_142 : decode cL_isPassage 142 = .ok (.bipush 40, 2) := by decide +kernel
theorem dL_isPassage_144 : decode cL_isPassage 144 = .ok (.if_icmp .le 8, 3) := by decide +kernel
theorem dL_isPassage_147 : decode cL_isPassage 147 = .ok (.bipush 40, 2) := by decide +kernel
theorem dL_isPassage_149 : decode cL_isPassage 149 = .ok (.goto 8, 3) := by decide +kernel
theorem dL_isPassage_152 : decode cL_isPassage 152 = .ok (.iload 7, 2) := by decide +kernel
theorem dL_isPassage_154 : decode cL_isPassage 154 = .ok (.iload 9, 2) := by decide +kernel
theorem dL_isPassage_156 : decode cL_isPassage 156 = .ok (.iadd, 1) := by decide +kernel
theorem dL_isPassage_157 : decode cL_isPassage 157 = .ok (.if_icmp .ne 7, 3) := by decide +kernel
theorem dL_isPassage_160 : decode cL_isPassage 160 = .ok (.iconst 1, 1) := by decide +kernel
theorem dL_isPassage_161 : decode cL_isPassage 161 = .ok (.goto 4, 3) := by decide +kernel
theorem dL_isPassage_164 : decode cL_isPassage 164 = .ok (.iconst 0, 1) := by decide +kernel
theorem dL_isPassage_165 : decode cL_isPassage 165 = .ok (.istore 11, 2) := by decide +kernel
theorem dL_isPassage_167 : decode cL_isPassage 167 = .ok (.iload 9, 2) := by decide +kernel
theorem dL_isPassage_169 : decode cL_isPassage 169 = .ok (.bipush 40, 2) := by decide +kernel
theorem dL_isPassage_171 : decode cL_isPassage 171 = .ok (.if_icmp .le 8, 3) := by decide +kernel
theorem dL_isPassage_174 : decode cL_isPassage 174 = .ok (.bipush 40, 2) := by decide +kernel
theorem dL_isPassage_176 : decode cL_isPassage 176 = .ok (.goto 5, 3) := by decide +kernel
theorem dL_isPassage_179 : decode cL_isPassage 179 = .ok (.iload 9, 2) := by decide +kernel
theorem dL_isPassage_181 : decode cL_isPassage 181 = .ok (.istore 12, 2) := by decide +kernel
theorem dL_isPassage_183 : decode cL_isPassage 183 = .ok (.iconst 0, 1) := by decide +kernel
theorem dL_isPassage_184 : decode cL_isPassage 184 = .ok (.istore 13, 2) := by decide +kernel
theorem dL_isPassage_186 : decode cL_isPassage 186 = .ok (.iload 13, 2) := by decide +kernel
theorem dL_isPassage_188 : decode cL_isPassage 188 = .ok (.iload 12, 2) := by decide +kernel
theorem dL_isPassage_190 : decode cL_isPassage 190 = .ok (.if_icmp .ge 86, 3) := by decide +kernel
theorem dL_isPassage_193 : decode cL_isPassage 193 = .ok (.iload 11, 2) := by decide +kernel
theorem dL_isPassage_195 : decode cL_isPassage 195 = .ok (.ifCond .eq 81, 3) := by decide +kernel
theorem dL_isPassage_198 : decode cL_isPassage 198 = .ok (.aload_n 0, 1) := by decide +kernel
theorem dL_isPassage_199 : decode cL_isPassage 199 = .ok (.iload 13, 2) := by decide +kernel
theorem dL_isPassage_201 : decode cL_isPassage 201 = .ok (.iconst 3, 1) := by decide +kernel
theorem dL_isPassage_202 : decode cL_isPassage 202 = .ok (.invokevirtual 32, 3) := by decide +kernel
theorem dL_isPassage_205 : decode cL_isPassage 205 = .ok (.aload_n 0, 1) := by decide +kernel
theorem dL_isPassage_206 : decode cL_isPassage 206 = .ok (.bipush 6, 2) := by decide +kernel
theorem dL_isPassage_208 : decode cL_isPassage 208 = .ok (.invokevirtual 22, 3) := by decide +kernel
theorem dL_isPassage_211 : decode cL_isPassage 211 = .ok (.iconst 1, 1) := by decide +kernel
theorem dL_isPassage_212 : decode cL_isPassage 212 = .ok (.isub, 1) := by decide +kernel
theorem dL_isPassage_213 : decode cL_isPassage 213 = .ok (.if_icmp .ne 54, 3) := by decide +kernel
theorem dL_isPassage_216 : decode cL_isPassage 216 = .ok (.iload 13, 2) := by decide +kernel
theorem dL_isPassage_218 : decode cL_isPassage 218 = .ok (.iconst 1, 1) := by decide +kernel
theorem dL_isPassage_219 : decode cL_isPassage 219 = .ok (.iadd, 1) := by decide +kernel
theorem dL_isPassage_220 : decode cL_isPassage 220 = .ok (.iload 12, 2) := by decide +kernel
theorem dL_isPassage_222 : decode cL_isPassage 222 = .ok (.if_icmp .eq 41, 3) := by decide +kernel
theorem dL_isPassage_225 : decode cL_isPassage 225 = .ok (.aload_n 0, 1) := by decide +kernel
theorem dL_isPassage_226 : decode cL_isPassage 226 = .ok (.iload 13, 2) := by decide +kernel
theorem dL_isPassage_228 : decode cL_isPassage 228 = .ok (.iconst 0, 1) := by decide +kernel
theorem dL_isPassage_229 : decode cL_isPassage 229 = .ok (.invokevirtual 32, 3) := by decide +kernel
theorem dL_isPassage_232 : decode cL_isPassage 232 = .ok (.aload_n 0, 1) := by decide +kernel
theorem dL_isPassage_233 : decode cL_isPassage 233 = .ok (.iload 13, 2) := by decide +kernel
theorem dL_isPassage_235 : decode cL_isPassage 235 = .ok (.iconst 1, 1) := by decide +kernel
theorem dL_isPassage_236 : decode cL_isPassage 236 = .ok (.iadd, 1) := by decide +kernel
theorem dL_isPassage_237 : decode cL_isPassage 237 = .ok (.iconst 0, 1) := by decide +kernel
theorem dL_isPassage_238 : decode cL_isPassage 238 = .ok (.invokevirtual 32, 3) := by decide +kernel
theorem dL_isPassage_241 : decode cL_isPassage 241 = .ok (.if_icmp .le 26, 3) := by decide +kernel
theorem dL_isPassage_244 : decode cL_isPassage 244 = .ok (.aload_n 0, 1) := by decide +kernel
theorem dL_isPassage_245 : decode cL_isPassage 245 = .ok (.iload 13, 2) := by decide +kernel
theorem dL_isPassage_247 : decode cL_isPassage 247 = .ok (.iconst 1, 1) := by decide +kernel
theorem dL_isPassage_248 : decode cL_isPassage 248 = .ok (.invokevirtual 32, 3) := by decide +kernel
theorem dL_isPassage_251 : decode cL_isPassage 251 = .ok (.aload_n 0, 1) := by decide +kernel
theorem dL_isPassage_252 : decode cL_isPassage 252 = .ok (.iload 13, 2) := by decide +kernel
theorem dL_isPassage_254 : decode cL_isPassage 254 = .ok (.iconst 1, 1) := by decide +kernel
theorem dL_isPassage_255 : decode cL_isPassage 255 = .ok (.iadd, 1) := by decide +kernel
theorem dL_isPassage_256 : decode cL_isPassage 256 = .ok (.iconst 1, 1) := by decide +kernel
theorem dL_isPassage_257 : decode cL_isPassage 257 = .ok (.invokevirtual 32, 3) := by decide +kernel
theorem dL_isPassage_260 : decode cL_isPassage 260 = .ok (.if_icmp .eq 7, 3) := by decide +kernel
theorem dL_isPassage_263 : decode cL_isPassage 263 = .ok (.iconst 1, 1) := by decide +kernel
theorem dL_isPassage_264 : decode cL_isPassage 264 = .ok (.goto 4, 3) := by decide +kernel
theorem dL_isPassage_267 : decode cL_isPassage 267 = .ok (.iconst 0, 1) := by decide +kernel
theorem dL_isPassage_268 : decode cL_isPassage 268 = .ok (.istore 11, 2) := by decide +kernel
theorem dL_isPassage_270 : decode cL_isPassage 270 = .ok (.iinc 13 1, 3) := by decide +kernel
theorem dL_isPassage_273 : decode cL_isPassage 273 = .ok (.goto (-87), 3) := by decide +kernel
theorem dL_isPassage_276 : decode cL_isPassage 276 = .ok (.iload 11, 2) := by decide +kernel
theorem dL_isPassage_278 : decode cL_isPassage 278 = .ok (.ifCond .eq 96, 3) := by decide +kernel
theorem dL_isPassage_281 : decode cL_isPassage 281 = .ok (.iload 9, 2) := by decide +kernel
theorem dL_isPassage_283 : decode cL_isPassage 283 = .ok (.bipush 40, 2) := by decide +kernel
theorem dL_isPassage_285 : decode cL_isPassage 285 = .ok (.if_icmp .gt 85, 3) := by decide +kernel
theorem dL_isPassage_288 : decode cL_isPassage 288 = .ok (.aload_n 0, 1) := by decide +kernel
theorem dL_isPassage_289 : decode cL_isPassage 289 = .ok (.iload 9, 2) := by decide +kernel
theorem dL_isPassage_291 : decode cL_isPassage 291 = .ok (.iconst 1, 1) := by decide +kernel
theorem dL_isPassage_292 : decode cL_isPassage 292 = .ok (.isub, 1) := by decide +kernel
theorem dL_isPassage_293 : decode cL_isPassage 293 = .ok (.iconst 0, 1) := by decide +kernel
theorem dL_isPassage_294 : decode cL_isPassage 294 = .ok (.invokevirtual 32, 3) := by decide +kernel
theorem dL_isPassage_297 : decode cL_isPassage 297 = .ok (.iload 6, 2) := by decide +kernel
theorem dL_isPassage_299 : decode cL_isPassage 299 = .ok (.if_icmp .ne 75, 3) := by decide +kernel
theorem dL_isPassage_302 : decode cL_isPassage 302 = .ok (.iload 8, 2) := by decide +kernel
theorem dL_isPassage_304 : decode cL_isPassage 304 = .ok (.bipush (-2), 2) := by decide +kernel
theorem dL_isPassage_306 : decode cL_isPassage 306 = .ok (.if_icmp .ne 32, 3) := by decide +kernel
theorem dL_isPassage_309 : decode cL_isPassage 309 = .ok (.aload_n 0, 1) := by decide +kernel
theorem dL_isPassage_310 : decode cL_isPassage 310 = .ok (.iload 9, 2) := by decide +kernel
theorem dL_isPassage_312 : decode cL_isPassage 312 = .ok (.iconst 1, 1) := by decide +kernel
theorem dL_isPassage_313 : decode cL_isPassage 313 = .ok (.isub, 1) := by decide +kernel
theorem dL_isPassage_314 : decode cL_isPassage 314 = .ok (.iconst 1, 1) := by decide +kernel
theorem dL_isPassage_315 : decode cL_isPassage 315 = .ok (.invokevirtual 32, 3) := by decide +kernel
theorem dL_isPassage_318 : decode cL_isPassage 318 = .ok (.ifCond .ne 56, 3) := by decide +kernel
theorem dL_isPassage_321 : decode cL_isPassage 321 = .ok (.aload_n 0, 1) := by decide +kernel
theorem dL_isPassage_322 : decode cL_isPassage 322 = .ok (.iload 9, 2) := by decide +kernel
theorem dL_isPassage_324 : decode cL_isPassage 324 = .ok (.iconst 1, 1) := by decide +kernel
theorem dL_isPassage_325 : decode cL_isPassage 325 = .ok (.isub, 1) := by decide +kernel
theorem dL_isPassage_326 : decode cL_isPassage 326 = .ok (.iconst 2, 1) := by decide +kernel
theorem dL_isPassage_327 : decode cL_isPassage 327 = .ok (.invokevirtual 32, 3) := by decide +kernel
theorem dL_isPassage_330 : decode cL_isPassage 330 = .ok (.bipush (-4), 2) := by decide +kernel
theorem dL_isPassage_332 : decode cL_isPassage 332 = .ok (.if_icmp .ne 42, 3) := by decide +kernel
theorem dL_isPassage_335 : decode cL_isPassage 335 = .ok (.goto 35, 3) := by decide +kernel
theorem dL_isPassage_338 : decode cL_isPassage 338 = .ok (.aload_n 0, 1) := by decide +kernel
theorem dL_isPassage_339 : decode cL_isPassage 339 = .ok (.iload 9, 2) := by decide +kernel
theorem dL_isPassage_341 : decode cL_isPassage 341 = .ok (.iconst 1, 1) := by decide +kernel
theorem dL_isPassage_342 : decode cL_isPassage 342 = .ok (.isub, 1) := by decide +kernel
theorem dL_isPassage_343 : decode cL_isPassage 343 = .ok (.iconst 1, 1) := by decide +kernel
theorem dL_isPassage_344 : decode cL_isPassage 344 = .ok (.invokevirtual 32, 3) := by decide +kernel
theorem dL_isPassage_347 : decode cL_isPassage 347 = .ok (.iload 8, 2) := by decide +kernel
theorem dL_isPassage_349 : decode cL_isPassage 349 = .ok (.if_icmp .ne 25, 3) := by decide +kernel
theorem dL_isPassage_352 : decode cL_isPassage 352 = .ok (.aload_n 0, 1) := by decide +kernel
theorem dL_isPassage_353 : decode cL_isPassage 353 = .ok (.iload 9, 2) := by decide +kernel
theorem dL_isPassage_355 : decode cL_isPassage 355 = .ok (.iconst 1, 1) := by decide +kernel
theorem dL_isPassage_356 : decode cL_isPassage 356 = .ok (.isub, 1) := by decide +kernel
theorem dL_isPassage_357 : decode cL_isPassage 357 = .ok (.iconst 2, 1) := by decide +kernel
theorem dL_isPassage_358 : decode cL_isPassage 358 = .ok (.invokevirtual 32, 3) := by decide +kernel
theorem dL_isPassage_361 : decode cL_isPassage 361 = .ok (.aload_n 0, 1) := by decide +kernel
theorem dL_isPassage_362 : decode cL_isPassage 362 = .ok (.iload_n 1, 1) := by decide +kernel
theorem dL_isPassage_363 : decode cL_isPassage 363 = .ok (.iload_n 2, 1) := by decide +kernel
theorem dL_isPassage_364 : decode cL_isPassage 364 = .ok (.invokevirtual 62, 3) := by decide +kernel
theorem dL_isPassage_367 : decode cL_isPassage 367 = .ok (.if_icmp .ne 7, 3) := by decide +kernel
theorem dL_isPassage_370 : decode cL_isPassage 370 = .ok (.iconst 1, 1) := by decide +kernel
theorem dL_isPassage_371 : decode cL_isPassage 371 = .ok (.goto 4, 3) := by decide +kernel
theorem dL_isPassage_374 : decode cL_isPassage 374 = .ok (.iconst 0, 1) := by decide +kernel
theorem dL_isPassage_375 : decode cL_isPassage 375 = .ok (.istore 11, 2) := by decide +kernel
theorem dL_isPassage_377 : decode cL_isPassage 377 = .ok (.iload 11, 2) := by decide +kernel
theorem dL_isPassage_379 : decode cL_isPassage 379 = .ok (.ifCond .eq 24, 3) := by decide +kernel
theorem dL_isPassage_382 : decode cL_isPassage 382 = .ok (.aload_n 0, 1) := by decide +kernel
theorem dL_isPassage_383 : decode cL_isPassage 383 = .ok (.invokevirtual 111, 3) := by decide +kernel
theorem dL_isPassage_386 : decode cL_isPassage 386 = .ok (.ifCond .lt 17, 3) := by decide +kernel
theorem dL_isPassage_389 : decode cL_isPassage 389 = .ok (.aload_n 0, 1) := by decide +kernel
theorem dL_isPassage_390 : decode cL_isPassage 390 = .ok (.invokestatic 49, 3) := by decide +kernel
theorem dL_isPassage_393 : decode cL_isPassage 393 = .ok (.lload 4, 2) := by decide +kernel
theorem dL_isPassage_395 : decode cL_isPassage 395 = .ok (.lcmp, 1) := by decide +kernel
theorem dL_isPassage_396 : decode cL_isPassage 396 = .ok (.ifCond .ne 7, 3) := by decide +kernel
theorem dL_isPassage_399 : decode cL_isPassage 399 = .ok (.iconst 1, 1) := by decide +kernel
theorem dL_isPassage_400 : decode cL_isPassage 400 = .ok (.goto 4, 3) := by decide +kernel
theorem dL_isPassage_403 : decode cL_isPassage 403 = .ok (.iconst 0, 1) := by decide +kernel
theorem dL_isPassage_404 : decode cL_isPassage 404 = .ok (.ireturn, 1) := by decide +kernel
