-- the program's names, words and instructions, as printed by TURN (cut by wip/p34/split19b.py)
set_option maxRecDepth 20000 in
theorem gwL_wsL_isLight_r5 : GoodIn wsL_law wsL_isLight_r5 := goodIn_r _ [59, 184, 185, 186, 187, 188, 189, 190, 191, 192, 193, 194, 195, 55, 56, 196, 517, 518, 519, 520, 387, 388, 389, 390] (by decide +kernel) (by decide +kernel)
set_option maxRecDepth 20000 in
theorem gwL_wsL_isLight_r6 : GoodIn wsL_law wsL_isLight_r6 := goodIn_r _ [391, 392, 393, 394, 395, 63, 396, 397, 398, 399, 400, 401, 402, 403, 404, 405, 406, 407, 408, 441, 442, 443, 444, 445] (by decide +kernel) (by decide +kernel)
set_option maxRecDepth 20000 in
theorem gwL_wsL_isLight_r7 : GoodIn wsL_law wsL_isLight_r7 := goodIn_r _ [446, 447, 448, 38, 449, 45, 450, 451, 452, 453, 454, 455, 456, 435, 457, 437, 438, 439, 440] (by decide +kernel) (by decide +kernel)
set_option maxRecDepth 20000 in
theorem ggL_law_L_isLight : GoodIn wsL_law wsL_isLight := gw_cons (goodIn_r [_] [643] (by rfl) (by decide +kernel)) (goodIn_app (goodIn_app (goodIn_app (goodIn_app (goodIn_app (goodIn_app (goodIn_app (goodIn_app (goodIn_app gwL_wsL_isLight_r1 (goodIn_app gwL_wsL_isLight_r2 (goodIn_app gwL_wsL_isLight_r3 (goodIn_app gwL_wsL_isLight_r4 (goodIn_app gwL_wsL_isLight_r5 (goodIn_app gwL_wsL_isLight_r6 gwL_wsL_isLight_r7)))))) gwL_wsX90) gwL_wsX70) gwL_wsX10) gwL_wsX50) gwL_wsX80) gwL_wsX20) gwL_wsX60) gwL_wsX40)
set_option maxRecDepth 20000 in
theorem gL_law_L_isLight : GoodIn wsL_law (va_wsS RL 130 yL_isLight wsL_isLight) := goodIn_app (goodIn_of _ (by decide +kernel)) ggL_law_L_isLight
set_option maxRecDepth 20000 in
theorem gwL_wsL_areDirections_r1 : GoodIn wsL_law wsL_areDirections_r1 := goodIn_r _ [479, 480, 481, 2, 482, 483, 484, 485, 219, 220, 221, 486, 487, 488, 489, 490, 491, 492, 493, 494, 495, 496, 497, 498] (by decide +kernel) (by decide +kernel)
set_option maxRecDepth 20000 in
theorem gwL_wsL_areDirections_r2 : GoodIn wsL_law wsL_areDirections_r2 := goodIn_r _ [499, 500, 501, 502, 503, 504, 505, 506, 545, 546, 547, 548, 15, 13, 201, 98, 99, 12, 100, 30, 34, 38, 42, 44] (by decide +kernel) (by decide +kernel)
set_option maxRecDepth 20000 in
theorem gwL_wsL_areDirections_r3 : GoodIn wsL_law wsL_areDirections_r3 := goodIn_r _ [101, 102, 103, 104, 105, 45, 106, 107, 108, 109, 29, 110, 50, 111, 112, 113, 114, 33, 115, 55, 116, 56, 57, 58] (by decide +kernel) (by decide +kernel)
set_option maxRecDepth 20000 in
theorem gwL_wsL_areDirections_r4 : GoodIn wsL_law wsL_areDirections_r4 := goodIn_r _ [59, 117, 118, 119, 37, 120, 63, 121, 64, 65, 122, 123, 66, 124, 125, 126, 127, 41, 128, 70, 129, 71, 72, 73] (by decide +kernel) (by decide +kernel)
set_option maxRecDepth 20000 in
theorem gwL_wsL_areDirections_r5 : GoodIn wsL_law wsL_areDirections_r5 := goodIn_r _ [74, 130, 131, 202, 203, 204, 205, 206, 207, 208, 209, 164, 165, 166, 167, 157, 158, 159, 210, 193, 194, 195, 196, 181] (by decide +kernel) (by decide +kernel)
set_option maxRecDepth 20000 in
theorem gwL_wsL_areDirections_r6 : GoodIn wsL_law wsL_areDirections_r6 := goodIn_r _ [182, 183, 211, 212, 213, 214, 549, 550, 551, 552, 553, 554, 146, 147, 148, 555, 556, 557, 558, 559, 446, 447, 448, 449] (by decide +kernel) (by decide +kernel)
set_option maxRecDepth 20000 in
theorem gwL_wsL_areDirections_r7 : GoodIn wsL_law wsL_areDirections_r7 := goodIn_r _ [450, 451, 405, 406, 407, 452, 453, 454, 374, 375, 376, 377, 378] (by decide +kernel) (by decide +kernel)
set_option maxRecDepth 20000 in
theorem ggL_law_L_areDirections : GoodIn wsL_law wsL_areDirections := gw_cons (goodIn_r [_] [646] (by rfl) (by decide +kernel)) (goodIn_app (goodIn_app (goodIn_app (goodIn_app (goodIn_app (goodIn_app (goodIn_app gwL_wsL_areDirections_r1 (goodIn_app gwL_wsL_areDirections_r2 (goodIn_app gwL_wsL_areDirections_r3 (goodIn_app gwL_wsL_areDirections_r4 (goodIn_app gwL_wsL_areDirections_r5 (goodIn_app gwL_wsL_areDirections_r6 gwL_wsL_areDirections_r7)))))) gwL_wsX90) gwL_wsX70) gwL_wsX20) gwL_wsX40) gwL_wsX10) gwL_wsX60)
set_option maxRecDepth 20000 in
theorem gL_law_L_areDirections : GoodIn wsL_law (va_wsS RL 133 yL_areDirections wsL_areDirections) := goodIn_app (goodIn_of _ (by decide +kernel)) ggL_law_L_areDirections
set_option maxRecDepth 20000 in
theorem gwL_wsL_isAhead_r1 : GoodIn wsL_law wsL_isAhead_r1 := goodIn_r _ [369, 370, 367, 371, 372, 373, 374, 375, 376, 2, 377, 13, 219, 220, 221, 378, 146, 147, 29, 148, 50, 172, 173, 174] (by decide +kernel) (by decide +kernel)
set_option maxRecDepth 20000 in
theorem gwL_wsL_isAhead_r2 : GoodIn wsL_law wsL_isAhead_r2 := goodIn_r _ [175, 176, 177, 178, 33, 179, 57, 180, 181, 182, 183, 58, 59, 184, 185, 186, 187, 188, 189, 190, 191, 192, 193, 194] (by decide +kernel) (by decide +kernel)
set_option maxRecDepth 20000 in
theorem gwL_wsL_isAhead_r3 : GoodIn wsL_law wsL_isAhead_r3 := goodIn_r _ [195, 55, 56, 196, 379, 380, 381, 382, 383, 384, 385, 12, 386, 44, 387, 388, 389, 390, 391, 154, 155, 37, 156, 64] (by decide +kernel) (by decide +kernel)
set_option maxRecDepth 20000 in
theorem gwL_wsL_isAhead_r4 : GoodIn wsL_law wsL_isAhead_r4 := goodIn_r _ [157, 158, 159, 392, 393, 394, 395, 63, 396, 397, 398, 399, 400, 401, 402, 403, 65, 404, 405, 406, 407, 408, 165, 166] (by decide +kernel) (by decide +kernel)
set_option maxRecDepth 20000 in
theorem gwL_wsL_isAhead_r5 : GoodIn wsL_law wsL_isAhead_r5 := goodIn_r _ [167, 132, 133, 134, 135, 19, 23, 136, 137, 138, 139, 140, 141, 142, 143, 144, 145, 149, 150, 151, 152, 153, 160, 161] (by decide +kernel) (by decide +kernel)
set_option maxRecDepth 20000 in
theorem gwL_wsL_isAhead_r6 : GoodIn wsL_law wsL_isAhead_r6 := goodIn_r _ [162, 163, 164, 168, 169, 170, 41, 171, 131, 409, 410, 411, 412, 413, 414, 415, 416, 70, 71, 72, 73, 417, 418, 419] (by decide +kernel) (by decide +kernel)
set_option maxRecDepth 20000 in
theorem gwL_wsL_isAhead_r7 : GoodIn wsL_law wsL_isAhead_r7 := goodIn_r _ [420, 421, 422, 423, 424, 74, 425, 426, 427, 428, 429, 430, 431, 432, 433, 434, 435, 436, 437, 438, 439, 440, 441, 442] (by decide +kernel) (by decide +kernel)
set_option maxRecDepth 20000 in
theorem gwL_wsL_isAhead_r8 : GoodIn wsL_law wsL_isAhead_r8 := goodIn_r _ [443, 444, 445, 446, 447, 448, 38, 449, 45, 450, 451, 452, 453, 454, 455, 456, 457, 197, 198, 199, 200, 15, 201, 98] (by decide +kernel) (by decide +kernel)
set_option maxRecDepth 20000 in
theorem gwL_wsL_isAhead_r9 : GoodIn wsL_law wsL_isAhead_r9 := goodIn_r _ [99, 100, 30, 34, 42, 101, 102, 103, 104, 105, 106, 107, 108, 109, 110, 111, 112, 113, 114, 115, 116, 117, 118, 119] (by decide +kernel) (by decide +kernel)
set_option maxRecDepth 20000 in
theorem gwL_wsL_isAhead_r10 : GoodIn wsL_law wsL_isAhead_r10 := goodIn_r _ [120, 121, 122, 123, 66, 124, 125, 126, 127, 128, 129, 130, 202, 203, 204, 205, 206, 207, 208, 209, 210, 211, 212, 213] (by decide +kernel) (by decide +kernel)
set_option maxRecDepth 20000 in
theorem gwL_wsL_isAhead_r11 : GoodIn wsL_law wsL_isAhead_r11 := goodIn_r _ [214, 540, 541, 542, 543, 544, 462, 463, 464, 18, 465, 95, 80, 96, 97, 87, 88, 89, 90, 91, 92, 93, 94] (by decide +kernel) (by decide +kernel)
set_option maxRecDepth 20000 in
theorem ggL_law_L_isAhead : GoodIn wsL_law wsL_isAhead := gw_cons (goodIn_r [_] [649] (by rfl) (by decide +kernel)) (goodIn_app (goodIn_app (goodIn_app (goodIn_app (goodIn_app (goodIn_app (goodIn_app (goodIn_app (goodIn_app gwL_wsL_isAhead_r1 (goodIn_app gwL_wsL_isAhead_r2 (goodIn_app gwL_wsL_isAhead_r3 (goodIn_app gwL_wsL_isAhead_r4 (goodIn_app gwL_wsL_isAhead_r5 (goodIn_app gwL_wsL_isAhead_r6 (goodIn_app gwL_wsL_isAhead_r7 (goodIn_app gwL_wsL_isAhead_r8 (goodIn_app gwL_wsL_isAhead_r9 (goodIn_app gwL_wsL_isAhead_r10 gwL_wsL_isAhead_r11)))))))))) gwL_wsX90) gwL_wsX70) gwL_wsX20) gwL_wsX40) gwL_wsX60) gwL_wsX10) gwL_wsX50) gwL_wsX80)
set_option maxRecDepth 20000 in
theorem gL_law_L_isAhead : GoodIn wsL_law (va_wsS RL 137 yL_isAhead wsL_isAhead) := goodIn_app (goodIn_of _ (by decide +kernel)) ggL_law_L_isAhead
set_option maxRecDepth 20000 in
theorem gwL_wsL_isPassage_r1 : GoodIn wsL_law wsL_isPassage_r1 := goodIn_r _ [369, 370, 367, 371, 372, 373, 374, 375, 376, 2, 377, 13, 219, 220, 221, 378, 146, 147, 29, 148, 50, 172, 173, 174] (by decide +kernel) (by decide +kernel)
set_option maxRecDepth 20000 in
theorem gwL_wsL_isPassage_r2 : GoodIn wsL_law wsL_isPassage_r2 := goodIn_r _ [175, 176, 177, 178, 33, 179, 57, 180, 181, 182, 183, 58, 59, 184, 185, 186, 187, 188, 189, 190, 191, 192, 193, 194] (by decide +kernel) (by decide +kernel)
set_option maxRecDepth 20000 in
theorem gwL_wsL_isPassage_r3 : GoodIn wsL_law wsL_isPassage_r3 := goodIn_r _ [195, 55, 56, 196, 379, 380, 381, 382, 383, 384, 385, 12, 386, 44, 387, 388, 389, 390, 391, 154, 155, 37, 156, 64] (by decide +kernel) (by decide +kernel)
set_option maxRecDepth 20000 in
theorem gwL_wsL_isPassage_r4 : GoodIn wsL_law wsL_isPassage_r4 := goodIn_r _ [157, 158, 159, 392, 393, 394, 395, 63, 396, 397, 398, 399, 400, 401, 402, 403, 65, 404, 405, 406, 407, 408, 165, 166] (by decide +kernel) (by decide +kernel)
set_option maxRecDepth 20000 in
theorem gwL_wsL_isPassage_r5 : GoodIn wsL_law wsL_isPassage_r5 := goodIn_r _ [167, 132, 133, 134, 135, 19, 23, 136, 137, 138, 139, 140, 141, 142, 143, 144, 145, 149, 150, 151, 152, 153, 160, 161] (by decide +kernel) (by decide +kernel)
set_option maxRecDepth 20000 in
theorem gwL_wsL_isPassage_r6 : GoodIn wsL_law wsL_isPassage_r6 := goodIn_r _ [162, 163, 164, 168, 169, 170, 41, 171, 131, 409, 410, 411, 412, 413, 414, 415, 416, 70, 71, 72, 73, 417, 418, 419] (by decide +kernel) (by decide +kernel)
set_option maxRecDepth 20000 in
theorem gwL_wsL_isPassage_r7 : GoodIn wsL_law wsL_isPassage_r7 := goodIn_r _ [420, 421, 422, 423, 424, 74, 425, 426, 427, 428, 429, 430, 431, 432, 433, 434, 435, 436, 437, 438, 439, 440, 441, 442] (by decide +kernel) (by decide +kernel)
set_option maxRecDepth 20000 in
theorem gwL_wsL_isPassage_r8 : GoodIn wsL_law wsL_isPassage_r8 := goodIn_r _ [443, 444, 445, 446, 447, 448, 38, 449, 45, 450, 451, 452, 453, 454, 455, 456, 457, 197, 198, 199, 200, 15, 201, 98] (by decide +kernel) (by decide +kernel)
set_option maxRecDepth 20000 in
theorem gwL_wsL_isPassage_r9 : GoodIn wsL_law wsL_isPassage_r9 := goodIn_r _ [99, 100, 30, 34, 42, 101, 102, 103, 104, 105, 106, 107, 108, 109, 110, 111, 112, 113, 114, 115, 116, 117, 118, 119] (by decide +kernel) (by decide +kernel)
set_option maxRecDepth 20000 in
theorem gwL_wsL_isPassage_r10 : GoodIn wsL_law wsL_isPassage_r10 := goodIn_r _ [120, 121, 122, 123, 66, 124, 125, 126, 127, 128, 129, 130, 202, 203, 204, 205, 206, 207, 208, 209, 210, 211, 212, 213] (by decide +kernel) (by decide +kernel)
set_option maxRecDepth 20000 in
theorem gwL_wsL_isPassage_r11 : GoodIn wsL_law wsL_isPassage_r11 := goodIn_r _ [214, 545, 546, 547, 548, 483, 484, 485, 549, 550, 551, 552, 553, 502, 488, 503, 504, 505, 506, 490, 491, 492, 493, 494] (by decide +kernel) (by decide +kernel)
set_option maxRecDepth 20000 in
theorem gwL_wsL_isPassage_r12 : GoodIn wsL_law wsL_isPassage_r12 := goodIn_r _ [495, 496, 554, 555, 556, 557, 558, 559, 560, 561, 562, 563, 544, 462, 463, 464, 18, 465, 95, 80, 96, 97, 564, 565] (by decide +kernel) (by decide +kernel)
set_option maxRecDepth 20000 in
theorem gwL_wsL_isPassage_r13 : GoodIn wsL_law wsL_isPassage_r13 := goodIn_r _ [566, 567, 568, 569, 570, 571, 572, 573, 574, 575, 576, 577, 578, 579, 580, 581, 582, 583, 584, 585, 479, 480, 481, 482] (by decide +kernel) (by decide +kernel)
set_option maxRecDepth 20000 in
theorem gwL_wsL_isPassage_r14 : GoodIn wsL_law wsL_isPassage_r14 := goodIn_r _ [486, 487, 489, 87, 88, 89, 90, 91, 92, 93, 94] (by decide +kernel) (by decide +kernel)
set_option maxRecDepth 20000 in
theorem ggL_law_L_isPassage : GoodIn wsL_law wsL_isPassage := gw_cons (goodIn_r [_] [652] (by rfl) (by decide +kernel)) (goodIn_app (goodIn_app (goodIn_app (goodIn_app (goodIn_app (goodIn_app (goodIn_app (goodIn_app (goodIn_app gwL_wsL_isPassage_r1 (goodIn_app gwL_wsL_isPassage_r2 (goodIn_app gwL_wsL_isPassage_r3 (goodIn_app gwL_wsL_isPassage_r4 (goodIn_app gwL_wsL_isPassage_r5 (goodIn_app gwL_wsL_isPassage_r6 (goodIn_app gwL_wsL_isPassage_r7 (goodIn_app gwL_wsL_isPassage_r8 (goodIn_app gwL_wsL_isPassage_r9 (goodIn_app gwL_wsL_isPassage_r10 (goodIn_app gwL_wsL_isPassage_r11 (goodIn_app gwL_wsL_isPassage_r12 (goodIn_app gwL_wsL_isPassage_r13 gwL_wsL_isPassage_r14))))))))))))) gwL_wsX90) gwL_wsX70) gwL_wsX20) gwL_wsX40) gwL_wsX60) gwL_wsX10) gwL_wsX50) gwL_wsX80)
set_option maxRecDepth 20000 in
theorem gL_law_L_isPassage : GoodIn wsL_law (va_wsS RL 140 yL_isPassage wsL_isPassage) := goodIn_app (goodIn_of _ (by decide +kernel)) ggL_law_L_isPassage
theorem dL_law_0 : decode cL_law 0 = .ok (.new 14, 3) := by decide +kernel
theorem dL_law_3 : decode cL_law 3 = .ok (.dup, 1) := by decide +kernel
theorem dL_law_4 : decode cL_law 4 = .ok (.invokespecial 114, 3) := by decide +kernel
theorem dL_law_7 : decode cL_law 7 = .ok (.astore_n 1, 1) := by decide +kernel
theorem dL_law_8 : decode cL_law 8 = .ok (.aload_n 1, 1) := by decide +kernel
theorem dL_law_9 : decode cL_law 9 = .ok (.invokevirtual 111, 3) := by decide +kernel
theorem dL_law_12 : decode cL_law 12 = .ok (.bipush (-2), 2) := by decide +kernel
theorem dL_law_14 : decode cL_law 14 = .ok (.if_icmp .ne 49, 3) := by decide +kernel
theorem dL_law_17 : decode cL_law 17 = .ok (.aload_n 1, 1) := by decide +kernel
theorem dL_law_18 : decode cL_law 18 = .ok (.iconst 0, 1) := by decide +kernel
theorem dL_law_19 : decode cL_law 19 = .ok (.invokevirtual 29, 3) := by decide +kernel
theorem dL_law_22 : decode cL_law 22 = .ok (.iconst 1, 1) := by decide +kernel
theorem dL_law_23 : decode cL_law 23 = .ok (.if_icmp .ne 40, 3) := by decide +kernel
theorem dL_law_26 : decode cL_law 26 = .ok (.aload_n 1, 1) := by decide +kernel
theorem dL_law_27 : decode cL_law 27 = .ok (.iconst 3, 1) := by decide +kernel
theorem dL_law_28 : decode cL_law 28 = .ok (.invokevirtual 19, 3) := by decide +kernel
theorem dL_law_31 : decode cL_law 31 = .ok (.iconst 1, 1) := by decide +kernel
theorem dL_law_32 : decode cL_law 32 = .ok (.if_icmp .ne 31, 3) := by decide +kernel
theorem dL_law_35 : decode cL_law 35 = .ok (.aload_n 1, 1) := by decide +kernel
theorem dL_law_36 : decode cL_law 36 = .ok (.invokevirtual 45, 3) := by decide +kernel
theorem dL_law_39 : decode cL_law 39 = .ok (.ifCond .ne 24, 3) := by decide +kernel
theorem dL_law_42 : decode cL_law 42 = .ok (.aload_n 1, 1) := by decide +kernel
theorem dL_law_43 : decode cL_law 43 = .ok (.iconst 0, 1) := by decide +kernel
theorem dL_law_44 : decode cL_law 44 = .ok (.invokevirtual 102, 3) := by decide +kernel
theorem dL_law_47 : decode cL_law 47 = .ok (.bipush (-4), 2) := by decide +kernel
theorem dL_law_49 : decode cL_law 49 = .ok (.if_icmp .ne 14, 3) := by decide +kernel
theorem dL_law_52 : decode cL_law 52 = .ok (.aload_n 1, 1) := by decide +kernel
theorem dL_law_53 : decode cL_law 53 = .ok (.invokestatic 115, 3) := by decide +kernel
theorem dL_law_56 : decode cL_law 56 = .ok (.ifCond .eq 7, 3) := by decide +kernel
theorem dL_law_59 : decode cL_law 59 = .ok (.iconst 1, 1) := by decide +kernel
theorem dL_law_60 : decode cL_law 60 = .ok (.goto 4, 3) := by decide +kernel
theorem dL_law_63 : decode cL_law 63 = .ok (.iconst 0, 1) := by decide +kernel
theorem dL_law_64 : decode cL_law 64 = .ok (.istore_n 2, 1) := by decide +kernel
theorem dL_law_65 : decode cL_law 65 = .ok (.lconst 0, 1) := by decide +kernel
theorem dL_law_66 : decode cL_law 66 = .ok (.lstore_n 3, 1) := by decide +kernel
theorem dL_law_67 : decode cL_law 67 = .ok (.iconst 0, 1) := by decide +kernel
theorem dL_law_68 : decode cL_law 68 = .ok (.istore 5, 2) := by decide +kernel
theorem dL_law_70 : decode cL_law 70 = .ok (.iload 5, 2) := by decide +kernel
theorem dL_law_72 : decode cL_law 72 = .ok (.bipush 30, 2) := by decide +kernel
theorem dL_law_74 : decode cL_law 74 = .ok (.if_icmp .ge 566, 3) := by decide +kernel
theorem dL_law_77 : decode cL_law 77 = .ok (.iload_n 2, 1) := by decide +kernel
theorem dL_law_78 : decode cL_law 78 = .ok (.ifCond .eq 562, 3) := by decide +kernel
theorem dL_law_81 : decode cL_law 81 = .ok (.aload_n 0, 1) := by decide +kernel
theorem dL_law_82 : decode cL_law 82 = .ok (.iload 5, 2) := by decide +kernel
theorem dL_law_84 : decode cL_law 84 = .ok (.invokestatic 119, 3) := by decide +kernel
theorem dL_law_87 : decode cL_law 87 = .ok (.istore 6, 2) := by decide +kernel
theorem dL_law_89 : decode cL_law 89 = .ok (.iload 6, 2) := by decide +kernel
theorem dL_law_91 : decode cL_law 91 = .ok (.iconst 5, 1) := by decide +kernel
theorem dL_law_92 : decode cL_law 92 = .ok (.ishr, 1) := by decide +kernel
theorem dL_law_93 : decode cL_law 93 = .ok (.sipush 8192, 3) := by decide +kernel
theorem dL_law_96 : decode cL_law 96 = .ok (.invokestatic 123, 3) := by decide +kernel
theorem dL_law_99 : decode cL_law 99 = .ok (.istore 7, 2) := by decide +kernel
theorem dL_law_101 : decode cL_law 101 = .ok (.iload 6, 2) := by decide +kernel
theorem dL_law_103 : decode cL_law 103 = .ok (.bipush 11, 2) := by decide +kernel
theorem dL_law_105 : decode cL_law 105 = .ok (.ishr, 1) := by decide +kernel
theorem dL_law_106 : decode cL_law 106 = .ok (.sipush 8192, 3) := by decide +kernel
theorem dL_law_109 : decode cL_law 109 = .ok (.invokestatic 123, 3) := by decide +kernel
theorem dL_law_112 : decode cL_law 112 = .ok (.istore 8, 2) := by decide +kernel
theorem dL_law_114 : decode cL_law 114 = .ok (.iconst 0, 1) := by decide +kernel
theorem dL_law_115 : decode cL_law 115 = .ok (.istore 9, 2) := by decide +kernel
theorem dL_law_117 : decode cL_law 117 = .ok (.iload 6, 2) := by decide +kernel
theorem dL_law_119 : decode cL_law 119 = .ok (.bipush 18, 2) := by decide +kernel
theorem dL_law_121 : decode cL_law 121 = .ok (.invokestatic 123, 3) := by decide +kernel
theorem dL_law_124 : decode cL_law 124 = .ok (.tableswitch 380 0 15 #[80, 80, 103, 103, 136, 149, 149, 149, 149, 178, 192, 212, 212, 229, 285, 339], 80) := by decide +kernel
theorem dL_law_204 : decode cL_law 204 = .ok (.aload_n 1, 1) := by decide +kernel
theorem dL_law_205 : decode cL_law 205 = .ok (.iload 7, 2) := by decide +kernel
theorem dL_law_207 : decode cL_law 207 = .ok (.iconst 4, 1) := by decide +kernel
theorem dL_law_208 : decode cL_law 208 = .ok (.irem, 1) := by decide +kernel
theorem dL_law_209 : decode cL_law 209 = .ok (.iload 8, 2) := by decide +kernel
theorem dL_law_211 : decode cL_law 211 = .ok (.bipush 64, 2) := by decide +kernel
theorem dL_law_213 : decode cL_law 213 = .ok (.irem, 1) := by decide +kernel
theorem dL_law_214 : decode cL_law 214 = .ok (.iload 7, 2) := by decide +kernel
theorem dL_law_216 : decode cL_law 216 = .ok (.bipush 64, 2) := by decide +kernel
theorem dL_law_218 : decode cL_law 218 = .ok (.irem, 1) := by decide +kernel
