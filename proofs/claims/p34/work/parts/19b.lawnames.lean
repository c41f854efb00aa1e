-- the program's names, words and instructions, as printed by TURN (cut by wip/p34/split19b.py)
theorem gw_cons {big a : List Cond} {c : Cond} (ha : GoodIn big [c]) (hb : GoodIn big a) : GoodIn big (c :: a) := fun w h => (List.mem_cons.mp h).elim (fun e => ha w (List.mem_cons.mpr (Or.inl e))) (hb w)
set_option maxRecDepth 20000 in
theorem ggL_law_X9_init : GoodIn wsL_law wsX9_init := goodIn_r _ [6, 7, 8, 9, 10, 11, 12, 13, 14, 15, 16, 17, 18, 19, 20, 21, 22, 23, 24, 25, 26, 27, 28, 29, 30, 31, 32, 33, 34, 35, 36, 37, 38, 39, 40, 41, 42, 43, 44, 45, 46, 47, 48, 49, 50, 51, 52, 53, 54, 55, 56, 57, 58, 59, 60, 61, 62, 63, 64, 65, 66, 67, 68, 69, 70, 71, 72, 73, 74, 75, 76, 77, 78, 79, 80, 81, 82, 83, 84, 85, 86, 659, 660, 661, 662, 663, 664, 665, 666, 653, 654, 655, 656, 657, 658, 667, 668, 669, 670, 671, 672, 673, 674, 675, 676, 677, 678, 679, 680, 681, 682, 683, 684, 685, 686, 687, 688, 689, 690, 691, 692, 693, 694, 695, 696] (by decide +kernel) (by decide +kernel)
set_option maxRecDepth 20000 in
theorem gL_law_X9_init : GoodIn wsL_law (wsX9_init) := ggL_law_X9_init
set_option maxRecDepth 20000 in
theorem ggL_law_X9_undo : GoodIn wsL_law wsX9_undo := goodIn_r _ [90, 19, 13, 91, 92, 93, 18, 94, 95, 80, 96, 97, 98, 99, 12, 100, 30, 34, 38, 42, 44, 101, 102, 103, 104, 105, 45, 106, 107, 108, 109, 29, 110, 50, 111, 112, 113, 114, 33, 115, 55, 116, 56, 57, 58, 59, 117, 118, 119, 37, 120, 63, 121, 64, 65, 122, 123, 66, 124, 125, 126, 127, 41, 128, 70, 129, 71, 72, 73, 74, 130, 131, 653, 654, 655, 656, 657, 658, 667, 668, 669, 659, 660, 661, 662, 663, 664, 665, 666, 677, 678, 679, 680, 681, 682, 683, 684, 685, 686, 687, 688, 689, 690, 691, 692, 693, 694, 695, 696] (by decide +kernel) (by decide +kernel)
set_option maxRecDepth 20000 in
theorem gL_law_X9_undo : GoodIn wsL_law (wsV RL 111 RX9 yX9_undo wsX9_undo) := goodIn_app (goodIn_of _ (by decide +kernel)) ggL_law_X9_undo
set_option maxRecDepth 20000 in
theorem ggL_law_X9_count : GoodIn wsL_law wsX9_count := goodIn_r _ [135, 13, 19, 23, 136, 137, 138, 139, 29, 140, 141, 142, 143, 144, 145, 146, 147, 148, 50, 149, 150, 151, 37, 152, 153, 154, 155, 156, 64, 157, 158, 159, 160, 161, 162, 163, 164, 165, 166, 167, 65, 168, 169, 170, 41, 171, 131, 653, 654, 655, 656, 657, 658, 659, 660, 661, 662, 663, 664, 665, 666, 683, 684, 685, 686, 687, 688, 689, 667, 668, 669, 670, 671, 672, 673, 674, 675, 676, 677, 690, 691, 692, 693, 694, 695, 696] (by decide +kernel) (by decide +kernel)
set_option maxRecDepth 20000 in
theorem gL_law_X9_count : GoodIn wsL_law (wsV RL 29 RX9 yX9_count wsX9_count) := goodIn_app (goodIn_of _ (by decide +kernel)) ggL_law_X9_count
set_option maxRecDepth 20000 in
theorem ggL_law_X9_code : GoodIn wsL_law wsX9_code := goodIn_r _ [175, 13, 176, 177, 178, 33, 179, 57, 180, 181, 182, 183, 58, 59, 184, 185, 186, 187, 188, 189, 190, 191, 192, 193, 194, 195, 55, 56, 196, 653, 654, 655, 656, 657, 658, 659, 660, 661, 662, 663, 664, 665, 666, 678, 679, 680, 681, 682] (by decide +kernel) (by decide +kernel)
set_option maxRecDepth 20000 in
theorem gL_law_X9_code : GoodIn wsL_law (wsV RL 19 RX9 yX9_code wsX9_code) := goodIn_app (goodIn_of _ (by decide +kernel)) ggL_law_X9_code
set_option maxRecDepth 20000 in
theorem gwL_wsX9_untilIdle_r1 : GoodIn wsL_law wsX9_untilIdle_r1 := goodIn_r _ [15, 13, 201, 98, 99, 12, 100, 30, 34, 38, 42, 44, 101, 102, 103, 104, 105, 45, 106, 107, 108, 109, 29, 110] (by decide +kernel) (by decide +kernel)
set_option maxRecDepth 20000 in
theorem gwL_wsX9_untilIdle_r2 : GoodIn wsL_law wsX9_untilIdle_r2 := goodIn_r _ [50, 111, 112, 113, 114, 33, 115, 55, 116, 56, 57, 58, 59, 117, 118, 119, 37, 120, 63, 121, 64, 65, 122, 123] (by decide +kernel) (by decide +kernel)
set_option maxRecDepth 20000 in
theorem gwL_wsX9_untilIdle_r3 : GoodIn wsL_law wsX9_untilIdle_r3 := goodIn_r _ [66, 124, 125, 126, 127, 41, 128, 70, 129, 71, 72, 73, 74, 130, 131, 202, 203, 204, 205, 206, 207, 208, 209, 164] (by decide +kernel) (by decide +kernel)
set_option maxRecDepth 20000 in
theorem gwL_wsX9_untilIdle_r4 : GoodIn wsL_law wsX9_untilIdle_r4 := goodIn_r _ [165, 166, 167, 157, 158, 159, 210, 193, 194, 195, 196, 181, 182, 183, 211, 212, 213, 214] (by decide +kernel) (by decide +kernel)
set_option maxRecDepth 20000 in
theorem gwL_wsX90 : GoodIn wsL_law wsX90 := goodIn_r _ [653, 654, 655, 656, 657, 658] (by decide +kernel) (by decide +kernel)
set_option maxRecDepth 20000 in
theorem gwL_wsX70 : GoodIn wsL_law wsX70 := goodIn_r _ [659, 660, 661, 662, 663, 664, 665, 666] (by decide +kernel) (by decide +kernel)
set_option maxRecDepth 20000 in
theorem gwL_wsX20 : GoodIn wsL_law wsX20 := goodIn_r _ [677] (by decide +kernel) (by decide +kernel)
set_option maxRecDepth 20000 in
theorem gwL_wsX40 : GoodIn wsL_law wsX40 := goodIn_r _ [678, 679, 680, 681, 682] (by decide +kernel) (by decide +kernel)
set_option maxRecDepth 20000 in
theorem gwL_wsX10 : GoodIn wsL_law wsX10 := goodIn_r _ [683, 684, 685, 686, 687, 688, 689] (by decide +kernel) (by decide +kernel)
set_option maxRecDepth 20000 in
theorem gwL_wsX60 : GoodIn wsL_law wsX60 := goodIn_r _ [690, 691, 692, 693, 694, 695, 696] (by decide +kernel) (by decide +kernel)
set_option maxRecDepth 20000 in
theorem ggL_law_X9_untilIdle : GoodIn wsL_law wsX9_untilIdle := gw_cons (goodIn_r [_] [200] (by rfl) (by decide +kernel)) (goodIn_app (goodIn_app (goodIn_app (goodIn_app (goodIn_app (goodIn_app (goodIn_app gwL_wsX9_untilIdle_r1 (goodIn_app gwL_wsX9_untilIdle_r2 (goodIn_app gwL_wsX9_untilIdle_r3 gwL_wsX9_untilIdle_r4))) gwL_wsX90) gwL_wsX70) gwL_wsX20) gwL_wsX40) gwL_wsX10) gwL_wsX60)
set_option maxRecDepth 20000 in
theorem gL_law_X9_untilIdle : GoodIn wsL_law (wsV RL 45 RX9 yX9_untilIdle wsX9_untilIdle) := goodIn_app (goodIn_of _ (by decide +kernel)) ggL_law_X9_untilIdle
set_option maxRecDepth 20000 in
theorem gwL_wsX9_fault_r1 : GoodIn wsL_law wsX9_fault_r1 := goodIn_r _ [15, 13, 23, 219, 220, 2, 221, 201, 98, 99, 12, 100, 30, 34, 38, 42, 44, 101, 102, 103, 104, 105, 45, 106] (by decide +kernel) (by decide +kernel)
set_option maxRecDepth 20000 in
theorem gwL_wsX9_fault_r2 : GoodIn wsL_law wsX9_fault_r2 := goodIn_r _ [107, 108, 109, 29, 110, 50, 111, 112, 113, 114, 33, 115, 55, 116, 56, 57, 58, 59, 117, 118, 119, 37, 120, 63] (by decide +kernel) (by decide +kernel)
set_option maxRecDepth 20000 in
theorem gwL_wsX9_fault_r3 : GoodIn wsL_law wsX9_fault_r3 := goodIn_r _ [121, 64, 65, 122, 123, 66, 124, 125, 126, 127, 41, 128, 70, 129, 71, 72, 73, 74, 130, 131, 222, 223, 224, 22] (by decide +kernel) (by decide +kernel)
set_option maxRecDepth 20000 in
theorem gwL_wsX9_fault_r4 : GoodIn wsL_law wsX9_fault_r4 := goodIn_r _ [225, 226, 227, 228, 229, 230, 231, 232, 233, 234, 235, 236, 237, 238, 239, 240, 241, 242, 85, 243, 244, 245, 246, 247] (by decide +kernel) (by decide +kernel)
set_option maxRecDepth 20000 in
theorem gwL_wsX9_fault_r5 : GoodIn wsL_law wsX9_fault_r5 := goodIn_r _ [248, 249, 250, 251, 252, 253, 254, 255, 256, 257, 258, 259, 260, 261, 262, 263, 264, 265, 266, 267, 268, 269, 270, 271] (by decide +kernel) (by decide +kernel)
set_option maxRecDepth 20000 in
theorem gwL_wsX9_fault_r6 : GoodIn wsL_law wsX9_fault_r6 := goodIn_r _ [272, 273, 274, 275, 276, 277, 278, 279, 280, 281, 282, 283, 284, 285, 286, 287, 288, 289, 290, 291, 292, 293, 294, 295] (by decide +kernel) (by decide +kernel)
set_option maxRecDepth 20000 in
theorem gwL_wsX9_fault_r7 : GoodIn wsL_law wsX9_fault_r7 := goodIn_r _ [296, 297, 298, 299, 300, 301, 302, 303, 304, 305, 306, 307, 308, 309, 310, 311, 312, 313, 314, 315, 316, 317, 318, 319] (by decide +kernel) (by decide +kernel)
set_option maxRecDepth 20000 in
theorem gwL_wsX9_fault_r8 : GoodIn wsL_law wsX9_fault_r8 := goodIn_r _ [86, 320, 321, 322, 323, 324, 325, 326, 327, 328, 329, 330, 331, 332, 333, 334, 335, 336, 337, 338, 339, 340, 341, 342] (by decide +kernel) (by decide +kernel)
set_option maxRecDepth 20000 in
theorem gwL_wsX9_fault_r9 : GoodIn wsL_law wsX9_fault_r9 := goodIn_r _ [343, 157, 158, 159, 344, 345, 346, 347, 348, 349, 350, 351, 153, 154, 155, 156, 352, 353, 354, 355, 356, 357, 358, 359] (by decide +kernel) (by decide +kernel)
set_option maxRecDepth 20000 in
theorem gwL_wsX9_fault_r10 : GoodIn wsL_law wsX9_fault_r10 := goodIn_r _ [360, 361, 362, 363, 364] (by decide +kernel) (by decide +kernel)
set_option maxRecDepth 20000 in
theorem gwL_wsX80 : GoodIn wsL_law wsX80 := goodIn_r _ [670, 671, 672, 673, 674, 675, 676] (by decide +kernel) (by decide +kernel)
set_option maxRecDepth 20000 in
theorem ggL_law_X9_fault : GoodIn wsL_law wsX9_fault := gw_cons (goodIn_r [_] [218] (by rfl) (by decide +kernel)) (goodIn_app (goodIn_app (goodIn_app (goodIn_app (goodIn_app (goodIn_app (goodIn_app (goodIn_app gwL_wsX9_fault_r1 (goodIn_app gwL_wsX9_fault_r2 (goodIn_app gwL_wsX9_fault_r3 (goodIn_app gwL_wsX9_fault_r4 (goodIn_app gwL_wsX9_fault_r5 (goodIn_app gwL_wsX9_fault_r6 (goodIn_app gwL_wsX9_fault_r7 (goodIn_app gwL_wsX9_fault_r8 (goodIn_app gwL_wsX9_fault_r9 gwL_wsX9_fault_r10))))))))) gwL_wsX90) gwL_wsX80) gwL_wsX70) gwL_wsX20) gwL_wsX40) gwL_wsX10) gwL_wsX60)
set_option maxRecDepth 20000 in
theorem gL_law_X9_fault : GoodIn wsL_law (wsV RL 102 RX9 yX9_fault wsX9_fault) := goodIn_app (goodIn_of _ (by decide +kernel)) ggL_law_X9_fault
set_option maxRecDepth 20000 in
theorem gwL_wsL_areErrors_r1 : GoodIn wsL_law wsL_areErrors_r1 := goodIn_r _ [369, 370, 367, 371, 372, 373, 374, 375, 376, 2, 377, 13, 219, 220, 221, 378, 146, 147, 29, 148, 50, 172, 173, 174] (by decide +kernel) (by decide +kernel)
set_option maxRecDepth 20000 in
theorem gwL_wsL_areErrors_r2 : GoodIn wsL_law wsL_areErrors_r2 := goodIn_r _ [175, 176, 177, 178, 33, 179, 57, 180, 181, 182, 183, 58, 59, 184, 185, 186, 187, 188, 189, 190, 191, 192, 193, 194] (by decide +kernel) (by decide +kernel)
set_option maxRecDepth 20000 in
theorem gwL_wsL_areErrors_r3 : GoodIn wsL_law wsL_areErrors_r3 := goodIn_r _ [195, 55, 56, 196, 379, 380, 381, 382, 383, 384, 385, 12, 386, 44, 387, 388, 389, 390, 391, 154, 155, 37, 156, 64] (by decide +kernel) (by decide +kernel)
set_option maxRecDepth 20000 in
theorem gwL_wsL_areErrors_r4 : GoodIn wsL_law wsL_areErrors_r4 := goodIn_r _ [157, 158, 159, 392, 393, 394, 395, 63, 396, 397, 398, 399, 400, 401, 402, 403, 65, 404, 405, 406, 407, 408, 165, 166] (by decide +kernel) (by decide +kernel)
set_option maxRecDepth 20000 in
theorem gwL_wsL_areErrors_r5 : GoodIn wsL_law wsL_areErrors_r5 := goodIn_r _ [167, 132, 133, 134, 135, 19, 23, 136, 137, 138, 139, 140, 141, 142, 143, 144, 145, 149, 150, 151, 152, 153, 160, 161] (by decide +kernel) (by decide +kernel)
set_option maxRecDepth 20000 in
theorem gwL_wsL_areErrors_r6 : GoodIn wsL_law wsL_areErrors_r6 := goodIn_r _ [162, 163, 164, 168, 169, 170, 41, 171, 131, 409, 410, 411, 412, 413, 414, 415, 416, 70, 71, 72, 73, 417, 418, 419] (by decide +kernel) (by decide +kernel)
set_option maxRecDepth 20000 in
theorem gwL_wsL_areErrors_r7 : GoodIn wsL_law wsL_areErrors_r7 := goodIn_r _ [420, 421, 422, 423, 424, 74, 425, 426, 427, 428, 429, 430, 431, 432, 433, 434, 435, 436, 437, 438, 439, 440, 441, 442] (by decide +kernel) (by decide +kernel)
set_option maxRecDepth 20000 in
theorem gwL_wsL_areErrors_r8 : GoodIn wsL_law wsL_areErrors_r8 := goodIn_r _ [443, 444, 445, 446, 447, 448, 38, 449, 45, 450, 451, 452, 453, 454, 455, 456, 457, 197, 198, 199, 200, 15, 201, 98] (by decide +kernel) (by decide +kernel)
set_option maxRecDepth 20000 in
theorem gwL_wsL_areErrors_r9 : GoodIn wsL_law wsL_areErrors_r9 := goodIn_r _ [99, 100, 30, 34, 42, 101, 102, 103, 104, 105, 106, 107, 108, 109, 110, 111, 112, 113, 114, 115, 116, 117, 118, 119] (by decide +kernel) (by decide +kernel)
set_option maxRecDepth 20000 in
theorem gwL_wsL_areErrors_r10 : GoodIn wsL_law wsL_areErrors_r10 := goodIn_r _ [120, 121, 122, 123, 66, 124, 125, 126, 127, 128, 129, 130, 202, 203, 204, 205, 206, 207, 208, 209, 210, 211, 212, 213] (by decide +kernel) (by decide +kernel)
set_option maxRecDepth 20000 in
theorem gwL_wsL_areErrors_r11 : GoodIn wsL_law wsL_areErrors_r11 := goodIn_r _ [214, 458, 459, 460, 461, 462, 463, 464, 18, 465, 95, 80, 96, 97, 466, 313, 314, 315, 467, 468, 469, 470, 471, 472] (by decide +kernel) (by decide +kernel)
set_option maxRecDepth 20000 in
theorem gwL_wsL_areErrors_r12 : GoodIn wsL_law wsL_areErrors_r12 := goodIn_r _ [473, 474, 475, 476, 477, 478, 479, 480, 481, 482, 483, 484, 485, 486, 487, 488, 489, 490, 491, 492, 493, 494, 495, 496] (by decide +kernel) (by decide +kernel)
set_option maxRecDepth 20000 in
theorem gwL_wsL_areErrors_r13 : GoodIn wsL_law wsL_areErrors_r13 := goodIn_r _ [497, 498, 499, 500, 501, 502, 503, 504, 505, 506, 507, 508, 509, 510, 511, 512, 513, 514, 515, 321, 322, 323, 516, 325] (by decide +kernel) (by decide +kernel)
set_option maxRecDepth 20000 in
theorem gwL_wsL_areErrors_r14 : GoodIn wsL_law wsL_areErrors_r14 := goodIn_r _ [326, 327, 517, 518, 519, 520, 521, 522, 523, 524, 525, 337, 338, 339, 340, 341, 342, 343, 526, 527, 528, 529, 530, 349] (by decide +kernel) (by decide +kernel)
set_option maxRecDepth 20000 in
theorem gwL_wsL_areErrors_r15 : GoodIn wsL_law wsL_areErrors_r15 := goodIn_r _ [350, 351, 531, 532, 533, 534, 535, 536, 537, 538, 539, 540, 541, 542, 543, 544, 545, 546, 547, 548, 549, 550, 551, 552] (by decide +kernel) (by decide +kernel)
set_option maxRecDepth 20000 in
theorem gwL_wsL_areErrors_r16 : GoodIn wsL_law wsL_areErrors_r16 := goodIn_r _ [553, 554, 555, 556, 557, 558, 559, 560, 561, 562, 563, 564, 565, 566, 567, 568, 569, 570, 571, 572, 573, 574, 575, 576] (by decide +kernel) (by decide +kernel)
set_option maxRecDepth 20000 in
theorem gwL_wsL_areErrors_r17 : GoodIn wsL_law wsL_areErrors_r17 := goodIn_r _ [577, 578, 579, 580, 581, 582, 583, 584, 585, 586, 587, 588, 589, 14, 590, 591, 592, 593, 594, 595, 596, 597, 598, 599] (by decide +kernel) (by decide +kernel)
set_option maxRecDepth 20000 in
theorem gwL_wsL_areErrors_r18 : GoodIn wsL_law wsL_areErrors_r18 := goodIn_r _ [600, 601, 602, 603, 604, 605, 606, 607, 608, 609, 610, 611, 612, 613, 614, 615, 22, 616, 228, 617, 618, 619, 620, 85] (by decide +kernel) (by decide +kernel)
set_option maxRecDepth 20000 in
theorem gwL_wsL_areErrors_r19 : GoodIn wsL_law wsL_areErrors_r19 := goodIn_r _ [215, 216, 217, 218, 222, 223, 224, 225, 226, 227, 229, 230, 231, 232, 233, 234, 235, 236, 237, 238, 239, 240, 241, 242] (by decide +kernel) (by decide +kernel)
set_option maxRecDepth 20000 in
theorem gwL_wsL_areErrors_r20 : GoodIn wsL_law wsL_areErrors_r20 := goodIn_r _ [243, 244, 245, 246, 247, 248, 249, 250, 251, 252, 253, 254, 255, 256, 257, 258, 259, 260, 261, 262, 263, 264, 265, 266] (by decide +kernel) (by decide +kernel)
set_option maxRecDepth 20000 in
theorem gwL_wsL_areErrors_r21 : GoodIn wsL_law wsL_areErrors_r21 := goodIn_r _ [267, 268, 269, 270, 271, 272, 273, 274, 275, 276, 277, 278, 279, 280, 281, 282, 283, 284, 285, 286, 287, 288, 289, 290] (by decide +kernel) (by decide +kernel)
set_option maxRecDepth 20000 in
theorem gwL_wsL_areErrors_r22 : GoodIn wsL_law wsL_areErrors_r22 := goodIn_r _ [291, 292, 293, 294, 295, 296, 297, 298, 299, 300, 301, 302, 303, 304, 305, 306, 307, 308, 309, 310, 311, 312, 316, 317] (by decide +kernel) (by decide +kernel)
set_option maxRecDepth 20000 in
theorem gwL_wsL_areErrors_r23 : GoodIn wsL_law wsL_areErrors_r23 := goodIn_r _ [318, 319, 86, 320, 324, 328, 329, 330, 331, 332, 333, 334, 335, 336, 344, 345, 346, 347, 348, 352, 353, 354, 355, 356] (by decide +kernel) (by decide +kernel)
set_option maxRecDepth 20000 in
theorem gwL_wsL_areErrors_r24 : GoodIn wsL_law wsL_areErrors_r24 := goodIn_r _ [357, 358, 359, 360, 361, 362, 363, 364, 621, 622, 623, 624, 625, 626, 627, 628] (by decide +kernel) (by decide +kernel)
set_option maxRecDepth 20000 in
theorem gwL_wsX50 : GoodIn wsL_law wsX50 := goodIn_r _ [667, 668, 669] (by decide +kernel) (by decide +kernel)
set_option maxRecDepth 20000 in
theorem ggL_law_L_areErrors : GoodIn wsL_law wsL_areErrors := gw_cons (goodIn_r [_] [368] (by rfl) (by decide +kernel)) (goodIn_app (goodIn_app (goodIn_app (goodIn_app (goodIn_app (goodIn_app (goodIn_app (goodIn_app (goodIn_app gwL_wsL_areErrors_r1 (goodIn_app gwL_wsL_areErrors_r2 (goodIn_app gwL_wsL_areErrors_r3 (goodIn_app gwL_wsL_areErrors_r4 (goodIn_app gwL_wsL_areErrors_r5 (goodIn_app gwL_wsL_areErrors_r6 (goodIn_app gwL_wsL_areErrors_r7 (goodIn_app gwL_wsL_areErrors_r8 (goodIn_app gwL_wsL_areErrors_r9 (goodIn_app gwL_wsL_areErrors_r10 (goodIn_app gwL_wsL_areErrors_r11 (goodIn_app gwL_wsL_areErrors_r12 (goodIn_app gwL_wsL_areErrors_r13 (goodIn_app gwL_wsL_areErrors_r14 (goodIn_app gwL_wsL_areErrors_r15 (goodIn_app gwL_wsL_areErrors_r16 (goodIn_app gwL_wsL_areErrors_r17 (goodIn_app gwL_wsL_areErrors_r18 (goodIn_app gwL_wsL_areErrors_r19 (goodIn_app gwL_wsL_areErrors_r20 (goodIn_app gwL_wsL_areErrors_r21 (goodIn_app gwL_wsL_areErrors_r22 (goodIn_app gwL_wsL_areErrors_r23 gwL_wsL_areErrors_r24))))))))))))))))))))))) gwL_wsX90) gwL_wsX70) gwL_wsX20) gwL_wsX40) gwL_wsX60) gwL_wsX10) gwL_wsX50) gwL_wsX80)
set_option maxRecDepth 20000 in
theorem gL_law_L_areErrors : GoodIn wsL_law (va_wsS RL 115 yL_areErrors wsL_areErrors) := goodIn_app (goodIn_of _ (by decide +kernel)) ggL_law_L_areErrors
set_option maxRecDepth 20000 in
theorem ggL_law_L_cell : GoodIn wsL_law wsL_cell := goodIn_r _ [631, 632] (by decide +kernel) (by decide +kernel)
set_option maxRecDepth 20000 in
theorem gL_law_L_cell : GoodIn wsL_law (va_wsS RL 119 yL_cell wsL_cell) := goodIn_app (goodIn_of _ (by decide +kernel)) ggL_law_L_cell
set_option maxRecDepth 20000 in
theorem ggL_law_L_low : GoodIn wsL_law wsL_low := goodIn_r _ [635, 636] (by decide +kernel) (by decide +kernel)
set_option maxRecDepth 20000 in
theorem gL_law_L_low : GoodIn wsL_law (va_wsS RL 123 yL_low wsL_low) := goodIn_app (goodIn_of _ (by decide +kernel)) ggL_law_L_low
set_option maxRecDepth 20000 in
theorem gwL_wsX9_paint_r1 : GoodIn wsL_law wsX9_paint_r1 := goodIn_r _ [19, 13, 219, 220, 2, 221, 462, 463, 464, 18, 465, 95, 80, 96, 97, 98, 99, 12, 100, 30, 34, 38, 42, 44] (by decide +kernel) (by decide +kernel)
set_option maxRecDepth 20000 in
theorem gwL_wsX9_paint_r2 : GoodIn wsL_law wsX9_paint_r2 := goodIn_r _ [101, 102, 103, 104, 105, 45, 106, 107, 108, 109, 29, 110, 50, 111, 112, 113, 114, 33, 115, 55, 116, 56, 57, 58] (by decide +kernel) (by decide +kernel)
set_option maxRecDepth 20000 in
theorem gwL_wsX9_paint_r3 : GoodIn wsL_law wsX9_paint_r3 := goodIn_r _ [59, 117, 118, 119, 37, 120, 63, 121, 64, 65, 122, 123, 66, 124, 125, 126, 127, 41, 128, 70, 129, 71, 72, 73] (by decide +kernel) (by decide +kernel)
set_option maxRecDepth 20000 in
theorem gwL_wsX9_paint_r4 : GoodIn wsL_law wsX9_paint_r4 := goodIn_r _ [74, 130, 131, 466, 313, 314, 315] (by decide +kernel) (by decide +kernel)
set_option maxRecDepth 20000 in
theorem ggL_law_X9_paint : GoodIn wsL_law wsX9_paint := gw_cons (goodIn_r [_] [461] (by rfl) (by decide +kernel)) (goodIn_app (goodIn_app (goodIn_app (goodIn_app (goodIn_app (goodIn_app (goodIn_app (goodIn_app gwL_wsX9_paint_r1 (goodIn_app gwL_wsX9_paint_r2 (goodIn_app gwL_wsX9_paint_r3 gwL_wsX9_paint_r4))) gwL_wsX90) gwL_wsX70) gwL_wsX50) gwL_wsX20) gwL_wsX40) gwL_wsX10) gwL_wsX60)
