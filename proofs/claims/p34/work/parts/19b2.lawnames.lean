-- the program's names, words and instructions, as printed by TURN (cut by wip/p34/split19b.py)
set_option maxRecDepth 20000 in
theorem gL_law_X9_paint : GoodIn wsL_law (wsV RL 55 RX9 yX9_paint wsX9_paint) := goodIn_app (goodIn_of _ (by decide +kernel)) ggL_law_X9_paint
set_option maxRecDepth 20000 in
theorem gwL_wsX9_setCode_r1 : GoodIn wsL_law wsX9_setCode_r1 := goodIn_r _ [13, 19, 219, 220, 2, 221, 511, 512, 513, 33, 514, 57, 462, 463, 464, 18, 465, 95, 80, 96, 97, 98, 99, 12] (by decide +kernel) (by decide +kernel)
set_option maxRecDepth 20000 in
theorem gwL_wsX9_setCode_r2 : GoodIn wsL_law wsX9_setCode_r2 := goodIn_r _ [100, 30, 34, 38, 42, 44, 101, 102, 103, 104, 105, 45, 106, 107, 108, 109, 29, 110, 50, 111, 112, 113, 114, 115] (by decide +kernel) (by decide +kernel)
set_option maxRecDepth 20000 in
theorem gwL_wsX9_setCode_r3 : GoodIn wsL_law wsX9_setCode_r3 := goodIn_r _ [55, 116, 56, 58, 59, 117, 118, 119, 37, 120, 63, 121, 64, 65, 122, 123, 66, 124, 125, 126, 127, 41, 128, 70] (by decide +kernel) (by decide +kernel)
set_option maxRecDepth 20000 in
theorem gwL_wsX9_setCode_r4 : GoodIn wsL_law wsX9_setCode_r4 := goodIn_r _ [129, 71, 72, 73, 74, 130, 131, 515, 321, 322, 323, 516, 325, 326, 327, 180, 181, 182, 183] (by decide +kernel) (by decide +kernel)
set_option maxRecDepth 20000 in
theorem ggL_law_X9_setCode : GoodIn wsL_law wsX9_setCode := gw_cons (goodIn_r [_] [510] (by rfl) (by decide +kernel)) (goodIn_app (goodIn_app (goodIn_app (goodIn_app (goodIn_app (goodIn_app (goodIn_app (goodIn_app gwL_wsX9_setCode_r1 (goodIn_app gwL_wsX9_setCode_r2 (goodIn_app gwL_wsX9_setCode_r3 gwL_wsX9_setCode_r4))) gwL_wsX90) gwL_wsX70) gwL_wsX40) gwL_wsX50) gwL_wsX20) gwL_wsX10) gwL_wsX60)
set_option maxRecDepth 20000 in
theorem gL_law_X9_setCode : GoodIn wsL_law (wsV RL 68 RX9 yX9_setCode wsX9_setCode) := goodIn_app (goodIn_of _ (by decide +kernel)) ggL_law_X9_setCode
set_option maxRecDepth 20000 in
theorem gwL_wsX9_setChanger_r1 : GoodIn wsL_law wsX9_setChanger_r1 := goodIn_r _ [19, 13, 219, 220, 2, 221, 462, 463, 464, 18, 465, 95, 80, 96, 97, 98, 99, 12, 100, 30, 34, 38, 42, 44] (by decide +kernel) (by decide +kernel)
set_option maxRecDepth 20000 in
theorem gwL_wsX9_setChanger_r2 : GoodIn wsL_law wsX9_setChanger_r2 := goodIn_r _ [101, 102, 103, 104, 105, 45, 106, 107, 108, 109, 29, 110, 50, 111, 112, 113, 114, 33, 115, 55, 116, 56, 57, 58] (by decide +kernel) (by decide +kernel)
set_option maxRecDepth 20000 in
theorem gwL_wsX9_setChanger_r3 : GoodIn wsL_law wsX9_setChanger_r3 := goodIn_r _ [59, 117, 118, 119, 37, 120, 63, 121, 64, 65, 122, 123, 66, 124, 125, 126, 127, 41, 128, 70, 129, 71, 72, 73] (by decide +kernel) (by decide +kernel)
set_option maxRecDepth 20000 in
theorem gwL_wsX9_setChanger_r4 : GoodIn wsL_law wsX9_setChanger_r4 := goodIn_r _ [74, 130, 131, 149, 150, 151, 152, 153, 154, 155, 156, 157, 158, 159, 525, 337, 338, 339, 340, 341, 342, 343] (by decide +kernel) (by decide +kernel)
set_option maxRecDepth 20000 in
theorem ggL_law_X9_setChanger : GoodIn wsL_law wsX9_setChanger := gw_cons (goodIn_r [_] [524] (by rfl) (by decide +kernel)) (goodIn_app (goodIn_app (goodIn_app (goodIn_app (goodIn_app (goodIn_app (goodIn_app (goodIn_app gwL_wsX9_setChanger_r1 (goodIn_app gwL_wsX9_setChanger_r2 (goodIn_app gwL_wsX9_setChanger_r3 gwL_wsX9_setChanger_r4))) gwL_wsX90) gwL_wsX70) gwL_wsX50) gwL_wsX20) gwL_wsX40) gwL_wsX10) gwL_wsX60)
set_option maxRecDepth 20000 in
theorem gL_law_X9_setChanger : GoodIn wsL_law (wsV RL 74 RX9 yX9_setChanger wsX9_setChanger) := goodIn_app (goodIn_of _ (by decide +kernel)) ggL_law_X9_setChanger
set_option maxRecDepth 20000 in
theorem gwL_wsX9_addLamp_r1 : GoodIn wsL_law wsX9_addLamp_r1 := goodIn_r _ [13, 19, 219, 220, 2, 221, 530, 349, 350, 37, 351, 153, 154, 155, 156, 64, 157, 158, 159, 462, 463, 464, 18, 465] (by decide +kernel) (by decide +kernel)
set_option maxRecDepth 20000 in
theorem gwL_wsX9_addLamp_r2 : GoodIn wsL_law wsX9_addLamp_r2 := goodIn_r _ [95, 80, 96, 97, 98, 99, 12, 100, 30, 34, 38, 42, 44, 101, 102, 103, 104, 105, 45, 106, 107, 108, 109, 29] (by decide +kernel) (by decide +kernel)
set_option maxRecDepth 20000 in
theorem gwL_wsX9_addLamp_r3 : GoodIn wsL_law wsX9_addLamp_r3 := goodIn_r _ [110, 50, 111, 112, 113, 114, 33, 115, 55, 116, 56, 57, 58, 59, 117, 118, 119, 120, 63, 121, 65, 122, 123, 66] (by decide +kernel) (by decide +kernel)
set_option maxRecDepth 20000 in
theorem gwL_wsX9_addLamp_r4 : GoodIn wsL_law wsX9_addLamp_r4 := goodIn_r _ [124, 125, 126, 127, 41, 128, 70, 129, 71, 72, 73, 74, 130, 131, 531, 341, 342, 343] (by decide +kernel) (by decide +kernel)
set_option maxRecDepth 20000 in
theorem ggL_law_X9_addLamp : GoodIn wsL_law wsX9_addLamp := gw_cons (goodIn_r [_] [529] (by rfl) (by decide +kernel)) (goodIn_app (goodIn_app (goodIn_app (goodIn_app (goodIn_app (goodIn_app (goodIn_app (goodIn_app gwL_wsX9_addLamp_r1 (goodIn_app gwL_wsX9_addLamp_r2 (goodIn_app gwL_wsX9_addLamp_r3 gwL_wsX9_addLamp_r4))) gwL_wsX90) gwL_wsX70) gwL_wsX10) gwL_wsX50) gwL_wsX20) gwL_wsX40) gwL_wsX60)
set_option maxRecDepth 20000 in
theorem gL_law_X9_addLamp : GoodIn wsL_law (wsV RL 77 RX9 yX9_addLamp wsX9_addLamp) := goodIn_app (goodIn_of _ (by decide +kernel)) ggL_law_X9_addLamp
set_option maxRecDepth 20000 in
theorem gwL_wsX9_takeLamp_r1 : GoodIn wsL_law wsX9_takeLamp_r1 := goodIn_r _ [13, 19, 219, 220, 2, 221, 391, 154, 155, 37, 156, 64, 157, 158, 159, 462, 463, 464, 18, 465, 95, 80, 96, 97] (by decide +kernel) (by decide +kernel)
set_option maxRecDepth 20000 in
theorem gwL_wsX9_takeLamp_r2 : GoodIn wsL_law wsX9_takeLamp_r2 := goodIn_r _ [98, 99, 12, 100, 30, 34, 38, 42, 44, 101, 102, 103, 104, 105, 45, 106, 107, 108, 109, 29, 110, 50, 111, 112] (by decide +kernel) (by decide +kernel)
set_option maxRecDepth 20000 in
theorem gwL_wsX9_takeLamp_r3 : GoodIn wsL_law wsX9_takeLamp_r3 := goodIn_r _ [113, 114, 33, 115, 55, 116, 56, 57, 58, 59, 117, 118, 119, 120, 63, 121, 65, 122, 123, 66, 124, 125, 126, 127] (by decide +kernel) (by decide +kernel)
set_option maxRecDepth 20000 in
theorem gwL_wsX9_takeLamp_r4 : GoodIn wsL_law wsX9_takeLamp_r4 := goodIn_r _ [41, 128, 70, 129, 71, 72, 73, 74, 130, 131, 400, 401, 402, 403, 531, 341, 342, 343] (by decide +kernel) (by decide +kernel)
set_option maxRecDepth 20000 in
theorem ggL_law_X9_takeLamp : GoodIn wsL_law wsX9_takeLamp := gw_cons (goodIn_r [_] [535] (by rfl) (by decide +kernel)) (goodIn_app (goodIn_app (goodIn_app (goodIn_app (goodIn_app (goodIn_app (goodIn_app (goodIn_app gwL_wsX9_takeLamp_r1 (goodIn_app gwL_wsX9_takeLamp_r2 (goodIn_app gwL_wsX9_takeLamp_r3 gwL_wsX9_takeLamp_r4))) gwL_wsX90) gwL_wsX70) gwL_wsX10) gwL_wsX50) gwL_wsX20) gwL_wsX40) gwL_wsX60)
set_option maxRecDepth 20000 in
theorem gL_law_X9_takeLamp : GoodIn wsL_law (wsV RL 80 RX9 yX9_takeLamp wsX9_takeLamp) := goodIn_app (goodIn_of _ (by decide +kernel)) ggL_law_X9_takeLamp
set_option maxRecDepth 20000 in
theorem ggL_law_X9_set : GoodIn wsL_law wsX9_set := goodIn_r _ [539, 19, 13, 219, 220, 2, 221, 462, 463, 464, 18, 465, 95, 80, 96, 97, 98, 99, 12, 100, 30, 34, 38, 42, 44, 101, 102, 103, 104, 105, 45, 106, 107, 108, 109, 29, 110, 50, 111, 112, 113, 114, 33, 115, 55, 116, 56, 57, 58, 59, 117, 118, 119, 37, 120, 63, 121, 64, 65, 122, 123, 66, 124, 125, 126, 127, 41, 128, 70, 129, 71, 72, 73, 74, 130, 131, 653, 654, 655, 656, 657, 658, 659, 660, 661, 662, 663, 664, 665, 666, 683, 684, 685, 686, 687, 688, 689, 667, 668, 669, 677, 678, 679, 680, 681, 682, 690, 691, 692, 693, 694, 695, 696] (by decide +kernel) (by decide +kernel)
set_option maxRecDepth 20000 in
theorem gL_law_X9_set : GoodIn wsL_law (wsV RL 83 RX9 yX9_set wsX9_set) := goodIn_app (goodIn_of _ (by decide +kernel)) ggL_law_X9_set
set_option maxRecDepth 20000 in
theorem gwL_wsX9_advance_r1 : GoodIn wsL_law wsX9_advance_r1 := goodIn_r _ [544, 13, 19, 219, 220, 2, 221, 462, 463, 464, 18, 465, 95, 80, 96, 97, 98, 99, 12, 100, 30, 34, 38, 42] (by decide +kernel) (by decide +kernel)
set_option maxRecDepth 20000 in
theorem gwL_wsX9_advance_r2 : GoodIn wsL_law wsX9_advance_r2 := goodIn_r _ [44, 101, 102, 103, 104, 105, 45, 106, 107, 108, 109, 29, 110, 50, 111, 112, 113, 114, 33, 115, 55, 116, 56, 57] (by decide +kernel) (by decide +kernel)
set_option maxRecDepth 20000 in
theorem gwL_wsX9_advance_r3 : GoodIn wsL_law wsX9_advance_r3 := goodIn_r _ [58, 59, 117, 118, 119, 37, 120, 63, 121, 64, 65, 122, 123, 66, 124, 125, 126, 127, 41, 128, 70, 129, 71, 72] (by decide +kernel) (by decide +kernel)
set_option maxRecDepth 20000 in
theorem gwL_wsX9_advance_r4 : GoodIn wsL_law wsX9_advance_r4 := goodIn_r _ [73, 74, 130, 131, 202, 203, 204, 205, 206, 207, 208, 209, 164, 165, 166, 167, 157, 158, 159, 210, 193, 194, 195, 196] (by decide +kernel) (by decide +kernel)
set_option maxRecDepth 20000 in
theorem gwL_wsX9_advance_r5 : GoodIn wsL_law wsX9_advance_r5 := goodIn_r _ [181, 182, 183, 211, 212, 213, 214] (by decide +kernel) (by decide +kernel)
set_option maxRecDepth 20000 in
theorem ggL_law_X9_advance : GoodIn wsL_law wsX9_advance := gw_cons (goodIn_r [_] [543] (by rfl) (by decide +kernel)) (goodIn_app (goodIn_app (goodIn_app (goodIn_app (goodIn_app (goodIn_app (goodIn_app (goodIn_app gwL_wsX9_advance_r1 (goodIn_app gwL_wsX9_advance_r2 (goodIn_app gwL_wsX9_advance_r3 (goodIn_app gwL_wsX9_advance_r4 gwL_wsX9_advance_r5)))) gwL_wsX90) gwL_wsX70) gwL_wsX50) gwL_wsX20) gwL_wsX40) gwL_wsX10) gwL_wsX60)
set_option maxRecDepth 20000 in
theorem gL_law_X9_advance : GoodIn wsL_law (wsV RL 86 RX9 yX9_advance wsX9_advance) := goodIn_app (goodIn_of _ (by decide +kernel)) ggL_law_X9_advance
set_option maxRecDepth 20000 in
theorem gwL_wsX9_pass_r1 : GoodIn wsL_law wsX9_pass_r1 := goodIn_r _ [544, 13, 19, 483, 484, 2, 485, 219, 220, 221, 462, 463, 464, 18, 465, 95, 80, 96, 97, 98, 99, 12, 100, 30] (by decide +kernel) (by decide +kernel)
set_option maxRecDepth 20000 in
theorem gwL_wsX9_pass_r2 : GoodIn wsL_law wsX9_pass_r2 := goodIn_r _ [34, 38, 42, 44, 101, 102, 103, 104, 105, 45, 106, 107, 108, 109, 29, 110, 50, 111, 112, 113, 114, 33, 115, 55] (by decide +kernel) (by decide +kernel)
set_option maxRecDepth 20000 in
theorem gwL_wsX9_pass_r3 : GoodIn wsL_law wsX9_pass_r3 := goodIn_r _ [116, 56, 57, 58, 59, 117, 118, 119, 37, 120, 63, 121, 64, 65, 122, 123, 66, 124, 125, 126, 127, 41, 128, 70] (by decide +kernel) (by decide +kernel)
set_option maxRecDepth 20000 in
theorem gwL_wsX9_pass_r4 : GoodIn wsL_law wsX9_pass_r4 := goodIn_r _ [129, 71, 72, 73, 74, 130, 131, 564, 565, 566, 567, 568, 569, 570, 571, 572, 573, 574, 575, 576, 203, 204, 205, 206] (by decide +kernel) (by decide +kernel)
set_option maxRecDepth 20000 in
theorem gwL_wsX9_pass_r5 : GoodIn wsL_law wsX9_pass_r5 := goodIn_r _ [207, 208, 209, 164, 165, 166, 167, 157, 158, 159, 210, 193, 194, 195, 196, 181, 182, 183, 211, 212, 213, 214, 577, 550] (by decide +kernel) (by decide +kernel)
set_option maxRecDepth 20000 in
theorem gwL_wsX9_pass_r6 : GoodIn wsL_law wsX9_pass_r6 := goodIn_r _ [551, 552, 553, 502, 488, 503, 504, 505, 506, 490, 491, 492, 493, 494, 495, 496, 554, 146, 147, 148, 555, 556, 557, 558] (by decide +kernel) (by decide +kernel)
set_option maxRecDepth 20000 in
theorem gwL_wsX9_pass_r7 : GoodIn wsL_law wsX9_pass_r7 := goodIn_r _ [559, 446, 447, 448, 449, 450, 451, 405, 406, 407, 452, 453, 454, 578, 579, 580, 581, 582, 583, 584, 585] (by decide +kernel) (by decide +kernel)
set_option maxRecDepth 20000 in
theorem ggL_law_X9_pass : GoodIn wsL_law wsX9_pass := gw_cons (goodIn_r [_] [563] (by rfl) (by decide +kernel)) (goodIn_app (goodIn_app (goodIn_app (goodIn_app (goodIn_app (goodIn_app (goodIn_app (goodIn_app gwL_wsX9_pass_r1 (goodIn_app gwL_wsX9_pass_r2 (goodIn_app gwL_wsX9_pass_r3 (goodIn_app gwL_wsX9_pass_r4 (goodIn_app gwL_wsX9_pass_r5 (goodIn_app gwL_wsX9_pass_r6 gwL_wsX9_pass_r7)))))) gwL_wsX90) gwL_wsX70) gwL_wsX60) gwL_wsX50) gwL_wsX20) gwL_wsX40) gwL_wsX10)
set_option maxRecDepth 20000 in
theorem gL_law_X9_pass : GoodIn wsL_law (wsV RL 92 RX9 yX9_pass wsX9_pass) := goodIn_app (goodIn_of _ (by decide +kernel)) ggL_law_X9_pass
set_option maxRecDepth 20000 in
theorem ggL_law_X9_store : GoodIn wsL_law wsX9_store := goodIn_r _ [640, 14, 13, 136, 201, 98, 99, 12, 100, 30, 34, 38, 42, 44, 101, 102, 103, 104, 105, 45, 106, 107, 108, 109, 29, 110, 50, 111, 112, 113, 114, 33, 115, 55, 116, 56, 57, 58, 59, 117, 118, 119, 37, 120, 63, 121, 64, 65, 122, 123, 66, 124, 125, 126, 127, 41, 128, 70, 129, 71, 72, 73, 74, 130, 131, 653, 654, 655, 656, 657, 658, 659, 660, 661, 662, 663, 664, 665, 666, 677, 678, 679, 680, 681, 682, 683, 684, 685, 686, 687, 688, 689, 690, 691, 692, 693, 694, 695, 696] (by decide +kernel) (by decide +kernel)
set_option maxRecDepth 20000 in
theorem gL_law_X9_store : GoodIn wsL_law (wsV RL 126 RX9 yX9_store wsX9_store) := goodIn_app (goodIn_of _ (by decide +kernel)) ggL_law_X9_store
set_option maxRecDepth 20000 in
theorem gwL_wsL_print_r1 : GoodIn wsL_law wsL_print_r1 := goodIn_r _ [372, 373, 374, 375, 376, 2, 377, 13, 219, 220, 221, 378, 146, 147, 29, 148, 50, 172, 173, 174, 175, 176, 177, 178] (by decide +kernel) (by decide +kernel)
set_option maxRecDepth 20000 in
theorem gwL_wsL_print_r2 : GoodIn wsL_law wsL_print_r2 := goodIn_r _ [33, 179, 57, 180, 181, 182, 183, 58, 59, 184, 185, 186, 187, 188, 189, 190, 191, 192, 193, 194, 195, 55, 56, 196] (by decide +kernel) (by decide +kernel)
set_option maxRecDepth 20000 in
theorem gwL_wsL_print_r3 : GoodIn wsL_law wsL_print_r3 := goodIn_r _ [379, 380, 381, 382, 383, 384, 385, 12, 386, 44, 387, 388, 389, 390, 391, 154, 155, 37, 156, 64, 157, 158, 159, 392] (by decide +kernel) (by decide +kernel)
set_option maxRecDepth 20000 in
theorem gwL_wsL_print_r4 : GoodIn wsL_law wsL_print_r4 := goodIn_r _ [393, 394, 395, 63, 396, 397, 398, 399, 400, 401, 402, 403, 65, 404, 405, 406, 407, 408, 165, 166, 167, 132, 133, 134] (by decide +kernel) (by decide +kernel)
set_option maxRecDepth 20000 in
theorem gwL_wsL_print_r5 : GoodIn wsL_law wsL_print_r5 := goodIn_r _ [135, 19, 23, 136, 137, 138, 139, 140, 141, 142, 143, 144, 145, 149, 150, 151, 152, 153, 160, 161, 162, 163, 164, 168] (by decide +kernel) (by decide +kernel)
set_option maxRecDepth 20000 in
theorem gwL_wsL_print_r6 : GoodIn wsL_law wsL_print_r6 := goodIn_r _ [169, 170, 41, 171, 131, 409, 410, 411, 412, 413, 414, 415, 416, 70, 71, 72, 73, 417, 418, 419, 420, 421, 422, 423] (by decide +kernel) (by decide +kernel)
set_option maxRecDepth 20000 in
theorem gwL_wsL_print_r7 : GoodIn wsL_law wsL_print_r7 := goodIn_r _ [424, 74, 425, 426, 427, 428, 429, 430, 431, 432, 433, 434, 435, 436, 437, 438, 439, 440, 441, 442, 443, 444, 445, 446] (by decide +kernel) (by decide +kernel)
set_option maxRecDepth 20000 in
theorem gwL_wsL_print_r8 : GoodIn wsL_law wsL_print_r8 := goodIn_r _ [447, 448, 38, 449, 45, 450, 451, 452, 453, 454, 455, 456, 457, 197, 198, 199, 200, 15, 201, 98, 99, 100, 30, 34] (by decide +kernel) (by decide +kernel)
set_option maxRecDepth 20000 in
theorem gwL_wsL_print_r9 : GoodIn wsL_law wsL_print_r9 := goodIn_r _ [42, 101, 102, 103, 104, 105, 106, 107, 108, 109, 110, 111, 112, 113, 114, 115, 116, 117, 118, 119, 120, 121, 122, 123] (by decide +kernel) (by decide +kernel)
set_option maxRecDepth 20000 in
theorem gwL_wsL_print_r10 : GoodIn wsL_law wsL_print_r10 := goodIn_r _ [66, 124, 125, 126, 127, 128, 129, 130, 202, 203, 204, 205, 206, 207, 208, 209, 210, 211, 212, 213, 214] (by decide +kernel) (by decide +kernel)
set_option maxRecDepth 20000 in
theorem ggL_law_L_print : GoodIn wsL_law wsL_print := gw_cons (goodIn_r [_] [371] (by rfl) (by decide +kernel)) (goodIn_app (goodIn_app (goodIn_app (goodIn_app (goodIn_app (goodIn_app (goodIn_app (goodIn_app (goodIn_app gwL_wsL_print_r1 (goodIn_app gwL_wsL_print_r2 (goodIn_app gwL_wsL_print_r3 (goodIn_app gwL_wsL_print_r4 (goodIn_app gwL_wsL_print_r5 (goodIn_app gwL_wsL_print_r6 (goodIn_app gwL_wsL_print_r7 (goodIn_app gwL_wsL_print_r8 (goodIn_app gwL_wsL_print_r9 gwL_wsL_print_r10))))))))) gwL_wsX90) gwL_wsX70) gwL_wsX20) gwL_wsX40) gwL_wsX60) gwL_wsX10) gwL_wsX50) gwL_wsX80)
set_option maxRecDepth 20000 in
theorem gL_law_L_print : GoodIn wsL_law (va_wsS RL 49 yL_print wsL_print) := goodIn_app (goodIn_of _ (by decide +kernel)) ggL_law_L_print
set_option maxRecDepth 20000 in
theorem ggL_law_X9_compare : GoodIn wsL_law wsX9_compare := goodIn_r _ [589, 136, 13, 14, 544, 219, 220, 2, 221, 590, 591, 592, 29, 593, 145, 146, 147, 148, 50, 594, 595, 596, 33, 597, 57, 55, 56, 598, 599, 600, 37, 601, 602, 603, 604, 605, 122, 153, 154, 155, 156, 64, 157, 158, 159, 606, 393, 394, 395, 63, 607, 397, 398, 399, 608, 401, 402, 403, 65, 653, 654, 655, 656, 657, 658, 659, 660, 661, 662, 663, 664, 665, 666, 677, 678, 679, 680, 681, 682, 683, 684, 685, 686, 687, 688, 689] (by decide +kernel) (by decide +kernel)
set_option maxRecDepth 20000 in
theorem gL_law_X9_compare : GoodIn wsL_law (wsV RL 96 RX9 yX9_compare wsX9_compare) := goodIn_app (goodIn_of _ (by decide +kernel)) ggL_law_X9_compare
set_option maxRecDepth 20000 in
theorem ggL_law_X9_recall : GoodIn wsL_law wsX9_recall := goodIn_r _ [628, 136, 19, 13, 14, 462, 463, 464, 18, 465, 95, 80, 96, 97, 98, 99, 12, 100, 30, 34, 38, 42, 44, 101, 102, 103, 104, 105, 45, 106, 107, 108, 109, 29, 110, 50, 111, 112, 113, 114, 33, 115, 55, 116, 56, 57, 58, 59, 117, 118, 119, 37, 120, 63, 121, 64, 65, 122, 123, 66, 124, 125, 126, 127, 41, 128, 70, 129, 71, 72, 73, 74, 130, 131, 201, 653, 654, 655, 656, 657, 658, 659, 660, 661, 662, 663, 664, 665, 666, 667, 668, 669, 677, 678, 679, 680, 681, 682, 683, 684, 685, 686, 687, 688, 689, 690, 691, 692, 693, 694, 695, 696] (by decide +kernel) (by decide +kernel)
set_option maxRecDepth 20000 in
theorem gL_law_X9_recall : GoodIn wsL_law (wsV RL 108 RX9 yX9_recall wsX9_recall) := goodIn_app (goodIn_of _ (by decide +kernel)) ggL_law_X9_recall
set_option maxRecDepth 20000 in
theorem gwL_wsL_isLight_r1 : GoodIn wsL_law wsL_isLight_r1 := goodIn_r _ [132, 133, 134, 2, 135, 13, 19, 23, 136, 137, 138, 139, 29, 140, 141, 142, 143, 144, 145, 146, 147, 148, 50, 149] (by decide +kernel) (by decide +kernel)
set_option maxRecDepth 20000 in
theorem gwL_wsL_isLight_r2 : GoodIn wsL_law wsL_isLight_r2 := goodIn_r _ [150, 151, 37, 152, 153, 154, 155, 156, 64, 157, 158, 159, 160, 161, 162, 163, 164, 165, 166, 167, 65, 168, 169, 170] (by decide +kernel) (by decide +kernel)
set_option maxRecDepth 20000 in
theorem gwL_wsL_isLight_r3 : GoodIn wsL_law wsL_isLight_r3 := goodIn_r _ [41, 171, 131, 467, 468, 469, 470, 219, 220, 221, 471, 472, 473, 474, 475, 476, 477, 478, 378, 374, 375, 376, 377, 379] (by decide +kernel) (by decide +kernel)
set_option maxRecDepth 20000 in
theorem gwL_wsL_isLight_r4 : GoodIn wsL_law wsL_isLight_r4 := goodIn_r _ [380, 381, 382, 383, 384, 385, 12, 386, 44, 172, 173, 174, 175, 176, 177, 178, 33, 179, 57, 180, 181, 182, 183, 58] (by decide +kernel) (by decide +kernel)
