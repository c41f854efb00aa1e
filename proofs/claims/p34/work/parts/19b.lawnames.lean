-- the program's names, words and instructions, as printed by TURN
set_option maxRecDepth 20000 in
theorem ggL_law_X9_init : GoodIn wsL_law wsX9_init := goodIn_r _ [6, 7, 8, 9, 10, 11, 12, 13, 14, 15, 16, 17, 18, 19, 20, 21, 22, 23, 24, 25, 26, 27, 28, 29, 30, 31, 32, 33, 34, 35, 36, 37, 38, 39, 40, 41, 42, 43, 44, 45, 46, 47, 48, 49, 50, 51, 52, 53, 54, 55, 56, 57, 58, 59, 60, 61, 62, 63, 64, 65, 66, 67, 68, 69, 70, 71, 72, 73, 74, 75, 76, 77, 78, 79, 80, 81, 82, 83, 84, 85, 86, 659, 660, 661, 662, 663, 664, 665, 666, 653, 654, 655, 656, 657, 658, 667, 668, 669, 670, 671, 672, 673, 674, 675, 676, 677, 678, 679, 680, 681, 682, 683, 684, 685, 686, 687, 688, 689, 690, 691, 692, 693, 694, 695, 696] (by decide +kernel) (by decide +kernel)
set_option maxRecDepth 20000 in
theorem gL_law_X9_init : GoodIn wsL_law (wsX9_init) := ggL_law_X9_init
set_option maxRecDepth 20000 in
theorem ggL_law_X9_undo : GoodIn wsL_law wsX9_undo := goodIn_r _ [90, 19, 13, 91, 92, 93, 18, 94, 95, 80, 96, 97, 98, 99, 12, 100, 30, 34, 38, 42, 44, 101, 102, 103, 104, 105, 45, 106, 107, 108, 109, 29, 110, 50, 111, 112, 113, 114, 33, 115, 55, 116, 56, 57, 58, 59, 117, 118, 119, 37, 120, 63, 121, 64, 65, 122, 123, 66, 124, 125, 126, 127, 41, 128, 70, 129, 71, 72, 73, 74, 130, 131, 653, 654, 655, 656, 657, 658, 667, 668, 669, 659, 660, 661, 662, 663, 664, 665, 666, 677, 678, 679, 680, 681, 682, 683, 684, 685, 686, 687, 688, 689, 690, 691, 692, 693, 694, 695, 696] (by decide +kernel) (by decide +kernel)
set_option maxRecDepth 20000 in
theorem gL_law_X9_undo : GoodIn wsL_law (wsV RL 111 RX9 yX9_undo wsX9_undo) := goodIn_app (goodIn_of _ (by decide +kernel)) ggL_law_X9_undo
set_option maxRecDepth 20000 in
theorem ggL_law_X9_count : GoodIn wsL_law wsX9_count := goodIn_r _ [135, 13, 19, 23, 136, 137, 138, 139, 29, 140, 141, 142, 143, 144, 145, 146, 147, 148, 50, 149, 150, 151, 37, 152, 153, 154, 155, 156, 64, 157, 158, 159, 160, 161, 162, 163, 164, 165, 166, 167, 65, 168, 169, 170, 41, 171, 131, 653, 654, 655, 656, 657, 658, 659, 660, 661, 662, 663, 664, 665, 666, 683, 684, 685, 686, 687, 688, 689, 667, 668, 669, 670, 671, 672, 673, 674, 675, 676, 677, 690, 691, 692, 693, 694, 695, 696] (by decide +kernel) (by decide +kernel)
set_option maxRecDepth 20000 in
theorem gL_law_X9_count : GoodIn wsL_law (wsV RL 29 RX9 yX9_count wsX9_count) := goodIn_app (goodIn_of _ (by decide +kernel)) ggL_law_X9_count
set_option maxRecDepth 20000 in
theorem ggL_law_X9_code : GoodIn wsL_law wsX9_code := goodIn_r _ [175, 13, 176, 177, 178, 33, 179, 57, 180, 181, 182, 183, 58, 59, 184, 185, 186, 187, 188, 189, 190, 191, 192, 193, 194, 195, 55, 56, 196, 653, 654, 655, 656, 657, 658, 659, 660, 661, 662, 663, 664, 665, 666, 678, 679, 680, 681, 682] (by decide +kernel) (by decide +kernel)
set_option maxRecDepth 20000 in
theorem gL_law_X9_code : GoodIn wsL_law (wsV RL 19 RX9 yX9_code wsX9_code) := goodIn_app (goodIn_of _ (by decide +kernel)) ggL_law_X9_code
set_option maxRecDepth 20000 in
theorem ggL_law_X9_untilIdle : GoodIn wsL_law wsX9_untilIdle := goodIn_r _ [200, 15, 13, 201, 98, 99, 12, 100, 30, 34, 38, 42, 44, 101, 102, 103, 104, 105, 45, 106, 107, 108, 109, 29, 110, 50, 111, 112, 113, 114, 33, 115, 55, 116, 56, 57, 58, 59, 117, 118, 119, 37, 120, 63, 121, 64, 65, 122, 123, 66, 124, 125, 126, 127, 41, 128, 70, 129, 71, 72, 73, 74, 130, 131, 202, 203, 204, 205, 206, 207, 208, 209, 164, 165, 166, 167, 157, 158, 159, 210, 193, 194, 195, 196, 181, 182, 183, 211, 212, 213, 214, 653, 654, 655, 656, 657, 658, 659, 660, 661, 662, 663, 664, 665, 666, 677, 678, 679, 680, 681, 682, 683, 684, 685, 686, 687, 688, 689, 690, 691, 692, 693, 694, 695, 696] (by decide +kernel) (by decide +kernel)
set_option maxRecDepth 20000 in
theorem gL_law_X9_untilIdle : GoodIn wsL_law (wsV RL 45 RX9 yX9_untilIdle wsX9_untilIdle) := goodIn_app (goodIn_of _ (by decide +kernel)) ggL_law_X9_untilIdle
set_option maxRecDepth 20000 in
theorem ggL_law_X9_fault : GoodIn wsL_law wsX9_fault := goodIn_r _ [218, 15, 13, 23, 219, 220, 2, 221, 201, 98, 99, 12, 100, 30, 34, 38, 42, 44, 101, 102, 103, 104, 105, 45, 106, 107, 108, 109, 29, 110, 50, 111, 112, 113, 114, 33, 115, 55, 116, 56, 57, 58, 59, 117, 118, 119, 37, 120, 63, 121, 64, 65, 122, 123, 66, 124, 125, 126, 127, 41, 128, 70, 129, 71, 72, 73, 74, 130, 131, 222, 223, 224, 22, 225, 226, 227, 228, 229, 230, 231, 232, 233, 234, 235, 236, 237, 238, 239, 240, 241, 242, 85, 243, 244, 245, 246, 247, 248, 249, 250, 251, 252, 253, 254, 255, 256, 257, 258, 259, 260, 261, 262, 263, 264, 265, 266, 267, 268, 269, 270, 271, 272, 273, 274, 275, 276, 277, 278, 279, 280, 281, 282, 283, 284, 285, 286, 287, 288, 289, 290, 291, 292, 293, 294, 295, 296, 297, 298, 299, 300, 301, 302, 303, 304, 305, 306, 307, 308, 309, 310, 311, 312, 313, 314, 315, 316, 317, 318, 319, 86, 320, 321, 322, 323, 324, 325, 326, 327, 328, 329, 330, 331, 332, 333, 334, 335, 336, 337, 338, 339, 340, 341, 342, 343, 157, 158, 159, 344, 345, 346, 347, 348, 349, 350, 351, 153, 154, 155, 156, 352, 353, 354, 355, 356, 357, 358, 359, 360, 361, 362, 363, 364, 653, 654, 655, 656, 657, 658, 670, 671, 672, 673, 674, 675, 676, 659, 660, 661, 662, 663, 664, 665, 666, 677, 678, 679, 680, 681, 682, 683, 684, 685, 686, 687, 688, 689, 690, 691, 692, 693, 694, 695, 696] (by decide +kernel) (by decide +kernel)
set_option maxRecDepth 20000 in
theorem gL_law_X9_fault : GoodIn wsL_law (wsV RL 102 RX9 yX9_fault wsX9_fault) := goodIn_app (goodIn_of _ (by decide +kernel)) ggL_law_X9_fault
set_option maxRecDepth 20000 in
theorem ggL_law_L_areErrors : GoodIn wsL_law wsL_areErrors := goodIn_r _ [368, 369, 370, 367, 371, 372, 373, 374, 375, 376, 2, 377, 13, 219, 220, 221, 378, 146, 147, 29, 148, 50, 172, 173, 174, 175, 176, 177, 178, 33, 179, 57, 180, 181, 182, 183, 58, 59, 184, 185, 186, 187, 188, 189, 190, 191, 192, 193, 194, 195, 55, 56, 196, 379, 380, 381, 382, 383, 384, 385, 12, 386, 44, 387, 388, 389, 390, 391, 154, 155, 37, 156, 64, 157, 158, 159, 392, 393, 394, 395, 63, 396, 397, 398, 399, 400, 401, 402, 403, 65, 404, 405, 406, 407, 408, 165, 166, 167, 132, 133, 134, 135, 19, 23, 136, 137, 138, 139, 140, 141, 142, 143, 144, 145, 149, 150, 151, 152, 153, 160, 161, 162, 163, 164, 168, 169, 170, 41, 171, 131, 409, 410, 411, 412, 413, 414, 415, 416, 70, 71, 72, 73, 417, 418, 419, 420, 421, 422, 423, 424, 74, 425, 426, 427, 428, 429, 430, 431, 432, 433, 434, 435, 436, 437, 438, 439, 440, 441, 442, 443, 444, 445, 446, 447, 448, 38, 449, 45, 450, 451, 452, 453, 454, 455, 456, 457, 197, 198, 199, 200, 15, 201, 98, 99, 100, 30, 34, 42, 101, 102, 103, 104, 105, 106, 107, 108, 109, 110, 111, 112, 113, 114, 115, 116, 117, 118, 119, 120, 121, 122, 123, 66, 124, 125, 126, 127, 128, 129, 130, 202, 203, 204, 205, 206, 207, 208, 209, 210, 211, 212, 213, 214, 458, 459, 460, 461, 462, 463, 464, 18, 465, 95, 80, 96, 97, 466, 313, 314, 315, 467, 468, 469, 470, 471, 472, 473, 474, 475, 476, 477, 478, 479, 480, 481, 482, 483, 484, 485, 486, 487, 488, 489, 490, 491, 492, 493, 494, 495, 496, 497, 498, 499, 500, 501, 502, 503, 504, 505, 506, 507, 508, 509, 510, 511, 512, 513, 514, 515, 321, 322, 323, 516, 325, 326, 327, 517, 518, 519, 520, 521, 522, 523, 524, 525, 337, 338, 339, 340, 341, 342, 343, 526, 527, 528, 529, 530, 349, 350, 351, 531, 532, 533, 534, 535, 536, 537, 538, 539, 540, 541, 542, 543, 544, 545, 546, 547, 548, 549, 550, 551, 552, 553, 554, 555, 556, 557, 558, 559, 560, 561, 562, 563, 564, 565, 566, 567, 568, 569, 570, 571, 572, 573, 574, 575, 576, 577, 578, 579, 580, 581, 582, 583, 584, 585, 586, 587, 588, 589, 14, 590, 591, 592, 593, 594, 595, 596, 597, 598, 599, 600, 601, 602, 603, 604, 605, 606, 607, 608, 609, 610, 611, 612, 613, 614, 615, 22, 616, 228, 617, 618, 619, 620, 85, 215, 216, 217, 218, 222, 223, 224, 225, 226, 227, 229, 230, 231, 232, 233, 234, 235, 236, 237, 238, 239, 240, 241, 242, 243, 244, 245, 246, 247, 248, 249, 250, 251, 252, 253, 254, 255, 256, 257, 258, 259, 260, 261, 262, 263, 264, 265, 266, 267, 268, 269, 270, 271, 272, 273, 274, 275, 276, 277, 278, 279, 280, 281, 282, 283, 284, 285, 286, 287, 288, 289, 290, 291, 292, 293, 294, 295, 296, 297, 298, 299, 300, 301, 302, 303, 304, 305, 306, 307, 308, 309, 310, 311, 312, 316, 317, 318, 319, 86, 320, 324, 328, 329, 330, 331, 332, 333, 334, 335, 336, 344, 345, 346, 347, 348, 352, 353, 354, 355, 356, 357, 358, 359, 360, 361, 362, 363, 364, 621, 622, 623, 624, 625, 626, 627, 628, 653, 654, 655, 656, 657, 658, 659, 660, 661, 662, 663, 664, 665, 666, 677, 678, 679, 680, 681, 682, 690, 691, 692, 693, 694, 695, 696, 683, 684, 685, 686, 687, 688, 689, 667, 668, 669, 670, 671, 672, 673, 674, 675, 676] (by decide +kernel) (by decide +kernel)
set_option maxRecDepth 20000 in
theorem gL_law_L_areErrors : GoodIn wsL_law (va_wsS RL 115 yL_areErrors wsL_areErrors) := goodIn_app (goodIn_of _ (by decide +kernel)) ggL_law_L_areErrors
set_option maxRecDepth 20000 in
theorem ggL_law_L_cell : GoodIn wsL_law wsL_cell := goodIn_r _ [631, 632] (by decide +kernel) (by decide +kernel)
set_option maxRecDepth 20000 in
theorem gL_law_L_cell : GoodIn wsL_law (va_wsS RL 119 yL_cell wsL_cell) := goodIn_app (goodIn_of _ (by decide +kernel)) ggL_law_L_cell
set_option maxRecDepth 20000 in
theorem ggL_law_L_low : GoodIn wsL_law wsL_low := goodIn_r _ [635, 636] (by decide +kernel) (by decide +kernel)
set_option maxRecDepth 20000 in
theorem gL_law_L_low : GoodIn wsL_law (va_wsS RL 123 yL_low wsL_low) := goodIn_app (goodIn_of _ (by decide +kernel)) ggL_law_L_low
set_option maxRecDepth 20000 in
theorem ggL_law_X9_paint : GoodIn wsL_law wsX9_paint := goodIn_r _ [461, 19, 13, 219, 220, 2, 221, 462, 463, 464, 18, 465, 95, 80, 96, 97, 98, 99, 12, 100, 30, 34, 38, 42, 44, 101, 102, 103, 104, 105, 45, 106, 107, 108, 109, 29, 110, 50, 111, 112, 113, 114, 33, 115, 55, 116, 56, 57, 58, 59, 117, 118, 119, 37, 120, 63, 121, 64, 65, 122, 123, 66, 124, 125, 126, 127, 41, 128, 70, 129, 71, 72, 73, 74, 130, 131, 466, 313, 314, 315, 653, 654, 655, 656, 657, 658, 659, 660, 661, 662, 663, 664, 665, 666, 667, 668, 669, 677, 678, 679, 680, 681, 682, 683, 684, 685, 686, 687, 688, 689, 690, 691, 692, 693, 694, 695, 696] (by decide +kernel) (by decide +kernel)
set_option maxRecDepth 20000 in
theorem gL_law_X9_paint : GoodIn wsL_law (wsV RL 55 RX9 yX9_paint wsX9_paint) := goodIn_app (goodIn_of _ (by decide +kernel)) ggL_law_X9_paint
set_option maxRecDepth 20000 in
theorem ggL_law_X9_setCode : GoodIn wsL_law wsX9_setCode := goodIn_r _ [510, 13, 19, 219, 220, 2, 221, 511, 512, 513, 33, 514, 57, 462, 463, 464, 18, 465, 95, 80, 96, 97, 98, 99, 12, 100, 30, 34, 38, 42, 44, 101, 102, 103, 104, 105, 45, 106, 107, 108, 109, 29, 110, 50, 111, 112, 113, 114, 115, 55, 116, 56, 58, 59, 117, 118, 119, 37, 120, 63, 121, 64, 65, 122, 123, 66, 124, 125, 126, 127, 41, 128, 70, 129, 71, 72, 73, 74, 130, 131, 515, 321, 322, 323, 516, 325, 326, 327, 180, 181, 182, 183, 653, 654, 655, 656, 657, 658, 659, 660, 661, 662, 663, 664, 665, 666, 678, 679, 680, 681, 682, 667, 668, 669, 677, 683, 684, 685, 686, 687, 688, 689, 690, 691, 692, 693, 694, 695, 696] (by decide +kernel) (by decide +kernel)
set_option maxRecDepth 20000 in
theorem gL_law_X9_setCode : GoodIn wsL_law (wsV RL 68 RX9 yX9_setCode wsX9_setCode) := goodIn_app (goodIn_of _ (by decide +kernel)) ggL_law_X9_setCode
set_option maxRecDepth 20000 in
theorem ggL_law_X9_setChanger : GoodIn wsL_law wsX9_setChanger := goodIn_r _ [524, 19, 13, 219, 220, 2, 221, 462, 463, 464, 18, 465, 95, 80, 96, 97, 98, 99, 12, 100, 30, 34, 38, 42, 44, 101, 102, 103, 104, 105, 45, 106, 107, 108, 109, 29, 110, 50, 111, 112, 113, 114, 33, 115, 55, 116, 56, 57, 58, 59, 117, 118, 119, 37, 120, 63, 121, 64, 65, 122, 123, 66, 124, 125, 126, 127, 41, 128, 70, 129, 71, 72, 73, 74, 130, 131, 149, 150, 151, 152, 153, 154, 155, 156, 157, 158, 159, 525, 337, 338, 339, 340, 341, 342, 343, 653, 654, 655, 656, 657, 658, 659, 660, 661, 662, 663, 664, 665, 666, 667, 668, 669, 677, 678, 679, 680, 681, 682, 683, 684, 685, 686, 687, 688, 689, 690, 691, 692, 693, 694, 695, 696] (by decide +kernel) (by decide +kernel)
set_option maxRecDepth 20000 in
theorem gL_law_X9_setChanger : GoodIn wsL_law (wsV RL 74 RX9 yX9_setChanger wsX9_setChanger) := goodIn_app (goodIn_of _ (by decide +kernel)) ggL_law_X9_setChanger
set_option maxRecDepth 20000 in
theorem ggL_law_X9_addLamp : GoodIn wsL_law wsX9_addLamp := goodIn_r _ [529, 13, 19, 219, 220, 2, 221, 530, 349, 350, 37, 351, 153, 154, 155, 156, 64, 157, 158, 159, 462, 463, 464, 18, 465, 95, 80, 96, 97, 98, 99, 12, 100, 30, 34, 38, 42, 44, 101, 102, 103, 104, 105, 45, 106, 107, 108, 109, 29, 110, 50, 111, 112, 113, 114, 33, 115, 55, 116, 56, 57, 58, 59, 117, 118, 119, 120, 63, 121, 65, 122, 123, 66, 124, 125, 126, 127, 41, 128, 70, 129, 71, 72, 73, 74, 130, 131, 531, 341, 342, 343, 653, 654, 655, 656, 657, 658, 659, 660, 661, 662, 663, 664, 665, 666, 683, 684, 685, 686, 687, 688, 689, 667, 668, 669, 677, 678, 679, 680, 681, 682, 690, 691, 692, 693, 694, 695, 696] (by decide +kernel) (by decide +kernel)
set_option maxRecDepth 20000 in
theorem gL_law_X9_addLamp : GoodIn wsL_law (wsV RL 77 RX9 yX9_addLamp wsX9_addLamp) := goodIn_app (goodIn_of _ (by decide +kernel)) ggL_law_X9_addLamp
set_option maxRecDepth 20000 in
theorem ggL_law_X9_takeLamp : GoodIn wsL_law wsX9_takeLamp := goodIn_r _ [535, 13, 19, 219, 220, 2, 221, 391, 154, 155, 37, 156, 64, 157, 158, 159, 462, 463, 464, 18, 465, 95, 80, 96, 97, 98, 99, 12, 100, 30, 34, 38, 42, 44, 101, 102, 103, 104, 105, 45, 106, 107, 108, 109, 29, 110, 50, 111, 112, 113, 114, 33, 115, 55, 116, 56, 57, 58, 59, 117, 118, 119, 120, 63, 121, 65, 122, 123, 66, 124, 125, 126, 127, 41, 128, 70, 129, 71, 72, 73, 74, 130, 131, 400, 401, 402, 403, 531, 341, 342, 343, 653, 654, 655, 656, 657, 658, 659, 660, 661, 662, 663, 664, 665, 666, 683, 684, 685, 686, 687, 688, 689, 667, 668, 669, 677, 678, 679, 680, 681, 682, 690, 691, 692, 693, 694, 695, 696] (by decide +kernel) (by decide +kernel)
set_option maxRecDepth 20000 in
theorem gL_law_X9_takeLamp : GoodIn wsL_law (wsV RL 80 RX9 yX9_takeLamp wsX9_takeLamp) := goodIn_app (goodIn_of _ (by decide +kernel)) ggL_law_X9_takeLamp
set_option maxRecDepth 20000 in
theorem ggL_law_X9_set : GoodIn wsL_law wsX9_set := goodIn_r _ [539, 19, 13, 219, 220, 2, 221, 462, 463, 464, 18, 465, 95, 80, 96, 97, 98, 99, 12, 100, 30, 34, 38, 42, 44, 101, 102, 103, 104, 105, 45, 106, 107, 108, 109, 29, 110, 50, 111, 112, 113, 114, 33, 115, 55, 116, 56, 57, 58, 59, 117, 118, 119, 37, 120, 63, 121, 64, 65, 122, 123, 66, 124, 125, 126, 127, 41, 128, 70, 129, 71, 72, 73, 74, 130, 131, 653, 654, 655, 656, 657, 658, 659, 660, 661, 662, 663, 664, 665, 666, 683, 684, 685, 686, 687, 688, 689, 667, 668, 669, 677, 678, 679, 680, 681, 682, 690, 691, 692, 693, 694, 695, 696] (by decide +kernel) (by decide +kernel)
set_option maxRecDepth 20000 in
theorem gL_law_X9_set : GoodIn wsL_law (wsV RL 83 RX9 yX9_set wsX9_set) := goodIn_app (goodIn_of _ (by decide +kernel)) ggL_law_X9_set
set_option maxRecDepth 20000 in
theorem ggL_law_X9_advance : GoodIn wsL_law wsX9_advance := goodIn_r _ [543, 544, 13, 19, 219, 220, 2, 221, 462, 463, 464, 18, 465, 95, 80, 96, 97, 98, 99, 12, 100, 30, 34, 38, 42, 44, 101, 102, 103, 104, 105, 45, 106, 107, 108, 109, 29, 110, 50, 111, 112, 113, 114, 33, 115, 55, 116, 56, 57, 58, 59, 117, 118, 119, 37, 120, 63, 121, 64, 65, 122, 123, 66, 124, 125, 126, 127, 41, 128, 70, 129, 71, 72, 73, 74, 130, 131, 202, 203, 204, 205, 206, 207, 208, 209, 164, 165, 166, 167, 157, 158, 159, 210, 193, 194, 195, 196, 181, 182, 183, 211, 212, 213, 214, 653, 654, 655, 656, 657, 658, 659, 660, 661, 662, 663, 664, 665, 666, 667, 668, 669, 677, 678, 679, 680, 681, 682, 683, 684, 685, 686, 687, 688, 689, 690, 691, 692, 693, 694, 695, 696] (by decide +kernel) (by decide +kernel)
set_option maxRecDepth 20000 in
theorem gL_law_X9_advance : GoodIn wsL_law (wsV RL 86 RX9 yX9_advance wsX9_advance) := goodIn_app (goodIn_of _ (by decide +kernel)) ggL_law_X9_advance
set_option maxRecDepth 20000 in
theorem ggL_law_X9_pass : GoodIn wsL_law wsX9_pass := goodIn_r _ [563, 544, 13, 19, 483, 484, 2, 485, 219, 220, 221, 462, 463, 464, 18, 465, 95, 80, 96, 97, 98, 99, 12, 100, 30, 34, 38, 42, 44, 101, 102, 103, 104, 105, 45, 106, 107, 108, 109, 29, 110, 50, 111, 112, 113, 114, 33, 115, 55, 116, 56, 57, 58, 59, 117, 118, 119, 37, 120, 63, 121, 64, 65, 122, 123, 66, 124, 125, 126, 127, 41, 128, 70, 129, 71, 72, 73, 74, 130, 131, 564, 565, 566, 567, 568, 569, 570, 571, 572, 573, 574, 575, 576, 203, 204, 205, 206, 207, 208, 209, 164, 165, 166, 167, 157, 158, 159, 210, 193, 194, 195, 196, 181, 182, 183, 211, 212, 213, 214, 577, 550, 551, 552, 553, 502, 488, 503, 504, 505, 506, 490, 491, 492, 493, 494, 495, 496, 554, 146, 147, 148, 555, 556, 557, 558, 559, 446, 447, 448, 449, 450, 451, 405, 406, 407, 452, 453, 454, 578, 579, 580, 581, 582, 583, 584, 585, 653, 654, 655, 656, 657, 658, 659, 660, 661, 662, 663, 664, 665, 666, 690, 691, 692, 693, 694, 695, 696, 667, 668, 669, 677, 678, 679, 680, 681, 682, 683, 684, 685, 686, 687, 688, 689] (by decide +kernel) (by decide +kernel)
set_option maxRecDepth 20000 in
theorem gL_law_X9_pass : GoodIn wsL_law (wsV RL 92 RX9 yX9_pass wsX9_pass) := goodIn_app (goodIn_of _ (by decide +kernel)) ggL_law_X9_pass
set_option maxRecDepth 20000 in
theorem ggL_law_X9_store : GoodIn wsL_law wsX9_store := goodIn_r _ [640, 14, 13, 136, 201, 98, 99, 12, 100, 30, 34, 38, 42, 44, 101, 102, 103, 104, 105, 45, 106, 107, 108, 109, 29, 110, 50, 111, 112, 113, 114, 33, 115, 55, 116, 56, 57, 58, 59, 117, 118, 119, 37, 120, 63, 121, 64, 65, 122, 123, 66, 124, 125, 126, 127, 41, 128, 70, 129, 71, 72, 73, 74, 130, 131, 653, 654, 655, 656, 657, 658, 659, 660, 661, 662, 663, 664, 665, 666, 677, 678, 679, 680, 681, 682, 683, 684, 685, 686, 687, 688, 689, 690, 691, 692, 693, 694, 695, 696] (by decide +kernel) (by decide +kernel)
set_option maxRecDepth 20000 in
theorem gL_law_X9_store : GoodIn wsL_law (wsV RL 126 RX9 yX9_store wsX9_store) := goodIn_app (goodIn_of _ (by decide +kernel)) ggL_law_X9_store
set_option maxRecDepth 20000 in
theorem ggL_law_L_print : GoodIn wsL_law wsL_print := goodIn_r _ [371, 372, 373, 374, 375, 376, 2, 377, 13, 219, 220, 221, 378, 146, 147, 29, 148, 50, 172, 173, 174, 175, 176, 177, 178, 33, 179, 57, 180, 181, 182, 183, 58, 59, 184, 185, 186, 187, 188, 189, 190, 191, 192, 193, 194, 195, 55, 56, 196, 379, 380, 381, 382, 383, 384, 385, 12, 386, 44, 387, 388, 389, 390, 391, 154, 155, 37, 156, 64, 157, 158, 159, 392, 393, 394, 395, 63, 396, 397, 398, 399, 400, 401, 402, 403, 65, 404, 405, 406, 407, 408, 165, 166, 167, 132, 133, 134, 135, 19, 23, 136, 137, 138, 139, 140, 141, 142, 143, 144, 145, 149, 150, 151, 152, 153, 160, 161, 162, 163, 164, 168, 169, 170, 41, 171, 131, 409, 410, 411, 412, 413, 414, 415, 416, 70, 71, 72, 73, 417, 418, 419, 420, 421, 422, 423, 424, 74, 425, 426, 427, 428, 429, 430, 431, 432, 433, 434, 435, 436, 437, 438, 439, 440, 441, 442, 443, 444, 445, 446, 447, 448, 38, 449, 45, 450, 451, 452, 453, 454, 455, 456, 457, 197, 198, 199, 200, 15, 201, 98, 99, 100, 30, 34, 42, 101, 102, 103, 104, 105, 106, 107, 108, 109, 110, 111, 112, 113, 114, 115, 116, 117, 118, 119, 120, 121, 122, 123, 66, 124, 125, 126, 127, 128, 129, 130, 202, 203, 204, 205, 206, 207, 208, 209, 210, 211, 212, 213, 214, 653, 654, 655, 656, 657, 658, 659, 660, 661, 662, 663, 664, 665, 666, 677, 678, 679, 680, 681, 682, 690, 691, 692, 693, 694, 695, 696, 683, 684, 685, 686, 687, 688, 689, 667, 668, 669, 670, 671, 672, 673, 674, 675, 676] (by decide +kernel) (by decide +kernel)
set_option maxRecDepth 20000 in
theorem gL_law_L_print : GoodIn wsL_law (va_wsS RL 49 yL_print wsL_print) := goodIn_app (goodIn_of _ (by decide +kernel)) ggL_law_L_print
set_option maxRecDepth 20000 in
theorem ggL_law_X9_compare : GoodIn wsL_law wsX9_compare := goodIn_r _ [589, 136, 13, 14, 544, 219, 220, 2, 221, 590, 591, 592, 29, 593, 145, 146, 147, 148, 50, 594, 595, 596, 33, 597, 57, 55, 56, 598, 599, 600, 37, 601, 602, 603, 604, 605, 122, 153, 154, 155, 156, 64, 157, 158, 159, 606, 393, 394, 395, 63, 607, 397, 398, 399, 608, 401, 402, 403, 65, 653, 654, 655, 656, 657, 658, 659, 660, 661, 662, 663, 664, 665, 666, 677, 678, 679, 680, 681, 682, 683, 684, 685, 686, 687, 688, 689] (by decide +kernel) (by decide +kernel)
set_option maxRecDepth 20000 in
theorem gL_law_X9_compare : GoodIn wsL_law (wsV RL 96 RX9 yX9_compare wsX9_compare) := goodIn_app (goodIn_of _ (by decide +kernel)) ggL_law_X9_compare
set_option maxRecDepth 20000 in
theorem ggL_law_X9_recall : GoodIn wsL_law wsX9_recall := goodIn_r _ [628, 136, 19, 13, 14, 462, 463, 464, 18, 465, 95, 80, 96, 97, 98, 99, 12, 100, 30, 34, 38, 42, 44, 101, 102, 103, 104, 105, 45, 106, 107, 108, 109, 29, 110, 50, 111, 112, 113, 114, 33, 115, 55, 116, 56, 57, 58, 59, 117, 118, 119, 37, 120, 63, 121, 64, 65, 122, 123, 66, 124, 125, 126, 127, 41, 128, 70, 129, 71, 72, 73, 74, 130, 131, 201, 653, 654, 655, 656, 657, 658, 659, 660, 661, 662, 663, 664, 665, 666, 667, 668, 669, 677, 678, 679, 680, 681, 682, 683, 684, 685, 686, 687, 688, 689, 690, 691, 692, 693, 694, 695, 696] (by decide +kernel) (by decide +kernel)
set_option maxRecDepth 20000 in
theorem gL_law_X9_recall : GoodIn wsL_law (wsV RL 108 RX9 yX9_recall wsX9_recall) := goodIn_app (goodIn_of _ (by decide +kernel)) ggL_law_X9_recall
set_option maxRecDepth 20000 in
theorem ggL_law_L_isLight : GoodIn wsL_law wsL_isLight := goodIn_r _ [643, 132, 133, 134, 2, 135, 13, 19, 23, 136, 137, 138, 139, 29, 140, 141, 142, 143, 144, 145, 146, 147, 148, 50, 149, 150, 151, 37, 152, 153, 154, 155, 156, 64, 157, 158, 159, 160, 161, 162, 163, 164, 165, 166, 167, 65, 168, 169, 170, 41, 171, 131, 467, 468, 469, 470, 219, 220, 221, 471, 472, 473, 474, 475, 476, 477, 478, 378, 374, 375, 376, 377, 379, 380, 381, 382, 383, 384, 385, 12, 386, 44, 172, 173, 174, 175, 176, 177, 178, 33, 179, 57, 180, 181, 182, 183, 58, 59, 184, 185, 186, 187, 188, 189, 190, 191, 192, 193, 194, 195, 55, 56, 196, 517, 518, 519, 520, 387, 388, 389, 390, 391, 392, 393, 394, 395, 63, 396, 397, 398, 399, 400, 401, 402, 403, 404, 405, 406, 407, 408, 441, 442, 443, 444, 445, 446, 447, 448, 38, 449, 45, 450, 451, 452, 453, 454, 455, 456, 435, 457, 437, 438, 439, 440, 653, 654, 655, 656, 657, 658, 659, 660, 661, 662, 663, 664, 665, 666, 683, 684, 685, 686, 687, 688, 689, 667, 668, 669, 670, 671, 672, 673, 674, 675, 676, 677, 690, 691, 692, 693, 694, 695, 696, 678, 679, 680, 681, 682] (by decide +kernel) (by decide +kernel)
set_option maxRecDepth 20000 in
theorem gL_law_L_isLight : GoodIn wsL_law (va_wsS RL 130 yL_isLight wsL_isLight) := goodIn_app (goodIn_of _ (by decide +kernel)) ggL_law_L_isLight
set_option maxRecDepth 20000 in
theorem ggL_law_L_areDirections : GoodIn wsL_law wsL_areDirections := goodIn_r _ [646, 479, 480, 481, 2, 482, 483, 484, 485, 219, 220, 221, 486, 487, 488, 489, 490, 491, 492, 493, 494, 495, 496, 497, 498, 499, 500, 501, 502, 503, 504, 505, 506, 545, 546, 547, 548, 15, 13, 201, 98, 99, 12, 100, 30, 34, 38, 42, 44, 101, 102, 103, 104, 105, 45, 106, 107, 108, 109, 29, 110, 50, 111, 112, 113, 114, 33, 115, 55, 116, 56, 57, 58, 59, 117, 118, 119, 37, 120, 63, 121, 64, 65, 122, 123, 66, 124, 125, 126, 127, 41, 128, 70, 129, 71, 72, 73, 74, 130, 131, 202, 203, 204, 205, 206, 207, 208, 209, 164, 165, 166, 167, 157, 158, 159, 210, 193, 194, 195, 196, 181, 182, 183, 211, 212, 213, 214, 549, 550, 551, 552, 553, 554, 146, 147, 148, 555, 556, 557, 558, 559, 446, 447, 448, 449, 450, 451, 405, 406, 407, 452, 453, 454, 374, 375, 376, 377, 378, 653, 654, 655, 656, 657, 658, 659, 660, 661, 662, 663, 664, 665, 666, 677, 678, 679, 680, 681, 682, 683, 684, 685, 686, 687, 688, 689, 690, 691, 692, 693, 694, 695, 696] (by decide +kernel) (by decide +kernel)
set_option maxRecDepth 20000 in
theorem gL_law_L_areDirections : GoodIn wsL_law (va_wsS RL 133 yL_areDirections wsL_areDirections) := goodIn_app (goodIn_of _ (by decide +kernel)) ggL_law_L_areDirections
set_option maxRecDepth 20000 in
theorem ggL_law_L_isAhead : GoodIn wsL_law wsL_isAhead := goodIn_r _ [649, 369, 370, 367, 371, 372, 373, 374, 375, 376, 2, 377, 13, 219, 220, 221, 378, 146, 147, 29, 148, 50, 172, 173, 174, 175, 176, 177, 178, 33, 179, 57, 180, 181, 182, 183, 58, 59, 184, 185, 186, 187, 188, 189, 190, 191, 192, 193, 194, 195, 55, 56, 196, 379, 380, 381, 382, 383, 384, 385, 12, 386, 44, 387, 388, 389, 390, 391, 154, 155, 37, 156, 64, 157, 158, 159, 392, 393, 394, 395, 63, 396, 397, 398, 399, 400, 401, 402, 403, 65, 404, 405, 406, 407, 408, 165, 166, 167, 132, 133, 134, 135, 19, 23, 136, 137, 138, 139, 140, 141, 142, 143, 144, 145, 149, 150, 151, 152, 153, 160, 161, 162, 163, 164, 168, 169, 170, 41, 171, 131, 409, 410, 411, 412, 413, 414, 415, 416, 70, 71, 72, 73, 417, 418, 419, 420, 421, 422, 423, 424, 74, 425, 426, 427, 428, 429, 430, 431, 432, 433, 434, 435, 436, 437, 438, 439, 440, 441, 442, 443, 444, 445, 446, 447, 448, 38, 449, 45, 450, 451, 452, 453, 454, 455, 456, 457, 197, 198, 199, 200, 15, 201, 98, 99, 100, 30, 34, 42, 101, 102, 103, 104, 105, 106, 107, 108, 109, 110, 111, 112, 113, 114, 115, 116, 117, 118, 119, 120, 121, 122, 123, 66, 124, 125, 126, 127, 128, 129, 130, 202, 203, 204, 205, 206, 207, 208, 209, 210, 211, 212, 213, 214, 540, 541, 542, 543, 544, 462, 463, 464, 18, 465, 95, 80, 96, 97, 87, 88, 89, 90, 91, 92, 93, 94, 653, 654, 655, 656, 657, 658, 659, 660, 661, 662, 663, 664, 665, 666, 677, 678, 679, 680, 681, 682, 690, 691, 692, 693, 694, 695, 696, 683, 684, 685, 686, 687, 688, 689, 667, 668, 669, 670, 671, 672, 673, 674, 675, 676] (by decide +kernel) (by decide +kernel)
set_option maxRecDepth 20000 in
theorem gL_law_L_isAhead : GoodIn wsL_law (va_wsS RL 137 yL_isAhead wsL_isAhead) := goodIn_app (goodIn_of _ (by decide +kernel)) ggL_law_L_isAhead
set_option maxRecDepth 20000 in
theorem ggL_law_L_isPassage : GoodIn wsL_law wsL_isPassage := goodIn_r _ [652, 369, 370, 367, 371, 372, 373, 374, 375, 376, 2, 377, 13, 219, 220, 221, 378, 146, 147, 29, 148, 50, 172, 173, 174, 175, 176, 177, 178, 33, 179, 57, 180, 181, 182, 183, 58, 59, 184, 185, 186, 187, 188, 189, 190, 191, 192, 193, 194, 195, 55, 56, 196, 379, 380, 381, 382, 383, 384, 385, 12, 386, 44, 387, 388, 389, 390, 391, 154, 155, 37, 156, 64, 157, 158, 159, 392, 393, 394, 395, 63, 396, 397, 398, 399, 400, 401, 402, 403, 65, 404, 405, 406, 407, 408, 165, 166, 167, 132, 133, 134, 135, 19, 23, 136, 137, 138, 139, 140, 141, 142, 143, 144, 145, 149, 150, 151, 152, 153, 160, 161, 162, 163, 164, 168, 169, 170, 41, 171, 131, 409, 410, 411, 412, 413, 414, 415, 416, 70, 71, 72, 73, 417, 418, 419, 420, 421, 422, 423, 424, 74, 425, 426, 427, 428, 429, 430, 431, 432, 433, 434, 435, 436, 437, 438, 439, 440, 441, 442, 443, 444, 445, 446, 447, 448, 38, 449, 45, 450, 451, 452, 453, 454, 455, 456, 457, 197, 198, 199, 200, 15, 201, 98, 99, 100, 30, 34, 42, 101, 102, 103, 104, 105, 106, 107, 108, 109, 110, 111, 112, 113, 114, 115, 116, 117, 118, 119, 120, 121, 122, 123, 66, 124, 125, 126, 127, 128, 129, 130, 202, 203, 204, 205, 206, 207, 208, 209, 210, 211, 212, 213, 214, 545, 546, 547, 548, 483, 484, 485, 549, 550, 551, 552, 553, 502, 488, 503, 504, 505, 506, 490, 491, 492, 493, 494, 495, 496, 554, 555, 556, 557, 558, 559, 560, 561, 562, 563, 544, 462, 463, 464, 18, 465, 95, 80, 96, 97, 564, 565, 566, 567, 568, 569, 570, 571, 572, 573, 574, 575, 576, 577, 578, 579, 580, 581, 582, 583, 584, 585, 479, 480, 481, 482, 486, 487, 489, 87, 88, 89, 90, 91, 92, 93, 94, 653, 654, 655, 656, 657, 658, 659, 660, 661, 662, 663, 664, 665, 666, 677, 678, 679, 680, 681, 682, 690, 691, 692, 693, 694, 695, 696, 683, 684, 685, 686, 687, 688, 689, 667, 668, 669, 670, 671, 672, 673, 674, 675, 676] (by decide +kernel) (by decide +kernel)
set_option maxRecDepth 20000 in
theorem gL_law_L_isPassage : GoodIn wsL_law (va_wsS RL 140 yL_isPassage wsL_isPassage) := goodIn_app (goodIn_of _ (by decide +kernel)) ggL_law_L_isPassage
theorem dL_law_0 : decode cL_law 0 = .ok (.new 14, 3) := by decide +kernel
theorem dL_law_3 : decode cL_law 3 = .ok (.dup, 1) := by decide +kernel
theorem dL_law_4 : decode cL_law 4 = .ok (.invokespecial 114, 3) := by decide +kernel
theorem dL_law_7 : decode cL_law 7 = .ok (.astore_n 1, 1) := by decide +kernel
theorem dL_law_8 : decode cL_law 8 = .ok (.aload_n 1, 1) := by decide +kernel
theorem dL_law_9 : decode cL_law 9 = .ok (.invokevirtual 111, 3) := by decide +kernel
theorem dL_law_12 : decode cL_law 12 = .ok (.bipush (-2), 2) := by decide +kernel
theorem dL_law_14 : decode cL_law 14 = .ok (.if_icmp .ne 49, 3) := by decide +kernel
theorem dL_law_17 : decode cL_law 17 = .ok (.aload_n 1, 1) := by decide +kernel
theorem dL_law_18 : decode cL_law 18 = .ok (.iconst 0, 1) := by decide +kernel
theorem dL_law_19 : decode cL_law 19 = .ok (.invokevirtual 29, 3) := by decide +kernel
theorem dL_law_22 : decode cL_law 22 = .ok (.iconst 1, 1) := by decide +kernel
theorem dL_law_23 : decode cL_law 23 = .ok (.if_icmp .ne 40, 3) := by decide +kernel
theorem dL_law_26 : decode cL_law 26 = .ok (.aload_n 1, 1) := by decide +kernel
theorem dL_law_27 : decode cL_law 27 = .ok (.iconst 3, 1) := by decide +kernel
theorem dL_law_28 : decode cL_law 28 = .ok (.invokevirtual 19, 3) := by decide +kernel
theorem dL_law_31 : decode cL_law 31 = .ok (.iconst 1, 1) := by decide +kernel
theorem dL_law_32 : decode cL_law 32 = .ok (.if_icmp .ne 31, 3) := by decide +kernel
theorem dL_law_35 : decode cL_law 35 = .ok (.aload_n 1, 1) := by decide +kernel
theorem dL_law_36 : decode cL_law 36 = .ok (.invokevirtual 45, 3) := by decide +kernel
theorem dL_law_39 : decode cL_law 39 = .ok (.ifCond .ne 24, 3) := by decide +kernel
theorem dL_law_42 : decode cL_law 42 = .ok (.aload_n 1, 1) := by decide +kernel
theorem dL_law_43 : decode cL_law 43 = .ok (.iconst 0, 1) := by decide +kernel
theorem dL_law_44 : decode cL_law 44 = .ok (.invokevirtual 102, 3) := by decide +kernel
theorem dL_law_47 : decode cL_law 47 = .ok (.bipush (-4), 2) := by decide +kernel
theorem dL_law_49 : decode cL_law 49 = .ok (.if_icmp .ne 14, 3) := by decide +kernel
theorem dL_law_52 : decode cL_law 52 = .ok (.aload_n 1, 1) := by decide +kernel
theorem dL_law_53 : decode cL_law 53 = .ok (.invokestatic 115, 3) := by decide +kernel
theorem dL_law_56 : decode cL_law 56 = .ok (.ifCond .eq 7, 3) := by decide +kernel
theorem dL_law_59 : decode cL_law 59 = .ok (.iconst 1, 1) := by decide +kernel
theorem dL_law_60 : decode cL_law 60 = .ok (.goto 4, 3) := by decide +kernel
theorem dL_law_63 : decode cL_law 63 = .ok (.iconst 0, 1) := by decide +kernel
theorem dL_law_64 : decode cL_law 64 = .ok (.istore_n 2, 1) := by decide +kernel
theorem dL_law_65 : decode cL_law 65 = .ok (.lconst 0, 1) := by decide +kernel
theorem dL_law_66 : decode cL_law 66 = .ok (.lstore_n 3, 1) := by decide +kernel
theorem dL_law_67 : decode cL_law 67 = .ok (.iconst 0, 1) := by decide +kernel
theorem dL_law_68 : decode cL_law 68 = .ok (.istore 5, 2) := by decide +kernel
theorem dL_law_70 : decode cL_law 70 = .ok (.iload 5, 2) := by decide +kernel
theorem dL_law_72 : decode cL_law 72 = .ok (.bipush 30, 2) := by decide +kernel
theorem dL_law_74 : decode cL_law 74 = .ok (.if_icmp .ge 566, 3) := by decide +kernel
theorem dL_law_77 : decode cL_law 77 = .ok (.iload_n 2, 1) := by decide +kernel
theorem dL_law_78 : decode cL_law 78 = .ok (.ifCond .eq 562, 3) := by decide +kernel
theorem dL_law_81 : decode cL_law 81 = .ok (.aload_n 0, 1) := by decide +kernel
theorem dL_law_82 : decode cL_law 82 = .ok (.iload 5, 2) := by decide +kernel
theorem dL_law_84 : decode cL_law 84 = .ok (.invokestatic 119, 3) := by decide +kernel
theorem dL_law_87 : decode cL_law 87 = .ok (.istore 6, 2) := by decide +kernel
theorem dL_law_89 : decode cL_law 89 = .ok (.iload 6, 2) := by decide +kernel
theorem dL_law_91 : decode cL_law 91 = .ok (.iconst 5, 1) := by decide +kernel
theorem dL_law_92 : decode cL_law 92 = .ok (.ishr, 1) := by decide +kernel
theorem dL_law_93 : decode cL_law 93 = .ok (.sipush 8192, 3) := by decide +kernel
theorem dL_law_96 : decode cL_law 96 = .ok (.invokestatic 123, 3) := by decide +kernel
theorem dL_law_99 : decode cL_law 99 = .ok (.istore 7, 2) := by decide +kernel
theorem dL_law_101 : decode cL_law 101 = .ok (.iload 6, 2) := by decide +kernel
theorem dL_law_103 : decode cL_law 103 = .ok (.bipush 11, 2) := by decide +kernel
theorem dL_law_105 : decode cL_law 105 = .ok (.ishr, 1) := by decide +kernel
theorem dL_law_106 : decode cL_law 106 = .ok (.sipush 8192, 3) := by decide +kernel
theorem dL_law_109 : decode cL_law 109 = .ok (.invokestatic 123, 3) := by decide +kernel
theorem dL_law_112 : decode cL_law 112 = .ok (.istore 8, 2) := by decide +kernel
theorem dL_law_114 : decode cL_law 114 = .ok (.iconst 0, 1) := by decide +kernel
theorem dL_law_115 : decode cL_law 115 = .ok (.istore 9, 2) := by decide +kernel
theorem dL_law_117 : decode cL_law 117 = .ok (.iload 6, 2) := by decide +kernel
theorem dL_law_119 : decode cL_law 119 = .ok (.bipush 18, 2) := by decide +kernel
theorem dL_law_121 : decode cL_law 121 = .ok (.invokestatic 123, 3) := by decide +kernel
theorem dL_law_124 : decode cL_law 124 = .ok (.tableswitch 380 0 15 #[80, 80, 103, 103, 136, 149, 149, 149, 149, 178, 192, 212, 212, 229, 285, 339], 80) := by decide +kernel
theorem dL_law_204 : decode cL_law 204 = .ok (.aload_n 1, 1) := by decide +kernel
theorem dL_law_205 : decode cL_law 205 = .ok (.iload 7, 2) := by decide +kernel
theorem dL_law_207 : decode cL_law 207 = .ok (.iconst 4, 1) := by decide +kernel
theorem dL_law_208 : decode cL_law 208 = .ok (.irem, 1) := by decide +kernel
theorem dL_law_209 : decode cL_law 209 = .ok (.iload 8, 2) := by decide +kernel
theorem dL_law_211 : decode cL_law 211 = .ok (.bipush 64, 2) := by decide +kernel
theorem dL_law_213 : decode cL_law 213 = .ok (.irem, 1) := by decide +kernel
theorem dL_law_214 : decode cL_law 214 = .ok (.iload 7, 2) := by decide +kernel
theorem dL_law_216 : decode cL_law 216 = .ok (.bipush 64, 2) := by decide +kernel
theorem dL_law_218 : decode cL_law 218 = .ok (.irem, 1) := by decide +kernel
theorem dL_law_219 : decode cL_law 219 = .ok (.invokevirtual 55, 3) := by decide +kernel
theorem dL_law_222 : decode cL_law 222 = .ok (.istore 9, 2) := by decide +kernel
theorem dL_law_224 : decode cL_law 224 = .ok (.goto 286, 3) := by decide +kernel
theorem dL_law_227 : decode cL_law 227 = .ok (.aload_n 1, 1) := by decide +kernel
theorem dL_law_228 : decode cL_law 228 = .ok (.iconst 1, 1) := by decide +kernel
theorem dL_law_229 : decode cL_law 229 = .ok (.iload 7, 2) := by decide +kernel
theorem dL_law_231 : decode cL_law 231 = .ok (.bipush 60, 2) := by decide +kernel
theorem dL_law_233 : decode cL_law 233 = .ok (.irem, 1) := by decide +kernel
theorem dL_law_234 : decode cL_law 234 = .ok (.iadd, 1) := by decide +kernel
theorem dL_law_235 : decode cL_law 235 = .ok (.iload 8, 2) := by decide +kernel
theorem dL_law_237 : decode cL_law 237 = .ok (.bipush 61, 2) := by decide +kernel
theorem dL_law_239 : decode cL_law 239 = .ok (.irem, 1) := by decide +kernel
theorem dL_law_240 : decode cL_law 240 = .ok (.iload 7, 2) := by decide +kernel
theorem dL_law_242 : decode cL_law 242 = .ok (.iconst 3, 1) := by decide +kernel
theorem dL_law_243 : decode cL_law 243 = .ok (.irem, 1) := by decide +kernel
theorem dL_law_244 : decode cL_law 244 = .ok (.ifCond .ne 7, 3) := by decide +kernel
theorem dL_law_247 : decode cL_law 247 = .ok (.iconst 1, 1) := by decide +kernel
theorem dL_law_248 : decode cL_law 248 = .ok (.goto 4, 3) := by decide +kernel
theorem dL_law_251 : decode cL_law 251 = .ok (.iconst 0, 1) := by decide +kernel
theorem dL_law_252 : decode cL_law 252 = .ok (.invokevirtual 68, 3) := by decide +kernel
theorem dL_law_255 : decode cL_law 255 = .ok (.istore 9, 2) := by decide +kernel
theorem dL_law_257 : decode cL_law 257 = .ok (.goto 253, 3) := by decide +kernel
theorem dL_law_260 : decode cL_law 260 = .ok (.aload_n 1, 1) := by decide +kernel
theorem dL_law_261 : decode cL_law 261 = .ok (.iload 7, 2) := by decide +kernel
theorem dL_law_263 : decode cL_law 263 = .ok (.iconst 2, 1) := by decide +kernel
theorem dL_law_264 : decode cL_law 264 = .ok (.irem, 1) := by decide +kernel
theorem dL_law_265 : decode cL_law 265 = .ok (.invokevirtual 74, 3) := by decide +kernel
theorem dL_law_268 : decode cL_law 268 = .ok (.istore 9, 2) := by decide +kernel
theorem dL_law_270 : decode cL_law 270 = .ok (.goto 240, 3) := by decide +kernel
theorem dL_law_273 : decode cL_law 273 = .ok (.aload_n 1, 1) := by decide +kernel
theorem dL_law_274 : decode cL_law 274 = .ok (.aload_n 1, 1) := by decide +kernel
theorem dL_law_275 : decode cL_law 275 = .ok (.iconst 5, 1) := by decide +kernel
theorem dL_law_276 : decode cL_law 276 = .ok (.invokevirtual 29, 3) := by decide +kernel
theorem dL_law_279 : decode cL_law 279 = .ok (.iconst 1, 1) := by decide +kernel
theorem dL_law_280 : decode cL_law 280 = .ok (.iload 7, 2) := by decide +kernel
theorem dL_law_282 : decode cL_law 282 = .ok (.sipush 2000, 3) := by decide +kernel
theorem dL_law_285 : decode cL_law 285 = .ok (.irem, 1) := by decide +kernel
theorem dL_law_286 : decode cL_law 286 = .ok (.iadd, 1) := by decide +kernel
theorem dL_law_287 : decode cL_law 287 = .ok (.iconst 1, 1) := by decide +kernel
theorem dL_law_288 : decode cL_law 288 = .ok (.iload 8, 2) := by decide +kernel
theorem dL_law_290 : decode cL_law 290 = .ok (.bipush 90, 2) := by decide +kernel
theorem dL_law_292 : decode cL_law 292 = .ok (.irem, 1) := by decide +kernel
theorem dL_law_293 : decode cL_law 293 = .ok (.iadd, 1) := by decide +kernel
theorem dL_law_294 : decode cL_law 294 = .ok (.invokevirtual 77, 3) := by decide +kernel
theorem dL_law_297 : decode cL_law 297 = .ok (.istore 9, 2) := by decide +kernel
theorem dL_law_299 : decode cL_law 299 = .ok (.goto 211, 3) := by decide +kernel
theorem dL_law_302 : decode cL_law 302 = .ok (.aload_n 1, 1) := by decide +kernel
theorem dL_law_303 : decode cL_law 303 = .ok (.iload 7, 2) := by decide +kernel
theorem dL_law_305 : decode cL_law 305 = .ok (.bipush 6, 2) := by decide +kernel
theorem dL_law_307 : decode cL_law 307 = .ok (.irem, 1) := by decide +kernel
theorem dL_law_308 : decode cL_law 308 = .ok (.invokevirtual 80, 3) := by decide +kernel
theorem dL_law_311 : decode cL_law 311 = .ok (.istore 9, 2) := by decide +kernel
theorem dL_law_313 : decode cL_law 313 = .ok (.goto 197, 3) := by decide +kernel
theorem dL_law_316 : decode cL_law 316 = .ok (.aload_n 1, 1) := by decide +kernel
theorem dL_law_317 : decode cL_law 317 = .ok (.iload 7, 2) := by decide +kernel
theorem dL_law_319 : decode cL_law 319 = .ok (.iconst 2, 1) := by decide +kernel
theorem dL_law_320 : decode cL_law 320 = .ok (.irem, 1) := by decide +kernel
theorem dL_law_321 : decode cL_law 321 = .ok (.iconst 1, 1) := by decide +kernel
theorem dL_law_322 : decode cL_law 322 = .ok (.iload 8, 2) := by decide +kernel
theorem dL_law_324 : decode cL_law 324 = .ok (.bipush 50, 2) := by decide +kernel
theorem dL_law_326 : decode cL_law 326 = .ok (.irem, 1) := by decide +kernel
theorem dL_law_327 : decode cL_law 327 = .ok (.iadd, 1) := by decide +kernel
theorem dL_law_328 : decode cL_law 328 = .ok (.invokevirtual 83, 3) := by decide +kernel
theorem dL_law_331 : decode cL_law 331 = .ok (.istore 9, 2) := by decide +kernel
theorem dL_law_333 : decode cL_law 333 = .ok (.goto 177, 3) := by decide +kernel
theorem dL_law_336 : decode cL_law 336 = .ok (.aload_n 1, 1) := by decide +kernel
theorem dL_law_337 : decode cL_law 337 = .ok (.iconst 1, 1) := by decide +kernel
theorem dL_law_338 : decode cL_law 338 = .ok (.iload 7, 2) := by decide +kernel
theorem dL_law_340 : decode cL_law 340 = .ok (.sipush 150, 3) := by decide +kernel
theorem dL_law_343 : decode cL_law 343 = .ok (.irem, 1) := by decide +kernel
theorem dL_law_344 : decode cL_law 344 = .ok (.iadd, 1) := by decide +kernel
theorem dL_law_345 : decode cL_law 345 = .ok (.invokevirtual 86, 3) := by decide +kernel
theorem dL_law_348 : decode cL_law 348 = .ok (.istore 9, 2) := by decide +kernel
theorem dL_law_350 : decode cL_law 350 = .ok (.goto 160, 3) := by decide +kernel
theorem dL_law_353 : decode cL_law 353 = .ok (.aload_n 1, 1) := by decide +kernel
theorem dL_law_354 : decode cL_law 354 = .ok (.iload 7, 2) := by decide +kernel
theorem dL_law_356 : decode cL_law 356 = .ok (.sipush 2000, 3) := by decide +kernel
theorem dL_law_359 : decode cL_law 359 = .ok (.irem, 1) := by decide +kernel
theorem dL_law_360 : decode cL_law 360 = .ok (.sipush 1000, 3) := by decide +kernel
theorem dL_law_363 : decode cL_law 363 = .ok (.isub, 1) := by decide +kernel
theorem dL_law_364 : decode cL_law 364 = .ok (.iload 8, 2) := by decide +kernel
theorem dL_law_366 : decode cL_law 366 = .ok (.sipush 2000, 3) := by decide +kernel
theorem dL_law_369 : decode cL_law 369 = .ok (.irem, 1) := by decide +kernel
theorem dL_law_370 : decode cL_law 370 = .ok (.sipush 1000, 3) := by decide +kernel
theorem dL_law_373 : decode cL_law 373 = .ok (.isub, 1) := by decide +kernel
theorem dL_law_374 : decode cL_law 374 = .ok (.iload 8, 2) := by decide +kernel
theorem dL_law_376 : decode cL_law 376 = .ok (.sipush 600, 3) := by decide +kernel
theorem dL_law_379 : decode cL_law 379 = .ok (.irem, 1) := by decide +kernel
theorem dL_law_380 : decode cL_law 380 = .ok (.sipush 300, 3) := by decide +kernel
theorem dL_law_383 : decode cL_law 383 = .ok (.isub, 1) := by decide +kernel
theorem dL_law_384 : decode cL_law 384 = .ok (.sipush 300, 3) := by decide +kernel
theorem dL_law_387 : decode cL_law 387 = .ok (.iload 7, 2) := by decide +kernel
theorem dL_law_389 : decode cL_law 389 = .ok (.sipush 600, 3) := by decide +kernel
theorem dL_law_392 : decode cL_law 392 = .ok (.irem, 1) := by decide +kernel
theorem dL_law_393 : decode cL_law 393 = .ok (.isub, 1) := by decide +kernel
theorem dL_law_394 : decode cL_law 394 = .ok (.iconst 1, 1) := by decide +kernel
theorem dL_law_395 : decode cL_law 395 = .ok (.iload 7, 2) := by decide +kernel
theorem dL_law_397 : decode cL_law 397 = .ok (.bipush 60, 2) := by decide +kernel
theorem dL_law_399 : decode cL_law 399 = .ok (.irem, 1) := by decide +kernel
theorem dL_law_400 : decode cL_law 400 = .ok (.iadd, 1) := by decide +kernel
theorem dL_law_401 : decode cL_law 401 = .ok (.invokevirtual 92, 3) := by decide +kernel
theorem dL_law_404 : decode cL_law 404 = .ok (.istore 9, 2) := by decide +kernel
theorem dL_law_406 : decode cL_law 406 = .ok (.goto 104, 3) := by decide +kernel
theorem dL_law_409 : decode cL_law 409 = .ok (.aload_n 1, 1) := by decide +kernel
theorem dL_law_410 : decode cL_law 410 = .ok (.invokevirtual 126, 3) := by decide +kernel
theorem dL_law_413 : decode cL_law 413 = .ok (.istore 9, 2) := by decide +kernel
theorem dL_law_415 : decode cL_law 415 = .ok (.aload_n 1, 1) := by decide +kernel
theorem dL_law_416 : decode cL_law 416 = .ok (.invokestatic 49, 3) := by decide +kernel
theorem dL_law_419 : decode cL_law 419 = .ok (.lstore_n 3, 1) := by decide +kernel
theorem dL_law_420 : decode cL_law 420 = .ok (.aload_n 1, 1) := by decide +kernel
theorem dL_law_421 : decode cL_law 421 = .ok (.iconst 0, 1) := by decide +kernel
theorem dL_law_422 : decode cL_law 422 = .ok (.invokevirtual 96, 3) := by decide +kernel
theorem dL_law_425 : decode cL_law 425 = .ok (.ifCond .ne 33, 3) := by decide +kernel
theorem dL_law_428 : decode cL_law 428 = .ok (.aload_n 1, 1) := by decide +kernel
theorem dL_law_429 : decode cL_law 429 = .ok (.iconst 1, 1) := by decide +kernel
theorem dL_law_430 : decode cL_law 430 = .ok (.invokevirtual 96, 3) := by decide +kernel
theorem dL_law_433 : decode cL_law 433 = .ok (.ifCond .ne 25, 3) := by decide +kernel
theorem dL_law_436 : decode cL_law 436 = .ok (.aload_n 1, 1) := by decide +kernel
theorem dL_law_437 : decode cL_law 437 = .ok (.iconst 2, 1) := by decide +kernel
theorem dL_law_438 : decode cL_law 438 = .ok (.invokevirtual 96, 3) := by decide +kernel
theorem dL_law_441 : decode cL_law 441 = .ok (.ifCond .ne 17, 3) := by decide +kernel
theorem dL_law_444 : decode cL_law 444 = .ok (.aload_n 1, 1) := by decide +kernel
theorem dL_law_445 : decode cL_law 445 = .ok (.iconst 3, 1) := by decide +kernel
theorem dL_law_446 : decode cL_law 446 = .ok (.invokevirtual 96, 3) := by decide +kernel
theorem dL_law_449 : decode cL_law 449 = .ok (.ldc 129, 2) := by decide +kernel
theorem dL_law_451 : decode cL_law 451 = .ok (.if_icmp .ne 7, 3) := by decide +kernel
theorem dL_law_454 : decode cL_law 454 = .ok (.iconst 1, 1) := by decide +kernel
theorem dL_law_455 : decode cL_law 455 = .ok (.goto 4, 3) := by decide +kernel
theorem dL_law_458 : decode cL_law 458 = .ok (.iconst 0, 1) := by decide +kernel
theorem dL_law_459 : decode cL_law 459 = .ok (.istore_n 2, 1) := by decide +kernel
theorem dL_law_460 : decode cL_law 460 = .ok (.goto 50, 3) := by decide +kernel
theorem dL_law_463 : decode cL_law 463 = .ok (.aload_n 1, 1) := by decide +kernel
theorem dL_law_464 : decode cL_law 464 = .ok (.invokevirtual 108, 3) := by decide +kernel
theorem dL_law_467 : decode cL_law 467 = .ok (.istore 9, 2) := by decide +kernel
theorem dL_law_469 : decode cL_law 469 = .ok (.iload 9, 2) := by decide +kernel
theorem dL_law_471 : decode cL_law 471 = .ok (.bipush (-2), 2) := by decide +kernel
theorem dL_law_473 : decode cL_law 473 = .ok (.if_icmp .eq 22, 3) := by decide +kernel
theorem dL_law_476 : decode cL_law 476 = .ok (.aload_n 1, 1) := by decide +kernel
theorem dL_law_477 : decode cL_law 477 = .ok (.invokestatic 49, 3) := by decide +kernel
theorem dL_law_480 : decode cL_law 480 = .ok (.lload_n 3, 1) := by decide +kernel
theorem dL_law_481 : decode cL_law 481 = .ok (.lcmp, 1) := by decide +kernel
theorem dL_law_482 : decode cL_law 482 = .ok (.ifCond .ne 17, 3) := by decide +kernel
theorem dL_law_485 : decode cL_law 485 = .ok (.aload_n 1, 1) := by decide +kernel
theorem dL_law_486 : decode cL_law 486 = .ok (.iconst 3, 1) := by decide +kernel
theorem dL_law_487 : decode cL_law 487 = .ok (.invokevirtual 96, 3) := by decide +kernel
theorem dL_law_490 : decode cL_law 490 = .ok (.ldc 129, 2) := by decide +kernel
theorem dL_law_492 : decode cL_law 492 = .ok (.if_icmp .ne 7, 3) := by decide +kernel
theorem dL_law_495 : decode cL_law 495 = .ok (.iconst 1, 1) := by decide +kernel
theorem dL_law_496 : decode cL_law 496 = .ok (.goto 4, 3) := by decide +kernel
theorem dL_law_499 : decode cL_law 499 = .ok (.iconst 0, 1) := by decide +kernel
theorem dL_law_500 : decode cL_law 500 = .ok (.istore_n 2, 1) := by decide +kernel
theorem dL_law_501 : decode cL_law 501 = .ok (.goto 9, 3) := by decide +kernel
theorem dL_law_504 : decode cL_law 504 = .ok (.aload_n 1, 1) := by decide +kernel
theorem dL_law_505 : decode cL_law 505 = .ok (.invokevirtual 111, 3) := by decide +kernel
theorem dL_law_508 : decode cL_law 508 = .ok (.istore 9, 2) := by decide +kernel
theorem dL_law_510 : decode cL_law 510 = .ok (.iload_n 2, 1) := by decide +kernel
theorem dL_law_511 : decode cL_law 511 = .ok (.ifCond .eq 121, 3) := by decide +kernel
theorem dL_law_514 : decode cL_law 514 = .ok (.iload 9, 2) := by decide +kernel
theorem dL_law_516 : decode cL_law 516 = .ok (.bipush (-4), 2) := by decide +kernel
theorem dL_law_518 : decode cL_law 518 = .ok (.if_icmp .lt 114, 3) := by decide +kernel
theorem dL_law_521 : decode cL_law 521 = .ok (.aload_n 1, 1) := by decide +kernel
theorem dL_law_522 : decode cL_law 522 = .ok (.invokestatic 130, 3) := by decide +kernel
theorem dL_law_525 : decode cL_law 525 = .ok (.ifCond .eq 107, 3) := by decide +kernel
theorem dL_law_528 : decode cL_law 528 = .ok (.aload_n 1, 1) := by decide +kernel
theorem dL_law_529 : decode cL_law 529 = .ok (.iload 7, 2) := by decide +kernel
theorem dL_law_531 : decode cL_law 531 = .ok (.sipush 400, 3) := by decide +kernel
theorem dL_law_534 : decode cL_law 534 = .ok (.irem, 1) := by decide +kernel
theorem dL_law_535 : decode cL_law 535 = .ok (.sipush 200, 3) := by decide +kernel
theorem dL_law_538 : decode cL_law 538 = .ok (.isub, 1) := by decide +kernel
theorem dL_law_539 : decode cL_law 539 = .ok (.iload 8, 2) := by decide +kernel
theorem dL_law_541 : decode cL_law 541 = .ok (.sipush 400, 3) := by decide +kernel
theorem dL_law_544 : decode cL_law 544 = .ok (.irem, 1) := by decide +kernel
theorem dL_law_545 : decode cL_law 545 = .ok (.sipush 200, 3) := by decide +kernel
theorem dL_law_548 : decode cL_law 548 = .ok (.isub, 1) := by decide +kernel
theorem dL_law_549 : decode cL_law 549 = .ok (.invokestatic 133, 3) := by decide +kernel
theorem dL_law_552 : decode cL_law 552 = .ok (.ifCond .eq 80, 3) := by decide +kernel
theorem dL_law_555 : decode cL_law 555 = .ok (.iload 5, 2) := by decide +kernel
theorem dL_law_557 : decode cL_law 557 = .ok (.iconst 4, 1) := by decide +kernel
theorem dL_law_558 : decode cL_law 558 = .ok (.irem, 1) := by decide +kernel
theorem dL_law_559 : decode cL_law 559 = .ok (.iconst 1, 1) := by decide +kernel
theorem dL_law_560 : decode cL_law 560 = .ok (.if_icmp .ne 10, 3) := by decide +kernel
theorem dL_law_563 : decode cL_law 563 = .ok (.aload_n 1, 1) := by decide +kernel
theorem dL_law_564 : decode cL_law 564 = .ok (.invokestatic 137, 3) := by decide +kernel
theorem dL_law_567 : decode cL_law 567 = .ok (.ifCond .eq 65, 3) := by decide +kernel
theorem dL_law_570 : decode cL_law 570 = .ok (.iload 5, 2) := by decide +kernel
theorem dL_law_572 : decode cL_law 572 = .ok (.iconst 3, 1) := by decide +kernel
theorem dL_law_573 : decode cL_law 573 = .ok (.irem, 1) := by decide +kernel
theorem dL_law_574 : decode cL_law 574 = .ok (.iconst 2, 1) := by decide +kernel
theorem dL_law_575 : decode cL_law 575 = .ok (.if_icmp .ne 37, 3) := by decide +kernel
theorem dL_law_578 : decode cL_law 578 = .ok (.aload_n 1, 1) := by decide +kernel
theorem dL_law_579 : decode cL_law 579 = .ok (.iload 8, 2) := by decide +kernel
theorem dL_law_581 : decode cL_law 581 = .ok (.sipush 900, 3) := by decide +kernel
theorem dL_law_584 : decode cL_law 584 = .ok (.irem, 1) := by decide +kernel
theorem dL_law_585 : decode cL_law 585 = .ok (.sipush 450, 3) := by decide +kernel
theorem dL_law_588 : decode cL_law 588 = .ok (.isub, 1) := by decide +kernel
theorem dL_law_589 : decode cL_law 589 = .ok (.iload 7, 2) := by decide +kernel
theorem dL_law_591 : decode cL_law 591 = .ok (.sipush 900, 3) := by decide +kernel
theorem dL_law_594 : decode cL_law 594 = .ok (.irem, 1) := by decide +kernel
theorem dL_law_595 : decode cL_law 595 = .ok (.sipush 450, 3) := by decide +kernel
theorem dL_law_598 : decode cL_law 598 = .ok (.isub, 1) := by decide +kernel
theorem dL_law_599 : decode cL_law 599 = .ok (.iconst 1, 1) := by decide +kernel
theorem dL_law_600 : decode cL_law 600 = .ok (.iload 7, 2) := by decide +kernel
theorem dL_law_602 : decode cL_law 602 = .ok (.bipush 70, 2) := by decide +kernel
theorem dL_law_604 : decode cL_law 604 = .ok (.irem, 1) := by decide +kernel
theorem dL_law_605 : decode cL_law 605 = .ok (.iadd, 1) := by decide +kernel
theorem dL_law_606 : decode cL_law 606 = .ok (.invokestatic 140, 3) := by decide +kernel
theorem dL_law_609 : decode cL_law 609 = .ok (.ifCond .eq 23, 3) := by decide +kernel
theorem dL_law_612 : decode cL_law 612 = .ok (.iload 5, 2) := by decide +kernel
theorem dL_law_614 : decode cL_law 614 = .ok (.bipush 8, 2) := by decide +kernel
theorem dL_law_616 : decode cL_law 616 = .ok (.irem, 1) := by decide +kernel
theorem dL_law_617 : decode cL_law 617 = .ok (.iconst 5, 1) := by decide +kernel
theorem dL_law_618 : decode cL_law 618 = .ok (.if_icmp .ne 10, 3) := by decide +kernel
theorem dL_law_621 : decode cL_law 621 = .ok (.aload_n 1, 1) := by decide +kernel
theorem dL_law_622 : decode cL_law 622 = .ok (.invokestatic 115, 3) := by decide +kernel
theorem dL_law_625 : decode cL_law 625 = .ok (.ifCond .eq 7, 3) := by decide +kernel
theorem dL_law_628 : decode cL_law 628 = .ok (.iconst 1, 1) := by decide +kernel
theorem dL_law_629 : decode cL_law 629 = .ok (.goto 4, 3) := by decide +kernel
theorem dL_law_632 : decode cL_law 632 = .ok (.iconst 0, 1) := by decide +kernel
theorem dL_law_633 : decode cL_law 633 = .ok (.istore_n 2, 1) := by decide +kernel
theorem dL_law_634 : decode cL_law 634 = .ok (.iinc 5 1, 3) := by decide +kernel
theorem dL_law_637 : decode cL_law 637 = .ok (.goto (-567), 3) := by decide +kernel
theorem dL_law_640 : decode cL_law 640 = .ok (.iload_n 2, 1) := by decide +kernel
theorem dL_law_641 : decode cL_law 641 = .ok (.ifCond .eq 14, 3) := by decide +kernel
theorem dL_law_644 : decode cL_law 644 = .ok (.aload_n 1, 1) := by decide +kernel
theorem dL_law_645 : decode cL_law 645 = .ok (.invokestatic 115, 3) := by decide +kernel
theorem dL_law_648 : decode cL_law 648 = .ok (.ifCond .eq 7, 3) := by decide +kernel
theorem dL_law_651 : decode cL_law 651 = .ok (.iconst 1, 1) := by decide +kernel
theorem dL_law_652 : decode cL_law 652 = .ok (.goto 4, 3) := by decide +kernel
theorem dL_law_655 : decode cL_law 655 = .ok (.iconst 0, 1) := by decide +kernel
theorem dL_law_656 : decode cL_law 656 = .ok (.ireturn, 1) := by decide +kernel
