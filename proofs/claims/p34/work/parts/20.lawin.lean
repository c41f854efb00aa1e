-- the law's words among the tables': printed by wip/p34/lawgen34.py
theorem in_r {big ws : List Cond} (ps : List Nat) (h : ws = ps.filterMap (fun i => big[i]?)) : ∀ w ∈ ws, w ∈ big := by
  intro w hw
  rw [h] at hw
  obtain ⟨i, -, hi⟩ := List.mem_filterMap.mp hw
  exact List.mem_of_getElem? hi
set_option maxRecDepth 100000 in
theorem lin_1 : ∀ w ∈ wsL_law_r1, w ∈ lw_tbl := in_r [35, 36, 19, 816, 37, 38, 39, 40, 41, 42, 43, 44, 20, 236, 237, 238, 183, 184, 25, 239, 203, 204, 26, 240] (by decide +kernel)
set_option maxRecDepth 100000 in
theorem lin_2 : ∀ w ∈ wsL_law_r2, w ∈ lw_tbl := in_r [46, 47, 48, 49, 50, 21, 147, 60, 61, 22, 150, 82, 83, 23, 153, 117, 118, 24, 156, 59, 158, 161, 51, 52] (by decide +kernel)
set_option maxRecDepth 100000 in
theorem lin_3 : ∀ w ∈ wsL_law_r3, w ∈ lw_tbl := in_r [53, 54, 55, 62, 63, 64, 65, 66, 67, 68, 69, 70, 85, 86, 87, 88, 89, 90, 97, 120, 121, 122, 123, 124] (by decide +kernel)
set_option maxRecDepth 100000 in
theorem lin_4 : ∀ w ∈ wsL_law_r4, w ∈ lw_tbl := in_r [125, 126, 127, 185, 186, 187, 188, 189, 192, 206, 207, 208, 235, 209, 210, 534, 535, 536, 537, 538, 539, 540, 541, 195] (by decide +kernel)
set_option maxRecDepth 100000 in
theorem lin_5 : ∀ w ∈ wsL_law_r5, w ∈ lw_tbl := in_r [193, 266, 267, 268, 269, 292, 276, 275, 27, 159, 164, 270, 271, 272, 273, 274, 277, 278, 279, 280, 281, 282, 283, 284] (by decide +kernel)
set_option maxRecDepth 100000 in
theorem lin_6 : ∀ w ∈ wsL_law_r6, w ∈ lw_tbl := in_r [285, 286, 91, 94, 100, 287, 288, 289, 290, 291, 128, 130, 405, 406, 407, 408, 241, 409, 410, 411, 412, 413, 415, 0] (by decide +kernel)
set_option maxRecDepth 100000 in
theorem lin_7 : ∀ w ∈ wsL_law_r7, w ∈ lw_tbl := in_r [416, 417, 418, 419, 420, 342, 343, 344, 345, 346, 347, 348, 349, 350, 351, 352, 421, 422, 423, 424, 396, 397, 398, 399] (by decide +kernel)
set_option maxRecDepth 100000 in
theorem lin_8 : ∀ w ∈ wsL_law_r8, w ∈ lw_tbl := in_r [425, 426, 427, 428, 317, 318, 319, 320, 321, 322, 323, 324, 313, 314, 315, 316, 325, 326, 327, 328, 329, 330, 331, 332] (by decide +kernel)
set_option maxRecDepth 100000 in
theorem lin_9 : ∀ w ∈ wsL_law_r9, w ∈ lw_tbl := in_r [333, 334, 335, 336, 337, 429, 430, 431, 432, 433, 388, 389, 390, 391, 392, 393, 394, 395, 400, 401, 402, 403, 404, 542] (by decide +kernel)
set_option maxRecDepth 100000 in
theorem lin_10 : ∀ w ∈ wsL_law_r10, w ∈ lw_tbl := in_r [543, 544, 545, 259, 260, 261, 546, 547, 548, 549, 213, 214, 211, 216, 218, 550, 552, 3, 553, 554, 556, 4, 557, 558] (by decide +kernel)
set_option maxRecDepth 100000 in
theorem lin_11 : ∀ w ∈ wsL_law_r11, w ∈ lw_tbl := in_r [560, 5, 561, 563, 565, 6, 566, 567, 568, 569, 28, 570, 817, 571, 572, 573, 574, 575, 818, 577, 578, 579, 580, 581] (by decide +kernel)
set_option maxRecDepth 100000 in
theorem lin_12 : ∀ w ∈ wsL_law_r12, w ∈ lw_tbl := in_r [582, 583, 584, 585, 586, 29, 587, 588, 589, 590, 591, 593, 594, 30, 595, 596, 597, 31, 598, 599, 600, 601, 602, 603] (by decide +kernel)
set_option maxRecDepth 100000 in
theorem lin_13 : ∀ w ∈ wsL_law_r13, w ∈ lw_tbl := in_r [604, 605, 606, 607, 608, 609, 611, 613, 615, 617, 7, 618, 619, 621, 8, 622, 623, 625, 9, 626, 631, 633, 10, 634] (by decide +kernel)
set_option maxRecDepth 100000 in
theorem lin_14 : ∀ w ∈ wsL_law_r14, w ∈ lw_tbl := in_r [635, 294, 295, 296, 637, 639, 11, 640, 641, 306, 307, 308, 642, 310, 311, 312, 644, 646, 12, 647, 650, 652, 13, 653] (by decide +kernel)
set_option maxRecDepth 100000 in
theorem lin_15 : ∀ w ∈ wsL_law_r15, w ∈ lw_tbl := in_r [654, 354, 355, 356, 357, 358, 359, 360, 656, 658, 14, 659, 662, 366, 367, 368, 663, 665, 667, 15, 668, 669, 671, 16] (by decide +kernel)
set_option maxRecDepth 100000 in
theorem lin_16a : ∀ w ∈ wsL_law_r16.take 8, w ∈ lw_tbl := in_r [672, 674, 676, 17, 677, 752, 753, 18] (by decide +kernel)
set_option maxRecDepth 100000 in
theorem lin_16b : ∀ w ∈ [Cond.code yL_areErrors cL_areErrors 4 (some .boolean)], w ∈ lw_tbl := in_r [754] (by rfl)
set_option maxRecDepth 100000 in
theorem lin_16c : ∀ w ∈ wsL_law_r16.drop 9, w ∈ lw_tbl := in_r [687, 688, 689, 690, 691, 692, 693, 694, 695, 696, 697, 698, 699, 700, 701] (by decide +kernel)
theorem lin_16d : wsL_law_r16 = wsL_law_r16.take 8 ++ ([Cond.code yL_areErrors cL_areErrors 4 (some .boolean)] ++ wsL_law_r16.drop 9) := rfl
theorem lin_16 : ∀ w ∈ wsL_law_r16, w ∈ lw_tbl := by
  rw [lin_16d]
  exact List.forall_mem_append.mpr ⟨lin_16a, List.forall_mem_append.mpr ⟨lin_16b, lin_16c⟩⟩
set_option maxRecDepth 100000 in
theorem lin_17 : ∀ w ∈ wsL_law_r17, w ∈ lw_tbl := in_r [702, 703, 704, 705, 706, 707, 708, 374, 709, 526, 527, 528, 710, 530, 531, 532, 375, 376, 377, 378, 711, 481, 482, 483] (by decide +kernel)
set_option maxRecDepth 100000 in
theorem lin_18 : ∀ w ∈ wsL_law_r18, w ∈ lw_tbl := in_r [712, 713, 714, 715, 716, 717, 718, 719, 720, 721, 722, 723, 724, 725, 726, 727, 728, 729, 730, 731, 732, 733, 734, 735] (by decide +kernel)
set_option maxRecDepth 100000 in
theorem lin_19 : ∀ w ∈ wsL_law_r19, w ∈ lw_tbl := in_r [736, 737, 738, 32, 739, 740, 741, 742, 743, 744, 745, 746, 747, 748, 477, 478, 479, 487, 488, 480, 484, 485, 486, 749] (by decide +kernel)
set_option maxRecDepth 100000 in
theorem lin_20 : ∀ w ∈ wsL_law_r20, w ∈ lw_tbl := in_r [750, 751, 255, 256, 257, 258, 262, 263, 264, 265, 293, 755, 756, 757, 758, 759, 760, 761, 762, 763, 764, 765, 766, 767] (by decide +kernel)
set_option maxRecDepth 100000 in
theorem lin_21 : ∀ w ∈ wsL_law_r21, w ∈ lw_tbl := in_r [768, 769, 770, 438, 439, 440, 771, 772, 33, 773, 463, 464, 465, 466, 467, 468, 469, 774, 775, 776, 777, 778, 458, 459] (by decide +kernel)
set_option maxRecDepth 100000 in
theorem lin_22 : ∀ w ∈ wsL_law_r22, w ∈ lw_tbl := in_r [460, 461, 462, 297, 298, 299, 300, 301, 302, 303, 304, 305, 309, 779, 780, 781, 782, 338, 339, 340, 341, 353, 361, 362] (by decide +kernel)
set_option maxRecDepth 100000 in
theorem lin_23 : ∀ w ∈ wsL_law_r23, w ∈ lw_tbl := in_r [363, 364, 365, 369, 370, 371, 372, 373, 379, 380, 381, 382, 383, 384, 385, 386, 387, 783, 784, 785, 786, 787, 454, 455] (by decide +kernel)
set_option maxRecDepth 100000 in
theorem lin_24 : ∀ w ∈ wsL_law_r24, w ∈ lw_tbl := in_r [456, 457, 471, 472, 474, 1, 475, 476, 434, 435, 436, 437, 441, 442, 443, 444, 445, 446, 34, 447, 448, 449, 450, 451] (by decide +kernel)
set_option maxRecDepth 100000 in
theorem lin_25 : ∀ w ∈ wsL_law_r25, w ∈ lw_tbl := in_r [452, 453, 489, 490, 491, 492, 493, 494, 495, 496, 505, 506, 507, 508, 509, 510, 511, 512, 513, 514, 515, 516, 517, 518] (by decide +kernel)
set_option maxRecDepth 100000 in
theorem lin_26 : ∀ w ∈ wsL_law_r26, w ∈ lw_tbl := in_r [519, 520, 521, 523, 2, 524, 525, 529, 533, 788, 789, 790, 791, 792, 793, 794, 795, 796, 797, 798, 799, 800, 801, 802] (by decide +kernel)
set_option maxRecDepth 100000 in
theorem lin_27 : ∀ w ∈ wsL_law_r27, w ∈ lw_tbl := in_r [803, 501, 502, 503, 504, 679, 680, 681, 682, 683, 684, 685, 686, 497, 498, 499, 500, 804, 805, 806, 807, 808, 809, 810] (by decide +kernel)
set_option maxRecDepth 100000 in
theorem lin_28 : ∀ w ∈ wsL_law_r28, w ∈ lw_tbl := in_r [811, 812, 813, 814, 815] (by decide +kernel)
set_option maxRecDepth 100000 in
theorem lin_X1 : ∀ w ∈ wsX10, w ∈ lw_tbl := in_r [102, 104, 106, 108, 110, 112, 114] (by decide +kernel)
set_option maxRecDepth 100000 in
theorem lin_X2 : ∀ w ∈ wsX20, w ∈ lw_tbl := in_r [56] (by decide +kernel)
set_option maxRecDepth 100000 in
theorem lin_X4 : ∀ w ∈ wsX40, w ∈ lw_tbl := in_r [71, 73, 75, 77, 79] (by decide +kernel)
set_option maxRecDepth 100000 in
theorem lin_X5 : ∀ w ∈ wsX50, w ∈ lw_tbl := in_r [196, 198, 200] (by decide +kernel)
set_option maxRecDepth 100000 in
theorem lin_X6 : ∀ w ∈ wsX60, w ∈ lw_tbl := in_r [132, 134, 136, 138, 140, 142, 144] (by decide +kernel)
set_option maxRecDepth 100000 in
theorem lin_X7 : ∀ w ∈ wsX70, w ∈ lw_tbl := in_r [166, 168, 170, 172, 174, 176, 178, 180] (by decide +kernel)
set_option maxRecDepth 100000 in
theorem lin_X8 : ∀ w ∈ wsX80, w ∈ lw_tbl := in_r [220, 222, 224, 226, 228, 230, 232] (by decide +kernel)
set_option maxRecDepth 100000 in
theorem lin_X9 : ∀ w ∈ wsX90, w ∈ lw_tbl := in_r [242, 244, 246, 248, 250, 252] (by decide +kernel)
theorem wsL_law_in : ∀ w ∈ wsL_law, w ∈ lw_tbl := by
  unfold wsL_law
  exact List.forall_mem_append.mpr ⟨List.forall_mem_append.mpr ⟨List.forall_mem_append.mpr ⟨List.forall_mem_append.mpr ⟨List.forall_mem_append.mpr ⟨List.forall_mem_append.mpr ⟨List.forall_mem_append.mpr ⟨List.forall_mem_append.mpr ⟨List.forall_mem_append.mpr ⟨List.forall_mem_append.mpr ⟨lin_1, List.forall_mem_append.mpr ⟨lin_2, List.forall_mem_append.mpr ⟨lin_3, List.forall_mem_append.mpr ⟨lin_4, List.forall_mem_append.mpr ⟨lin_5, List.forall_mem_append.mpr ⟨lin_6, List.forall_mem_append.mpr ⟨lin_7, List.forall_mem_append.mpr ⟨lin_8, List.forall_mem_append.mpr ⟨lin_9, List.forall_mem_append.mpr ⟨lin_10, List.forall_mem_append.mpr ⟨lin_11, List.forall_mem_append.mpr ⟨lin_12, List.forall_mem_append.mpr ⟨lin_13, List.forall_mem_append.mpr ⟨lin_14, List.forall_mem_append.mpr ⟨lin_15, List.forall_mem_append.mpr ⟨lin_16, List.forall_mem_append.mpr ⟨lin_17, List.forall_mem_append.mpr ⟨lin_18, List.forall_mem_append.mpr ⟨lin_19, List.forall_mem_append.mpr ⟨lin_20, List.forall_mem_append.mpr ⟨lin_21, List.forall_mem_append.mpr ⟨lin_22, List.forall_mem_append.mpr ⟨lin_23, List.forall_mem_append.mpr ⟨lin_24, List.forall_mem_append.mpr ⟨lin_25, List.forall_mem_append.mpr ⟨lin_26, List.forall_mem_append.mpr ⟨lin_27, lin_28⟩⟩⟩⟩⟩⟩⟩⟩⟩⟩⟩⟩⟩⟩⟩⟩⟩⟩⟩⟩⟩⟩⟩⟩⟩⟩⟩, lin_X9⟩, lin_X7⟩, lin_X5⟩, lin_X8⟩, lin_X2⟩, lin_X4⟩, lin_X1⟩, lin_X6⟩, fun _ h => absurd h List.not_mem_nil⟩
