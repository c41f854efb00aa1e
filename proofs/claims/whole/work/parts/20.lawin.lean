-- the law's words among the tables': printed by wip/whole/lawgen.py
theorem in_r {big ws : List Cond} (ps : List Nat) (h : ws = ps.filterMap (fun i => big[i]?)) : ∀ w ∈ ws, w ∈ big := by
  intro w hw
  rw [h] at hw
  obtain ⟨i, -, hi⟩ := List.mem_filterMap.mp hw
  exact List.mem_of_getElem? hi
set_option maxRecDepth 100000 in
theorem lin_1 : ∀ w ∈ wsL_law_r1, w ∈ lw_tbl := in_r [77, 78, 60, 834, 835, 68, 79, 80, 81, 82, 83, 84, 85, 86, 61, 278, 279, 280, 225, 226, 66, 281, 245, 246] (by decide +kernel)
set_option maxRecDepth 100000 in
theorem lin_2 : ∀ w ∈ wsL_law_r2, w ∈ lw_tbl := in_r [67, 282, 88, 89, 90, 91, 92, 62, 189, 102, 103, 63, 192, 124, 125, 64, 195, 159, 160, 65, 198, 101, 200, 203] (by decide +kernel)
set_option maxRecDepth 100000 in
theorem lin_3 : ∀ w ∈ wsL_law_r3, w ∈ lw_tbl := in_r [93, 94, 95, 96, 97, 104, 105, 106, 107, 108, 109, 110, 111, 112, 127, 128, 129, 130, 131, 132, 139, 162, 163, 164] (by decide +kernel)
set_option maxRecDepth 100000 in
theorem lin_4 : ∀ w ∈ wsL_law_r4, w ∈ lw_tbl := in_r [165, 166, 167, 168, 169, 227, 228, 229, 230, 231, 234, 248, 249, 250, 277, 251, 252, 836, 837, 838, 839, 844, 845, 846] (by decide +kernel)
set_option maxRecDepth 100000 in
theorem lin_5 : ∀ w ∈ wsL_law_r5, w ∈ lw_tbl := in_r [847, 850, 852, 854, 840, 842, 18, 843, 297, 298, 299, 300, 301, 302, 303, 304, 305, 306, 307, 237, 235, 308, 309, 310] (by decide +kernel)
set_option maxRecDepth 100000 in
theorem lin_6 : ∀ w ∈ wsL_law_r6, w ∈ lw_tbl := in_r [311, 334, 318, 317, 69, 201, 206, 312, 313, 314, 315, 316, 319, 320, 321, 322, 323, 324, 325, 326, 327, 328, 133, 136] (by decide +kernel)
set_option maxRecDepth 100000 in
theorem lin_7 : ∀ w ∈ wsL_law_r7, w ∈ lw_tbl := in_r [142, 329, 330, 331, 332, 333, 170, 172, 335, 336, 337, 338, 897, 898, 899, 900, 901, 902, 903, 904, 905, 906, 907, 909] (by decide +kernel)
set_option maxRecDepth 100000 in
theorem lin_8 : ∀ w ∈ wsL_law_r8, w ∈ lw_tbl := in_r [19, 910, 849, 894, 895, 896, 911, 913, 20, 914, 339, 340, 341, 342, 343, 344, 345, 346, 915, 916, 917, 918, 347, 348] (by decide +kernel)
set_option maxRecDepth 100000 in
theorem lin_9 : ∀ w ∈ wsL_law_r9, w ∈ lw_tbl := in_r [349, 350, 351, 352, 353, 354, 355, 357, 0, 358, 359, 360, 361, 362, 363, 919, 920, 921, 922, 923, 925, 21, 926, 927] (by decide +kernel)
set_option maxRecDepth 100000 in
theorem lin_10 : ∀ w ∈ wsL_law_r10, w ∈ lw_tbl := in_r [929, 22, 930, 931, 933, 23, 934, 364, 365, 366, 367, 368, 369, 370, 371, 372, 70, 373, 374, 375, 376, 377, 378, 379] (by decide +kernel)
set_option maxRecDepth 100000 in
theorem lin_11 : ∀ w ∈ wsL_law_r11, w ∈ lw_tbl := in_r [380, 935, 936, 937, 938, 939, 940, 941, 942, 944, 24, 945, 946, 948, 25, 949, 382, 383, 384, 385, 386, 387, 388, 389] (by decide +kernel)
set_option maxRecDepth 100000 in
theorem lin_12 : ∀ w ∈ wsL_law_r12, w ∈ lw_tbl := in_r [390, 391, 950, 951, 952, 953, 392, 393, 394, 395, 396, 397, 398, 399, 400, 401, 402, 403, 404, 405, 406, 407, 408, 409] (by decide +kernel)
set_option maxRecDepth 100000 in
theorem lin_13 : ∀ w ∈ wsL_law_r13, w ∈ lw_tbl := in_r [410, 411, 954, 955, 956, 957, 958, 959, 960, 961, 962, 963, 964, 966, 26, 967, 968, 970, 27, 971, 972, 974, 28, 975] (by decide +kernel)
set_option maxRecDepth 100000 in
theorem lin_14 : ∀ w ∈ wsL_law_r14, w ∈ lw_tbl := in_r [976, 978, 29, 979, 980, 982, 30, 983, 984, 986, 31, 987, 988, 990, 32, 991, 412, 413, 414, 415, 416, 417, 418, 419] (by decide +kernel)
set_option maxRecDepth 100000 in
theorem lin_15 : ∀ w ∈ wsL_law_r15, w ∈ lw_tbl := in_r [420, 421, 422, 423, 424, 425, 426, 427, 428, 429, 430, 431, 432, 992, 993, 994, 995, 996, 998, 33, 999, 1000, 1002, 34] (by decide +kernel)
set_option maxRecDepth 100000 in
theorem lin_16 : ∀ w ∈ wsL_law_r16, w ∈ lw_tbl := in_r [1003, 433, 434, 435, 436, 437, 438, 439, 440, 441, 442, 71, 443, 444, 445, 446, 447, 1004, 1005, 1006, 1007, 1008, 1009, 1010] (by decide +kernel)
set_option maxRecDepth 100000 in
theorem lin_17 : ∀ w ∈ wsL_law_r17, w ∈ lw_tbl := in_r [448, 449, 450, 451, 1011, 1012, 1013, 1014, 452, 453, 454, 455, 456, 457, 458, 459, 460, 461, 462, 463, 464, 465, 466, 467] (by decide +kernel)
set_option maxRecDepth 100000 in
theorem lin_18 : ∀ w ∈ wsL_law_r18, w ∈ lw_tbl := in_r [468, 469, 470, 471, 472, 473, 474, 1015, 1016, 1017, 1018, 1019, 1021, 35, 1022, 1023, 1025, 36, 1026, 1027, 1029, 37, 1030, 475] (by decide +kernel)
set_option maxRecDepth 100000 in
theorem lin_19 : ∀ w ∈ wsL_law_r19, w ∈ lw_tbl := in_r [476, 477, 478, 479, 480, 481, 482, 483, 1031, 1032, 1033, 1034, 1035, 1036, 1037, 1038, 1040, 38, 1041, 1042, 1044, 39, 1045, 484] (by decide +kernel)
set_option maxRecDepth 100000 in
theorem lin_20 : ∀ w ∈ wsL_law_r20, w ∈ lw_tbl := in_r [485, 486, 487, 488, 489, 490, 491, 492, 1046, 1047, 1048, 1049, 493, 494, 495, 496, 497, 498, 499, 500, 501, 502, 503, 504] (by decide +kernel)
set_option maxRecDepth 100000 in
theorem lin_21 : ∀ w ∈ wsL_law_r21, w ∈ lw_tbl := in_r [505, 506, 507, 508, 509, 510, 511, 512, 1050, 1051, 1052, 1053, 1054, 1056, 40, 1057, 1058, 1060, 41, 1061, 513, 514, 515, 516] (by decide +kernel)
set_option maxRecDepth 100000 in
theorem lin_22 : ∀ w ∈ wsL_law_r22, w ∈ lw_tbl := in_r [1062, 1063, 1064, 1065, 1066, 1067, 1068, 517, 518, 519, 520, 521, 522, 523, 524, 529, 530, 525, 526, 527, 528, 531, 532, 533] (by decide +kernel)
set_option maxRecDepth 100000 in
theorem lin_23 : ∀ w ∈ wsL_law_r23, w ∈ lw_tbl := in_r [1069, 1070, 1071, 1072, 1082, 1073, 1075, 42, 1076, 1080, 1081, 1077, 1078, 1079, 534, 535, 536, 537, 538, 539, 540, 541, 542, 543] (by decide +kernel)
set_option maxRecDepth 100000 in
theorem lin_24 : ∀ w ∈ wsL_law_r24, w ∈ lw_tbl := in_r [544, 545, 546, 547, 548, 549, 550, 551, 552, 1083, 1084, 1085, 1086, 1087, 1088, 1090, 43, 1091, 1092, 1094, 44, 1095, 1096, 1098] (by decide +kernel)
set_option maxRecDepth 100000 in
theorem lin_25 : ∀ w ∈ wsL_law_r25, w ∈ lw_tbl := in_r [45, 1099, 553, 554, 555, 556, 557, 558, 559, 560, 1100, 1101, 1102, 1103, 561, 562, 563, 564, 283, 565, 566, 567, 568, 569] (by decide +kernel)
set_option maxRecDepth 100000 in
theorem lin_26 : ∀ w ∈ wsL_law_r26, w ∈ lw_tbl := in_r [570, 571, 572, 573, 574, 575, 576, 1104, 1105, 1106, 1107, 851, 848, 1108, 1110, 46, 1111, 577, 578, 579, 580, 581, 1112, 1113] (by decide +kernel)
set_option maxRecDepth 100000 in
theorem lin_27 : ∀ w ∈ wsL_law_r27, w ∈ lw_tbl := in_r [1114, 1115, 582, 583, 584, 585, 586, 587, 588, 589, 590, 591, 592, 594, 1, 595, 596, 1116, 1117, 1118, 1119, 1120, 1122, 47] (by decide +kernel)
set_option maxRecDepth 100000 in
theorem lin_28 : ∀ w ∈ wsL_law_r28, w ∈ lw_tbl := in_r [1123, 597, 598, 599, 600, 601, 602, 603, 604, 605, 606, 72, 607, 608, 609, 610, 611, 612, 613, 614, 615, 616, 617, 618] (by decide +kernel)
set_option maxRecDepth 100000 in
theorem lin_29 : ∀ w ∈ wsL_law_r29, w ∈ lw_tbl := in_r [619, 620, 621, 1124, 1125, 1126, 1127, 1128, 1129, 1130, 1131, 1133, 48, 1134, 622, 623, 624, 625, 626, 627, 628, 629, 1135, 1136] (by decide +kernel)
set_option maxRecDepth 100000 in
theorem lin_30 : ∀ w ∈ wsL_law_r30, w ∈ lw_tbl := in_r [1137, 1138, 630, 631, 632, 633, 634, 635, 636, 637, 1139, 1140, 1141, 1142, 638, 639, 640, 641, 1143, 1144, 1145, 1146, 642, 643] (by decide +kernel)
set_option maxRecDepth 100000 in
theorem lin_31 : ∀ w ∈ wsL_law_r31, w ∈ lw_tbl := in_r [644, 645, 1147, 1148, 1149, 1150, 646, 647, 648, 649, 650, 651, 652, 653, 654, 655, 656, 657, 658, 659, 660, 661, 662, 664] (by decide +kernel)
set_option maxRecDepth 100000 in
theorem lin_32 : ∀ w ∈ wsL_law_r32, w ∈ lw_tbl := in_r [2, 665, 666, 667, 668, 1151, 1152, 1153, 1154, 1155, 1157, 49, 1158, 669, 670, 671, 672, 673, 674, 675, 676, 890, 891, 892] (by decide +kernel)
set_option maxRecDepth 100000 in
theorem lin_33 : ∀ w ∈ wsL_law_r33, w ∈ lw_tbl := in_r [893, 677, 678, 679, 680, 681, 682, 683, 684, 253, 685, 686, 687, 688, 1159, 1160, 1161, 1162, 689, 690, 691, 692, 1163, 1164] (by decide +kernel)
set_option maxRecDepth 100000 in
theorem lin_34 : ∀ w ∈ wsL_law_r34, w ∈ lw_tbl := in_r [1165, 1166, 693, 694, 695, 696, 697, 698, 699, 700, 255, 256, 258, 260, 701, 703, 3, 704, 705, 707, 4, 708, 709, 711] (by decide +kernel)
set_option maxRecDepth 100000 in
theorem lin_35 : ∀ w ∈ wsL_law_r35, w ∈ lw_tbl := in_r [5, 712, 714, 716, 6, 717, 718, 719, 720, 73, 721, 1228, 722, 723, 724, 725, 726, 1229, 728, 729, 730, 731, 732, 733] (by decide +kernel)
set_option maxRecDepth 100000 in
theorem lin_36 : ∀ w ∈ wsL_law_r36, w ∈ lw_tbl := in_r [734, 735, 736, 737, 74, 738, 739, 740, 741, 742, 744, 745, 75, 746, 747, 748, 76, 749, 750, 751, 752, 753, 754, 755] (by decide +kernel)
set_option maxRecDepth 100000 in
theorem lin_37 : ∀ w ∈ wsL_law_r37, w ∈ lw_tbl := in_r [756, 757, 758, 759, 760, 762, 764, 766, 768, 7, 769, 770, 772, 8, 773, 774, 776, 9, 777, 782, 784, 10, 785, 786] (by decide +kernel)
set_option maxRecDepth 100000 in
theorem lin_38 : ∀ w ∈ wsL_law_r38, w ∈ lw_tbl := in_r [788, 790, 11, 791, 792, 793, 795, 797, 12, 798, 801, 803, 13, 804, 805, 807, 809, 14, 810, 813, 814, 816, 818, 15] (by decide +kernel)
set_option maxRecDepth 100000 in
theorem lin_39 : ∀ w ∈ wsL_law_r39, w ∈ lw_tbl := in_r [819, 820, 822, 16, 823, 825, 827, 17, 828, 1167, 1168, 1169, 1170, 856, 857, 1171, 1173, 50, 1174, 853, 858, 1175, 1177, 51] (by decide +kernel)
set_option maxRecDepth 100000 in
theorem lin_40 : ∀ w ∈ wsL_law_r40, w ∈ lw_tbl := in_r [1178, 855, 1179, 1181, 52, 1182, 1187, 1188, 1183, 1185, 53, 1186, 1189, 1190, 1191, 1192, 1193, 1194, 1195, 1196, 1197, 1198, 1200, 54] (by decide +kernel)
set_option maxRecDepth 100000 in
theorem lin_41 : ∀ w ∈ wsL_law_r41, w ∈ lw_tbl := in_r [1201, 1202, 1203, 1204, 1205, 1206, 1207, 1208, 1210, 55, 1211, 1212, 1214, 56, 1215, 1216, 1218, 57, 1219, 1220, 1222, 58, 1223, 830] (by decide +kernel)
set_option maxRecDepth 100000 in
theorem lin_42 : ∀ w ∈ wsL_law_r42, w ∈ lw_tbl := in_r [831, 832, 833, 1224, 1225, 1226, 1227] (by decide +kernel)
set_option maxRecDepth 100000 in
theorem lin_X1 : ∀ w ∈ wsX10, w ∈ lw_tbl := in_r [144, 146, 148, 150, 152, 154, 156] (by decide +kernel)
set_option maxRecDepth 100000 in
theorem lin_X2 : ∀ w ∈ wsX20, w ∈ lw_tbl := in_r [98] (by decide +kernel)
set_option maxRecDepth 100000 in
theorem lin_X4 : ∀ w ∈ wsX40, w ∈ lw_tbl := in_r [113, 115, 117, 119, 121] (by decide +kernel)
set_option maxRecDepth 100000 in
theorem lin_X5 : ∀ w ∈ wsX50, w ∈ lw_tbl := in_r [238, 240, 242] (by decide +kernel)
set_option maxRecDepth 100000 in
theorem lin_X6 : ∀ w ∈ wsX60, w ∈ lw_tbl := in_r [174, 176, 178, 180, 182, 184, 186] (by decide +kernel)
set_option maxRecDepth 100000 in
theorem lin_X7 : ∀ w ∈ wsX70, w ∈ lw_tbl := in_r [208, 210, 212, 214, 216, 218, 220, 222] (by decide +kernel)
set_option maxRecDepth 100000 in
theorem lin_X8 : ∀ w ∈ wsX80, w ∈ lw_tbl := in_r [262, 264, 266, 268, 270, 272, 274] (by decide +kernel)
set_option maxRecDepth 100000 in
theorem lin_X9 : ∀ w ∈ wsX90, w ∈ lw_tbl := in_r [284, 286, 288, 290, 292, 294] (by decide +kernel)
set_option maxRecDepth 100000 in
theorem lin_X10 : ∀ w ∈ wsX100, w ∈ lw_tbl := in_r [859, 861, 863, 865, 867, 869, 871, 873, 875, 877, 879, 881, 883, 885, 887] (by decide +kernel)
theorem wsL_law_in : ∀ w ∈ wsL_law, w ∈ lw_tbl := by
  unfold wsL_law
  exact List.forall_mem_append.mpr ⟨List.forall_mem_append.mpr ⟨List.forall_mem_append.mpr ⟨List.forall_mem_append.mpr ⟨List.forall_mem_append.mpr ⟨List.forall_mem_append.mpr ⟨List.forall_mem_append.mpr ⟨List.forall_mem_append.mpr ⟨List.forall_mem_append.mpr ⟨List.forall_mem_append.mpr ⟨List.forall_mem_append.mpr ⟨lin_1, List.forall_mem_append.mpr ⟨lin_2, List.forall_mem_append.mpr ⟨lin_3, List.forall_mem_append.mpr ⟨lin_4, List.forall_mem_append.mpr ⟨lin_5, List.forall_mem_append.mpr ⟨lin_6, List.forall_mem_append.mpr ⟨lin_7, List.forall_mem_append.mpr ⟨lin_8, List.forall_mem_append.mpr ⟨lin_9, List.forall_mem_append.mpr ⟨lin_10, List.forall_mem_append.mpr ⟨lin_11, List.forall_mem_append.mpr ⟨lin_12, List.forall_mem_append.mpr ⟨lin_13, List.forall_mem_append.mpr ⟨lin_14, List.forall_mem_append.mpr ⟨lin_15, List.forall_mem_append.mpr ⟨lin_16, List.forall_mem_append.mpr ⟨lin_17, List.forall_mem_append.mpr ⟨lin_18, List.forall_mem_append.mpr ⟨lin_19, List.forall_mem_append.mpr ⟨lin_20, List.forall_mem_append.mpr ⟨lin_21, List.forall_mem_append.mpr ⟨lin_22, List.forall_mem_append.mpr ⟨lin_23, List.forall_mem_append.mpr ⟨lin_24, List.forall_mem_append.mpr ⟨lin_25, List.forall_mem_append.mpr ⟨lin_26, List.forall_mem_append.mpr ⟨lin_27, List.forall_mem_append.mpr ⟨lin_28, List.forall_mem_append.mpr ⟨lin_29, List.forall_mem_append.mpr ⟨lin_30, List.forall_mem_append.mpr ⟨lin_31, List.forall_mem_append.mpr ⟨lin_32, List.forall_mem_append.mpr ⟨lin_33, List.forall_mem_append.mpr ⟨lin_34, List.forall_mem_append.mpr ⟨lin_35, List.forall_mem_append.mpr ⟨lin_36, List.forall_mem_append.mpr ⟨lin_37, List.forall_mem_append.mpr ⟨lin_38, List.forall_mem_append.mpr ⟨lin_39, List.forall_mem_append.mpr ⟨lin_40, List.forall_mem_append.mpr ⟨lin_41, lin_42⟩⟩⟩⟩⟩⟩⟩⟩⟩⟩⟩⟩⟩⟩⟩⟩⟩⟩⟩⟩⟩⟩⟩⟩⟩⟩⟩⟩⟩⟩⟩⟩⟩⟩⟩⟩⟩⟩⟩⟩⟩, lin_X9⟩, lin_X10⟩, lin_X7⟩, lin_X5⟩, lin_X8⟩, lin_X2⟩, lin_X4⟩, lin_X1⟩, lin_X6⟩, fun _ h => absurd h List.not_mem_nil⟩
