/-! ===== the words that the law needs lie in the tables ===== -/
theorem in_of {big ws : List Cond} (ps : List Nat) (hp : ws = ps.filterMap (fun i => big[i]?)) : ∀ w ∈ ws, w ∈ big := by
  intro w hw
  rw [hp] at hw
  obtain ⟨i, -, hi⟩ := List.mem_filterMap.mp hw
  exact List.mem_of_getElem? hi
set_option maxRecDepth 20000 in
theorem wl_1 : ∀ w ∈ wsL_law_r1, w ∈ lw_tbl := in_of [66, 67, 55, 810, 811, 63, 68, 69, 70, 71, 72, 73, 74, 75, 56, 228, 93, 94, 57, 229, 107, 230, 109, 110] (by decide +kernel)
set_option maxRecDepth 20000 in
theorem wl_2 : ∀ w ∈ wsL_law_r2, w ∈ lw_tbl := in_of [58, 231, 146, 232, 128, 129, 59, 233, 148, 149, 60, 234, 189, 190, 61, 235, 211, 212, 62, 236, 237, 77, 78, 79] (by decide +kernel)
set_option maxRecDepth 20000 in
theorem wl_3 : ∀ w ∈ wsL_law_r3, w ∈ lw_tbl := in_of [95, 96, 97, 98, 99, 112, 113, 114, 115, 116, 131, 132, 133, 147, 134, 135, 150, 151, 152, 153, 156, 154, 155, 191] (by decide +kernel)
set_option maxRecDepth 20000 in
theorem wl_4 : ∀ w ∈ wsL_law_r4, w ∈ lw_tbl := in_of [192, 193, 194, 195, 196, 198, 200, 214, 215, 216, 217, 218, 812, 813, 814, 815, 816, 817, 818, 819, 821, 822, 823, 824] (by decide +kernel)
set_option maxRecDepth 20000 in
theorem wl_5 : ∀ w ∈ wsL_law_r5, w ∈ lw_tbl := in_of [826, 828, 830, 832, 833, 835, 837, 838, 839, 271, 272, 273, 274, 305, 364, 275, 276, 277, 278, 279, 280, 281, 282, 283] (by decide +kernel)
set_option maxRecDepth 20000 in
theorem wl_6 : ∀ w ∈ wsL_law_r6, w ∈ lw_tbl := in_of [284, 285, 286, 287, 288, 289, 291, 0, 292, 239, 293, 294, 295, 64, 296, 361, 375, 378, 297, 298, 299, 368, 300, 302] (by decide +kernel)
set_option maxRecDepth 20000 in
theorem wl_7 : ∀ w ∈ wsL_law_r7, w ∈ lw_tbl := in_of [1, 303, 241, 304, 306, 308, 2, 309, 117, 197, 199, 310, 311, 312, 313, 82, 314, 315, 316, 317, 83, 318, 319, 320] (by decide +kernel)
set_option maxRecDepth 20000 in
theorem wl_8 : ∀ w ∈ wsL_law_r8, w ∈ lw_tbl := in_of [321, 322, 324, 3, 325, 382, 373, 377, 326, 327, 328, 329, 81, 80, 381, 380, 330, 331, 332, 333, 334, 335, 336, 337] (by decide +kernel)
set_option maxRecDepth 20000 in
theorem wl_9 : ∀ w ∈ wsL_law_r9, w ∈ lw_tbl := in_of [360, 363, 338, 339, 340, 341, 342, 343, 344, 345, 346, 347, 348, 349, 351, 4, 352, 353, 354, 369, 370, 356, 357, 358] (by decide +kernel)
set_option maxRecDepth 20000 in
theorem wl_10 : ∀ w ∈ wsL_law_r10, w ∈ lw_tbl := in_of [402, 403, 404, 405, 371, 406, 408, 5, 409, 410, 412, 6, 413, 414, 415, 416, 417, 418, 420, 7, 421, 422, 423, 424] (by decide +kernel)
set_option maxRecDepth 20000 in
theorem wl_11 : ∀ w ∈ wsL_law_r11, w ∈ lw_tbl := in_of [425, 120, 118, 426, 427, 65, 428, 898, 899, 900, 901, 914, 915, 916, 936, 950, 902, 903, 904, 905, 906, 907, 908, 909] (by decide +kernel)
set_option maxRecDepth 20000 in
theorem wl_12 : ∀ w ∈ wsL_law_r12, w ∈ lw_tbl := in_of [910, 911, 912, 913, 917, 919, 29, 920, 921, 923, 30, 924, 925, 927, 31, 928, 929, 930, 931, 932, 934, 32, 935, 937] (by decide +kernel)
set_option maxRecDepth 20000 in
theorem wl_13 : ∀ w ∈ wsL_law_r13, w ∈ lw_tbl := in_of [939, 33, 940, 820, 941, 943, 34, 944, 945, 946, 947, 948, 949, 951, 953, 35, 954, 955, 956, 957, 429, 430, 431, 432] (by decide +kernel)
set_option maxRecDepth 20000 in
theorem wl_14 : ∀ w ∈ wsL_law_r14, w ∈ lw_tbl := in_of [433, 435, 8, 436, 240, 437, 438, 439, 440, 441, 442, 443, 444, 445, 958, 959, 960, 961, 962, 963, 965, 36, 966, 446] (by decide +kernel)
set_option maxRecDepth 20000 in
theorem wl_15 : ∀ w ∈ wsL_law_r15, w ∈ lw_tbl := in_of [447, 448, 449, 967, 968, 969, 970, 450, 451, 452, 453, 971, 972, 973, 974, 454, 455, 456, 457, 458, 459, 460, 975, 976] (by decide +kernel)
set_option maxRecDepth 20000 in
theorem wl_16 : ∀ w ∈ wsL_law_r16, w ∈ lw_tbl := in_of [977, 978, 979, 980, 461, 462, 463, 464, 465, 466, 467, 468, 981, 982, 983, 984, 469, 470, 471, 472, 985, 986, 987, 988] (by decide +kernel)
set_option maxRecDepth 20000 in
theorem wl_17 : ∀ w ∈ wsL_law_r17, w ∈ lw_tbl := in_of [473, 474, 475, 476, 477, 478, 479, 480, 481, 482, 483, 989, 990, 991, 992, 993, 994, 995, 484, 485, 486, 487, 488, 489] (by decide +kernel)
set_option maxRecDepth 20000 in
theorem wl_18 : ∀ w ∈ wsL_law_r18, w ∈ lw_tbl := in_of [490, 367, 491, 996, 997, 998, 999, 492, 493, 494, 495, 496, 497, 498, 499, 219, 500, 502, 9, 503, 374, 362, 366, 379] (by decide +kernel)
set_option maxRecDepth 20000 in
theorem wl_19 : ∀ w ∈ wsL_law_r19, w ∈ lw_tbl := in_of [504, 505, 506, 507, 508, 509, 510, 511, 513, 1000, 1001, 1002, 1003, 514, 515, 516, 517, 1004, 1005, 1006, 1007, 518, 519, 520] (by decide +kernel)
set_option maxRecDepth 20000 in
theorem wl_20 : ∀ w ∈ wsL_law_r20, w ∈ lw_tbl := in_of [521, 220, 526, 527, 528, 522, 523, 524, 525, 1008, 1009, 1010, 1011, 529, 530, 531, 532, 533, 534, 535, 536, 537, 539, 10] (by decide +kernel)
set_option maxRecDepth 20000 in
theorem wl_21 : ∀ w ∈ wsL_law_r21, w ∈ lw_tbl := in_of [540, 541, 543, 11, 544, 545, 546, 547, 1012, 1013, 1014, 1015, 548, 549, 550, 551, 552, 554, 12, 555, 556, 1016, 1017, 1018] (by decide +kernel)
set_option maxRecDepth 20000 in
theorem wl_22 : ∀ w ∈ wsL_law_r22, w ∈ lw_tbl := in_of [1019, 557, 558, 559, 560, 1020, 1021, 1022, 1023, 561, 562, 563, 564, 1024, 1025, 1026, 1027, 565, 566, 567, 568, 569, 570, 1028] (by decide +kernel)
set_option maxRecDepth 20000 in
theorem wl_23 : ∀ w ∈ wsL_law_r23, w ∈ lw_tbl := in_of [1029, 1030, 1031, 1032, 1034, 37, 1035, 571, 572, 573, 574, 575, 1036, 1037, 1038, 1039, 576, 577, 578, 579, 1040, 1041, 1042, 1043] (by decide +kernel)
set_option maxRecDepth 20000 in
theorem wl_24 : ∀ w ∈ wsL_law_r24, w ∈ lw_tbl := in_of [580, 581, 582, 583, 584, 585, 586, 587, 372, 359, 376, 365, 588, 589, 590, 591, 592, 593, 595, 13, 596, 100, 600, 598] (by decide +kernel)
set_option maxRecDepth 20000 in
theorem wl_25 : ∀ w ∈ wsL_law_r25, w ∈ lw_tbl := in_of [599, 601, 1044, 1045, 1046, 1047, 1048, 1049, 1051, 38, 1052, 1053, 1055, 39, 1056, 825, 1060, 1057, 1058, 1059, 1061, 1063, 40, 1064] (by decide +kernel)
set_option maxRecDepth 20000 in
theorem wl_26 : ∀ w ∈ wsL_law_r26, w ∈ lw_tbl := in_of [602, 603, 604, 605, 606, 607, 608, 609, 610, 611, 612, 614, 14, 615, 616, 617, 618, 619, 620, 621, 622, 1065, 1066, 1067] (by decide +kernel)
set_option maxRecDepth 20000 in
theorem wl_27 : ∀ w ∈ wsL_law_r27, w ∈ lw_tbl := in_of [1068, 1069, 1070, 623, 624, 625, 626, 627, 628, 629, 1071, 1072, 1073, 1074, 1075, 1076, 1077, 1078, 630, 631, 632, 633, 1079, 1080] (by decide +kernel)
set_option maxRecDepth 20000 in
theorem wl_28 : ∀ w ∈ wsL_law_r28, w ∈ lw_tbl := in_of [1081, 1082, 1083, 1084, 634, 635, 636, 637, 1085, 1086, 1087, 1088, 638, 639, 640, 641, 1089, 1090, 1091, 1092, 642, 643, 644, 645] (by decide +kernel)
set_option maxRecDepth 20000 in
theorem wl_29 : ∀ w ∈ wsL_law_r29, w ∈ lw_tbl := in_of [1093, 1094, 1095, 1096, 646, 647, 648, 649, 650, 651, 652, 653, 654, 655, 656, 657, 658, 659, 1097, 1098, 1099, 1100, 1101, 1102] (by decide +kernel)
set_option maxRecDepth 20000 in
theorem wl_30 : ∀ w ∈ wsL_law_r30, w ∈ lw_tbl := in_of [1107, 1108, 1109, 1110, 1111, 1112, 1113, 1103, 1105, 41, 1106, 1114, 1116, 42, 1117, 660, 661, 662, 663, 664, 665, 666, 667, 1118] (by decide +kernel)
set_option maxRecDepth 20000 in
theorem wl_31 : ∀ w ∈ wsL_law_r31, w ∈ lw_tbl := in_of [1119, 1120, 1121, 668, 669, 670, 671, 101, 1122, 1123, 1124, 1125, 672, 673, 674, 675, 238, 1126, 1127, 1128, 1129, 1130, 827, 676] (by decide +kernel)
set_option maxRecDepth 20000 in
theorem wl_32 : ∀ w ∈ wsL_law_r32, w ∈ lw_tbl := in_of [677, 678, 679, 1131, 1132, 1133, 1134, 680, 681, 682, 683, 138, 165, 684, 685, 686, 687, 688, 158, 159, 160, 157, 162, 164] (by decide +kernel)
set_option maxRecDepth 20000 in
theorem wl_33 : ∀ w ∈ wsL_law_r33, w ∈ lw_tbl := in_of [137, 689, 691, 15, 692, 693, 695, 16, 696, 161, 697, 698, 699, 701, 703, 17, 704, 705, 707, 18, 708, 163, 709, 710] (by decide +kernel)
set_option maxRecDepth 20000 in
theorem wl_34 : ∀ w ∈ wsL_law_r34, w ∈ lw_tbl := in_of [711, 712, 136, 713, 715, 19, 716, 717, 719, 20, 720, 721, 723, 21, 724, 725, 726, 727, 728, 730, 22, 731, 732, 734] (by decide +kernel)
set_option maxRecDepth 20000 in
theorem wl_35 : ∀ w ∈ wsL_law_r35, w ∈ lw_tbl := in_of [23, 735, 736, 737, 739, 24, 740, 741, 743, 25, 744, 745, 747, 26, 748, 749, 750, 751, 752, 201, 753, 754, 755, 756] (by decide +kernel)
set_option maxRecDepth 20000 in
theorem wl_36 : ∀ w ∈ wsL_law_r36, w ∈ lw_tbl := in_of [758, 759, 760, 761, 762, 763, 764, 765, 767, 768, 769, 770, 771, 772, 773, 774, 775, 776, 778, 27, 779, 780, 781, 782] (by decide +kernel)
set_option maxRecDepth 20000 in
theorem wl_37 : ∀ w ∈ wsL_law_r37, w ∈ lw_tbl := in_of [783, 784, 785, 1135, 1136, 1137, 1138, 841, 1139, 1141, 43, 1142, 840, 1151, 1152, 1143, 1145, 44, 1146, 1147, 1149, 45, 1150, 1153] (by decide +kernel)
set_option maxRecDepth 20000 in
theorem wl_38 : ∀ w ∈ wsL_law_r38, w ∈ lw_tbl := in_of [1155, 46, 1156, 829, 831, 834, 836, 1157, 1159, 47, 1160, 842, 1161, 1163, 48, 1164, 1165, 1166, 1167, 1168, 1169, 1170, 1172, 49] (by decide +kernel)
set_option maxRecDepth 20000 in
theorem wl_39 : ∀ w ∈ wsL_law_r39, w ∈ lw_tbl := in_of [1173, 1174, 1175, 1176, 1177, 1179, 50, 1180, 1181, 1183, 51, 1184, 1185, 1187, 52, 1188, 786, 787, 788, 789, 119, 790, 791, 792] (by decide +kernel)
set_option maxRecDepth 20000 in
theorem wl_40 : ∀ w ∈ wsL_law_r40, w ∈ lw_tbl := in_of [793, 794, 1189, 1190, 1191, 1192, 795, 796, 797, 798, 799, 801, 28, 802, 1193, 1194, 1195, 1196, 1197, 1198, 1200, 53, 1201, 803] (by decide +kernel)
set_option maxRecDepth 20000 in
theorem wl_41 : ∀ w ∈ wsL_law_r41, w ∈ lw_tbl := in_of [804, 805, 806, 807, 808, 809, 1202, 1203, 1204, 1205, 1206, 1207] (by decide +kernel)
set_option maxRecDepth 20000 in
theorem wf_80 : ∀ w ∈ wsX80, w ∈ lw_tbl := by decide +kernel
set_option maxRecDepth 20000 in
theorem wf_90 : ∀ w ∈ wsX90, w ∈ lw_tbl := by decide +kernel
set_option maxRecDepth 20000 in
theorem wf_20 : ∀ w ∈ wsX20, w ∈ lw_tbl := by decide +kernel
set_option maxRecDepth 20000 in
theorem wf_10 : ∀ w ∈ wsX10, w ∈ lw_tbl := by decide +kernel
set_option maxRecDepth 20000 in
theorem wf_70 : ∀ w ∈ wsX70, w ∈ lw_tbl := by decide +kernel
set_option maxRecDepth 20000 in
theorem wf_40 : ∀ w ∈ wsX40, w ∈ lw_tbl := by decide +kernel
set_option maxRecDepth 20000 in
theorem wf_50 : ∀ w ∈ wsX50, w ∈ lw_tbl := by decide +kernel
set_option maxRecDepth 20000 in
theorem wf_00 : ∀ w ∈ wsX00, w ∈ lw_tbl := by decide +kernel
set_option maxRecDepth 20000 in
theorem wf_60 : ∀ w ∈ wsX60, w ∈ lw_tbl := by decide +kernel
set_option maxRecDepth 20000 in
theorem wf_30 : ∀ w ∈ wsX30, w ∈ lw_tbl := by decide +kernel
theorem wsL_law_in : ∀ w ∈ wsL_law, w ∈ lw_tbl := List.forall_mem_append.mpr ⟨List.forall_mem_append.mpr ⟨List.forall_mem_append.mpr ⟨List.forall_mem_append.mpr ⟨List.forall_mem_append.mpr ⟨List.forall_mem_append.mpr ⟨List.forall_mem_append.mpr ⟨List.forall_mem_append.mpr ⟨List.forall_mem_append.mpr ⟨List.forall_mem_append.mpr ⟨List.forall_mem_append.mpr ⟨List.forall_mem_append.mpr ⟨wl_1, List.forall_mem_append.mpr ⟨wl_2, List.forall_mem_append.mpr ⟨wl_3, List.forall_mem_append.mpr ⟨wl_4, List.forall_mem_append.mpr ⟨wl_5, List.forall_mem_append.mpr ⟨wl_6, List.forall_mem_append.mpr ⟨wl_7, List.forall_mem_append.mpr ⟨wl_8, List.forall_mem_append.mpr ⟨wl_9, List.forall_mem_append.mpr ⟨wl_10, List.forall_mem_append.mpr ⟨wl_11, List.forall_mem_append.mpr ⟨wl_12, List.forall_mem_append.mpr ⟨wl_13, List.forall_mem_append.mpr ⟨wl_14, List.forall_mem_append.mpr ⟨wl_15, List.forall_mem_append.mpr ⟨wl_16, List.forall_mem_append.mpr ⟨wl_17, List.forall_mem_append.mpr ⟨wl_18, List.forall_mem_append.mpr ⟨wl_19, List.forall_mem_append.mpr ⟨wl_20, List.forall_mem_append.mpr ⟨wl_21, List.forall_mem_append.mpr ⟨wl_22, List.forall_mem_append.mpr ⟨wl_23, List.forall_mem_append.mpr ⟨wl_24, List.forall_mem_append.mpr ⟨wl_25, List.forall_mem_append.mpr ⟨wl_26, List.forall_mem_append.mpr ⟨wl_27, List.forall_mem_append.mpr ⟨wl_28, List.forall_mem_append.mpr ⟨wl_29, List.forall_mem_append.mpr ⟨wl_30, List.forall_mem_append.mpr ⟨wl_31, List.forall_mem_append.mpr ⟨wl_32, List.forall_mem_append.mpr ⟨wl_33, List.forall_mem_append.mpr ⟨wl_34, List.forall_mem_append.mpr ⟨wl_35, List.forall_mem_append.mpr ⟨wl_36, List.forall_mem_append.mpr ⟨wl_37, List.forall_mem_append.mpr ⟨wl_38, List.forall_mem_append.mpr ⟨wl_39, List.forall_mem_append.mpr ⟨wl_40, wl_41⟩⟩⟩⟩⟩⟩⟩⟩⟩⟩⟩⟩⟩⟩⟩⟩⟩⟩⟩⟩⟩⟩⟩⟩⟩⟩⟩⟩⟩⟩⟩⟩⟩⟩⟩⟩⟩⟩⟩⟩, wf_80⟩, wf_90⟩, wf_20⟩, wf_10⟩, wf_70⟩, wf_40⟩, wf_50⟩, wf_00⟩, wf_60⟩, wf_30⟩, fun _ h => absurd h List.not_mem_nil⟩
theorem inlX0 : ∀ w ∈ wsX00, w ∈ wsL_law := fun _ h => List.mem_append_left _ (List.mem_append_left _ (List.mem_append_left _ (List.mem_append_right _ h)))
theorem inX0 : ∀ w ∈ wsX00, w ∈ lw_tbl := fun w h => wsL_law_in w (inlX0 w h)
theorem inlX1 : ∀ w ∈ wsX10, w ∈ wsL_law := fun _ h => List.mem_append_left _ (List.mem_append_left _ (List.mem_append_left _ (List.mem_append_left _ (List.mem_append_left _ (List.mem_append_left _ (List.mem_append_left _ (List.mem_append_right _ h)))))))
theorem inX1 : ∀ w ∈ wsX10, w ∈ lw_tbl := fun w h => wsL_law_in w (inlX1 w h)
theorem inlX2 : ∀ w ∈ wsX20, w ∈ wsL_law := fun _ h => List.mem_append_left _ (List.mem_append_left _ (List.mem_append_left _ (List.mem_append_left _ (List.mem_append_left _ (List.mem_append_left _ (List.mem_append_left _ (List.mem_append_left _ (List.mem_append_right _ h))))))))
theorem inX2 : ∀ w ∈ wsX20, w ∈ lw_tbl := fun w h => wsL_law_in w (inlX2 w h)
theorem inlX3 : ∀ w ∈ wsX30, w ∈ wsL_law := fun _ h => List.mem_append_left _ (List.mem_append_right _ h)
theorem inX3 : ∀ w ∈ wsX30, w ∈ lw_tbl := fun w h => wsL_law_in w (inlX3 w h)
theorem inlX4 : ∀ w ∈ wsX40, w ∈ wsL_law := fun _ h => List.mem_append_left _ (List.mem_append_left _ (List.mem_append_left _ (List.mem_append_left _ (List.mem_append_left _ (List.mem_append_right _ h)))))
theorem inX4 : ∀ w ∈ wsX40, w ∈ lw_tbl := fun w h => wsL_law_in w (inlX4 w h)
theorem inlX5 : ∀ w ∈ wsX50, w ∈ wsL_law := fun _ h => List.mem_append_left _ (List.mem_append_left _ (List.mem_append_left _ (List.mem_append_left _ (List.mem_append_right _ h))))
theorem inX5 : ∀ w ∈ wsX50, w ∈ lw_tbl := fun w h => wsL_law_in w (inlX5 w h)
theorem inlX6 : ∀ w ∈ wsX60, w ∈ wsL_law := fun _ h => List.mem_append_left _ (List.mem_append_left _ (List.mem_append_right _ h))
theorem inX6 : ∀ w ∈ wsX60, w ∈ lw_tbl := fun w h => wsL_law_in w (inlX6 w h)
theorem inlX7 : ∀ w ∈ wsX70, w ∈ wsL_law := fun _ h => List.mem_append_left _ (List.mem_append_left _ (List.mem_append_left _ (List.mem_append_left _ (List.mem_append_left _ (List.mem_append_left _ (List.mem_append_right _ h))))))
theorem inX7 : ∀ w ∈ wsX70, w ∈ lw_tbl := fun w h => wsL_law_in w (inlX7 w h)
theorem inlX8 : ∀ w ∈ wsX80, w ∈ wsL_law := fun _ h => List.mem_append_left _ (List.mem_append_left _ (List.mem_append_left _ (List.mem_append_left _ (List.mem_append_left _ (List.mem_append_left _ (List.mem_append_left _ (List.mem_append_left _ (List.mem_append_left _ (List.mem_append_left _ (List.mem_append_right _ h))))))))))
theorem inX8 : ∀ w ∈ wsX80, w ∈ lw_tbl := fun w h => wsL_law_in w (inlX8 w h)
theorem inlX9 : ∀ w ∈ wsX90, w ∈ wsL_law := fun _ h => List.mem_append_left _ (List.mem_append_left _ (List.mem_append_left _ (List.mem_append_left _ (List.mem_append_left _ (List.mem_append_left _ (List.mem_append_left _ (List.mem_append_left _ (List.mem_append_left _ (List.mem_append_right _ h)))))))))
theorem inX9 : ∀ w ∈ wsX90, w ∈ lw_tbl := fun w h => wsL_law_in w (inlX9 w h)
