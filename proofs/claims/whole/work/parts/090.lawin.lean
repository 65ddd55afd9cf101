/-! ===== the words that the law needs lie in the tables ===== -/
theorem in_of {big ws : List Cond} (ps : List Nat) (hp : ws = ps.filterMap (fun i => big[i]?)) : ∀ w ∈ ws, w ∈ big := by
  intro w hw
  rw [hp] at hw
  obtain ⟨i, -, hi⟩ := List.mem_filterMap.mp hw
  exact List.mem_of_getElem? hi
set_option maxRecDepth 20000 in
theorem wl_1 : ∀ w ∈ wsL_law_r1, w ∈ lw_tbl := in_of [68, 69, 57, 815, 816, 65, 70, 71, 72, 73, 74, 75, 76, 77, 58, 233, 95, 96, 59, 234, 109, 235, 111, 112] (by decide +kernel)
set_option maxRecDepth 20000 in
theorem wl_2 : ∀ w ∈ wsL_law_r2, w ∈ lw_tbl := in_of [60, 236, 148, 237, 130, 131, 61, 238, 150, 151, 62, 239, 191, 192, 63, 240, 216, 217, 64, 241, 242, 79, 80, 81] (by decide +kernel)
set_option maxRecDepth 20000 in
theorem wl_3 : ∀ w ∈ wsL_law_r3, w ∈ lw_tbl := in_of [97, 98, 99, 100, 101, 114, 115, 116, 117, 118, 133, 134, 135, 149, 136, 137, 152, 153, 154, 155, 158, 156, 157, 193] (by decide +kernel)
set_option maxRecDepth 20000 in
theorem wl_4 : ∀ w ∈ wsL_law_r4, w ∈ lw_tbl := in_of [194, 195, 196, 197, 198, 200, 202, 203, 219, 220, 221, 222, 223, 817, 818, 819, 820, 821, 822, 823, 824, 826, 827, 828] (by decide +kernel)
set_option maxRecDepth 20000 in
theorem wl_5 : ∀ w ∈ wsL_law_r5, w ∈ lw_tbl := in_of [829, 831, 833, 835, 837, 838, 840, 842, 843, 844, 276, 277, 278, 279, 310, 369, 280, 281, 282, 283, 284, 285, 286, 287] (by decide +kernel)
set_option maxRecDepth 20000 in
theorem wl_6 : ∀ w ∈ wsL_law_r6, w ∈ lw_tbl := in_of [288, 289, 290, 291, 292, 293, 294, 296, 0, 297, 244, 298, 299, 300, 66, 301, 366, 380, 383, 302, 303, 304, 373, 305] (by decide +kernel)
set_option maxRecDepth 20000 in
theorem wl_7 : ∀ w ∈ wsL_law_r7, w ∈ lw_tbl := in_of [307, 1, 308, 246, 309, 311, 313, 2, 314, 119, 199, 201, 315, 316, 317, 318, 84, 319, 320, 321, 322, 85, 323, 324] (by decide +kernel)
set_option maxRecDepth 20000 in
theorem wl_8 : ∀ w ∈ wsL_law_r8, w ∈ lw_tbl := in_of [325, 326, 327, 329, 3, 330, 387, 378, 382, 331, 332, 333, 334, 83, 82, 386, 385, 335, 336, 337, 338, 339, 340, 341] (by decide +kernel)
set_option maxRecDepth 20000 in
theorem wl_9 : ∀ w ∈ wsL_law_r9, w ∈ lw_tbl := in_of [342, 365, 368, 343, 344, 345, 346, 347, 348, 349, 350, 351, 352, 353, 354, 356, 4, 357, 358, 359, 374, 375, 361, 362] (by decide +kernel)
set_option maxRecDepth 20000 in
theorem wl_10 : ∀ w ∈ wsL_law_r10, w ∈ lw_tbl := in_of [363, 407, 408, 409, 410, 376, 411, 413, 5, 414, 415, 417, 6, 418, 419, 420, 421, 422, 423, 425, 7, 426, 427, 428] (by decide +kernel)
set_option maxRecDepth 20000 in
theorem wl_11 : ∀ w ∈ wsL_law_r11, w ∈ lw_tbl := in_of [429, 430, 122, 120, 431, 432, 67, 433, 903, 904, 905, 906, 919, 920, 921, 941, 955, 907, 908, 909, 910, 911, 912, 913] (by decide +kernel)
set_option maxRecDepth 20000 in
theorem wl_12 : ∀ w ∈ wsL_law_r12, w ∈ lw_tbl := in_of [914, 915, 916, 917, 918, 922, 924, 31, 925, 926, 928, 32, 929, 930, 932, 33, 933, 934, 935, 936, 937, 939, 34, 940] (by decide +kernel)
set_option maxRecDepth 20000 in
theorem wl_13 : ∀ w ∈ wsL_law_r13, w ∈ lw_tbl := in_of [942, 944, 35, 945, 825, 946, 948, 36, 949, 950, 951, 952, 953, 954, 956, 958, 37, 959, 960, 961, 962, 434, 435, 436] (by decide +kernel)
set_option maxRecDepth 20000 in
theorem wl_14 : ∀ w ∈ wsL_law_r14, w ∈ lw_tbl := in_of [437, 438, 440, 8, 441, 245, 442, 443, 444, 445, 446, 447, 448, 449, 450, 963, 964, 965, 966, 967, 968, 970, 38, 971] (by decide +kernel)
set_option maxRecDepth 20000 in
theorem wl_15 : ∀ w ∈ wsL_law_r15, w ∈ lw_tbl := in_of [451, 452, 453, 454, 972, 973, 974, 975, 455, 456, 457, 458, 976, 977, 978, 979, 459, 460, 461, 462, 463, 464, 465, 980] (by decide +kernel)
set_option maxRecDepth 20000 in
theorem wl_16 : ∀ w ∈ wsL_law_r16, w ∈ lw_tbl := in_of [981, 982, 983, 984, 985, 466, 467, 468, 469, 470, 471, 472, 473, 986, 987, 988, 989, 474, 475, 476, 477, 990, 991, 992] (by decide +kernel)
set_option maxRecDepth 20000 in
theorem wl_17 : ∀ w ∈ wsL_law_r17, w ∈ lw_tbl := in_of [993, 478, 479, 480, 481, 482, 483, 484, 485, 486, 487, 488, 994, 995, 996, 997, 998, 999, 1000, 489, 490, 491, 492, 493] (by decide +kernel)
set_option maxRecDepth 20000 in
theorem wl_18 : ∀ w ∈ wsL_law_r18, w ∈ lw_tbl := in_of [494, 495, 372, 496, 1001, 1002, 1003, 1004, 497, 498, 499, 500, 501, 502, 503, 504, 224, 505, 507, 9, 508, 379, 367, 371] (by decide +kernel)
set_option maxRecDepth 20000 in
theorem wl_19 : ∀ w ∈ wsL_law_r19, w ∈ lw_tbl := in_of [384, 509, 510, 511, 512, 513, 514, 515, 516, 518, 1005, 1006, 1007, 1008, 519, 520, 521, 522, 1009, 1010, 1011, 1012, 523, 524] (by decide +kernel)
set_option maxRecDepth 20000 in
theorem wl_20 : ∀ w ∈ wsL_law_r20, w ∈ lw_tbl := in_of [525, 526, 225, 531, 532, 533, 527, 528, 529, 530, 1013, 1014, 1015, 1016, 534, 535, 536, 537, 538, 539, 540, 541, 542, 544] (by decide +kernel)
set_option maxRecDepth 20000 in
theorem wl_21 : ∀ w ∈ wsL_law_r21, w ∈ lw_tbl := in_of [10, 545, 546, 548, 11, 549, 550, 551, 552, 1017, 1018, 1019, 1020, 553, 554, 555, 556, 557, 559, 12, 560, 561, 1021, 1022] (by decide +kernel)
set_option maxRecDepth 20000 in
theorem wl_22 : ∀ w ∈ wsL_law_r22, w ∈ lw_tbl := in_of [1023, 1024, 562, 563, 564, 565, 1025, 1026, 1027, 1028, 566, 567, 568, 569, 1029, 1030, 1031, 1032, 570, 571, 572, 573, 574, 575] (by decide +kernel)
set_option maxRecDepth 20000 in
theorem wl_23 : ∀ w ∈ wsL_law_r23, w ∈ lw_tbl := in_of [1033, 1034, 1035, 1036, 1037, 1039, 39, 1040, 576, 577, 578, 579, 580, 1041, 1042, 1043, 1044, 581, 582, 583, 584, 1045, 1046, 1047] (by decide +kernel)
set_option maxRecDepth 20000 in
theorem wl_24 : ∀ w ∈ wsL_law_r24, w ∈ lw_tbl := in_of [1048, 585, 586, 587, 588, 589, 590, 591, 592, 377, 364, 381, 370, 593, 594, 595, 596, 597, 598, 600, 13, 601, 102, 605] (by decide +kernel)
set_option maxRecDepth 20000 in
theorem wl_25 : ∀ w ∈ wsL_law_r25, w ∈ lw_tbl := in_of [603, 604, 606, 1049, 1050, 1051, 1052, 1053, 1054, 1056, 40, 1057, 1058, 1060, 41, 1061, 830, 1065, 1062, 1063, 1064, 1066, 1068, 42] (by decide +kernel)
set_option maxRecDepth 20000 in
theorem wl_26 : ∀ w ∈ wsL_law_r26, w ∈ lw_tbl := in_of [1069, 607, 608, 609, 610, 611, 612, 613, 614, 615, 616, 617, 619, 14, 620, 621, 622, 623, 624, 625, 626, 627, 1070, 1071] (by decide +kernel)
set_option maxRecDepth 20000 in
theorem wl_27 : ∀ w ∈ wsL_law_r27, w ∈ lw_tbl := in_of [1072, 1073, 1074, 1075, 628, 629, 630, 631, 632, 633, 634, 1076, 1077, 1078, 1079, 1080, 1081, 1082, 1083, 635, 636, 637, 638, 1084] (by decide +kernel)
set_option maxRecDepth 20000 in
theorem wl_28 : ∀ w ∈ wsL_law_r28, w ∈ lw_tbl := in_of [1085, 1086, 1087, 1088, 1089, 639, 640, 641, 642, 1090, 1091, 1092, 1093, 643, 644, 645, 646, 1094, 1095, 1096, 1097, 647, 648, 649] (by decide +kernel)
set_option maxRecDepth 20000 in
theorem wl_29 : ∀ w ∈ wsL_law_r29, w ∈ lw_tbl := in_of [650, 1098, 1099, 1100, 1101, 651, 652, 653, 654, 655, 656, 657, 658, 659, 660, 661, 662, 663, 664, 1102, 1103, 1104, 1105, 1106] (by decide +kernel)
set_option maxRecDepth 20000 in
theorem wl_30 : ∀ w ∈ wsL_law_r30, w ∈ lw_tbl := in_of [1107, 1112, 1113, 1114, 1115, 1116, 1117, 1118, 1108, 1110, 43, 1111, 1119, 1121, 44, 1122, 665, 666, 667, 668, 669, 670, 671, 672] (by decide +kernel)
set_option maxRecDepth 20000 in
theorem wl_31 : ∀ w ∈ wsL_law_r31, w ∈ lw_tbl := in_of [1123, 1124, 1125, 1126, 673, 674, 675, 676, 103, 1127, 1128, 1129, 1130, 677, 678, 679, 680, 243, 1131, 1132, 1133, 1134, 1135, 832] (by decide +kernel)
set_option maxRecDepth 20000 in
theorem wl_32 : ∀ w ∈ wsL_law_r32, w ∈ lw_tbl := in_of [681, 682, 683, 684, 1136, 1137, 1138, 1139, 685, 686, 687, 688, 140, 167, 689, 690, 691, 692, 693, 160, 161, 162, 159, 164] (by decide +kernel)
set_option maxRecDepth 20000 in
theorem wl_33 : ∀ w ∈ wsL_law_r33, w ∈ lw_tbl := in_of [166, 139, 694, 696, 15, 697, 698, 700, 16, 701, 163, 702, 703, 704, 706, 708, 17, 709, 710, 712, 18, 713, 165, 714] (by decide +kernel)
set_option maxRecDepth 20000 in
theorem wl_34 : ∀ w ∈ wsL_law_r34, w ∈ lw_tbl := in_of [715, 716, 717, 138, 718, 720, 19, 721, 722, 724, 20, 725, 726, 728, 21, 729, 730, 731, 732, 733, 735, 22, 736, 737] (by decide +kernel)
set_option maxRecDepth 20000 in
theorem wl_35 : ∀ w ∈ wsL_law_r35, w ∈ lw_tbl := in_of [739, 23, 740, 741, 742, 744, 24, 745, 746, 748, 25, 749, 750, 752, 26, 753, 754, 755, 756, 757, 204, 758, 759, 760] (by decide +kernel)
set_option maxRecDepth 20000 in
theorem wl_36 : ∀ w ∈ wsL_law_r36, w ∈ lw_tbl := in_of [761, 763, 764, 765, 766, 767, 768, 769, 770, 772, 774, 27, 775, 776, 778, 28, 779, 780, 781, 783, 29, 784, 785, 786] (by decide +kernel)
set_option maxRecDepth 20000 in
theorem wl_37 : ∀ w ∈ wsL_law_r37, w ∈ lw_tbl := in_of [787, 788, 789, 790, 1140, 1141, 1142, 1143, 846, 1144, 1146, 45, 1147, 845, 1156, 1157, 1148, 1150, 46, 1151, 1152, 1154, 47, 1155] (by decide +kernel)
set_option maxRecDepth 20000 in
theorem wl_38 : ∀ w ∈ wsL_law_r38, w ∈ lw_tbl := in_of [1158, 1160, 48, 1161, 834, 836, 839, 841, 1162, 1164, 49, 1165, 847, 1166, 1168, 50, 1169, 1170, 1171, 1172, 1173, 1174, 1175, 1177] (by decide +kernel)
set_option maxRecDepth 20000 in
theorem wl_39 : ∀ w ∈ wsL_law_r39, w ∈ lw_tbl := in_of [51, 1178, 1179, 1180, 1181, 1182, 1184, 52, 1185, 1186, 1188, 53, 1189, 1190, 1192, 54, 1193, 791, 792, 793, 794, 121, 795, 796] (by decide +kernel)
set_option maxRecDepth 20000 in
theorem wl_40 : ∀ w ∈ wsL_law_r40, w ∈ lw_tbl := in_of [797, 798, 799, 1194, 1195, 1196, 1197, 800, 801, 802, 803, 804, 806, 30, 807, 1198, 1199, 1200, 1201, 1202, 1203, 1205, 55, 1206] (by decide +kernel)
set_option maxRecDepth 20000 in
theorem wl_41 : ∀ w ∈ wsL_law_r41, w ∈ lw_tbl := in_of [808, 809, 810, 811, 812, 813, 814, 1207, 1208, 1209, 1210, 1211, 1212] (by decide +kernel)
set_option maxRecDepth 20000 in
theorem wf_80 : ∀ w ∈ wsX80, w ∈ lw_tbl := by decide +kernel
set_option maxRecDepth 20000 in
theorem wf_90 : ∀ w ∈ wsX90, w ∈ lw_tbl := by decide +kernel
set_option maxRecDepth 20000 in
theorem wf_20 : ∀ w ∈ wsX20, w ∈ lw_tbl := by decide +kernel
set_option maxRecDepth 20000 in
theorem wf_10 : ∀ w ∈ wsX10, w ∈ lw_tbl := by decide +kernel
set_option maxRecDepth 20000 in
theorem wf_70 : ∀ w ∈ wsX70, w ∈ lw_tbl := by decide +kernel
set_option maxRecDepth 20000 in
theorem wf_40 : ∀ w ∈ wsX40, w ∈ lw_tbl := by decide +kernel
set_option maxRecDepth 20000 in
theorem wf_50 : ∀ w ∈ wsX50, w ∈ lw_tbl := by decide +kernel
set_option maxRecDepth 20000 in
theorem wf_00 : ∀ w ∈ wsX00, w ∈ lw_tbl := by decide +kernel
set_option maxRecDepth 20000 in
theorem wf_60 : ∀ w ∈ wsX60, w ∈ lw_tbl := by decide +kernel
set_option maxRecDepth 20000 in
theorem wf_30 : ∀ w ∈ wsX30, w ∈ lw_tbl := by decide +kernel
theorem wsL_law_in : ∀ w ∈ wsL_law, w ∈ lw_tbl := List.forall_mem_append.mpr ⟨List.forall_mem_append.mpr ⟨List.forall_mem_append.mpr ⟨List.forall_mem_append.mpr ⟨List.forall_mem_append.mpr ⟨List.forall_mem_append.mpr ⟨List.forall_mem_append.mpr ⟨List.forall_mem_append.mpr ⟨List.forall_mem_append.mpr ⟨List.forall_mem_append.mpr ⟨List.forall_mem_append.mpr ⟨List.forall_mem_append.mpr ⟨wl_1, List.forall_mem_append.mpr ⟨wl_2, List.forall_mem_append.mpr ⟨wl_3, List.forall_mem_append.mpr ⟨wl_4, List.forall_mem_append.mpr ⟨wl_5, List.forall_mem_append.mpr ⟨wl_6, List.forall_mem_append.mpr ⟨wl_7, List.forall_mem_append.mpr ⟨wl_8, List.forall_mem_append.mpr ⟨wl_9, List.forall_mem_append.mpr ⟨wl_10, List.forall_mem_append.mpr ⟨wl_11, List.forall_mem_append.mpr ⟨wl_12, List.forall_mem_append.mpr ⟨wl_13, List.forall_mem_append.mpr ⟨wl_14, List.forall_mem_append.mpr ⟨wl_15, List.forall_mem_append.mpr ⟨wl_16, List.forall_mem_append.mpr ⟨wl_17, List.forall_mem_append.mpr ⟨wl_18, List.forall_mem_append.mpr ⟨wl_19, List.forall_mem_append.mpr ⟨wl_20, List.forall_mem_append.mpr ⟨wl_21, List.forall_mem_append.mpr ⟨wl_22, List.forall_mem_append.mpr ⟨wl_23, List.forall_mem_append.mpr ⟨wl_24, List.forall_mem_append.mpr ⟨wl_25, List.forall_mem_append.mpr ⟨wl_26, List.forall_mem_append.mpr ⟨wl_27, List.forall_mem_append.mpr ⟨wl_28, List.forall_mem_append.mpr ⟨wl_29, List.forall_mem_append.mpr ⟨wl_30, List.forall_mem_append.mpr ⟨wl_31, List.forall_mem_append.mpr ⟨wl_32, List.forall_mem_append.mpr ⟨wl_33, List.forall_mem_append.mpr ⟨wl_34, List.forall_mem_append.mpr ⟨wl_35, List.forall_mem_append.mpr ⟨wl_36, List.forall_mem_append.mpr ⟨wl_37, List.forall_mem_append.mpr ⟨wl_38, List.forall_mem_append.mpr ⟨wl_39, List.forall_mem_append.mpr ⟨wl_40, wl_41⟩⟩⟩⟩⟩⟩⟩⟩⟩⟩⟩⟩⟩⟩⟩⟩⟩⟩⟩⟩⟩⟩⟩⟩⟩⟩⟩⟩⟩⟩⟩⟩⟩⟩⟩⟩⟩⟩⟩⟩, wf_80⟩, wf_90⟩, wf_20⟩, wf_10⟩, wf_70⟩, wf_40⟩, wf_50⟩, wf_00⟩, wf_60⟩, wf_30⟩, fun _ h => absurd h List.not_mem_nil⟩
theorem inlX0 : ∀ w ∈ wsX00, w ∈ wsL_law := fun _ h => List.mem_append_left _ (List.mem_append_left _ (List.mem_append_left _ (List.mem_append_right _ h)))
theorem inX0 : ∀ w ∈ wsX00, w ∈ lw_tbl := fun w h => wsL_law_in w (inlX0 w h)
theorem inlX1 : ∀ w ∈ wsX10, w ∈ wsL_law := fun _ h => List.mem_append_left _ (List.mem_append_left _ (List.mem_append_left _ (List.mem_append_left _ (List.mem_append_left _ (List.mem_append_left _ (List.mem_append_left _ (List.mem_append_right _ h)))))))
theorem inX1 : ∀ w ∈ wsX10, w ∈ lw_tbl := fun w h => wsL_law_in w (inlX1 w h)
theorem inlX2 : ∀ w ∈ wsX20, w ∈ wsL_law := fun _ h => List.mem_append_left _ (List.mem_append_left _ (List.mem_append_left _ (List.mem_append_left _ (List.mem_append_left _ (List.mem_append_left _ (List.mem_append_left _ (List.mem_append_left _ (List.mem_append_right _ h))))))))
theorem inX2 : ∀ w ∈ wsX20, w ∈ lw_tbl := fun w h => wsL_law_in w (inlX2 w h)
theorem inlX3 : ∀ w ∈ wsX30, w ∈ wsL_law := fun _ h => List.mem_append_left _ (List.mem_append_right _ h)
theorem inX3 : ∀ w ∈ wsX30, w ∈ lw_tbl := fun w h => wsL_law_in w (inlX3 w h)
theorem inlX4 : ∀ w ∈ wsX40, w ∈ wsL_law := fun _ h => List.mem_append_left _ (List.mem_append_left _ (List.mem_append_left _ (List.mem_append_left _ (List.mem_append_left _ (List.mem_append_right _ h)))))
theorem inX4 : ∀ w ∈ wsX40, w ∈ lw_tbl := fun w h => wsL_law_in w (inlX4 w h)
theorem inlX5 : ∀ w ∈ wsX50, w ∈ wsL_law := fun _ h => List.mem_append_left _ (List.mem_append_left _ (List.mem_append_left _ (List.mem_append_left _ (List.mem_append_right _ h))))
theorem inX5 : ∀ w ∈ wsX50, w ∈ lw_tbl := fun w h => wsL_law_in w (inlX5 w h)
theorem inlX6 : ∀ w ∈ wsX60, w ∈ wsL_law := fun _ h => List.mem_append_left _ (List.mem_append_left _ (List.mem_append_right _ h))
theorem inX6 : ∀ w ∈ wsX60, w ∈ lw_tbl := fun w h => wsL_law_in w (inlX6 w h)
theorem inlX7 : ∀ w ∈ wsX70, w ∈ wsL_law := fun _ h => List.mem_append_left _ (List.mem_append_left _ (List.mem_append_left _ (List.mem_append_left _ (List.mem_append_left _ (List.mem_append_left _ (List.mem_append_right _ h))))))
theorem inX7 : ∀ w ∈ wsX70, w ∈ lw_tbl := fun w h => wsL_law_in w (inlX7 w h)
theorem inlX8 : ∀ w ∈ wsX80, w ∈ wsL_law := fun _ h => List.mem_append_left _ (List.mem_append_left _ (List.mem_append_left _ (List.mem_append_left _ (List.mem_append_left _ (List.mem_append_left _ (List.mem_append_left _ (List.mem_append_left _ (List.mem_append_left _ (List.mem_append_left _ (List.mem_append_right _ h))))))))))
theorem inX8 : ∀ w ∈ wsX80, w ∈ lw_tbl := fun w h => wsL_law_in w (inlX8 w h)
theorem inlX9 : ∀ w ∈ wsX90, w ∈ wsL_law := fun _ h => List.mem_append_left _ (List.mem_append_left _ (List.mem_append_left _ (List.mem_append_left _ (List.mem_append_left _ (List.mem_append_left _ (List.mem_append_left _ (List.mem_append_left _ (List.mem_append_left _ (List.mem_append_right _ h)))))))))
theorem inX9 : ∀ w ∈ wsX90, w ∈ lw_tbl := fun w h => wsL_law_in w (inlX9 w h)
