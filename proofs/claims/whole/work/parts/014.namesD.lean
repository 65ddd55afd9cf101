theorem dX9_init_0 : decode cX9_init 0 = .ok (.aload_n 0, 1) := by decide +kernel
theorem dX9_init_1 : decode cX9_init 1 = .ok (.invokespecial 1, 3) := by decide +kernel
theorem dX9_init_4 : decode cX9_init 4 = .ok (.aload_n 0, 1) := by decide +kernel
theorem dX9_init_5 : decode cX9_init 5 = .ok (.sipush 1200, 3) := by decide +kernel
theorem dX9_init_8 : decode cX9_init 8 = .ok (.newarray .int, 2) := by decide +kernel
theorem dX9_init_10 : decode cX9_init 10 = .ok (.putfield 7, 3) := by decide +kernel
theorem dX9_init_13 : decode cX9_init 13 = .ok (.aload_n 0, 1) := by decide +kernel
theorem dX9_init_14 : decode cX9_init 14 = .ok (.bipush 6, 2) := by decide +kernel
theorem dX9_init_16 : decode cX9_init 16 = .ok (.newarray .int, 2) := by decide +kernel
theorem dX9_init_18 : decode cX9_init 18 = .ok (.putfield 13, 3) := by decide +kernel
theorem dX9_init_21 : decode cX9_init 21 = .ok (.aload_n 0, 1) := by decide +kernel
theorem dX9_init_22 : decode cX9_init 22 = .ok (.sipush 14400, 3) := by decide +kernel
theorem dX9_init_25 : decode cX9_init 25 = .ok (.newarray .int, 2) := by decide +kernel
theorem dX9_init_27 : decode cX9_init 27 = .ok (.putfield 16, 3) := by decide +kernel
theorem dX9_init_30 : decode cX9_init 30 = .ok (.aload_n 0, 1) := by decide +kernel
theorem dX9_init_31 : decode cX9_init 31 = .ok (.bipush 72, 2) := by decide +kernel
theorem dX9_init_33 : decode cX9_init 33 = .ok (.newarray .int, 2) := by decide +kernel
theorem dX9_init_35 : decode cX9_init 35 = .ok (.putfield 19, 3) := by decide +kernel
theorem dX9_init_38 : decode cX9_init 38 = .ok (.aload_n 0, 1) := by decide +kernel
theorem dX9_init_39 : decode cX9_init 39 = .ok (.sipush 1200, 3) := by decide +kernel
theorem dX9_init_42 : decode cX9_init 42 = .ok (.newarray .int, 2) := by decide +kernel
theorem dX9_init_44 : decode cX9_init 44 = .ok (.putfield 22, 3) := by decide +kernel
theorem dX9_init_47 : decode cX9_init 47 = .ok (.aload_n 0, 1) := by decide +kernel
theorem dX9_init_48 : decode cX9_init 48 = .ok (.bipush 6, 2) := by decide +kernel
theorem dX9_init_50 : decode cX9_init 50 = .ok (.newarray .int, 2) := by decide +kernel
theorem dX9_init_52 : decode cX9_init 52 = .ok (.putfield 25, 3) := by decide +kernel
theorem dX9_init_55 : decode cX9_init 55 = .ok (.aload_n 0, 1) := by decide +kernel
theorem dX9_init_56 : decode cX9_init 56 = .ok (.sipush 201, 3) := by decide +kernel
theorem dX9_init_59 : decode cX9_init 59 = .ok (.newarray .int, 2) := by decide +kernel
theorem dX9_init_61 : decode cX9_init 61 = .ok (.putfield 28, 3) := by decide +kernel
theorem dX9_init_64 : decode cX9_init 64 = .ok (.aload_n 0, 1) := by decide +kernel
theorem dX9_init_65 : decode cX9_init 65 = .ok (.iconst 3, 1) := by decide +kernel
theorem dX9_init_66 : decode cX9_init 66 = .ok (.newarray .int, 2) := by decide +kernel
theorem dX9_init_68 : decode cX9_init 68 = .ok (.putfield 31, 3) := by decide +kernel
theorem dX9_init_71 : decode cX9_init 71 = .ok (.aload_n 0, 1) := by decide +kernel
theorem dX9_init_72 : decode cX9_init 72 = .ok (.bipush 120, 2) := by decide +kernel
theorem dX9_init_74 : decode cX9_init 74 = .ok (.newarray .int, 2) := by decide +kernel
theorem dX9_init_76 : decode cX9_init 76 = .ok (.putfield 34, 3) := by decide +kernel
theorem dX9_init_79 : decode cX9_init 79 = .ok (.aload_n 0, 1) := by decide +kernel
theorem dX9_init_80 : decode cX9_init 80 = .ok (.sipush 130, 3) := by decide +kernel
theorem dX9_init_83 : decode cX9_init 83 = .ok (.newarray .int, 2) := by decide +kernel
theorem dX9_init_85 : decode cX9_init 85 = .ok (.putfield 37, 3) := by decide +kernel
theorem dX9_init_88 : decode cX9_init 88 = .ok (.aload_n 0, 1) := by decide +kernel
theorem dX9_init_89 : decode cX9_init 89 = .ok (.sipush 130, 3) := by decide +kernel
theorem dX9_init_92 : decode cX9_init 92 = .ok (.newarray .int, 2) := by decide +kernel
theorem dX9_init_94 : decode cX9_init 94 = .ok (.putfield 40, 3) := by decide +kernel
theorem dX9_init_97 : decode cX9_init 97 = .ok (.aload_n 0, 1) := by decide +kernel
theorem dX9_init_98 : decode cX9_init 98 = .ok (.bipush 60, 2) := by decide +kernel
theorem dX9_init_100 : decode cX9_init 100 = .ok (.newarray .int, 2) := by decide +kernel
theorem dX9_init_102 : decode cX9_init 102 = .ok (.putfield 43, 3) := by decide +kernel
theorem dX9_init_105 : decode cX9_init 105 = .ok (.aload_n 0, 1) := by decide +kernel
theorem dX9_init_106 : decode cX9_init 106 = .ok (.bipush 60, 2) := by decide +kernel
theorem dX9_init_108 : decode cX9_init 108 = .ok (.newarray .int, 2) := by decide +kernel
theorem dX9_init_110 : decode cX9_init 110 = .ok (.putfield 46, 3) := by decide +kernel
theorem dX9_init_113 : decode cX9_init 113 = .ok (.aload_n 0, 1) := by decide +kernel
theorem dX9_init_114 : decode cX9_init 114 = .ok (.sipush 130, 3) := by decide +kernel
theorem dX9_init_117 : decode cX9_init 117 = .ok (.newarray .int, 2) := by decide +kernel
theorem dX9_init_119 : decode cX9_init 119 = .ok (.putfield 49, 3) := by decide +kernel
theorem dX9_init_122 : decode cX9_init 122 = .ok (.aload_n 0, 1) := by decide +kernel
theorem dX9_init_123 : decode cX9_init 123 = .ok (.sipush 130, 3) := by decide +kernel
theorem dX9_init_126 : decode cX9_init 126 = .ok (.newarray .int, 2) := by decide +kernel
theorem dX9_init_128 : decode cX9_init 128 = .ok (.putfield 52, 3) := by decide +kernel
theorem dX9_init_131 : decode cX9_init 131 = .ok (.aload_n 0, 1) := by decide +kernel
theorem dX9_init_132 : decode cX9_init 132 = .ok (.sipush 130, 3) := by decide +kernel
theorem dX9_init_135 : decode cX9_init 135 = .ok (.newarray .int, 2) := by decide +kernel
theorem dX9_init_137 : decode cX9_init 137 = .ok (.putfield 55, 3) := by decide +kernel
theorem dX9_init_140 : decode cX9_init 140 = .ok (.aload_n 0, 1) := by decide +kernel
theorem dX9_init_141 : decode cX9_init 141 = .ok (.bipush 6, 2) := by decide +kernel
theorem dX9_init_143 : decode cX9_init 143 = .ok (.newarray .int, 2) := by decide +kernel
theorem dX9_init_145 : decode cX9_init 145 = .ok (.putfield 58, 3) := by decide +kernel
theorem dX9_init_148 : decode cX9_init 148 = .ok (.return_, 1) := by decide +kernel
theorem dX9_in_0 : decode cX9_in 0 = .ok (.lload_n 0, 1) := by decide +kernel
theorem dX9_in_1 : decode cX9_in 1 = .ok (.lload_n 2, 1) := by decide +kernel
theorem dX9_in_2 : decode cX9_in 2 = .ok (.lcmp, 1) := by decide +kernel
theorem dX9_in_3 : decode cX9_in 3 = .ok (.ifCond .lt 14, 3) := by decide +kernel
theorem dX9_in_6 : decode cX9_in 6 = .ok (.lload_n 0, 1) := by decide +kernel
theorem dX9_in_7 : decode cX9_in 7 = .ok (.lload 4, 2) := by decide +kernel
theorem dX9_in_9 : decode cX9_in 9 = .ok (.lcmp, 1) := by decide +kernel
theorem dX9_in_10 : decode cX9_in 10 = .ok (.ifCond .gt 7, 3) := by decide +kernel
theorem dX9_in_13 : decode cX9_in 13 = .ok (.iconst 1, 1) := by decide +kernel
theorem dX9_in_14 : decode cX9_in 14 = .ok (.goto 4, 3) := by decide +kernel
theorem dX9_in_17 : decode cX9_in 17 = .ok (.iconst 0, 1) := by decide +kernel
theorem dX9_in_18 : decode cX9_in 18 = .ok (.ireturn, 1) := by decide +kernel
theorem dX9_refuses_0 : decode cX9_refuses 0 = .ok (.aload_n 0, 1) := by decide +kernel
theorem dX9_refuses_1 : decode cX9_refuses 1 = .ok (.getfield 31, 3) := by decide +kernel
theorem dX9_refuses_4 : decode cX9_refuses 4 = .ok (.ldc 61, 2) := by decide +kernel
theorem dX9_refuses_6 : decode cX9_refuses 6 = .ok (.iload_n 1, 1) := by decide +kernel
theorem dX9_refuses_7 : decode cX9_refuses 7 = .ok (.isub, 1) := by decide +kernel
theorem dX9_refuses_8 : decode cX9_refuses 8 = .ok (.dup2, 1) := by decide +kernel
theorem dX9_refuses_9 : decode cX9_refuses 9 = .ok (.iaload, 1) := by decide +kernel
theorem dX9_refuses_10 : decode cX9_refuses 10 = .ok (.iconst 1, 1) := by decide +kernel
theorem dX9_refuses_11 : decode cX9_refuses 11 = .ok (.iadd, 1) := by decide +kernel
theorem dX9_refuses_12 : decode cX9_refuses 12 = .ok (.iastore, 1) := by decide +kernel
theorem dX9_refuses_13 : decode cX9_refuses 13 = .ok (.iload_n 1, 1) := by decide +kernel
theorem dX9_refuses_14 : decode cX9_refuses 14 = .ok (.ireturn, 1) := by decide +kernel
theorem dX9_held_0 : decode cX9_held 0 = .ok (.lload_n 0, 1) := by decide +kernel
theorem dX9_held_1 : decode cX9_held 1 = .ok (.ldc2_w 62, 3) := by decide +kernel
theorem dX9_held_4 : decode cX9_held 4 = .ok (.lcmp, 1) := by decide +kernel
theorem dX9_held_5 : decode cX9_held 5 = .ok (.ifCond .ge 9, 3) := by decide +kernel
theorem dX9_held_8 : decode cX9_held 8 = .ok (.ldc2_w 62, 3) := by decide +kernel
theorem dX9_held_11 : decode cX9_held 11 = .ok (.goto 18, 3) := by decide +kernel
theorem dX9_held_14 : decode cX9_held 14 = .ok (.lload_n 0, 1) := by decide +kernel
theorem dX9_held_15 : decode cX9_held 15 = .ok (.ldc2_w 64, 3) := by decide +kernel
theorem dX9_held_18 : decode cX9_held 18 = .ok (.lcmp, 1) := by decide +kernel
theorem dX9_held_19 : decode cX9_held 19 = .ok (.ifCond .le 9, 3) := by decide +kernel
theorem dX9_held_22 : decode cX9_held 22 = .ok (.ldc2_w 64, 3) := by decide +kernel
theorem dX9_held_25 : decode cX9_held 25 = .ok (.goto 4, 3) := by decide +kernel
theorem dX9_held_28 : decode cX9_held 28 = .ok (.lload_n 0, 1) := by decide +kernel
theorem dX9_held_29 : decode cX9_held 29 = .ok (.l2i, 1) := by decide +kernel
theorem dX9_held_30 : decode cX9_held 30 = .ok (.ireturn, 1) := by decide +kernel
set_option maxRecDepth 20000 in
theorem ggX9_isMap_X9_in : GoodIn wsX9_isMap wsX9_in := goodIn_r _ [5] (by decide +kernel) (by decide +kernel)
set_option maxRecDepth 20000 in
theorem gX9_isMap_X9_in : GoodIn wsX9_isMap (va_wsS RX9 68 yX9_in wsX9_in) := goodIn_app (goodIn_of _ (by decide +kernel)) ggX9_isMap_X9_in
theorem dX9_isMap_0 : decode cX9_isMap 0 = .ok (.iload_n 0, 1) := by decide +kernel
theorem dX9_isMap_1 : decode cX9_isMap 1 = .ok (.i2l, 1) := by decide +kernel
theorem dX9_isMap_2 : decode cX9_isMap 2 = .ok (.lconst 0, 1) := by decide +kernel
theorem dX9_isMap_3 : decode cX9_isMap 3 = .ok (.ldc2_w 66, 3) := by decide +kernel
theorem dX9_isMap_6 : decode cX9_isMap 6 = .ok (.invokestatic 68, 3) := by decide +kernel
theorem dX9_isMap_9 : decode cX9_isMap 9 = .ok (.ireturn, 1) := by decide +kernel
set_option maxRecDepth 20000 in
theorem ggX9_isKey_X9_in : GoodIn wsX9_isKey wsX9_in := goodIn_r _ [6] (by decide +kernel) (by decide +kernel)
set_option maxRecDepth 20000 in
theorem gX9_isKey_X9_in : GoodIn wsX9_isKey (va_wsS RX9 68 yX9_in wsX9_in) := goodIn_app (goodIn_of _ (by decide +kernel)) ggX9_isKey_X9_in
theorem dX9_isKey_0 : decode cX9_isKey 0 = .ok (.iload_n 0, 1) := by decide +kernel
theorem dX9_isKey_1 : decode cX9_isKey 1 = .ok (.i2l, 1) := by decide +kernel
theorem dX9_isKey_2 : decode cX9_isKey 2 = .ok (.ldc2_w 72, 3) := by decide +kernel
theorem dX9_isKey_5 : decode cX9_isKey 5 = .ok (.ldc2_w 74, 3) := by decide +kernel
theorem dX9_isKey_8 : decode cX9_isKey 8 = .ok (.invokestatic 68, 3) := by decide +kernel
theorem dX9_isKey_11 : decode cX9_isKey 11 = .ok (.ireturn, 1) := by decide +kernel
set_option maxRecDepth 20000 in
theorem ggX9_isRange_X9_isKey : GoodIn wsX9_isRange wsX9_isKey := goodIn_r _ [4, 5, 6, 7, 8, 3, 9] (by decide +kernel) (by decide +kernel)
set_option maxRecDepth 20000 in
theorem gX9_isRange_X9_isKey : GoodIn wsX9_isRange (va_wsS RX9 76 yX9_isKey wsX9_isKey) := goodIn_app (goodIn_of _ (by decide +kernel)) ggX9_isRange_X9_isKey
theorem dX9_isRange_0 : decode cX9_isRange 0 = .ok (.iload_n 0, 1) := by decide +kernel
theorem dX9_isRange_1 : decode cX9_isRange 1 = .ok (.invokestatic 76, 3) := by decide +kernel
theorem dX9_isRange_4 : decode cX9_isRange 4 = .ok (.ifCond .eq 19, 3) := by decide +kernel
theorem dX9_isRange_7 : decode cX9_isRange 7 = .ok (.iload_n 1, 1) := by decide +kernel
theorem dX9_isRange_8 : decode cX9_isRange 8 = .ok (.invokestatic 76, 3) := by decide +kernel
theorem dX9_isRange_11 : decode cX9_isRange 11 = .ok (.ifCond .eq 12, 3) := by decide +kernel
theorem dX9_isRange_14 : decode cX9_isRange 14 = .ok (.iload_n 0, 1) := by decide +kernel
theorem dX9_isRange_15 : decode cX9_isRange 15 = .ok (.iload_n 1, 1) := by decide +kernel
theorem dX9_isRange_16 : decode cX9_isRange 16 = .ok (.if_icmp .gt 7, 3) := by decide +kernel
theorem dX9_isRange_19 : decode cX9_isRange 19 = .ok (.iconst 1, 1) := by decide +kernel
theorem dX9_isRange_20 : decode cX9_isRange 20 = .ok (.goto 4, 3) := by decide +kernel
theorem dX9_isRange_23 : decode cX9_isRange 23 = .ok (.iconst 0, 1) := by decide +kernel
theorem dX9_isRange_24 : decode cX9_isRange 24 = .ok (.ireturn, 1) := by decide +kernel
theorem dX9_entry_0 : decode cX9_entry 0 = .ok (.iload_n 0, 1) := by decide +kernel
theorem dX9_entry_1 : decode cX9_entry 1 = .ok (.sipush (-500), 3) := by decide +kernel
theorem dX9_entry_4 : decode cX9_entry 4 = .ok (.isub, 1) := by decide +kernel
theorem dX9_entry_5 : decode cX9_entry 5 = .ok (.bipush 21, 2) := by decide +kernel
theorem dX9_entry_7 : decode cX9_entry 7 = .ok (.ishl, 1) := by decide +kernel
theorem dX9_entry_8 : decode cX9_entry 8 = .ok (.iload_n 1, 1) := by decide +kernel
theorem dX9_entry_9 : decode cX9_entry 9 = .ok (.ldc 80, 2) := by decide +kernel
theorem dX9_entry_11 : decode cX9_entry 11 = .ok (.iadd, 1) := by decide +kernel
theorem dX9_entry_12 : decode cX9_entry 12 = .ok (.ior, 1) := by decide +kernel
theorem dX9_entry_13 : decode cX9_entry 13 = .ok (.ireturn, 1) := by decide +kernel
theorem dX9_keyOf_0 : decode cX9_keyOf 0 = .ok (.iload_n 0, 1) := by decide +kernel
theorem dX9_keyOf_1 : decode cX9_keyOf 1 = .ok (.bipush 21, 2) := by decide +kernel
theorem dX9_keyOf_3 : decode cX9_keyOf 3 = .ok (.ishr, 1) := by decide +kernel
theorem dX9_keyOf_4 : decode cX9_keyOf 4 = .ok (.sipush (-500), 3) := by decide +kernel
theorem dX9_keyOf_7 : decode cX9_keyOf 7 = .ok (.iadd, 1) := by decide +kernel
theorem dX9_keyOf_8 : decode cX9_keyOf 8 = .ok (.ireturn, 1) := by decide +kernel
theorem dX9_valueOf_0 : decode cX9_valueOf 0 = .ok (.iload_n 0, 1) := by decide +kernel
theorem dX9_valueOf_1 : decode cX9_valueOf 1 = .ok (.ldc 81, 2) := by decide +kernel
theorem dX9_valueOf_3 : decode cX9_valueOf 3 = .ok (.iand, 1) := by decide +kernel
theorem dX9_valueOf_4 : decode cX9_valueOf 4 = .ok (.ldc 80, 2) := by decide +kernel
theorem dX9_valueOf_6 : decode cX9_valueOf 6 = .ok (.isub, 1) := by decide +kernel
theorem dX9_valueOf_7 : decode cX9_valueOf 7 = .ok (.ireturn, 1) := by decide +kernel
set_option maxRecDepth 20000 in
theorem ggX9_keyAt_X9_keyOf : GoodIn wsX9_keyAt wsX9_keyOf := goodIn_r _ [5] (by decide +kernel) (by decide +kernel)
set_option maxRecDepth 20000 in
theorem gX9_keyAt_X9_keyOf : GoodIn wsX9_keyAt (va_wsS RX9 82 yX9_keyOf wsX9_keyOf) := goodIn_app (goodIn_of _ (by decide +kernel)) ggX9_keyAt_X9_keyOf
theorem dX9_keyAt_0 : decode cX9_keyAt 0 = .ok (.aload_n 0, 1) := by decide +kernel
theorem dX9_keyAt_1 : decode cX9_keyAt 1 = .ok (.getfield 7, 3) := by decide +kernel
theorem dX9_keyAt_4 : decode cX9_keyAt 4 = .ok (.sipush 200, 3) := by decide +kernel
theorem dX9_keyAt_7 : decode cX9_keyAt 7 = .ok (.iload_n 1, 1) := by decide +kernel
theorem dX9_keyAt_8 : decode cX9_keyAt 8 = .ok (.imul, 1) := by decide +kernel
theorem dX9_keyAt_9 : decode cX9_keyAt 9 = .ok (.iload_n 2, 1) := by decide +kernel
theorem dX9_keyAt_10 : decode cX9_keyAt 10 = .ok (.iadd, 1) := by decide +kernel
theorem dX9_keyAt_11 : decode cX9_keyAt 11 = .ok (.iaload, 1) := by decide +kernel
theorem dX9_keyAt_12 : decode cX9_keyAt 12 = .ok (.invokestatic 82, 3) := by decide +kernel
theorem dX9_keyAt_15 : decode cX9_keyAt 15 = .ok (.ireturn, 1) := by decide +kernel
set_option maxRecDepth 20000 in
theorem ggX9_valueAt_X9_valueOf : GoodIn wsX9_valueAt wsX9_valueOf := goodIn_r _ [5, 6, 7] (by decide +kernel) (by decide +kernel)
set_option maxRecDepth 20000 in
theorem gX9_valueAt_X9_valueOf : GoodIn wsX9_valueAt (va_wsS RX9 86 yX9_valueOf wsX9_valueOf) := goodIn_app (goodIn_of _ (by decide +kernel)) ggX9_valueAt_X9_valueOf
theorem dX9_valueAt_0 : decode cX9_valueAt 0 = .ok (.aload_n 0, 1) := by decide +kernel
theorem dX9_valueAt_1 : decode cX9_valueAt 1 = .ok (.getfield 7, 3) := by decide +kernel
theorem dX9_valueAt_4 : decode cX9_valueAt 4 = .ok (.sipush 200, 3) := by decide +kernel
theorem dX9_valueAt_7 : decode cX9_valueAt 7 = .ok (.iload_n 1, 1) := by decide +kernel
theorem dX9_valueAt_8 : decode cX9_valueAt 8 = .ok (.imul, 1) := by decide +kernel
theorem dX9_valueAt_9 : decode cX9_valueAt 9 = .ok (.iload_n 2, 1) := by decide +kernel
theorem dX9_valueAt_10 : decode cX9_valueAt 10 = .ok (.iadd, 1) := by decide +kernel
theorem dX9_valueAt_11 : decode cX9_valueAt 11 = .ok (.iaload, 1) := by decide +kernel
theorem dX9_valueAt_12 : decode cX9_valueAt 12 = .ok (.invokestatic 86, 3) := by decide +kernel
theorem dX9_valueAt_15 : decode cX9_valueAt 15 = .ok (.ireturn, 1) := by decide +kernel
set_option maxRecDepth 20000 in
theorem ggX9_below_X9_keyAt : GoodIn wsX9_below wsX9_keyAt := goodIn_r _ [6, 7, 8, 9, 5, 10, 11, 12, 13, 14, 15, 16, 17, 18, 19, 20, 21, 22, 23, 24, 25, 26, 27, 28, 29, 30, 31, 32, 33, 34, 35, 36, 37] (by decide +kernel) (by decide +kernel)
set_option maxRecDepth 20000 in
theorem gX9_below_X9_keyAt : GoodIn wsX9_below (wsV RX9 89 RX9 yX9_keyAt wsX9_keyAt) := goodIn_app (goodIn_of _ (by decide +kernel)) ggX9_below_X9_keyAt
theorem dX9_below_0 : decode cX9_below 0 = .ok (.iconst 0, 1) := by decide +kernel
theorem dX9_below_1 : decode cX9_below 1 = .ok (.istore_n 3, 1) := by decide +kernel
theorem dX9_below_2 : decode cX9_below 2 = .ok (.iload_n 3, 1) := by decide +kernel
theorem dX9_below_3 : decode cX9_below 3 = .ok (.aload_n 0, 1) := by decide +kernel
theorem dX9_below_4 : decode cX9_below 4 = .ok (.getfield 13, 3) := by decide +kernel
theorem dX9_below_7 : decode cX9_below 7 = .ok (.iload_n 1, 1) := by decide +kernel
theorem dX9_below_8 : decode cX9_below 8 = .ok (.iaload, 1) := by decide +kernel
theorem dX9_below_9 : decode cX9_below 9 = .ok (.if_icmp .ge 19, 3) := by decide +kernel
theorem dX9_below_12 : decode cX9_below 12 = .ok (.aload_n 0, 1) := by decide +kernel
theorem dX9_below_13 : decode cX9_below 13 = .ok (.iload_n 1, 1) := by decide +kernel
theorem dX9_below_14 : decode cX9_below 14 = .ok (.iload_n 3, 1) := by decide +kernel
theorem dX9_below_15 : decode cX9_below 15 = .ok (.invokevirtual 89, 3) := by decide +kernel
theorem dX9_below_18 : decode cX9_below 18 = .ok (.iload_n 2, 1) := by decide +kernel
theorem dX9_below_19 : decode cX9_below 19 = .ok (.if_icmp .ge 9, 3) := by decide +kernel
theorem dX9_below_22 : decode cX9_below 22 = .ok (.iinc 3 1, 3) := by decide +kernel
theorem dX9_below_25 : decode cX9_below 25 = .ok (.goto (-23), 3) := by decide +kernel
theorem dX9_below_28 : decode cX9_below 28 = .ok (.iload_n 3, 1) := by decide +kernel
theorem dX9_below_29 : decode cX9_below 29 = .ok (.ireturn, 1) := by decide +kernel
set_option maxRecDepth 20000 in
theorem ggX9_isThere_X9_keyAt : GoodIn wsX9_isThere wsX9_keyAt := goodIn_r _ [6, 7, 8, 9, 5, 10, 11, 12, 13, 14, 15, 16, 17, 18, 19, 20, 21, 22, 23, 24, 25, 26, 27, 28, 29, 30, 31, 32, 33, 34, 35, 36, 37] (by decide +kernel) (by decide +kernel)
set_option maxRecDepth 20000 in
theorem gX9_isThere_X9_keyAt : GoodIn wsX9_isThere (wsV RX9 89 RX9 yX9_keyAt wsX9_keyAt) := goodIn_app (goodIn_of _ (by decide +kernel)) ggX9_isThere_X9_keyAt
theorem dX9_isThere_0 : decode cX9_isThere 0 = .ok (.iload_n 2, 1) := by decide +kernel
theorem dX9_isThere_1 : decode cX9_isThere 1 = .ok (.aload_n 0, 1) := by decide +kernel
theorem dX9_isThere_2 : decode cX9_isThere 2 = .ok (.getfield 13, 3) := by decide +kernel
theorem dX9_isThere_5 : decode cX9_isThere 5 = .ok (.iload_n 1, 1) := by decide +kernel
theorem dX9_isThere_6 : decode cX9_isThere 6 = .ok (.iaload, 1) := by decide +kernel
theorem dX9_isThere_7 : decode cX9_isThere 7 = .ok (.if_icmp .ge 17, 3) := by decide +kernel
theorem dX9_isThere_10 : decode cX9_isThere 10 = .ok (.aload_n 0, 1) := by decide +kernel
theorem dX9_isThere_11 : decode cX9_isThere 11 = .ok (.iload_n 1, 1) := by decide +kernel
theorem dX9_isThere_12 : decode cX9_isThere 12 = .ok (.iload_n 2, 1) := by decide +kernel
theorem dX9_isThere_13 : decode cX9_isThere 13 = .ok (.invokevirtual 89, 3) := by decide +kernel
theorem dX9_isThere_16 : decode cX9_isThere 16 = .ok (.iload_n 3, 1) := by decide +kernel
theorem dX9_isThere_17 : decode cX9_isThere 17 = .ok (.if_icmp .ne 7, 3) := by decide +kernel
theorem dX9_isThere_20 : decode cX9_isThere 20 = .ok (.iconst 1, 1) := by decide +kernel
theorem dX9_isThere_21 : decode cX9_isThere 21 = .ok (.goto 4, 3) := by decide +kernel
theorem dX9_isThere_24 : decode cX9_isThere 24 = .ok (.iconst 0, 1) := by decide +kernel
theorem dX9_isThere_25 : decode cX9_isThere 25 = .ok (.ireturn, 1) := by decide +kernel
set_option maxRecDepth 20000 in
theorem ggX9_lays_X9_below : GoodIn wsX9_lays wsX9_below := goodIn_r _ [7, 1, 8, 9, 10, 6, 11, 2, 12, 13, 14, 23, 24, 25, 26, 27, 28, 29, 30, 31, 32, 33, 34, 35, 36, 37, 38, 39, 40, 41, 42, 43, 44, 45, 46, 47, 48, 49] (by decide +kernel) (by decide +kernel)
set_option maxRecDepth 20000 in
theorem gX9_lays_X9_below : GoodIn wsX9_lays (wsV RX9 93 RX9 yX9_below wsX9_below) := goodIn_app (goodIn_of _ (by decide +kernel)) ggX9_lays_X9_below
set_option maxRecDepth 20000 in
theorem ggX9_lays_X9_isThere : GoodIn wsX9_lays wsX9_isThere := goodIn_r _ [18, 1, 8, 9, 10, 6, 11, 2, 12, 13, 14, 23, 24, 25, 26, 27, 28, 29, 30, 31, 32, 33, 34, 35, 36, 37, 38, 39, 40, 41, 42, 43, 44, 45, 46, 47, 48, 49] (by decide +kernel) (by decide +kernel)
set_option maxRecDepth 20000 in
theorem gX9_lays_X9_isThere : GoodIn wsX9_lays (wsV RX9 96 RX9 yX9_isThere wsX9_isThere) := goodIn_app (goodIn_of _ (by decide +kernel)) ggX9_lays_X9_isThere
set_option maxRecDepth 20000 in
theorem ggX9_lays_X9_entry : GoodIn wsX9_lays wsX9_entry := goodIn_r _ [21, 22] (by decide +kernel) (by decide +kernel)
set_option maxRecDepth 20000 in
theorem gX9_lays_X9_entry : GoodIn wsX9_lays (va_wsS RX9 100 yX9_entry wsX9_entry) := goodIn_app (goodIn_of _ (by decide +kernel)) ggX9_lays_X9_entry
theorem dX9_lays_0 : decode cX9_lays 0 = .ok (.aload_n 0, 1) := by decide +kernel
theorem dX9_lays_1 : decode cX9_lays 1 = .ok (.iload_n 1, 1) := by decide +kernel
theorem dX9_lays_2 : decode cX9_lays 2 = .ok (.iload_n 2, 1) := by decide +kernel
theorem dX9_lays_3 : decode cX9_lays 3 = .ok (.invokevirtual 93, 3) := by decide +kernel
theorem dX9_lays_6 : decode cX9_lays 6 = .ok (.istore 4, 2) := by decide +kernel
theorem dX9_lays_8 : decode cX9_lays 8 = .ok (.aload_n 0, 1) := by decide +kernel
theorem dX9_lays_9 : decode cX9_lays 9 = .ok (.iload_n 1, 1) := by decide +kernel
theorem dX9_lays_10 : decode cX9_lays 10 = .ok (.iload 4, 2) := by decide +kernel
theorem dX9_lays_12 : decode cX9_lays 12 = .ok (.iload_n 2, 1) := by decide +kernel
theorem dX9_lays_13 : decode cX9_lays 13 = .ok (.invokevirtual 96, 3) := by decide +kernel
theorem dX9_lays_16 : decode cX9_lays 16 = .ok (.ifCond .ne 62, 3) := by decide +kernel
theorem dX9_lays_19 : decode cX9_lays 19 = .ok (.aload_n 0, 1) := by decide +kernel
theorem dX9_lays_20 : decode cX9_lays 20 = .ok (.getfield 13, 3) := by decide +kernel
theorem dX9_lays_23 : decode cX9_lays 23 = .ok (.iload_n 1, 1) := by decide +kernel
theorem dX9_lays_24 : decode cX9_lays 24 = .ok (.iaload, 1) := by decide +kernel
theorem dX9_lays_25 : decode cX9_lays 25 = .ok (.istore 5, 2) := by decide +kernel
theorem dX9_lays_27 : decode cX9_lays 27 = .ok (.iload 5, 2) := by decide +kernel
theorem dX9_lays_29 : decode cX9_lays 29 = .ok (.iload 4, 2) := by decide +kernel
theorem dX9_lays_31 : decode cX9_lays 31 = .ok (.if_icmp .le 37, 3) := by decide +kernel
theorem dX9_lays_34 : decode cX9_lays 34 = .ok (.aload_n 0, 1) := by decide +kernel
theorem dX9_lays_35 : decode cX9_lays 35 = .ok (.getfield 7, 3) := by decide +kernel
theorem dX9_lays_38 : decode cX9_lays 38 = .ok (.sipush 200, 3) := by decide +kernel
theorem dX9_lays_41 : decode cX9_lays 41 = .ok (.iload_n 1, 1) := by decide +kernel
theorem dX9_lays_42 : decode cX9_lays 42 = .ok (.imul, 1) := by decide +kernel
theorem dX9_lays_43 : decode cX9_lays 43 = .ok (.iload 5, 2) := by decide +kernel
theorem dX9_lays_45 : decode cX9_lays 45 = .ok (.iadd, 1) := by decide +kernel
theorem dX9_lays_46 : decode cX9_lays 46 = .ok (.aload_n 0, 1) := by decide +kernel
theorem dX9_lays_47 : decode cX9_lays 47 = .ok (.getfield 7, 3) := by decide +kernel
theorem dX9_lays_50 : decode cX9_lays 50 = .ok (.sipush 200, 3) := by decide +kernel
theorem dX9_lays_53 : decode cX9_lays 53 = .ok (.iload_n 1, 1) := by decide +kernel
theorem dX9_lays_54 : decode cX9_lays 54 = .ok (.imul, 1) := by decide +kernel
theorem dX9_lays_55 : decode cX9_lays 55 = .ok (.iload 5, 2) := by decide +kernel
theorem dX9_lays_57 : decode cX9_lays 57 = .ok (.iadd, 1) := by decide +kernel
theorem dX9_lays_58 : decode cX9_lays 58 = .ok (.iconst 1, 1) := by decide +kernel
theorem dX9_lays_59 : decode cX9_lays 59 = .ok (.isub, 1) := by decide +kernel
theorem dX9_lays_60 : decode cX9_lays 60 = .ok (.iaload, 1) := by decide +kernel
theorem dX9_lays_61 : decode cX9_lays 61 = .ok (.iastore, 1) := by decide +kernel
theorem dX9_lays_62 : decode cX9_lays 62 = .ok (.iinc 5 (-1), 3) := by decide +kernel
theorem dX9_lays_65 : decode cX9_lays 65 = .ok (.goto (-38), 3) := by decide +kernel
theorem dX9_lays_68 : decode cX9_lays 68 = .ok (.aload_n 0, 1) := by decide +kernel
theorem dX9_lays_69 : decode cX9_lays 69 = .ok (.getfield 13, 3) := by decide +kernel
theorem dX9_lays_72 : decode cX9_lays 72 = .ok (.iload_n 1, 1) := by decide +kernel
theorem dX9_lays_73 : decode cX9_lays 73 = .ok (.dup2, 1) := by decide +kernel
theorem dX9_lays_74 : decode cX9_lays 74 = .ok (.iaload, 1) := by decide +kernel
theorem dX9_lays_75 : decode cX9_lays 75 = .ok (.iconst 1, 1) := by decide +kernel
theorem dX9_lays_76 : decode cX9_lays 76 = .ok (.iadd, 1) := by decide +kernel
theorem dX9_lays_77 : decode cX9_lays 77 = .ok (.iastore, 1) := by decide +kernel
theorem dX9_lays_78 : decode cX9_lays 78 = .ok (.aload_n 0, 1) := by decide +kernel
theorem dX9_lays_79 : decode cX9_lays 79 = .ok (.getfield 7, 3) := by decide +kernel
theorem dX9_lays_82 : decode cX9_lays 82 = .ok (.sipush 200, 3) := by decide +kernel
theorem dX9_lays_85 : decode cX9_lays 85 = .ok (.iload_n 1, 1) := by decide +kernel
theorem dX9_lays_86 : decode cX9_lays 86 = .ok (.imul, 1) := by decide +kernel
theorem dX9_lays_87 : decode cX9_lays 87 = .ok (.iload 4, 2) := by decide +kernel
theorem dX9_lays_89 : decode cX9_lays 89 = .ok (.iadd, 1) := by decide +kernel
theorem dX9_lays_90 : decode cX9_lays 90 = .ok (.iload_n 2, 1) := by decide +kernel
theorem dX9_lays_91 : decode cX9_lays 91 = .ok (.iload_n 3, 1) := by decide +kernel
theorem dX9_lays_92 : decode cX9_lays 92 = .ok (.invokestatic 100, 3) := by decide +kernel
theorem dX9_lays_95 : decode cX9_lays 95 = .ok (.iastore, 1) := by decide +kernel
theorem dX9_lays_96 : decode cX9_lays 96 = .ok (.return_, 1) := by decide +kernel
theorem dX9_goes_0 : decode cX9_goes 0 = .ok (.iload_n 3, 1) := by decide +kernel
theorem dX9_goes_1 : decode cX9_goes 1 = .ok (.istore 4, 2) := by decide +kernel
theorem dX9_goes_3 : decode cX9_goes 3 = .ok (.iload 4, 2) := by decide +kernel
theorem dX9_goes_5 : decode cX9_goes 5 = .ok (.aload_n 0, 1) := by decide +kernel
theorem dX9_goes_6 : decode cX9_goes 6 = .ok (.getfield 13, 3) := by decide +kernel
theorem dX9_goes_9 : decode cX9_goes 9 = .ok (.iload_n 1, 1) := by decide +kernel
theorem dX9_goes_10 : decode cX9_goes 10 = .ok (.iaload, 1) := by decide +kernel
theorem dX9_goes_11 : decode cX9_goes 11 = .ok (.if_icmp .ge 39, 3) := by decide +kernel
theorem dX9_goes_14 : decode cX9_goes 14 = .ok (.aload_n 0, 1) := by decide +kernel
theorem dX9_goes_15 : decode cX9_goes 15 = .ok (.getfield 7, 3) := by decide +kernel
theorem dX9_goes_18 : decode cX9_goes 18 = .ok (.sipush 200, 3) := by decide +kernel
theorem dX9_goes_21 : decode cX9_goes 21 = .ok (.iload_n 1, 1) := by decide +kernel
theorem dX9_goes_22 : decode cX9_goes 22 = .ok (.imul, 1) := by decide +kernel
theorem dX9_goes_23 : decode cX9_goes 23 = .ok (.iload_n 2, 1) := by decide +kernel
theorem dX9_goes_24 : decode cX9_goes 24 = .ok (.iadd, 1) := by decide +kernel
theorem dX9_goes_25 : decode cX9_goes 25 = .ok (.iload 4, 2) := by decide +kernel
theorem dX9_goes_27 : decode cX9_goes 27 = .ok (.iadd, 1) := by decide +kernel
theorem dX9_goes_28 : decode cX9_goes 28 = .ok (.iload_n 3, 1) := by decide +kernel
theorem dX9_goes_29 : decode cX9_goes 29 = .ok (.isub, 1) := by decide +kernel
theorem dX9_goes_30 : decode cX9_goes 30 = .ok (.aload_n 0, 1) := by decide +kernel
theorem dX9_goes_31 : decode cX9_goes 31 = .ok (.getfield 7, 3) := by decide +kernel
theorem dX9_goes_34 : decode cX9_goes 34 = .ok (.sipush 200, 3) := by decide +kernel
theorem dX9_goes_37 : decode cX9_goes 37 = .ok (.iload_n 1, 1) := by decide +kernel
theorem dX9_goes_38 : decode cX9_goes 38 = .ok (.imul, 1) := by decide +kernel
theorem dX9_goes_39 : decode cX9_goes 39 = .ok (.iload 4, 2) := by decide +kernel
theorem dX9_goes_41 : decode cX9_goes 41 = .ok (.iadd, 1) := by decide +kernel
theorem dX9_goes_42 : decode cX9_goes 42 = .ok (.iaload, 1) := by decide +kernel
theorem dX9_goes_43 : decode cX9_goes 43 = .ok (.iastore, 1) := by decide +kernel
theorem dX9_goes_44 : decode cX9_goes 44 = .ok (.iinc 4 1, 3) := by decide +kernel
theorem dX9_goes_47 : decode cX9_goes 47 = .ok (.goto (-44), 3) := by decide +kernel
theorem dX9_goes_50 : decode cX9_goes 50 = .ok (.aload_n 0, 1) := by decide +kernel
theorem dX9_goes_51 : decode cX9_goes 51 = .ok (.getfield 13, 3) := by decide +kernel
theorem dX9_goes_54 : decode cX9_goes 54 = .ok (.iload_n 1, 1) := by decide +kernel
theorem dX9_goes_55 : decode cX9_goes 55 = .ok (.dup2, 1) := by decide +kernel
theorem dX9_goes_56 : decode cX9_goes 56 = .ok (.iaload, 1) := by decide +kernel
theorem dX9_goes_57 : decode cX9_goes 57 = .ok (.iload_n 3, 1) := by decide +kernel
theorem dX9_goes_58 : decode cX9_goes 58 = .ok (.iload_n 2, 1) := by decide +kernel
theorem dX9_goes_59 : decode cX9_goes 59 = .ok (.isub, 1) := by decide +kernel
theorem dX9_goes_60 : decode cX9_goes 60 = .ok (.isub, 1) := by decide +kernel
theorem dX9_goes_61 : decode cX9_goes 61 = .ok (.iastore, 1) := by decide +kernel
theorem dX9_goes_62 : decode cX9_goes 62 = .ok (.return_, 1) := by decide +kernel
theorem dX9_keeps_0 : decode cX9_keeps 0 = .ok (.aload_n 0, 1) := by decide +kernel
theorem dX9_keeps_1 : decode cX9_keeps 1 = .ok (.getfield 103, 3) := by decide +kernel
theorem dX9_keeps_4 : decode cX9_keeps 4 = .ok (.bipush 12, 2) := by decide +kernel
theorem dX9_keeps_6 : decode cX9_keeps 6 = .ok (.if_icmp .ne 73, 3) := by decide +kernel
theorem dX9_keeps_9 : decode cX9_keeps 9 = .ok (.iconst 0, 1) := by decide +kernel
theorem dX9_keeps_10 : decode cX9_keeps 10 = .ok (.istore_n 1, 1) := by decide +kernel
theorem dX9_keeps_11 : decode cX9_keeps 11 = .ok (.iload_n 1, 1) := by decide +kernel
theorem dX9_keeps_12 : decode cX9_keeps 12 = .ok (.sipush 13200, 3) := by decide +kernel
theorem dX9_keeps_15 : decode cX9_keeps 15 = .ok (.if_icmp .ge 25, 3) := by decide +kernel
theorem dX9_keeps_18 : decode cX9_keeps 18 = .ok (.aload_n 0, 1) := by decide +kernel
theorem dX9_keeps_19 : decode cX9_keeps 19 = .ok (.getfield 16, 3) := by decide +kernel
theorem dX9_keeps_22 : decode cX9_keeps 22 = .ok (.iload_n 1, 1) := by decide +kernel
theorem dX9_keeps_23 : decode cX9_keeps 23 = .ok (.aload_n 0, 1) := by decide +kernel
theorem dX9_keeps_24 : decode cX9_keeps 24 = .ok (.getfield 16, 3) := by decide +kernel
theorem dX9_keeps_27 : decode cX9_keeps 27 = .ok (.iload_n 1, 1) := by decide +kernel
theorem dX9_keeps_28 : decode cX9_keeps 28 = .ok (.sipush 1200, 3) := by decide +kernel
theorem dX9_keeps_31 : decode cX9_keeps 31 = .ok (.iadd, 1) := by decide +kernel
theorem dX9_keeps_32 : decode cX9_keeps 32 = .ok (.iaload, 1) := by decide +kernel
theorem dX9_keeps_33 : decode cX9_keeps 33 = .ok (.iastore, 1) := by decide +kernel
theorem dX9_keeps_34 : decode cX9_keeps 34 = .ok (.iinc 1 1, 3) := by decide +kernel
theorem dX9_keeps_37 : decode cX9_keeps 37 = .ok (.goto (-26), 3) := by decide +kernel
theorem dX9_keeps_40 : decode cX9_keeps 40 = .ok (.iconst 0, 1) := by decide +kernel
theorem dX9_keeps_41 : decode cX9_keeps 41 = .ok (.istore_n 1, 1) := by decide +kernel
theorem dX9_keeps_42 : decode cX9_keeps 42 = .ok (.iload_n 1, 1) := by decide +kernel
theorem dX9_keeps_43 : decode cX9_keeps 43 = .ok (.bipush 66, 2) := by decide +kernel
theorem dX9_keeps_45 : decode cX9_keeps 45 = .ok (.if_icmp .ge 24, 3) := by decide +kernel
theorem dX9_keeps_48 : decode cX9_keeps 48 = .ok (.aload_n 0, 1) := by decide +kernel
theorem dX9_keeps_49 : decode cX9_keeps 49 = .ok (.getfield 19, 3) := by decide +kernel
theorem dX9_keeps_52 : decode cX9_keeps 52 = .ok (.iload_n 1, 1) := by decide +kernel
theorem dX9_keeps_53 : decode cX9_keeps 53 = .ok (.aload_n 0, 1) := by decide +kernel
theorem dX9_keeps_54 : decode cX9_keeps 54 = .ok (.getfield 19, 3) := by decide +kernel
theorem dX9_keeps_57 : decode cX9_keeps 57 = .ok (.iload_n 1, 1) := by decide +kernel
theorem dX9_keeps_58 : decode cX9_keeps 58 = .ok (.bipush 6, 2) := by decide +kernel
theorem dX9_keeps_60 : decode cX9_keeps 60 = .ok (.iadd, 1) := by decide +kernel
theorem dX9_keeps_61 : decode cX9_keeps 61 = .ok (.iaload, 1) := by decide +kernel
theorem dX9_keeps_62 : decode cX9_keeps 62 = .ok (.iastore, 1) := by decide +kernel
theorem dX9_keeps_63 : decode cX9_keeps 63 = .ok (.iinc 1 1, 3) := by decide +kernel
theorem dX9_keeps_66 : decode cX9_keeps 66 = .ok (.goto (-24), 3) := by decide +kernel
theorem dX9_keeps_69 : decode cX9_keeps 69 = .ok (.aload_n 0, 1) := by decide +kernel
theorem dX9_keeps_70 : decode cX9_keeps 70 = .ok (.dup, 1) := by decide +kernel
theorem dX9_keeps_71 : decode cX9_keeps 71 = .ok (.getfield 103, 3) := by decide +kernel
theorem dX9_keeps_74 : decode cX9_keeps 74 = .ok (.iconst 1, 1) := by decide +kernel
theorem dX9_keeps_75 : decode cX9_keeps 75 = .ok (.isub, 1) := by decide +kernel
theorem dX9_keeps_76 : decode cX9_keeps 76 = .ok (.putfield 103, 3) := by decide +kernel
theorem dX9_keeps_79 : decode cX9_keeps 79 = .ok (.iconst 0, 1) := by decide +kernel
theorem dX9_keeps_80 : decode cX9_keeps 80 = .ok (.istore_n 1, 1) := by decide +kernel
theorem dX9_keeps_81 : decode cX9_keeps 81 = .ok (.iload_n 1, 1) := by decide +kernel
theorem dX9_keeps_82 : decode cX9_keeps 82 = .ok (.sipush 1200, 3) := by decide +kernel
theorem dX9_keeps_85 : decode cX9_keeps 85 = .ok (.if_icmp .ge 30, 3) := by decide +kernel
theorem dX9_keeps_88 : decode cX9_keeps 88 = .ok (.aload_n 0, 1) := by decide +kernel
theorem dX9_keeps_89 : decode cX9_keeps 89 = .ok (.getfield 16, 3) := by decide +kernel
theorem dX9_keeps_92 : decode cX9_keeps 92 = .ok (.sipush 1200, 3) := by decide +kernel
theorem dX9_keeps_95 : decode cX9_keeps 95 = .ok (.aload_n 0, 1) := by decide +kernel
theorem dX9_keeps_96 : decode cX9_keeps 96 = .ok (.getfield 103, 3) := by decide +kernel
theorem dX9_keeps_99 : decode cX9_keeps 99 = .ok (.imul, 1) := by decide +kernel
theorem dX9_keeps_100 : decode cX9_keeps 100 = .ok (.iload_n 1, 1) := by decide +kernel
theorem dX9_keeps_101 : decode cX9_keeps 101 = .ok (.iadd, 1) := by decide +kernel
theorem dX9_keeps_102 : decode cX9_keeps 102 = .ok (.aload_n 0, 1) := by decide +kernel
theorem dX9_keeps_103 : decode cX9_keeps 103 = .ok (.getfield 7, 3) := by decide +kernel
theorem dX9_keeps_106 : decode cX9_keeps 106 = .ok (.iload_n 1, 1) := by decide +kernel
theorem dX9_keeps_107 : decode cX9_keeps 107 = .ok (.iaload, 1) := by decide +kernel
theorem dX9_keeps_108 : decode cX9_keeps 108 = .ok (.iastore, 1) := by decide +kernel
theorem dX9_keeps_109 : decode cX9_keeps 109 = .ok (.iinc 1 1, 3) := by decide +kernel
theorem dX9_keeps_112 : decode cX9_keeps 112 = .ok (.goto (-31), 3) := by decide +kernel
theorem dX9_keeps_115 : decode cX9_keeps 115 = .ok (.iconst 0, 1) := by decide +kernel
theorem dX9_keeps_116 : decode cX9_keeps 116 = .ok (.istore_n 1, 1) := by decide +kernel
theorem dX9_keeps_117 : decode cX9_keeps 117 = .ok (.iload_n 1, 1) := by decide +kernel
theorem dX9_keeps_118 : decode cX9_keeps 118 = .ok (.bipush 6, 2) := by decide +kernel
theorem dX9_keeps_120 : decode cX9_keeps 120 = .ok (.if_icmp .ge 29, 3) := by decide +kernel
theorem dX9_keeps_123 : decode cX9_keeps 123 = .ok (.aload_n 0, 1) := by decide +kernel
theorem dX9_keeps_124 : decode cX9_keeps 124 = .ok (.getfield 19, 3) := by decide +kernel
theorem dX9_keeps_127 : decode cX9_keeps 127 = .ok (.bipush 6, 2) := by decide +kernel
theorem dX9_keeps_129 : decode cX9_keeps 129 = .ok (.aload_n 0, 1) := by decide +kernel
theorem dX9_keeps_130 : decode cX9_keeps 130 = .ok (.getfield 103, 3) := by decide +kernel
theorem dX9_keeps_133 : decode cX9_keeps 133 = .ok (.imul, 1) := by decide +kernel
theorem dX9_keeps_134 : decode cX9_keeps 134 = .ok (.iload_n 1, 1) := by decide +kernel
theorem dX9_keeps_135 : decode cX9_keeps 135 = .ok (.iadd, 1) := by decide +kernel
theorem dX9_keeps_136 : decode cX9_keeps 136 = .ok (.aload_n 0, 1) := by decide +kernel
theorem dX9_keeps_137 : decode cX9_keeps 137 = .ok (.getfield 13, 3) := by decide +kernel
theorem dX9_keeps_140 : decode cX9_keeps 140 = .ok (.iload_n 1, 1) := by decide +kernel
theorem dX9_keeps_141 : decode cX9_keeps 141 = .ok (.iaload, 1) := by decide +kernel
theorem dX9_keeps_142 : decode cX9_keeps 142 = .ok (.iastore, 1) := by decide +kernel
theorem dX9_keeps_143 : decode cX9_keeps 143 = .ok (.iinc 1 1, 3) := by decide +kernel
theorem dX9_keeps_146 : decode cX9_keeps 146 = .ok (.goto (-29), 3) := by decide +kernel
theorem dX9_keeps_149 : decode cX9_keeps 149 = .ok (.aload_n 0, 1) := by decide +kernel
theorem dX9_keeps_150 : decode cX9_keeps 150 = .ok (.dup, 1) := by decide +kernel
theorem dX9_keeps_151 : decode cX9_keeps 151 = .ok (.getfield 103, 3) := by decide +kernel
theorem dX9_keeps_154 : decode cX9_keeps 154 = .ok (.iconst 1, 1) := by decide +kernel
theorem dX9_keeps_155 : decode cX9_keeps 155 = .ok (.iadd, 1) := by decide +kernel
theorem dX9_keeps_156 : decode cX9_keeps 156 = .ok (.putfield 103, 3) := by decide +kernel
theorem dX9_keeps_159 : decode cX9_keeps 159 = .ok (.return_, 1) := by decide +kernel
set_option maxRecDepth 20000 in
theorem ggX9_put_X9_isMap : GoodIn wsX9_put wsX9_isMap := goodIn_r _ [10, 11, 12, 13, 9, 14] (by decide +kernel) (by decide +kernel)
set_option maxRecDepth 20000 in
theorem gX9_put_X9_isMap : GoodIn wsX9_put (va_wsS RX9 107 yX9_isMap wsX9_isMap) := goodIn_app (goodIn_of _ (by decide +kernel)) ggX9_put_X9_isMap
set_option maxRecDepth 20000 in
theorem ggX9_put_X9_isKey : GoodIn wsX9_put wsX9_isKey := goodIn_r _ [17, 18, 19, 12, 13, 9, 14] (by decide +kernel) (by decide +kernel)
set_option maxRecDepth 20000 in
theorem gX9_put_X9_isKey : GoodIn wsX9_put (va_wsS RX9 76 yX9_isKey wsX9_isKey) := goodIn_app (goodIn_of _ (by decide +kernel)) ggX9_put_X9_isKey
set_option maxRecDepth 20000 in
theorem ggX9_put_X9_in : GoodIn wsX9_put wsX9_in := goodIn_r _ [14] (by decide +kernel) (by decide +kernel)
set_option maxRecDepth 20000 in
theorem gX9_put_X9_in : GoodIn wsX9_put (va_wsS RX9 68 yX9_in wsX9_in) := goodIn_app (goodIn_of _ (by decide +kernel)) ggX9_put_X9_in
set_option maxRecDepth 20000 in
theorem ggX9_put_X9_refuses : GoodIn wsX9_put wsX9_refuses := goodIn_r _ [23, 24, 3, 64, 65, 66, 67, 68, 69, 70, 71, 72, 73, 74, 75, 76, 77, 78, 79, 80, 81, 82, 83, 84, 85, 86, 87, 88, 89, 90] (by decide +kernel) (by decide +kernel)
set_option maxRecDepth 20000 in
theorem gX9_put_X9_refuses : GoodIn wsX9_put (wsV RX9 110 RX9 yX9_refuses wsX9_refuses) := goodIn_app (goodIn_of _ (by decide +kernel)) ggX9_put_X9_refuses
set_option maxRecDepth 20000 in
theorem ggX9_put_X9_below : GoodIn wsX9_put wsX9_below := goodIn_r _ [28, 4, 29, 30, 31, 9, 32, 33, 34, 35, 36, 64, 65, 66, 67, 68, 69, 70, 71, 72, 73, 74, 75, 76, 77, 78, 79, 80, 81, 82, 83, 84, 85, 86, 87, 88, 89, 90] (by decide +kernel) (by decide +kernel)
set_option maxRecDepth 20000 in
theorem gX9_put_X9_below : GoodIn wsX9_put (wsV RX9 93 RX9 yX9_below wsX9_below) := goodIn_app (goodIn_of _ (by decide +kernel)) ggX9_put_X9_below
set_option maxRecDepth 20000 in
theorem ggX9_put_X9_isThere : GoodIn wsX9_put wsX9_isThere := goodIn_r _ [40, 4, 29, 30, 31, 9, 32, 33, 34, 35, 36, 64, 65, 66, 67, 68, 69, 70, 71, 72, 73, 74, 75, 76, 77, 78, 79, 80, 81, 82, 83, 84, 85, 86, 87, 88, 89, 90] (by decide +kernel) (by decide +kernel)
set_option maxRecDepth 20000 in
theorem gX9_put_X9_isThere : GoodIn wsX9_put (wsV RX9 96 RX9 yX9_isThere wsX9_isThere) := goodIn_app (goodIn_of _ (by decide +kernel)) ggX9_put_X9_isThere
set_option maxRecDepth 20000 in
theorem ggX9_put_X9_keeps : GoodIn wsX9_put wsX9_keeps := goodIn_r _ [44, 45, 46, 47, 33, 4, 64, 65, 66, 67, 68, 69, 70, 71, 72, 73, 74, 75, 76, 77, 78, 79, 80, 81, 82, 83, 84, 85, 86, 87, 88, 89, 90] (by decide +kernel) (by decide +kernel)
set_option maxRecDepth 20000 in
theorem gX9_put_X9_keeps : GoodIn wsX9_put (wsV RX9 114 RX9 yX9_keeps wsX9_keeps) := goodIn_app (goodIn_of _ (by decide +kernel)) ggX9_put_X9_keeps
set_option maxRecDepth 20000 in
theorem ggX9_put_X9_valueAt : GoodIn wsX9_put wsX9_valueAt := goodIn_r _ [51, 33, 52, 53, 9, 54, 55, 56, 64, 65, 66, 67, 68, 69, 70, 71, 72, 73, 74, 75, 76, 77, 78, 79, 80, 81, 82, 83, 84, 85, 86, 87, 88, 89, 90] (by decide +kernel) (by decide +kernel)
set_option maxRecDepth 20000 in
theorem gX9_put_X9_valueAt : GoodIn wsX9_put (wsV RX9 117 RX9 yX9_valueAt wsX9_valueAt) := goodIn_app (goodIn_of _ (by decide +kernel)) ggX9_put_X9_valueAt
set_option maxRecDepth 20000 in
theorem ggX9_put_X9_lays : GoodIn wsX9_put wsX9_lays := goodIn_r _ [60, 4, 33, 25, 26, 27, 9, 28, 29, 30, 31, 32, 34, 35, 36, 37, 38, 39, 40, 61, 62, 63, 56, 64, 65, 66, 67, 68, 69, 70, 71, 72, 73, 74, 75, 76, 77, 78, 79, 80, 81, 82, 83, 84, 85, 86, 87, 88, 89, 90] (by decide +kernel) (by decide +kernel)
set_option maxRecDepth 20000 in
theorem gX9_put_X9_lays : GoodIn wsX9_put (wsV RX9 121 RX9 yX9_lays wsX9_lays) := goodIn_app (goodIn_of _ (by decide +kernel)) ggX9_put_X9_lays
theorem dX9_put_0 : decode cX9_put 0 = .ok (.iload_n 1, 1) := by decide +kernel
theorem dX9_put_1 : decode cX9_put 1 = .ok (.invokestatic 107, 3) := by decide +kernel
theorem dX9_put_4 : decode cX9_put 4 = .ok (.ifCond .eq 24, 3) := by decide +kernel
theorem dX9_put_7 : decode cX9_put 7 = .ok (.iload_n 2, 1) := by decide +kernel
theorem dX9_put_8 : decode cX9_put 8 = .ok (.invokestatic 76, 3) := by decide +kernel
theorem dX9_put_11 : decode cX9_put 11 = .ok (.ifCond .eq 17, 3) := by decide +kernel
theorem dX9_put_14 : decode cX9_put 14 = .ok (.iload_n 3, 1) := by decide +kernel
theorem dX9_put_15 : decode cX9_put 15 = .ok (.i2l, 1) := by decide +kernel
theorem dX9_put_16 : decode cX9_put 16 = .ok (.ldc2_w 62, 3) := by decide +kernel
theorem dX9_put_19 : decode cX9_put 19 = .ok (.ldc2_w 64, 3) := by decide +kernel
theorem dX9_put_22 : decode cX9_put 22 = .ok (.invokestatic 68, 3) := by decide +kernel
theorem dX9_put_25 : decode cX9_put 25 = .ok (.ifCond .ne 10, 3) := by decide +kernel
theorem dX9_put_28 : decode cX9_put 28 = .ok (.aload_n 0, 1) := by decide +kernel
theorem dX9_put_29 : decode cX9_put 29 = .ok (.ldc 61, 2) := by decide +kernel
theorem dX9_put_31 : decode cX9_put 31 = .ok (.invokevirtual 110, 3) := by decide +kernel
theorem dX9_put_34 : decode cX9_put 34 = .ok (.ireturn, 1) := by decide +kernel
theorem dX9_put_35 : decode cX9_put 35 = .ok (.aload_n 0, 1) := by decide +kernel
theorem dX9_put_36 : decode cX9_put 36 = .ok (.iload_n 1, 1) := by decide +kernel
theorem dX9_put_37 : decode cX9_put 37 = .ok (.iload_n 2, 1) := by decide +kernel
theorem dX9_put_38 : decode cX9_put 38 = .ok (.invokevirtual 93, 3) := by decide +kernel
theorem dX9_put_41 : decode cX9_put 41 = .ok (.istore 4, 2) := by decide +kernel
theorem dX9_put_43 : decode cX9_put 43 = .ok (.aload_n 0, 1) := by decide +kernel
theorem dX9_put_44 : decode cX9_put 44 = .ok (.iload_n 1, 1) := by decide +kernel
theorem dX9_put_45 : decode cX9_put 45 = .ok (.iload 4, 2) := by decide +kernel
theorem dX9_put_47 : decode cX9_put 47 = .ok (.iload_n 2, 1) := by decide +kernel
theorem dX9_put_48 : decode cX9_put 48 = .ok (.invokevirtual 96, 3) := by decide +kernel
theorem dX9_put_51 : decode cX9_put 51 = .ok (.istore 5, 2) := by decide +kernel
theorem dX9_put_53 : decode cX9_put 53 = .ok (.iload 5, 2) := by decide +kernel
theorem dX9_put_55 : decode cX9_put 55 = .ok (.ifCond .ne 22, 3) := by decide +kernel
theorem dX9_put_58 : decode cX9_put 58 = .ok (.aload_n 0, 1) := by decide +kernel
theorem dX9_put_59 : decode cX9_put 59 = .ok (.getfield 13, 3) := by decide +kernel
theorem dX9_put_62 : decode cX9_put 62 = .ok (.iload_n 1, 1) := by decide +kernel
theorem dX9_put_63 : decode cX9_put 63 = .ok (.iaload, 1) := by decide +kernel
theorem dX9_put_64 : decode cX9_put 64 = .ok (.sipush 200, 3) := by decide +kernel
theorem dX9_put_67 : decode cX9_put 67 = .ok (.if_icmp .ne 10, 3) := by decide +kernel
theorem dX9_put_70 : decode cX9_put 70 = .ok (.aload_n 0, 1) := by decide +kernel
theorem dX9_put_71 : decode cX9_put 71 = .ok (.ldc 113, 2) := by decide +kernel
theorem dX9_put_73 : decode cX9_put 73 = .ok (.invokevirtual 110, 3) := by decide +kernel
theorem dX9_put_76 : decode cX9_put 76 = .ok (.ireturn, 1) := by decide +kernel
theorem dX9_put_77 : decode cX9_put 77 = .ok (.aload_n 0, 1) := by decide +kernel
theorem dX9_put_78 : decode cX9_put 78 = .ok (.invokevirtual 114, 3) := by decide +kernel
theorem dX9_put_81 : decode cX9_put 81 = .ok (.iload 5, 2) := by decide +kernel
theorem dX9_put_83 : decode cX9_put 83 = .ok (.ifCond .eq 13, 3) := by decide +kernel
theorem dX9_put_86 : decode cX9_put 86 = .ok (.aload_n 0, 1) := by decide +kernel
theorem dX9_put_87 : decode cX9_put 87 = .ok (.iload_n 1, 1) := by decide +kernel
theorem dX9_put_88 : decode cX9_put 88 = .ok (.iload 4, 2) := by decide +kernel
theorem dX9_put_90 : decode cX9_put 90 = .ok (.invokevirtual 117, 3) := by decide +kernel
theorem dX9_put_93 : decode cX9_put 93 = .ok (.goto 5, 3) := by decide +kernel
theorem dX9_put_96 : decode cX9_put 96 = .ok (.ldc 120, 2) := by decide +kernel
theorem dX9_put_98 : decode cX9_put 98 = .ok (.istore 6, 2) := by decide +kernel
theorem dX9_put_100 : decode cX9_put 100 = .ok (.aload_n 0, 1) := by decide +kernel
theorem dX9_put_101 : decode cX9_put 101 = .ok (.iload_n 1, 1) := by decide +kernel
theorem dX9_put_102 : decode cX9_put 102 = .ok (.iload_n 2, 1) := by decide +kernel
theorem dX9_put_103 : decode cX9_put 103 = .ok (.iload_n 3, 1) := by decide +kernel
theorem dX9_put_104 : decode cX9_put 104 = .ok (.invokevirtual 121, 3) := by decide +kernel
theorem dX9_put_107 : decode cX9_put 107 = .ok (.iload 6, 2) := by decide +kernel
theorem dX9_put_109 : decode cX9_put 109 = .ok (.ireturn, 1) := by decide +kernel
set_option maxRecDepth 20000 in
theorem ggX9_remove_X9_isMap : GoodIn wsX9_remove wsX9_isMap := goodIn_r _ [6, 7, 8, 9, 5, 10] (by decide +kernel) (by decide +kernel)
set_option maxRecDepth 20000 in
theorem gX9_remove_X9_isMap : GoodIn wsX9_remove (va_wsS RX9 107 yX9_isMap wsX9_isMap) := goodIn_app (goodIn_of _ (by decide +kernel)) ggX9_remove_X9_isMap
set_option maxRecDepth 20000 in
theorem ggX9_remove_X9_isKey : GoodIn wsX9_remove wsX9_isKey := goodIn_r _ [13, 14, 15, 8, 9, 5, 10] (by decide +kernel) (by decide +kernel)
set_option maxRecDepth 20000 in
theorem gX9_remove_X9_isKey : GoodIn wsX9_remove (va_wsS RX9 76 yX9_isKey wsX9_isKey) := goodIn_app (goodIn_of _ (by decide +kernel)) ggX9_remove_X9_isKey
set_option maxRecDepth 20000 in
theorem ggX9_remove_X9_refuses : GoodIn wsX9_remove wsX9_refuses := goodIn_r _ [19, 20, 1, 58, 59, 60, 61, 62, 63, 64, 65, 66, 67, 68, 69, 70, 71, 72, 73, 74, 75, 76, 77, 78, 79, 80, 81, 82, 83, 84] (by decide +kernel) (by decide +kernel)
set_option maxRecDepth 20000 in
theorem gX9_remove_X9_refuses : GoodIn wsX9_remove (wsV RX9 110 RX9 yX9_refuses wsX9_refuses) := goodIn_app (goodIn_of _ (by decide +kernel)) ggX9_remove_X9_refuses
set_option maxRecDepth 20000 in
theorem ggX9_remove_X9_below : GoodIn wsX9_remove wsX9_below := goodIn_r _ [24, 25, 26, 27, 28, 5, 29, 30, 31, 32, 33, 58, 59, 60, 61, 62, 63, 64, 65, 66, 67, 68, 69, 70, 71, 72, 73, 74, 75, 76, 77, 78, 79, 80, 81, 82, 83, 84] (by decide +kernel) (by decide +kernel)
set_option maxRecDepth 20000 in
theorem gX9_remove_X9_below : GoodIn wsX9_remove (wsV RX9 93 RX9 yX9_below wsX9_below) := goodIn_app (goodIn_of _ (by decide +kernel)) ggX9_remove_X9_below
set_option maxRecDepth 20000 in
theorem ggX9_remove_X9_isThere : GoodIn wsX9_remove wsX9_isThere := goodIn_r _ [37, 25, 26, 27, 28, 5, 29, 30, 31, 32, 33, 58, 59, 60, 61, 62, 63, 64, 65, 66, 67, 68, 69, 70, 71, 72, 73, 74, 75, 76, 77, 78, 79, 80, 81, 82, 83, 84] (by decide +kernel) (by decide +kernel)
set_option maxRecDepth 20000 in
theorem gX9_remove_X9_isThere : GoodIn wsX9_remove (wsV RX9 96 RX9 yX9_isThere wsX9_isThere) := goodIn_app (goodIn_of _ (by decide +kernel)) ggX9_remove_X9_isThere
set_option maxRecDepth 20000 in
theorem ggX9_remove_X9_keeps : GoodIn wsX9_remove wsX9_keeps := goodIn_r _ [41, 42, 43, 44, 30, 25, 58, 59, 60, 61, 62, 63, 64, 65, 66, 67, 68, 69, 70, 71, 72, 73, 74, 75, 76, 77, 78, 79, 80, 81, 82, 83, 84] (by decide +kernel) (by decide +kernel)
set_option maxRecDepth 20000 in
theorem gX9_remove_X9_keeps : GoodIn wsX9_remove (wsV RX9 114 RX9 yX9_keeps wsX9_keeps) := goodIn_app (goodIn_of _ (by decide +kernel)) ggX9_remove_X9_keeps
set_option maxRecDepth 20000 in
theorem ggX9_remove_X9_valueAt : GoodIn wsX9_remove wsX9_valueAt := goodIn_r _ [48, 30, 49, 50, 5, 51, 52, 53, 58, 59, 60, 61, 62, 63, 64, 65, 66, 67, 68, 69, 70, 71, 72, 73, 74, 75, 76, 77, 78, 79, 80, 81, 82, 83, 84] (by decide +kernel) (by decide +kernel)
set_option maxRecDepth 20000 in
theorem gX9_remove_X9_valueAt : GoodIn wsX9_remove (wsV RX9 117 RX9 yX9_valueAt wsX9_valueAt) := goodIn_app (goodIn_of _ (by decide +kernel)) ggX9_remove_X9_valueAt
set_option maxRecDepth 20000 in
theorem ggX9_remove_X9_goes : GoodIn wsX9_remove wsX9_goes := goodIn_r _ [57, 25, 30, 58, 59, 60, 61, 62, 63, 64, 65, 66, 67, 68, 69, 70, 71, 72, 73, 74, 75, 76, 77, 78, 79, 80, 81, 82, 83, 84] (by decide +kernel) (by decide +kernel)
set_option maxRecDepth 20000 in
theorem gX9_remove_X9_goes : GoodIn wsX9_remove (wsV RX9 126 RX9 yX9_goes wsX9_goes) := goodIn_app (goodIn_of _ (by decide +kernel)) ggX9_remove_X9_goes
theorem dX9_remove_0 : decode cX9_remove 0 = .ok (.iload_n 1, 1) := by decide +kernel
theorem dX9_remove_1 : decode cX9_remove 1 = .ok (.invokestatic 107, 3) := by decide +kernel
theorem dX9_remove_4 : decode cX9_remove 4 = .ok (.ifCond .eq 10, 3) := by decide +kernel
theorem dX9_remove_7 : decode cX9_remove 7 = .ok (.iload_n 2, 1) := by decide +kernel
theorem dX9_remove_8 : decode cX9_remove 8 = .ok (.invokestatic 76, 3) := by decide +kernel
theorem dX9_remove_11 : decode cX9_remove 11 = .ok (.ifCond .ne 10, 3) := by decide +kernel
theorem dX9_remove_14 : decode cX9_remove 14 = .ok (.aload_n 0, 1) := by decide +kernel
theorem dX9_remove_15 : decode cX9_remove 15 = .ok (.ldc 61, 2) := by decide +kernel
theorem dX9_remove_17 : decode cX9_remove 17 = .ok (.invokevirtual 110, 3) := by decide +kernel
theorem dX9_remove_20 : decode cX9_remove 20 = .ok (.ireturn, 1) := by decide +kernel
theorem dX9_remove_21 : decode cX9_remove 21 = .ok (.aload_n 0, 1) := by decide +kernel
theorem dX9_remove_22 : decode cX9_remove 22 = .ok (.iload_n 1, 1) := by decide +kernel
theorem dX9_remove_23 : decode cX9_remove 23 = .ok (.iload_n 2, 1) := by decide +kernel
theorem dX9_remove_24 : decode cX9_remove 24 = .ok (.invokevirtual 93, 3) := by decide +kernel
theorem dX9_remove_27 : decode cX9_remove 27 = .ok (.istore_n 3, 1) := by decide +kernel
theorem dX9_remove_28 : decode cX9_remove 28 = .ok (.aload_n 0, 1) := by decide +kernel
theorem dX9_remove_29 : decode cX9_remove 29 = .ok (.iload_n 1, 1) := by decide +kernel
theorem dX9_remove_30 : decode cX9_remove 30 = .ok (.iload_n 3, 1) := by decide +kernel
theorem dX9_remove_31 : decode cX9_remove 31 = .ok (.iload_n 2, 1) := by decide +kernel
theorem dX9_remove_32 : decode cX9_remove 32 = .ok (.invokevirtual 96, 3) := by decide +kernel
theorem dX9_remove_35 : decode cX9_remove 35 = .ok (.ifCond .ne 10, 3) := by decide +kernel
theorem dX9_remove_38 : decode cX9_remove 38 = .ok (.aload_n 0, 1) := by decide +kernel
theorem dX9_remove_39 : decode cX9_remove 39 = .ok (.ldc 125, 2) := by decide +kernel
theorem dX9_remove_41 : decode cX9_remove 41 = .ok (.invokevirtual 110, 3) := by decide +kernel
theorem dX9_remove_44 : decode cX9_remove 44 = .ok (.ireturn, 1) := by decide +kernel
theorem dX9_remove_45 : decode cX9_remove 45 = .ok (.aload_n 0, 1) := by decide +kernel
theorem dX9_remove_46 : decode cX9_remove 46 = .ok (.invokevirtual 114, 3) := by decide +kernel
theorem dX9_remove_49 : decode cX9_remove 49 = .ok (.aload_n 0, 1) := by decide +kernel
theorem dX9_remove_50 : decode cX9_remove 50 = .ok (.iload_n 1, 1) := by decide +kernel
theorem dX9_remove_51 : decode cX9_remove 51 = .ok (.iload_n 3, 1) := by decide +kernel
theorem dX9_remove_52 : decode cX9_remove 52 = .ok (.invokevirtual 117, 3) := by decide +kernel
theorem dX9_remove_55 : decode cX9_remove 55 = .ok (.istore 4, 2) := by decide +kernel
theorem dX9_remove_57 : decode cX9_remove 57 = .ok (.aload_n 0, 1) := by decide +kernel
theorem dX9_remove_58 : decode cX9_remove 58 = .ok (.iload_n 1, 1) := by decide +kernel
theorem dX9_remove_59 : decode cX9_remove 59 = .ok (.iload_n 3, 1) := by decide +kernel
theorem dX9_remove_60 : decode cX9_remove 60 = .ok (.iload_n 3, 1) := by decide +kernel
theorem dX9_remove_61 : decode cX9_remove 61 = .ok (.iconst 1, 1) := by decide +kernel
theorem dX9_remove_62 : decode cX9_remove 62 = .ok (.iadd, 1) := by decide +kernel
theorem dX9_remove_63 : decode cX9_remove 63 = .ok (.invokevirtual 126, 3) := by decide +kernel
theorem dX9_remove_66 : decode cX9_remove 66 = .ok (.iload 4, 2) := by decide +kernel
theorem dX9_remove_68 : decode cX9_remove 68 = .ok (.ireturn, 1) := by decide +kernel
set_option maxRecDepth 20000 in
theorem ggX9_get_X9_isMap : GoodIn wsX9_get wsX9_isMap := goodIn_r _ [6, 7, 8, 9, 5, 10] (by decide +kernel) (by decide +kernel)
set_option maxRecDepth 20000 in
theorem gX9_get_X9_isMap : GoodIn wsX9_get (va_wsS RX9 107 yX9_isMap wsX9_isMap) := goodIn_app (goodIn_of _ (by decide +kernel)) ggX9_get_X9_isMap
set_option maxRecDepth 20000 in
theorem ggX9_get_X9_isKey : GoodIn wsX9_get wsX9_isKey := goodIn_r _ [13, 14, 15, 8, 9, 5, 10] (by decide +kernel) (by decide +kernel)
set_option maxRecDepth 20000 in
theorem gX9_get_X9_isKey : GoodIn wsX9_get (va_wsS RX9 76 yX9_isKey wsX9_isKey) := goodIn_app (goodIn_of _ (by decide +kernel)) ggX9_get_X9_isKey
set_option maxRecDepth 20000 in
theorem ggX9_get_X9_refuses : GoodIn wsX9_get wsX9_refuses := goodIn_r _ [19, 20, 1, 47, 48, 49, 50, 51, 52, 53, 54, 55, 56, 57, 58, 59, 60, 61, 62, 63, 64, 65, 66, 67, 68, 69, 70, 71, 72, 73] (by decide +kernel) (by decide +kernel)
set_option maxRecDepth 20000 in
theorem gX9_get_X9_refuses : GoodIn wsX9_get (wsV RX9 110 RX9 yX9_refuses wsX9_refuses) := goodIn_app (goodIn_of _ (by decide +kernel)) ggX9_get_X9_refuses
set_option maxRecDepth 20000 in
theorem ggX9_get_X9_below : GoodIn wsX9_get wsX9_below := goodIn_r _ [24, 25, 26, 27, 28, 5, 29, 30, 31, 32, 33, 47, 48, 49, 50, 51, 52, 53, 54, 55, 56, 57, 58, 59, 60, 61, 62, 63, 64, 65, 66, 67, 68, 69, 70, 71, 72, 73] (by decide +kernel) (by decide +kernel)
set_option maxRecDepth 20000 in
theorem gX9_get_X9_below : GoodIn wsX9_get (wsV RX9 93 RX9 yX9_below wsX9_below) := goodIn_app (goodIn_of _ (by decide +kernel)) ggX9_get_X9_below
set_option maxRecDepth 20000 in
theorem ggX9_get_X9_isThere : GoodIn wsX9_get wsX9_isThere := goodIn_r _ [37, 25, 26, 27, 28, 5, 29, 30, 31, 32, 33, 47, 48, 49, 50, 51, 52, 53, 54, 55, 56, 57, 58, 59, 60, 61, 62, 63, 64, 65, 66, 67, 68, 69, 70, 71, 72, 73] (by decide +kernel) (by decide +kernel)
set_option maxRecDepth 20000 in
theorem gX9_get_X9_isThere : GoodIn wsX9_get (wsV RX9 96 RX9 yX9_isThere wsX9_isThere) := goodIn_app (goodIn_of _ (by decide +kernel)) ggX9_get_X9_isThere
set_option maxRecDepth 20000 in
theorem ggX9_get_X9_valueAt : GoodIn wsX9_get wsX9_valueAt := goodIn_r _ [41, 30, 42, 43, 5, 44, 45, 46, 47, 48, 49, 50, 51, 52, 53, 54, 55, 56, 57, 58, 59, 60, 61, 62, 63, 64, 65, 66, 67, 68, 69, 70, 71, 72, 73] (by decide +kernel) (by decide +kernel)
set_option maxRecDepth 20000 in
theorem gX9_get_X9_valueAt : GoodIn wsX9_get (wsV RX9 117 RX9 yX9_valueAt wsX9_valueAt) := goodIn_app (goodIn_of _ (by decide +kernel)) ggX9_get_X9_valueAt
theorem dX9_get_0 : decode cX9_get 0 = .ok (.iload_n 1, 1) := by decide +kernel
theorem dX9_get_1 : decode cX9_get 1 = .ok (.invokestatic 107, 3) := by decide +kernel
theorem dX9_get_4 : decode cX9_get 4 = .ok (.ifCond .eq 10, 3) := by decide +kernel
theorem dX9_get_7 : decode cX9_get 7 = .ok (.iload_n 2, 1) := by decide +kernel
theorem dX9_get_8 : decode cX9_get 8 = .ok (.invokestatic 76, 3) := by decide +kernel
theorem dX9_get_11 : decode cX9_get 11 = .ok (.ifCond .ne 10, 3) := by decide +kernel
theorem dX9_get_14 : decode cX9_get 14 = .ok (.aload_n 0, 1) := by decide +kernel
theorem dX9_get_15 : decode cX9_get 15 = .ok (.ldc 61, 2) := by decide +kernel
theorem dX9_get_17 : decode cX9_get 17 = .ok (.invokevirtual 110, 3) := by decide +kernel
theorem dX9_get_20 : decode cX9_get 20 = .ok (.ireturn, 1) := by decide +kernel
theorem dX9_get_21 : decode cX9_get 21 = .ok (.aload_n 0, 1) := by decide +kernel
theorem dX9_get_22 : decode cX9_get 22 = .ok (.iload_n 1, 1) := by decide +kernel
theorem dX9_get_23 : decode cX9_get 23 = .ok (.iload_n 2, 1) := by decide +kernel
theorem dX9_get_24 : decode cX9_get 24 = .ok (.invokevirtual 93, 3) := by decide +kernel
theorem dX9_get_27 : decode cX9_get 27 = .ok (.istore_n 3, 1) := by decide +kernel
theorem dX9_get_28 : decode cX9_get 28 = .ok (.aload_n 0, 1) := by decide +kernel
theorem dX9_get_29 : decode cX9_get 29 = .ok (.iload_n 1, 1) := by decide +kernel
theorem dX9_get_30 : decode cX9_get 30 = .ok (.iload_n 3, 1) := by decide +kernel
theorem dX9_get_31 : decode cX9_get 31 = .ok (.iload_n 2, 1) := by decide +kernel
theorem dX9_get_32 : decode cX9_get 32 = .ok (.invokevirtual 96, 3) := by decide +kernel
theorem dX9_get_35 : decode cX9_get 35 = .ok (.ifCond .eq 12, 3) := by decide +kernel
theorem dX9_get_38 : decode cX9_get 38 = .ok (.aload_n 0, 1) := by decide +kernel
theorem dX9_get_39 : decode cX9_get 39 = .ok (.iload_n 1, 1) := by decide +kernel
theorem dX9_get_40 : decode cX9_get 40 = .ok (.iload_n 3, 1) := by decide +kernel
theorem dX9_get_41 : decode cX9_get 41 = .ok (.invokevirtual 117, 3) := by decide +kernel
theorem dX9_get_44 : decode cX9_get 44 = .ok (.goto 5, 3) := by decide +kernel
theorem dX9_get_47 : decode cX9_get 47 = .ok (.ldc 120, 2) := by decide +kernel
theorem dX9_get_49 : decode cX9_get 49 = .ok (.ireturn, 1) := by decide +kernel
set_option maxRecDepth 20000 in
theorem ggX9_size_X9_isMap : GoodIn wsX9_size wsX9_isMap := goodIn_r _ [6, 7, 8, 9, 5, 10] (by decide +kernel) (by decide +kernel)
set_option maxRecDepth 20000 in
theorem gX9_size_X9_isMap : GoodIn wsX9_size (va_wsS RX9 107 yX9_isMap wsX9_isMap) := goodIn_app (goodIn_of _ (by decide +kernel)) ggX9_size_X9_isMap
set_option maxRecDepth 20000 in
theorem ggX9_size_X9_refuses : GoodIn wsX9_size wsX9_refuses := goodIn_r _ [14, 15, 2, 16, 17, 18, 19, 20, 21, 22, 23, 24, 25, 26, 27, 28, 29, 30, 31, 32, 33, 34, 35, 36, 37, 38, 39, 40, 41, 42] (by decide +kernel) (by decide +kernel)
set_option maxRecDepth 20000 in
theorem gX9_size_X9_refuses : GoodIn wsX9_size (wsV RX9 110 RX9 yX9_refuses wsX9_refuses) := goodIn_app (goodIn_of _ (by decide +kernel)) ggX9_size_X9_refuses
theorem dX9_size_0 : decode cX9_size 0 = .ok (.iload_n 1, 1) := by decide +kernel
theorem dX9_size_1 : decode cX9_size 1 = .ok (.invokestatic 107, 3) := by decide +kernel
theorem dX9_size_4 : decode cX9_size 4 = .ok (.ifCond .eq 12, 3) := by decide +kernel
theorem dX9_size_7 : decode cX9_size 7 = .ok (.aload_n 0, 1) := by decide +kernel
theorem dX9_size_8 : decode cX9_size 8 = .ok (.getfield 13, 3) := by decide +kernel
theorem dX9_size_11 : decode cX9_size 11 = .ok (.iload_n 1, 1) := by decide +kernel
theorem dX9_size_12 : decode cX9_size 12 = .ok (.iaload, 1) := by decide +kernel
theorem dX9_size_13 : decode cX9_size 13 = .ok (.goto 9, 3) := by decide +kernel
theorem dX9_size_16 : decode cX9_size 16 = .ok (.aload_n 0, 1) := by decide +kernel
theorem dX9_size_17 : decode cX9_size 17 = .ok (.ldc 61, 2) := by decide +kernel
theorem dX9_size_19 : decode cX9_size 19 = .ok (.invokevirtual 110, 3) := by decide +kernel
theorem dX9_size_22 : decode cX9_size 22 = .ok (.ireturn, 1) := by decide +kernel
set_option maxRecDepth 20000 in
theorem ggX9_rank_X9_isMap : GoodIn wsX9_rank wsX9_isMap := goodIn_r _ [7, 8, 9, 10, 6, 11] (by decide +kernel) (by decide +kernel)
set_option maxRecDepth 20000 in
theorem gX9_rank_X9_isMap : GoodIn wsX9_rank (va_wsS RX9 107 yX9_isMap wsX9_isMap) := goodIn_app (goodIn_of _ (by decide +kernel)) ggX9_rank_X9_isMap
set_option maxRecDepth 20000 in
theorem ggX9_rank_X9_in : GoodIn wsX9_rank wsX9_in := goodIn_r _ [11] (by decide +kernel) (by decide +kernel)
set_option maxRecDepth 20000 in
theorem gX9_rank_X9_in : GoodIn wsX9_rank (va_wsS RX9 68 yX9_in wsX9_in) := goodIn_app (goodIn_of _ (by decide +kernel)) ggX9_rank_X9_in
set_option maxRecDepth 20000 in
theorem ggX9_rank_X9_below : GoodIn wsX9_rank wsX9_below := goodIn_r _ [15, 16, 17, 18, 19, 6, 20, 21, 22, 23, 24, 30, 31, 32, 33, 34, 35, 36, 37, 38, 39, 40, 41, 42, 43, 44, 45, 46, 47, 48, 49, 50, 51, 52, 53, 54, 55, 56] (by decide +kernel) (by decide +kernel)
set_option maxRecDepth 20000 in
theorem gX9_rank_X9_below : GoodIn wsX9_rank (wsV RX9 93 RX9 yX9_below wsX9_below) := goodIn_app (goodIn_of _ (by decide +kernel)) ggX9_rank_X9_below
set_option maxRecDepth 20000 in
theorem ggX9_rank_X9_refuses : GoodIn wsX9_rank wsX9_refuses := goodIn_r _ [28, 29, 3, 30, 31, 32, 33, 34, 35, 36, 37, 38, 39, 40, 41, 42, 43, 44, 45, 46, 47, 48, 49, 50, 51, 52, 53, 54, 55, 56] (by decide +kernel) (by decide +kernel)
set_option maxRecDepth 20000 in
theorem gX9_rank_X9_refuses : GoodIn wsX9_rank (wsV RX9 110 RX9 yX9_refuses wsX9_refuses) := goodIn_app (goodIn_of _ (by decide +kernel)) ggX9_rank_X9_refuses
theorem dX9_rank_0 : decode cX9_rank 0 = .ok (.iload_n 1, 1) := by decide +kernel
theorem dX9_rank_1 : decode cX9_rank 1 = .ok (.invokestatic 107, 3) := by decide +kernel
theorem dX9_rank_4 : decode cX9_rank 4 = .ok (.ifCond .eq 26, 3) := by decide +kernel
theorem dX9_rank_7 : decode cX9_rank 7 = .ok (.iload_n 2, 1) := by decide +kernel
theorem dX9_rank_8 : decode cX9_rank 8 = .ok (.i2l, 1) := by decide +kernel
theorem dX9_rank_9 : decode cX9_rank 9 = .ok (.ldc2_w 129, 3) := by decide +kernel
theorem dX9_rank_12 : decode cX9_rank 12 = .ok (.ldc2_w 131, 3) := by decide +kernel
theorem dX9_rank_15 : decode cX9_rank 15 = .ok (.invokestatic 68, 3) := by decide +kernel
theorem dX9_rank_18 : decode cX9_rank 18 = .ok (.ifCond .eq 12, 3) := by decide +kernel
theorem dX9_rank_21 : decode cX9_rank 21 = .ok (.aload_n 0, 1) := by decide +kernel
theorem dX9_rank_22 : decode cX9_rank 22 = .ok (.iload_n 1, 1) := by decide +kernel
theorem dX9_rank_23 : decode cX9_rank 23 = .ok (.iload_n 2, 1) := by decide +kernel
theorem dX9_rank_24 : decode cX9_rank 24 = .ok (.invokevirtual 93, 3) := by decide +kernel
theorem dX9_rank_27 : decode cX9_rank 27 = .ok (.goto 9, 3) := by decide +kernel
theorem dX9_rank_30 : decode cX9_rank 30 = .ok (.aload_n 0, 1) := by decide +kernel
theorem dX9_rank_31 : decode cX9_rank 31 = .ok (.ldc 61, 2) := by decide +kernel
theorem dX9_rank_33 : decode cX9_rank 33 = .ok (.invokevirtual 110, 3) := by decide +kernel
theorem dX9_rank_36 : decode cX9_rank 36 = .ok (.ireturn, 1) := by decide +kernel
set_option maxRecDepth 20000 in
theorem ggX9_nth_X9_isMap : GoodIn wsX9_nth wsX9_isMap := goodIn_r _ [7, 8, 9, 10, 6, 11] (by decide +kernel) (by decide +kernel)
set_option maxRecDepth 20000 in
theorem gX9_nth_X9_isMap : GoodIn wsX9_nth (va_wsS RX9 107 yX9_isMap wsX9_isMap) := goodIn_app (goodIn_of _ (by decide +kernel)) ggX9_nth_X9_isMap
set_option maxRecDepth 20000 in
theorem ggX9_nth_X9_refuses : GoodIn wsX9_nth wsX9_refuses := goodIn_r _ [15, 16, 1, 25, 26, 27, 28, 29, 30, 31, 32, 33, 34, 35, 36, 37, 38, 39, 40, 41, 42, 43, 44, 45, 46, 47, 48, 49, 50, 51] (by decide +kernel) (by decide +kernel)
set_option maxRecDepth 20000 in
theorem gX9_nth_X9_refuses : GoodIn wsX9_nth (wsV RX9 110 RX9 yX9_refuses wsX9_refuses) := goodIn_app (goodIn_of _ (by decide +kernel)) ggX9_nth_X9_refuses
set_option maxRecDepth 20000 in
theorem ggX9_nth_X9_keyAt : GoodIn wsX9_nth wsX9_keyAt := goodIn_r _ [20, 21, 22, 23, 6, 24, 25, 26, 27, 28, 29, 30, 31, 32, 33, 34, 35, 36, 37, 38, 39, 40, 41, 42, 43, 44, 45, 46, 47, 48, 49, 50, 51] (by decide +kernel) (by decide +kernel)
set_option maxRecDepth 20000 in
theorem gX9_nth_X9_keyAt : GoodIn wsX9_nth (wsV RX9 89 RX9 yX9_keyAt wsX9_keyAt) := goodIn_app (goodIn_of _ (by decide +kernel)) ggX9_nth_X9_keyAt
theorem dX9_nth_0 : decode cX9_nth 0 = .ok (.iload_n 1, 1) := by decide +kernel
theorem dX9_nth_1 : decode cX9_nth 1 = .ok (.invokestatic 107, 3) := by decide +kernel
theorem dX9_nth_4 : decode cX9_nth 4 = .ok (.ifCond .eq 7, 3) := by decide +kernel
theorem dX9_nth_7 : decode cX9_nth 7 = .ok (.iload_n 2, 1) := by decide +kernel
theorem dX9_nth_8 : decode cX9_nth 8 = .ok (.ifCond .ge 10, 3) := by decide +kernel
theorem dX9_nth_11 : decode cX9_nth 11 = .ok (.aload_n 0, 1) := by decide +kernel
theorem dX9_nth_12 : decode cX9_nth 12 = .ok (.ldc 61, 2) := by decide +kernel
theorem dX9_nth_14 : decode cX9_nth 14 = .ok (.invokevirtual 110, 3) := by decide +kernel
theorem dX9_nth_17 : decode cX9_nth 17 = .ok (.ireturn, 1) := by decide +kernel
theorem dX9_nth_18 : decode cX9_nth 18 = .ok (.iload_n 2, 1) := by decide +kernel
theorem dX9_nth_19 : decode cX9_nth 19 = .ok (.aload_n 0, 1) := by decide +kernel
theorem dX9_nth_20 : decode cX9_nth 20 = .ok (.getfield 13, 3) := by decide +kernel
theorem dX9_nth_23 : decode cX9_nth 23 = .ok (.iload_n 1, 1) := by decide +kernel
theorem dX9_nth_24 : decode cX9_nth 24 = .ok (.iaload, 1) := by decide +kernel
theorem dX9_nth_25 : decode cX9_nth 25 = .ok (.if_icmp .ge 12, 3) := by decide +kernel
theorem dX9_nth_28 : decode cX9_nth 28 = .ok (.aload_n 0, 1) := by decide +kernel
theorem dX9_nth_29 : decode cX9_nth 29 = .ok (.iload_n 1, 1) := by decide +kernel
theorem dX9_nth_30 : decode cX9_nth 30 = .ok (.iload_n 2, 1) := by decide +kernel
theorem dX9_nth_31 : decode cX9_nth 31 = .ok (.invokevirtual 89, 3) := by decide +kernel
theorem dX9_nth_34 : decode cX9_nth 34 = .ok (.goto 5, 3) := by decide +kernel
theorem dX9_nth_37 : decode cX9_nth 37 = .ok (.ldc 120, 2) := by decide +kernel
theorem dX9_nth_39 : decode cX9_nth 39 = .ok (.ireturn, 1) := by decide +kernel
set_option maxRecDepth 20000 in
theorem ggX9_near_X9_isMap : GoodIn wsX9_near wsX9_isMap := goodIn_r _ [7, 8, 9, 10, 6, 11] (by decide +kernel) (by decide +kernel)
set_option maxRecDepth 20000 in
theorem gX9_near_X9_isMap : GoodIn wsX9_near (va_wsS RX9 107 yX9_isMap wsX9_isMap) := goodIn_app (goodIn_of _ (by decide +kernel)) ggX9_near_X9_isMap
set_option maxRecDepth 20000 in
theorem ggX9_near_X9_isKey : GoodIn wsX9_near wsX9_isKey := goodIn_r _ [14, 15, 16, 9, 10, 6, 11] (by decide +kernel) (by decide +kernel)
set_option maxRecDepth 20000 in
theorem gX9_near_X9_isKey : GoodIn wsX9_near (va_wsS RX9 76 yX9_isKey wsX9_isKey) := goodIn_app (goodIn_of _ (by decide +kernel)) ggX9_near_X9_isKey
set_option maxRecDepth 20000 in
theorem ggX9_near_X9_refuses : GoodIn wsX9_near wsX9_refuses := goodIn_r _ [20, 21, 1, 34, 35, 36, 37, 38, 39, 40, 41, 42, 43, 44, 45, 46, 47, 48, 49, 50, 51, 52, 53, 54, 55, 56, 57, 58, 59, 60] (by decide +kernel) (by decide +kernel)
set_option maxRecDepth 20000 in
theorem gX9_near_X9_refuses : GoodIn wsX9_near (wsV RX9 110 RX9 yX9_refuses wsX9_refuses) := goodIn_app (goodIn_of _ (by decide +kernel)) ggX9_near_X9_refuses
set_option maxRecDepth 20000 in
theorem ggX9_near_X9_below : GoodIn wsX9_near wsX9_below := goodIn_r _ [25, 2, 26, 27, 28, 6, 29, 30, 31, 32, 33, 34, 35, 36, 37, 38, 39, 40, 41, 42, 43, 44, 45, 46, 47, 48, 49, 50, 51, 52, 53, 54, 55, 56, 57, 58, 59, 60] (by decide +kernel) (by decide +kernel)
set_option maxRecDepth 20000 in
theorem gX9_near_X9_below : GoodIn wsX9_near (wsV RX9 93 RX9 yX9_below wsX9_below) := goodIn_app (goodIn_of _ (by decide +kernel)) ggX9_near_X9_below
set_option maxRecDepth 20000 in
theorem ggX9_near_X9_in : GoodIn wsX9_near wsX9_in := goodIn_r _ [11] (by decide +kernel) (by decide +kernel)
set_option maxRecDepth 20000 in
theorem gX9_near_X9_in : GoodIn wsX9_near (va_wsS RX9 68 yX9_in wsX9_in) := goodIn_app (goodIn_of _ (by decide +kernel)) ggX9_near_X9_in
set_option maxRecDepth 20000 in
theorem ggX9_near_X9_keyAt : GoodIn wsX9_near wsX9_keyAt := goodIn_r _ [29, 30, 31, 32, 6, 33, 34, 35, 36, 37, 38, 39, 40, 41, 42, 43, 44, 45, 46, 47, 48, 49, 50, 51, 52, 53, 54, 55, 56, 57, 58, 59, 60] (by decide +kernel) (by decide +kernel)
set_option maxRecDepth 20000 in
theorem gX9_near_X9_keyAt : GoodIn wsX9_near (wsV RX9 89 RX9 yX9_keyAt wsX9_keyAt) := goodIn_app (goodIn_of _ (by decide +kernel)) ggX9_near_X9_keyAt
theorem dX9_near_0 : decode cX9_near 0 = .ok (.iload_n 1, 1) := by decide +kernel
theorem dX9_near_1 : decode cX9_near 1 = .ok (.invokestatic 107, 3) := by decide +kernel
theorem dX9_near_4 : decode cX9_near 4 = .ok (.ifCond .eq 20, 3) := by decide +kernel
theorem dX9_near_7 : decode cX9_near 7 = .ok (.iload_n 2, 1) := by decide +kernel
theorem dX9_near_8 : decode cX9_near 8 = .ok (.invokestatic 76, 3) := by decide +kernel
theorem dX9_near_11 : decode cX9_near 11 = .ok (.ifCond .eq 13, 3) := by decide +kernel
theorem dX9_near_14 : decode cX9_near 14 = .ok (.iload_n 3, 1) := by decide +kernel
theorem dX9_near_15 : decode cX9_near 15 = .ok (.iconst (-1), 1) := by decide +kernel
theorem dX9_near_16 : decode cX9_near 16 = .ok (.if_icmp .eq 15, 3) := by decide +kernel
theorem dX9_near_19 : decode cX9_near 19 = .ok (.iload_n 3, 1) := by decide +kernel
theorem dX9_near_20 : decode cX9_near 20 = .ok (.iconst 1, 1) := by decide +kernel
theorem dX9_near_21 : decode cX9_near 21 = .ok (.if_icmp .eq 10, 3) := by decide +kernel
theorem dX9_near_24 : decode cX9_near 24 = .ok (.aload_n 0, 1) := by decide +kernel
theorem dX9_near_25 : decode cX9_near 25 = .ok (.ldc 61, 2) := by decide +kernel
theorem dX9_near_27 : decode cX9_near 27 = .ok (.invokevirtual 110, 3) := by decide +kernel
theorem dX9_near_30 : decode cX9_near 30 = .ok (.ireturn, 1) := by decide +kernel
theorem dX9_near_31 : decode cX9_near 31 = .ok (.iload_n 3, 1) := by decide +kernel
theorem dX9_near_32 : decode cX9_near 32 = .ok (.iconst 1, 1) := by decide +kernel
theorem dX9_near_33 : decode cX9_near 33 = .ok (.if_icmp .ne 12, 3) := by decide +kernel
theorem dX9_near_36 : decode cX9_near 36 = .ok (.aload_n 0, 1) := by decide +kernel
theorem dX9_near_37 : decode cX9_near 37 = .ok (.iload_n 1, 1) := by decide +kernel
theorem dX9_near_38 : decode cX9_near 38 = .ok (.iload_n 2, 1) := by decide +kernel
theorem dX9_near_39 : decode cX9_near 39 = .ok (.invokevirtual 93, 3) := by decide +kernel
theorem dX9_near_42 : decode cX9_near 42 = .ok (.goto 13, 3) := by decide +kernel
theorem dX9_near_45 : decode cX9_near 45 = .ok (.aload_n 0, 1) := by decide +kernel
theorem dX9_near_46 : decode cX9_near 46 = .ok (.iload_n 1, 1) := by decide +kernel
theorem dX9_near_47 : decode cX9_near 47 = .ok (.iload_n 2, 1) := by decide +kernel
theorem dX9_near_48 : decode cX9_near 48 = .ok (.iconst 1, 1) := by decide +kernel
theorem dX9_near_49 : decode cX9_near 49 = .ok (.iadd, 1) := by decide +kernel
theorem dX9_near_50 : decode cX9_near 50 = .ok (.invokevirtual 93, 3) := by decide +kernel
theorem dX9_near_53 : decode cX9_near 53 = .ok (.iconst 1, 1) := by decide +kernel
theorem dX9_near_54 : decode cX9_near 54 = .ok (.isub, 1) := by decide +kernel
theorem dX9_near_55 : decode cX9_near 55 = .ok (.istore 4, 2) := by decide +kernel
theorem dX9_near_57 : decode cX9_near 57 = .ok (.iload 4, 2) := by decide +kernel
theorem dX9_near_59 : decode cX9_near 59 = .ok (.i2l, 1) := by decide +kernel
theorem dX9_near_60 : decode cX9_near 60 = .ok (.lconst 0, 1) := by decide +kernel
theorem dX9_near_61 : decode cX9_near 61 = .ok (.aload_n 0, 1) := by decide +kernel
theorem dX9_near_62 : decode cX9_near 62 = .ok (.getfield 13, 3) := by decide +kernel
theorem dX9_near_65 : decode cX9_near 65 = .ok (.iload_n 1, 1) := by decide +kernel
theorem dX9_near_66 : decode cX9_near 66 = .ok (.iaload, 1) := by decide +kernel
theorem dX9_near_67 : decode cX9_near 67 = .ok (.iconst 1, 1) := by decide +kernel
theorem dX9_near_68 : decode cX9_near 68 = .ok (.isub, 1) := by decide +kernel
theorem dX9_near_69 : decode cX9_near 69 = .ok (.i2l, 1) := by decide +kernel
theorem dX9_near_70 : decode cX9_near 70 = .ok (.invokestatic 68, 3) := by decide +kernel
theorem dX9_near_73 : decode cX9_near 73 = .ok (.ifCond .eq 13, 3) := by decide +kernel
theorem dX9_near_76 : decode cX9_near 76 = .ok (.aload_n 0, 1) := by decide +kernel
theorem dX9_near_77 : decode cX9_near 77 = .ok (.iload_n 1, 1) := by decide +kernel
theorem dX9_near_78 : decode cX9_near 78 = .ok (.iload 4, 2) := by decide +kernel
theorem dX9_near_80 : decode cX9_near 80 = .ok (.invokevirtual 89, 3) := by decide +kernel
theorem dX9_near_83 : decode cX9_near 83 = .ok (.goto 5, 3) := by decide +kernel
theorem dX9_near_86 : decode cX9_near 86 = .ok (.ldc 120, 2) := by decide +kernel
theorem dX9_near_88 : decode cX9_near 88 = .ok (.ireturn, 1) := by decide +kernel
set_option maxRecDepth 20000 in
theorem ggX9_within_X9_isMap : GoodIn wsX9_within wsX9_isMap := goodIn_r _ [5, 6, 7, 8, 4, 9] (by decide +kernel) (by decide +kernel)
set_option maxRecDepth 20000 in
theorem gX9_within_X9_isMap : GoodIn wsX9_within (va_wsS RX9 107 yX9_isMap wsX9_isMap) := goodIn_app (goodIn_of _ (by decide +kernel)) ggX9_within_X9_isMap
set_option maxRecDepth 20000 in
theorem ggX9_within_X9_isRange : GoodIn wsX9_within wsX9_isRange := goodIn_r _ [12, 13, 14, 4, 15, 16, 17, 7, 8, 9] (by decide +kernel) (by decide +kernel)
set_option maxRecDepth 20000 in
theorem gX9_within_X9_isRange : GoodIn wsX9_within (va_wsS RX9 133 yX9_isRange wsX9_isRange) := goodIn_app (goodIn_of _ (by decide +kernel)) ggX9_within_X9_isRange
set_option maxRecDepth 20000 in
theorem ggX9_within_X9_below : GoodIn wsX9_within wsX9_below := goodIn_r _ [21, 22, 23, 24, 25, 4, 26, 27, 28, 29, 30, 36, 37, 38, 39, 40, 41, 42, 43, 44, 45, 46, 47, 48, 49, 50, 51, 52, 53, 54, 55, 56, 57, 58, 59, 60, 61, 62] (by decide +kernel) (by decide +kernel)
set_option maxRecDepth 20000 in
theorem gX9_within_X9_below : GoodIn wsX9_within (wsV RX9 93 RX9 yX9_below wsX9_below) := goodIn_app (goodIn_of _ (by decide +kernel)) ggX9_within_X9_below
set_option maxRecDepth 20000 in
theorem ggX9_within_X9_refuses : GoodIn wsX9_within wsX9_refuses := goodIn_r _ [34, 35, 1, 36, 37, 38, 39, 40, 41, 42, 43, 44, 45, 46, 47, 48, 49, 50, 51, 52, 53, 54, 55, 56, 57, 58, 59, 60, 61, 62] (by decide +kernel) (by decide +kernel)
set_option maxRecDepth 20000 in
theorem gX9_within_X9_refuses : GoodIn wsX9_within (wsV RX9 110 RX9 yX9_refuses wsX9_refuses) := goodIn_app (goodIn_of _ (by decide +kernel)) ggX9_within_X9_refuses
theorem dX9_within_0 : decode cX9_within 0 = .ok (.iload_n 1, 1) := by decide +kernel
theorem dX9_within_1 : decode cX9_within 1 = .ok (.invokestatic 107, 3) := by decide +kernel
theorem dX9_within_4 : decode cX9_within 4 = .ok (.ifCond .eq 29, 3) := by decide +kernel
theorem dX9_within_7 : decode cX9_within 7 = .ok (.iload_n 2, 1) := by decide +kernel
theorem dX9_within_8 : decode cX9_within 8 = .ok (.iload_n 3, 1) := by decide +kernel
theorem dX9_within_9 : decode cX9_within 9 = .ok (.invokestatic 133, 3) := by decide +kernel
theorem dX9_within_12 : decode cX9_within 12 = .ok (.ifCond .eq 21, 3) := by decide +kernel
theorem dX9_within_15 : decode cX9_within 15 = .ok (.aload_n 0, 1) := by decide +kernel
theorem dX9_within_16 : decode cX9_within 16 = .ok (.iload_n 1, 1) := by decide +kernel
theorem dX9_within_17 : decode cX9_within 17 = .ok (.iload_n 3, 1) := by decide +kernel
theorem dX9_within_18 : decode cX9_within 18 = .ok (.iconst 1, 1) := by decide +kernel
theorem dX9_within_19 : decode cX9_within 19 = .ok (.iadd, 1) := by decide +kernel
theorem dX9_within_20 : decode cX9_within 20 = .ok (.invokevirtual 93, 3) := by decide +kernel
theorem dX9_within_23 : decode cX9_within 23 = .ok (.aload_n 0, 1) := by decide +kernel
theorem dX9_within_24 : decode cX9_within 24 = .ok (.iload_n 1, 1) := by decide +kernel
theorem dX9_within_25 : decode cX9_within 25 = .ok (.iload_n 2, 1) := by decide +kernel
theorem dX9_within_26 : decode cX9_within 26 = .ok (.invokevirtual 93, 3) := by decide +kernel
theorem dX9_within_29 : decode cX9_within 29 = .ok (.isub, 1) := by decide +kernel
theorem dX9_within_30 : decode cX9_within 30 = .ok (.goto 9, 3) := by decide +kernel
theorem dX9_within_33 : decode cX9_within 33 = .ok (.aload_n 0, 1) := by decide +kernel
theorem dX9_within_34 : decode cX9_within 34 = .ok (.ldc 61, 2) := by decide +kernel
theorem dX9_within_36 : decode cX9_within 36 = .ok (.invokevirtual 110, 3) := by decide +kernel
theorem dX9_within_39 : decode cX9_within 39 = .ok (.ireturn, 1) := by decide +kernel
set_option maxRecDepth 20000 in
theorem ggX9_sum_X9_isMap : GoodIn wsX9_sum wsX9_isMap := goodIn_r _ [5, 6, 7, 8, 4, 9] (by decide +kernel) (by decide +kernel)
set_option maxRecDepth 20000 in
theorem gX9_sum_X9_isMap : GoodIn wsX9_sum (va_wsS RX9 107 yX9_isMap wsX9_isMap) := goodIn_app (goodIn_of _ (by decide +kernel)) ggX9_sum_X9_isMap
set_option maxRecDepth 20000 in
theorem ggX9_sum_X9_isRange : GoodIn wsX9_sum wsX9_isRange := goodIn_r _ [12, 13, 14, 4, 15, 16, 17, 7, 8, 9] (by decide +kernel) (by decide +kernel)
set_option maxRecDepth 20000 in
theorem gX9_sum_X9_isRange : GoodIn wsX9_sum (va_wsS RX9 133 yX9_isRange wsX9_isRange) := goodIn_app (goodIn_of _ (by decide +kernel)) ggX9_sum_X9_isRange
set_option maxRecDepth 20000 in
theorem ggX9_sum_X9_refuses : GoodIn wsX9_sum wsX9_refuses := goodIn_r _ [21, 22, 1, 45, 46, 47, 48, 49, 50, 51, 52, 53, 54, 55, 56, 57, 58, 59, 60, 61, 62, 63, 64, 65, 66, 67, 68, 69, 70, 71] (by decide +kernel) (by decide +kernel)
set_option maxRecDepth 20000 in
theorem gX9_sum_X9_refuses : GoodIn wsX9_sum (wsV RX9 110 RX9 yX9_refuses wsX9_refuses) := goodIn_app (goodIn_of _ (by decide +kernel)) ggX9_sum_X9_refuses
set_option maxRecDepth 20000 in
theorem ggX9_sum_X9_below : GoodIn wsX9_sum wsX9_below := goodIn_r _ [26, 27, 28, 29, 30, 4, 31, 32, 33, 34, 35, 45, 46, 47, 48, 49, 50, 51, 52, 53, 54, 55, 56, 57, 58, 59, 60, 61, 62, 63, 64, 65, 66, 67, 68, 69, 70, 71] (by decide +kernel) (by decide +kernel)
set_option maxRecDepth 20000 in
theorem gX9_sum_X9_below : GoodIn wsX9_sum (wsV RX9 93 RX9 yX9_below wsX9_below) := goodIn_app (goodIn_of _ (by decide +kernel)) ggX9_sum_X9_below
set_option maxRecDepth 20000 in
theorem ggX9_sum_X9_valueAt : GoodIn wsX9_sum wsX9_valueAt := goodIn_r _ [39, 32, 40, 41, 4, 42, 43, 44, 45, 46, 47, 48, 49, 50, 51, 52, 53, 54, 55, 56, 57, 58, 59, 60, 61, 62, 63, 64, 65, 66, 67, 68, 69, 70, 71] (by decide +kernel) (by decide +kernel)
set_option maxRecDepth 20000 in
theorem gX9_sum_X9_valueAt : GoodIn wsX9_sum (wsV RX9 117 RX9 yX9_valueAt wsX9_valueAt) := goodIn_app (goodIn_of _ (by decide +kernel)) ggX9_sum_X9_valueAt
theorem dX9_sum_0 : decode cX9_sum 0 = .ok (.iload_n 1, 1) := by decide +kernel
theorem dX9_sum_1 : decode cX9_sum 1 = .ok (.invokestatic 107, 3) := by decide +kernel
theorem dX9_sum_4 : decode cX9_sum 4 = .ok (.ifCond .eq 11, 3) := by decide +kernel
theorem dX9_sum_7 : decode cX9_sum 7 = .ok (.iload_n 2, 1) := by decide +kernel
theorem dX9_sum_8 : decode cX9_sum 8 = .ok (.iload_n 3, 1) := by decide +kernel
theorem dX9_sum_9 : decode cX9_sum 9 = .ok (.invokestatic 133, 3) := by decide +kernel
theorem dX9_sum_12 : decode cX9_sum 12 = .ok (.ifCond .ne 11, 3) := by decide +kernel
theorem dX9_sum_15 : decode cX9_sum 15 = .ok (.aload_n 0, 1) := by decide +kernel
theorem dX9_sum_16 : decode cX9_sum 16 = .ok (.ldc 61, 2) := by decide +kernel
theorem dX9_sum_18 : decode cX9_sum 18 = .ok (.invokevirtual 110, 3) := by decide +kernel
theorem dX9_sum_21 : decode cX9_sum 21 = .ok (.i2l, 1) := by decide +kernel
theorem dX9_sum_22 : decode cX9_sum 22 = .ok (.lreturn, 1) := by decide +kernel
theorem dX9_sum_23 : decode cX9_sum 23 = .ok (.lconst 0, 1) := by decide +kernel
theorem dX9_sum_24 : decode cX9_sum 24 = .ok (.lstore 4, 2) := by decide +kernel
theorem dX9_sum_26 : decode cX9_sum 26 = .ok (.aload_n 0, 1) := by decide +kernel
theorem dX9_sum_27 : decode cX9_sum 27 = .ok (.iload_n 1, 1) := by decide +kernel
theorem dX9_sum_28 : decode cX9_sum 28 = .ok (.iload_n 2, 1) := by decide +kernel
theorem dX9_sum_29 : decode cX9_sum 29 = .ok (.invokevirtual 93, 3) := by decide +kernel
theorem dX9_sum_32 : decode cX9_sum 32 = .ok (.istore 6, 2) := by decide +kernel
theorem dX9_sum_34 : decode cX9_sum 34 = .ok (.iload 6, 2) := by decide +kernel
theorem dX9_sum_36 : decode cX9_sum 36 = .ok (.aload_n 0, 1) := by decide +kernel
theorem dX9_sum_37 : decode cX9_sum 37 = .ok (.iload_n 1, 1) := by decide +kernel
theorem dX9_sum_38 : decode cX9_sum 38 = .ok (.iload_n 3, 1) := by decide +kernel
theorem dX9_sum_39 : decode cX9_sum 39 = .ok (.iconst 1, 1) := by decide +kernel
theorem dX9_sum_40 : decode cX9_sum 40 = .ok (.iadd, 1) := by decide +kernel
theorem dX9_sum_41 : decode cX9_sum 41 = .ok (.invokevirtual 93, 3) := by decide +kernel
theorem dX9_sum_44 : decode cX9_sum 44 = .ok (.if_icmp .ge 22, 3) := by decide +kernel
theorem dX9_sum_47 : decode cX9_sum 47 = .ok (.lload 4, 2) := by decide +kernel
theorem dX9_sum_49 : decode cX9_sum 49 = .ok (.aload_n 0, 1) := by decide +kernel
theorem dX9_sum_50 : decode cX9_sum 50 = .ok (.iload_n 1, 1) := by decide +kernel
theorem dX9_sum_51 : decode cX9_sum 51 = .ok (.iload 6, 2) := by decide +kernel
theorem dX9_sum_53 : decode cX9_sum 53 = .ok (.invokevirtual 117, 3) := by decide +kernel
theorem dX9_sum_56 : decode cX9_sum 56 = .ok (.i2l, 1) := by decide +kernel
theorem dX9_sum_57 : decode cX9_sum 57 = .ok (.ladd, 1) := by decide +kernel
theorem dX9_sum_58 : decode cX9_sum 58 = .ok (.lstore 4, 2) := by decide +kernel
theorem dX9_sum_60 : decode cX9_sum 60 = .ok (.iinc 6 1, 3) := by decide +kernel
theorem dX9_sum_63 : decode cX9_sum 63 = .ok (.goto (-29), 3) := by decide +kernel
theorem dX9_sum_66 : decode cX9_sum 66 = .ok (.lload 4, 2) := by decide +kernel
theorem dX9_sum_68 : decode cX9_sum 68 = .ok (.lreturn, 1) := by decide +kernel
set_option maxRecDepth 20000 in
theorem ggX9_most_X9_isMap : GoodIn wsX9_most wsX9_isMap := goodIn_r _ [6, 7, 8, 9, 5, 10] (by decide +kernel) (by decide +kernel)
set_option maxRecDepth 20000 in
theorem gX9_most_X9_isMap : GoodIn wsX9_most (va_wsS RX9 107 yX9_isMap wsX9_isMap) := goodIn_app (goodIn_of _ (by decide +kernel)) ggX9_most_X9_isMap
set_option maxRecDepth 20000 in
theorem ggX9_most_X9_isRange : GoodIn wsX9_most wsX9_isRange := goodIn_r _ [13, 14, 15, 5, 16, 17, 18, 8, 9, 10] (by decide +kernel) (by decide +kernel)
set_option maxRecDepth 20000 in
theorem gX9_most_X9_isRange : GoodIn wsX9_most (va_wsS RX9 133 yX9_isRange wsX9_isRange) := goodIn_app (goodIn_of _ (by decide +kernel)) ggX9_most_X9_isRange
set_option maxRecDepth 20000 in
theorem ggX9_most_X9_in : GoodIn wsX9_most wsX9_in := goodIn_r _ [10] (by decide +kernel) (by decide +kernel)
set_option maxRecDepth 20000 in
theorem gX9_most_X9_in : GoodIn wsX9_most (va_wsS RX9 68 yX9_in wsX9_in) := goodIn_app (goodIn_of _ (by decide +kernel)) ggX9_most_X9_in
set_option maxRecDepth 20000 in
theorem ggX9_most_X9_refuses : GoodIn wsX9_most wsX9_refuses := goodIn_r _ [22, 23, 1, 46, 47, 48, 49, 50, 51, 52, 53, 54, 55, 56, 57, 58, 59, 60, 61, 62, 63, 64, 65, 66, 67, 68, 69, 70, 71, 72] (by decide +kernel) (by decide +kernel)
set_option maxRecDepth 20000 in
theorem gX9_most_X9_refuses : GoodIn wsX9_most (wsV RX9 110 RX9 yX9_refuses wsX9_refuses) := goodIn_app (goodIn_of _ (by decide +kernel)) ggX9_most_X9_refuses
set_option maxRecDepth 20000 in
theorem ggX9_most_X9_below : GoodIn wsX9_most wsX9_below := goodIn_r _ [27, 28, 29, 30, 31, 5, 32, 33, 34, 35, 36, 46, 47, 48, 49, 50, 51, 52, 53, 54, 55, 56, 57, 58, 59, 60, 61, 62, 63, 64, 65, 66, 67, 68, 69, 70, 71, 72] (by decide +kernel) (by decide +kernel)
set_option maxRecDepth 20000 in
theorem gX9_most_X9_below : GoodIn wsX9_most (wsV RX9 93 RX9 yX9_below wsX9_below) := goodIn_app (goodIn_of _ (by decide +kernel)) ggX9_most_X9_below
set_option maxRecDepth 20000 in
theorem ggX9_most_X9_valueAt : GoodIn wsX9_most wsX9_valueAt := goodIn_r _ [40, 33, 41, 42, 5, 43, 44, 45, 46, 47, 48, 49, 50, 51, 52, 53, 54, 55, 56, 57, 58, 59, 60, 61, 62, 63, 64, 65, 66, 67, 68, 69, 70, 71, 72] (by decide +kernel) (by decide +kernel)
set_option maxRecDepth 20000 in
theorem gX9_most_X9_valueAt : GoodIn wsX9_most (wsV RX9 117 RX9 yX9_valueAt wsX9_valueAt) := goodIn_app (goodIn_of _ (by decide +kernel)) ggX9_most_X9_valueAt
theorem dX9_most_0 : decode cX9_most 0 = .ok (.iload_n 1, 1) := by decide +kernel
theorem dX9_most_1 : decode cX9_most 1 = .ok (.invokestatic 107, 3) := by decide +kernel
theorem dX9_most_4 : decode cX9_most 4 = .ok (.ifCond .eq 22, 3) := by decide +kernel
theorem dX9_most_7 : decode cX9_most 7 = .ok (.iload_n 2, 1) := by decide +kernel
theorem dX9_most_8 : decode cX9_most 8 = .ok (.iload_n 3, 1) := by decide +kernel
theorem dX9_most_9 : decode cX9_most 9 = .ok (.invokestatic 133, 3) := by decide +kernel
theorem dX9_most_12 : decode cX9_most 12 = .ok (.ifCond .eq 14, 3) := by decide +kernel
theorem dX9_most_15 : decode cX9_most 15 = .ok (.iload 4, 2) := by decide +kernel
theorem dX9_most_17 : decode cX9_most 17 = .ok (.i2l, 1) := by decide +kernel
theorem dX9_most_18 : decode cX9_most 18 = .ok (.lconst 0, 1) := by decide +kernel
theorem dX9_most_19 : decode cX9_most 19 = .ok (.lconst 1, 1) := by decide +kernel
theorem dX9_most_20 : decode cX9_most 20 = .ok (.invokestatic 68, 3) := by decide +kernel
theorem dX9_most_23 : decode cX9_most 23 = .ok (.ifCond .ne 10, 3) := by decide +kernel
theorem dX9_most_26 : decode cX9_most 26 = .ok (.aload_n 0, 1) := by decide +kernel
theorem dX9_most_27 : decode cX9_most 27 = .ok (.ldc 61, 2) := by decide +kernel
theorem dX9_most_29 : decode cX9_most 29 = .ok (.invokevirtual 110, 3) := by decide +kernel
theorem dX9_most_32 : decode cX9_most 32 = .ok (.ireturn, 1) := by decide +kernel
theorem dX9_most_33 : decode cX9_most 33 = .ok (.ldc 120, 2) := by decide +kernel
theorem dX9_most_35 : decode cX9_most 35 = .ok (.istore 5, 2) := by decide +kernel
theorem dX9_most_37 : decode cX9_most 37 = .ok (.aload_n 0, 1) := by decide +kernel
theorem dX9_most_38 : decode cX9_most 38 = .ok (.iload_n 1, 1) := by decide +kernel
theorem dX9_most_39 : decode cX9_most 39 = .ok (.iload_n 2, 1) := by decide +kernel
theorem dX9_most_40 : decode cX9_most 40 = .ok (.invokevirtual 93, 3) := by decide +kernel
theorem dX9_most_43 : decode cX9_most 43 = .ok (.istore 6, 2) := by decide +kernel
theorem dX9_most_45 : decode cX9_most 45 = .ok (.iload 6, 2) := by decide +kernel
theorem dX9_most_47 : decode cX9_most 47 = .ok (.aload_n 0, 1) := by decide +kernel
theorem dX9_most_48 : decode cX9_most 48 = .ok (.iload_n 1, 1) := by decide +kernel
theorem dX9_most_49 : decode cX9_most 49 = .ok (.iload_n 3, 1) := by decide +kernel
theorem dX9_most_50 : decode cX9_most 50 = .ok (.iconst 1, 1) := by decide +kernel
theorem dX9_most_51 : decode cX9_most 51 = .ok (.iadd, 1) := by decide +kernel
theorem dX9_most_52 : decode cX9_most 52 = .ok (.invokevirtual 93, 3) := by decide +kernel
theorem dX9_most_55 : decode cX9_most 55 = .ok (.if_icmp .ge 56, 3) := by decide +kernel
theorem dX9_most_58 : decode cX9_most 58 = .ok (.aload_n 0, 1) := by decide +kernel
theorem dX9_most_59 : decode cX9_most 59 = .ok (.iload_n 1, 1) := by decide +kernel
theorem dX9_most_60 : decode cX9_most 60 = .ok (.iload 6, 2) := by decide +kernel
theorem dX9_most_62 : decode cX9_most 62 = .ok (.invokevirtual 117, 3) := by decide +kernel
theorem dX9_most_65 : decode cX9_most 65 = .ok (.istore 7, 2) := by decide +kernel
theorem dX9_most_67 : decode cX9_most 67 = .ok (.iload 5, 2) := by decide +kernel
theorem dX9_most_69 : decode cX9_most 69 = .ok (.ldc 120, 2) := by decide +kernel
theorem dX9_most_71 : decode cX9_most 71 = .ok (.if_icmp .eq 25, 3) := by decide +kernel
theorem dX9_most_74 : decode cX9_most 74 = .ok (.iload 4, 2) := by decide +kernel
theorem dX9_most_76 : decode cX9_most 76 = .ok (.ifCond .ne 13, 3) := by decide +kernel
theorem dX9_most_79 : decode cX9_most 79 = .ok (.iload 7, 2) := by decide +kernel
theorem dX9_most_81 : decode cX9_most 81 = .ok (.iload 5, 2) := by decide +kernel
theorem dX9_most_83 : decode cX9_most 83 = .ok (.if_icmp .le 18, 3) := by decide +kernel
theorem dX9_most_86 : decode cX9_most 86 = .ok (.goto 10, 3) := by decide +kernel
theorem dX9_most_89 : decode cX9_most 89 = .ok (.iload 7, 2) := by decide +kernel
theorem dX9_most_91 : decode cX9_most 91 = .ok (.iload 5, 2) := by decide +kernel
theorem dX9_most_93 : decode cX9_most 93 = .ok (.if_icmp .ge 8, 3) := by decide +kernel
theorem dX9_most_96 : decode cX9_most 96 = .ok (.iload 7, 2) := by decide +kernel
theorem dX9_most_98 : decode cX9_most 98 = .ok (.goto 5, 3) := by decide +kernel
theorem dX9_most_101 : decode cX9_most 101 = .ok (.iload 5, 2) := by decide +kernel
theorem dX9_most_103 : decode cX9_most 103 = .ok (.istore 5, 2) := by decide +kernel
theorem dX9_most_105 : decode cX9_most 105 = .ok (.iinc 6 1, 3) := by decide +kernel
theorem dX9_most_108 : decode cX9_most 108 = .ok (.goto (-63), 3) := by decide +kernel
theorem dX9_most_111 : decode cX9_most 111 = .ok (.iload 5, 2) := by decide +kernel
theorem dX9_most_113 : decode cX9_most 113 = .ok (.ireturn, 1) := by decide +kernel
set_option maxRecDepth 20000 in
theorem ggX9_middle_X9_isMap : GoodIn wsX9_middle wsX9_isMap := goodIn_r _ [6, 7, 8, 9, 5, 10] (by decide +kernel) (by decide +kernel)
set_option maxRecDepth 20000 in
theorem gX9_middle_X9_isMap : GoodIn wsX9_middle (va_wsS RX9 107 yX9_isMap wsX9_isMap) := goodIn_app (goodIn_of _ (by decide +kernel)) ggX9_middle_X9_isMap
set_option maxRecDepth 20000 in
theorem ggX9_middle_X9_isRange : GoodIn wsX9_middle wsX9_isRange := goodIn_r _ [13, 14, 15, 5, 16, 17, 18, 8, 9, 10] (by decide +kernel) (by decide +kernel)
set_option maxRecDepth 20000 in
theorem gX9_middle_X9_isRange : GoodIn wsX9_middle (va_wsS RX9 133 yX9_isRange wsX9_isRange) := goodIn_app (goodIn_of _ (by decide +kernel)) ggX9_middle_X9_isRange
set_option maxRecDepth 20000 in
theorem ggX9_middle_X9_refuses : GoodIn wsX9_middle wsX9_refuses := goodIn_r _ [22, 23, 1, 37, 38, 39, 40, 41, 42, 43, 44, 45, 46, 47, 48, 49, 50, 51, 52, 53, 54, 55, 56, 57, 58, 59, 60, 61, 62, 63] (by decide +kernel) (by decide +kernel)
set_option maxRecDepth 20000 in
theorem gX9_middle_X9_refuses : GoodIn wsX9_middle (wsV RX9 110 RX9 yX9_refuses wsX9_refuses) := goodIn_app (goodIn_of _ (by decide +kernel)) ggX9_middle_X9_refuses
set_option maxRecDepth 20000 in
theorem ggX9_middle_X9_below : GoodIn wsX9_middle wsX9_below := goodIn_r _ [27, 28, 29, 30, 31, 5, 32, 33, 34, 35, 36, 37, 38, 39, 40, 41, 42, 43, 44, 45, 46, 47, 48, 49, 50, 51, 52, 53, 54, 55, 56, 57, 58, 59, 60, 61, 62, 63] (by decide +kernel) (by decide +kernel)
set_option maxRecDepth 20000 in
theorem gX9_middle_X9_below : GoodIn wsX9_middle (wsV RX9 93 RX9 yX9_below wsX9_below) := goodIn_app (goodIn_of _ (by decide +kernel)) ggX9_middle_X9_below
set_option maxRecDepth 20000 in
theorem ggX9_middle_X9_keyAt : GoodIn wsX9_middle wsX9_keyAt := goodIn_r _ [32, 33, 34, 35, 5, 36, 37, 38, 39, 40, 41, 42, 43, 44, 45, 46, 47, 48, 49, 50, 51, 52, 53, 54, 55, 56, 57, 58, 59, 60, 61, 62, 63] (by decide +kernel) (by decide +kernel)
set_option maxRecDepth 20000 in
theorem gX9_middle_X9_keyAt : GoodIn wsX9_middle (wsV RX9 89 RX9 yX9_keyAt wsX9_keyAt) := goodIn_app (goodIn_of _ (by decide +kernel)) ggX9_middle_X9_keyAt
theorem dX9_middle_0 : decode cX9_middle 0 = .ok (.iload_n 1, 1) := by decide +kernel
theorem dX9_middle_1 : decode cX9_middle 1 = .ok (.invokestatic 107, 3) := by decide +kernel
theorem dX9_middle_4 : decode cX9_middle 4 = .ok (.ifCond .eq 11, 3) := by decide +kernel
theorem dX9_middle_7 : decode cX9_middle 7 = .ok (.iload_n 2, 1) := by decide +kernel
theorem dX9_middle_8 : decode cX9_middle 8 = .ok (.iload_n 3, 1) := by decide +kernel
theorem dX9_middle_9 : decode cX9_middle 9 = .ok (.invokestatic 133, 3) := by decide +kernel
theorem dX9_middle_12 : decode cX9_middle 12 = .ok (.ifCond .ne 10, 3) := by decide +kernel
theorem dX9_middle_15 : decode cX9_middle 15 = .ok (.aload_n 0, 1) := by decide +kernel
theorem dX9_middle_16 : decode cX9_middle 16 = .ok (.ldc 61, 2) := by decide +kernel
theorem dX9_middle_18 : decode cX9_middle 18 = .ok (.invokevirtual 110, 3) := by decide +kernel
theorem dX9_middle_21 : decode cX9_middle 21 = .ok (.ireturn, 1) := by decide +kernel
theorem dX9_middle_22 : decode cX9_middle 22 = .ok (.aload_n 0, 1) := by decide +kernel
theorem dX9_middle_23 : decode cX9_middle 23 = .ok (.iload_n 1, 1) := by decide +kernel
theorem dX9_middle_24 : decode cX9_middle 24 = .ok (.iload_n 2, 1) := by decide +kernel
theorem dX9_middle_25 : decode cX9_middle 25 = .ok (.invokevirtual 93, 3) := by decide +kernel
theorem dX9_middle_28 : decode cX9_middle 28 = .ok (.istore 4, 2) := by decide +kernel
theorem dX9_middle_30 : decode cX9_middle 30 = .ok (.aload_n 0, 1) := by decide +kernel
theorem dX9_middle_31 : decode cX9_middle 31 = .ok (.iload_n 1, 1) := by decide +kernel
theorem dX9_middle_32 : decode cX9_middle 32 = .ok (.iload_n 3, 1) := by decide +kernel
theorem dX9_middle_33 : decode cX9_middle 33 = .ok (.iconst 1, 1) := by decide +kernel
theorem dX9_middle_34 : decode cX9_middle 34 = .ok (.iadd, 1) := by decide +kernel
theorem dX9_middle_35 : decode cX9_middle 35 = .ok (.invokevirtual 93, 3) := by decide +kernel
theorem dX9_middle_38 : decode cX9_middle 38 = .ok (.iload 4, 2) := by decide +kernel
theorem dX9_middle_40 : decode cX9_middle 40 = .ok (.isub, 1) := by decide +kernel
theorem dX9_middle_41 : decode cX9_middle 41 = .ok (.istore 5, 2) := by decide +kernel
theorem dX9_middle_43 : decode cX9_middle 43 = .ok (.iload 5, 2) := by decide +kernel
theorem dX9_middle_45 : decode cX9_middle 45 = .ok (.ifCond .ne 8, 3) := by decide +kernel
theorem dX9_middle_48 : decode cX9_middle 48 = .ok (.ldc 120, 2) := by decide +kernel
theorem dX9_middle_50 : decode cX9_middle 50 = .ok (.goto 17, 3) := by decide +kernel
theorem dX9_middle_53 : decode cX9_middle 53 = .ok (.aload_n 0, 1) := by decide +kernel
theorem dX9_middle_54 : decode cX9_middle 54 = .ok (.iload_n 1, 1) := by decide +kernel
theorem dX9_middle_55 : decode cX9_middle 55 = .ok (.iload 4, 2) := by decide +kernel
theorem dX9_middle_57 : decode cX9_middle 57 = .ok (.iload 5, 2) := by decide +kernel
theorem dX9_middle_59 : decode cX9_middle 59 = .ok (.iconst 1, 1) := by decide +kernel
theorem dX9_middle_60 : decode cX9_middle 60 = .ok (.isub, 1) := by decide +kernel
theorem dX9_middle_61 : decode cX9_middle 61 = .ok (.iconst 2, 1) := by decide +kernel
theorem dX9_middle_62 : decode cX9_middle 62 = .ok (.idiv, 1) := by decide +kernel
theorem dX9_middle_63 : decode cX9_middle 63 = .ok (.iadd, 1) := by decide +kernel
theorem dX9_middle_64 : decode cX9_middle 64 = .ok (.invokevirtual 89, 3) := by decide +kernel
theorem dX9_middle_67 : decode cX9_middle 67 = .ok (.ireturn, 1) := by decide +kernel
set_option maxRecDepth 20000 in
theorem ggX9_gap_X9_isMap : GoodIn wsX9_gap wsX9_isMap := goodIn_r _ [7, 8, 9, 10, 6, 11] (by decide +kernel) (by decide +kernel)
set_option maxRecDepth 20000 in
theorem gX9_gap_X9_isMap : GoodIn wsX9_gap (va_wsS RX9 107 yX9_isMap wsX9_isMap) := goodIn_app (goodIn_of _ (by decide +kernel)) ggX9_gap_X9_isMap
set_option maxRecDepth 20000 in
theorem ggX9_gap_X9_refuses : GoodIn wsX9_gap wsX9_refuses := goodIn_r _ [15, 16, 1, 25, 26, 27, 28, 29, 30, 31, 32, 33, 34, 35, 36, 37, 38, 39, 40, 41, 42, 43, 44, 45, 46, 47, 48, 49, 50, 51] (by decide +kernel) (by decide +kernel)
set_option maxRecDepth 20000 in
theorem gX9_gap_X9_refuses : GoodIn wsX9_gap (wsV RX9 110 RX9 yX9_refuses wsX9_refuses) := goodIn_app (goodIn_of _ (by decide +kernel)) ggX9_gap_X9_refuses
set_option maxRecDepth 20000 in
theorem ggX9_gap_X9_keyAt : GoodIn wsX9_gap wsX9_keyAt := goodIn_r _ [20, 21, 22, 23, 6, 24, 25, 26, 27, 28, 29, 30, 31, 32, 33, 34, 35, 36, 37, 38, 39, 40, 41, 42, 43, 44, 45, 46, 47, 48, 49, 50, 51] (by decide +kernel) (by decide +kernel)
set_option maxRecDepth 20000 in
theorem gX9_gap_X9_keyAt : GoodIn wsX9_gap (wsV RX9 89 RX9 yX9_keyAt wsX9_keyAt) := goodIn_app (goodIn_of _ (by decide +kernel)) ggX9_gap_X9_keyAt
theorem dX9_gap_0 : decode cX9_gap 0 = .ok (.iload_n 1, 1) := by decide +kernel
theorem dX9_gap_1 : decode cX9_gap 1 = .ok (.invokestatic 107, 3) := by decide +kernel
theorem dX9_gap_4 : decode cX9_gap 4 = .ok (.ifCond .ne 10, 3) := by decide +kernel
theorem dX9_gap_7 : decode cX9_gap 7 = .ok (.aload_n 0, 1) := by decide +kernel
theorem dX9_gap_8 : decode cX9_gap 8 = .ok (.ldc 61, 2) := by decide +kernel
theorem dX9_gap_10 : decode cX9_gap 10 = .ok (.invokevirtual 110, 3) := by decide +kernel
theorem dX9_gap_13 : decode cX9_gap 13 = .ok (.ireturn, 1) := by decide +kernel
theorem dX9_gap_14 : decode cX9_gap 14 = .ok (.ldc 120, 2) := by decide +kernel
theorem dX9_gap_16 : decode cX9_gap 16 = .ok (.istore_n 2, 1) := by decide +kernel
theorem dX9_gap_17 : decode cX9_gap 17 = .ok (.iconst 1, 1) := by decide +kernel
theorem dX9_gap_18 : decode cX9_gap 18 = .ok (.istore_n 3, 1) := by decide +kernel
theorem dX9_gap_19 : decode cX9_gap 19 = .ok (.iload_n 3, 1) := by decide +kernel
theorem dX9_gap_20 : decode cX9_gap 20 = .ok (.aload_n 0, 1) := by decide +kernel
theorem dX9_gap_21 : decode cX9_gap 21 = .ok (.getfield 13, 3) := by decide +kernel
theorem dX9_gap_24 : decode cX9_gap 24 = .ok (.iload_n 1, 1) := by decide +kernel
theorem dX9_gap_25 : decode cX9_gap 25 = .ok (.iaload, 1) := by decide +kernel
theorem dX9_gap_26 : decode cX9_gap 26 = .ok (.if_icmp .ge 39, 3) := by decide +kernel
theorem dX9_gap_29 : decode cX9_gap 29 = .ok (.aload_n 0, 1) := by decide +kernel
theorem dX9_gap_30 : decode cX9_gap 30 = .ok (.iload_n 1, 1) := by decide +kernel
theorem dX9_gap_31 : decode cX9_gap 31 = .ok (.iload_n 3, 1) := by decide +kernel
theorem dX9_gap_32 : decode cX9_gap 32 = .ok (.invokevirtual 89, 3) := by decide +kernel
theorem dX9_gap_35 : decode cX9_gap 35 = .ok (.aload_n 0, 1) := by decide +kernel
theorem dX9_gap_36 : decode cX9_gap 36 = .ok (.iload_n 1, 1) := by decide +kernel
theorem dX9_gap_37 : decode cX9_gap 37 = .ok (.iload_n 3, 1) := by decide +kernel
theorem dX9_gap_38 : decode cX9_gap 38 = .ok (.iconst 1, 1) := by decide +kernel
theorem dX9_gap_39 : decode cX9_gap 39 = .ok (.isub, 1) := by decide +kernel
theorem dX9_gap_40 : decode cX9_gap 40 = .ok (.invokevirtual 89, 3) := by decide +kernel
theorem dX9_gap_43 : decode cX9_gap 43 = .ok (.isub, 1) := by decide +kernel
theorem dX9_gap_44 : decode cX9_gap 44 = .ok (.istore 4, 2) := by decide +kernel
theorem dX9_gap_46 : decode cX9_gap 46 = .ok (.iload 4, 2) := by decide +kernel
theorem dX9_gap_48 : decode cX9_gap 48 = .ok (.iload_n 2, 1) := by decide +kernel
theorem dX9_gap_49 : decode cX9_gap 49 = .ok (.if_icmp .le 8, 3) := by decide +kernel
theorem dX9_gap_52 : decode cX9_gap 52 = .ok (.iload 4, 2) := by decide +kernel
theorem dX9_gap_54 : decode cX9_gap 54 = .ok (.goto 4, 3) := by decide +kernel
theorem dX9_gap_57 : decode cX9_gap 57 = .ok (.iload_n 2, 1) := by decide +kernel
theorem dX9_gap_58 : decode cX9_gap 58 = .ok (.istore_n 2, 1) := by decide +kernel
theorem dX9_gap_59 : decode cX9_gap 59 = .ok (.iinc 3 1, 3) := by decide +kernel
theorem dX9_gap_62 : decode cX9_gap 62 = .ok (.goto (-43), 3) := by decide +kernel
theorem dX9_gap_65 : decode cX9_gap 65 = .ok (.iload_n 2, 1) := by decide +kernel
theorem dX9_gap_66 : decode cX9_gap 66 = .ok (.ireturn, 1) := by decide +kernel
set_option maxRecDepth 20000 in
theorem ggX9_top_X9_isMap : GoodIn wsX9_top wsX9_isMap := goodIn_r _ [7, 8, 9, 10, 6, 11] (by decide +kernel) (by decide +kernel)
set_option maxRecDepth 20000 in
theorem gX9_top_X9_isMap : GoodIn wsX9_top (va_wsS RX9 107 yX9_isMap wsX9_isMap) := goodIn_app (goodIn_of _ (by decide +kernel)) ggX9_top_X9_isMap
set_option maxRecDepth 20000 in
theorem ggX9_top_X9_refuses : GoodIn wsX9_top wsX9_refuses := goodIn_r _ [15, 16, 1, 34, 35, 36, 37, 38, 39, 40, 41, 42, 43, 44, 45, 46, 47, 48, 49, 50, 51, 52, 53, 54, 55, 56, 57, 58, 59, 60] (by decide +kernel) (by decide +kernel)
set_option maxRecDepth 20000 in
theorem gX9_top_X9_refuses : GoodIn wsX9_top (wsV RX9 110 RX9 yX9_refuses wsX9_refuses) := goodIn_app (goodIn_of _ (by decide +kernel)) ggX9_top_X9_refuses
set_option maxRecDepth 20000 in
theorem ggX9_top_X9_valueAt : GoodIn wsX9_top wsX9_valueAt := goodIn_r _ [20, 21, 22, 23, 6, 24, 25, 26, 34, 35, 36, 37, 38, 39, 40, 41, 42, 43, 44, 45, 46, 47, 48, 49, 50, 51, 52, 53, 54, 55, 56, 57, 58, 59, 60] (by decide +kernel) (by decide +kernel)
set_option maxRecDepth 20000 in
theorem gX9_top_X9_valueAt : GoodIn wsX9_top (wsV RX9 117 RX9 yX9_valueAt wsX9_valueAt) := goodIn_app (goodIn_of _ (by decide +kernel)) ggX9_top_X9_valueAt
set_option maxRecDepth 20000 in
theorem ggX9_top_X9_keyAt : GoodIn wsX9_top wsX9_keyAt := goodIn_r _ [30, 21, 31, 32, 6, 33, 34, 35, 36, 37, 38, 39, 40, 41, 42, 43, 44, 45, 46, 47, 48, 49, 50, 51, 52, 53, 54, 55, 56, 57, 58, 59, 60] (by decide +kernel) (by decide +kernel)
set_option maxRecDepth 20000 in
theorem gX9_top_X9_keyAt : GoodIn wsX9_top (wsV RX9 89 RX9 yX9_keyAt wsX9_keyAt) := goodIn_app (goodIn_of _ (by decide +kernel)) ggX9_top_X9_keyAt
theorem dX9_top_0 : decode cX9_top 0 = .ok (.iload_n 1, 1) := by decide +kernel
theorem dX9_top_1 : decode cX9_top 1 = .ok (.invokestatic 107, 3) := by decide +kernel
theorem dX9_top_4 : decode cX9_top 4 = .ok (.ifCond .eq 7, 3) := by decide +kernel
theorem dX9_top_7 : decode cX9_top 7 = .ok (.iload_n 2, 1) := by decide +kernel
theorem dX9_top_8 : decode cX9_top 8 = .ok (.ifCond .ge 10, 3) := by decide +kernel
theorem dX9_top_11 : decode cX9_top 11 = .ok (.aload_n 0, 1) := by decide +kernel
theorem dX9_top_12 : decode cX9_top 12 = .ok (.ldc 61, 2) := by decide +kernel
theorem dX9_top_14 : decode cX9_top 14 = .ok (.invokevirtual 110, 3) := by decide +kernel
theorem dX9_top_17 : decode cX9_top 17 = .ok (.ireturn, 1) := by decide +kernel
theorem dX9_top_18 : decode cX9_top 18 = .ok (.iconst 0, 1) := by decide +kernel
theorem dX9_top_19 : decode cX9_top 19 = .ok (.istore_n 3, 1) := by decide +kernel
theorem dX9_top_20 : decode cX9_top 20 = .ok (.iload_n 3, 1) := by decide +kernel
theorem dX9_top_21 : decode cX9_top 21 = .ok (.aload_n 0, 1) := by decide +kernel
theorem dX9_top_22 : decode cX9_top 22 = .ok (.getfield 13, 3) := by decide +kernel
theorem dX9_top_25 : decode cX9_top 25 = .ok (.iload_n 1, 1) := by decide +kernel
theorem dX9_top_26 : decode cX9_top 26 = .ok (.iaload, 1) := by decide +kernel
theorem dX9_top_27 : decode cX9_top 27 = .ok (.if_icmp .ge 93, 3) := by decide +kernel
theorem dX9_top_30 : decode cX9_top 30 = .ok (.iconst 0, 1) := by decide +kernel
theorem dX9_top_31 : decode cX9_top 31 = .ok (.istore 4, 2) := by decide +kernel
theorem dX9_top_33 : decode cX9_top 33 = .ok (.iconst 0, 1) := by decide +kernel
theorem dX9_top_34 : decode cX9_top 34 = .ok (.istore 5, 2) := by decide +kernel
theorem dX9_top_36 : decode cX9_top 36 = .ok (.iload 5, 2) := by decide +kernel
theorem dX9_top_38 : decode cX9_top 38 = .ok (.aload_n 0, 1) := by decide +kernel
theorem dX9_top_39 : decode cX9_top 39 = .ok (.getfield 13, 3) := by decide +kernel
theorem dX9_top_42 : decode cX9_top 42 = .ok (.iload_n 1, 1) := by decide +kernel
theorem dX9_top_43 : decode cX9_top 43 = .ok (.iaload, 1) := by decide +kernel
theorem dX9_top_44 : decode cX9_top 44 = .ok (.if_icmp .ge 57, 3) := by decide +kernel
theorem dX9_top_47 : decode cX9_top 47 = .ok (.iload 4, 2) := by decide +kernel
theorem dX9_top_49 : decode cX9_top 49 = .ok (.aload_n 0, 1) := by decide +kernel
theorem dX9_top_50 : decode cX9_top 50 = .ok (.iload_n 1, 1) := by decide +kernel
theorem dX9_top_51 : decode cX9_top 51 = .ok (.iload 5, 2) := by decide +kernel
theorem dX9_top_53 : decode cX9_top 53 = .ok (.invokevirtual 117, 3) := by decide +kernel
theorem dX9_top_56 : decode cX9_top 56 = .ok (.aload_n 0, 1) := by decide +kernel
theorem dX9_top_57 : decode cX9_top 57 = .ok (.iload_n 1, 1) := by decide +kernel
theorem dX9_top_58 : decode cX9_top 58 = .ok (.iload_n 3, 1) := by decide +kernel
theorem dX9_top_59 : decode cX9_top 59 = .ok (.invokevirtual 117, 3) := by decide +kernel
theorem dX9_top_62 : decode cX9_top 62 = .ok (.if_icmp .gt 25, 3) := by decide +kernel
theorem dX9_top_65 : decode cX9_top 65 = .ok (.aload_n 0, 1) := by decide +kernel
theorem dX9_top_66 : decode cX9_top 66 = .ok (.iload_n 1, 1) := by decide +kernel
theorem dX9_top_67 : decode cX9_top 67 = .ok (.iload 5, 2) := by decide +kernel
theorem dX9_top_69 : decode cX9_top 69 = .ok (.invokevirtual 117, 3) := by decide +kernel
theorem dX9_top_72 : decode cX9_top 72 = .ok (.aload_n 0, 1) := by decide +kernel
theorem dX9_top_73 : decode cX9_top 73 = .ok (.iload_n 1, 1) := by decide +kernel
theorem dX9_top_74 : decode cX9_top 74 = .ok (.iload_n 3, 1) := by decide +kernel
theorem dX9_top_75 : decode cX9_top 75 = .ok (.invokevirtual 117, 3) := by decide +kernel
theorem dX9_top_78 : decode cX9_top 78 = .ok (.if_icmp .ne 13, 3) := by decide +kernel
theorem dX9_top_81 : decode cX9_top 81 = .ok (.iload 5, 2) := by decide +kernel
theorem dX9_top_83 : decode cX9_top 83 = .ok (.iload_n 3, 1) := by decide +kernel
theorem dX9_top_84 : decode cX9_top 84 = .ok (.if_icmp .ge 7, 3) := by decide +kernel
theorem dX9_top_87 : decode cX9_top 87 = .ok (.iconst 1, 1) := by decide +kernel
theorem dX9_top_88 : decode cX9_top 88 = .ok (.goto 4, 3) := by decide +kernel
theorem dX9_top_91 : decode cX9_top 91 = .ok (.iconst 0, 1) := by decide +kernel
theorem dX9_top_92 : decode cX9_top 92 = .ok (.iadd, 1) := by decide +kernel
theorem dX9_top_93 : decode cX9_top 93 = .ok (.istore 4, 2) := by decide +kernel
theorem dX9_top_95 : decode cX9_top 95 = .ok (.iinc 5 1, 3) := by decide +kernel
theorem dX9_top_98 : decode cX9_top 98 = .ok (.goto (-62), 3) := by decide +kernel
theorem dX9_top_101 : decode cX9_top 101 = .ok (.iload 4, 2) := by decide +kernel
theorem dX9_top_103 : decode cX9_top 103 = .ok (.iload_n 2, 1) := by decide +kernel
theorem dX9_top_104 : decode cX9_top 104 = .ok (.if_icmp .ne 10, 3) := by decide +kernel
theorem dX9_top_107 : decode cX9_top 107 = .ok (.aload_n 0, 1) := by decide +kernel
theorem dX9_top_108 : decode cX9_top 108 = .ok (.iload_n 1, 1) := by decide +kernel
theorem dX9_top_109 : decode cX9_top 109 = .ok (.iload_n 3, 1) := by decide +kernel
theorem dX9_top_110 : decode cX9_top 110 = .ok (.invokevirtual 89, 3) := by decide +kernel
theorem dX9_top_113 : decode cX9_top 113 = .ok (.ireturn, 1) := by decide +kernel
theorem dX9_top_114 : decode cX9_top 114 = .ok (.iinc 3 1, 3) := by decide +kernel
theorem dX9_top_117 : decode cX9_top 117 = .ok (.goto (-97), 3) := by decide +kernel
theorem dX9_top_120 : decode cX9_top 120 = .ok (.ldc 120, 2) := by decide +kernel
theorem dX9_top_122 : decode cX9_top 122 = .ok (.ireturn, 1) := by decide +kernel
set_option maxRecDepth 20000 in
theorem ggX9_same_X9_isMap : GoodIn wsX9_same wsX9_isMap := goodIn_r _ [7, 8, 9, 10, 6, 11] (by decide +kernel) (by decide +kernel)
set_option maxRecDepth 20000 in
theorem gX9_same_X9_isMap : GoodIn wsX9_same (va_wsS RX9 107 yX9_isMap wsX9_isMap) := goodIn_app (goodIn_of _ (by decide +kernel)) ggX9_same_X9_isMap
set_option maxRecDepth 20000 in
theorem ggX9_same_X9_refuses : GoodIn wsX9_same wsX9_refuses := goodIn_r _ [15, 16, 1, 17, 18, 19, 20, 21, 22, 23, 24, 25, 26, 27, 28, 29, 30, 31, 32, 33, 34, 35, 36, 37, 38, 39, 40, 41, 42, 43] (by decide +kernel) (by decide +kernel)
set_option maxRecDepth 20000 in
theorem gX9_same_X9_refuses : GoodIn wsX9_same (wsV RX9 110 RX9 yX9_refuses wsX9_refuses) := goodIn_app (goodIn_of _ (by decide +kernel)) ggX9_same_X9_refuses
theorem dX9_same_0 : decode cX9_same 0 = .ok (.iload_n 1, 1) := by decide +kernel
theorem dX9_same_1 : decode cX9_same 1 = .ok (.invokestatic 107, 3) := by decide +kernel
theorem dX9_same_4 : decode cX9_same 4 = .ok (.ifCond .eq 10, 3) := by decide +kernel
theorem dX9_same_7 : decode cX9_same 7 = .ok (.iload_n 2, 1) := by decide +kernel
theorem dX9_same_8 : decode cX9_same 8 = .ok (.invokestatic 107, 3) := by decide +kernel
theorem dX9_same_11 : decode cX9_same 11 = .ok (.ifCond .ne 10, 3) := by decide +kernel
theorem dX9_same_14 : decode cX9_same 14 = .ok (.aload_n 0, 1) := by decide +kernel
theorem dX9_same_15 : decode cX9_same 15 = .ok (.ldc 61, 2) := by decide +kernel
theorem dX9_same_17 : decode cX9_same 17 = .ok (.invokevirtual 110, 3) := by decide +kernel
theorem dX9_same_20 : decode cX9_same 20 = .ok (.ireturn, 1) := by decide +kernel
theorem dX9_same_21 : decode cX9_same 21 = .ok (.aload_n 0, 1) := by decide +kernel
theorem dX9_same_22 : decode cX9_same 22 = .ok (.getfield 13, 3) := by decide +kernel
theorem dX9_same_25 : decode cX9_same 25 = .ok (.iload_n 1, 1) := by decide +kernel
theorem dX9_same_26 : decode cX9_same 26 = .ok (.iaload, 1) := by decide +kernel
theorem dX9_same_27 : decode cX9_same 27 = .ok (.aload_n 0, 1) := by decide +kernel
theorem dX9_same_28 : decode cX9_same 28 = .ok (.getfield 13, 3) := by decide +kernel
theorem dX9_same_31 : decode cX9_same 31 = .ok (.iload_n 2, 1) := by decide +kernel
theorem dX9_same_32 : decode cX9_same 32 = .ok (.iaload, 1) := by decide +kernel
theorem dX9_same_33 : decode cX9_same 33 = .ok (.if_icmp .ne 7, 3) := by decide +kernel
theorem dX9_same_36 : decode cX9_same 36 = .ok (.iconst 1, 1) := by decide +kernel
theorem dX9_same_37 : decode cX9_same 37 = .ok (.goto 4, 3) := by decide +kernel
theorem dX9_same_40 : decode cX9_same 40 = .ok (.iconst 0, 1) := by decide +kernel
theorem dX9_same_41 : decode cX9_same 41 = .ok (.istore_n 3, 1) := by decide +kernel
theorem dX9_same_42 : decode cX9_same 42 = .ok (.iconst 0, 1) := by decide +kernel
theorem dX9_same_43 : decode cX9_same 43 = .ok (.istore 4, 2) := by decide +kernel
theorem dX9_same_45 : decode cX9_same 45 = .ok (.iload 4, 2) := by decide +kernel
theorem dX9_same_47 : decode cX9_same 47 = .ok (.aload_n 0, 1) := by decide +kernel
theorem dX9_same_48 : decode cX9_same 48 = .ok (.getfield 13, 3) := by decide +kernel
theorem dX9_same_51 : decode cX9_same 51 = .ok (.iload_n 1, 1) := by decide +kernel
theorem dX9_same_52 : decode cX9_same 52 = .ok (.iaload, 1) := by decide +kernel
theorem dX9_same_53 : decode cX9_same 53 = .ok (.if_icmp .ge 48, 3) := by decide +kernel
theorem dX9_same_56 : decode cX9_same 56 = .ok (.iload_n 3, 1) := by decide +kernel
theorem dX9_same_57 : decode cX9_same 57 = .ok (.ifCond .eq 44, 3) := by decide +kernel
theorem dX9_same_60 : decode cX9_same 60 = .ok (.aload_n 0, 1) := by decide +kernel
theorem dX9_same_61 : decode cX9_same 61 = .ok (.getfield 7, 3) := by decide +kernel
theorem dX9_same_64 : decode cX9_same 64 = .ok (.sipush 200, 3) := by decide +kernel
theorem dX9_same_67 : decode cX9_same 67 = .ok (.iload_n 1, 1) := by decide +kernel
theorem dX9_same_68 : decode cX9_same 68 = .ok (.imul, 1) := by decide +kernel
theorem dX9_same_69 : decode cX9_same 69 = .ok (.iload 4, 2) := by decide +kernel
theorem dX9_same_71 : decode cX9_same 71 = .ok (.iadd, 1) := by decide +kernel
theorem dX9_same_72 : decode cX9_same 72 = .ok (.iaload, 1) := by decide +kernel
theorem dX9_same_73 : decode cX9_same 73 = .ok (.aload_n 0, 1) := by decide +kernel
theorem dX9_same_74 : decode cX9_same 74 = .ok (.getfield 7, 3) := by decide +kernel
theorem dX9_same_77 : decode cX9_same 77 = .ok (.sipush 200, 3) := by decide +kernel
theorem dX9_same_80 : decode cX9_same 80 = .ok (.iload_n 2, 1) := by decide +kernel
theorem dX9_same_81 : decode cX9_same 81 = .ok (.imul, 1) := by decide +kernel
theorem dX9_same_82 : decode cX9_same 82 = .ok (.iload 4, 2) := by decide +kernel
theorem dX9_same_84 : decode cX9_same 84 = .ok (.iadd, 1) := by decide +kernel
theorem dX9_same_85 : decode cX9_same 85 = .ok (.iaload, 1) := by decide +kernel
theorem dX9_same_86 : decode cX9_same 86 = .ok (.if_icmp .ne 7, 3) := by decide +kernel
theorem dX9_same_89 : decode cX9_same 89 = .ok (.iconst 1, 1) := by decide +kernel
theorem dX9_same_90 : decode cX9_same 90 = .ok (.goto 4, 3) := by decide +kernel
theorem dX9_same_93 : decode cX9_same 93 = .ok (.iconst 0, 1) := by decide +kernel
theorem dX9_same_94 : decode cX9_same 94 = .ok (.istore_n 3, 1) := by decide +kernel
theorem dX9_same_95 : decode cX9_same 95 = .ok (.iinc 4 1, 3) := by decide +kernel
theorem dX9_same_98 : decode cX9_same 98 = .ok (.goto (-53), 3) := by decide +kernel
theorem dX9_same_101 : decode cX9_same 101 = .ok (.iload_n 3, 1) := by decide +kernel
theorem dX9_same_102 : decode cX9_same 102 = .ok (.ifCond .eq 7, 3) := by decide +kernel
theorem dX9_same_105 : decode cX9_same 105 = .ok (.iconst 1, 1) := by decide +kernel
theorem dX9_same_106 : decode cX9_same 106 = .ok (.goto 4, 3) := by decide +kernel
theorem dX9_same_109 : decode cX9_same 109 = .ok (.iconst 0, 1) := by decide +kernel
theorem dX9_same_110 : decode cX9_same 110 = .ok (.ireturn, 1) := by decide +kernel
set_option maxRecDepth 20000 in
theorem ggX9_common_X9_isMap : GoodIn wsX9_common wsX9_isMap := goodIn_r _ [6, 7, 8, 9, 5, 10] (by decide +kernel) (by decide +kernel)
set_option maxRecDepth 20000 in
theorem gX9_common_X9_isMap : GoodIn wsX9_common (va_wsS RX9 107 yX9_isMap wsX9_isMap) := goodIn_app (goodIn_of _ (by decide +kernel)) ggX9_common_X9_isMap
set_option maxRecDepth 20000 in
theorem ggX9_common_X9_refuses : GoodIn wsX9_common wsX9_refuses := goodIn_r _ [14, 15, 1, 32, 33, 34, 35, 36, 37, 38, 39, 40, 41, 42, 43, 44, 45, 46, 47, 48, 49, 50, 51, 52, 53, 54, 55, 56, 57, 58] (by decide +kernel) (by decide +kernel)
set_option maxRecDepth 20000 in
theorem gX9_common_X9_refuses : GoodIn wsX9_common (wsV RX9 110 RX9 yX9_refuses wsX9_refuses) := goodIn_app (goodIn_of _ (by decide +kernel)) ggX9_common_X9_refuses
set_option maxRecDepth 20000 in
theorem ggX9_common_X9_keyAt : GoodIn wsX9_common wsX9_keyAt := goodIn_r _ [19, 20, 21, 22, 5, 23, 32, 33, 34, 35, 36, 37, 38, 39, 40, 41, 42, 43, 44, 45, 46, 47, 48, 49, 50, 51, 52, 53, 54, 55, 56, 57, 58] (by decide +kernel) (by decide +kernel)
set_option maxRecDepth 20000 in
theorem gX9_common_X9_keyAt : GoodIn wsX9_common (wsV RX9 89 RX9 yX9_keyAt wsX9_keyAt) := goodIn_app (goodIn_of _ (by decide +kernel)) ggX9_common_X9_keyAt
set_option maxRecDepth 20000 in
theorem ggX9_common_X9_below : GoodIn wsX9_common wsX9_below := goodIn_r _ [27, 2, 16, 17, 18, 5, 19, 20, 21, 22, 23, 32, 33, 34, 35, 36, 37, 38, 39, 40, 41, 42, 43, 44, 45, 46, 47, 48, 49, 50, 51, 52, 53, 54, 55, 56, 57, 58] (by decide +kernel) (by decide +kernel)
set_option maxRecDepth 20000 in
theorem gX9_common_X9_below : GoodIn wsX9_common (wsV RX9 93 RX9 yX9_below wsX9_below) := goodIn_app (goodIn_of _ (by decide +kernel)) ggX9_common_X9_below
set_option maxRecDepth 20000 in
theorem ggX9_common_X9_isThere : GoodIn wsX9_common wsX9_isThere := goodIn_r _ [31, 2, 16, 17, 18, 5, 19, 20, 21, 22, 23, 32, 33, 34, 35, 36, 37, 38, 39, 40, 41, 42, 43, 44, 45, 46, 47, 48, 49, 50, 51, 52, 53, 54, 55, 56, 57, 58] (by decide +kernel) (by decide +kernel)
set_option maxRecDepth 20000 in
theorem gX9_common_X9_isThere : GoodIn wsX9_common (wsV RX9 96 RX9 yX9_isThere wsX9_isThere) := goodIn_app (goodIn_of _ (by decide +kernel)) ggX9_common_X9_isThere
theorem dX9_common_0 : decode cX9_common 0 = .ok (.iload_n 1, 1) := by decide +kernel
theorem dX9_common_1 : decode cX9_common 1 = .ok (.invokestatic 107, 3) := by decide +kernel
theorem dX9_common_4 : decode cX9_common 4 = .ok (.ifCond .eq 10, 3) := by decide +kernel
theorem dX9_common_7 : decode cX9_common 7 = .ok (.iload_n 2, 1) := by decide +kernel
theorem dX9_common_8 : decode cX9_common 8 = .ok (.invokestatic 107, 3) := by decide +kernel
theorem dX9_common_11 : decode cX9_common 11 = .ok (.ifCond .ne 10, 3) := by decide +kernel
theorem dX9_common_14 : decode cX9_common 14 = .ok (.aload_n 0, 1) := by decide +kernel
theorem dX9_common_15 : decode cX9_common 15 = .ok (.ldc 61, 2) := by decide +kernel
theorem dX9_common_17 : decode cX9_common 17 = .ok (.invokevirtual 110, 3) := by decide +kernel
theorem dX9_common_20 : decode cX9_common 20 = .ok (.ireturn, 1) := by decide +kernel
theorem dX9_common_21 : decode cX9_common 21 = .ok (.iconst 0, 1) := by decide +kernel
theorem dX9_common_22 : decode cX9_common 22 = .ok (.istore_n 3, 1) := by decide +kernel
theorem dX9_common_23 : decode cX9_common 23 = .ok (.iconst 0, 1) := by decide +kernel
theorem dX9_common_24 : decode cX9_common 24 = .ok (.istore 4, 2) := by decide +kernel
theorem dX9_common_26 : decode cX9_common 26 = .ok (.iload 4, 2) := by decide +kernel
theorem dX9_common_28 : decode cX9_common 28 = .ok (.aload_n 0, 1) := by decide +kernel
theorem dX9_common_29 : decode cX9_common 29 = .ok (.getfield 13, 3) := by decide +kernel
theorem dX9_common_32 : decode cX9_common 32 = .ok (.iload_n 1, 1) := by decide +kernel
theorem dX9_common_33 : decode cX9_common 33 = .ok (.iaload, 1) := by decide +kernel
theorem dX9_common_34 : decode cX9_common 34 = .ok (.if_icmp .ge 44, 3) := by decide +kernel
theorem dX9_common_37 : decode cX9_common 37 = .ok (.iload_n 3, 1) := by decide +kernel
theorem dX9_common_38 : decode cX9_common 38 = .ok (.aload_n 0, 1) := by decide +kernel
theorem dX9_common_39 : decode cX9_common 39 = .ok (.iload_n 2, 1) := by decide +kernel
theorem dX9_common_40 : decode cX9_common 40 = .ok (.aload_n 0, 1) := by decide +kernel
theorem dX9_common_41 : decode cX9_common 41 = .ok (.iload_n 2, 1) := by decide +kernel
theorem dX9_common_42 : decode cX9_common 42 = .ok (.aload_n 0, 1) := by decide +kernel
theorem dX9_common_43 : decode cX9_common 43 = .ok (.iload_n 1, 1) := by decide +kernel
theorem dX9_common_44 : decode cX9_common 44 = .ok (.iload 4, 2) := by decide +kernel
theorem dX9_common_46 : decode cX9_common 46 = .ok (.invokevirtual 89, 3) := by decide +kernel
theorem dX9_common_49 : decode cX9_common 49 = .ok (.invokevirtual 93, 3) := by decide +kernel
theorem dX9_common_52 : decode cX9_common 52 = .ok (.aload_n 0, 1) := by decide +kernel
theorem dX9_common_53 : decode cX9_common 53 = .ok (.iload_n 1, 1) := by decide +kernel
theorem dX9_common_54 : decode cX9_common 54 = .ok (.iload 4, 2) := by decide +kernel
theorem dX9_common_56 : decode cX9_common 56 = .ok (.invokevirtual 89, 3) := by decide +kernel
theorem dX9_common_59 : decode cX9_common 59 = .ok (.invokevirtual 96, 3) := by decide +kernel
theorem dX9_common_62 : decode cX9_common 62 = .ok (.ifCond .eq 7, 3) := by decide +kernel
theorem dX9_common_65 : decode cX9_common 65 = .ok (.iconst 1, 1) := by decide +kernel
theorem dX9_common_66 : decode cX9_common 66 = .ok (.goto 4, 3) := by decide +kernel
theorem dX9_common_69 : decode cX9_common 69 = .ok (.iconst 0, 1) := by decide +kernel
theorem dX9_common_70 : decode cX9_common 70 = .ok (.iadd, 1) := by decide +kernel
theorem dX9_common_71 : decode cX9_common 71 = .ok (.istore_n 3, 1) := by decide +kernel
theorem dX9_common_72 : decode cX9_common 72 = .ok (.iinc 4 1, 3) := by decide +kernel
theorem dX9_common_75 : decode cX9_common 75 = .ok (.goto (-49), 3) := by decide +kernel
theorem dX9_common_78 : decode cX9_common 78 = .ok (.iload_n 3, 1) := by decide +kernel
theorem dX9_common_79 : decode cX9_common 79 = .ok (.ireturn, 1) := by decide +kernel
set_option maxRecDepth 20000 in
theorem ggX9_apart_X9_isMap : GoodIn wsX9_apart wsX9_isMap := goodIn_r _ [8, 9, 10, 11, 7, 12] (by decide +kernel) (by decide +kernel)
set_option maxRecDepth 20000 in
theorem gX9_apart_X9_isMap : GoodIn wsX9_apart (va_wsS RX9 107 yX9_isMap wsX9_isMap) := goodIn_app (goodIn_of _ (by decide +kernel)) ggX9_apart_X9_isMap
set_option maxRecDepth 20000 in
theorem ggX9_apart_X9_refuses : GoodIn wsX9_apart wsX9_refuses := goodIn_r _ [16, 17, 1, 25, 26, 27, 28, 29, 30, 31, 32, 33, 34, 35, 36, 37, 38, 39, 40, 41, 42, 43, 44, 45, 46, 47, 48, 49, 50, 51] (by decide +kernel) (by decide +kernel)
set_option maxRecDepth 20000 in
theorem gX9_apart_X9_refuses : GoodIn wsX9_apart (wsV RX9 110 RX9 yX9_refuses wsX9_refuses) := goodIn_app (goodIn_of _ (by decide +kernel)) ggX9_apart_X9_refuses
set_option maxRecDepth 20000 in
theorem ggX9_apart_X9_keyAt : GoodIn wsX9_apart wsX9_keyAt := goodIn_r _ [21, 3, 22, 23, 7, 24, 25, 26, 27, 28, 29, 30, 31, 32, 33, 34, 35, 36, 37, 38, 39, 40, 41, 42, 43, 44, 45, 46, 47, 48, 49, 50, 51] (by decide +kernel) (by decide +kernel)
set_option maxRecDepth 20000 in
theorem gX9_apart_X9_keyAt : GoodIn wsX9_apart (wsV RX9 89 RX9 yX9_keyAt wsX9_keyAt) := goodIn_app (goodIn_of _ (by decide +kernel)) ggX9_apart_X9_keyAt
theorem dX9_apart_0 : decode cX9_apart 0 = .ok (.iload_n 1, 1) := by decide +kernel
theorem dX9_apart_1 : decode cX9_apart 1 = .ok (.invokestatic 107, 3) := by decide +kernel
theorem dX9_apart_4 : decode cX9_apart 4 = .ok (.ifCond .eq 10, 3) := by decide +kernel
theorem dX9_apart_7 : decode cX9_apart 7 = .ok (.iload_n 2, 1) := by decide +kernel
theorem dX9_apart_8 : decode cX9_apart 8 = .ok (.invokestatic 107, 3) := by decide +kernel
theorem dX9_apart_11 : decode cX9_apart 11 = .ok (.ifCond .ne 10, 3) := by decide +kernel
theorem dX9_apart_14 : decode cX9_apart 14 = .ok (.aload_n 0, 1) := by decide +kernel
theorem dX9_apart_15 : decode cX9_apart 15 = .ok (.ldc 61, 2) := by decide +kernel
theorem dX9_apart_17 : decode cX9_apart 17 = .ok (.invokevirtual 110, 3) := by decide +kernel
theorem dX9_apart_20 : decode cX9_apart 20 = .ok (.ireturn, 1) := by decide +kernel
theorem dX9_apart_21 : decode cX9_apart 21 = .ok (.iconst 0, 1) := by decide +kernel
theorem dX9_apart_22 : decode cX9_apart 22 = .ok (.istore_n 3, 1) := by decide +kernel
theorem dX9_apart_23 : decode cX9_apart 23 = .ok (.iload_n 3, 1) := by decide +kernel
theorem dX9_apart_24 : decode cX9_apart 24 = .ok (.aload_n 0, 1) := by decide +kernel
theorem dX9_apart_25 : decode cX9_apart 25 = .ok (.getfield 13, 3) := by decide +kernel
theorem dX9_apart_28 : decode cX9_apart 28 = .ok (.iload_n 1, 1) := by decide +kernel
theorem dX9_apart_29 : decode cX9_apart 29 = .ok (.iaload, 1) := by decide +kernel
theorem dX9_apart_30 : decode cX9_apart 30 = .ok (.if_icmp .ge 46, 3) := by decide +kernel
theorem dX9_apart_33 : decode cX9_apart 33 = .ok (.iload_n 3, 1) := by decide +kernel
theorem dX9_apart_34 : decode cX9_apart 34 = .ok (.aload_n 0, 1) := by decide +kernel
theorem dX9_apart_35 : decode cX9_apart 35 = .ok (.getfield 13, 3) := by decide +kernel
theorem dX9_apart_38 : decode cX9_apart 38 = .ok (.iload_n 2, 1) := by decide +kernel
theorem dX9_apart_39 : decode cX9_apart 39 = .ok (.iaload, 1) := by decide +kernel
theorem dX9_apart_40 : decode cX9_apart 40 = .ok (.if_icmp .ge 36, 3) := by decide +kernel
theorem dX9_apart_43 : decode cX9_apart 43 = .ok (.aload_n 0, 1) := by decide +kernel
theorem dX9_apart_44 : decode cX9_apart 44 = .ok (.getfield 7, 3) := by decide +kernel
theorem dX9_apart_47 : decode cX9_apart 47 = .ok (.sipush 200, 3) := by decide +kernel
theorem dX9_apart_50 : decode cX9_apart 50 = .ok (.iload_n 1, 1) := by decide +kernel
theorem dX9_apart_51 : decode cX9_apart 51 = .ok (.imul, 1) := by decide +kernel
theorem dX9_apart_52 : decode cX9_apart 52 = .ok (.iload_n 3, 1) := by decide +kernel
theorem dX9_apart_53 : decode cX9_apart 53 = .ok (.iadd, 1) := by decide +kernel
theorem dX9_apart_54 : decode cX9_apart 54 = .ok (.iaload, 1) := by decide +kernel
theorem dX9_apart_55 : decode cX9_apart 55 = .ok (.aload_n 0, 1) := by decide +kernel
theorem dX9_apart_56 : decode cX9_apart 56 = .ok (.getfield 7, 3) := by decide +kernel
theorem dX9_apart_59 : decode cX9_apart 59 = .ok (.sipush 200, 3) := by decide +kernel
theorem dX9_apart_62 : decode cX9_apart 62 = .ok (.iload_n 2, 1) := by decide +kernel
theorem dX9_apart_63 : decode cX9_apart 63 = .ok (.imul, 1) := by decide +kernel
theorem dX9_apart_64 : decode cX9_apart 64 = .ok (.iload_n 3, 1) := by decide +kernel
theorem dX9_apart_65 : decode cX9_apart 65 = .ok (.iadd, 1) := by decide +kernel
theorem dX9_apart_66 : decode cX9_apart 66 = .ok (.iaload, 1) := by decide +kernel
theorem dX9_apart_67 : decode cX9_apart 67 = .ok (.if_icmp .ne 9, 3) := by decide +kernel
theorem dX9_apart_70 : decode cX9_apart 70 = .ok (.iinc 3 1, 3) := by decide +kernel
theorem dX9_apart_73 : decode cX9_apart 73 = .ok (.goto (-50), 3) := by decide +kernel
theorem dX9_apart_76 : decode cX9_apart 76 = .ok (.iload_n 3, 1) := by decide +kernel
theorem dX9_apart_77 : decode cX9_apart 77 = .ok (.aload_n 0, 1) := by decide +kernel
theorem dX9_apart_78 : decode cX9_apart 78 = .ok (.getfield 13, 3) := by decide +kernel
theorem dX9_apart_81 : decode cX9_apart 81 = .ok (.iload_n 1, 1) := by decide +kernel
theorem dX9_apart_82 : decode cX9_apart 82 = .ok (.iaload, 1) := by decide +kernel
theorem dX9_apart_83 : decode cX9_apart 83 = .ok (.if_icmp .ge 12, 3) := by decide +kernel
theorem dX9_apart_86 : decode cX9_apart 86 = .ok (.aload_n 0, 1) := by decide +kernel
theorem dX9_apart_87 : decode cX9_apart 87 = .ok (.iload_n 1, 1) := by decide +kernel
theorem dX9_apart_88 : decode cX9_apart 88 = .ok (.iload_n 3, 1) := by decide +kernel
theorem dX9_apart_89 : decode cX9_apart 89 = .ok (.invokevirtual 89, 3) := by decide +kernel
theorem dX9_apart_92 : decode cX9_apart 92 = .ok (.goto 6, 3) := by decide +kernel
theorem dX9_apart_95 : decode cX9_apart 95 = .ok (.sipush 9999, 3) := by decide +kernel
theorem dX9_apart_98 : decode cX9_apart 98 = .ok (.istore 4, 2) := by decide +kernel
theorem dX9_apart_100 : decode cX9_apart 100 = .ok (.iload_n 3, 1) := by decide +kernel
theorem dX9_apart_101 : decode cX9_apart 101 = .ok (.aload_n 0, 1) := by decide +kernel
theorem dX9_apart_102 : decode cX9_apart 102 = .ok (.getfield 13, 3) := by decide +kernel
theorem dX9_apart_105 : decode cX9_apart 105 = .ok (.iload_n 2, 1) := by decide +kernel
theorem dX9_apart_106 : decode cX9_apart 106 = .ok (.iaload, 1) := by decide +kernel
theorem dX9_apart_107 : decode cX9_apart 107 = .ok (.if_icmp .ge 12, 3) := by decide +kernel
theorem dX9_apart_110 : decode cX9_apart 110 = .ok (.aload_n 0, 1) := by decide +kernel
theorem dX9_apart_111 : decode cX9_apart 111 = .ok (.iload_n 2, 1) := by decide +kernel
theorem dX9_apart_112 : decode cX9_apart 112 = .ok (.iload_n 3, 1) := by decide +kernel
theorem dX9_apart_113 : decode cX9_apart 113 = .ok (.invokevirtual 89, 3) := by decide +kernel
theorem dX9_apart_116 : decode cX9_apart 116 = .ok (.goto 6, 3) := by decide +kernel
theorem dX9_apart_119 : decode cX9_apart 119 = .ok (.sipush 9999, 3) := by decide +kernel
theorem dX9_apart_122 : decode cX9_apart 122 = .ok (.istore 5, 2) := by decide +kernel
theorem dX9_apart_124 : decode cX9_apart 124 = .ok (.iload 4, 2) := by decide +kernel
theorem dX9_apart_126 : decode cX9_apart 126 = .ok (.iload 5, 2) := by decide +kernel
theorem dX9_apart_128 : decode cX9_apart 128 = .ok (.if_icmp .ge 8, 3) := by decide +kernel
theorem dX9_apart_131 : decode cX9_apart 131 = .ok (.iload 4, 2) := by decide +kernel
theorem dX9_apart_133 : decode cX9_apart 133 = .ok (.goto 5, 3) := by decide +kernel
theorem dX9_apart_136 : decode cX9_apart 136 = .ok (.iload 5, 2) := by decide +kernel
theorem dX9_apart_138 : decode cX9_apart 138 = .ok (.istore 6, 2) := by decide +kernel
theorem dX9_apart_140 : decode cX9_apart 140 = .ok (.iload 6, 2) := by decide +kernel
theorem dX9_apart_142 : decode cX9_apart 142 = .ok (.sipush 9999, 3) := by decide +kernel
theorem dX9_apart_145 : decode cX9_apart 145 = .ok (.if_icmp .ne 8, 3) := by decide +kernel
theorem dX9_apart_148 : decode cX9_apart 148 = .ok (.ldc 120, 2) := by decide +kernel
theorem dX9_apart_150 : decode cX9_apart 150 = .ok (.goto 5, 3) := by decide +kernel
theorem dX9_apart_153 : decode cX9_apart 153 = .ok (.iload 6, 2) := by decide +kernel
theorem dX9_apart_155 : decode cX9_apart 155 = .ok (.ireturn, 1) := by decide +kernel
theorem dX9_copies_0 : decode cX9_copies 0 = .ok (.iconst 0, 1) := by decide +kernel
theorem dX9_copies_1 : decode cX9_copies 1 = .ok (.istore 5, 2) := by decide +kernel
theorem dX9_copies_3 : decode cX9_copies 3 = .ok (.iload 5, 2) := by decide +kernel
theorem dX9_copies_5 : decode cX9_copies 5 = .ok (.iload_n 3, 1) := by decide +kernel
theorem dX9_copies_6 : decode cX9_copies 6 = .ok (.if_icmp .ge 38, 3) := by decide +kernel
theorem dX9_copies_9 : decode cX9_copies 9 = .ok (.aload_n 0, 1) := by decide +kernel
theorem dX9_copies_10 : decode cX9_copies 10 = .ok (.getfield 7, 3) := by decide +kernel
theorem dX9_copies_13 : decode cX9_copies 13 = .ok (.sipush 200, 3) := by decide +kernel
theorem dX9_copies_16 : decode cX9_copies 16 = .ok (.iload 4, 2) := by decide +kernel
theorem dX9_copies_18 : decode cX9_copies 18 = .ok (.imul, 1) := by decide +kernel
theorem dX9_copies_19 : decode cX9_copies 19 = .ok (.iload 5, 2) := by decide +kernel
theorem dX9_copies_21 : decode cX9_copies 21 = .ok (.iadd, 1) := by decide +kernel
theorem dX9_copies_22 : decode cX9_copies 22 = .ok (.aload_n 0, 1) := by decide +kernel
theorem dX9_copies_23 : decode cX9_copies 23 = .ok (.getfield 7, 3) := by decide +kernel
theorem dX9_copies_26 : decode cX9_copies 26 = .ok (.sipush 200, 3) := by decide +kernel
theorem dX9_copies_29 : decode cX9_copies 29 = .ok (.iload_n 1, 1) := by decide +kernel
theorem dX9_copies_30 : decode cX9_copies 30 = .ok (.imul, 1) := by decide +kernel
theorem dX9_copies_31 : decode cX9_copies 31 = .ok (.iload_n 2, 1) := by decide +kernel
theorem dX9_copies_32 : decode cX9_copies 32 = .ok (.iadd, 1) := by decide +kernel
theorem dX9_copies_33 : decode cX9_copies 33 = .ok (.iload 5, 2) := by decide +kernel
theorem dX9_copies_35 : decode cX9_copies 35 = .ok (.iadd, 1) := by decide +kernel
theorem dX9_copies_36 : decode cX9_copies 36 = .ok (.iaload, 1) := by decide +kernel
theorem dX9_copies_37 : decode cX9_copies 37 = .ok (.iastore, 1) := by decide +kernel
theorem dX9_copies_38 : decode cX9_copies 38 = .ok (.iinc 5 1, 3) := by decide +kernel
theorem dX9_copies_41 : decode cX9_copies 41 = .ok (.goto (-38), 3) := by decide +kernel
theorem dX9_copies_44 : decode cX9_copies 44 = .ok (.aload_n 0, 1) := by decide +kernel
theorem dX9_copies_45 : decode cX9_copies 45 = .ok (.getfield 13, 3) := by decide +kernel
theorem dX9_copies_48 : decode cX9_copies 48 = .ok (.iload 4, 2) := by decide +kernel
theorem dX9_copies_50 : decode cX9_copies 50 = .ok (.iload_n 3, 1) := by decide +kernel
theorem dX9_copies_51 : decode cX9_copies 51 = .ok (.iastore, 1) := by decide +kernel
theorem dX9_copies_52 : decode cX9_copies 52 = .ok (.return_, 1) := by decide +kernel
set_option maxRecDepth 20000 in
theorem ggX9_cut_X9_isMap : GoodIn wsX9_cut wsX9_isMap := goodIn_r _ [6, 7, 8, 9, 5, 10] (by decide +kernel) (by decide +kernel)
set_option maxRecDepth 20000 in
theorem gX9_cut_X9_isMap : GoodIn wsX9_cut (va_wsS RX9 107 yX9_isMap wsX9_isMap) := goodIn_app (goodIn_of _ (by decide +kernel)) ggX9_cut_X9_isMap
set_option maxRecDepth 20000 in
theorem ggX9_cut_X9_isKey : GoodIn wsX9_cut wsX9_isKey := goodIn_r _ [13, 14, 15, 8, 9, 5, 10] (by decide +kernel) (by decide +kernel)
set_option maxRecDepth 20000 in
theorem gX9_cut_X9_isKey : GoodIn wsX9_cut (va_wsS RX9 76 yX9_isKey wsX9_isKey) := goodIn_app (goodIn_of _ (by decide +kernel)) ggX9_cut_X9_isKey
set_option maxRecDepth 20000 in
theorem ggX9_cut_X9_refuses : GoodIn wsX9_cut wsX9_refuses := goodIn_r _ [19, 20, 1, 44, 45, 46, 47, 48, 49, 50, 51, 52, 53, 54, 55, 56, 57, 58, 59, 60, 61, 62, 63, 64, 65, 66, 67, 68, 69, 70] (by decide +kernel) (by decide +kernel)
set_option maxRecDepth 20000 in
theorem gX9_cut_X9_refuses : GoodIn wsX9_cut (wsV RX9 110 RX9 yX9_refuses wsX9_refuses) := goodIn_app (goodIn_of _ (by decide +kernel)) ggX9_cut_X9_refuses
set_option maxRecDepth 20000 in
theorem ggX9_cut_X9_keeps : GoodIn wsX9_cut wsX9_keeps := goodIn_r _ [24, 25, 26, 27, 28, 2, 44, 45, 46, 47, 48, 49, 50, 51, 52, 53, 54, 55, 56, 57, 58, 59, 60, 61, 62, 63, 64, 65, 66, 67, 68, 69, 70] (by decide +kernel) (by decide +kernel)
set_option maxRecDepth 20000 in
theorem gX9_cut_X9_keeps : GoodIn wsX9_cut (wsV RX9 114 RX9 yX9_keeps wsX9_keeps) := goodIn_app (goodIn_of _ (by decide +kernel)) ggX9_cut_X9_keeps
set_option maxRecDepth 20000 in
theorem ggX9_cut_X9_below : GoodIn wsX9_cut wsX9_below := goodIn_r _ [32, 2, 33, 34, 35, 5, 36, 28, 37, 38, 39, 44, 45, 46, 47, 48, 49, 50, 51, 52, 53, 54, 55, 56, 57, 58, 59, 60, 61, 62, 63, 64, 65, 66, 67, 68, 69, 70] (by decide +kernel) (by decide +kernel)
set_option maxRecDepth 20000 in
theorem gX9_cut_X9_below : GoodIn wsX9_cut (wsV RX9 93 RX9 yX9_below wsX9_below) := goodIn_app (goodIn_of _ (by decide +kernel)) ggX9_cut_X9_below
set_option maxRecDepth 20000 in
theorem ggX9_cut_X9_copies : GoodIn wsX9_cut wsX9_copies := goodIn_r _ [43, 28, 2, 44, 45, 46, 47, 48, 49, 50, 51, 52, 53, 54, 55, 56, 57, 58, 59, 60, 61, 62, 63, 64, 65, 66, 67, 68, 69, 70] (by decide +kernel) (by decide +kernel)
set_option maxRecDepth 20000 in
theorem gX9_cut_X9_copies : GoodIn wsX9_cut (wsV RX9 137 RX9 yX9_copies wsX9_copies) := goodIn_app (goodIn_of _ (by decide +kernel)) ggX9_cut_X9_copies
theorem dX9_cut_0 : decode cX9_cut 0 = .ok (.iload_n 1, 1) := by decide +kernel
theorem dX9_cut_1 : decode cX9_cut 1 = .ok (.invokestatic 107, 3) := by decide +kernel
theorem dX9_cut_4 : decode cX9_cut 4 = .ok (.ifCond .eq 22, 3) := by decide +kernel
theorem dX9_cut_7 : decode cX9_cut 7 = .ok (.iload_n 2, 1) := by decide +kernel
theorem dX9_cut_8 : decode cX9_cut 8 = .ok (.invokestatic 76, 3) := by decide +kernel
theorem dX9_cut_11 : decode cX9_cut 11 = .ok (.ifCond .eq 15, 3) := by decide +kernel
theorem dX9_cut_14 : decode cX9_cut 14 = .ok (.iload_n 3, 1) := by decide +kernel
theorem dX9_cut_15 : decode cX9_cut 15 = .ok (.invokestatic 107, 3) := by decide +kernel
theorem dX9_cut_18 : decode cX9_cut 18 = .ok (.ifCond .eq 8, 3) := by decide +kernel
theorem dX9_cut_21 : decode cX9_cut 21 = .ok (.iload_n 1, 1) := by decide +kernel
theorem dX9_cut_22 : decode cX9_cut 22 = .ok (.iload_n 3, 1) := by decide +kernel
theorem dX9_cut_23 : decode cX9_cut 23 = .ok (.if_icmp .ne 10, 3) := by decide +kernel
theorem dX9_cut_26 : decode cX9_cut 26 = .ok (.aload_n 0, 1) := by decide +kernel
theorem dX9_cut_27 : decode cX9_cut 27 = .ok (.ldc 61, 2) := by decide +kernel
theorem dX9_cut_29 : decode cX9_cut 29 = .ok (.invokevirtual 110, 3) := by decide +kernel
theorem dX9_cut_32 : decode cX9_cut 32 = .ok (.ireturn, 1) := by decide +kernel
theorem dX9_cut_33 : decode cX9_cut 33 = .ok (.aload_n 0, 1) := by decide +kernel
theorem dX9_cut_34 : decode cX9_cut 34 = .ok (.invokevirtual 114, 3) := by decide +kernel
theorem dX9_cut_37 : decode cX9_cut 37 = .ok (.aload_n 0, 1) := by decide +kernel
theorem dX9_cut_38 : decode cX9_cut 38 = .ok (.iload_n 1, 1) := by decide +kernel
theorem dX9_cut_39 : decode cX9_cut 39 = .ok (.iload_n 2, 1) := by decide +kernel
theorem dX9_cut_40 : decode cX9_cut 40 = .ok (.invokevirtual 93, 3) := by decide +kernel
theorem dX9_cut_43 : decode cX9_cut 43 = .ok (.istore 4, 2) := by decide +kernel
theorem dX9_cut_45 : decode cX9_cut 45 = .ok (.aload_n 0, 1) := by decide +kernel
theorem dX9_cut_46 : decode cX9_cut 46 = .ok (.iload_n 1, 1) := by decide +kernel
theorem dX9_cut_47 : decode cX9_cut 47 = .ok (.iload 4, 2) := by decide +kernel
theorem dX9_cut_49 : decode cX9_cut 49 = .ok (.aload_n 0, 1) := by decide +kernel
theorem dX9_cut_50 : decode cX9_cut 50 = .ok (.getfield 13, 3) := by decide +kernel
theorem dX9_cut_53 : decode cX9_cut 53 = .ok (.iload_n 1, 1) := by decide +kernel
theorem dX9_cut_54 : decode cX9_cut 54 = .ok (.iaload, 1) := by decide +kernel
theorem dX9_cut_55 : decode cX9_cut 55 = .ok (.iload 4, 2) := by decide +kernel
theorem dX9_cut_57 : decode cX9_cut 57 = .ok (.isub, 1) := by decide +kernel
theorem dX9_cut_58 : decode cX9_cut 58 = .ok (.iload_n 3, 1) := by decide +kernel
theorem dX9_cut_59 : decode cX9_cut 59 = .ok (.invokevirtual 137, 3) := by decide +kernel
theorem dX9_cut_62 : decode cX9_cut 62 = .ok (.aload_n 0, 1) := by decide +kernel
theorem dX9_cut_63 : decode cX9_cut 63 = .ok (.getfield 13, 3) := by decide +kernel
theorem dX9_cut_66 : decode cX9_cut 66 = .ok (.iload_n 1, 1) := by decide +kernel
theorem dX9_cut_67 : decode cX9_cut 67 = .ok (.iload 4, 2) := by decide +kernel
theorem dX9_cut_69 : decode cX9_cut 69 = .ok (.iastore, 1) := by decide +kernel
theorem dX9_cut_70 : decode cX9_cut 70 = .ok (.aload_n 0, 1) := by decide +kernel
theorem dX9_cut_71 : decode cX9_cut 71 = .ok (.getfield 13, 3) := by decide +kernel
theorem dX9_cut_74 : decode cX9_cut 74 = .ok (.iload_n 3, 1) := by decide +kernel
theorem dX9_cut_75 : decode cX9_cut 75 = .ok (.iaload, 1) := by decide +kernel
theorem dX9_cut_76 : decode cX9_cut 76 = .ok (.ireturn, 1) := by decide +kernel
set_option maxRecDepth 20000 in
theorem ggX9_glue_X9_isMap : GoodIn wsX9_glue wsX9_isMap := goodIn_r _ [9, 10, 11, 12, 8, 13] (by decide +kernel) (by decide +kernel)
set_option maxRecDepth 20000 in
theorem gX9_glue_X9_isMap : GoodIn wsX9_glue (va_wsS RX9 107 yX9_isMap wsX9_isMap) := goodIn_app (goodIn_of _ (by decide +kernel)) ggX9_glue_X9_isMap
set_option maxRecDepth 20000 in
theorem ggX9_glue_X9_refuses : GoodIn wsX9_glue wsX9_refuses := goodIn_r _ [17, 18, 1, 33, 34, 35, 36, 37, 38, 39, 40, 41, 42, 43, 44, 45, 46, 47, 48, 49, 50, 51, 52, 53, 54, 55, 56, 57, 58, 59] (by decide +kernel) (by decide +kernel)
set_option maxRecDepth 20000 in
theorem gX9_glue_X9_refuses : GoodIn wsX9_glue (wsV RX9 110 RX9 yX9_refuses wsX9_refuses) := goodIn_app (goodIn_of _ (by decide +kernel)) ggX9_glue_X9_refuses
set_option maxRecDepth 20000 in
theorem ggX9_glue_X9_keyAt : GoodIn wsX9_glue wsX9_keyAt := goodIn_r _ [22, 5, 23, 24, 8, 25, 33, 34, 35, 36, 37, 38, 39, 40, 41, 42, 43, 44, 45, 46, 47, 48, 49, 50, 51, 52, 53, 54, 55, 56, 57, 58, 59] (by decide +kernel) (by decide +kernel)
set_option maxRecDepth 20000 in
theorem gX9_glue_X9_keyAt : GoodIn wsX9_glue (wsV RX9 89 RX9 yX9_keyAt wsX9_keyAt) := goodIn_app (goodIn_of _ (by decide +kernel)) ggX9_glue_X9_keyAt
set_option maxRecDepth 20000 in
theorem ggX9_glue_X9_keeps : GoodIn wsX9_glue wsX9_keeps := goodIn_r _ [29, 30, 31, 32, 5, 2, 33, 34, 35, 36, 37, 38, 39, 40, 41, 42, 43, 44, 45, 46, 47, 48, 49, 50, 51, 52, 53, 54, 55, 56, 57, 58, 59] (by decide +kernel) (by decide +kernel)
set_option maxRecDepth 20000 in
theorem gX9_glue_X9_keeps : GoodIn wsX9_glue (wsV RX9 114 RX9 yX9_keeps wsX9_keeps) := goodIn_app (goodIn_of _ (by decide +kernel)) ggX9_glue_X9_keeps
theorem dX9_glue_0 : decode cX9_glue 0 = .ok (.iload_n 1, 1) := by decide +kernel
theorem dX9_glue_1 : decode cX9_glue 1 = .ok (.invokestatic 107, 3) := by decide +kernel
theorem dX9_glue_4 : decode cX9_glue 4 = .ok (.ifCond .eq 15, 3) := by decide +kernel
theorem dX9_glue_7 : decode cX9_glue 7 = .ok (.iload_n 2, 1) := by decide +kernel
theorem dX9_glue_8 : decode cX9_glue 8 = .ok (.invokestatic 107, 3) := by decide +kernel
theorem dX9_glue_11 : decode cX9_glue 11 = .ok (.ifCond .eq 8, 3) := by decide +kernel
theorem dX9_glue_14 : decode cX9_glue 14 = .ok (.iload_n 1, 1) := by decide +kernel
theorem dX9_glue_15 : decode cX9_glue 15 = .ok (.iload_n 2, 1) := by decide +kernel
theorem dX9_glue_16 : decode cX9_glue 16 = .ok (.if_icmp .ne 10, 3) := by decide +kernel
theorem dX9_glue_19 : decode cX9_glue 19 = .ok (.aload_n 0, 1) := by decide +kernel
theorem dX9_glue_20 : decode cX9_glue 20 = .ok (.ldc 61, 2) := by decide +kernel
theorem dX9_glue_22 : decode cX9_glue 22 = .ok (.invokevirtual 110, 3) := by decide +kernel
theorem dX9_glue_25 : decode cX9_glue 25 = .ok (.ireturn, 1) := by decide +kernel
theorem dX9_glue_26 : decode cX9_glue 26 = .ok (.aload_n 0, 1) := by decide +kernel
theorem dX9_glue_27 : decode cX9_glue 27 = .ok (.getfield 13, 3) := by decide +kernel
theorem dX9_glue_30 : decode cX9_glue 30 = .ok (.iload_n 1, 1) := by decide +kernel
theorem dX9_glue_31 : decode cX9_glue 31 = .ok (.iaload, 1) := by decide +kernel
theorem dX9_glue_32 : decode cX9_glue 32 = .ok (.ifCond .le 41, 3) := by decide +kernel
theorem dX9_glue_35 : decode cX9_glue 35 = .ok (.aload_n 0, 1) := by decide +kernel
theorem dX9_glue_36 : decode cX9_glue 36 = .ok (.getfield 13, 3) := by decide +kernel
theorem dX9_glue_39 : decode cX9_glue 39 = .ok (.iload_n 2, 1) := by decide +kernel
theorem dX9_glue_40 : decode cX9_glue 40 = .ok (.iaload, 1) := by decide +kernel
theorem dX9_glue_41 : decode cX9_glue 41 = .ok (.ifCond .le 32, 3) := by decide +kernel
theorem dX9_glue_44 : decode cX9_glue 44 = .ok (.aload_n 0, 1) := by decide +kernel
theorem dX9_glue_45 : decode cX9_glue 45 = .ok (.iload_n 1, 1) := by decide +kernel
theorem dX9_glue_46 : decode cX9_glue 46 = .ok (.aload_n 0, 1) := by decide +kernel
theorem dX9_glue_47 : decode cX9_glue 47 = .ok (.getfield 13, 3) := by decide +kernel
theorem dX9_glue_50 : decode cX9_glue 50 = .ok (.iload_n 1, 1) := by decide +kernel
theorem dX9_glue_51 : decode cX9_glue 51 = .ok (.iaload, 1) := by decide +kernel
theorem dX9_glue_52 : decode cX9_glue 52 = .ok (.iconst 1, 1) := by decide +kernel
theorem dX9_glue_53 : decode cX9_glue 53 = .ok (.isub, 1) := by decide +kernel
theorem dX9_glue_54 : decode cX9_glue 54 = .ok (.invokevirtual 89, 3) := by decide +kernel
theorem dX9_glue_57 : decode cX9_glue 57 = .ok (.aload_n 0, 1) := by decide +kernel
theorem dX9_glue_58 : decode cX9_glue 58 = .ok (.iload_n 2, 1) := by decide +kernel
theorem dX9_glue_59 : decode cX9_glue 59 = .ok (.iconst 0, 1) := by decide +kernel
theorem dX9_glue_60 : decode cX9_glue 60 = .ok (.invokevirtual 89, 3) := by decide +kernel
theorem dX9_glue_63 : decode cX9_glue 63 = .ok (.if_icmp .lt 10, 3) := by decide +kernel
theorem dX9_glue_66 : decode cX9_glue 66 = .ok (.aload_n 0, 1) := by decide +kernel
theorem dX9_glue_67 : decode cX9_glue 67 = .ok (.ldc 125, 2) := by decide +kernel
theorem dX9_glue_69 : decode cX9_glue 69 = .ok (.invokevirtual 110, 3) := by decide +kernel
theorem dX9_glue_72 : decode cX9_glue 72 = .ok (.ireturn, 1) := by decide +kernel
theorem dX9_glue_73 : decode cX9_glue 73 = .ok (.aload_n 0, 1) := by decide +kernel
theorem dX9_glue_74 : decode cX9_glue 74 = .ok (.getfield 13, 3) := by decide +kernel
theorem dX9_glue_77 : decode cX9_glue 77 = .ok (.iload_n 1, 1) := by decide +kernel
theorem dX9_glue_78 : decode cX9_glue 78 = .ok (.iaload, 1) := by decide +kernel
theorem dX9_glue_79 : decode cX9_glue 79 = .ok (.aload_n 0, 1) := by decide +kernel
theorem dX9_glue_80 : decode cX9_glue 80 = .ok (.getfield 13, 3) := by decide +kernel
theorem dX9_glue_83 : decode cX9_glue 83 = .ok (.iload_n 2, 1) := by decide +kernel
theorem dX9_glue_84 : decode cX9_glue 84 = .ok (.iaload, 1) := by decide +kernel
theorem dX9_glue_85 : decode cX9_glue 85 = .ok (.iadd, 1) := by decide +kernel
theorem dX9_glue_86 : decode cX9_glue 86 = .ok (.sipush 200, 3) := by decide +kernel
theorem dX9_glue_89 : decode cX9_glue 89 = .ok (.if_icmp .le 10, 3) := by decide +kernel
theorem dX9_glue_92 : decode cX9_glue 92 = .ok (.aload_n 0, 1) := by decide +kernel
theorem dX9_glue_93 : decode cX9_glue 93 = .ok (.ldc 113, 2) := by decide +kernel
theorem dX9_glue_95 : decode cX9_glue 95 = .ok (.invokevirtual 110, 3) := by decide +kernel
theorem dX9_glue_98 : decode cX9_glue 98 = .ok (.ireturn, 1) := by decide +kernel
theorem dX9_glue_99 : decode cX9_glue 99 = .ok (.aload_n 0, 1) := by decide +kernel
theorem dX9_glue_100 : decode cX9_glue 100 = .ok (.invokevirtual 114, 3) := by decide +kernel
theorem dX9_glue_103 : decode cX9_glue 103 = .ok (.iconst 0, 1) := by decide +kernel
theorem dX9_glue_104 : decode cX9_glue 104 = .ok (.istore_n 3, 1) := by decide +kernel
theorem dX9_glue_105 : decode cX9_glue 105 = .ok (.iload_n 3, 1) := by decide +kernel
theorem dX9_glue_106 : decode cX9_glue 106 = .ok (.aload_n 0, 1) := by decide +kernel
theorem dX9_glue_107 : decode cX9_glue 107 = .ok (.getfield 13, 3) := by decide +kernel
theorem dX9_glue_110 : decode cX9_glue 110 = .ok (.iload_n 2, 1) := by decide +kernel
theorem dX9_glue_111 : decode cX9_glue 111 = .ok (.iaload, 1) := by decide +kernel
theorem dX9_glue_112 : decode cX9_glue 112 = .ok (.if_icmp .ge 40, 3) := by decide +kernel
theorem dX9_glue_115 : decode cX9_glue 115 = .ok (.aload_n 0, 1) := by decide +kernel
theorem dX9_glue_116 : decode cX9_glue 116 = .ok (.getfield 7, 3) := by decide +kernel
theorem dX9_glue_119 : decode cX9_glue 119 = .ok (.sipush 200, 3) := by decide +kernel
theorem dX9_glue_122 : decode cX9_glue 122 = .ok (.iload_n 1, 1) := by decide +kernel
theorem dX9_glue_123 : decode cX9_glue 123 = .ok (.imul, 1) := by decide +kernel
theorem dX9_glue_124 : decode cX9_glue 124 = .ok (.aload_n 0, 1) := by decide +kernel
theorem dX9_glue_125 : decode cX9_glue 125 = .ok (.getfield 13, 3) := by decide +kernel
theorem dX9_glue_128 : decode cX9_glue 128 = .ok (.iload_n 1, 1) := by decide +kernel
theorem dX9_glue_129 : decode cX9_glue 129 = .ok (.iaload, 1) := by decide +kernel
theorem dX9_glue_130 : decode cX9_glue 130 = .ok (.iadd, 1) := by decide +kernel
theorem dX9_glue_131 : decode cX9_glue 131 = .ok (.iload_n 3, 1) := by decide +kernel
theorem dX9_glue_132 : decode cX9_glue 132 = .ok (.iadd, 1) := by decide +kernel
theorem dX9_glue_133 : decode cX9_glue 133 = .ok (.aload_n 0, 1) := by decide +kernel
theorem dX9_glue_134 : decode cX9_glue 134 = .ok (.getfield 7, 3) := by decide +kernel
theorem dX9_glue_137 : decode cX9_glue 137 = .ok (.sipush 200, 3) := by decide +kernel
theorem dX9_glue_140 : decode cX9_glue 140 = .ok (.iload_n 2, 1) := by decide +kernel
theorem dX9_glue_141 : decode cX9_glue 141 = .ok (.imul, 1) := by decide +kernel
theorem dX9_glue_142 : decode cX9_glue 142 = .ok (.iload_n 3, 1) := by decide +kernel
theorem dX9_glue_143 : decode cX9_glue 143 = .ok (.iadd, 1) := by decide +kernel
theorem dX9_glue_144 : decode cX9_glue 144 = .ok (.iaload, 1) := by decide +kernel
theorem dX9_glue_145 : decode cX9_glue 145 = .ok (.iastore, 1) := by decide +kernel
theorem dX9_glue_146 : decode cX9_glue 146 = .ok (.iinc 3 1, 3) := by decide +kernel
theorem dX9_glue_149 : decode cX9_glue 149 = .ok (.goto (-44), 3) := by decide +kernel
theorem dX9_glue_152 : decode cX9_glue 152 = .ok (.aload_n 0, 1) := by decide +kernel
theorem dX9_glue_153 : decode cX9_glue 153 = .ok (.getfield 13, 3) := by decide +kernel
theorem dX9_glue_156 : decode cX9_glue 156 = .ok (.iload_n 1, 1) := by decide +kernel
theorem dX9_glue_157 : decode cX9_glue 157 = .ok (.dup2, 1) := by decide +kernel
theorem dX9_glue_158 : decode cX9_glue 158 = .ok (.iaload, 1) := by decide +kernel
theorem dX9_glue_159 : decode cX9_glue 159 = .ok (.aload_n 0, 1) := by decide +kernel
theorem dX9_glue_160 : decode cX9_glue 160 = .ok (.getfield 13, 3) := by decide +kernel
theorem dX9_glue_163 : decode cX9_glue 163 = .ok (.iload_n 2, 1) := by decide +kernel
theorem dX9_glue_164 : decode cX9_glue 164 = .ok (.iaload, 1) := by decide +kernel
theorem dX9_glue_165 : decode cX9_glue 165 = .ok (.iadd, 1) := by decide +kernel
theorem dX9_glue_166 : decode cX9_glue 166 = .ok (.iastore, 1) := by decide +kernel
theorem dX9_glue_167 : decode cX9_glue 167 = .ok (.aload_n 0, 1) := by decide +kernel
theorem dX9_glue_168 : decode cX9_glue 168 = .ok (.getfield 13, 3) := by decide +kernel
theorem dX9_glue_171 : decode cX9_glue 171 = .ok (.iload_n 2, 1) := by decide +kernel
theorem dX9_glue_172 : decode cX9_glue 172 = .ok (.iconst 0, 1) := by decide +kernel
theorem dX9_glue_173 : decode cX9_glue 173 = .ok (.iastore, 1) := by decide +kernel
theorem dX9_glue_174 : decode cX9_glue 174 = .ok (.aload_n 0, 1) := by decide +kernel
theorem dX9_glue_175 : decode cX9_glue 175 = .ok (.getfield 13, 3) := by decide +kernel
theorem dX9_glue_178 : decode cX9_glue 178 = .ok (.iload_n 1, 1) := by decide +kernel
theorem dX9_glue_179 : decode cX9_glue 179 = .ok (.iaload, 1) := by decide +kernel
theorem dX9_glue_180 : decode cX9_glue 180 = .ok (.ireturn, 1) := by decide +kernel
set_option maxRecDepth 20000 in
theorem ggX9_share_X9_isMap : GoodIn wsX9_share wsX9_isMap := goodIn_r _ [6, 7, 8, 9, 5, 10] (by decide +kernel) (by decide +kernel)
set_option maxRecDepth 20000 in
theorem gX9_share_X9_isMap : GoodIn wsX9_share (va_wsS RX9 107 yX9_isMap wsX9_isMap) := goodIn_app (goodIn_of _ (by decide +kernel)) ggX9_share_X9_isMap
set_option maxRecDepth 20000 in
theorem ggX9_share_X9_refuses : GoodIn wsX9_share wsX9_refuses := goodIn_r _ [14, 15, 1, 28, 29, 30, 31, 32, 33, 34, 35, 36, 37, 38, 39, 40, 41, 42, 43, 44, 45, 46, 47, 48, 49, 50, 51, 52, 53, 54] (by decide +kernel) (by decide +kernel)
set_option maxRecDepth 20000 in
theorem gX9_share_X9_refuses : GoodIn wsX9_share (wsV RX9 110 RX9 yX9_refuses wsX9_refuses) := goodIn_app (goodIn_of _ (by decide +kernel)) ggX9_share_X9_refuses
set_option maxRecDepth 20000 in
theorem ggX9_share_X9_keeps : GoodIn wsX9_share wsX9_keeps := goodIn_r _ [19, 20, 21, 22, 23, 2, 28, 29, 30, 31, 32, 33, 34, 35, 36, 37, 38, 39, 40, 41, 42, 43, 44, 45, 46, 47, 48, 49, 50, 51, 52, 53, 54] (by decide +kernel) (by decide +kernel)
set_option maxRecDepth 20000 in
theorem gX9_share_X9_keeps : GoodIn wsX9_share (wsV RX9 114 RX9 yX9_keeps wsX9_keeps) := goodIn_app (goodIn_of _ (by decide +kernel)) ggX9_share_X9_keeps
set_option maxRecDepth 20000 in
theorem ggX9_share_X9_copies : GoodIn wsX9_share wsX9_copies := goodIn_r _ [27, 23, 2, 28, 29, 30, 31, 32, 33, 34, 35, 36, 37, 38, 39, 40, 41, 42, 43, 44, 45, 46, 47, 48, 49, 50, 51, 52, 53, 54] (by decide +kernel) (by decide +kernel)
set_option maxRecDepth 20000 in
theorem gX9_share_X9_copies : GoodIn wsX9_share (wsV RX9 137 RX9 yX9_copies wsX9_copies) := goodIn_app (goodIn_of _ (by decide +kernel)) ggX9_share_X9_copies
theorem dX9_share_0 : decode cX9_share 0 = .ok (.iload_n 1, 1) := by decide +kernel
theorem dX9_share_1 : decode cX9_share 1 = .ok (.invokestatic 107, 3) := by decide +kernel
theorem dX9_share_4 : decode cX9_share 4 = .ok (.ifCond .eq 10, 3) := by decide +kernel
theorem dX9_share_7 : decode cX9_share 7 = .ok (.iload_n 2, 1) := by decide +kernel
theorem dX9_share_8 : decode cX9_share 8 = .ok (.invokestatic 107, 3) := by decide +kernel
theorem dX9_share_11 : decode cX9_share 11 = .ok (.ifCond .ne 10, 3) := by decide +kernel
theorem dX9_share_14 : decode cX9_share 14 = .ok (.aload_n 0, 1) := by decide +kernel
theorem dX9_share_15 : decode cX9_share 15 = .ok (.ldc 61, 2) := by decide +kernel
theorem dX9_share_17 : decode cX9_share 17 = .ok (.invokevirtual 110, 3) := by decide +kernel
theorem dX9_share_20 : decode cX9_share 20 = .ok (.ireturn, 1) := by decide +kernel
theorem dX9_share_21 : decode cX9_share 21 = .ok (.aload_n 0, 1) := by decide +kernel
theorem dX9_share_22 : decode cX9_share 22 = .ok (.invokevirtual 114, 3) := by decide +kernel
theorem dX9_share_25 : decode cX9_share 25 = .ok (.aload_n 0, 1) := by decide +kernel
theorem dX9_share_26 : decode cX9_share 26 = .ok (.iload_n 1, 1) := by decide +kernel
theorem dX9_share_27 : decode cX9_share 27 = .ok (.iconst 0, 1) := by decide +kernel
theorem dX9_share_28 : decode cX9_share 28 = .ok (.aload_n 0, 1) := by decide +kernel
theorem dX9_share_29 : decode cX9_share 29 = .ok (.getfield 13, 3) := by decide +kernel
theorem dX9_share_32 : decode cX9_share 32 = .ok (.iload_n 1, 1) := by decide +kernel
theorem dX9_share_33 : decode cX9_share 33 = .ok (.iaload, 1) := by decide +kernel
theorem dX9_share_34 : decode cX9_share 34 = .ok (.iload_n 2, 1) := by decide +kernel
theorem dX9_share_35 : decode cX9_share 35 = .ok (.invokevirtual 137, 3) := by decide +kernel
theorem dX9_share_38 : decode cX9_share 38 = .ok (.aload_n 0, 1) := by decide +kernel
theorem dX9_share_39 : decode cX9_share 39 = .ok (.getfield 13, 3) := by decide +kernel
theorem dX9_share_42 : decode cX9_share 42 = .ok (.iload_n 2, 1) := by decide +kernel
theorem dX9_share_43 : decode cX9_share 43 = .ok (.iaload, 1) := by decide +kernel
theorem dX9_share_44 : decode cX9_share 44 = .ok (.ireturn, 1) := by decide +kernel
set_option maxRecDepth 20000 in
theorem ggX9_mixed_X9_held : GoodIn wsX9_mixed wsX9_held := goodIn_r _ [6, 7, 8] (by decide +kernel) (by decide +kernel)
set_option maxRecDepth 20000 in
theorem gX9_mixed_X9_held : GoodIn wsX9_mixed (va_wsS RX9 144 yX9_held wsX9_held) := goodIn_app (goodIn_of _ (by decide +kernel)) ggX9_mixed_X9_held
theorem dX9_mixed_0 : decode cX9_mixed 0 = .ok (.aload_n 0, 1) := by decide +kernel
theorem dX9_mixed_1 : decode cX9_mixed 1 = .ok (.getfield 141, 3) := by decide +kernel
theorem dX9_mixed_4 : decode cX9_mixed 4 = .ok (.tableswitch 71 0 4 #[36, 38, 40, 49, 60], 36) := by decide +kernel
theorem dX9_mixed_40 : decode cX9_mixed 40 = .ok (.iload_n 1, 1) := by decide +kernel
theorem dX9_mixed_41 : decode cX9_mixed 41 = .ok (.ireturn, 1) := by decide +kernel
theorem dX9_mixed_42 : decode cX9_mixed 42 = .ok (.iload_n 2, 1) := by decide +kernel
theorem dX9_mixed_43 : decode cX9_mixed 43 = .ok (.ireturn, 1) := by decide +kernel
theorem dX9_mixed_44 : decode cX9_mixed 44 = .ok (.iload_n 1, 1) := by decide +kernel
theorem dX9_mixed_45 : decode cX9_mixed 45 = .ok (.i2l, 1) := by decide +kernel
theorem dX9_mixed_46 : decode cX9_mixed 46 = .ok (.iload_n 2, 1) := by decide +kernel
theorem dX9_mixed_47 : decode cX9_mixed 47 = .ok (.i2l, 1) := by decide +kernel
theorem dX9_mixed_48 : decode cX9_mixed 48 = .ok (.ladd, 1) := by decide +kernel
theorem dX9_mixed_49 : decode cX9_mixed 49 = .ok (.invokestatic 144, 3) := by decide +kernel
theorem dX9_mixed_52 : decode cX9_mixed 52 = .ok (.ireturn, 1) := by decide +kernel
theorem dX9_mixed_53 : decode cX9_mixed 53 = .ok (.iload_n 1, 1) := by decide +kernel
theorem dX9_mixed_54 : decode cX9_mixed 54 = .ok (.iload_n 2, 1) := by decide +kernel
theorem dX9_mixed_55 : decode cX9_mixed 55 = .ok (.if_icmp .le 7, 3) := by decide +kernel
theorem dX9_mixed_58 : decode cX9_mixed 58 = .ok (.iload_n 1, 1) := by decide +kernel
theorem dX9_mixed_59 : decode cX9_mixed 59 = .ok (.goto 4, 3) := by decide +kernel
theorem dX9_mixed_62 : decode cX9_mixed 62 = .ok (.iload_n 2, 1) := by decide +kernel
theorem dX9_mixed_63 : decode cX9_mixed 63 = .ok (.ireturn, 1) := by decide +kernel
theorem dX9_mixed_64 : decode cX9_mixed 64 = .ok (.iload_n 1, 1) := by decide +kernel
theorem dX9_mixed_65 : decode cX9_mixed 65 = .ok (.iload_n 2, 1) := by decide +kernel
theorem dX9_mixed_66 : decode cX9_mixed 66 = .ok (.if_icmp .ge 7, 3) := by decide +kernel
theorem dX9_mixed_69 : decode cX9_mixed 69 = .ok (.iload_n 1, 1) := by decide +kernel
theorem dX9_mixed_70 : decode cX9_mixed 70 = .ok (.goto 4, 3) := by decide +kernel
theorem dX9_mixed_73 : decode cX9_mixed 73 = .ok (.iload_n 2, 1) := by decide +kernel
theorem dX9_mixed_74 : decode cX9_mixed 74 = .ok (.ireturn, 1) := by decide +kernel
theorem dX9_mixed_75 : decode cX9_mixed 75 = .ok (.iload_n 1, 1) := by decide +kernel
theorem dX9_mixed_76 : decode cX9_mixed 76 = .ok (.i2l, 1) := by decide +kernel
theorem dX9_mixed_77 : decode cX9_mixed 77 = .ok (.iload_n 2, 1) := by decide +kernel
theorem dX9_mixed_78 : decode cX9_mixed 78 = .ok (.i2l, 1) := by decide +kernel
theorem dX9_mixed_79 : decode cX9_mixed 79 = .ok (.ladd, 1) := by decide +kernel
theorem dX9_mixed_80 : decode cX9_mixed 80 = .ok (.invokestatic 144, 3) := by decide +kernel
theorem dX9_mixed_83 : decode cX9_mixed 83 = .ok (.i2l, 1) := by decide +kernel
theorem dX9_mixed_84 : decode cX9_mixed 84 = .ok (.ldc2_w 148, 3) := by decide +kernel
theorem dX9_mixed_87 : decode cX9_mixed 87 = .ok (.iload_n 2, 1) := by decide +kernel
theorem dX9_mixed_88 : decode cX9_mixed 88 = .ok (.i2l, 1) := by decide +kernel
theorem dX9_mixed_89 : decode cX9_mixed 89 = .ok (.lmul, 1) := by decide +kernel
theorem dX9_mixed_90 : decode cX9_mixed 90 = .ok (.lsub, 1) := by decide +kernel
theorem dX9_mixed_91 : decode cX9_mixed 91 = .ok (.invokestatic 144, 3) := by decide +kernel
theorem dX9_mixed_94 : decode cX9_mixed 94 = .ok (.ireturn, 1) := by decide +kernel
set_option maxRecDepth 20000 in
theorem ggX9_joins_X9_mixed : GoodIn wsX9_joins wsX9_mixed := goodIn_r _ [6, 7, 8, 9, 10, 5, 11, 12, 13, 14, 15, 16, 17, 18, 19, 20, 21, 22, 23, 24, 25, 26, 27, 28, 29, 30, 31, 32, 33, 34, 35, 36, 37, 38, 39, 40] (by decide +kernel) (by decide +kernel)
set_option maxRecDepth 20000 in
theorem gX9_joins_X9_mixed : GoodIn wsX9_joins (wsV RX9 150 RX9 yX9_mixed wsX9_mixed) := goodIn_app (goodIn_of _ (by decide +kernel)) ggX9_joins_X9_mixed
theorem dX9_joins_0 : decode cX9_joins 0 = .ok (.iload_n 2, 1) := by decide +kernel
theorem dX9_joins_1 : decode cX9_joins 1 = .ok (.ldc 120, 2) := by decide +kernel
theorem dX9_joins_3 : decode cX9_joins 3 = .ok (.if_icmp .eq 26, 3) := by decide +kernel
theorem dX9_joins_6 : decode cX9_joins 6 = .ok (.iload_n 3, 1) := by decide +kernel
theorem dX9_joins_7 : decode cX9_joins 7 = .ok (.ldc 120, 2) := by decide +kernel
theorem dX9_joins_9 : decode cX9_joins 9 = .ok (.if_icmp .eq 20, 3) := by decide +kernel
theorem dX9_joins_12 : decode cX9_joins 12 = .ok (.iload_n 1, 1) := by decide +kernel
theorem dX9_joins_13 : decode cX9_joins 13 = .ok (.iconst 2, 1) := by decide +kernel
theorem dX9_joins_14 : decode cX9_joins 14 = .ok (.if_icmp .ge 12, 3) := by decide +kernel
theorem dX9_joins_17 : decode cX9_joins 17 = .ok (.aload_n 0, 1) := by decide +kernel
theorem dX9_joins_18 : decode cX9_joins 18 = .ok (.iload_n 2, 1) := by decide +kernel
theorem dX9_joins_19 : decode cX9_joins 19 = .ok (.iload_n 3, 1) := by decide +kernel
theorem dX9_joins_20 : decode cX9_joins 20 = .ok (.invokevirtual 150, 3) := by decide +kernel
theorem dX9_joins_23 : decode cX9_joins 23 = .ok (.goto 5, 3) := by decide +kernel
theorem dX9_joins_26 : decode cX9_joins 26 = .ok (.ldc 120, 2) := by decide +kernel
theorem dX9_joins_28 : decode cX9_joins 28 = .ok (.ireturn, 1) := by decide +kernel
theorem dX9_joins_29 : decode cX9_joins 29 = .ok (.iload_n 1, 1) := by decide +kernel
theorem dX9_joins_30 : decode cX9_joins 30 = .ok (.iconst 1, 1) := by decide +kernel
theorem dX9_joins_31 : decode cX9_joins 31 = .ok (.if_icmp .ne 8, 3) := by decide +kernel
theorem dX9_joins_34 : decode cX9_joins 34 = .ok (.ldc 120, 2) := by decide +kernel
theorem dX9_joins_36 : decode cX9_joins 36 = .ok (.goto 19, 3) := by decide +kernel
theorem dX9_joins_39 : decode cX9_joins 39 = .ok (.iload_n 1, 1) := by decide +kernel
theorem dX9_joins_40 : decode cX9_joins 40 = .ok (.iconst 2, 1) := by decide +kernel
theorem dX9_joins_41 : decode cX9_joins 41 = .ok (.if_icmp .eq 9, 3) := by decide +kernel
theorem dX9_joins_44 : decode cX9_joins 44 = .ok (.iload_n 2, 1) := by decide +kernel
theorem dX9_joins_45 : decode cX9_joins 45 = .ok (.ldc 120, 2) := by decide +kernel
theorem dX9_joins_47 : decode cX9_joins 47 = .ok (.if_icmp .eq 7, 3) := by decide +kernel
theorem dX9_joins_50 : decode cX9_joins 50 = .ok (.iload_n 2, 1) := by decide +kernel
theorem dX9_joins_51 : decode cX9_joins 51 = .ok (.goto 4, 3) := by decide +kernel
theorem dX9_joins_54 : decode cX9_joins 54 = .ok (.iload_n 3, 1) := by decide +kernel
theorem dX9_joins_55 : decode cX9_joins 55 = .ok (.ireturn, 1) := by decide +kernel
theorem dX9_becomes_0 : decode cX9_becomes 0 = .ok (.iconst 0, 1) := by decide +kernel
theorem dX9_becomes_1 : decode cX9_becomes 1 = .ok (.istore_n 3, 1) := by decide +kernel
theorem dX9_becomes_2 : decode cX9_becomes 2 = .ok (.iload_n 3, 1) := by decide +kernel
theorem dX9_becomes_3 : decode cX9_becomes 3 = .ok (.iload_n 2, 1) := by decide +kernel
theorem dX9_becomes_4 : decode cX9_becomes 4 = .ok (.if_icmp .ge 27, 3) := by decide +kernel
theorem dX9_becomes_7 : decode cX9_becomes 7 = .ok (.aload_n 0, 1) := by decide +kernel
theorem dX9_becomes_8 : decode cX9_becomes 8 = .ok (.getfield 7, 3) := by decide +kernel
theorem dX9_becomes_11 : decode cX9_becomes 11 = .ok (.sipush 200, 3) := by decide +kernel
theorem dX9_becomes_14 : decode cX9_becomes 14 = .ok (.iload_n 1, 1) := by decide +kernel
theorem dX9_becomes_15 : decode cX9_becomes 15 = .ok (.imul, 1) := by decide +kernel
theorem dX9_becomes_16 : decode cX9_becomes 16 = .ok (.iload_n 3, 1) := by decide +kernel
theorem dX9_becomes_17 : decode cX9_becomes 17 = .ok (.iadd, 1) := by decide +kernel
theorem dX9_becomes_18 : decode cX9_becomes 18 = .ok (.aload_n 0, 1) := by decide +kernel
theorem dX9_becomes_19 : decode cX9_becomes 19 = .ok (.getfield 28, 3) := by decide +kernel
theorem dX9_becomes_22 : decode cX9_becomes 22 = .ok (.iload_n 3, 1) := by decide +kernel
theorem dX9_becomes_23 : decode cX9_becomes 23 = .ok (.iaload, 1) := by decide +kernel
theorem dX9_becomes_24 : decode cX9_becomes 24 = .ok (.iastore, 1) := by decide +kernel
theorem dX9_becomes_25 : decode cX9_becomes 25 = .ok (.iinc 3 1, 3) := by decide +kernel
theorem dX9_becomes_28 : decode cX9_becomes 28 = .ok (.goto (-26), 3) := by decide +kernel
theorem dX9_becomes_31 : decode cX9_becomes 31 = .ok (.aload_n 0, 1) := by decide +kernel
theorem dX9_becomes_32 : decode cX9_becomes 32 = .ok (.getfield 13, 3) := by decide +kernel
theorem dX9_becomes_35 : decode cX9_becomes 35 = .ok (.iload_n 1, 1) := by decide +kernel
theorem dX9_becomes_36 : decode cX9_becomes 36 = .ok (.iload_n 2, 1) := by decide +kernel
theorem dX9_becomes_37 : decode cX9_becomes 37 = .ok (.iastore, 1) := by decide +kernel
theorem dX9_becomes_38 : decode cX9_becomes 38 = .ok (.return_, 1) := by decide +kernel
set_option maxRecDepth 20000 in
theorem ggX9_mix_X9_in : GoodIn wsX9_mix wsX9_in := goodIn_r _ [9] (by decide +kernel) (by decide +kernel)
set_option maxRecDepth 20000 in
theorem gX9_mix_X9_in : GoodIn wsX9_mix (va_wsS RX9 68 yX9_in wsX9_in) := goodIn_app (goodIn_of _ (by decide +kernel)) ggX9_mix_X9_in
set_option maxRecDepth 20000 in
theorem ggX9_mix_X9_isMap : GoodIn wsX9_mix wsX9_isMap := goodIn_r _ [12, 13, 6, 7, 8, 9] (by decide +kernel) (by decide +kernel)
set_option maxRecDepth 20000 in
theorem gX9_mix_X9_isMap : GoodIn wsX9_mix (va_wsS RX9 107 yX9_isMap wsX9_isMap) := goodIn_app (goodIn_of _ (by decide +kernel)) ggX9_mix_X9_isMap
set_option maxRecDepth 20000 in
theorem ggX9_mix_X9_refuses : GoodIn wsX9_mix wsX9_refuses := goodIn_r _ [17, 18, 2, 70, 71, 72, 73, 74, 75, 76, 77, 78, 79, 80, 81, 82, 83, 84, 85, 86, 87, 88, 89, 90, 91, 92, 93, 94, 95, 96] (by decide +kernel) (by decide +kernel)
set_option maxRecDepth 20000 in
theorem gX9_mix_X9_refuses : GoodIn wsX9_mix (wsV RX9 110 RX9 yX9_refuses wsX9_refuses) := goodIn_app (goodIn_of _ (by decide +kernel)) ggX9_mix_X9_refuses
set_option maxRecDepth 20000 in
theorem ggX9_mix_X9_isThere : GoodIn wsX9_mix wsX9_isThere := goodIn_r _ [22, 23, 24, 25, 26, 8, 27, 28, 29, 30, 31, 70, 71, 72, 73, 74, 75, 76, 77, 78, 79, 80, 81, 82, 83, 84, 85, 86, 87, 88, 89, 90, 91, 92, 93, 94, 95, 96] (by decide +kernel) (by decide +kernel)
set_option maxRecDepth 20000 in
theorem gX9_mix_X9_isThere : GoodIn wsX9_mix (wsV RX9 96 RX9 yX9_isThere wsX9_isThere) := goodIn_app (goodIn_of _ (by decide +kernel)) ggX9_mix_X9_isThere
set_option maxRecDepth 20000 in
theorem ggX9_mix_X9_valueAt : GoodIn wsX9_mix wsX9_valueAt := goodIn_r _ [35, 28, 36, 37, 8, 38, 39, 40, 70, 71, 72, 73, 74, 75, 76, 77, 78, 79, 80, 81, 82, 83, 84, 85, 86, 87, 88, 89, 90, 91, 92, 93, 94, 95, 96] (by decide +kernel) (by decide +kernel)
set_option maxRecDepth 20000 in
theorem gX9_mix_X9_valueAt : GoodIn wsX9_mix (wsV RX9 117 RX9 yX9_valueAt wsX9_valueAt) := goodIn_app (goodIn_of _ (by decide +kernel)) ggX9_mix_X9_valueAt
set_option maxRecDepth 20000 in
theorem ggX9_mix_X9_joins : GoodIn wsX9_mix wsX9_joins := goodIn_r _ [44, 3, 45, 46, 47, 8, 48, 49, 50, 51, 52, 53, 54, 55, 70, 71, 72, 73, 74, 75, 76, 77, 78, 79, 80, 81, 82, 83, 84, 85, 86, 87, 88, 89, 90, 91, 92, 93, 94, 95, 96] (by decide +kernel) (by decide +kernel)
set_option maxRecDepth 20000 in
theorem gX9_mix_X9_joins : GoodIn wsX9_mix (wsV RX9 155 RX9 yX9_joins wsX9_joins) := goodIn_app (goodIn_of _ (by decide +kernel)) ggX9_mix_X9_joins
set_option maxRecDepth 20000 in
theorem ggX9_mix_X9_entry : GoodIn wsX9_mix wsX9_entry := goodIn_r _ [58, 40] (by decide +kernel) (by decide +kernel)
set_option maxRecDepth 20000 in
theorem gX9_mix_X9_entry : GoodIn wsX9_mix (va_wsS RX9 100 yX9_entry wsX9_entry) := goodIn_app (goodIn_of _ (by decide +kernel)) ggX9_mix_X9_entry
set_option maxRecDepth 20000 in
theorem ggX9_mix_X9_keeps : GoodIn wsX9_mix wsX9_keeps := goodIn_r _ [62, 63, 64, 65, 28, 23, 70, 71, 72, 73, 74, 75, 76, 77, 78, 79, 80, 81, 82, 83, 84, 85, 86, 87, 88, 89, 90, 91, 92, 93, 94, 95, 96] (by decide +kernel) (by decide +kernel)
set_option maxRecDepth 20000 in
theorem gX9_mix_X9_keeps : GoodIn wsX9_mix (wsV RX9 114 RX9 yX9_keeps wsX9_keeps) := goodIn_app (goodIn_of _ (by decide +kernel)) ggX9_mix_X9_keeps
set_option maxRecDepth 20000 in
theorem ggX9_mix_X9_becomes : GoodIn wsX9_mix wsX9_becomes := goodIn_r _ [69, 28, 4, 23, 70, 71, 72, 73, 74, 75, 76, 77, 78, 79, 80, 81, 82, 83, 84, 85, 86, 87, 88, 89, 90, 91, 92, 93, 94, 95, 96] (by decide +kernel) (by decide +kernel)
set_option maxRecDepth 20000 in
theorem gX9_mix_X9_becomes : GoodIn wsX9_mix (wsV RX9 159 RX9 yX9_becomes wsX9_becomes) := goodIn_app (goodIn_of _ (by decide +kernel)) ggX9_mix_X9_becomes
theorem dX9_mix_0 : decode cX9_mix 0 = .ok (.iload_n 1, 1) := by decide +kernel
theorem dX9_mix_1 : decode cX9_mix 1 = .ok (.i2l, 1) := by decide +kernel
theorem dX9_mix_2 : decode cX9_mix 2 = .ok (.lconst 0, 1) := by decide +kernel
theorem dX9_mix_3 : decode cX9_mix 3 = .ok (.ldc2_w 153, 3) := by decide +kernel
theorem dX9_mix_6 : decode cX9_mix 6 = .ok (.invokestatic 68, 3) := by decide +kernel
theorem dX9_mix_9 : decode cX9_mix 9 = .ok (.ifCond .eq 25, 3) := by decide +kernel
theorem dX9_mix_12 : decode cX9_mix 12 = .ok (.iload_n 2, 1) := by decide +kernel
theorem dX9_mix_13 : decode cX9_mix 13 = .ok (.invokestatic 107, 3) := by decide +kernel
theorem dX9_mix_16 : decode cX9_mix 16 = .ok (.ifCond .eq 18, 3) := by decide +kernel
theorem dX9_mix_19 : decode cX9_mix 19 = .ok (.iload_n 3, 1) := by decide +kernel
theorem dX9_mix_20 : decode cX9_mix 20 = .ok (.invokestatic 107, 3) := by decide +kernel
theorem dX9_mix_23 : decode cX9_mix 23 = .ok (.ifCond .eq 11, 3) := by decide +kernel
theorem dX9_mix_26 : decode cX9_mix 26 = .ok (.iload 4, 2) := by decide +kernel
theorem dX9_mix_28 : decode cX9_mix 28 = .ok (.invokestatic 107, 3) := by decide +kernel
theorem dX9_mix_31 : decode cX9_mix 31 = .ok (.ifCond .ne 10, 3) := by decide +kernel
theorem dX9_mix_34 : decode cX9_mix 34 = .ok (.aload_n 0, 1) := by decide +kernel
theorem dX9_mix_35 : decode cX9_mix 35 = .ok (.ldc 61, 2) := by decide +kernel
theorem dX9_mix_37 : decode cX9_mix 37 = .ok (.invokevirtual 110, 3) := by decide +kernel
theorem dX9_mix_40 : decode cX9_mix 40 = .ok (.ireturn, 1) := by decide +kernel
theorem dX9_mix_41 : decode cX9_mix 41 = .ok (.iconst 0, 1) := by decide +kernel
theorem dX9_mix_42 : decode cX9_mix 42 = .ok (.istore 5, 2) := by decide +kernel
theorem dX9_mix_44 : decode cX9_mix 44 = .ok (.iconst 0, 1) := by decide +kernel
theorem dX9_mix_45 : decode cX9_mix 45 = .ok (.istore 6, 2) := by decide +kernel
theorem dX9_mix_47 : decode cX9_mix 47 = .ok (.iconst 0, 1) := by decide +kernel
theorem dX9_mix_48 : decode cX9_mix 48 = .ok (.istore 7, 2) := by decide +kernel
theorem dX9_mix_50 : decode cX9_mix 50 = .ok (.sipush (-500), 3) := by decide +kernel
theorem dX9_mix_53 : decode cX9_mix 53 = .ok (.istore 8, 2) := by decide +kernel
theorem dX9_mix_55 : decode cX9_mix 55 = .ok (.iload 8, 2) := by decide +kernel
theorem dX9_mix_57 : decode cX9_mix 57 = .ok (.sipush 500, 3) := by decide +kernel
theorem dX9_mix_60 : decode cX9_mix 60 = .ok (.if_icmp .gt 138, 3) := by decide +kernel
theorem dX9_mix_63 : decode cX9_mix 63 = .ok (.iload 7, 2) := by decide +kernel
theorem dX9_mix_65 : decode cX9_mix 65 = .ok (.sipush 200, 3) := by decide +kernel
theorem dX9_mix_68 : decode cX9_mix 68 = .ok (.if_icmp .gt 130, 3) := by decide +kernel
theorem dX9_mix_71 : decode cX9_mix 71 = .ok (.aload_n 0, 1) := by decide +kernel
theorem dX9_mix_72 : decode cX9_mix 72 = .ok (.iload_n 2, 1) := by decide +kernel
theorem dX9_mix_73 : decode cX9_mix 73 = .ok (.iload 5, 2) := by decide +kernel
theorem dX9_mix_75 : decode cX9_mix 75 = .ok (.iload 8, 2) := by decide +kernel
theorem dX9_mix_77 : decode cX9_mix 77 = .ok (.invokevirtual 96, 3) := by decide +kernel
theorem dX9_mix_80 : decode cX9_mix 80 = .ok (.ifCond .eq 13, 3) := by decide +kernel
theorem dX9_mix_83 : decode cX9_mix 83 = .ok (.aload_n 0, 1) := by decide +kernel
theorem dX9_mix_84 : decode cX9_mix 84 = .ok (.iload_n 2, 1) := by decide +kernel
theorem dX9_mix_85 : decode cX9_mix 85 = .ok (.iload 5, 2) := by decide +kernel
theorem dX9_mix_87 : decode cX9_mix 87 = .ok (.invokevirtual 117, 3) := by decide +kernel
theorem dX9_mix_90 : decode cX9_mix 90 = .ok (.goto 5, 3) := by decide +kernel
theorem dX9_mix_93 : decode cX9_mix 93 = .ok (.ldc 120, 2) := by decide +kernel
theorem dX9_mix_95 : decode cX9_mix 95 = .ok (.istore 9, 2) := by decide +kernel
theorem dX9_mix_97 : decode cX9_mix 97 = .ok (.aload_n 0, 1) := by decide +kernel
theorem dX9_mix_98 : decode cX9_mix 98 = .ok (.iload_n 3, 1) := by decide +kernel
theorem dX9_mix_99 : decode cX9_mix 99 = .ok (.iload 6, 2) := by decide +kernel
theorem dX9_mix_101 : decode cX9_mix 101 = .ok (.iload 8, 2) := by decide +kernel
theorem dX9_mix_103 : decode cX9_mix 103 = .ok (.invokevirtual 96, 3) := by decide +kernel
theorem dX9_mix_106 : decode cX9_mix 106 = .ok (.ifCond .eq 13, 3) := by decide +kernel
theorem dX9_mix_109 : decode cX9_mix 109 = .ok (.aload_n 0, 1) := by decide +kernel
theorem dX9_mix_110 : decode cX9_mix 110 = .ok (.iload_n 3, 1) := by decide +kernel
theorem dX9_mix_111 : decode cX9_mix 111 = .ok (.iload 6, 2) := by decide +kernel
theorem dX9_mix_113 : decode cX9_mix 113 = .ok (.invokevirtual 117, 3) := by decide +kernel
theorem dX9_mix_116 : decode cX9_mix 116 = .ok (.goto 5, 3) := by decide +kernel
theorem dX9_mix_119 : decode cX9_mix 119 = .ok (.ldc 120, 2) := by decide +kernel
theorem dX9_mix_121 : decode cX9_mix 121 = .ok (.istore 10, 2) := by decide +kernel
theorem dX9_mix_123 : decode cX9_mix 123 = .ok (.iload 5, 2) := by decide +kernel
theorem dX9_mix_125 : decode cX9_mix 125 = .ok (.iload 9, 2) := by decide +kernel
theorem dX9_mix_127 : decode cX9_mix 127 = .ok (.ldc 120, 2) := by decide +kernel
theorem dX9_mix_129 : decode cX9_mix 129 = .ok (.if_icmp .ne 7, 3) := by decide +kernel
theorem dX9_mix_132 : decode cX9_mix 132 = .ok (.iconst 0, 1) := by decide +kernel
theorem dX9_mix_133 : decode cX9_mix 133 = .ok (.goto 4, 3) := by decide +kernel
theorem dX9_mix_136 : decode cX9_mix 136 = .ok (.iconst 1, 1) := by decide +kernel
theorem dX9_mix_137 : decode cX9_mix 137 = .ok (.iadd, 1) := by decide +kernel
theorem dX9_mix_138 : decode cX9_mix 138 = .ok (.istore 5, 2) := by decide +kernel
theorem dX9_mix_140 : decode cX9_mix 140 = .ok (.iload 6, 2) := by decide +kernel
theorem dX9_mix_142 : decode cX9_mix 142 = .ok (.iload 10, 2) := by decide +kernel
theorem dX9_mix_144 : decode cX9_mix 144 = .ok (.ldc 120, 2) := by decide +kernel
theorem dX9_mix_146 : decode cX9_mix 146 = .ok (.if_icmp .ne 7, 3) := by decide +kernel
theorem dX9_mix_149 : decode cX9_mix 149 = .ok (.iconst 0, 1) := by decide +kernel
theorem dX9_mix_150 : decode cX9_mix 150 = .ok (.goto 4, 3) := by decide +kernel
theorem dX9_mix_153 : decode cX9_mix 153 = .ok (.iconst 1, 1) := by decide +kernel
theorem dX9_mix_154 : decode cX9_mix 154 = .ok (.iadd, 1) := by decide +kernel
theorem dX9_mix_155 : decode cX9_mix 155 = .ok (.istore 6, 2) := by decide +kernel
theorem dX9_mix_157 : decode cX9_mix 157 = .ok (.aload_n 0, 1) := by decide +kernel
theorem dX9_mix_158 : decode cX9_mix 158 = .ok (.iload_n 1, 1) := by decide +kernel
theorem dX9_mix_159 : decode cX9_mix 159 = .ok (.iload 9, 2) := by decide +kernel
theorem dX9_mix_161 : decode cX9_mix 161 = .ok (.iload 10, 2) := by decide +kernel
theorem dX9_mix_163 : decode cX9_mix 163 = .ok (.invokevirtual 155, 3) := by decide +kernel
theorem dX9_mix_166 : decode cX9_mix 166 = .ok (.istore 11, 2) := by decide +kernel
theorem dX9_mix_168 : decode cX9_mix 168 = .ok (.iload 11, 2) := by decide +kernel
theorem dX9_mix_170 : decode cX9_mix 170 = .ok (.ldc 120, 2) := by decide +kernel
theorem dX9_mix_172 : decode cX9_mix 172 = .ok (.if_icmp .eq 20, 3) := by decide +kernel
theorem dX9_mix_175 : decode cX9_mix 175 = .ok (.aload_n 0, 1) := by decide +kernel
theorem dX9_mix_176 : decode cX9_mix 176 = .ok (.getfield 28, 3) := by decide +kernel
theorem dX9_mix_179 : decode cX9_mix 179 = .ok (.iload 7, 2) := by decide +kernel
theorem dX9_mix_181 : decode cX9_mix 181 = .ok (.iload 8, 2) := by decide +kernel
theorem dX9_mix_183 : decode cX9_mix 183 = .ok (.iload 11, 2) := by decide +kernel
theorem dX9_mix_185 : decode cX9_mix 185 = .ok (.invokestatic 100, 3) := by decide +kernel
theorem dX9_mix_188 : decode cX9_mix 188 = .ok (.iastore, 1) := by decide +kernel
theorem dX9_mix_189 : decode cX9_mix 189 = .ok (.iinc 7 1, 3) := by decide +kernel
theorem dX9_mix_192 : decode cX9_mix 192 = .ok (.iinc 8 1, 3) := by decide +kernel
theorem dX9_mix_195 : decode cX9_mix 195 = .ok (.goto (-140), 3) := by decide +kernel
theorem dX9_mix_198 : decode cX9_mix 198 = .ok (.iload 7, 2) := by decide +kernel
theorem dX9_mix_200 : decode cX9_mix 200 = .ok (.sipush 200, 3) := by decide +kernel
theorem dX9_mix_203 : decode cX9_mix 203 = .ok (.if_icmp .le 10, 3) := by decide +kernel
theorem dX9_mix_206 : decode cX9_mix 206 = .ok (.aload_n 0, 1) := by decide +kernel
theorem dX9_mix_207 : decode cX9_mix 207 = .ok (.ldc 113, 2) := by decide +kernel
theorem dX9_mix_209 : decode cX9_mix 209 = .ok (.invokevirtual 110, 3) := by decide +kernel
theorem dX9_mix_212 : decode cX9_mix 212 = .ok (.ireturn, 1) := by decide +kernel
theorem dX9_mix_213 : decode cX9_mix 213 = .ok (.aload_n 0, 1) := by decide +kernel
theorem dX9_mix_214 : decode cX9_mix 214 = .ok (.invokevirtual 114, 3) := by decide +kernel
theorem dX9_mix_217 : decode cX9_mix 217 = .ok (.aload_n 0, 1) := by decide +kernel
theorem dX9_mix_218 : decode cX9_mix 218 = .ok (.iload 4, 2) := by decide +kernel
theorem dX9_mix_220 : decode cX9_mix 220 = .ok (.iload 7, 2) := by decide +kernel
theorem dX9_mix_222 : decode cX9_mix 222 = .ok (.invokevirtual 159, 3) := by decide +kernel
theorem dX9_mix_225 : decode cX9_mix 225 = .ok (.iload 7, 2) := by decide +kernel
theorem dX9_mix_227 : decode cX9_mix 227 = .ok (.ireturn, 1) := by decide +kernel
set_option maxRecDepth 20000 in
theorem ggX9_fill_X9_isMap : GoodIn wsX9_fill wsX9_isMap := goodIn_r _ [10, 11, 12, 13, 9, 14] (by decide +kernel) (by decide +kernel)
set_option maxRecDepth 20000 in
theorem gX9_fill_X9_isMap : GoodIn wsX9_fill (va_wsS RX9 107 yX9_isMap wsX9_isMap) := goodIn_app (goodIn_of _ (by decide +kernel)) ggX9_fill_X9_isMap
set_option maxRecDepth 20000 in
theorem ggX9_fill_X9_isKey : GoodIn wsX9_fill wsX9_isKey := goodIn_r _ [17, 18, 19, 12, 13, 9, 14] (by decide +kernel) (by decide +kernel)
set_option maxRecDepth 20000 in
theorem gX9_fill_X9_isKey : GoodIn wsX9_fill (va_wsS RX9 76 yX9_isKey wsX9_isKey) := goodIn_app (goodIn_of _ (by decide +kernel)) ggX9_fill_X9_isKey
set_option maxRecDepth 20000 in
theorem ggX9_fill_X9_in : GoodIn wsX9_fill wsX9_in := goodIn_r _ [14] (by decide +kernel) (by decide +kernel)
set_option maxRecDepth 20000 in
theorem gX9_fill_X9_in : GoodIn wsX9_fill (va_wsS RX9 68 yX9_in wsX9_in) := goodIn_app (goodIn_of _ (by decide +kernel)) ggX9_fill_X9_in
set_option maxRecDepth 20000 in
theorem ggX9_fill_X9_refuses : GoodIn wsX9_fill wsX9_refuses := goodIn_r _ [23, 24, 3, 41, 42, 43, 44, 45, 46, 47, 48, 49, 50, 51, 52, 53, 54, 55, 56, 57, 58, 59, 60, 61, 62, 63, 64, 65, 66, 67] (by decide +kernel) (by decide +kernel)
set_option maxRecDepth 20000 in
theorem gX9_fill_X9_refuses : GoodIn wsX9_fill (wsV RX9 110 RX9 yX9_refuses wsX9_refuses) := goodIn_app (goodIn_of _ (by decide +kernel)) ggX9_fill_X9_refuses
set_option maxRecDepth 20000 in
theorem ggX9_fill_X9_keeps : GoodIn wsX9_fill wsX9_keeps := goodIn_r _ [28, 29, 30, 31, 5, 6, 41, 42, 43, 44, 45, 46, 47, 48, 49, 50, 51, 52, 53, 54, 55, 56, 57, 58, 59, 60, 61, 62, 63, 64, 65, 66, 67] (by decide +kernel) (by decide +kernel)
set_option maxRecDepth 20000 in
theorem gX9_fill_X9_keeps : GoodIn wsX9_fill (wsV RX9 114 RX9 yX9_keeps wsX9_keeps) := goodIn_app (goodIn_of _ (by decide +kernel)) ggX9_fill_X9_keeps
set_option maxRecDepth 20000 in
theorem ggX9_fill_X9_held : GoodIn wsX9_fill wsX9_held := goodIn_r _ [34, 35, 36] (by decide +kernel) (by decide +kernel)
set_option maxRecDepth 20000 in
theorem gX9_fill_X9_held : GoodIn wsX9_fill (va_wsS RX9 144 yX9_held wsX9_held) := goodIn_app (goodIn_of _ (by decide +kernel)) ggX9_fill_X9_held
set_option maxRecDepth 20000 in
theorem ggX9_fill_X9_entry : GoodIn wsX9_fill wsX9_entry := goodIn_r _ [39, 40] (by decide +kernel) (by decide +kernel)
set_option maxRecDepth 20000 in
theorem gX9_fill_X9_entry : GoodIn wsX9_fill (va_wsS RX9 100 yX9_entry wsX9_entry) := goodIn_app (goodIn_of _ (by decide +kernel)) ggX9_fill_X9_entry
theorem dX9_fill_0 : decode cX9_fill 0 = .ok (.iload_n 1, 1) := by decide +kernel
theorem dX9_fill_1 : decode cX9_fill 1 = .ok (.invokestatic 107, 3) := by decide +kernel
theorem dX9_fill_4 : decode cX9_fill 4 = .ok (.ifCond .eq 35, 3) := by decide +kernel
theorem dX9_fill_7 : decode cX9_fill 7 = .ok (.iload_n 2, 1) := by decide +kernel
theorem dX9_fill_8 : decode cX9_fill 8 = .ok (.invokestatic 76, 3) := by decide +kernel
theorem dX9_fill_11 : decode cX9_fill 11 = .ok (.ifCond .eq 28, 3) := by decide +kernel
theorem dX9_fill_14 : decode cX9_fill 14 = .ok (.iload_n 3, 1) := by decide +kernel
theorem dX9_fill_15 : decode cX9_fill 15 = .ok (.i2l, 1) := by decide +kernel
theorem dX9_fill_16 : decode cX9_fill 16 = .ok (.lconst 0, 1) := by decide +kernel
theorem dX9_fill_17 : decode cX9_fill 17 = .ok (.ldc2_w 163, 3) := by decide +kernel
theorem dX9_fill_20 : decode cX9_fill 20 = .ok (.invokestatic 68, 3) := by decide +kernel
theorem dX9_fill_23 : decode cX9_fill 23 = .ok (.ifCond .eq 16, 3) := by decide +kernel
theorem dX9_fill_26 : decode cX9_fill 26 = .ok (.iload 4, 2) := by decide +kernel
theorem dX9_fill_28 : decode cX9_fill 28 = .ok (.i2l, 1) := by decide +kernel
theorem dX9_fill_29 : decode cX9_fill 29 = .ok (.lconst 1, 1) := by decide +kernel
theorem dX9_fill_30 : decode cX9_fill 30 = .ok (.ldc2_w 165, 3) := by decide +kernel
theorem dX9_fill_33 : decode cX9_fill 33 = .ok (.invokestatic 68, 3) := by decide +kernel
theorem dX9_fill_36 : decode cX9_fill 36 = .ok (.ifCond .ne 10, 3) := by decide +kernel
theorem dX9_fill_39 : decode cX9_fill 39 = .ok (.aload_n 0, 1) := by decide +kernel
theorem dX9_fill_40 : decode cX9_fill 40 = .ok (.ldc 61, 2) := by decide +kernel
theorem dX9_fill_42 : decode cX9_fill 42 = .ok (.invokevirtual 110, 3) := by decide +kernel
theorem dX9_fill_45 : decode cX9_fill 45 = .ok (.ireturn, 1) := by decide +kernel
theorem dX9_fill_46 : decode cX9_fill 46 = .ok (.iload_n 3, 1) := by decide +kernel
theorem dX9_fill_47 : decode cX9_fill 47 = .ok (.ifCond .le 24, 3) := by decide +kernel
theorem dX9_fill_50 : decode cX9_fill 50 = .ok (.iload_n 2, 1) := by decide +kernel
theorem dX9_fill_51 : decode cX9_fill 51 = .ok (.iload_n 3, 1) := by decide +kernel
theorem dX9_fill_52 : decode cX9_fill 52 = .ok (.iconst 1, 1) := by decide +kernel
theorem dX9_fill_53 : decode cX9_fill 53 = .ok (.isub, 1) := by decide +kernel
theorem dX9_fill_54 : decode cX9_fill 54 = .ok (.iload 4, 2) := by decide +kernel
theorem dX9_fill_56 : decode cX9_fill 56 = .ok (.imul, 1) := by decide +kernel
theorem dX9_fill_57 : decode cX9_fill 57 = .ok (.iadd, 1) := by decide +kernel
theorem dX9_fill_58 : decode cX9_fill 58 = .ok (.sipush 500, 3) := by decide +kernel
theorem dX9_fill_61 : decode cX9_fill 61 = .ok (.if_icmp .le 10, 3) := by decide +kernel
theorem dX9_fill_64 : decode cX9_fill 64 = .ok (.aload_n 0, 1) := by decide +kernel
theorem dX9_fill_65 : decode cX9_fill 65 = .ok (.ldc 125, 2) := by decide +kernel
theorem dX9_fill_67 : decode cX9_fill 67 = .ok (.invokevirtual 110, 3) := by decide +kernel
theorem dX9_fill_70 : decode cX9_fill 70 = .ok (.ireturn, 1) := by decide +kernel
theorem dX9_fill_71 : decode cX9_fill 71 = .ok (.aload_n 0, 1) := by decide +kernel
theorem dX9_fill_72 : decode cX9_fill 72 = .ok (.invokevirtual 114, 3) := by decide +kernel
theorem dX9_fill_75 : decode cX9_fill 75 = .ok (.iconst 0, 1) := by decide +kernel
theorem dX9_fill_76 : decode cX9_fill 76 = .ok (.istore 5, 2) := by decide +kernel
theorem dX9_fill_78 : decode cX9_fill 78 = .ok (.iload 5, 2) := by decide +kernel
theorem dX9_fill_80 : decode cX9_fill 80 = .ok (.iload_n 3, 1) := by decide +kernel
theorem dX9_fill_81 : decode cX9_fill 81 = .ok (.if_icmp .ge 45, 3) := by decide +kernel
theorem dX9_fill_84 : decode cX9_fill 84 = .ok (.iload_n 2, 1) := by decide +kernel
theorem dX9_fill_85 : decode cX9_fill 85 = .ok (.iload 5, 2) := by decide +kernel
theorem dX9_fill_87 : decode cX9_fill 87 = .ok (.iload 4, 2) := by decide +kernel
theorem dX9_fill_89 : decode cX9_fill 89 = .ok (.imul, 1) := by decide +kernel
theorem dX9_fill_90 : decode cX9_fill 90 = .ok (.iadd, 1) := by decide +kernel
theorem dX9_fill_91 : decode cX9_fill 91 = .ok (.istore 6, 2) := by decide +kernel
theorem dX9_fill_93 : decode cX9_fill 93 = .ok (.aload_n 0, 1) := by decide +kernel
theorem dX9_fill_94 : decode cX9_fill 94 = .ok (.getfield 7, 3) := by decide +kernel
theorem dX9_fill_97 : decode cX9_fill 97 = .ok (.sipush 200, 3) := by decide +kernel
theorem dX9_fill_100 : decode cX9_fill 100 = .ok (.iload_n 1, 1) := by decide +kernel
theorem dX9_fill_101 : decode cX9_fill 101 = .ok (.imul, 1) := by decide +kernel
theorem dX9_fill_102 : decode cX9_fill 102 = .ok (.iload 5, 2) := by decide +kernel
theorem dX9_fill_104 : decode cX9_fill 104 = .ok (.iadd, 1) := by decide +kernel
theorem dX9_fill_105 : decode cX9_fill 105 = .ok (.iload 6, 2) := by decide +kernel
theorem dX9_fill_107 : decode cX9_fill 107 = .ok (.iload 6, 2) := by decide +kernel
theorem dX9_fill_109 : decode cX9_fill 109 = .ok (.i2l, 1) := by decide +kernel
theorem dX9_fill_110 : decode cX9_fill 110 = .ok (.iload_n 2, 1) := by decide +kernel
theorem dX9_fill_111 : decode cX9_fill 111 = .ok (.i2l, 1) := by decide +kernel
theorem dX9_fill_112 : decode cX9_fill 112 = .ok (.lmul, 1) := by decide +kernel
theorem dX9_fill_113 : decode cX9_fill 113 = .ok (.invokestatic 144, 3) := by decide +kernel
theorem dX9_fill_116 : decode cX9_fill 116 = .ok (.invokestatic 100, 3) := by decide +kernel
theorem dX9_fill_119 : decode cX9_fill 119 = .ok (.iastore, 1) := by decide +kernel
theorem dX9_fill_120 : decode cX9_fill 120 = .ok (.iinc 5 1, 3) := by decide +kernel
theorem dX9_fill_123 : decode cX9_fill 123 = .ok (.goto (-45), 3) := by decide +kernel
theorem dX9_fill_126 : decode cX9_fill 126 = .ok (.aload_n 0, 1) := by decide +kernel
theorem dX9_fill_127 : decode cX9_fill 127 = .ok (.getfield 13, 3) := by decide +kernel
theorem dX9_fill_130 : decode cX9_fill 130 = .ok (.iload_n 1, 1) := by decide +kernel
theorem dX9_fill_131 : decode cX9_fill 131 = .ok (.iload_n 3, 1) := by decide +kernel
theorem dX9_fill_132 : decode cX9_fill 132 = .ok (.iastore, 1) := by decide +kernel
theorem dX9_fill_133 : decode cX9_fill 133 = .ok (.iload_n 3, 1) := by decide +kernel
theorem dX9_fill_134 : decode cX9_fill 134 = .ok (.ireturn, 1) := by decide +kernel
theorem dX9_passes_0 : decode cX9_passes 0 = .ok (.iload_n 3, 1) := by decide +kernel
theorem dX9_passes_1 : decode cX9_passes 1 = .ok (.iload_n 1, 1) := by decide +kernel
theorem dX9_passes_2 : decode cX9_passes 2 = .ok (.if_icmp .le 11, 3) := by decide +kernel
theorem dX9_passes_5 : decode cX9_passes 5 = .ok (.iload_n 2, 1) := by decide +kernel
theorem dX9_passes_6 : decode cX9_passes 6 = .ok (.ifCond .le 7, 3) := by decide +kernel
theorem dX9_passes_9 : decode cX9_passes 9 = .ok (.iconst 1, 1) := by decide +kernel
theorem dX9_passes_10 : decode cX9_passes 10 = .ok (.goto 4, 3) := by decide +kernel
theorem dX9_passes_13 : decode cX9_passes 13 = .ok (.iconst 0, 1) := by decide +kernel
theorem dX9_passes_14 : decode cX9_passes 14 = .ok (.istore 4, 2) := by decide +kernel
theorem dX9_passes_16 : decode cX9_passes 16 = .ok (.iload_n 0, 1) := by decide +kernel
theorem dX9_passes_17 : decode cX9_passes 17 = .ok (.ifCond .eq 44, 3) := by decide +kernel
theorem dX9_passes_20 : decode cX9_passes 20 = .ok (.iload_n 0, 1) := by decide +kernel
theorem dX9_passes_21 : decode cX9_passes 21 = .ok (.iconst 1, 1) := by decide +kernel
theorem dX9_passes_22 : decode cX9_passes 22 = .ok (.if_icmp .ne 9, 3) := by decide +kernel
theorem dX9_passes_25 : decode cX9_passes 25 = .ok (.iload_n 2, 1) := by decide +kernel
theorem dX9_passes_26 : decode cX9_passes 26 = .ok (.iconst 2, 1) := by decide +kernel
theorem dX9_passes_27 : decode cX9_passes 27 = .ok (.irem, 1) := by decide +kernel
theorem dX9_passes_28 : decode cX9_passes 28 = .ok (.ifCond .eq 33, 3) := by decide +kernel
theorem dX9_passes_31 : decode cX9_passes 31 = .ok (.iload_n 0, 1) := by decide +kernel
theorem dX9_passes_32 : decode cX9_passes 32 = .ok (.iconst 2, 1) := by decide +kernel
theorem dX9_passes_33 : decode cX9_passes 33 = .ok (.if_icmp .ne 8, 3) := by decide +kernel
theorem dX9_passes_36 : decode cX9_passes 36 = .ok (.iload_n 3, 1) := by decide +kernel
theorem dX9_passes_37 : decode cX9_passes 37 = .ok (.iload_n 1, 1) := by decide +kernel
theorem dX9_passes_38 : decode cX9_passes 38 = .ok (.if_icmp .gt 23, 3) := by decide +kernel
theorem dX9_passes_41 : decode cX9_passes 41 = .ok (.iload_n 0, 1) := by decide +kernel
theorem dX9_passes_42 : decode cX9_passes 42 = .ok (.iconst 3, 1) := by decide +kernel
theorem dX9_passes_43 : decode cX9_passes 43 = .ok (.if_icmp .ne 8, 3) := by decide +kernel
theorem dX9_passes_46 : decode cX9_passes 46 = .ok (.iload 4, 2) := by decide +kernel
theorem dX9_passes_48 : decode cX9_passes 48 = .ok (.ifCond .ne 13, 3) := by decide +kernel
theorem dX9_passes_51 : decode cX9_passes 51 = .ok (.iload_n 0, 1) := by decide +kernel
theorem dX9_passes_52 : decode cX9_passes 52 = .ok (.iconst 4, 1) := by decide +kernel
theorem dX9_passes_53 : decode cX9_passes 53 = .ok (.if_icmp .ne 12, 3) := by decide +kernel
theorem dX9_passes_56 : decode cX9_passes 56 = .ok (.iload 4, 2) := by decide +kernel
theorem dX9_passes_58 : decode cX9_passes 58 = .ok (.ifCond .ne 7, 3) := by decide +kernel
theorem dX9_passes_61 : decode cX9_passes 61 = .ok (.iconst 1, 1) := by decide +kernel
theorem dX9_passes_62 : decode cX9_passes 62 = .ok (.goto 4, 3) := by decide +kernel
theorem dX9_passes_65 : decode cX9_passes 65 = .ok (.iconst 0, 1) := by decide +kernel
theorem dX9_passes_66 : decode cX9_passes 66 = .ok (.ireturn, 1) := by decide +kernel
set_option maxRecDepth 20000 in
theorem ggX9_sieve_X9_isMap : GoodIn wsX9_sieve wsX9_isMap := goodIn_r _ [11, 12, 13, 14, 10, 15] (by decide +kernel) (by decide +kernel)
set_option maxRecDepth 20000 in
theorem gX9_sieve_X9_isMap : GoodIn wsX9_sieve (va_wsS RX9 107 yX9_isMap wsX9_isMap) := goodIn_app (goodIn_of _ (by decide +kernel)) ggX9_sieve_X9_isMap
set_option maxRecDepth 20000 in
theorem ggX9_sieve_X9_in : GoodIn wsX9_sieve wsX9_in := goodIn_r _ [15] (by decide +kernel) (by decide +kernel)
set_option maxRecDepth 20000 in
theorem gX9_sieve_X9_in : GoodIn wsX9_sieve (va_wsS RX9 68 yX9_in wsX9_in) := goodIn_app (goodIn_of _ (by decide +kernel)) ggX9_sieve_X9_in
set_option maxRecDepth 20000 in
theorem ggX9_sieve_X9_refuses : GoodIn wsX9_sieve wsX9_refuses := goodIn_r _ [19, 20, 4, 51, 52, 53, 54, 55, 56, 57, 58, 59, 60, 61, 62, 63, 64, 65, 66, 67, 68, 69, 70, 71, 72, 73, 74, 75, 76, 77] (by decide +kernel) (by decide +kernel)
set_option maxRecDepth 20000 in
theorem gX9_sieve_X9_refuses : GoodIn wsX9_sieve (wsV RX9 110 RX9 yX9_refuses wsX9_refuses) := goodIn_app (goodIn_of _ (by decide +kernel)) ggX9_sieve_X9_refuses
set_option maxRecDepth 20000 in
theorem ggX9_sieve_X9_keeps : GoodIn wsX9_sieve wsX9_keeps := goodIn_r _ [24, 25, 26, 27, 7, 5, 51, 52, 53, 54, 55, 56, 57, 58, 59, 60, 61, 62, 63, 64, 65, 66, 67, 68, 69, 70, 71, 72, 73, 74, 75, 76, 77] (by decide +kernel) (by decide +kernel)
set_option maxRecDepth 20000 in
theorem gX9_sieve_X9_keeps : GoodIn wsX9_sieve (wsV RX9 114 RX9 yX9_keeps wsX9_keeps) := goodIn_app (goodIn_of _ (by decide +kernel)) ggX9_sieve_X9_keeps
set_option maxRecDepth 20000 in
theorem ggX9_sieve_X9_keyAt : GoodIn wsX9_sieve wsX9_keyAt := goodIn_r _ [31, 7, 32, 33, 10, 34, 51, 52, 53, 54, 55, 56, 57, 58, 59, 60, 61, 62, 63, 64, 65, 66, 67, 68, 69, 70, 71, 72, 73, 74, 75, 76, 77] (by decide +kernel) (by decide +kernel)
set_option maxRecDepth 20000 in
theorem gX9_sieve_X9_keyAt : GoodIn wsX9_sieve (wsV RX9 89 RX9 yX9_keyAt wsX9_keyAt) := goodIn_app (goodIn_of _ (by decide +kernel)) ggX9_sieve_X9_keyAt
set_option maxRecDepth 20000 in
theorem ggX9_sieve_X9_valueAt : GoodIn wsX9_sieve wsX9_valueAt := goodIn_r _ [38, 7, 39, 40, 10, 41, 42, 43, 51, 52, 53, 54, 55, 56, 57, 58, 59, 60, 61, 62, 63, 64, 65, 66, 67, 68, 69, 70, 71, 72, 73, 74, 75, 76, 77] (by decide +kernel) (by decide +kernel)
set_option maxRecDepth 20000 in
theorem gX9_sieve_X9_valueAt : GoodIn wsX9_sieve (wsV RX9 117 RX9 yX9_valueAt wsX9_valueAt) := goodIn_app (goodIn_of _ (by decide +kernel)) ggX9_sieve_X9_valueAt
set_option maxRecDepth 20000 in
theorem ggX9_sieve_X9_passes : GoodIn wsX9_sieve wsX9_passes := goodIn_r _ [46] (by decide +kernel) (by decide +kernel)
set_option maxRecDepth 20000 in
theorem gX9_sieve_X9_passes : GoodIn wsX9_sieve (va_wsS RX9 169 yX9_passes wsX9_passes) := goodIn_app (goodIn_of _ (by decide +kernel)) ggX9_sieve_X9_passes
set_option maxRecDepth 20000 in
theorem ggX9_sieve_X9_becomes : GoodIn wsX9_sieve wsX9_becomes := goodIn_r _ [50, 7, 6, 5, 51, 52, 53, 54, 55, 56, 57, 58, 59, 60, 61, 62, 63, 64, 65, 66, 67, 68, 69, 70, 71, 72, 73, 74, 75, 76, 77] (by decide +kernel) (by decide +kernel)
set_option maxRecDepth 20000 in
theorem gX9_sieve_X9_becomes : GoodIn wsX9_sieve (wsV RX9 159 RX9 yX9_becomes wsX9_becomes) := goodIn_app (goodIn_of _ (by decide +kernel)) ggX9_sieve_X9_becomes
theorem dX9_sieve_0 : decode cX9_sieve 0 = .ok (.iload_n 1, 1) := by decide +kernel
theorem dX9_sieve_1 : decode cX9_sieve 1 = .ok (.invokestatic 107, 3) := by decide +kernel
theorem dX9_sieve_4 : decode cX9_sieve 4 = .ok (.ifCond .eq 37, 3) := by decide +kernel
theorem dX9_sieve_7 : decode cX9_sieve 7 = .ok (.iload_n 2, 1) := by decide +kernel
theorem dX9_sieve_8 : decode cX9_sieve 8 = .ok (.i2l, 1) := by decide +kernel
theorem dX9_sieve_9 : decode cX9_sieve 9 = .ok (.lconst 0, 1) := by decide +kernel
theorem dX9_sieve_10 : decode cX9_sieve 10 = .ok (.ldc2_w 167, 3) := by decide +kernel
theorem dX9_sieve_13 : decode cX9_sieve 13 = .ok (.invokestatic 68, 3) := by decide +kernel
theorem dX9_sieve_16 : decode cX9_sieve 16 = .ok (.ifCond .eq 25, 3) := by decide +kernel
theorem dX9_sieve_19 : decode cX9_sieve 19 = .ok (.iload_n 3, 1) := by decide +kernel
theorem dX9_sieve_20 : decode cX9_sieve 20 = .ok (.i2l, 1) := by decide +kernel
theorem dX9_sieve_21 : decode cX9_sieve 21 = .ok (.ldc2_w 62, 3) := by decide +kernel
theorem dX9_sieve_24 : decode cX9_sieve 24 = .ok (.ldc2_w 64, 3) := by decide +kernel
theorem dX9_sieve_27 : decode cX9_sieve 27 = .ok (.invokestatic 68, 3) := by decide +kernel
theorem dX9_sieve_30 : decode cX9_sieve 30 = .ok (.ifCond .eq 11, 3) := by decide +kernel
theorem dX9_sieve_33 : decode cX9_sieve 33 = .ok (.iload 4, 2) := by decide +kernel
theorem dX9_sieve_35 : decode cX9_sieve 35 = .ok (.invokestatic 107, 3) := by decide +kernel
theorem dX9_sieve_38 : decode cX9_sieve 38 = .ok (.ifCond .ne 10, 3) := by decide +kernel
theorem dX9_sieve_41 : decode cX9_sieve 41 = .ok (.aload_n 0, 1) := by decide +kernel
theorem dX9_sieve_42 : decode cX9_sieve 42 = .ok (.ldc 61, 2) := by decide +kernel
theorem dX9_sieve_44 : decode cX9_sieve 44 = .ok (.invokevirtual 110, 3) := by decide +kernel
theorem dX9_sieve_47 : decode cX9_sieve 47 = .ok (.ireturn, 1) := by decide +kernel
theorem dX9_sieve_48 : decode cX9_sieve 48 = .ok (.aload_n 0, 1) := by decide +kernel
theorem dX9_sieve_49 : decode cX9_sieve 49 = .ok (.invokevirtual 114, 3) := by decide +kernel
theorem dX9_sieve_52 : decode cX9_sieve 52 = .ok (.iconst 0, 1) := by decide +kernel
theorem dX9_sieve_53 : decode cX9_sieve 53 = .ok (.istore 5, 2) := by decide +kernel
theorem dX9_sieve_55 : decode cX9_sieve 55 = .ok (.iconst 0, 1) := by decide +kernel
theorem dX9_sieve_56 : decode cX9_sieve 56 = .ok (.istore 6, 2) := by decide +kernel
theorem dX9_sieve_58 : decode cX9_sieve 58 = .ok (.iload 6, 2) := by decide +kernel
theorem dX9_sieve_60 : decode cX9_sieve 60 = .ok (.aload_n 0, 1) := by decide +kernel
theorem dX9_sieve_61 : decode cX9_sieve 61 = .ok (.getfield 13, 3) := by decide +kernel
theorem dX9_sieve_64 : decode cX9_sieve 64 = .ok (.iload_n 1, 1) := by decide +kernel
theorem dX9_sieve_65 : decode cX9_sieve 65 = .ok (.iaload, 1) := by decide +kernel
theorem dX9_sieve_66 : decode cX9_sieve 66 = .ok (.if_icmp .ge 54, 3) := by decide +kernel
theorem dX9_sieve_69 : decode cX9_sieve 69 = .ok (.iload_n 2, 1) := by decide +kernel
theorem dX9_sieve_70 : decode cX9_sieve 70 = .ok (.iload_n 3, 1) := by decide +kernel
theorem dX9_sieve_71 : decode cX9_sieve 71 = .ok (.aload_n 0, 1) := by decide +kernel
theorem dX9_sieve_72 : decode cX9_sieve 72 = .ok (.iload_n 1, 1) := by decide +kernel
theorem dX9_sieve_73 : decode cX9_sieve 73 = .ok (.iload 6, 2) := by decide +kernel
theorem dX9_sieve_75 : decode cX9_sieve 75 = .ok (.invokevirtual 89, 3) := by decide +kernel
theorem dX9_sieve_78 : decode cX9_sieve 78 = .ok (.aload_n 0, 1) := by decide +kernel
theorem dX9_sieve_79 : decode cX9_sieve 79 = .ok (.iload_n 1, 1) := by decide +kernel
theorem dX9_sieve_80 : decode cX9_sieve 80 = .ok (.iload 6, 2) := by decide +kernel
theorem dX9_sieve_82 : decode cX9_sieve 82 = .ok (.invokevirtual 117, 3) := by decide +kernel
theorem dX9_sieve_85 : decode cX9_sieve 85 = .ok (.invokestatic 169, 3) := by decide +kernel
theorem dX9_sieve_88 : decode cX9_sieve 88 = .ok (.ifCond .eq 26, 3) := by decide +kernel
theorem dX9_sieve_91 : decode cX9_sieve 91 = .ok (.aload_n 0, 1) := by decide +kernel
theorem dX9_sieve_92 : decode cX9_sieve 92 = .ok (.getfield 28, 3) := by decide +kernel
theorem dX9_sieve_95 : decode cX9_sieve 95 = .ok (.iload 5, 2) := by decide +kernel
theorem dX9_sieve_97 : decode cX9_sieve 97 = .ok (.aload_n 0, 1) := by decide +kernel
theorem dX9_sieve_98 : decode cX9_sieve 98 = .ok (.getfield 7, 3) := by decide +kernel
theorem dX9_sieve_101 : decode cX9_sieve 101 = .ok (.sipush 200, 3) := by decide +kernel
theorem dX9_sieve_104 : decode cX9_sieve 104 = .ok (.iload_n 1, 1) := by decide +kernel
theorem dX9_sieve_105 : decode cX9_sieve 105 = .ok (.imul, 1) := by decide +kernel
theorem dX9_sieve_106 : decode cX9_sieve 106 = .ok (.iload 6, 2) := by decide +kernel
theorem dX9_sieve_108 : decode cX9_sieve 108 = .ok (.iadd, 1) := by decide +kernel
theorem dX9_sieve_109 : decode cX9_sieve 109 = .ok (.iaload, 1) := by decide +kernel
theorem dX9_sieve_110 : decode cX9_sieve 110 = .ok (.iastore, 1) := by decide +kernel
theorem dX9_sieve_111 : decode cX9_sieve 111 = .ok (.iinc 5 1, 3) := by decide +kernel
theorem dX9_sieve_114 : decode cX9_sieve 114 = .ok (.iinc 6 1, 3) := by decide +kernel
theorem dX9_sieve_117 : decode cX9_sieve 117 = .ok (.goto (-59), 3) := by decide +kernel
theorem dX9_sieve_120 : decode cX9_sieve 120 = .ok (.aload_n 0, 1) := by decide +kernel
theorem dX9_sieve_121 : decode cX9_sieve 121 = .ok (.iload 4, 2) := by decide +kernel
theorem dX9_sieve_123 : decode cX9_sieve 123 = .ok (.iload 5, 2) := by decide +kernel
theorem dX9_sieve_125 : decode cX9_sieve 125 = .ok (.invokevirtual 159, 3) := by decide +kernel
theorem dX9_sieve_128 : decode cX9_sieve 128 = .ok (.iload 5, 2) := by decide +kernel
theorem dX9_sieve_130 : decode cX9_sieve 130 = .ok (.ireturn, 1) := by decide +kernel
set_option maxRecDepth 20000 in
theorem ggX9_raise_X9_isMap : GoodIn wsX9_raise wsX9_isMap := goodIn_r _ [8, 9, 10, 11, 7, 12] (by decide +kernel) (by decide +kernel)
set_option maxRecDepth 20000 in
theorem gX9_raise_X9_isMap : GoodIn wsX9_raise (va_wsS RX9 107 yX9_isMap wsX9_isMap) := goodIn_app (goodIn_of _ (by decide +kernel)) ggX9_raise_X9_isMap
set_option maxRecDepth 20000 in
theorem ggX9_raise_X9_isRange : GoodIn wsX9_raise wsX9_isRange := goodIn_r _ [15, 16, 17, 7, 18, 19, 20, 10, 11, 12] (by decide +kernel) (by decide +kernel)
set_option maxRecDepth 20000 in
theorem gX9_raise_X9_isRange : GoodIn wsX9_raise (va_wsS RX9 133 yX9_isRange wsX9_isRange) := goodIn_app (goodIn_of _ (by decide +kernel)) ggX9_raise_X9_isRange
set_option maxRecDepth 20000 in
theorem ggX9_raise_X9_in : GoodIn wsX9_raise wsX9_in := goodIn_r _ [12] (by decide +kernel) (by decide +kernel)
set_option maxRecDepth 20000 in
theorem gX9_raise_X9_in : GoodIn wsX9_raise (va_wsS RX9 68 yX9_in wsX9_in) := goodIn_app (goodIn_of _ (by decide +kernel)) ggX9_raise_X9_in
set_option maxRecDepth 20000 in
theorem ggX9_raise_X9_refuses : GoodIn wsX9_raise wsX9_refuses := goodIn_r _ [24, 25, 3, 62, 63, 64, 65, 66, 67, 68, 69, 70, 71, 72, 73, 74, 75, 76, 77, 78, 79, 80, 81, 82, 83, 84, 85, 86, 87, 88] (by decide +kernel) (by decide +kernel)
set_option maxRecDepth 20000 in
theorem gX9_raise_X9_refuses : GoodIn wsX9_raise (wsV RX9 110 RX9 yX9_refuses wsX9_refuses) := goodIn_app (goodIn_of _ (by decide +kernel)) ggX9_raise_X9_refuses
set_option maxRecDepth 20000 in
theorem ggX9_raise_X9_keeps : GoodIn wsX9_raise wsX9_keeps := goodIn_r _ [29, 30, 31, 32, 4, 33, 62, 63, 64, 65, 66, 67, 68, 69, 70, 71, 72, 73, 74, 75, 76, 77, 78, 79, 80, 81, 82, 83, 84, 85, 86, 87, 88] (by decide +kernel) (by decide +kernel)
set_option maxRecDepth 20000 in
theorem gX9_raise_X9_keeps : GoodIn wsX9_raise (wsV RX9 114 RX9 yX9_keeps wsX9_keeps) := goodIn_app (goodIn_of _ (by decide +kernel)) ggX9_raise_X9_keeps
set_option maxRecDepth 20000 in
theorem ggX9_raise_X9_below : GoodIn wsX9_raise wsX9_below := goodIn_r _ [37, 33, 38, 39, 40, 7, 41, 4, 42, 43, 44, 62, 63, 64, 65, 66, 67, 68, 69, 70, 71, 72, 73, 74, 75, 76, 77, 78, 79, 80, 81, 82, 83, 84, 85, 86, 87, 88] (by decide +kernel) (by decide +kernel)
set_option maxRecDepth 20000 in
theorem gX9_raise_X9_below : GoodIn wsX9_raise (wsV RX9 93 RX9 yX9_below wsX9_below) := goodIn_app (goodIn_of _ (by decide +kernel)) ggX9_raise_X9_below
set_option maxRecDepth 20000 in
theorem ggX9_raise_X9_keyAt : GoodIn wsX9_raise wsX9_keyAt := goodIn_r _ [41, 4, 42, 43, 7, 44, 62, 63, 64, 65, 66, 67, 68, 69, 70, 71, 72, 73, 74, 75, 76, 77, 78, 79, 80, 81, 82, 83, 84, 85, 86, 87, 88] (by decide +kernel) (by decide +kernel)
set_option maxRecDepth 20000 in
theorem gX9_raise_X9_keyAt : GoodIn wsX9_raise (wsV RX9 89 RX9 yX9_keyAt wsX9_keyAt) := goodIn_app (goodIn_of _ (by decide +kernel)) ggX9_raise_X9_keyAt
set_option maxRecDepth 20000 in
theorem ggX9_raise_X9_valueAt : GoodIn wsX9_raise wsX9_valueAt := goodIn_r _ [48, 4, 49, 50, 7, 51, 52, 53, 62, 63, 64, 65, 66, 67, 68, 69, 70, 71, 72, 73, 74, 75, 76, 77, 78, 79, 80, 81, 82, 83, 84, 85, 86, 87, 88] (by decide +kernel) (by decide +kernel)
set_option maxRecDepth 20000 in
theorem gX9_raise_X9_valueAt : GoodIn wsX9_raise (wsV RX9 117 RX9 yX9_valueAt wsX9_valueAt) := goodIn_app (goodIn_of _ (by decide +kernel)) ggX9_raise_X9_valueAt
set_option maxRecDepth 20000 in
theorem ggX9_raise_X9_held : GoodIn wsX9_raise wsX9_held := goodIn_r _ [56, 57, 58] (by decide +kernel) (by decide +kernel)
set_option maxRecDepth 20000 in
theorem gX9_raise_X9_held : GoodIn wsX9_raise (va_wsS RX9 144 yX9_held wsX9_held) := goodIn_app (goodIn_of _ (by decide +kernel)) ggX9_raise_X9_held
set_option maxRecDepth 20000 in
theorem ggX9_raise_X9_entry : GoodIn wsX9_raise wsX9_entry := goodIn_r _ [61, 53] (by decide +kernel) (by decide +kernel)
set_option maxRecDepth 20000 in
theorem gX9_raise_X9_entry : GoodIn wsX9_raise (va_wsS RX9 100 yX9_entry wsX9_entry) := goodIn_app (goodIn_of _ (by decide +kernel)) ggX9_raise_X9_entry
theorem dX9_raise_0 : decode cX9_raise 0 = .ok (.iload_n 1, 1) := by decide +kernel
theorem dX9_raise_1 : decode cX9_raise 1 = .ok (.invokestatic 107, 3) := by decide +kernel
theorem dX9_raise_4 : decode cX9_raise 4 = .ok (.ifCond .eq 26, 3) := by decide +kernel
theorem dX9_raise_7 : decode cX9_raise 7 = .ok (.iload_n 2, 1) := by decide +kernel
theorem dX9_raise_8 : decode cX9_raise 8 = .ok (.iload_n 3, 1) := by decide +kernel
theorem dX9_raise_9 : decode cX9_raise 9 = .ok (.invokestatic 133, 3) := by decide +kernel
theorem dX9_raise_12 : decode cX9_raise 12 = .ok (.ifCond .eq 18, 3) := by decide +kernel
theorem dX9_raise_15 : decode cX9_raise 15 = .ok (.iload 4, 2) := by decide +kernel
theorem dX9_raise_17 : decode cX9_raise 17 = .ok (.i2l, 1) := by decide +kernel
theorem dX9_raise_18 : decode cX9_raise 18 = .ok (.ldc2_w 173, 3) := by decide +kernel
theorem dX9_raise_21 : decode cX9_raise 21 = .ok (.ldc2_w 175, 3) := by decide +kernel
theorem dX9_raise_24 : decode cX9_raise 24 = .ok (.invokestatic 68, 3) := by decide +kernel
theorem dX9_raise_27 : decode cX9_raise 27 = .ok (.ifCond .ne 10, 3) := by decide +kernel
theorem dX9_raise_30 : decode cX9_raise 30 = .ok (.aload_n 0, 1) := by decide +kernel
theorem dX9_raise_31 : decode cX9_raise 31 = .ok (.ldc 61, 2) := by decide +kernel
theorem dX9_raise_33 : decode cX9_raise 33 = .ok (.invokevirtual 110, 3) := by decide +kernel
theorem dX9_raise_36 : decode cX9_raise 36 = .ok (.ireturn, 1) := by decide +kernel
theorem dX9_raise_37 : decode cX9_raise 37 = .ok (.aload_n 0, 1) := by decide +kernel
theorem dX9_raise_38 : decode cX9_raise 38 = .ok (.invokevirtual 114, 3) := by decide +kernel
theorem dX9_raise_41 : decode cX9_raise 41 = .ok (.aload_n 0, 1) := by decide +kernel
theorem dX9_raise_42 : decode cX9_raise 42 = .ok (.iload_n 1, 1) := by decide +kernel
theorem dX9_raise_43 : decode cX9_raise 43 = .ok (.iload_n 2, 1) := by decide +kernel
theorem dX9_raise_44 : decode cX9_raise 44 = .ok (.invokevirtual 93, 3) := by decide +kernel
theorem dX9_raise_47 : decode cX9_raise 47 = .ok (.istore 5, 2) := by decide +kernel
theorem dX9_raise_49 : decode cX9_raise 49 = .ok (.aload_n 0, 1) := by decide +kernel
theorem dX9_raise_50 : decode cX9_raise 50 = .ok (.iload_n 1, 1) := by decide +kernel
theorem dX9_raise_51 : decode cX9_raise 51 = .ok (.iload_n 3, 1) := by decide +kernel
theorem dX9_raise_52 : decode cX9_raise 52 = .ok (.iconst 1, 1) := by decide +kernel
theorem dX9_raise_53 : decode cX9_raise 53 = .ok (.iadd, 1) := by decide +kernel
theorem dX9_raise_54 : decode cX9_raise 54 = .ok (.invokevirtual 93, 3) := by decide +kernel
theorem dX9_raise_57 : decode cX9_raise 57 = .ok (.istore 6, 2) := by decide +kernel
theorem dX9_raise_59 : decode cX9_raise 59 = .ok (.iload 5, 2) := by decide +kernel
theorem dX9_raise_61 : decode cX9_raise 61 = .ok (.istore 7, 2) := by decide +kernel
theorem dX9_raise_63 : decode cX9_raise 63 = .ok (.iload 7, 2) := by decide +kernel
theorem dX9_raise_65 : decode cX9_raise 65 = .ok (.iload 6, 2) := by decide +kernel
theorem dX9_raise_67 : decode cX9_raise 67 = .ok (.if_icmp .ge 47, 3) := by decide +kernel
theorem dX9_raise_70 : decode cX9_raise 70 = .ok (.aload_n 0, 1) := by decide +kernel
theorem dX9_raise_71 : decode cX9_raise 71 = .ok (.getfield 7, 3) := by decide +kernel
theorem dX9_raise_74 : decode cX9_raise 74 = .ok (.sipush 200, 3) := by decide +kernel
theorem dX9_raise_77 : decode cX9_raise 77 = .ok (.iload_n 1, 1) := by decide +kernel
theorem dX9_raise_78 : decode cX9_raise 78 = .ok (.imul, 1) := by decide +kernel
theorem dX9_raise_79 : decode cX9_raise 79 = .ok (.iload 7, 2) := by decide +kernel
theorem dX9_raise_81 : decode cX9_raise 81 = .ok (.iadd, 1) := by decide +kernel
theorem dX9_raise_82 : decode cX9_raise 82 = .ok (.aload_n 0, 1) := by decide +kernel
theorem dX9_raise_83 : decode cX9_raise 83 = .ok (.iload_n 1, 1) := by decide +kernel
theorem dX9_raise_84 : decode cX9_raise 84 = .ok (.iload 7, 2) := by decide +kernel
theorem dX9_raise_86 : decode cX9_raise 86 = .ok (.invokevirtual 89, 3) := by decide +kernel
theorem dX9_raise_89 : decode cX9_raise 89 = .ok (.aload_n 0, 1) := by decide +kernel
theorem dX9_raise_90 : decode cX9_raise 90 = .ok (.iload_n 1, 1) := by decide +kernel
theorem dX9_raise_91 : decode cX9_raise 91 = .ok (.iload 7, 2) := by decide +kernel
theorem dX9_raise_93 : decode cX9_raise 93 = .ok (.invokevirtual 117, 3) := by decide +kernel
theorem dX9_raise_96 : decode cX9_raise 96 = .ok (.i2l, 1) := by decide +kernel
theorem dX9_raise_97 : decode cX9_raise 97 = .ok (.iload 4, 2) := by decide +kernel
theorem dX9_raise_99 : decode cX9_raise 99 = .ok (.i2l, 1) := by decide +kernel
theorem dX9_raise_100 : decode cX9_raise 100 = .ok (.ladd, 1) := by decide +kernel
theorem dX9_raise_101 : decode cX9_raise 101 = .ok (.invokestatic 144, 3) := by decide +kernel
theorem dX9_raise_104 : decode cX9_raise 104 = .ok (.invokestatic 100, 3) := by decide +kernel
theorem dX9_raise_107 : decode cX9_raise 107 = .ok (.iastore, 1) := by decide +kernel
theorem dX9_raise_108 : decode cX9_raise 108 = .ok (.iinc 7 1, 3) := by decide +kernel
theorem dX9_raise_111 : decode cX9_raise 111 = .ok (.goto (-48), 3) := by decide +kernel
theorem dX9_raise_114 : decode cX9_raise 114 = .ok (.iload 6, 2) := by decide +kernel
theorem dX9_raise_116 : decode cX9_raise 116 = .ok (.iload 5, 2) := by decide +kernel
theorem dX9_raise_118 : decode cX9_raise 118 = .ok (.isub, 1) := by decide +kernel
theorem dX9_raise_119 : decode cX9_raise 119 = .ok (.ireturn, 1) := by decide +kernel
set_option maxRecDepth 20000 in
theorem ggX9_slide_X9_isMap : GoodIn wsX9_slide wsX9_isMap := goodIn_r _ [10, 11, 12, 13, 9, 14] (by decide +kernel) (by decide +kernel)
set_option maxRecDepth 20000 in
theorem gX9_slide_X9_isMap : GoodIn wsX9_slide (va_wsS RX9 107 yX9_isMap wsX9_isMap) := goodIn_app (goodIn_of _ (by decide +kernel)) ggX9_slide_X9_isMap
set_option maxRecDepth 20000 in
theorem ggX9_slide_X9_in : GoodIn wsX9_slide wsX9_in := goodIn_r _ [14] (by decide +kernel) (by decide +kernel)
set_option maxRecDepth 20000 in
theorem gX9_slide_X9_in : GoodIn wsX9_slide (va_wsS RX9 68 yX9_in wsX9_in) := goodIn_app (goodIn_of _ (by decide +kernel)) ggX9_slide_X9_in
set_option maxRecDepth 20000 in
theorem ggX9_slide_X9_refuses : GoodIn wsX9_slide wsX9_refuses := goodIn_r _ [18, 19, 3, 51, 52, 53, 54, 55, 56, 57, 58, 59, 60, 61, 62, 63, 64, 65, 66, 67, 68, 69, 70, 71, 72, 73, 74, 75, 76, 77] (by decide +kernel) (by decide +kernel)
set_option maxRecDepth 20000 in
theorem gX9_slide_X9_refuses : GoodIn wsX9_slide (wsV RX9 110 RX9 yX9_refuses wsX9_refuses) := goodIn_app (goodIn_of _ (by decide +kernel)) ggX9_slide_X9_refuses
set_option maxRecDepth 20000 in
theorem ggX9_slide_X9_keyAt : GoodIn wsX9_slide wsX9_keyAt := goodIn_r _ [23, 6, 24, 25, 9, 26, 51, 52, 53, 54, 55, 56, 57, 58, 59, 60, 61, 62, 63, 64, 65, 66, 67, 68, 69, 70, 71, 72, 73, 74, 75, 76, 77] (by decide +kernel) (by decide +kernel)
set_option maxRecDepth 20000 in
theorem gX9_slide_X9_keyAt : GoodIn wsX9_slide (wsV RX9 89 RX9 yX9_keyAt wsX9_keyAt) := goodIn_app (goodIn_of _ (by decide +kernel)) ggX9_slide_X9_keyAt
set_option maxRecDepth 20000 in
theorem ggX9_slide_X9_isKey : GoodIn wsX9_slide wsX9_isKey := goodIn_r _ [29, 30, 31, 12, 13, 9, 14] (by decide +kernel) (by decide +kernel)
set_option maxRecDepth 20000 in
theorem gX9_slide_X9_isKey : GoodIn wsX9_slide (va_wsS RX9 76 yX9_isKey wsX9_isKey) := goodIn_app (goodIn_of _ (by decide +kernel)) ggX9_slide_X9_isKey
set_option maxRecDepth 20000 in
theorem ggX9_slide_X9_keeps : GoodIn wsX9_slide wsX9_keeps := goodIn_r _ [35, 36, 37, 38, 6, 4, 51, 52, 53, 54, 55, 56, 57, 58, 59, 60, 61, 62, 63, 64, 65, 66, 67, 68, 69, 70, 71, 72, 73, 74, 75, 76, 77] (by decide +kernel) (by decide +kernel)
set_option maxRecDepth 20000 in
theorem gX9_slide_X9_keeps : GoodIn wsX9_slide (wsV RX9 114 RX9 yX9_keeps wsX9_keeps) := goodIn_app (goodIn_of _ (by decide +kernel)) ggX9_slide_X9_keeps
set_option maxRecDepth 20000 in
theorem ggX9_slide_X9_valueAt : GoodIn wsX9_slide wsX9_valueAt := goodIn_r _ [42, 6, 43, 44, 9, 45, 46, 47, 51, 52, 53, 54, 55, 56, 57, 58, 59, 60, 61, 62, 63, 64, 65, 66, 67, 68, 69, 70, 71, 72, 73, 74, 75, 76, 77] (by decide +kernel) (by decide +kernel)
set_option maxRecDepth 20000 in
theorem gX9_slide_X9_valueAt : GoodIn wsX9_slide (wsV RX9 117 RX9 yX9_valueAt wsX9_valueAt) := goodIn_app (goodIn_of _ (by decide +kernel)) ggX9_slide_X9_valueAt
set_option maxRecDepth 20000 in
theorem ggX9_slide_X9_entry : GoodIn wsX9_slide wsX9_entry := goodIn_r _ [50, 47] (by decide +kernel) (by decide +kernel)
set_option maxRecDepth 20000 in
theorem gX9_slide_X9_entry : GoodIn wsX9_slide (va_wsS RX9 100 yX9_entry wsX9_entry) := goodIn_app (goodIn_of _ (by decide +kernel)) ggX9_slide_X9_entry
theorem dX9_slide_0 : decode cX9_slide 0 = .ok (.iload_n 1, 1) := by decide +kernel
theorem dX9_slide_1 : decode cX9_slide 1 = .ok (.invokestatic 107, 3) := by decide +kernel
theorem dX9_slide_4 : decode cX9_slide 4 = .ok (.ifCond .eq 17, 3) := by decide +kernel
theorem dX9_slide_7 : decode cX9_slide 7 = .ok (.iload_n 2, 1) := by decide +kernel
theorem dX9_slide_8 : decode cX9_slide 8 = .ok (.i2l, 1) := by decide +kernel
theorem dX9_slide_9 : decode cX9_slide 9 = .ok (.ldc2_w 173, 3) := by decide +kernel
theorem dX9_slide_12 : decode cX9_slide 12 = .ok (.ldc2_w 175, 3) := by decide +kernel
theorem dX9_slide_15 : decode cX9_slide 15 = .ok (.invokestatic 68, 3) := by decide +kernel
theorem dX9_slide_18 : decode cX9_slide 18 = .ok (.ifCond .ne 10, 3) := by decide +kernel
theorem dX9_slide_21 : decode cX9_slide 21 = .ok (.aload_n 0, 1) := by decide +kernel
theorem dX9_slide_22 : decode cX9_slide 22 = .ok (.ldc 61, 2) := by decide +kernel
theorem dX9_slide_24 : decode cX9_slide 24 = .ok (.invokevirtual 110, 3) := by decide +kernel
theorem dX9_slide_27 : decode cX9_slide 27 = .ok (.ireturn, 1) := by decide +kernel
theorem dX9_slide_28 : decode cX9_slide 28 = .ok (.aload_n 0, 1) := by decide +kernel
theorem dX9_slide_29 : decode cX9_slide 29 = .ok (.getfield 13, 3) := by decide +kernel
theorem dX9_slide_32 : decode cX9_slide 32 = .ok (.iload_n 1, 1) := by decide +kernel
theorem dX9_slide_33 : decode cX9_slide 33 = .ok (.iaload, 1) := by decide +kernel
theorem dX9_slide_34 : decode cX9_slide 34 = .ok (.istore_n 3, 1) := by decide +kernel
theorem dX9_slide_35 : decode cX9_slide 35 = .ok (.iload_n 3, 1) := by decide +kernel
theorem dX9_slide_36 : decode cX9_slide 36 = .ok (.ifCond .le 40, 3) := by decide +kernel
theorem dX9_slide_39 : decode cX9_slide 39 = .ok (.aload_n 0, 1) := by decide +kernel
theorem dX9_slide_40 : decode cX9_slide 40 = .ok (.iload_n 1, 1) := by decide +kernel
theorem dX9_slide_41 : decode cX9_slide 41 = .ok (.iconst 0, 1) := by decide +kernel
theorem dX9_slide_42 : decode cX9_slide 42 = .ok (.invokevirtual 89, 3) := by decide +kernel
theorem dX9_slide_45 : decode cX9_slide 45 = .ok (.iload_n 2, 1) := by decide +kernel
theorem dX9_slide_46 : decode cX9_slide 46 = .ok (.iadd, 1) := by decide +kernel
theorem dX9_slide_47 : decode cX9_slide 47 = .ok (.invokestatic 76, 3) := by decide +kernel
theorem dX9_slide_50 : decode cX9_slide 50 = .ok (.ifCond .eq 19, 3) := by decide +kernel
theorem dX9_slide_53 : decode cX9_slide 53 = .ok (.aload_n 0, 1) := by decide +kernel
theorem dX9_slide_54 : decode cX9_slide 54 = .ok (.iload_n 1, 1) := by decide +kernel
theorem dX9_slide_55 : decode cX9_slide 55 = .ok (.iload_n 3, 1) := by decide +kernel
theorem dX9_slide_56 : decode cX9_slide 56 = .ok (.iconst 1, 1) := by decide +kernel
theorem dX9_slide_57 : decode cX9_slide 57 = .ok (.isub, 1) := by decide +kernel
theorem dX9_slide_58 : decode cX9_slide 58 = .ok (.invokevirtual 89, 3) := by decide +kernel
theorem dX9_slide_61 : decode cX9_slide 61 = .ok (.iload_n 2, 1) := by decide +kernel
theorem dX9_slide_62 : decode cX9_slide 62 = .ok (.iadd, 1) := by decide +kernel
theorem dX9_slide_63 : decode cX9_slide 63 = .ok (.invokestatic 76, 3) := by decide +kernel
theorem dX9_slide_66 : decode cX9_slide 66 = .ok (.ifCond .ne 10, 3) := by decide +kernel
theorem dX9_slide_69 : decode cX9_slide 69 = .ok (.aload_n 0, 1) := by decide +kernel
theorem dX9_slide_70 : decode cX9_slide 70 = .ok (.ldc 125, 2) := by decide +kernel
theorem dX9_slide_72 : decode cX9_slide 72 = .ok (.invokevirtual 110, 3) := by decide +kernel
theorem dX9_slide_75 : decode cX9_slide 75 = .ok (.ireturn, 1) := by decide +kernel
theorem dX9_slide_76 : decode cX9_slide 76 = .ok (.aload_n 0, 1) := by decide +kernel
theorem dX9_slide_77 : decode cX9_slide 77 = .ok (.invokevirtual 114, 3) := by decide +kernel
theorem dX9_slide_80 : decode cX9_slide 80 = .ok (.iconst 0, 1) := by decide +kernel
theorem dX9_slide_81 : decode cX9_slide 81 = .ok (.istore 4, 2) := by decide +kernel
theorem dX9_slide_83 : decode cX9_slide 83 = .ok (.iload 4, 2) := by decide +kernel
theorem dX9_slide_85 : decode cX9_slide 85 = .ok (.iload_n 3, 1) := by decide +kernel
theorem dX9_slide_86 : decode cX9_slide 86 = .ok (.if_icmp .ge 41, 3) := by decide +kernel
theorem dX9_slide_89 : decode cX9_slide 89 = .ok (.aload_n 0, 1) := by decide +kernel
theorem dX9_slide_90 : decode cX9_slide 90 = .ok (.getfield 7, 3) := by decide +kernel
theorem dX9_slide_93 : decode cX9_slide 93 = .ok (.sipush 200, 3) := by decide +kernel
theorem dX9_slide_96 : decode cX9_slide 96 = .ok (.iload_n 1, 1) := by decide +kernel
theorem dX9_slide_97 : decode cX9_slide 97 = .ok (.imul, 1) := by decide +kernel
theorem dX9_slide_98 : decode cX9_slide 98 = .ok (.iload 4, 2) := by decide +kernel
theorem dX9_slide_100 : decode cX9_slide 100 = .ok (.iadd, 1) := by decide +kernel
theorem dX9_slide_101 : decode cX9_slide 101 = .ok (.aload_n 0, 1) := by decide +kernel
theorem dX9_slide_102 : decode cX9_slide 102 = .ok (.iload_n 1, 1) := by decide +kernel
theorem dX9_slide_103 : decode cX9_slide 103 = .ok (.iload 4, 2) := by decide +kernel
theorem dX9_slide_105 : decode cX9_slide 105 = .ok (.invokevirtual 89, 3) := by decide +kernel
theorem dX9_slide_108 : decode cX9_slide 108 = .ok (.iload_n 2, 1) := by decide +kernel
theorem dX9_slide_109 : decode cX9_slide 109 = .ok (.iadd, 1) := by decide +kernel
theorem dX9_slide_110 : decode cX9_slide 110 = .ok (.aload_n 0, 1) := by decide +kernel
theorem dX9_slide_111 : decode cX9_slide 111 = .ok (.iload_n 1, 1) := by decide +kernel
theorem dX9_slide_112 : decode cX9_slide 112 = .ok (.iload 4, 2) := by decide +kernel
theorem dX9_slide_114 : decode cX9_slide 114 = .ok (.invokevirtual 117, 3) := by decide +kernel
theorem dX9_slide_117 : decode cX9_slide 117 = .ok (.invokestatic 100, 3) := by decide +kernel
theorem dX9_slide_120 : decode cX9_slide 120 = .ok (.iastore, 1) := by decide +kernel
theorem dX9_slide_121 : decode cX9_slide 121 = .ok (.iinc 4 1, 3) := by decide +kernel
theorem dX9_slide_124 : decode cX9_slide 124 = .ok (.goto (-41), 3) := by decide +kernel
theorem dX9_slide_127 : decode cX9_slide 127 = .ok (.iload_n 3, 1) := by decide +kernel
theorem dX9_slide_128 : decode cX9_slide 128 = .ok (.ireturn, 1) := by decide +kernel
set_option maxRecDepth 20000 in
theorem ggX9_zip_X9_isMap : GoodIn wsX9_zip wsX9_isMap := goodIn_r _ [7, 8, 9, 10, 6, 11] (by decide +kernel) (by decide +kernel)
set_option maxRecDepth 20000 in
theorem gX9_zip_X9_isMap : GoodIn wsX9_zip (va_wsS RX9 107 yX9_isMap wsX9_isMap) := goodIn_app (goodIn_of _ (by decide +kernel)) ggX9_zip_X9_isMap
set_option maxRecDepth 20000 in
theorem ggX9_zip_X9_refuses : GoodIn wsX9_zip wsX9_refuses := goodIn_r _ [15, 16, 1, 40, 41, 42, 43, 44, 45, 46, 47, 48, 49, 50, 51, 52, 53, 54, 55, 56, 57, 58, 59, 60, 61, 62, 63, 64, 65, 66] (by decide +kernel) (by decide +kernel)
set_option maxRecDepth 20000 in
theorem gX9_zip_X9_refuses : GoodIn wsX9_zip (wsV RX9 110 RX9 yX9_refuses wsX9_refuses) := goodIn_app (goodIn_of _ (by decide +kernel)) ggX9_zip_X9_refuses
set_option maxRecDepth 20000 in
theorem ggX9_zip_X9_keeps : GoodIn wsX9_zip wsX9_keeps := goodIn_r _ [20, 21, 22, 23, 24, 2, 40, 41, 42, 43, 44, 45, 46, 47, 48, 49, 50, 51, 52, 53, 54, 55, 56, 57, 58, 59, 60, 61, 62, 63, 64, 65, 66] (by decide +kernel) (by decide +kernel)
set_option maxRecDepth 20000 in
theorem gX9_zip_X9_keeps : GoodIn wsX9_zip (wsV RX9 114 RX9 yX9_keeps wsX9_keeps) := goodIn_app (goodIn_of _ (by decide +kernel)) ggX9_zip_X9_keeps
set_option maxRecDepth 20000 in
theorem ggX9_zip_X9_keyAt : GoodIn wsX9_zip wsX9_keyAt := goodIn_r _ [28, 24, 29, 30, 6, 31, 40, 41, 42, 43, 44, 45, 46, 47, 48, 49, 50, 51, 52, 53, 54, 55, 56, 57, 58, 59, 60, 61, 62, 63, 64, 65, 66] (by decide +kernel) (by decide +kernel)
set_option maxRecDepth 20000 in
theorem gX9_zip_X9_keyAt : GoodIn wsX9_zip (wsV RX9 89 RX9 yX9_keyAt wsX9_keyAt) := goodIn_app (goodIn_of _ (by decide +kernel)) ggX9_zip_X9_keyAt
set_option maxRecDepth 20000 in
theorem ggX9_zip_X9_entry : GoodIn wsX9_zip wsX9_entry := goodIn_r _ [34, 35] (by decide +kernel) (by decide +kernel)
set_option maxRecDepth 20000 in
theorem gX9_zip_X9_entry : GoodIn wsX9_zip (va_wsS RX9 100 yX9_entry wsX9_entry) := goodIn_app (goodIn_of _ (by decide +kernel)) ggX9_zip_X9_entry
set_option maxRecDepth 20000 in
theorem ggX9_zip_X9_becomes : GoodIn wsX9_zip wsX9_becomes := goodIn_r _ [39, 24, 3, 2, 40, 41, 42, 43, 44, 45, 46, 47, 48, 49, 50, 51, 52, 53, 54, 55, 56, 57, 58, 59, 60, 61, 62, 63, 64, 65, 66] (by decide +kernel) (by decide +kernel)
set_option maxRecDepth 20000 in
theorem gX9_zip_X9_becomes : GoodIn wsX9_zip (wsV RX9 159 RX9 yX9_becomes wsX9_becomes) := goodIn_app (goodIn_of _ (by decide +kernel)) ggX9_zip_X9_becomes
theorem dX9_zip_0 : decode cX9_zip 0 = .ok (.iload_n 1, 1) := by decide +kernel
theorem dX9_zip_1 : decode cX9_zip 1 = .ok (.invokestatic 107, 3) := by decide +kernel
theorem dX9_zip_4 : decode cX9_zip 4 = .ok (.ifCond .eq 17, 3) := by decide +kernel
theorem dX9_zip_7 : decode cX9_zip 7 = .ok (.iload_n 2, 1) := by decide +kernel
theorem dX9_zip_8 : decode cX9_zip 8 = .ok (.invokestatic 107, 3) := by decide +kernel
theorem dX9_zip_11 : decode cX9_zip 11 = .ok (.ifCond .eq 10, 3) := by decide +kernel
theorem dX9_zip_14 : decode cX9_zip 14 = .ok (.iload_n 3, 1) := by decide +kernel
theorem dX9_zip_15 : decode cX9_zip 15 = .ok (.invokestatic 107, 3) := by decide +kernel
theorem dX9_zip_18 : decode cX9_zip 18 = .ok (.ifCond .ne 10, 3) := by decide +kernel
theorem dX9_zip_21 : decode cX9_zip 21 = .ok (.aload_n 0, 1) := by decide +kernel
theorem dX9_zip_22 : decode cX9_zip 22 = .ok (.ldc 61, 2) := by decide +kernel
theorem dX9_zip_24 : decode cX9_zip 24 = .ok (.invokevirtual 110, 3) := by decide +kernel
theorem dX9_zip_27 : decode cX9_zip 27 = .ok (.ireturn, 1) := by decide +kernel
theorem dX9_zip_28 : decode cX9_zip 28 = .ok (.aload_n 0, 1) := by decide +kernel
theorem dX9_zip_29 : decode cX9_zip 29 = .ok (.invokevirtual 114, 3) := by decide +kernel
theorem dX9_zip_32 : decode cX9_zip 32 = .ok (.aload_n 0, 1) := by decide +kernel
theorem dX9_zip_33 : decode cX9_zip 33 = .ok (.getfield 13, 3) := by decide +kernel
theorem dX9_zip_36 : decode cX9_zip 36 = .ok (.iload_n 1, 1) := by decide +kernel
theorem dX9_zip_37 : decode cX9_zip 37 = .ok (.iaload, 1) := by decide +kernel
theorem dX9_zip_38 : decode cX9_zip 38 = .ok (.aload_n 0, 1) := by decide +kernel
theorem dX9_zip_39 : decode cX9_zip 39 = .ok (.getfield 13, 3) := by decide +kernel
theorem dX9_zip_42 : decode cX9_zip 42 = .ok (.iload_n 2, 1) := by decide +kernel
theorem dX9_zip_43 : decode cX9_zip 43 = .ok (.iaload, 1) := by decide +kernel
theorem dX9_zip_44 : decode cX9_zip 44 = .ok (.if_icmp .ge 12, 3) := by decide +kernel
theorem dX9_zip_47 : decode cX9_zip 47 = .ok (.aload_n 0, 1) := by decide +kernel
theorem dX9_zip_48 : decode cX9_zip 48 = .ok (.getfield 13, 3) := by decide +kernel
theorem dX9_zip_51 : decode cX9_zip 51 = .ok (.iload_n 1, 1) := by decide +kernel
theorem dX9_zip_52 : decode cX9_zip 52 = .ok (.iaload, 1) := by decide +kernel
theorem dX9_zip_53 : decode cX9_zip 53 = .ok (.goto 9, 3) := by decide +kernel
theorem dX9_zip_56 : decode cX9_zip 56 = .ok (.aload_n 0, 1) := by decide +kernel
theorem dX9_zip_57 : decode cX9_zip 57 = .ok (.getfield 13, 3) := by decide +kernel
theorem dX9_zip_60 : decode cX9_zip 60 = .ok (.iload_n 2, 1) := by decide +kernel
theorem dX9_zip_61 : decode cX9_zip 61 = .ok (.iaload, 1) := by decide +kernel
theorem dX9_zip_62 : decode cX9_zip 62 = .ok (.istore 4, 2) := by decide +kernel
theorem dX9_zip_64 : decode cX9_zip 64 = .ok (.iconst 0, 1) := by decide +kernel
theorem dX9_zip_65 : decode cX9_zip 65 = .ok (.istore 5, 2) := by decide +kernel
theorem dX9_zip_67 : decode cX9_zip 67 = .ok (.iload 5, 2) := by decide +kernel
theorem dX9_zip_69 : decode cX9_zip 69 = .ok (.iload 4, 2) := by decide +kernel
theorem dX9_zip_71 : decode cX9_zip 71 = .ok (.if_icmp .ge 33, 3) := by decide +kernel
theorem dX9_zip_74 : decode cX9_zip 74 = .ok (.aload_n 0, 1) := by decide +kernel
theorem dX9_zip_75 : decode cX9_zip 75 = .ok (.getfield 28, 3) := by decide +kernel
theorem dX9_zip_78 : decode cX9_zip 78 = .ok (.iload 5, 2) := by decide +kernel
theorem dX9_zip_80 : decode cX9_zip 80 = .ok (.aload_n 0, 1) := by decide +kernel
theorem dX9_zip_81 : decode cX9_zip 81 = .ok (.iload_n 1, 1) := by decide +kernel
theorem dX9_zip_82 : decode cX9_zip 82 = .ok (.iload 5, 2) := by decide +kernel
theorem dX9_zip_84 : decode cX9_zip 84 = .ok (.invokevirtual 89, 3) := by decide +kernel
theorem dX9_zip_87 : decode cX9_zip 87 = .ok (.aload_n 0, 1) := by decide +kernel
theorem dX9_zip_88 : decode cX9_zip 88 = .ok (.iload_n 2, 1) := by decide +kernel
theorem dX9_zip_89 : decode cX9_zip 89 = .ok (.iload 5, 2) := by decide +kernel
theorem dX9_zip_91 : decode cX9_zip 91 = .ok (.invokevirtual 89, 3) := by decide +kernel
theorem dX9_zip_94 : decode cX9_zip 94 = .ok (.invokestatic 100, 3) := by decide +kernel
theorem dX9_zip_97 : decode cX9_zip 97 = .ok (.iastore, 1) := by decide +kernel
theorem dX9_zip_98 : decode cX9_zip 98 = .ok (.iinc 5 1, 3) := by decide +kernel
theorem dX9_zip_101 : decode cX9_zip 101 = .ok (.goto (-34), 3) := by decide +kernel
theorem dX9_zip_104 : decode cX9_zip 104 = .ok (.aload_n 0, 1) := by decide +kernel
theorem dX9_zip_105 : decode cX9_zip 105 = .ok (.iload_n 3, 1) := by decide +kernel
theorem dX9_zip_106 : decode cX9_zip 106 = .ok (.iload 4, 2) := by decide +kernel
theorem dX9_zip_108 : decode cX9_zip 108 = .ok (.invokevirtual 159, 3) := by decide +kernel
theorem dX9_zip_111 : decode cX9_zip 111 = .ok (.iload 4, 2) := by decide +kernel
theorem dX9_zip_113 : decode cX9_zip 113 = .ok (.ireturn, 1) := by decide +kernel
set_option maxRecDepth 20000 in
theorem ggX9_clears_X9_isMap : GoodIn wsX9_clears wsX9_isMap := goodIn_r _ [5, 6, 7, 8, 4, 9] (by decide +kernel) (by decide +kernel)
set_option maxRecDepth 20000 in
theorem gX9_clears_X9_isMap : GoodIn wsX9_clears (va_wsS RX9 107 yX9_isMap wsX9_isMap) := goodIn_app (goodIn_of _ (by decide +kernel)) ggX9_clears_X9_isMap
set_option maxRecDepth 20000 in
theorem ggX9_clears_X9_isRange : GoodIn wsX9_clears wsX9_isRange := goodIn_r _ [12, 13, 14, 4, 15, 16, 17, 7, 8, 9] (by decide +kernel) (by decide +kernel)
set_option maxRecDepth 20000 in
theorem gX9_clears_X9_isRange : GoodIn wsX9_clears (va_wsS RX9 133 yX9_isRange wsX9_isRange) := goodIn_app (goodIn_of _ (by decide +kernel)) ggX9_clears_X9_isRange
set_option maxRecDepth 20000 in
theorem ggX9_clears_X9_refuses : GoodIn wsX9_clears wsX9_refuses := goodIn_r _ [21, 22, 1, 47, 48, 49, 50, 51, 52, 53, 54, 55, 56, 57, 58, 59, 60, 61, 62, 63, 64, 65, 66, 67, 68, 69, 70, 71, 72, 73] (by decide +kernel) (by decide +kernel)
set_option maxRecDepth 20000 in
theorem gX9_clears_X9_refuses : GoodIn wsX9_clears (wsV RX9 110 RX9 yX9_refuses wsX9_refuses) := goodIn_app (goodIn_of _ (by decide +kernel)) ggX9_clears_X9_refuses
set_option maxRecDepth 20000 in
theorem ggX9_clears_X9_keeps : GoodIn wsX9_clears wsX9_keeps := goodIn_r _ [26, 27, 28, 29, 30, 31, 47, 48, 49, 50, 51, 52, 53, 54, 55, 56, 57, 58, 59, 60, 61, 62, 63, 64, 65, 66, 67, 68, 69, 70, 71, 72, 73] (by decide +kernel) (by decide +kernel)
set_option maxRecDepth 20000 in
theorem gX9_clears_X9_keeps : GoodIn wsX9_clears (wsV RX9 114 RX9 yX9_keeps wsX9_keeps) := goodIn_app (goodIn_of _ (by decide +kernel)) ggX9_clears_X9_keeps
set_option maxRecDepth 20000 in
theorem ggX9_clears_X9_below : GoodIn wsX9_clears wsX9_below := goodIn_r _ [35, 31, 36, 37, 38, 4, 39, 30, 40, 41, 42, 47, 48, 49, 50, 51, 52, 53, 54, 55, 56, 57, 58, 59, 60, 61, 62, 63, 64, 65, 66, 67, 68, 69, 70, 71, 72, 73] (by decide +kernel) (by decide +kernel)
set_option maxRecDepth 20000 in
theorem gX9_clears_X9_below : GoodIn wsX9_clears (wsV RX9 93 RX9 yX9_below wsX9_below) := goodIn_app (goodIn_of _ (by decide +kernel)) ggX9_clears_X9_below
set_option maxRecDepth 20000 in
theorem ggX9_clears_X9_goes : GoodIn wsX9_clears wsX9_goes := goodIn_r _ [46, 31, 30, 47, 48, 49, 50, 51, 52, 53, 54, 55, 56, 57, 58, 59, 60, 61, 62, 63, 64, 65, 66, 67, 68, 69, 70, 71, 72, 73] (by decide +kernel) (by decide +kernel)
set_option maxRecDepth 20000 in
theorem gX9_clears_X9_goes : GoodIn wsX9_clears (wsV RX9 126 RX9 yX9_goes wsX9_goes) := goodIn_app (goodIn_of _ (by decide +kernel)) ggX9_clears_X9_goes
theorem dX9_clears_0 : decode cX9_clears 0 = .ok (.iload_n 1, 1) := by decide +kernel
theorem dX9_clears_1 : decode cX9_clears 1 = .ok (.invokestatic 107, 3) := by decide +kernel
theorem dX9_clears_4 : decode cX9_clears 4 = .ok (.ifCond .eq 11, 3) := by decide +kernel
theorem dX9_clears_7 : decode cX9_clears 7 = .ok (.iload_n 2, 1) := by decide +kernel
theorem dX9_clears_8 : decode cX9_clears 8 = .ok (.iload_n 3, 1) := by decide +kernel
theorem dX9_clears_9 : decode cX9_clears 9 = .ok (.invokestatic 133, 3) := by decide +kernel
theorem dX9_clears_12 : decode cX9_clears 12 = .ok (.ifCond .ne 10, 3) := by decide +kernel
theorem dX9_clears_15 : decode cX9_clears 15 = .ok (.aload_n 0, 1) := by decide +kernel
theorem dX9_clears_16 : decode cX9_clears 16 = .ok (.ldc 61, 2) := by decide +kernel
theorem dX9_clears_18 : decode cX9_clears 18 = .ok (.invokevirtual 110, 3) := by decide +kernel
theorem dX9_clears_21 : decode cX9_clears 21 = .ok (.ireturn, 1) := by decide +kernel
theorem dX9_clears_22 : decode cX9_clears 22 = .ok (.aload_n 0, 1) := by decide +kernel
theorem dX9_clears_23 : decode cX9_clears 23 = .ok (.invokevirtual 114, 3) := by decide +kernel
theorem dX9_clears_26 : decode cX9_clears 26 = .ok (.aload_n 0, 1) := by decide +kernel
theorem dX9_clears_27 : decode cX9_clears 27 = .ok (.iload_n 1, 1) := by decide +kernel
theorem dX9_clears_28 : decode cX9_clears 28 = .ok (.iload_n 2, 1) := by decide +kernel
theorem dX9_clears_29 : decode cX9_clears 29 = .ok (.invokevirtual 93, 3) := by decide +kernel
theorem dX9_clears_32 : decode cX9_clears 32 = .ok (.istore 4, 2) := by decide +kernel
theorem dX9_clears_34 : decode cX9_clears 34 = .ok (.aload_n 0, 1) := by decide +kernel
theorem dX9_clears_35 : decode cX9_clears 35 = .ok (.iload_n 1, 1) := by decide +kernel
theorem dX9_clears_36 : decode cX9_clears 36 = .ok (.iload_n 3, 1) := by decide +kernel
theorem dX9_clears_37 : decode cX9_clears 37 = .ok (.iconst 1, 1) := by decide +kernel
theorem dX9_clears_38 : decode cX9_clears 38 = .ok (.iadd, 1) := by decide +kernel
theorem dX9_clears_39 : decode cX9_clears 39 = .ok (.invokevirtual 93, 3) := by decide +kernel
theorem dX9_clears_42 : decode cX9_clears 42 = .ok (.istore 5, 2) := by decide +kernel
theorem dX9_clears_44 : decode cX9_clears 44 = .ok (.aload_n 0, 1) := by decide +kernel
theorem dX9_clears_45 : decode cX9_clears 45 = .ok (.iload_n 1, 1) := by decide +kernel
theorem dX9_clears_46 : decode cX9_clears 46 = .ok (.iload 4, 2) := by decide +kernel
theorem dX9_clears_48 : decode cX9_clears 48 = .ok (.iload 5, 2) := by decide +kernel
theorem dX9_clears_50 : decode cX9_clears 50 = .ok (.invokevirtual 126, 3) := by decide +kernel
theorem dX9_clears_53 : decode cX9_clears 53 = .ok (.iload 5, 2) := by decide +kernel
theorem dX9_clears_55 : decode cX9_clears 55 = .ok (.iload 4, 2) := by decide +kernel
theorem dX9_clears_57 : decode cX9_clears 57 = .ok (.isub, 1) := by decide +kernel
theorem dX9_clears_58 : decode cX9_clears 58 = .ok (.ireturn, 1) := by decide +kernel
theorem dX9_aside_0 : decode cX9_aside 0 = .ok (.iconst 0, 1) := by decide +kernel
theorem dX9_aside_1 : decode cX9_aside 1 = .ok (.istore_n 2, 1) := by decide +kernel
theorem dX9_aside_2 : decode cX9_aside 2 = .ok (.iload_n 2, 1) := by decide +kernel
theorem dX9_aside_3 : decode cX9_aside 3 = .ok (.sipush 1200, 3) := by decide +kernel
theorem dX9_aside_6 : decode cX9_aside 6 = .ok (.if_icmp .ge 40, 3) := by decide +kernel
theorem dX9_aside_9 : decode cX9_aside 9 = .ok (.iload_n 1, 1) := by decide +kernel
theorem dX9_aside_10 : decode cX9_aside 10 = .ok (.ifCond .eq 18, 3) := by decide +kernel
theorem dX9_aside_13 : decode cX9_aside 13 = .ok (.aload_n 0, 1) := by decide +kernel
theorem dX9_aside_14 : decode cX9_aside 14 = .ok (.getfield 7, 3) := by decide +kernel
theorem dX9_aside_17 : decode cX9_aside 17 = .ok (.iload_n 2, 1) := by decide +kernel
theorem dX9_aside_18 : decode cX9_aside 18 = .ok (.aload_n 0, 1) := by decide +kernel
theorem dX9_aside_19 : decode cX9_aside 19 = .ok (.getfield 22, 3) := by decide +kernel
theorem dX9_aside_22 : decode cX9_aside 22 = .ok (.iload_n 2, 1) := by decide +kernel
theorem dX9_aside_23 : decode cX9_aside 23 = .ok (.iaload, 1) := by decide +kernel
theorem dX9_aside_24 : decode cX9_aside 24 = .ok (.iastore, 1) := by decide +kernel
theorem dX9_aside_25 : decode cX9_aside 25 = .ok (.goto 15, 3) := by decide +kernel
theorem dX9_aside_28 : decode cX9_aside 28 = .ok (.aload_n 0, 1) := by decide +kernel
theorem dX9_aside_29 : decode cX9_aside 29 = .ok (.getfield 22, 3) := by decide +kernel
theorem dX9_aside_32 : decode cX9_aside 32 = .ok (.iload_n 2, 1) := by decide +kernel
theorem dX9_aside_33 : decode cX9_aside 33 = .ok (.aload_n 0, 1) := by decide +kernel
theorem dX9_aside_34 : decode cX9_aside 34 = .ok (.getfield 7, 3) := by decide +kernel
theorem dX9_aside_37 : decode cX9_aside 37 = .ok (.iload_n 2, 1) := by decide +kernel
theorem dX9_aside_38 : decode cX9_aside 38 = .ok (.iaload, 1) := by decide +kernel
theorem dX9_aside_39 : decode cX9_aside 39 = .ok (.iastore, 1) := by decide +kernel
theorem dX9_aside_40 : decode cX9_aside 40 = .ok (.iinc 2 1, 3) := by decide +kernel
theorem dX9_aside_43 : decode cX9_aside 43 = .ok (.goto (-41), 3) := by decide +kernel
theorem dX9_aside_46 : decode cX9_aside 46 = .ok (.iconst 0, 1) := by decide +kernel
theorem dX9_aside_47 : decode cX9_aside 47 = .ok (.istore_n 2, 1) := by decide +kernel
theorem dX9_aside_48 : decode cX9_aside 48 = .ok (.iload_n 2, 1) := by decide +kernel
theorem dX9_aside_49 : decode cX9_aside 49 = .ok (.bipush 6, 2) := by decide +kernel
theorem dX9_aside_51 : decode cX9_aside 51 = .ok (.if_icmp .ge 40, 3) := by decide +kernel
theorem dX9_aside_54 : decode cX9_aside 54 = .ok (.iload_n 1, 1) := by decide +kernel
theorem dX9_aside_55 : decode cX9_aside 55 = .ok (.ifCond .eq 18, 3) := by decide +kernel
theorem dX9_aside_58 : decode cX9_aside 58 = .ok (.aload_n 0, 1) := by decide +kernel
theorem dX9_aside_59 : decode cX9_aside 59 = .ok (.getfield 13, 3) := by decide +kernel
theorem dX9_aside_62 : decode cX9_aside 62 = .ok (.iload_n 2, 1) := by decide +kernel
theorem dX9_aside_63 : decode cX9_aside 63 = .ok (.aload_n 0, 1) := by decide +kernel
theorem dX9_aside_64 : decode cX9_aside 64 = .ok (.getfield 25, 3) := by decide +kernel
theorem dX9_aside_67 : decode cX9_aside 67 = .ok (.iload_n 2, 1) := by decide +kernel
theorem dX9_aside_68 : decode cX9_aside 68 = .ok (.iaload, 1) := by decide +kernel
theorem dX9_aside_69 : decode cX9_aside 69 = .ok (.iastore, 1) := by decide +kernel
theorem dX9_aside_70 : decode cX9_aside 70 = .ok (.goto 15, 3) := by decide +kernel
theorem dX9_aside_73 : decode cX9_aside 73 = .ok (.aload_n 0, 1) := by decide +kernel
theorem dX9_aside_74 : decode cX9_aside 74 = .ok (.getfield 25, 3) := by decide +kernel
theorem dX9_aside_77 : decode cX9_aside 77 = .ok (.iload_n 2, 1) := by decide +kernel
theorem dX9_aside_78 : decode cX9_aside 78 = .ok (.aload_n 0, 1) := by decide +kernel
theorem dX9_aside_79 : decode cX9_aside 79 = .ok (.getfield 13, 3) := by decide +kernel
theorem dX9_aside_82 : decode cX9_aside 82 = .ok (.iload_n 2, 1) := by decide +kernel
theorem dX9_aside_83 : decode cX9_aside 83 = .ok (.iaload, 1) := by decide +kernel
theorem dX9_aside_84 : decode cX9_aside 84 = .ok (.iastore, 1) := by decide +kernel
theorem dX9_aside_85 : decode cX9_aside 85 = .ok (.iinc 2 1, 3) := by decide +kernel
theorem dX9_aside_88 : decode cX9_aside 88 = .ok (.goto (-40), 3) := by decide +kernel
theorem dX9_aside_91 : decode cX9_aside 91 = .ok (.return_, 1) := by decide +kernel
set_option maxRecDepth 20000 in
theorem ggX9_keepsAside_X9_keeps : GoodIn wsX9_keepsAside wsX9_keeps := goodIn_r _ [10, 2, 1, 4, 11, 12, 13, 14, 15, 16, 17, 18, 19, 20, 21, 22, 23, 24, 25, 26, 27, 28, 29, 30, 31, 32, 33, 34, 35, 36, 37, 38, 39] (by decide +kernel) (by decide +kernel)
set_option maxRecDepth 20000 in
theorem gX9_keepsAside_X9_keeps : GoodIn wsX9_keepsAside (wsV RX9 114 RX9 yX9_keeps wsX9_keeps) := goodIn_app (goodIn_of _ (by decide +kernel)) ggX9_keepsAside_X9_keeps
theorem dX9_keepsAside_0 : decode cX9_keepsAside 0 = .ok (.aload_n 0, 1) := by decide +kernel
theorem dX9_keepsAside_1 : decode cX9_keepsAside 1 = .ok (.invokevirtual 114, 3) := by decide +kernel
theorem dX9_keepsAside_4 : decode cX9_keepsAside 4 = .ok (.iconst 0, 1) := by decide +kernel
theorem dX9_keepsAside_5 : decode cX9_keepsAside 5 = .ok (.istore_n 1, 1) := by decide +kernel
theorem dX9_keepsAside_6 : decode cX9_keepsAside 6 = .ok (.iload_n 1, 1) := by decide +kernel
theorem dX9_keepsAside_7 : decode cX9_keepsAside 7 = .ok (.sipush 1200, 3) := by decide +kernel
theorem dX9_keepsAside_10 : decode cX9_keepsAside 10 = .ok (.if_icmp .ge 32, 3) := by decide +kernel
theorem dX9_keepsAside_13 : decode cX9_keepsAside 13 = .ok (.aload_n 0, 1) := by decide +kernel
theorem dX9_keepsAside_14 : decode cX9_keepsAside 14 = .ok (.getfield 16, 3) := by decide +kernel
theorem dX9_keepsAside_17 : decode cX9_keepsAside 17 = .ok (.sipush 1200, 3) := by decide +kernel
theorem dX9_keepsAside_20 : decode cX9_keepsAside 20 = .ok (.aload_n 0, 1) := by decide +kernel
theorem dX9_keepsAside_21 : decode cX9_keepsAside 21 = .ok (.getfield 103, 3) := by decide +kernel
theorem dX9_keepsAside_24 : decode cX9_keepsAside 24 = .ok (.iconst 1, 1) := by decide +kernel
theorem dX9_keepsAside_25 : decode cX9_keepsAside 25 = .ok (.isub, 1) := by decide +kernel
theorem dX9_keepsAside_26 : decode cX9_keepsAside 26 = .ok (.imul, 1) := by decide +kernel
theorem dX9_keepsAside_27 : decode cX9_keepsAside 27 = .ok (.iload_n 1, 1) := by decide +kernel
theorem dX9_keepsAside_28 : decode cX9_keepsAside 28 = .ok (.iadd, 1) := by decide +kernel
theorem dX9_keepsAside_29 : decode cX9_keepsAside 29 = .ok (.aload_n 0, 1) := by decide +kernel
theorem dX9_keepsAside_30 : decode cX9_keepsAside 30 = .ok (.getfield 22, 3) := by decide +kernel
theorem dX9_keepsAside_33 : decode cX9_keepsAside 33 = .ok (.iload_n 1, 1) := by decide +kernel
theorem dX9_keepsAside_34 : decode cX9_keepsAside 34 = .ok (.iaload, 1) := by decide +kernel
theorem dX9_keepsAside_35 : decode cX9_keepsAside 35 = .ok (.iastore, 1) := by decide +kernel
theorem dX9_keepsAside_36 : decode cX9_keepsAside 36 = .ok (.iinc 1 1, 3) := by decide +kernel
theorem dX9_keepsAside_39 : decode cX9_keepsAside 39 = .ok (.goto (-33), 3) := by decide +kernel
theorem dX9_keepsAside_42 : decode cX9_keepsAside 42 = .ok (.iconst 0, 1) := by decide +kernel
theorem dX9_keepsAside_43 : decode cX9_keepsAside 43 = .ok (.istore_n 1, 1) := by decide +kernel
theorem dX9_keepsAside_44 : decode cX9_keepsAside 44 = .ok (.iload_n 1, 1) := by decide +kernel
theorem dX9_keepsAside_45 : decode cX9_keepsAside 45 = .ok (.bipush 6, 2) := by decide +kernel
theorem dX9_keepsAside_47 : decode cX9_keepsAside 47 = .ok (.if_icmp .ge 31, 3) := by decide +kernel
theorem dX9_keepsAside_50 : decode cX9_keepsAside 50 = .ok (.aload_n 0, 1) := by decide +kernel
theorem dX9_keepsAside_51 : decode cX9_keepsAside 51 = .ok (.getfield 19, 3) := by decide +kernel
theorem dX9_keepsAside_54 : decode cX9_keepsAside 54 = .ok (.bipush 6, 2) := by decide +kernel
theorem dX9_keepsAside_56 : decode cX9_keepsAside 56 = .ok (.aload_n 0, 1) := by decide +kernel
theorem dX9_keepsAside_57 : decode cX9_keepsAside 57 = .ok (.getfield 103, 3) := by decide +kernel
theorem dX9_keepsAside_60 : decode cX9_keepsAside 60 = .ok (.iconst 1, 1) := by decide +kernel
theorem dX9_keepsAside_61 : decode cX9_keepsAside 61 = .ok (.isub, 1) := by decide +kernel
theorem dX9_keepsAside_62 : decode cX9_keepsAside 62 = .ok (.imul, 1) := by decide +kernel
theorem dX9_keepsAside_63 : decode cX9_keepsAside 63 = .ok (.iload_n 1, 1) := by decide +kernel
theorem dX9_keepsAside_64 : decode cX9_keepsAside 64 = .ok (.iadd, 1) := by decide +kernel
theorem dX9_keepsAside_65 : decode cX9_keepsAside 65 = .ok (.aload_n 0, 1) := by decide +kernel
theorem dX9_keepsAside_66 : decode cX9_keepsAside 66 = .ok (.getfield 25, 3) := by decide +kernel
theorem dX9_keepsAside_69 : decode cX9_keepsAside 69 = .ok (.iload_n 1, 1) := by decide +kernel
theorem dX9_keepsAside_70 : decode cX9_keepsAside 70 = .ok (.iaload, 1) := by decide +kernel
theorem dX9_keepsAside_71 : decode cX9_keepsAside 71 = .ok (.iastore, 1) := by decide +kernel
theorem dX9_keepsAside_72 : decode cX9_keepsAside 72 = .ok (.iinc 1 1, 3) := by decide +kernel
theorem dX9_keepsAside_75 : decode cX9_keepsAside 75 = .ok (.goto (-31), 3) := by decide +kernel
theorem dX9_keepsAside_78 : decode cX9_keepsAside 78 = .ok (.return_, 1) := by decide +kernel
set_option maxRecDepth 20000 in
theorem ggX9_scatter_X9_isMap : GoodIn wsX9_scatter wsX9_isMap := goodIn_r _ [18, 19, 20, 21, 17, 22] (by decide +kernel) (by decide +kernel)
set_option maxRecDepth 20000 in
theorem gX9_scatter_X9_isMap : GoodIn wsX9_scatter (va_wsS RX9 107 yX9_isMap wsX9_isMap) := goodIn_app (goodIn_of _ (by decide +kernel)) ggX9_scatter_X9_isMap
set_option maxRecDepth 20000 in
theorem ggX9_scatter_X9_in : GoodIn wsX9_scatter wsX9_in := goodIn_r _ [22] (by decide +kernel) (by decide +kernel)
set_option maxRecDepth 20000 in
theorem gX9_scatter_X9_in : GoodIn wsX9_scatter (va_wsS RX9 68 yX9_in wsX9_in) := goodIn_app (goodIn_of _ (by decide +kernel)) ggX9_scatter_X9_in
set_option maxRecDepth 20000 in
theorem ggX9_scatter_X9_refuses : GoodIn wsX9_scatter wsX9_refuses := goodIn_r _ [26, 27, 3, 73, 74, 75, 76, 77, 78, 79, 80, 81, 82, 83, 84, 85, 86, 87, 88, 89, 90, 91, 92, 93, 94, 95, 96, 97, 98, 99] (by decide +kernel) (by decide +kernel)
set_option maxRecDepth 20000 in
theorem gX9_scatter_X9_refuses : GoodIn wsX9_scatter (wsV RX9 110 RX9 yX9_refuses wsX9_refuses) := goodIn_app (goodIn_of _ (by decide +kernel)) ggX9_scatter_X9_refuses
set_option maxRecDepth 20000 in
theorem ggX9_scatter_X9_aside : GoodIn wsX9_scatter wsX9_aside := goodIn_r _ [31, 32, 33, 11, 34, 73, 74, 75, 76, 77, 78, 79, 80, 81, 82, 83, 84, 85, 86, 87, 88, 89, 90, 91, 92, 93, 94, 95, 96, 97, 98, 99] (by decide +kernel) (by decide +kernel)
set_option maxRecDepth 20000 in
theorem gX9_scatter_X9_aside : GoodIn wsX9_scatter (wsV RX9 181 RX9 yX9_aside wsX9_aside) := goodIn_app (goodIn_of _ (by decide +kernel)) ggX9_scatter_X9_aside
set_option maxRecDepth 20000 in
theorem ggX9_scatter_X9_below : GoodIn wsX9_scatter wsX9_below := goodIn_r _ [38, 11, 39, 40, 41, 17, 42, 32, 43, 44, 45, 73, 74, 75, 76, 77, 78, 79, 80, 81, 82, 83, 84, 85, 86, 87, 88, 89, 90, 91, 92, 93, 94, 95, 96, 97, 98, 99] (by decide +kernel) (by decide +kernel)
set_option maxRecDepth 20000 in
theorem gX9_scatter_X9_below : GoodIn wsX9_scatter (wsV RX9 93 RX9 yX9_below wsX9_below) := goodIn_app (goodIn_of _ (by decide +kernel)) ggX9_scatter_X9_below
set_option maxRecDepth 20000 in
theorem ggX9_scatter_X9_isThere : GoodIn wsX9_scatter wsX9_isThere := goodIn_r _ [49, 11, 39, 40, 41, 17, 42, 32, 43, 44, 45, 73, 74, 75, 76, 77, 78, 79, 80, 81, 82, 83, 84, 85, 86, 87, 88, 89, 90, 91, 92, 93, 94, 95, 96, 97, 98, 99] (by decide +kernel) (by decide +kernel)
set_option maxRecDepth 20000 in
theorem gX9_scatter_X9_isThere : GoodIn wsX9_scatter (wsV RX9 96 RX9 yX9_isThere wsX9_isThere) := goodIn_app (goodIn_of _ (by decide +kernel)) ggX9_scatter_X9_isThere
set_option maxRecDepth 20000 in
theorem ggX9_scatter_X9_goes : GoodIn wsX9_scatter wsX9_goes := goodIn_r _ [53, 11, 32, 73, 74, 75, 76, 77, 78, 79, 80, 81, 82, 83, 84, 85, 86, 87, 88, 89, 90, 91, 92, 93, 94, 95, 96, 97, 98, 99] (by decide +kernel) (by decide +kernel)
set_option maxRecDepth 20000 in
theorem gX9_scatter_X9_goes : GoodIn wsX9_scatter (wsV RX9 126 RX9 yX9_goes wsX9_goes) := goodIn_app (goodIn_of _ (by decide +kernel)) ggX9_scatter_X9_goes
set_option maxRecDepth 20000 in
theorem ggX9_scatter_X9_lays : GoodIn wsX9_scatter wsX9_lays := goodIn_r _ [57, 11, 32, 35, 36, 37, 17, 38, 39, 40, 41, 42, 43, 44, 45, 46, 47, 48, 49, 58, 59, 60, 61, 73, 74, 75, 76, 77, 78, 79, 80, 81, 82, 83, 84, 85, 86, 87, 88, 89, 90, 91, 92, 93, 94, 95, 96, 97, 98, 99] (by decide +kernel) (by decide +kernel)
set_option maxRecDepth 20000 in
theorem gX9_scatter_X9_lays : GoodIn wsX9_scatter (wsV RX9 121 RX9 yX9_lays wsX9_lays) := goodIn_app (goodIn_of _ (by decide +kernel)) ggX9_scatter_X9_lays
set_option maxRecDepth 20000 in
theorem ggX9_scatter_X9_keepsAside : GoodIn wsX9_scatter wsX9_keepsAside := goodIn_r _ [65, 66, 67, 33, 68, 34, 69, 70, 71, 17, 72, 32, 11, 73, 74, 75, 76, 77, 78, 79, 80, 81, 82, 83, 84, 85, 86, 87, 88, 89, 90, 91, 92, 93, 94, 95, 96, 97, 98, 99] (by decide +kernel) (by decide +kernel)
set_option maxRecDepth 20000 in
theorem gX9_scatter_X9_keepsAside : GoodIn wsX9_scatter (wsV RX9 199 RX9 yX9_keepsAside wsX9_keepsAside) := goodIn_app (goodIn_of _ (by decide +kernel)) ggX9_scatter_X9_keepsAside
theorem dX9_scatter_0 : decode cX9_scatter 0 = .ok (.iload_n 1, 1) := by decide +kernel
theorem dX9_scatter_1 : decode cX9_scatter 1 = .ok (.invokestatic 107, 3) := by decide +kernel
theorem dX9_scatter_4 : decode cX9_scatter 4 = .ok (.ifCond .eq 27, 3) := by decide +kernel
theorem dX9_scatter_7 : decode cX9_scatter 7 = .ok (.iload_n 2, 1) := by decide +kernel
theorem dX9_scatter_8 : decode cX9_scatter 8 = .ok (.i2l, 1) := by decide +kernel
theorem dX9_scatter_9 : decode cX9_scatter 9 = .ok (.lconst 0, 1) := by decide +kernel
theorem dX9_scatter_10 : decode cX9_scatter 10 = .ok (.ldc2_w 177, 3) := by decide +kernel
theorem dX9_scatter_13 : decode cX9_scatter 13 = .ok (.invokestatic 68, 3) := by decide +kernel
theorem dX9_scatter_16 : decode cX9_scatter 16 = .ok (.ifCond .eq 15, 3) := by decide +kernel
theorem dX9_scatter_19 : decode cX9_scatter 19 = .ok (.iload_n 3, 1) := by decide +kernel
theorem dX9_scatter_20 : decode cX9_scatter 20 = .ok (.i2l, 1) := by decide +kernel
theorem dX9_scatter_21 : decode cX9_scatter 21 = .ok (.lconst 0, 1) := by decide +kernel
theorem dX9_scatter_22 : decode cX9_scatter 22 = .ok (.ldc2_w 179, 3) := by decide +kernel
theorem dX9_scatter_25 : decode cX9_scatter 25 = .ok (.invokestatic 68, 3) := by decide +kernel
theorem dX9_scatter_28 : decode cX9_scatter 28 = .ok (.ifCond .ne 10, 3) := by decide +kernel
theorem dX9_scatter_31 : decode cX9_scatter 31 = .ok (.aload_n 0, 1) := by decide +kernel
theorem dX9_scatter_32 : decode cX9_scatter 32 = .ok (.ldc 61, 2) := by decide +kernel
theorem dX9_scatter_34 : decode cX9_scatter 34 = .ok (.invokevirtual 110, 3) := by decide +kernel
theorem dX9_scatter_37 : decode cX9_scatter 37 = .ok (.ireturn, 1) := by decide +kernel
theorem dX9_scatter_38 : decode cX9_scatter 38 = .ok (.aload_n 0, 1) := by decide +kernel
theorem dX9_scatter_39 : decode cX9_scatter 39 = .ok (.iconst 0, 1) := by decide +kernel
theorem dX9_scatter_40 : decode cX9_scatter 40 = .ok (.invokevirtual 181, 3) := by decide +kernel
theorem dX9_scatter_43 : decode cX9_scatter 43 = .ok (.iload_n 2, 1) := by decide +kernel
theorem dX9_scatter_44 : decode cX9_scatter 44 = .ok (.i2l, 1) := by decide +kernel
theorem dX9_scatter_45 : decode cX9_scatter 45 = .ok (.lstore 4, 2) := by decide +kernel
theorem dX9_scatter_47 : decode cX9_scatter 47 = .ok (.iconst 0, 1) := by decide +kernel
theorem dX9_scatter_48 : decode cX9_scatter 48 = .ok (.istore 6, 2) := by decide +kernel
theorem dX9_scatter_50 : decode cX9_scatter 50 = .ok (.iload 6, 2) := by decide +kernel
theorem dX9_scatter_52 : decode cX9_scatter 52 = .ok (.iload_n 3, 1) := by decide +kernel
theorem dX9_scatter_53 : decode cX9_scatter 53 = .ok (.if_icmp .ge 148, 3) := by decide +kernel
theorem dX9_scatter_56 : decode cX9_scatter 56 = .ok (.lload 4, 2) := by decide +kernel
theorem dX9_scatter_58 : decode cX9_scatter 58 = .ok (.ldc2_w 185, 3) := by decide +kernel
theorem dX9_scatter_61 : decode cX9_scatter 61 = .ok (.lmul, 1) := by decide +kernel
theorem dX9_scatter_62 : decode cX9_scatter 62 = .ok (.ldc2_w 187, 3) := by decide +kernel
theorem dX9_scatter_65 : decode cX9_scatter 65 = .ok (.ladd, 1) := by decide +kernel
theorem dX9_scatter_66 : decode cX9_scatter 66 = .ok (.ldc2_w 189, 3) := by decide +kernel
theorem dX9_scatter_69 : decode cX9_scatter 69 = .ok (.lrem, 1) := by decide +kernel
theorem dX9_scatter_70 : decode cX9_scatter 70 = .ok (.lstore 4, 2) := by decide +kernel
theorem dX9_scatter_72 : decode cX9_scatter 72 = .ok (.lload 4, 2) := by decide +kernel
theorem dX9_scatter_74 : decode cX9_scatter 74 = .ok (.ldc2_w 191, 3) := by decide +kernel
theorem dX9_scatter_77 : decode cX9_scatter 77 = .ok (.ldiv, 1) := by decide +kernel
theorem dX9_scatter_78 : decode cX9_scatter 78 = .ok (.ldc2_w 193, 3) := by decide +kernel
theorem dX9_scatter_81 : decode cX9_scatter 81 = .ok (.lrem, 1) := by decide +kernel
theorem dX9_scatter_82 : decode cX9_scatter 82 = .ok (.l2i, 1) := by decide +kernel
theorem dX9_scatter_83 : decode cX9_scatter 83 = .ok (.sipush 500, 3) := by decide +kernel
theorem dX9_scatter_86 : decode cX9_scatter 86 = .ok (.isub, 1) := by decide +kernel
theorem dX9_scatter_87 : decode cX9_scatter 87 = .ok (.istore 7, 2) := by decide +kernel
theorem dX9_scatter_89 : decode cX9_scatter 89 = .ok (.aload_n 0, 1) := by decide +kernel
theorem dX9_scatter_90 : decode cX9_scatter 90 = .ok (.iload_n 1, 1) := by decide +kernel
theorem dX9_scatter_91 : decode cX9_scatter 91 = .ok (.iload 7, 2) := by decide +kernel
theorem dX9_scatter_93 : decode cX9_scatter 93 = .ok (.invokevirtual 93, 3) := by decide +kernel
theorem dX9_scatter_96 : decode cX9_scatter 96 = .ok (.istore 8, 2) := by decide +kernel
theorem dX9_scatter_98 : decode cX9_scatter 98 = .ok (.aload_n 0, 1) := by decide +kernel
theorem dX9_scatter_99 : decode cX9_scatter 99 = .ok (.iload_n 1, 1) := by decide +kernel
theorem dX9_scatter_100 : decode cX9_scatter 100 = .ok (.iload 8, 2) := by decide +kernel
theorem dX9_scatter_102 : decode cX9_scatter 102 = .ok (.iload 7, 2) := by decide +kernel
theorem dX9_scatter_104 : decode cX9_scatter 104 = .ok (.invokevirtual 96, 3) := by decide +kernel
theorem dX9_scatter_107 : decode cX9_scatter 107 = .ok (.istore 9, 2) := by decide +kernel
theorem dX9_scatter_109 : decode cX9_scatter 109 = .ok (.lload 4, 2) := by decide +kernel
theorem dX9_scatter_111 : decode cX9_scatter 111 = .ok (.ldc2_w 195, 3) := by decide +kernel
theorem dX9_scatter_114 : decode cX9_scatter 114 = .ok (.ldiv, 1) := by decide +kernel
theorem dX9_scatter_115 : decode cX9_scatter 115 = .ok (.ldc2_w 167, 3) := by decide +kernel
theorem dX9_scatter_118 : decode cX9_scatter 118 = .ok (.lrem, 1) := by decide +kernel
theorem dX9_scatter_119 : decode cX9_scatter 119 = .ok (.lconst 0, 1) := by decide +kernel
theorem dX9_scatter_120 : decode cX9_scatter 120 = .ok (.lcmp, 1) := by decide +kernel
theorem dX9_scatter_121 : decode cX9_scatter 121 = .ok (.ifCond .ne 27, 3) := by decide +kernel
theorem dX9_scatter_124 : decode cX9_scatter 124 = .ok (.aload_n 0, 1) := by decide +kernel
theorem dX9_scatter_125 : decode cX9_scatter 125 = .ok (.iload_n 1, 1) := by decide +kernel
theorem dX9_scatter_126 : decode cX9_scatter 126 = .ok (.iload 8, 2) := by decide +kernel
theorem dX9_scatter_128 : decode cX9_scatter 128 = .ok (.iload 9, 2) := by decide +kernel
theorem dX9_scatter_130 : decode cX9_scatter 130 = .ok (.ifCond .eq 10, 3) := by decide +kernel
theorem dX9_scatter_133 : decode cX9_scatter 133 = .ok (.iload 8, 2) := by decide +kernel
theorem dX9_scatter_135 : decode cX9_scatter 135 = .ok (.iconst 1, 1) := by decide +kernel
theorem dX9_scatter_136 : decode cX9_scatter 136 = .ok (.iadd, 1) := by decide +kernel
theorem dX9_scatter_137 : decode cX9_scatter 137 = .ok (.goto 5, 3) := by decide +kernel
theorem dX9_scatter_140 : decode cX9_scatter 140 = .ok (.iload 8, 2) := by decide +kernel
theorem dX9_scatter_142 : decode cX9_scatter 142 = .ok (.invokevirtual 126, 3) := by decide +kernel
theorem dX9_scatter_145 : decode cX9_scatter 145 = .ok (.goto 50, 3) := by decide +kernel
theorem dX9_scatter_148 : decode cX9_scatter 148 = .ok (.iload 9, 2) := by decide +kernel
theorem dX9_scatter_150 : decode cX9_scatter 150 = .ok (.ifCond .ne 27, 3) := by decide +kernel
theorem dX9_scatter_153 : decode cX9_scatter 153 = .ok (.aload_n 0, 1) := by decide +kernel
theorem dX9_scatter_154 : decode cX9_scatter 154 = .ok (.getfield 13, 3) := by decide +kernel
theorem dX9_scatter_157 : decode cX9_scatter 157 = .ok (.iload_n 1, 1) := by decide +kernel
theorem dX9_scatter_158 : decode cX9_scatter 158 = .ok (.iaload, 1) := by decide +kernel
theorem dX9_scatter_159 : decode cX9_scatter 159 = .ok (.sipush 200, 3) := by decide +kernel
theorem dX9_scatter_162 : decode cX9_scatter 162 = .ok (.if_icmp .ne 15, 3) := by decide +kernel
theorem dX9_scatter_165 : decode cX9_scatter 165 = .ok (.aload_n 0, 1) := by decide +kernel
theorem dX9_scatter_166 : decode cX9_scatter 166 = .ok (.iconst 1, 1) := by decide +kernel
theorem dX9_scatter_167 : decode cX9_scatter 167 = .ok (.invokevirtual 181, 3) := by decide +kernel
theorem dX9_scatter_170 : decode cX9_scatter 170 = .ok (.aload_n 0, 1) := by decide +kernel
theorem dX9_scatter_171 : decode cX9_scatter 171 = .ok (.ldc 113, 2) := by decide +kernel
theorem dX9_scatter_173 : decode cX9_scatter 173 = .ok (.invokevirtual 110, 3) := by decide +kernel
theorem dX9_scatter_176 : decode cX9_scatter 176 = .ok (.ireturn, 1) := by decide +kernel
theorem dX9_scatter_177 : decode cX9_scatter 177 = .ok (.aload_n 0, 1) := by decide +kernel
theorem dX9_scatter_178 : decode cX9_scatter 178 = .ok (.iload_n 1, 1) := by decide +kernel
theorem dX9_scatter_179 : decode cX9_scatter 179 = .ok (.iload 7, 2) := by decide +kernel
theorem dX9_scatter_181 : decode cX9_scatter 181 = .ok (.lload 4, 2) := by decide +kernel
theorem dX9_scatter_183 : decode cX9_scatter 183 = .ok (.ldc2_w 197, 3) := by decide +kernel
theorem dX9_scatter_186 : decode cX9_scatter 186 = .ok (.ldiv, 1) := by decide +kernel
theorem dX9_scatter_187 : decode cX9_scatter 187 = .ok (.ldc2_w 175, 3) := by decide +kernel
theorem dX9_scatter_190 : decode cX9_scatter 190 = .ok (.lrem, 1) := by decide +kernel
theorem dX9_scatter_191 : decode cX9_scatter 191 = .ok (.l2i, 1) := by decide +kernel
theorem dX9_scatter_192 : decode cX9_scatter 192 = .ok (.invokevirtual 121, 3) := by decide +kernel
theorem dX9_scatter_195 : decode cX9_scatter 195 = .ok (.iinc 6 1, 3) := by decide +kernel
theorem dX9_scatter_198 : decode cX9_scatter 198 = .ok (.goto (-148), 3) := by decide +kernel
theorem dX9_scatter_201 : decode cX9_scatter 201 = .ok (.aload_n 0, 1) := by decide +kernel
theorem dX9_scatter_202 : decode cX9_scatter 202 = .ok (.invokevirtual 199, 3) := by decide +kernel
theorem dX9_scatter_205 : decode cX9_scatter 205 = .ok (.aload_n 0, 1) := by decide +kernel
theorem dX9_scatter_206 : decode cX9_scatter 206 = .ok (.getfield 13, 3) := by decide +kernel
theorem dX9_scatter_209 : decode cX9_scatter 209 = .ok (.iload_n 1, 1) := by decide +kernel
theorem dX9_scatter_210 : decode cX9_scatter 210 = .ok (.iaload, 1) := by decide +kernel
theorem dX9_scatter_211 : decode cX9_scatter 211 = .ok (.ireturn, 1) := by decide +kernel
set_option maxRecDepth 20000 in
theorem ggX9_sound_X9_isMap : GoodIn wsX9_sound wsX9_isMap := goodIn_r _ [5, 6, 7, 8, 4, 9] (by decide +kernel) (by decide +kernel)
set_option maxRecDepth 20000 in
theorem gX9_sound_X9_isMap : GoodIn wsX9_sound (va_wsS RX9 107 yX9_isMap wsX9_isMap) := goodIn_app (goodIn_of _ (by decide +kernel)) ggX9_sound_X9_isMap
set_option maxRecDepth 20000 in
theorem ggX9_sound_X9_refuses : GoodIn wsX9_sound wsX9_refuses := goodIn_r _ [13, 14, 1, 15, 16, 17, 18, 19, 20, 21, 22, 23, 24, 25, 26, 27, 28, 29, 30, 31, 32, 33, 34, 35, 36, 37, 38, 39, 40, 41] (by decide +kernel) (by decide +kernel)
set_option maxRecDepth 20000 in
theorem gX9_sound_X9_refuses : GoodIn wsX9_sound (wsV RX9 110 RX9 yX9_refuses wsX9_refuses) := goodIn_app (goodIn_of _ (by decide +kernel)) ggX9_sound_X9_refuses
theorem dX9_sound_0 : decode cX9_sound 0 = .ok (.iload_n 1, 1) := by decide +kernel
theorem dX9_sound_1 : decode cX9_sound 1 = .ok (.invokestatic 107, 3) := by decide +kernel
theorem dX9_sound_4 : decode cX9_sound 4 = .ok (.ifCond .eq 7, 3) := by decide +kernel
theorem dX9_sound_7 : decode cX9_sound 7 = .ok (.iconst 1, 1) := by decide +kernel
theorem dX9_sound_8 : decode cX9_sound 8 = .ok (.goto 9, 3) := by decide +kernel
theorem dX9_sound_11 : decode cX9_sound 11 = .ok (.aload_n 0, 1) := by decide +kernel
theorem dX9_sound_12 : decode cX9_sound 12 = .ok (.ldc 61, 2) := by decide +kernel
theorem dX9_sound_14 : decode cX9_sound 14 = .ok (.invokevirtual 110, 3) := by decide +kernel
theorem dX9_sound_17 : decode cX9_sound 17 = .ok (.ireturn, 1) := by decide +kernel
set_option maxRecDepth 20000 in
theorem ggX9_mixer_X9_in : GoodIn wsX9_mixer wsX9_in := goodIn_r _ [7] (by decide +kernel) (by decide +kernel)
set_option maxRecDepth 20000 in
theorem gX9_mixer_X9_in : GoodIn wsX9_mixer (va_wsS RX9 68 yX9_in wsX9_in) := goodIn_app (goodIn_of _ (by decide +kernel)) ggX9_mixer_X9_in
set_option maxRecDepth 20000 in
theorem ggX9_mixer_X9_refuses : GoodIn wsX9_mixer wsX9_refuses := goodIn_r _ [11, 12, 2, 13, 14, 15, 16, 17, 18, 19, 20, 21, 22, 23, 24, 25, 26, 27, 28, 29, 30, 31, 32, 33, 34, 35, 36, 37, 38, 39] (by decide +kernel) (by decide +kernel)
set_option maxRecDepth 20000 in
theorem gX9_mixer_X9_refuses : GoodIn wsX9_mixer (wsV RX9 110 RX9 yX9_refuses wsX9_refuses) := goodIn_app (goodIn_of _ (by decide +kernel)) ggX9_mixer_X9_refuses
theorem dX9_mixer_0 : decode cX9_mixer 0 = .ok (.iload_n 1, 1) := by decide +kernel
theorem dX9_mixer_1 : decode cX9_mixer 1 = .ok (.i2l, 1) := by decide +kernel
theorem dX9_mixer_2 : decode cX9_mixer 2 = .ok (.lconst 0, 1) := by decide +kernel
theorem dX9_mixer_3 : decode cX9_mixer 3 = .ok (.ldc2_w 66, 3) := by decide +kernel
theorem dX9_mixer_6 : decode cX9_mixer 6 = .ok (.invokestatic 68, 3) := by decide +kernel
theorem dX9_mixer_9 : decode cX9_mixer 9 = .ok (.ifCond .ne 10, 3) := by decide +kernel
theorem dX9_mixer_12 : decode cX9_mixer 12 = .ok (.aload_n 0, 1) := by decide +kernel
theorem dX9_mixer_13 : decode cX9_mixer 13 = .ok (.ldc 61, 2) := by decide +kernel
theorem dX9_mixer_15 : decode cX9_mixer 15 = .ok (.invokevirtual 110, 3) := by decide +kernel
theorem dX9_mixer_18 : decode cX9_mixer 18 = .ok (.ireturn, 1) := by decide +kernel
theorem dX9_mixer_19 : decode cX9_mixer 19 = .ok (.aload_n 0, 1) := by decide +kernel
theorem dX9_mixer_20 : decode cX9_mixer 20 = .ok (.getfield 141, 3) := by decide +kernel
theorem dX9_mixer_23 : decode cX9_mixer 23 = .ok (.istore_n 2, 1) := by decide +kernel
theorem dX9_mixer_24 : decode cX9_mixer 24 = .ok (.aload_n 0, 1) := by decide +kernel
theorem dX9_mixer_25 : decode cX9_mixer 25 = .ok (.iload_n 1, 1) := by decide +kernel
theorem dX9_mixer_26 : decode cX9_mixer 26 = .ok (.putfield 141, 3) := by decide +kernel
theorem dX9_mixer_29 : decode cX9_mixer 29 = .ok (.iload_n 2, 1) := by decide +kernel
theorem dX9_mixer_30 : decode cX9_mixer 30 = .ok (.ireturn, 1) := by decide +kernel
set_option maxRecDepth 20000 in
theorem ggX9_type_X9_in : GoodIn wsX9_type wsX9_in := goodIn_r _ [9] (by decide +kernel) (by decide +kernel)
set_option maxRecDepth 20000 in
theorem gX9_type_X9_in : GoodIn wsX9_type (va_wsS RX9 68 yX9_in wsX9_in) := goodIn_app (goodIn_of _ (by decide +kernel)) ggX9_type_X9_in
set_option maxRecDepth 20000 in
theorem ggX9_type_X9_refuses : GoodIn wsX9_type wsX9_refuses := goodIn_r _ [13, 14, 2, 15, 16, 17, 18, 19, 20, 21, 22, 23, 24, 25, 26, 27, 28, 29, 30, 31, 32, 33, 34, 35, 36, 37, 38, 39, 40, 41] (by decide +kernel) (by decide +kernel)
set_option maxRecDepth 20000 in
theorem gX9_type_X9_refuses : GoodIn wsX9_type (wsV RX9 110 RX9 yX9_refuses wsX9_refuses) := goodIn_app (goodIn_of _ (by decide +kernel)) ggX9_type_X9_refuses
theorem dX9_type_0 : decode cX9_type 0 = .ok (.iload_n 1, 1) := by decide +kernel
theorem dX9_type_1 : decode cX9_type 1 = .ok (.i2l, 1) := by decide +kernel
theorem dX9_type_2 : decode cX9_type 2 = .ok (.lconst 0, 1) := by decide +kernel
theorem dX9_type_3 : decode cX9_type 3 = .ok (.ldc2_w 202, 3) := by decide +kernel
theorem dX9_type_6 : decode cX9_type 6 = .ok (.invokestatic 68, 3) := by decide +kernel
theorem dX9_type_9 : decode cX9_type 9 = .ok (.ifCond .ne 10, 3) := by decide +kernel
theorem dX9_type_12 : decode cX9_type 12 = .ok (.aload_n 0, 1) := by decide +kernel
theorem dX9_type_13 : decode cX9_type 13 = .ok (.ldc 61, 2) := by decide +kernel
theorem dX9_type_15 : decode cX9_type 15 = .ok (.invokevirtual 110, 3) := by decide +kernel
theorem dX9_type_18 : decode cX9_type 18 = .ok (.ireturn, 1) := by decide +kernel
theorem dX9_type_19 : decode cX9_type 19 = .ok (.aload_n 0, 1) := by decide +kernel
theorem dX9_type_20 : decode cX9_type 20 = .ok (.getfield 204, 3) := by decide +kernel
theorem dX9_type_23 : decode cX9_type 23 = .ok (.bipush 120, 2) := by decide +kernel
theorem dX9_type_25 : decode cX9_type 25 = .ok (.if_icmp .ne 10, 3) := by decide +kernel
theorem dX9_type_28 : decode cX9_type 28 = .ok (.aload_n 0, 1) := by decide +kernel
theorem dX9_type_29 : decode cX9_type 29 = .ok (.ldc 113, 2) := by decide +kernel
theorem dX9_type_31 : decode cX9_type 31 = .ok (.invokevirtual 110, 3) := by decide +kernel
theorem dX9_type_34 : decode cX9_type 34 = .ok (.ireturn, 1) := by decide +kernel
theorem dX9_type_35 : decode cX9_type 35 = .ok (.aload_n 0, 1) := by decide +kernel
theorem dX9_type_36 : decode cX9_type 36 = .ok (.getfield 34, 3) := by decide +kernel
theorem dX9_type_39 : decode cX9_type 39 = .ok (.aload_n 0, 1) := by decide +kernel
theorem dX9_type_40 : decode cX9_type 40 = .ok (.getfield 204, 3) := by decide +kernel
theorem dX9_type_43 : decode cX9_type 43 = .ok (.iload_n 1, 1) := by decide +kernel
theorem dX9_type_44 : decode cX9_type 44 = .ok (.iastore, 1) := by decide +kernel
theorem dX9_type_45 : decode cX9_type 45 = .ok (.aload_n 0, 1) := by decide +kernel
theorem dX9_type_46 : decode cX9_type 46 = .ok (.dup, 1) := by decide +kernel
theorem dX9_type_47 : decode cX9_type 47 = .ok (.getfield 204, 3) := by decide +kernel
theorem dX9_type_50 : decode cX9_type 50 = .ok (.iconst 1, 1) := by decide +kernel
theorem dX9_type_51 : decode cX9_type 51 = .ok (.iadd, 1) := by decide +kernel
theorem dX9_type_52 : decode cX9_type 52 = .ok (.putfield 204, 3) := by decide +kernel
theorem dX9_type_55 : decode cX9_type 55 = .ok (.aload_n 0, 1) := by decide +kernel
theorem dX9_type_56 : decode cX9_type 56 = .ok (.getfield 204, 3) := by decide +kernel
theorem dX9_type_59 : decode cX9_type 59 = .ok (.ireturn, 1) := by decide +kernel
theorem dX9_clear_0 : decode cX9_clear 0 = .ok (.aload_n 0, 1) := by decide +kernel
theorem dX9_clear_1 : decode cX9_clear 1 = .ok (.getfield 204, 3) := by decide +kernel
theorem dX9_clear_4 : decode cX9_clear 4 = .ok (.istore_n 1, 1) := by decide +kernel
theorem dX9_clear_5 : decode cX9_clear 5 = .ok (.aload_n 0, 1) := by decide +kernel
theorem dX9_clear_6 : decode cX9_clear 6 = .ok (.iconst 0, 1) := by decide +kernel
theorem dX9_clear_7 : decode cX9_clear 7 = .ok (.putfield 204, 3) := by decide +kernel
theorem dX9_clear_10 : decode cX9_clear 10 = .ok (.iload_n 1, 1) := by decide +kernel
theorem dX9_clear_11 : decode cX9_clear 11 = .ok (.ireturn, 1) := by decide +kernel
theorem dX9_byteAt_0 : decode cX9_byteAt 0 = .ok (.iload_n 1, 1) := by decide +kernel
theorem dX9_byteAt_1 : decode cX9_byteAt 1 = .ok (.aload_n 0, 1) := by decide +kernel
theorem dX9_byteAt_2 : decode cX9_byteAt 2 = .ok (.getfield 204, 3) := by decide +kernel
theorem dX9_byteAt_5 : decode cX9_byteAt 5 = .ok (.if_icmp .ge 12, 3) := by decide +kernel
theorem dX9_byteAt_8 : decode cX9_byteAt 8 = .ok (.aload_n 0, 1) := by decide +kernel
theorem dX9_byteAt_9 : decode cX9_byteAt 9 = .ok (.getfield 34, 3) := by decide +kernel
theorem dX9_byteAt_12 : decode cX9_byteAt 12 = .ok (.iload_n 1, 1) := by decide +kernel
theorem dX9_byteAt_13 : decode cX9_byteAt 13 = .ok (.iaload, 1) := by decide +kernel
theorem dX9_byteAt_14 : decode cX9_byteAt 14 = .ok (.goto 4, 3) := by decide +kernel
theorem dX9_byteAt_17 : decode cX9_byteAt 17 = .ok (.iconst (-1), 1) := by decide +kernel
theorem dX9_byteAt_18 : decode cX9_byteAt 18 = .ok (.ireturn, 1) := by decide +kernel
set_option maxRecDepth 20000 in
theorem ggX9_skips_X9_byteAt : GoodIn wsX9_skips wsX9_byteAt := goodIn_r _ [6, 7, 8, 9, 10, 11, 12, 13, 14, 15, 16, 17, 18, 19, 20, 21, 22, 23, 24, 25, 26, 27, 28, 29, 30, 31, 32, 33, 34, 35] (by decide +kernel) (by decide +kernel)
set_option maxRecDepth 20000 in
theorem gX9_skips_X9_byteAt : GoodIn wsX9_skips (wsV RX9 210 RX9 yX9_byteAt wsX9_byteAt) := goodIn_app (goodIn_of _ (by decide +kernel)) ggX9_skips_X9_byteAt
theorem dX9_skips_0 : decode cX9_skips 0 = .ok (.aload_n 0, 1) := by decide +kernel
theorem dX9_skips_1 : decode cX9_skips 1 = .ok (.aload_n 0, 1) := by decide +kernel
theorem dX9_skips_2 : decode cX9_skips 2 = .ok (.getfield 207, 3) := by decide +kernel
theorem dX9_skips_5 : decode cX9_skips 5 = .ok (.invokevirtual 210, 3) := by decide +kernel
theorem dX9_skips_8 : decode cX9_skips 8 = .ok (.bipush 32, 2) := by decide +kernel
theorem dX9_skips_10 : decode cX9_skips 10 = .ok (.if_icmp .ne 16, 3) := by decide +kernel
theorem dX9_skips_13 : decode cX9_skips 13 = .ok (.aload_n 0, 1) := by decide +kernel
theorem dX9_skips_14 : decode cX9_skips 14 = .ok (.dup, 1) := by decide +kernel
theorem dX9_skips_15 : decode cX9_skips 15 = .ok (.getfield 207, 3) := by decide +kernel
theorem dX9_skips_18 : decode cX9_skips 18 = .ok (.iconst 1, 1) := by decide +kernel
theorem dX9_skips_19 : decode cX9_skips 19 = .ok (.iadd, 1) := by decide +kernel
theorem dX9_skips_20 : decode cX9_skips 20 = .ok (.putfield 207, 3) := by decide +kernel
theorem dX9_skips_23 : decode cX9_skips 23 = .ok (.goto (-23), 3) := by decide +kernel
theorem dX9_skips_26 : decode cX9_skips 26 = .ok (.return_, 1) := by decide +kernel
set_option maxRecDepth 20000 in
theorem ggX9_isDigit_X9_in : GoodIn wsX9_isDigit wsX9_in := goodIn_r _ [6] (by decide +kernel) (by decide +kernel)
set_option maxRecDepth 20000 in
theorem gX9_isDigit_X9_in : GoodIn wsX9_isDigit (va_wsS RX9 68 yX9_in wsX9_in) := goodIn_app (goodIn_of _ (by decide +kernel)) ggX9_isDigit_X9_in
theorem dX9_isDigit_0 : decode cX9_isDigit 0 = .ok (.iload_n 0, 1) := by decide +kernel
theorem dX9_isDigit_1 : decode cX9_isDigit 1 = .ok (.i2l, 1) := by decide +kernel
theorem dX9_isDigit_2 : decode cX9_isDigit 2 = .ok (.ldc2_w 213, 3) := by decide +kernel
theorem dX9_isDigit_5 : decode cX9_isDigit 5 = .ok (.ldc2_w 215, 3) := by decide +kernel
theorem dX9_isDigit_8 : decode cX9_isDigit 8 = .ok (.invokestatic 68, 3) := by decide +kernel
theorem dX9_isDigit_11 : decode cX9_isDigit 11 = .ok (.ireturn, 1) := by decide +kernel
set_option maxRecDepth 20000 in
theorem ggX9_reads_X9_byteAt : GoodIn wsX9_reads wsX9_byteAt := goodIn_r _ [8, 9, 2, 18, 19, 20, 21, 22, 23, 24, 25, 26, 27, 28, 29, 30, 31, 32, 33, 34, 35, 36, 37, 38, 39, 40, 41, 42, 43, 44] (by decide +kernel) (by decide +kernel)
set_option maxRecDepth 20000 in
theorem gX9_reads_X9_byteAt : GoodIn wsX9_reads (wsV RX9 210 RX9 yX9_byteAt wsX9_byteAt) := goodIn_app (goodIn_of _ (by decide +kernel)) ggX9_reads_X9_byteAt
set_option maxRecDepth 20000 in
theorem ggX9_reads_X9_isDigit : GoodIn wsX9_reads wsX9_isDigit := goodIn_r _ [12, 13, 14, 15, 16, 7, 17] (by decide +kernel) (by decide +kernel)
set_option maxRecDepth 20000 in
theorem gX9_reads_X9_isDigit : GoodIn wsX9_reads (va_wsS RX9 217 yX9_isDigit wsX9_isDigit) := goodIn_app (goodIn_of _ (by decide +kernel)) ggX9_reads_X9_isDigit
theorem dX9_reads_0 : decode cX9_reads 0 = .ok (.aload_n 0, 1) := by decide +kernel
theorem dX9_reads_1 : decode cX9_reads 1 = .ok (.aload_n 0, 1) := by decide +kernel
theorem dX9_reads_2 : decode cX9_reads 2 = .ok (.getfield 207, 3) := by decide +kernel
theorem dX9_reads_5 : decode cX9_reads 5 = .ok (.invokevirtual 210, 3) := by decide +kernel
theorem dX9_reads_8 : decode cX9_reads 8 = .ok (.bipush 45, 2) := by decide +kernel
theorem dX9_reads_10 : decode cX9_reads 10 = .ok (.if_icmp .ne 12, 3) := by decide +kernel
theorem dX9_reads_13 : decode cX9_reads 13 = .ok (.aload_n 0, 1) := by decide +kernel
theorem dX9_reads_14 : decode cX9_reads 14 = .ok (.getfield 207, 3) := by decide +kernel
theorem dX9_reads_17 : decode cX9_reads 17 = .ok (.iconst 1, 1) := by decide +kernel
theorem dX9_reads_18 : decode cX9_reads 18 = .ok (.iadd, 1) := by decide +kernel
theorem dX9_reads_19 : decode cX9_reads 19 = .ok (.goto 7, 3) := by decide +kernel
theorem dX9_reads_22 : decode cX9_reads 22 = .ok (.aload_n 0, 1) := by decide +kernel
theorem dX9_reads_23 : decode cX9_reads 23 = .ok (.getfield 207, 3) := by decide +kernel
theorem dX9_reads_26 : decode cX9_reads 26 = .ok (.istore_n 1, 1) := by decide +kernel
theorem dX9_reads_27 : decode cX9_reads 27 = .ok (.iload_n 1, 1) := by decide +kernel
theorem dX9_reads_28 : decode cX9_reads 28 = .ok (.istore_n 2, 1) := by decide +kernel
theorem dX9_reads_29 : decode cX9_reads 29 = .ok (.iconst 0, 1) := by decide +kernel
theorem dX9_reads_30 : decode cX9_reads 30 = .ok (.istore_n 3, 1) := by decide +kernel
theorem dX9_reads_31 : decode cX9_reads 31 = .ok (.aload_n 0, 1) := by decide +kernel
theorem dX9_reads_32 : decode cX9_reads 32 = .ok (.iload_n 1, 1) := by decide +kernel
theorem dX9_reads_33 : decode cX9_reads 33 = .ok (.invokevirtual 210, 3) := by decide +kernel
theorem dX9_reads_36 : decode cX9_reads 36 = .ok (.invokestatic 217, 3) := by decide +kernel
theorem dX9_reads_39 : decode cX9_reads 39 = .ok (.ifCond .eq 31, 3) := by decide +kernel
theorem dX9_reads_42 : decode cX9_reads 42 = .ok (.iload_n 1, 1) := by decide +kernel
theorem dX9_reads_43 : decode cX9_reads 43 = .ok (.iload_n 2, 1) := by decide +kernel
theorem dX9_reads_44 : decode cX9_reads 44 = .ok (.isub, 1) := by decide +kernel
theorem dX9_reads_45 : decode cX9_reads 45 = .ok (.iconst 4, 1) := by decide +kernel
theorem dX9_reads_46 : decode cX9_reads 46 = .ok (.if_icmp .ge 24, 3) := by decide +kernel
theorem dX9_reads_49 : decode cX9_reads 49 = .ok (.bipush 10, 2) := by decide +kernel
theorem dX9_reads_51 : decode cX9_reads 51 = .ok (.iload_n 3, 1) := by decide +kernel
theorem dX9_reads_52 : decode cX9_reads 52 = .ok (.imul, 1) := by decide +kernel
theorem dX9_reads_53 : decode cX9_reads 53 = .ok (.aload_n 0, 1) := by decide +kernel
theorem dX9_reads_54 : decode cX9_reads 54 = .ok (.getfield 34, 3) := by decide +kernel
theorem dX9_reads_57 : decode cX9_reads 57 = .ok (.iload_n 1, 1) := by decide +kernel
theorem dX9_reads_58 : decode cX9_reads 58 = .ok (.iaload, 1) := by decide +kernel
theorem dX9_reads_59 : decode cX9_reads 59 = .ok (.iadd, 1) := by decide +kernel
theorem dX9_reads_60 : decode cX9_reads 60 = .ok (.bipush 48, 2) := by decide +kernel
theorem dX9_reads_62 : decode cX9_reads 62 = .ok (.isub, 1) := by decide +kernel
theorem dX9_reads_63 : decode cX9_reads 63 = .ok (.istore_n 3, 1) := by decide +kernel
theorem dX9_reads_64 : decode cX9_reads 64 = .ok (.iinc 1 1, 3) := by decide +kernel
theorem dX9_reads_67 : decode cX9_reads 67 = .ok (.goto (-36), 3) := by decide +kernel
theorem dX9_reads_70 : decode cX9_reads 70 = .ok (.iload_n 1, 1) := by decide +kernel
theorem dX9_reads_71 : decode cX9_reads 71 = .ok (.iload_n 2, 1) := by decide +kernel
theorem dX9_reads_72 : decode cX9_reads 72 = .ok (.if_icmp .le 21, 3) := by decide +kernel
theorem dX9_reads_75 : decode cX9_reads 75 = .ok (.iload_n 1, 1) := by decide +kernel
theorem dX9_reads_76 : decode cX9_reads 76 = .ok (.iload_n 2, 1) := by decide +kernel
theorem dX9_reads_77 : decode cX9_reads 77 = .ok (.isub, 1) := by decide +kernel
theorem dX9_reads_78 : decode cX9_reads 78 = .ok (.iconst 4, 1) := by decide +kernel
theorem dX9_reads_79 : decode cX9_reads 79 = .ok (.if_icmp .ge 14, 3) := by decide +kernel
theorem dX9_reads_82 : decode cX9_reads 82 = .ok (.iload_n 3, 1) := by decide +kernel
theorem dX9_reads_83 : decode cX9_reads 83 = .ok (.sipush 500, 3) := by decide +kernel
theorem dX9_reads_86 : decode cX9_reads 86 = .ok (.if_icmp .gt 7, 3) := by decide +kernel
theorem dX9_reads_89 : decode cX9_reads 89 = .ok (.iconst 1, 1) := by decide +kernel
theorem dX9_reads_90 : decode cX9_reads 90 = .ok (.goto 4, 3) := by decide +kernel
theorem dX9_reads_93 : decode cX9_reads 93 = .ok (.iconst 0, 1) := by decide +kernel
theorem dX9_reads_94 : decode cX9_reads 94 = .ok (.istore 4, 2) := by decide +kernel
theorem dX9_reads_96 : decode cX9_reads 96 = .ok (.aload_n 0, 1) := by decide +kernel
theorem dX9_reads_97 : decode cX9_reads 97 = .ok (.iload_n 2, 1) := by decide +kernel
theorem dX9_reads_98 : decode cX9_reads 98 = .ok (.aload_n 0, 1) := by decide +kernel
theorem dX9_reads_99 : decode cX9_reads 99 = .ok (.getfield 207, 3) := by decide +kernel
theorem dX9_reads_102 : decode cX9_reads 102 = .ok (.if_icmp .le 8, 3) := by decide +kernel
theorem dX9_reads_105 : decode cX9_reads 105 = .ok (.iload_n 3, 1) := by decide +kernel
theorem dX9_reads_106 : decode cX9_reads 106 = .ok (.ineg, 1) := by decide +kernel
theorem dX9_reads_107 : decode cX9_reads 107 = .ok (.goto 4, 3) := by decide +kernel
theorem dX9_reads_110 : decode cX9_reads 110 = .ok (.iload_n 3, 1) := by decide +kernel
theorem dX9_reads_111 : decode cX9_reads 111 = .ok (.putfield 220, 3) := by decide +kernel
theorem dX9_reads_114 : decode cX9_reads 114 = .ok (.aload_n 0, 1) := by decide +kernel
theorem dX9_reads_115 : decode cX9_reads 115 = .ok (.iload 4, 2) := by decide +kernel
theorem dX9_reads_117 : decode cX9_reads 117 = .ok (.ifCond .eq 7, 3) := by decide +kernel
theorem dX9_reads_120 : decode cX9_reads 120 = .ok (.iload_n 1, 1) := by decide +kernel
theorem dX9_reads_121 : decode cX9_reads 121 = .ok (.goto 7, 3) := by decide +kernel
theorem dX9_reads_124 : decode cX9_reads 124 = .ok (.aload_n 0, 1) := by decide +kernel
theorem dX9_reads_125 : decode cX9_reads 125 = .ok (.getfield 207, 3) := by decide +kernel
theorem dX9_reads_128 : decode cX9_reads 128 = .ok (.putfield 207, 3) := by decide +kernel
theorem dX9_reads_131 : decode cX9_reads 131 = .ok (.iload 4, 2) := by decide +kernel
theorem dX9_reads_133 : decode cX9_reads 133 = .ok (.ireturn, 1) := by decide +kernel
set_option maxRecDepth 20000 in
theorem ggX9_readsSet_X9_skips : GoodIn wsX9_readsSet wsX9_skips := goodIn_r _ [14, 4, 15, 16, 17, 13, 18, 19, 20, 33, 34, 35, 36, 37, 38, 39, 40, 41, 42, 43, 44, 45, 46, 47, 48, 49, 50, 51, 52, 53, 54, 55, 56, 57, 58, 59] (by decide +kernel) (by decide +kernel)
set_option maxRecDepth 20000 in
theorem gX9_readsSet_X9_skips : GoodIn wsX9_readsSet (wsV RX9 229 RX9 yX9_skips wsX9_skips) := goodIn_app (goodIn_of _ (by decide +kernel)) ggX9_readsSet_X9_skips
set_option maxRecDepth 20000 in
theorem ggX9_readsSet_X9_byteAt : GoodIn wsX9_readsSet wsX9_byteAt := goodIn_r _ [18, 19, 20, 33, 34, 35, 36, 37, 38, 39, 40, 41, 42, 43, 44, 45, 46, 47, 48, 49, 50, 51, 52, 53, 54, 55, 56, 57, 58, 59] (by decide +kernel) (by decide +kernel)
set_option maxRecDepth 20000 in
theorem gX9_readsSet_X9_byteAt : GoodIn wsX9_readsSet (wsV RX9 210 RX9 yX9_byteAt wsX9_byteAt) := goodIn_app (goodIn_of _ (by decide +kernel)) ggX9_readsSet_X9_byteAt
set_option maxRecDepth 20000 in
theorem ggX9_readsSet_X9_reads : GoodIn wsX9_readsSet wsX9_reads := goodIn_r _ [24, 4, 20, 6, 15, 16, 17, 13, 18, 19, 25, 26, 27, 28, 29, 30, 31, 32, 33, 34, 35, 36, 37, 38, 39, 40, 41, 42, 43, 44, 45, 46, 47, 48, 49, 50, 51, 52, 53, 54, 55, 56, 57, 58, 59] (by decide +kernel) (by decide +kernel)
set_option maxRecDepth 20000 in
theorem gX9_readsSet_X9_reads : GoodIn wsX9_readsSet (wsV RX9 232 RX9 yX9_reads wsX9_reads) := goodIn_app (goodIn_of _ (by decide +kernel)) ggX9_readsSet_X9_reads
theorem dX9_readsSet_0 : decode cX9_readsSet 0 = .ok (.aload_n 0, 1) := by decide +kernel
theorem dX9_readsSet_1 : decode cX9_readsSet 1 = .ok (.getfield 43, 3) := by decide +kernel
theorem dX9_readsSet_4 : decode cX9_readsSet 4 = .ok (.aload_n 0, 1) := by decide +kernel
theorem dX9_readsSet_5 : decode cX9_readsSet 5 = .ok (.getfield 223, 3) := by decide +kernel
theorem dX9_readsSet_8 : decode cX9_readsSet 8 = .ok (.aload_n 0, 1) := by decide +kernel
theorem dX9_readsSet_9 : decode cX9_readsSet 9 = .ok (.getfield 226, 3) := by decide +kernel
theorem dX9_readsSet_12 : decode cX9_readsSet 12 = .ok (.iastore, 1) := by decide +kernel
theorem dX9_readsSet_13 : decode cX9_readsSet 13 = .ok (.aload_n 0, 1) := by decide +kernel
theorem dX9_readsSet_14 : decode cX9_readsSet 14 = .ok (.invokevirtual 229, 3) := by decide +kernel
theorem dX9_readsSet_17 : decode cX9_readsSet 17 = .ok (.iconst 0, 1) := by decide +kernel
theorem dX9_readsSet_18 : decode cX9_readsSet 18 = .ok (.istore_n 1, 1) := by decide +kernel
theorem dX9_readsSet_19 : decode cX9_readsSet 19 = .ok (.iload_n 1, 1) := by decide +kernel
theorem dX9_readsSet_20 : decode cX9_readsSet 20 = .ok (.ifCond .gt 16, 3) := by decide +kernel
theorem dX9_readsSet_23 : decode cX9_readsSet 23 = .ok (.aload_n 0, 1) := by decide +kernel
theorem dX9_readsSet_24 : decode cX9_readsSet 24 = .ok (.aload_n 0, 1) := by decide +kernel
theorem dX9_readsSet_25 : decode cX9_readsSet 25 = .ok (.getfield 207, 3) := by decide +kernel
theorem dX9_readsSet_28 : decode cX9_readsSet 28 = .ok (.invokevirtual 210, 3) := by decide +kernel
theorem dX9_readsSet_31 : decode cX9_readsSet 31 = .ok (.bipush 125, 2) := by decide +kernel
theorem dX9_readsSet_33 : decode cX9_readsSet 33 = .ok (.if_icmp .eq 96, 3) := by decide +kernel
theorem dX9_readsSet_36 : decode cX9_readsSet 36 = .ok (.aload_n 0, 1) := by decide +kernel
theorem dX9_readsSet_37 : decode cX9_readsSet 37 = .ok (.invokevirtual 232, 3) := by decide +kernel
theorem dX9_readsSet_40 : decode cX9_readsSet 40 = .ok (.ifCond .ne 5, 3) := by decide +kernel
theorem dX9_readsSet_43 : decode cX9_readsSet 43 = .ok (.iconst 0, 1) := by decide +kernel
theorem dX9_readsSet_44 : decode cX9_readsSet 44 = .ok (.ireturn, 1) := by decide +kernel
theorem dX9_readsSet_45 : decode cX9_readsSet 45 = .ok (.aload_n 0, 1) := by decide +kernel
theorem dX9_readsSet_46 : decode cX9_readsSet 46 = .ok (.getfield 49, 3) := by decide +kernel
theorem dX9_readsSet_49 : decode cX9_readsSet 49 = .ok (.aload_n 0, 1) := by decide +kernel
theorem dX9_readsSet_50 : decode cX9_readsSet 50 = .ok (.getfield 226, 3) := by decide +kernel
theorem dX9_readsSet_53 : decode cX9_readsSet 53 = .ok (.aload_n 0, 1) := by decide +kernel
theorem dX9_readsSet_54 : decode cX9_readsSet 54 = .ok (.getfield 220, 3) := by decide +kernel
theorem dX9_readsSet_57 : decode cX9_readsSet 57 = .ok (.iastore, 1) := by decide +kernel
theorem dX9_readsSet_58 : decode cX9_readsSet 58 = .ok (.aload_n 0, 1) := by decide +kernel
theorem dX9_readsSet_59 : decode cX9_readsSet 59 = .ok (.dup, 1) := by decide +kernel
theorem dX9_readsSet_60 : decode cX9_readsSet 60 = .ok (.getfield 226, 3) := by decide +kernel
theorem dX9_readsSet_63 : decode cX9_readsSet 63 = .ok (.iconst 1, 1) := by decide +kernel
theorem dX9_readsSet_64 : decode cX9_readsSet 64 = .ok (.iadd, 1) := by decide +kernel
theorem dX9_readsSet_65 : decode cX9_readsSet 65 = .ok (.putfield 226, 3) := by decide +kernel
theorem dX9_readsSet_68 : decode cX9_readsSet 68 = .ok (.iinc 1 1, 3) := by decide +kernel
theorem dX9_readsSet_71 : decode cX9_readsSet 71 = .ok (.aload_n 0, 1) := by decide +kernel
theorem dX9_readsSet_72 : decode cX9_readsSet 72 = .ok (.invokevirtual 229, 3) := by decide +kernel
theorem dX9_readsSet_75 : decode cX9_readsSet 75 = .ok (.aload_n 0, 1) := by decide +kernel
theorem dX9_readsSet_76 : decode cX9_readsSet 76 = .ok (.aload_n 0, 1) := by decide +kernel
theorem dX9_readsSet_77 : decode cX9_readsSet 77 = .ok (.getfield 207, 3) := by decide +kernel
theorem dX9_readsSet_80 : decode cX9_readsSet 80 = .ok (.invokevirtual 210, 3) := by decide +kernel
theorem dX9_readsSet_83 : decode cX9_readsSet 83 = .ok (.bipush 125, 2) := by decide +kernel
theorem dX9_readsSet_85 : decode cX9_readsSet 85 = .ok (.if_icmp .ne 6, 3) := by decide +kernel
theorem dX9_readsSet_88 : decode cX9_readsSet 88 = .ok (.goto 41, 3) := by decide +kernel
theorem dX9_readsSet_91 : decode cX9_readsSet 91 = .ok (.aload_n 0, 1) := by decide +kernel
theorem dX9_readsSet_92 : decode cX9_readsSet 92 = .ok (.aload_n 0, 1) := by decide +kernel
theorem dX9_readsSet_93 : decode cX9_readsSet 93 = .ok (.getfield 207, 3) := by decide +kernel
theorem dX9_readsSet_96 : decode cX9_readsSet 96 = .ok (.invokevirtual 210, 3) := by decide +kernel
theorem dX9_readsSet_99 : decode cX9_readsSet 99 = .ok (.bipush 44, 2) := by decide +kernel
theorem dX9_readsSet_101 : decode cX9_readsSet 101 = .ok (.if_icmp .ne 9, 3) := by decide +kernel
theorem dX9_readsSet_104 : decode cX9_readsSet 104 = .ok (.iload_n 1, 1) := by decide +kernel
theorem dX9_readsSet_105 : decode cX9_readsSet 105 = .ok (.bipush 8, 2) := by decide +kernel
theorem dX9_readsSet_107 : decode cX9_readsSet 107 = .ok (.if_icmp .ne 5, 3) := by decide +kernel
theorem dX9_readsSet_110 : decode cX9_readsSet 110 = .ok (.iconst 0, 1) := by decide +kernel
theorem dX9_readsSet_111 : decode cX9_readsSet 111 = .ok (.ireturn, 1) := by decide +kernel
theorem dX9_readsSet_112 : decode cX9_readsSet 112 = .ok (.aload_n 0, 1) := by decide +kernel
theorem dX9_readsSet_113 : decode cX9_readsSet 113 = .ok (.dup, 1) := by decide +kernel
theorem dX9_readsSet_114 : decode cX9_readsSet 114 = .ok (.getfield 207, 3) := by decide +kernel
theorem dX9_readsSet_117 : decode cX9_readsSet 117 = .ok (.iconst 1, 1) := by decide +kernel
theorem dX9_readsSet_118 : decode cX9_readsSet 118 = .ok (.iadd, 1) := by decide +kernel
theorem dX9_readsSet_119 : decode cX9_readsSet 119 = .ok (.putfield 207, 3) := by decide +kernel
theorem dX9_readsSet_122 : decode cX9_readsSet 122 = .ok (.aload_n 0, 1) := by decide +kernel
theorem dX9_readsSet_123 : decode cX9_readsSet 123 = .ok (.invokevirtual 229, 3) := by decide +kernel
theorem dX9_readsSet_126 : decode cX9_readsSet 126 = .ok (.goto (-107), 3) := by decide +kernel
theorem dX9_readsSet_129 : decode cX9_readsSet 129 = .ok (.aload_n 0, 1) := by decide +kernel
theorem dX9_readsSet_130 : decode cX9_readsSet 130 = .ok (.dup, 1) := by decide +kernel
theorem dX9_readsSet_131 : decode cX9_readsSet 131 = .ok (.getfield 207, 3) := by decide +kernel
theorem dX9_readsSet_134 : decode cX9_readsSet 134 = .ok (.iconst 1, 1) := by decide +kernel
theorem dX9_readsSet_135 : decode cX9_readsSet 135 = .ok (.iadd, 1) := by decide +kernel
theorem dX9_readsSet_136 : decode cX9_readsSet 136 = .ok (.putfield 207, 3) := by decide +kernel
theorem dX9_readsSet_139 : decode cX9_readsSet 139 = .ok (.aload_n 0, 1) := by decide +kernel
theorem dX9_readsSet_140 : decode cX9_readsSet 140 = .ok (.getfield 46, 3) := by decide +kernel
theorem dX9_readsSet_143 : decode cX9_readsSet 143 = .ok (.aload_n 0, 1) := by decide +kernel
theorem dX9_readsSet_144 : decode cX9_readsSet 144 = .ok (.getfield 223, 3) := by decide +kernel
theorem dX9_readsSet_147 : decode cX9_readsSet 147 = .ok (.aload_n 0, 1) := by decide +kernel
theorem dX9_readsSet_148 : decode cX9_readsSet 148 = .ok (.getfield 226, 3) := by decide +kernel
theorem dX9_readsSet_151 : decode cX9_readsSet 151 = .ok (.iastore, 1) := by decide +kernel
theorem dX9_readsSet_152 : decode cX9_readsSet 152 = .ok (.aload_n 0, 1) := by decide +kernel
theorem dX9_readsSet_153 : decode cX9_readsSet 153 = .ok (.getfield 37, 3) := by decide +kernel
theorem dX9_readsSet_156 : decode cX9_readsSet 156 = .ok (.aload_n 0, 1) := by decide +kernel
theorem dX9_readsSet_157 : decode cX9_readsSet 157 = .ok (.getfield 236, 3) := by decide +kernel
theorem dX9_readsSet_160 : decode cX9_readsSet 160 = .ok (.bipush 20, 2) := by decide +kernel
theorem dX9_readsSet_162 : decode cX9_readsSet 162 = .ok (.aload_n 0, 1) := by decide +kernel
theorem dX9_readsSet_163 : decode cX9_readsSet 163 = .ok (.getfield 223, 3) := by decide +kernel
theorem dX9_readsSet_166 : decode cX9_readsSet 166 = .ok (.iadd, 1) := by decide +kernel
theorem dX9_readsSet_167 : decode cX9_readsSet 167 = .ok (.iastore, 1) := by decide +kernel
theorem dX9_readsSet_168 : decode cX9_readsSet 168 = .ok (.aload_n 0, 1) := by decide +kernel
theorem dX9_readsSet_169 : decode cX9_readsSet 169 = .ok (.dup, 1) := by decide +kernel
theorem dX9_readsSet_170 : decode cX9_readsSet 170 = .ok (.getfield 236, 3) := by decide +kernel
theorem dX9_readsSet_173 : decode cX9_readsSet 173 = .ok (.iconst 1, 1) := by decide +kernel
theorem dX9_readsSet_174 : decode cX9_readsSet 174 = .ok (.iadd, 1) := by decide +kernel
theorem dX9_readsSet_175 : decode cX9_readsSet 175 = .ok (.putfield 236, 3) := by decide +kernel
theorem dX9_readsSet_178 : decode cX9_readsSet 178 = .ok (.aload_n 0, 1) := by decide +kernel
theorem dX9_readsSet_179 : decode cX9_readsSet 179 = .ok (.dup, 1) := by decide +kernel
theorem dX9_readsSet_180 : decode cX9_readsSet 180 = .ok (.getfield 223, 3) := by decide +kernel
theorem dX9_readsSet_183 : decode cX9_readsSet 183 = .ok (.iconst 1, 1) := by decide +kernel
theorem dX9_readsSet_184 : decode cX9_readsSet 184 = .ok (.iadd, 1) := by decide +kernel
theorem dX9_readsSet_185 : decode cX9_readsSet 185 = .ok (.putfield 223, 3) := by decide +kernel
theorem dX9_readsSet_188 : decode cX9_readsSet 188 = .ok (.iconst 1, 1) := by decide +kernel
theorem dX9_readsSet_189 : decode cX9_readsSet 189 = .ok (.ireturn, 1) := by decide +kernel
theorem dX9_sortBy_0 : decode cX9_sortBy 0 = .ok (.iload_n 0, 1) := by decide +kernel
theorem dX9_sortBy_1 : decode cX9_sortBy 1 = .ok (.bipush 43, 2) := by decide +kernel
theorem dX9_sortBy_3 : decode cX9_sortBy 3 = .ok (.if_icmp .ne 7, 3) := by decide +kernel
theorem dX9_sortBy_6 : decode cX9_sortBy 6 = .ok (.iconst 0, 1) := by decide +kernel
theorem dX9_sortBy_7 : decode cX9_sortBy 7 = .ok (.goto 35, 3) := by decide +kernel
theorem dX9_sortBy_10 : decode cX9_sortBy 10 = .ok (.iload_n 0, 1) := by decide +kernel
theorem dX9_sortBy_11 : decode cX9_sortBy 11 = .ok (.bipush 38, 2) := by decide +kernel
theorem dX9_sortBy_13 : decode cX9_sortBy 13 = .ok (.if_icmp .ne 7, 3) := by decide +kernel
theorem dX9_sortBy_16 : decode cX9_sortBy 16 = .ok (.iconst 1, 1) := by decide +kernel
theorem dX9_sortBy_17 : decode cX9_sortBy 17 = .ok (.goto 25, 3) := by decide +kernel
theorem dX9_sortBy_20 : decode cX9_sortBy 20 = .ok (.iload_n 0, 1) := by decide +kernel
theorem dX9_sortBy_21 : decode cX9_sortBy 21 = .ok (.bipush 45, 2) := by decide +kernel
theorem dX9_sortBy_23 : decode cX9_sortBy 23 = .ok (.if_icmp .ne 7, 3) := by decide +kernel
theorem dX9_sortBy_26 : decode cX9_sortBy 26 = .ok (.iconst 2, 1) := by decide +kernel
theorem dX9_sortBy_27 : decode cX9_sortBy 27 = .ok (.goto 15, 3) := by decide +kernel
theorem dX9_sortBy_30 : decode cX9_sortBy 30 = .ok (.iload_n 0, 1) := by decide +kernel
theorem dX9_sortBy_31 : decode cX9_sortBy 31 = .ok (.bipush 94, 2) := by decide +kernel
theorem dX9_sortBy_33 : decode cX9_sortBy 33 = .ok (.if_icmp .ne 7, 3) := by decide +kernel
theorem dX9_sortBy_36 : decode cX9_sortBy 36 = .ok (.iconst 3, 1) := by decide +kernel
theorem dX9_sortBy_37 : decode cX9_sortBy 37 = .ok (.goto 5, 3) := by decide +kernel
theorem dX9_sortBy_40 : decode cX9_sortBy 40 = .ok (.ldc 120, 2) := by decide +kernel
theorem dX9_sortBy_42 : decode cX9_sortBy 42 = .ok (.ireturn, 1) := by decide +kernel
theorem dX9_does_0 : decode cX9_does 0 = .ok (.aload_n 0, 1) := by decide +kernel
theorem dX9_does_1 : decode cX9_does 1 = .ok (.getfield 239, 3) := by decide +kernel
theorem dX9_does_4 : decode cX9_does 4 = .ok (.ifCond .le 83, 3) := by decide +kernel
theorem dX9_does_7 : decode cX9_does 7 = .ok (.aload_n 0, 1) := by decide +kernel
theorem dX9_does_8 : decode cX9_does 8 = .ok (.getfield 40, 3) := by decide +kernel
theorem dX9_does_11 : decode cX9_does 11 = .ok (.aload_n 0, 1) := by decide +kernel
theorem dX9_does_12 : decode cX9_does 12 = .ok (.getfield 239, 3) := by decide +kernel
theorem dX9_does_15 : decode cX9_does 15 = .ok (.iconst 1, 1) := by decide +kernel
theorem dX9_does_16 : decode cX9_does 16 = .ok (.isub, 1) := by decide +kernel
theorem dX9_does_17 : decode cX9_does 17 = .ok (.iaload, 1) := by decide +kernel
theorem dX9_does_18 : decode cX9_does 18 = .ok (.bipush 40, 2) := by decide +kernel
theorem dX9_does_20 : decode cX9_does 20 = .ok (.if_icmp .eq 67, 3) := by decide +kernel
theorem dX9_does_23 : decode cX9_does 23 = .ok (.iload_n 1, 1) := by decide +kernel
theorem dX9_does_24 : decode cX9_does 24 = .ok (.iconst 1, 1) := by decide +kernel
theorem dX9_does_25 : decode cX9_does 25 = .ok (.if_icmp .ne 18, 3) := by decide +kernel
theorem dX9_does_28 : decode cX9_does 28 = .ok (.aload_n 0, 1) := by decide +kernel
theorem dX9_does_29 : decode cX9_does 29 = .ok (.getfield 40, 3) := by decide +kernel
theorem dX9_does_32 : decode cX9_does 32 = .ok (.aload_n 0, 1) := by decide +kernel
theorem dX9_does_33 : decode cX9_does 33 = .ok (.getfield 239, 3) := by decide +kernel
theorem dX9_does_36 : decode cX9_does 36 = .ok (.iconst 1, 1) := by decide +kernel
theorem dX9_does_37 : decode cX9_does 37 = .ok (.isub, 1) := by decide +kernel
theorem dX9_does_38 : decode cX9_does 38 = .ok (.iaload, 1) := by decide +kernel
theorem dX9_does_39 : decode cX9_does 39 = .ok (.iconst 1, 1) := by decide +kernel
theorem dX9_does_40 : decode cX9_does 40 = .ok (.if_icmp .ne 47, 3) := by decide +kernel
theorem dX9_does_43 : decode cX9_does 43 = .ok (.aload_n 0, 1) := by decide +kernel
theorem dX9_does_44 : decode cX9_does 44 = .ok (.dup, 1) := by decide +kernel
theorem dX9_does_45 : decode cX9_does 45 = .ok (.getfield 239, 3) := by decide +kernel
theorem dX9_does_48 : decode cX9_does 48 = .ok (.iconst 1, 1) := by decide +kernel
theorem dX9_does_49 : decode cX9_does 49 = .ok (.isub, 1) := by decide +kernel
theorem dX9_does_50 : decode cX9_does 50 = .ok (.putfield 239, 3) := by decide +kernel
theorem dX9_does_53 : decode cX9_does 53 = .ok (.aload_n 0, 1) := by decide +kernel
theorem dX9_does_54 : decode cX9_does 54 = .ok (.getfield 37, 3) := by decide +kernel
theorem dX9_does_57 : decode cX9_does 57 = .ok (.aload_n 0, 1) := by decide +kernel
theorem dX9_does_58 : decode cX9_does 58 = .ok (.getfield 236, 3) := by decide +kernel
theorem dX9_does_61 : decode cX9_does 61 = .ok (.bipush 10, 2) := by decide +kernel
theorem dX9_does_63 : decode cX9_does 63 = .ok (.aload_n 0, 1) := by decide +kernel
theorem dX9_does_64 : decode cX9_does 64 = .ok (.getfield 40, 3) := by decide +kernel
theorem dX9_does_67 : decode cX9_does 67 = .ok (.aload_n 0, 1) := by decide +kernel
theorem dX9_does_68 : decode cX9_does 68 = .ok (.getfield 239, 3) := by decide +kernel
theorem dX9_does_71 : decode cX9_does 71 = .ok (.iaload, 1) := by decide +kernel
theorem dX9_does_72 : decode cX9_does 72 = .ok (.iadd, 1) := by decide +kernel
theorem dX9_does_73 : decode cX9_does 73 = .ok (.iastore, 1) := by decide +kernel
theorem dX9_does_74 : decode cX9_does 74 = .ok (.aload_n 0, 1) := by decide +kernel
theorem dX9_does_75 : decode cX9_does 75 = .ok (.dup, 1) := by decide +kernel
theorem dX9_does_76 : decode cX9_does 76 = .ok (.getfield 236, 3) := by decide +kernel
theorem dX9_does_79 : decode cX9_does 79 = .ok (.iconst 1, 1) := by decide +kernel
theorem dX9_does_80 : decode cX9_does 80 = .ok (.iadd, 1) := by decide +kernel
theorem dX9_does_81 : decode cX9_does 81 = .ok (.putfield 236, 3) := by decide +kernel
theorem dX9_does_84 : decode cX9_does 84 = .ok (.goto (-84), 3) := by decide +kernel
theorem dX9_does_87 : decode cX9_does 87 = .ok (.return_, 1) := by decide +kernel
set_option maxRecDepth 20000 in
theorem ggX9_readsTerm_X9_skips : GoodIn wsX9_readsTerm wsX9_skips := goodIn_r _ [15, 5, 16, 17, 18, 14, 19, 20, 21, 49, 50, 51, 52, 53, 54, 55, 56, 57, 58, 59, 60, 61, 62, 63, 64, 65, 66, 67, 68, 69, 70, 71, 72, 73, 74, 75] (by decide +kernel) (by decide +kernel)
set_option maxRecDepth 20000 in
theorem gX9_readsTerm_X9_skips : GoodIn wsX9_readsTerm (wsV RX9 229 RX9 yX9_skips wsX9_skips) := goodIn_app (goodIn_of _ (by decide +kernel)) ggX9_readsTerm_X9_skips
set_option maxRecDepth 20000 in
theorem ggX9_readsTerm_X9_byteAt : GoodIn wsX9_readsTerm wsX9_byteAt := goodIn_r _ [19, 20, 21, 49, 50, 51, 52, 53, 54, 55, 56, 57, 58, 59, 60, 61, 62, 63, 64, 65, 66, 67, 68, 69, 70, 71, 72, 73, 74, 75] (by decide +kernel) (by decide +kernel)
set_option maxRecDepth 20000 in
theorem gX9_readsTerm_X9_byteAt : GoodIn wsX9_readsTerm (wsV RX9 210 RX9 yX9_byteAt wsX9_byteAt) := goodIn_app (goodIn_of _ (by decide +kernel)) ggX9_readsTerm_X9_byteAt
set_option maxRecDepth 20000 in
theorem ggX9_readsTerm_X9_readsSet : GoodIn wsX9_readsTerm wsX9_readsSet := goodIn_r _ [25, 26, 3, 4, 5, 27, 28, 29, 9, 1, 11, 12, 13, 14, 15, 16, 17, 18, 19, 20, 21, 30, 31, 32, 33, 34, 35, 36, 37, 38, 39, 40, 41, 49, 50, 51, 52, 53, 54, 55, 56, 57, 58, 59, 60, 61, 62, 63, 64, 65, 66, 67, 68, 69, 70, 71, 72, 73, 74, 75] (by decide +kernel) (by decide +kernel)
set_option maxRecDepth 20000 in
theorem gX9_readsTerm_X9_readsSet : GoodIn wsX9_readsTerm (wsV RX9 242 RX9 yX9_readsSet wsX9_readsSet) := goodIn_app (goodIn_of _ (by decide +kernel)) ggX9_readsTerm_X9_readsSet
set_option maxRecDepth 20000 in
theorem ggX9_readsTerm_X9_in : GoodIn wsX9_readsTerm wsX9_in := goodIn_r _ [41] (by decide +kernel) (by decide +kernel)
set_option maxRecDepth 20000 in
theorem gX9_readsTerm_X9_in : GoodIn wsX9_readsTerm (va_wsS RX9 68 yX9_in wsX9_in) := goodIn_app (goodIn_of _ (by decide +kernel)) ggX9_readsTerm_X9_in
set_option maxRecDepth 20000 in
theorem ggX9_readsTerm_X9_does : GoodIn wsX9_readsTerm wsX9_does := goodIn_r _ [45, 2, 6, 9, 1, 49, 50, 51, 52, 53, 54, 55, 56, 57, 58, 59, 60, 61, 62, 63, 64, 65, 66, 67, 68, 69, 70, 71, 72, 73, 74, 75] (by decide +kernel) (by decide +kernel)
set_option maxRecDepth 20000 in
theorem gX9_readsTerm_X9_does : GoodIn wsX9_readsTerm (wsV RX9 249 RX9 yX9_does wsX9_does) := goodIn_app (goodIn_of _ (by decide +kernel)) ggX9_readsTerm_X9_does
set_option maxRecDepth 20000 in
theorem ggX9_readsTerm_X9_sortBy : GoodIn wsX9_readsTerm wsX9_sortBy := goodIn_r _ [48, 10] (by decide +kernel) (by decide +kernel)
set_option maxRecDepth 20000 in
theorem gX9_readsTerm_X9_sortBy : GoodIn wsX9_readsTerm (va_wsS RX9 253 yX9_sortBy wsX9_sortBy) := goodIn_app (goodIn_of _ (by decide +kernel)) ggX9_readsTerm_X9_sortBy
theorem dX9_readsTerm_0 : decode cX9_readsTerm 0 = .ok (.aload_n 0, 1) := by decide +kernel
theorem dX9_readsTerm_1 : decode cX9_readsTerm 1 = .ok (.iconst 0, 1) := by decide +kernel
theorem dX9_readsTerm_2 : decode cX9_readsTerm 2 = .ok (.putfield 236, 3) := by decide +kernel
theorem dX9_readsTerm_5 : decode cX9_readsTerm 5 = .ok (.aload_n 0, 1) := by decide +kernel
theorem dX9_readsTerm_6 : decode cX9_readsTerm 6 = .ok (.iconst 0, 1) := by decide +kernel
theorem dX9_readsTerm_7 : decode cX9_readsTerm 7 = .ok (.putfield 239, 3) := by decide +kernel
theorem dX9_readsTerm_10 : decode cX9_readsTerm 10 = .ok (.aload_n 0, 1) := by decide +kernel
theorem dX9_readsTerm_11 : decode cX9_readsTerm 11 = .ok (.iconst 0, 1) := by decide +kernel
theorem dX9_readsTerm_12 : decode cX9_readsTerm 12 = .ok (.putfield 223, 3) := by decide +kernel
theorem dX9_readsTerm_15 : decode cX9_readsTerm 15 = .ok (.aload_n 0, 1) := by decide +kernel
theorem dX9_readsTerm_16 : decode cX9_readsTerm 16 = .ok (.iconst 0, 1) := by decide +kernel
theorem dX9_readsTerm_17 : decode cX9_readsTerm 17 = .ok (.putfield 226, 3) := by decide +kernel
theorem dX9_readsTerm_20 : decode cX9_readsTerm 20 = .ok (.iconst 0, 1) := by decide +kernel
theorem dX9_readsTerm_21 : decode cX9_readsTerm 21 = .ok (.istore_n 1, 1) := by decide +kernel
theorem dX9_readsTerm_22 : decode cX9_readsTerm 22 = .ok (.iconst 1, 1) := by decide +kernel
theorem dX9_readsTerm_23 : decode cX9_readsTerm 23 = .ok (.istore_n 2, 1) := by decide +kernel
theorem dX9_readsTerm_24 : decode cX9_readsTerm 24 = .ok (.aload_n 0, 1) := by decide +kernel
theorem dX9_readsTerm_25 : decode cX9_readsTerm 25 = .ok (.invokevirtual 229, 3) := by decide +kernel
theorem dX9_readsTerm_28 : decode cX9_readsTerm 28 = .ok (.aload_n 0, 1) := by decide +kernel
theorem dX9_readsTerm_29 : decode cX9_readsTerm 29 = .ok (.aload_n 0, 1) := by decide +kernel
theorem dX9_readsTerm_30 : decode cX9_readsTerm 30 = .ok (.getfield 207, 3) := by decide +kernel
theorem dX9_readsTerm_33 : decode cX9_readsTerm 33 = .ok (.invokevirtual 210, 3) := by decide +kernel
theorem dX9_readsTerm_36 : decode cX9_readsTerm 36 = .ok (.istore_n 3, 1) := by decide +kernel
theorem dX9_readsTerm_37 : decode cX9_readsTerm 37 = .ok (.iload_n 2, 1) := by decide +kernel
theorem dX9_readsTerm_38 : decode cX9_readsTerm 38 = .ok (.ifCond .eq 45, 3) := by decide +kernel
theorem dX9_readsTerm_41 : decode cX9_readsTerm 41 = .ok (.iload_n 3, 1) := by decide +kernel
theorem dX9_readsTerm_42 : decode cX9_readsTerm 42 = .ok (.bipush 40, 2) := by decide +kernel
theorem dX9_readsTerm_44 : decode cX9_readsTerm 44 = .ok (.if_icmp .ne 39, 3) := by decide +kernel
theorem dX9_readsTerm_47 : decode cX9_readsTerm 47 = .ok (.aload_n 0, 1) := by decide +kernel
theorem dX9_readsTerm_48 : decode cX9_readsTerm 48 = .ok (.getfield 40, 3) := by decide +kernel
theorem dX9_readsTerm_51 : decode cX9_readsTerm 51 = .ok (.aload_n 0, 1) := by decide +kernel
theorem dX9_readsTerm_52 : decode cX9_readsTerm 52 = .ok (.getfield 239, 3) := by decide +kernel
theorem dX9_readsTerm_55 : decode cX9_readsTerm 55 = .ok (.iload_n 3, 1) := by decide +kernel
theorem dX9_readsTerm_56 : decode cX9_readsTerm 56 = .ok (.iastore, 1) := by decide +kernel
theorem dX9_readsTerm_57 : decode cX9_readsTerm 57 = .ok (.aload_n 0, 1) := by decide +kernel
theorem dX9_readsTerm_58 : decode cX9_readsTerm 58 = .ok (.dup, 1) := by decide +kernel
theorem dX9_readsTerm_59 : decode cX9_readsTerm 59 = .ok (.getfield 239, 3) := by decide +kernel
theorem dX9_readsTerm_62 : decode cX9_readsTerm 62 = .ok (.iconst 1, 1) := by decide +kernel
theorem dX9_readsTerm_63 : decode cX9_readsTerm 63 = .ok (.iadd, 1) := by decide +kernel
theorem dX9_readsTerm_64 : decode cX9_readsTerm 64 = .ok (.putfield 239, 3) := by decide +kernel
theorem dX9_readsTerm_67 : decode cX9_readsTerm 67 = .ok (.iinc 1 1, 3) := by decide +kernel
theorem dX9_readsTerm_70 : decode cX9_readsTerm 70 = .ok (.aload_n 0, 1) := by decide +kernel
theorem dX9_readsTerm_71 : decode cX9_readsTerm 71 = .ok (.dup, 1) := by decide +kernel
theorem dX9_readsTerm_72 : decode cX9_readsTerm 72 = .ok (.getfield 207, 3) := by decide +kernel
theorem dX9_readsTerm_75 : decode cX9_readsTerm 75 = .ok (.iconst 1, 1) := by decide +kernel
theorem dX9_readsTerm_76 : decode cX9_readsTerm 76 = .ok (.iadd, 1) := by decide +kernel
theorem dX9_readsTerm_77 : decode cX9_readsTerm 77 = .ok (.putfield 207, 3) := by decide +kernel
theorem dX9_readsTerm_80 : decode cX9_readsTerm 80 = .ok (.goto 230, 3) := by decide +kernel
theorem dX9_readsTerm_83 : decode cX9_readsTerm 83 = .ok (.iload_n 2, 1) := by decide +kernel
theorem dX9_readsTerm_84 : decode cX9_readsTerm 84 = .ok (.ifCond .eq 33, 3) := by decide +kernel
theorem dX9_readsTerm_87 : decode cX9_readsTerm 87 = .ok (.iload_n 3, 1) := by decide +kernel
theorem dX9_readsTerm_88 : decode cX9_readsTerm 88 = .ok (.bipush 123, 2) := by decide +kernel
theorem dX9_readsTerm_90 : decode cX9_readsTerm 90 = .ok (.if_icmp .ne 27, 3) := by decide +kernel
theorem dX9_readsTerm_93 : decode cX9_readsTerm 93 = .ok (.aload_n 0, 1) := by decide +kernel
theorem dX9_readsTerm_94 : decode cX9_readsTerm 94 = .ok (.dup, 1) := by decide +kernel
theorem dX9_readsTerm_95 : decode cX9_readsTerm 95 = .ok (.getfield 207, 3) := by decide +kernel
theorem dX9_readsTerm_98 : decode cX9_readsTerm 98 = .ok (.iconst 1, 1) := by decide +kernel
theorem dX9_readsTerm_99 : decode cX9_readsTerm 99 = .ok (.iadd, 1) := by decide +kernel
theorem dX9_readsTerm_100 : decode cX9_readsTerm 100 = .ok (.putfield 207, 3) := by decide +kernel
theorem dX9_readsTerm_103 : decode cX9_readsTerm 103 = .ok (.aload_n 0, 1) := by decide +kernel
theorem dX9_readsTerm_104 : decode cX9_readsTerm 104 = .ok (.invokevirtual 242, 3) := by decide +kernel
theorem dX9_readsTerm_107 : decode cX9_readsTerm 107 = .ok (.ifCond .ne 5, 3) := by decide +kernel
theorem dX9_readsTerm_110 : decode cX9_readsTerm 110 = .ok (.iconst 0, 1) := by decide +kernel
theorem dX9_readsTerm_111 : decode cX9_readsTerm 111 = .ok (.ireturn, 1) := by decide +kernel
theorem dX9_readsTerm_112 : decode cX9_readsTerm 112 = .ok (.iconst 0, 1) := by decide +kernel
theorem dX9_readsTerm_113 : decode cX9_readsTerm 113 = .ok (.istore_n 2, 1) := by decide +kernel
theorem dX9_readsTerm_114 : decode cX9_readsTerm 114 = .ok (.goto 196, 3) := by decide +kernel
theorem dX9_readsTerm_117 : decode cX9_readsTerm 117 = .ok (.iload_n 2, 1) := by decide +kernel
theorem dX9_readsTerm_118 : decode cX9_readsTerm 118 = .ok (.ifCond .eq 55, 3) := by decide +kernel
theorem dX9_readsTerm_121 : decode cX9_readsTerm 121 = .ok (.iload_n 3, 1) := by decide +kernel
theorem dX9_readsTerm_122 : decode cX9_readsTerm 122 = .ok (.i2l, 1) := by decide +kernel
theorem dX9_readsTerm_123 : decode cX9_readsTerm 123 = .ok (.ldc2_w 245, 3) := by decide +kernel
theorem dX9_readsTerm_126 : decode cX9_readsTerm 126 = .ok (.ldc2_w 247, 3) := by decide +kernel
theorem dX9_readsTerm_129 : decode cX9_readsTerm 129 = .ok (.invokestatic 68, 3) := by decide +kernel
theorem dX9_readsTerm_132 : decode cX9_readsTerm 132 = .ok (.ifCond .eq 41, 3) := by decide +kernel
theorem dX9_readsTerm_135 : decode cX9_readsTerm 135 = .ok (.aload_n 0, 1) := by decide +kernel
theorem dX9_readsTerm_136 : decode cX9_readsTerm 136 = .ok (.getfield 37, 3) := by decide +kernel
theorem dX9_readsTerm_139 : decode cX9_readsTerm 139 = .ok (.aload_n 0, 1) := by decide +kernel
theorem dX9_readsTerm_140 : decode cX9_readsTerm 140 = .ok (.getfield 236, 3) := by decide +kernel
theorem dX9_readsTerm_143 : decode cX9_readsTerm 143 = .ok (.iload_n 3, 1) := by decide +kernel
theorem dX9_readsTerm_144 : decode cX9_readsTerm 144 = .ok (.bipush 97, 2) := by decide +kernel
theorem dX9_readsTerm_146 : decode cX9_readsTerm 146 = .ok (.isub, 1) := by decide +kernel
theorem dX9_readsTerm_147 : decode cX9_readsTerm 147 = .ok (.iastore, 1) := by decide +kernel
theorem dX9_readsTerm_148 : decode cX9_readsTerm 148 = .ok (.aload_n 0, 1) := by decide +kernel
theorem dX9_readsTerm_149 : decode cX9_readsTerm 149 = .ok (.dup, 1) := by decide +kernel
theorem dX9_readsTerm_150 : decode cX9_readsTerm 150 = .ok (.getfield 236, 3) := by decide +kernel
theorem dX9_readsTerm_153 : decode cX9_readsTerm 153 = .ok (.iconst 1, 1) := by decide +kernel
theorem dX9_readsTerm_154 : decode cX9_readsTerm 154 = .ok (.iadd, 1) := by decide +kernel
theorem dX9_readsTerm_155 : decode cX9_readsTerm 155 = .ok (.putfield 236, 3) := by decide +kernel
theorem dX9_readsTerm_158 : decode cX9_readsTerm 158 = .ok (.aload_n 0, 1) := by decide +kernel
theorem dX9_readsTerm_159 : decode cX9_readsTerm 159 = .ok (.dup, 1) := by decide +kernel
theorem dX9_readsTerm_160 : decode cX9_readsTerm 160 = .ok (.getfield 207, 3) := by decide +kernel
theorem dX9_readsTerm_163 : decode cX9_readsTerm 163 = .ok (.iconst 1, 1) := by decide +kernel
theorem dX9_readsTerm_164 : decode cX9_readsTerm 164 = .ok (.iadd, 1) := by decide +kernel
theorem dX9_readsTerm_165 : decode cX9_readsTerm 165 = .ok (.putfield 207, 3) := by decide +kernel
theorem dX9_readsTerm_168 : decode cX9_readsTerm 168 = .ok (.iconst 0, 1) := by decide +kernel
theorem dX9_readsTerm_169 : decode cX9_readsTerm 169 = .ok (.istore_n 2, 1) := by decide +kernel
theorem dX9_readsTerm_170 : decode cX9_readsTerm 170 = .ok (.goto 140, 3) := by decide +kernel
theorem dX9_readsTerm_173 : decode cX9_readsTerm 173 = .ok (.iload_n 2, 1) := by decide +kernel
theorem dX9_readsTerm_174 : decode cX9_readsTerm 174 = .ok (.ifCond .ne 44, 3) := by decide +kernel
theorem dX9_readsTerm_177 : decode cX9_readsTerm 177 = .ok (.iload_n 3, 1) := by decide +kernel
theorem dX9_readsTerm_178 : decode cX9_readsTerm 178 = .ok (.bipush 41, 2) := by decide +kernel
theorem dX9_readsTerm_180 : decode cX9_readsTerm 180 = .ok (.if_icmp .ne 38, 3) := by decide +kernel
theorem dX9_readsTerm_183 : decode cX9_readsTerm 183 = .ok (.iload_n 1, 1) := by decide +kernel
theorem dX9_readsTerm_184 : decode cX9_readsTerm 184 = .ok (.ifCond .le 34, 3) := by decide +kernel
theorem dX9_readsTerm_187 : decode cX9_readsTerm 187 = .ok (.aload_n 0, 1) := by decide +kernel
theorem dX9_readsTerm_188 : decode cX9_readsTerm 188 = .ok (.iconst 0, 1) := by decide +kernel
theorem dX9_readsTerm_189 : decode cX9_readsTerm 189 = .ok (.invokevirtual 249, 3) := by decide +kernel
theorem dX9_readsTerm_192 : decode cX9_readsTerm 192 = .ok (.aload_n 0, 1) := by decide +kernel
theorem dX9_readsTerm_193 : decode cX9_readsTerm 193 = .ok (.dup, 1) := by decide +kernel
theorem dX9_readsTerm_194 : decode cX9_readsTerm 194 = .ok (.getfield 239, 3) := by decide +kernel
theorem dX9_readsTerm_197 : decode cX9_readsTerm 197 = .ok (.iconst 1, 1) := by decide +kernel
theorem dX9_readsTerm_198 : decode cX9_readsTerm 198 = .ok (.isub, 1) := by decide +kernel
theorem dX9_readsTerm_199 : decode cX9_readsTerm 199 = .ok (.putfield 239, 3) := by decide +kernel
theorem dX9_readsTerm_202 : decode cX9_readsTerm 202 = .ok (.iinc 1 (-1), 3) := by decide +kernel
theorem dX9_readsTerm_205 : decode cX9_readsTerm 205 = .ok (.aload_n 0, 1) := by decide +kernel
theorem dX9_readsTerm_206 : decode cX9_readsTerm 206 = .ok (.dup, 1) := by decide +kernel
theorem dX9_readsTerm_207 : decode cX9_readsTerm 207 = .ok (.getfield 207, 3) := by decide +kernel
theorem dX9_readsTerm_210 : decode cX9_readsTerm 210 = .ok (.iconst 1, 1) := by decide +kernel
theorem dX9_readsTerm_211 : decode cX9_readsTerm 211 = .ok (.iadd, 1) := by decide +kernel
theorem dX9_readsTerm_212 : decode cX9_readsTerm 212 = .ok (.putfield 207, 3) := by decide +kernel
theorem dX9_readsTerm_215 : decode cX9_readsTerm 215 = .ok (.goto 95, 3) := by decide +kernel
theorem dX9_readsTerm_218 : decode cX9_readsTerm 218 = .ok (.iload_n 2, 1) := by decide +kernel
theorem dX9_readsTerm_219 : decode cX9_readsTerm 219 = .ok (.ifCond .ne 30, 3) := by decide +kernel
theorem dX9_readsTerm_222 : decode cX9_readsTerm 222 = .ok (.iload_n 3, 1) := by decide +kernel
theorem dX9_readsTerm_223 : decode cX9_readsTerm 223 = .ok (.bipush 59, 2) := by decide +kernel
theorem dX9_readsTerm_225 : decode cX9_readsTerm 225 = .ok (.if_icmp .ne 24, 3) := by decide +kernel
theorem dX9_readsTerm_228 : decode cX9_readsTerm 228 = .ok (.iload_n 1, 1) := by decide +kernel
theorem dX9_readsTerm_229 : decode cX9_readsTerm 229 = .ok (.ifCond .ne 20, 3) := by decide +kernel
theorem dX9_readsTerm_232 : decode cX9_readsTerm 232 = .ok (.aload_n 0, 1) := by decide +kernel
theorem dX9_readsTerm_233 : decode cX9_readsTerm 233 = .ok (.iconst 0, 1) := by decide +kernel
theorem dX9_readsTerm_234 : decode cX9_readsTerm 234 = .ok (.invokevirtual 249, 3) := by decide +kernel
theorem dX9_readsTerm_237 : decode cX9_readsTerm 237 = .ok (.aload_n 0, 1) := by decide +kernel
theorem dX9_readsTerm_238 : decode cX9_readsTerm 238 = .ok (.dup, 1) := by decide +kernel
theorem dX9_readsTerm_239 : decode cX9_readsTerm 239 = .ok (.getfield 207, 3) := by decide +kernel
theorem dX9_readsTerm_242 : decode cX9_readsTerm 242 = .ok (.iconst 1, 1) := by decide +kernel
theorem dX9_readsTerm_243 : decode cX9_readsTerm 243 = .ok (.iadd, 1) := by decide +kernel
theorem dX9_readsTerm_244 : decode cX9_readsTerm 244 = .ok (.putfield 207, 3) := by decide +kernel
theorem dX9_readsTerm_247 : decode cX9_readsTerm 247 = .ok (.iconst 1, 1) := by decide +kernel
theorem dX9_readsTerm_248 : decode cX9_readsTerm 248 = .ok (.ireturn, 1) := by decide +kernel
theorem dX9_readsTerm_249 : decode cX9_readsTerm 249 = .ok (.iload_n 2, 1) := by decide +kernel
theorem dX9_readsTerm_250 : decode cX9_readsTerm 250 = .ok (.ifCond .ne 58, 3) := by decide +kernel
theorem dX9_readsTerm_253 : decode cX9_readsTerm 253 = .ok (.iload_n 3, 1) := by decide +kernel
theorem dX9_readsTerm_254 : decode cX9_readsTerm 254 = .ok (.invokestatic 253, 3) := by decide +kernel
theorem dX9_readsTerm_257 : decode cX9_readsTerm 257 = .ok (.ldc 120, 2) := by decide +kernel
theorem dX9_readsTerm_259 : decode cX9_readsTerm 259 = .ok (.if_icmp .eq 49, 3) := by decide +kernel
theorem dX9_readsTerm_262 : decode cX9_readsTerm 262 = .ok (.aload_n 0, 1) := by decide +kernel
theorem dX9_readsTerm_263 : decode cX9_readsTerm 263 = .ok (.iload_n 3, 1) := by decide +kernel
theorem dX9_readsTerm_264 : decode cX9_readsTerm 264 = .ok (.invokestatic 253, 3) := by decide +kernel
theorem dX9_readsTerm_267 : decode cX9_readsTerm 267 = .ok (.invokevirtual 249, 3) := by decide +kernel
theorem dX9_readsTerm_270 : decode cX9_readsTerm 270 = .ok (.aload_n 0, 1) := by decide +kernel
theorem dX9_readsTerm_271 : decode cX9_readsTerm 271 = .ok (.getfield 40, 3) := by decide +kernel
theorem dX9_readsTerm_274 : decode cX9_readsTerm 274 = .ok (.aload_n 0, 1) := by decide +kernel
theorem dX9_readsTerm_275 : decode cX9_readsTerm 275 = .ok (.getfield 239, 3) := by decide +kernel
theorem dX9_readsTerm_278 : decode cX9_readsTerm 278 = .ok (.iload_n 3, 1) := by decide +kernel
theorem dX9_readsTerm_279 : decode cX9_readsTerm 279 = .ok (.invokestatic 253, 3) := by decide +kernel
theorem dX9_readsTerm_282 : decode cX9_readsTerm 282 = .ok (.iastore, 1) := by decide +kernel
theorem dX9_readsTerm_283 : decode cX9_readsTerm 283 = .ok (.aload_n 0, 1) := by decide +kernel
theorem dX9_readsTerm_284 : decode cX9_readsTerm 284 = .ok (.dup, 1) := by decide +kernel
theorem dX9_readsTerm_285 : decode cX9_readsTerm 285 = .ok (.getfield 239, 3) := by decide +kernel
theorem dX9_readsTerm_288 : decode cX9_readsTerm 288 = .ok (.iconst 1, 1) := by decide +kernel
theorem dX9_readsTerm_289 : decode cX9_readsTerm 289 = .ok (.iadd, 1) := by decide +kernel
theorem dX9_readsTerm_290 : decode cX9_readsTerm 290 = .ok (.putfield 239, 3) := by decide +kernel
theorem dX9_readsTerm_293 : decode cX9_readsTerm 293 = .ok (.aload_n 0, 1) := by decide +kernel
theorem dX9_readsTerm_294 : decode cX9_readsTerm 294 = .ok (.dup, 1) := by decide +kernel
theorem dX9_readsTerm_295 : decode cX9_readsTerm 295 = .ok (.getfield 207, 3) := by decide +kernel
theorem dX9_readsTerm_298 : decode cX9_readsTerm 298 = .ok (.iconst 1, 1) := by decide +kernel
theorem dX9_readsTerm_299 : decode cX9_readsTerm 299 = .ok (.iadd, 1) := by decide +kernel
theorem dX9_readsTerm_300 : decode cX9_readsTerm 300 = .ok (.putfield 207, 3) := by decide +kernel
theorem dX9_readsTerm_303 : decode cX9_readsTerm 303 = .ok (.iconst 1, 1) := by decide +kernel
theorem dX9_readsTerm_304 : decode cX9_readsTerm 304 = .ok (.istore_n 2, 1) := by decide +kernel
theorem dX9_readsTerm_305 : decode cX9_readsTerm 305 = .ok (.goto 5, 3) := by decide +kernel
theorem dX9_readsTerm_308 : decode cX9_readsTerm 308 = .ok (.iconst 0, 1) := by decide +kernel
theorem dX9_readsTerm_309 : decode cX9_readsTerm 309 = .ok (.ireturn, 1) := by decide +kernel
theorem dX9_readsTerm_310 : decode cX9_readsTerm 310 = .ok (.goto (-286), 3) := by decide +kernel
theorem dX9_isOf_0 : decode cX9_isOf 0 = .ok (.iconst 0, 1) := by decide +kernel
theorem dX9_isOf_1 : decode cX9_isOf 1 = .ok (.istore_n 3, 1) := by decide +kernel
theorem dX9_isOf_2 : decode cX9_isOf 2 = .ok (.aload_n 0, 1) := by decide +kernel
theorem dX9_isOf_3 : decode cX9_isOf 3 = .ok (.getfield 43, 3) := by decide +kernel
theorem dX9_isOf_6 : decode cX9_isOf 6 = .ok (.iload_n 1, 1) := by decide +kernel
theorem dX9_isOf_7 : decode cX9_isOf 7 = .ok (.iaload, 1) := by decide +kernel
theorem dX9_isOf_8 : decode cX9_isOf 8 = .ok (.istore 4, 2) := by decide +kernel
theorem dX9_isOf_10 : decode cX9_isOf 10 = .ok (.iload 4, 2) := by decide +kernel
theorem dX9_isOf_12 : decode cX9_isOf 12 = .ok (.aload_n 0, 1) := by decide +kernel
theorem dX9_isOf_13 : decode cX9_isOf 13 = .ok (.getfield 46, 3) := by decide +kernel
theorem dX9_isOf_16 : decode cX9_isOf 16 = .ok (.iload_n 1, 1) := by decide +kernel
theorem dX9_isOf_17 : decode cX9_isOf 17 = .ok (.iaload, 1) := by decide +kernel
theorem dX9_isOf_18 : decode cX9_isOf 18 = .ok (.if_icmp .ge 30, 3) := by decide +kernel
theorem dX9_isOf_21 : decode cX9_isOf 21 = .ok (.iload_n 3, 1) := by decide +kernel
theorem dX9_isOf_22 : decode cX9_isOf 22 = .ok (.ifCond .ne 14, 3) := by decide +kernel
theorem dX9_isOf_25 : decode cX9_isOf 25 = .ok (.aload_n 0, 1) := by decide +kernel
theorem dX9_isOf_26 : decode cX9_isOf 26 = .ok (.getfield 49, 3) := by decide +kernel
theorem dX9_isOf_29 : decode cX9_isOf 29 = .ok (.iload 4, 2) := by decide +kernel
theorem dX9_isOf_31 : decode cX9_isOf 31 = .ok (.iaload, 1) := by decide +kernel
theorem dX9_isOf_32 : decode cX9_isOf 32 = .ok (.iload_n 2, 1) := by decide +kernel
theorem dX9_isOf_33 : decode cX9_isOf 33 = .ok (.if_icmp .ne 7, 3) := by decide +kernel
theorem dX9_isOf_36 : decode cX9_isOf 36 = .ok (.iconst 1, 1) := by decide +kernel
theorem dX9_isOf_37 : decode cX9_isOf 37 = .ok (.goto 4, 3) := by decide +kernel
theorem dX9_isOf_40 : decode cX9_isOf 40 = .ok (.iconst 0, 1) := by decide +kernel
theorem dX9_isOf_41 : decode cX9_isOf 41 = .ok (.istore_n 3, 1) := by decide +kernel
theorem dX9_isOf_42 : decode cX9_isOf 42 = .ok (.iinc 4 1, 3) := by decide +kernel
theorem dX9_isOf_45 : decode cX9_isOf 45 = .ok (.goto (-35), 3) := by decide +kernel
theorem dX9_isOf_48 : decode cX9_isOf 48 = .ok (.iload_n 3, 1) := by decide +kernel
theorem dX9_isOf_49 : decode cX9_isOf 49 = .ok (.ireturn, 1) := by decide +kernel
set_option maxRecDepth 20000 in
theorem ggX9_termAt_X9_isOf : GoodIn wsX9_termAt wsX9_isOf := goodIn_r _ [11, 12, 13, 14, 52, 53, 54, 55, 56, 57, 58, 59, 60, 61, 62, 63, 64, 65, 66, 67, 68, 69, 70, 71, 72, 73, 74, 75, 76, 77, 78] (by decide +kernel) (by decide +kernel)
set_option maxRecDepth 20000 in
theorem gX9_termAt_X9_isOf : GoodIn wsX9_termAt (wsV RX9 256 RX9 yX9_isOf wsX9_isOf) := goodIn_app (goodIn_of _ (by decide +kernel)) ggX9_termAt_X9_isOf
set_option maxRecDepth 20000 in
theorem ggX9_termAt_X9_joins : GoodIn wsX9_termAt wsX9_joins := goodIn_r _ [18, 4, 19, 20, 21, 10, 22, 23, 24, 25, 26, 27, 28, 29, 52, 53, 54, 55, 56, 57, 58, 59, 60, 61, 62, 63, 64, 65, 66, 67, 68, 69, 70, 71, 72, 73, 74, 75, 76, 77, 78] (by decide +kernel) (by decide +kernel)
set_option maxRecDepth 20000 in
theorem gX9_termAt_X9_joins : GoodIn wsX9_termAt (wsV RX9 155 RX9 yX9_joins wsX9_joins) := goodIn_app (goodIn_of _ (by decide +kernel)) ggX9_termAt_X9_joins
set_option maxRecDepth 20000 in
theorem ggX9_termAt_X9_isThere : GoodIn wsX9_termAt wsX9_isThere := goodIn_r _ [33, 34, 35, 36, 37, 10, 38, 39, 40, 41, 42, 52, 53, 54, 55, 56, 57, 58, 59, 60, 61, 62, 63, 64, 65, 66, 67, 68, 69, 70, 71, 72, 73, 74, 75, 76, 77, 78] (by decide +kernel) (by decide +kernel)
set_option maxRecDepth 20000 in
theorem gX9_termAt_X9_isThere : GoodIn wsX9_termAt (wsV RX9 96 RX9 yX9_isThere wsX9_isThere) := goodIn_app (goodIn_of _ (by decide +kernel)) ggX9_termAt_X9_isThere
set_option maxRecDepth 20000 in
theorem ggX9_termAt_X9_valueAt : GoodIn wsX9_termAt wsX9_valueAt := goodIn_r _ [46, 39, 47, 48, 10, 49, 50, 51, 52, 53, 54, 55, 56, 57, 58, 59, 60, 61, 62, 63, 64, 65, 66, 67, 68, 69, 70, 71, 72, 73, 74, 75, 76, 77, 78] (by decide +kernel) (by decide +kernel)
set_option maxRecDepth 20000 in
theorem gX9_termAt_X9_valueAt : GoodIn wsX9_termAt (wsV RX9 117 RX9 yX9_valueAt wsX9_valueAt) := goodIn_app (goodIn_of _ (by decide +kernel)) ggX9_termAt_X9_valueAt
theorem dX9_termAt_0 : decode cX9_termAt 0 = .ok (.iconst 0, 1) := by decide +kernel
theorem dX9_termAt_1 : decode cX9_termAt 1 = .ok (.istore_n 2, 1) := by decide +kernel
theorem dX9_termAt_2 : decode cX9_termAt 2 = .ok (.iconst 0, 1) := by decide +kernel
theorem dX9_termAt_3 : decode cX9_termAt 3 = .ok (.istore_n 3, 1) := by decide +kernel
theorem dX9_termAt_4 : decode cX9_termAt 4 = .ok (.iload_n 3, 1) := by decide +kernel
theorem dX9_termAt_5 : decode cX9_termAt 5 = .ok (.aload_n 0, 1) := by decide +kernel
theorem dX9_termAt_6 : decode cX9_termAt 6 = .ok (.getfield 236, 3) := by decide +kernel
theorem dX9_termAt_9 : decode cX9_termAt 9 = .ok (.if_icmp .ge 170, 3) := by decide +kernel
theorem dX9_termAt_12 : decode cX9_termAt 12 = .ok (.aload_n 0, 1) := by decide +kernel
theorem dX9_termAt_13 : decode cX9_termAt 13 = .ok (.getfield 37, 3) := by decide +kernel
theorem dX9_termAt_16 : decode cX9_termAt 16 = .ok (.iload_n 3, 1) := by decide +kernel
theorem dX9_termAt_17 : decode cX9_termAt 17 = .ok (.iaload, 1) := by decide +kernel
theorem dX9_termAt_18 : decode cX9_termAt 18 = .ok (.istore 4, 2) := by decide +kernel
theorem dX9_termAt_20 : decode cX9_termAt 20 = .ok (.iload 4, 2) := by decide +kernel
theorem dX9_termAt_22 : decode cX9_termAt 22 = .ok (.bipush 20, 2) := by decide +kernel
theorem dX9_termAt_24 : decode cX9_termAt 24 = .ok (.if_icmp .lt 34, 3) := by decide +kernel
theorem dX9_termAt_27 : decode cX9_termAt 27 = .ok (.aload_n 0, 1) := by decide +kernel
theorem dX9_termAt_28 : decode cX9_termAt 28 = .ok (.getfield 52, 3) := by decide +kernel
theorem dX9_termAt_31 : decode cX9_termAt 31 = .ok (.iload_n 2, 1) := by decide +kernel
theorem dX9_termAt_32 : decode cX9_termAt 32 = .ok (.aload_n 0, 1) := by decide +kernel
theorem dX9_termAt_33 : decode cX9_termAt 33 = .ok (.iload 4, 2) := by decide +kernel
theorem dX9_termAt_35 : decode cX9_termAt 35 = .ok (.bipush 20, 2) := by decide +kernel
theorem dX9_termAt_37 : decode cX9_termAt 37 = .ok (.isub, 1) := by decide +kernel
theorem dX9_termAt_38 : decode cX9_termAt 38 = .ok (.iload_n 1, 1) := by decide +kernel
theorem dX9_termAt_39 : decode cX9_termAt 39 = .ok (.invokevirtual 256, 3) := by decide +kernel
theorem dX9_termAt_42 : decode cX9_termAt 42 = .ok (.ifCond .eq 7, 3) := by decide +kernel
theorem dX9_termAt_45 : decode cX9_termAt 45 = .ok (.iload_n 1, 1) := by decide +kernel
theorem dX9_termAt_46 : decode cX9_termAt 46 = .ok (.goto 5, 3) := by decide +kernel
theorem dX9_termAt_49 : decode cX9_termAt 49 = .ok (.ldc 120, 2) := by decide +kernel
theorem dX9_termAt_51 : decode cX9_termAt 51 = .ok (.iastore, 1) := by decide +kernel
theorem dX9_termAt_52 : decode cX9_termAt 52 = .ok (.iinc 2 1, 3) := by decide +kernel
theorem dX9_termAt_55 : decode cX9_termAt 55 = .ok (.goto 118, 3) := by decide +kernel
theorem dX9_termAt_58 : decode cX9_termAt 58 = .ok (.iload 4, 2) := by decide +kernel
theorem dX9_termAt_60 : decode cX9_termAt 60 = .ok (.bipush 10, 2) := by decide +kernel
theorem dX9_termAt_62 : decode cX9_termAt 62 = .ok (.if_icmp .lt 67, 3) := by decide +kernel
theorem dX9_termAt_65 : decode cX9_termAt 65 = .ok (.iinc 2 (-1), 3) := by decide +kernel
theorem dX9_termAt_68 : decode cX9_termAt 68 = .ok (.aload_n 0, 1) := by decide +kernel
theorem dX9_termAt_69 : decode cX9_termAt 69 = .ok (.getfield 52, 3) := by decide +kernel
theorem dX9_termAt_72 : decode cX9_termAt 72 = .ok (.iload_n 2, 1) := by decide +kernel
theorem dX9_termAt_73 : decode cX9_termAt 73 = .ok (.iconst 1, 1) := by decide +kernel
theorem dX9_termAt_74 : decode cX9_termAt 74 = .ok (.isub, 1) := by decide +kernel
theorem dX9_termAt_75 : decode cX9_termAt 75 = .ok (.aload_n 0, 1) := by decide +kernel
theorem dX9_termAt_76 : decode cX9_termAt 76 = .ok (.iload 4, 2) := by decide +kernel
theorem dX9_termAt_78 : decode cX9_termAt 78 = .ok (.bipush 10, 2) := by decide +kernel
theorem dX9_termAt_80 : decode cX9_termAt 80 = .ok (.isub, 1) := by decide +kernel
theorem dX9_termAt_81 : decode cX9_termAt 81 = .ok (.aload_n 0, 1) := by decide +kernel
theorem dX9_termAt_82 : decode cX9_termAt 82 = .ok (.getfield 52, 3) := by decide +kernel
theorem dX9_termAt_85 : decode cX9_termAt 85 = .ok (.iload_n 2, 1) := by decide +kernel
theorem dX9_termAt_86 : decode cX9_termAt 86 = .ok (.iconst 1, 1) := by decide +kernel
theorem dX9_termAt_87 : decode cX9_termAt 87 = .ok (.isub, 1) := by decide +kernel
theorem dX9_termAt_88 : decode cX9_termAt 88 = .ok (.iaload, 1) := by decide +kernel
theorem dX9_termAt_89 : decode cX9_termAt 89 = .ok (.aload_n 0, 1) := by decide +kernel
theorem dX9_termAt_90 : decode cX9_termAt 90 = .ok (.getfield 52, 3) := by decide +kernel
theorem dX9_termAt_93 : decode cX9_termAt 93 = .ok (.iload_n 2, 1) := by decide +kernel
theorem dX9_termAt_94 : decode cX9_termAt 94 = .ok (.iaload, 1) := by decide +kernel
theorem dX9_termAt_95 : decode cX9_termAt 95 = .ok (.invokevirtual 155, 3) := by decide +kernel
theorem dX9_termAt_98 : decode cX9_termAt 98 = .ok (.iastore, 1) := by decide +kernel
theorem dX9_termAt_99 : decode cX9_termAt 99 = .ok (.aload_n 0, 1) := by decide +kernel
theorem dX9_termAt_100 : decode cX9_termAt 100 = .ok (.getfield 55, 3) := by decide +kernel
theorem dX9_termAt_103 : decode cX9_termAt 103 = .ok (.iload_n 3, 1) := by decide +kernel
theorem dX9_termAt_104 : decode cX9_termAt 104 = .ok (.dup2, 1) := by decide +kernel
theorem dX9_termAt_105 : decode cX9_termAt 105 = .ok (.iaload, 1) := by decide +kernel
theorem dX9_termAt_106 : decode cX9_termAt 106 = .ok (.aload_n 0, 1) := by decide +kernel
theorem dX9_termAt_107 : decode cX9_termAt 107 = .ok (.getfield 52, 3) := by decide +kernel
theorem dX9_termAt_110 : decode cX9_termAt 110 = .ok (.iload_n 2, 1) := by decide +kernel
theorem dX9_termAt_111 : decode cX9_termAt 111 = .ok (.iconst 1, 1) := by decide +kernel
theorem dX9_termAt_112 : decode cX9_termAt 112 = .ok (.isub, 1) := by decide +kernel
theorem dX9_termAt_113 : decode cX9_termAt 113 = .ok (.iaload, 1) := by decide +kernel
theorem dX9_termAt_114 : decode cX9_termAt 114 = .ok (.ldc 120, 2) := by decide +kernel
theorem dX9_termAt_116 : decode cX9_termAt 116 = .ok (.if_icmp .ne 7, 3) := by decide +kernel
theorem dX9_termAt_119 : decode cX9_termAt 119 = .ok (.iconst 0, 1) := by decide +kernel
theorem dX9_termAt_120 : decode cX9_termAt 120 = .ok (.goto 4, 3) := by decide +kernel
theorem dX9_termAt_123 : decode cX9_termAt 123 = .ok (.iconst 1, 1) := by decide +kernel
theorem dX9_termAt_124 : decode cX9_termAt 124 = .ok (.iadd, 1) := by decide +kernel
theorem dX9_termAt_125 : decode cX9_termAt 125 = .ok (.iastore, 1) := by decide +kernel
theorem dX9_termAt_126 : decode cX9_termAt 126 = .ok (.goto 47, 3) := by decide +kernel
theorem dX9_termAt_129 : decode cX9_termAt 129 = .ok (.aload_n 0, 1) := by decide +kernel
theorem dX9_termAt_130 : decode cX9_termAt 130 = .ok (.getfield 52, 3) := by decide +kernel
theorem dX9_termAt_133 : decode cX9_termAt 133 = .ok (.iload_n 2, 1) := by decide +kernel
theorem dX9_termAt_134 : decode cX9_termAt 134 = .ok (.aload_n 0, 1) := by decide +kernel
theorem dX9_termAt_135 : decode cX9_termAt 135 = .ok (.iload 4, 2) := by decide +kernel
theorem dX9_termAt_137 : decode cX9_termAt 137 = .ok (.aload_n 0, 1) := by decide +kernel
theorem dX9_termAt_138 : decode cX9_termAt 138 = .ok (.getfield 58, 3) := by decide +kernel
theorem dX9_termAt_141 : decode cX9_termAt 141 = .ok (.iload 4, 2) := by decide +kernel
theorem dX9_termAt_143 : decode cX9_termAt 143 = .ok (.iaload, 1) := by decide +kernel
theorem dX9_termAt_144 : decode cX9_termAt 144 = .ok (.iload_n 1, 1) := by decide +kernel
theorem dX9_termAt_145 : decode cX9_termAt 145 = .ok (.invokevirtual 96, 3) := by decide +kernel
theorem dX9_termAt_148 : decode cX9_termAt 148 = .ok (.ifCond .eq 19, 3) := by decide +kernel
theorem dX9_termAt_151 : decode cX9_termAt 151 = .ok (.aload_n 0, 1) := by decide +kernel
theorem dX9_termAt_152 : decode cX9_termAt 152 = .ok (.iload 4, 2) := by decide +kernel
theorem dX9_termAt_154 : decode cX9_termAt 154 = .ok (.aload_n 0, 1) := by decide +kernel
theorem dX9_termAt_155 : decode cX9_termAt 155 = .ok (.getfield 58, 3) := by decide +kernel
theorem dX9_termAt_158 : decode cX9_termAt 158 = .ok (.iload 4, 2) := by decide +kernel
theorem dX9_termAt_160 : decode cX9_termAt 160 = .ok (.iaload, 1) := by decide +kernel
theorem dX9_termAt_161 : decode cX9_termAt 161 = .ok (.invokevirtual 117, 3) := by decide +kernel
theorem dX9_termAt_164 : decode cX9_termAt 164 = .ok (.goto 5, 3) := by decide +kernel
theorem dX9_termAt_167 : decode cX9_termAt 167 = .ok (.ldc 120, 2) := by decide +kernel
theorem dX9_termAt_169 : decode cX9_termAt 169 = .ok (.iastore, 1) := by decide +kernel
theorem dX9_termAt_170 : decode cX9_termAt 170 = .ok (.iinc 2 1, 3) := by decide +kernel
theorem dX9_termAt_173 : decode cX9_termAt 173 = .ok (.iinc 3 1, 3) := by decide +kernel
theorem dX9_termAt_176 : decode cX9_termAt 176 = .ok (.goto (-172), 3) := by decide +kernel
theorem dX9_termAt_179 : decode cX9_termAt 179 = .ok (.aload_n 0, 1) := by decide +kernel
theorem dX9_termAt_180 : decode cX9_termAt 180 = .ok (.getfield 52, 3) := by decide +kernel
theorem dX9_termAt_183 : decode cX9_termAt 183 = .ok (.iconst 0, 1) := by decide +kernel
theorem dX9_termAt_184 : decode cX9_termAt 184 = .ok (.iaload, 1) := by decide +kernel
theorem dX9_termAt_185 : decode cX9_termAt 185 = .ok (.ireturn, 1) := by decide +kernel
set_option maxRecDepth 20000 in
theorem ggX9_sets_X9_termAt : GoodIn wsX9_sets wsX9_termAt := goodIn_r _ [11, 2, 6, 12, 4, 3, 1, 13, 14, 15, 10, 16, 17, 18, 19, 20, 21, 22, 23, 24, 25, 26, 27, 28, 29, 30, 31, 32, 33, 34, 35, 36, 37, 38, 39, 40, 41, 42, 43, 44, 45, 46, 47, 48, 49, 50, 51, 52, 53, 54, 55, 56, 64, 65, 66, 67, 68, 69, 70, 71, 72, 73, 74, 75, 76, 77, 78, 79, 80, 81, 82, 83, 84, 85, 86, 87, 88, 89, 90] (by decide +kernel) (by decide +kernel)
set_option maxRecDepth 20000 in
theorem gX9_sets_X9_termAt : GoodIn wsX9_sets (wsV RX9 259 RX9 yX9_termAt wsX9_termAt) := goodIn_app (goodIn_of _ (by decide +kernel)) ggX9_sets_X9_termAt
set_option maxRecDepth 20000 in
theorem ggX9_sets_X9_isThere : GoodIn wsX9_sets wsX9_isThere := goodIn_r _ [38, 39, 40, 41, 42, 10, 43, 44, 45, 46, 47, 64, 65, 66, 67, 68, 69, 70, 71, 72, 73, 74, 75, 76, 77, 78, 79, 80, 81, 82, 83, 84, 85, 86, 87, 88, 89, 90] (by decide +kernel) (by decide +kernel)
set_option maxRecDepth 20000 in
theorem gX9_sets_X9_isThere : GoodIn wsX9_sets (wsV RX9 96 RX9 yX9_isThere wsX9_isThere) := goodIn_app (goodIn_of _ (by decide +kernel)) ggX9_sets_X9_isThere
set_option maxRecDepth 20000 in
theorem ggX9_sets_X9_entry : GoodIn wsX9_sets wsX9_entry := goodIn_r _ [59, 56] (by decide +kernel) (by decide +kernel)
set_option maxRecDepth 20000 in
theorem gX9_sets_X9_entry : GoodIn wsX9_sets (va_wsS RX9 100 yX9_entry wsX9_entry) := goodIn_app (goodIn_of _ (by decide +kernel)) ggX9_sets_X9_entry
set_option maxRecDepth 20000 in
theorem ggX9_sets_X9_becomes : GoodIn wsX9_sets wsX9_becomes := goodIn_r _ [63, 44, 5, 39, 64, 65, 66, 67, 68, 69, 70, 71, 72, 73, 74, 75, 76, 77, 78, 79, 80, 81, 82, 83, 84, 85, 86, 87, 88, 89, 90] (by decide +kernel) (by decide +kernel)
set_option maxRecDepth 20000 in
theorem gX9_sets_X9_becomes : GoodIn wsX9_sets (wsV RX9 159 RX9 yX9_becomes wsX9_becomes) := goodIn_app (goodIn_of _ (by decide +kernel)) ggX9_sets_X9_becomes
theorem dX9_sets_0 : decode cX9_sets 0 = .ok (.iconst 0, 1) := by decide +kernel
theorem dX9_sets_1 : decode cX9_sets 1 = .ok (.istore_n 2, 1) := by decide +kernel
theorem dX9_sets_2 : decode cX9_sets 2 = .ok (.iload_n 2, 1) := by decide +kernel
theorem dX9_sets_3 : decode cX9_sets 3 = .ok (.bipush 6, 2) := by decide +kernel
theorem dX9_sets_5 : decode cX9_sets 5 = .ok (.if_icmp .ge 16, 3) := by decide +kernel
theorem dX9_sets_8 : decode cX9_sets 8 = .ok (.aload_n 0, 1) := by decide +kernel
theorem dX9_sets_9 : decode cX9_sets 9 = .ok (.getfield 58, 3) := by decide +kernel
theorem dX9_sets_12 : decode cX9_sets 12 = .ok (.iload_n 2, 1) := by decide +kernel
theorem dX9_sets_13 : decode cX9_sets 13 = .ok (.iconst 0, 1) := by decide +kernel
theorem dX9_sets_14 : decode cX9_sets 14 = .ok (.iastore, 1) := by decide +kernel
theorem dX9_sets_15 : decode cX9_sets 15 = .ok (.iinc 2 1, 3) := by decide +kernel
theorem dX9_sets_18 : decode cX9_sets 18 = .ok (.goto (-16), 3) := by decide +kernel
theorem dX9_sets_21 : decode cX9_sets 21 = .ok (.iconst 0, 1) := by decide +kernel
theorem dX9_sets_22 : decode cX9_sets 22 = .ok (.istore_n 2, 1) := by decide +kernel
theorem dX9_sets_23 : decode cX9_sets 23 = .ok (.iload_n 2, 1) := by decide +kernel
theorem dX9_sets_24 : decode cX9_sets 24 = .ok (.aload_n 0, 1) := by decide +kernel
theorem dX9_sets_25 : decode cX9_sets 25 = .ok (.getfield 236, 3) := by decide +kernel
theorem dX9_sets_28 : decode cX9_sets 28 = .ok (.if_icmp .ge 16, 3) := by decide +kernel
theorem dX9_sets_31 : decode cX9_sets 31 = .ok (.aload_n 0, 1) := by decide +kernel
theorem dX9_sets_32 : decode cX9_sets 32 = .ok (.getfield 55, 3) := by decide +kernel
theorem dX9_sets_35 : decode cX9_sets 35 = .ok (.iload_n 2, 1) := by decide +kernel
theorem dX9_sets_36 : decode cX9_sets 36 = .ok (.iconst 0, 1) := by decide +kernel
theorem dX9_sets_37 : decode cX9_sets 37 = .ok (.iastore, 1) := by decide +kernel
theorem dX9_sets_38 : decode cX9_sets 38 = .ok (.iinc 2 1, 3) := by decide +kernel
theorem dX9_sets_41 : decode cX9_sets 41 = .ok (.goto (-18), 3) := by decide +kernel
theorem dX9_sets_44 : decode cX9_sets 44 = .ok (.iconst 0, 1) := by decide +kernel
theorem dX9_sets_45 : decode cX9_sets 45 = .ok (.istore_n 2, 1) := by decide +kernel
theorem dX9_sets_46 : decode cX9_sets 46 = .ok (.sipush (-500), 3) := by decide +kernel
theorem dX9_sets_49 : decode cX9_sets 49 = .ok (.istore_n 3, 1) := by decide +kernel
theorem dX9_sets_50 : decode cX9_sets 50 = .ok (.iload_n 3, 1) := by decide +kernel
theorem dX9_sets_51 : decode cX9_sets 51 = .ok (.sipush 500, 3) := by decide +kernel
theorem dX9_sets_54 : decode cX9_sets 54 = .ok (.if_icmp .gt 93, 3) := by decide +kernel
theorem dX9_sets_57 : decode cX9_sets 57 = .ok (.aload_n 0, 1) := by decide +kernel
theorem dX9_sets_58 : decode cX9_sets 58 = .ok (.iload_n 3, 1) := by decide +kernel
theorem dX9_sets_59 : decode cX9_sets 59 = .ok (.invokevirtual 259, 3) := by decide +kernel
theorem dX9_sets_62 : decode cX9_sets 62 = .ok (.istore 4, 2) := by decide +kernel
theorem dX9_sets_64 : decode cX9_sets 64 = .ok (.iconst 0, 1) := by decide +kernel
theorem dX9_sets_65 : decode cX9_sets 65 = .ok (.istore 5, 2) := by decide +kernel
theorem dX9_sets_67 : decode cX9_sets 67 = .ok (.iload 5, 2) := by decide +kernel
theorem dX9_sets_69 : decode cX9_sets 69 = .ok (.bipush 6, 2) := by decide +kernel
theorem dX9_sets_71 : decode cX9_sets 71 = .ok (.if_icmp .ge 41, 3) := by decide +kernel
theorem dX9_sets_74 : decode cX9_sets 74 = .ok (.aload_n 0, 1) := by decide +kernel
theorem dX9_sets_75 : decode cX9_sets 75 = .ok (.getfield 58, 3) := by decide +kernel
theorem dX9_sets_78 : decode cX9_sets 78 = .ok (.iload 5, 2) := by decide +kernel
theorem dX9_sets_80 : decode cX9_sets 80 = .ok (.dup2, 1) := by decide +kernel
theorem dX9_sets_81 : decode cX9_sets 81 = .ok (.iaload, 1) := by decide +kernel
theorem dX9_sets_82 : decode cX9_sets 82 = .ok (.aload_n 0, 1) := by decide +kernel
theorem dX9_sets_83 : decode cX9_sets 83 = .ok (.iload 5, 2) := by decide +kernel
theorem dX9_sets_85 : decode cX9_sets 85 = .ok (.aload_n 0, 1) := by decide +kernel
theorem dX9_sets_86 : decode cX9_sets 86 = .ok (.getfield 58, 3) := by decide +kernel
theorem dX9_sets_89 : decode cX9_sets 89 = .ok (.iload 5, 2) := by decide +kernel
theorem dX9_sets_91 : decode cX9_sets 91 = .ok (.iaload, 1) := by decide +kernel
theorem dX9_sets_92 : decode cX9_sets 92 = .ok (.iload_n 3, 1) := by decide +kernel
theorem dX9_sets_93 : decode cX9_sets 93 = .ok (.invokevirtual 96, 3) := by decide +kernel
theorem dX9_sets_96 : decode cX9_sets 96 = .ok (.ifCond .eq 7, 3) := by decide +kernel
theorem dX9_sets_99 : decode cX9_sets 99 = .ok (.iconst 1, 1) := by decide +kernel
theorem dX9_sets_100 : decode cX9_sets 100 = .ok (.goto 4, 3) := by decide +kernel
theorem dX9_sets_103 : decode cX9_sets 103 = .ok (.iconst 0, 1) := by decide +kernel
theorem dX9_sets_104 : decode cX9_sets 104 = .ok (.iadd, 1) := by decide +kernel
theorem dX9_sets_105 : decode cX9_sets 105 = .ok (.iastore, 1) := by decide +kernel
theorem dX9_sets_106 : decode cX9_sets 106 = .ok (.iinc 5 1, 3) := by decide +kernel
theorem dX9_sets_109 : decode cX9_sets 109 = .ok (.goto (-42), 3) := by decide +kernel
theorem dX9_sets_112 : decode cX9_sets 112 = .ok (.iload 4, 2) := by decide +kernel
theorem dX9_sets_114 : decode cX9_sets 114 = .ok (.ldc 120, 2) := by decide +kernel
theorem dX9_sets_116 : decode cX9_sets 116 = .ok (.if_icmp .eq 25, 3) := by decide +kernel
theorem dX9_sets_119 : decode cX9_sets 119 = .ok (.iload_n 2, 1) := by decide +kernel
theorem dX9_sets_120 : decode cX9_sets 120 = .ok (.sipush 200, 3) := by decide +kernel
theorem dX9_sets_123 : decode cX9_sets 123 = .ok (.if_icmp .gt 18, 3) := by decide +kernel
theorem dX9_sets_126 : decode cX9_sets 126 = .ok (.aload_n 0, 1) := by decide +kernel
theorem dX9_sets_127 : decode cX9_sets 127 = .ok (.getfield 28, 3) := by decide +kernel
theorem dX9_sets_130 : decode cX9_sets 130 = .ok (.iload_n 2, 1) := by decide +kernel
theorem dX9_sets_131 : decode cX9_sets 131 = .ok (.iload_n 3, 1) := by decide +kernel
theorem dX9_sets_132 : decode cX9_sets 132 = .ok (.iload 4, 2) := by decide +kernel
theorem dX9_sets_134 : decode cX9_sets 134 = .ok (.invokestatic 100, 3) := by decide +kernel
theorem dX9_sets_137 : decode cX9_sets 137 = .ok (.iastore, 1) := by decide +kernel
theorem dX9_sets_138 : decode cX9_sets 138 = .ok (.iinc 2 1, 3) := by decide +kernel
theorem dX9_sets_141 : decode cX9_sets 141 = .ok (.iinc 3 1, 3) := by decide +kernel
theorem dX9_sets_144 : decode cX9_sets 144 = .ok (.goto (-94), 3) := by decide +kernel
theorem dX9_sets_147 : decode cX9_sets 147 = .ok (.iconst 1, 1) := by decide +kernel
theorem dX9_sets_148 : decode cX9_sets 148 = .ok (.istore_n 3, 1) := by decide +kernel
theorem dX9_sets_149 : decode cX9_sets 149 = .ok (.iconst 0, 1) := by decide +kernel
theorem dX9_sets_150 : decode cX9_sets 150 = .ok (.istore 4, 2) := by decide +kernel
theorem dX9_sets_152 : decode cX9_sets 152 = .ok (.iload 4, 2) := by decide +kernel
theorem dX9_sets_154 : decode cX9_sets 154 = .ok (.aload_n 0, 1) := by decide +kernel
theorem dX9_sets_155 : decode cX9_sets 155 = .ok (.getfield 236, 3) := by decide +kernel
theorem dX9_sets_158 : decode cX9_sets 158 = .ok (.if_icmp .ge 56, 3) := by decide +kernel
theorem dX9_sets_161 : decode cX9_sets 161 = .ok (.iload_n 3, 1) := by decide +kernel
theorem dX9_sets_162 : decode cX9_sets 162 = .ok (.ifCond .eq 44, 3) := by decide +kernel
theorem dX9_sets_165 : decode cX9_sets 165 = .ok (.aload_n 0, 1) := by decide +kernel
theorem dX9_sets_166 : decode cX9_sets 166 = .ok (.getfield 37, 3) := by decide +kernel
theorem dX9_sets_169 : decode cX9_sets 169 = .ok (.iload 4, 2) := by decide +kernel
theorem dX9_sets_171 : decode cX9_sets 171 = .ok (.iaload, 1) := by decide +kernel
theorem dX9_sets_172 : decode cX9_sets 172 = .ok (.bipush 10, 2) := by decide +kernel
theorem dX9_sets_174 : decode cX9_sets 174 = .ok (.if_icmp .eq 15, 3) := by decide +kernel
theorem dX9_sets_177 : decode cX9_sets 177 = .ok (.aload_n 0, 1) := by decide +kernel
theorem dX9_sets_178 : decode cX9_sets 178 = .ok (.getfield 37, 3) := by decide +kernel
theorem dX9_sets_181 : decode cX9_sets 181 = .ok (.iload 4, 2) := by decide +kernel
theorem dX9_sets_183 : decode cX9_sets 183 = .ok (.iaload, 1) := by decide +kernel
theorem dX9_sets_184 : decode cX9_sets 184 = .ok (.bipush 13, 2) := by decide +kernel
theorem dX9_sets_186 : decode cX9_sets 186 = .ok (.if_icmp .ne 16, 3) := by decide +kernel
theorem dX9_sets_189 : decode cX9_sets 189 = .ok (.aload_n 0, 1) := by decide +kernel
theorem dX9_sets_190 : decode cX9_sets 190 = .ok (.getfield 55, 3) := by decide +kernel
theorem dX9_sets_193 : decode cX9_sets 193 = .ok (.iload 4, 2) := by decide +kernel
theorem dX9_sets_195 : decode cX9_sets 195 = .ok (.iaload, 1) := by decide +kernel
theorem dX9_sets_196 : decode cX9_sets 196 = .ok (.sipush 200, 3) := by decide +kernel
theorem dX9_sets_199 : decode cX9_sets 199 = .ok (.if_icmp .gt 7, 3) := by decide +kernel
theorem dX9_sets_202 : decode cX9_sets 202 = .ok (.iconst 1, 1) := by decide +kernel
theorem dX9_sets_203 : decode cX9_sets 203 = .ok (.goto 4, 3) := by decide +kernel
theorem dX9_sets_206 : decode cX9_sets 206 = .ok (.iconst 0, 1) := by decide +kernel
theorem dX9_sets_207 : decode cX9_sets 207 = .ok (.istore_n 3, 1) := by decide +kernel
theorem dX9_sets_208 : decode cX9_sets 208 = .ok (.iinc 4 1, 3) := by decide +kernel
theorem dX9_sets_211 : decode cX9_sets 211 = .ok (.goto (-59), 3) := by decide +kernel
theorem dX9_sets_214 : decode cX9_sets 214 = .ok (.iload_n 3, 1) := by decide +kernel
theorem dX9_sets_215 : decode cX9_sets 215 = .ok (.ifCond .eq 9, 3) := by decide +kernel
theorem dX9_sets_218 : decode cX9_sets 218 = .ok (.aload_n 0, 1) := by decide +kernel
theorem dX9_sets_219 : decode cX9_sets 219 = .ok (.iload_n 1, 1) := by decide +kernel
theorem dX9_sets_220 : decode cX9_sets 220 = .ok (.iload_n 2, 1) := by decide +kernel
theorem dX9_sets_221 : decode cX9_sets 221 = .ok (.invokevirtual 159, 3) := by decide +kernel
theorem dX9_sets_224 : decode cX9_sets 224 = .ok (.iload_n 3, 1) := by decide +kernel
theorem dX9_sets_225 : decode cX9_sets 225 = .ok (.ireturn, 1) := by decide +kernel
set_option maxRecDepth 20000 in
theorem ggX9_goesThrough_X9_skips : GoodIn wsX9_goesThrough wsX9_skips := goodIn_r _ [12, 1, 13, 14, 15, 11, 16, 3, 17, 115, 116, 117, 118, 119, 120, 121, 122, 123, 124, 125, 126, 127, 128, 129, 130, 131, 132, 133, 134, 135, 136, 137, 138, 139, 140, 141] (by decide +kernel) (by decide +kernel)
set_option maxRecDepth 20000 in
theorem gX9_goesThrough_X9_skips : GoodIn wsX9_goesThrough (wsV RX9 229 RX9 yX9_skips wsX9_skips) := goodIn_app (goodIn_of _ (by decide +kernel)) ggX9_goesThrough_X9_skips
set_option maxRecDepth 20000 in
theorem ggX9_goesThrough_X9_byteAt : GoodIn wsX9_goesThrough wsX9_byteAt := goodIn_r _ [16, 3, 17, 115, 116, 117, 118, 119, 120, 121, 122, 123, 124, 125, 126, 127, 128, 129, 130, 131, 132, 133, 134, 135, 136, 137, 138, 139, 140, 141] (by decide +kernel) (by decide +kernel)
set_option maxRecDepth 20000 in
theorem gX9_goesThrough_X9_byteAt : GoodIn wsX9_goesThrough (wsV RX9 210 RX9 yX9_byteAt wsX9_byteAt) := goodIn_app (goodIn_of _ (by decide +kernel)) ggX9_goesThrough_X9_byteAt
set_option maxRecDepth 20000 in
theorem ggX9_goesThrough_X9_in : GoodIn wsX9_goesThrough wsX9_in := goodIn_r _ [20] (by decide +kernel) (by decide +kernel)
set_option maxRecDepth 20000 in
theorem gX9_goesThrough_X9_in : GoodIn wsX9_goesThrough (va_wsS RX9 68 yX9_in wsX9_in) := goodIn_app (goodIn_of _ (by decide +kernel)) ggX9_goesThrough_X9_in
set_option maxRecDepth 20000 in
theorem ggX9_goesThrough_X9_readsTerm : GoodIn wsX9_goesThrough wsX9_readsTerm := goodIn_r _ [24, 25, 26, 27, 28, 1, 29, 4, 5, 30, 7, 8, 9, 10, 11, 12, 13, 14, 15, 16, 3, 17, 31, 32, 33, 34, 35, 36, 37, 38, 39, 40, 41, 42, 43, 44, 45, 46, 47, 18, 19, 20, 48, 49, 50, 51, 52, 53, 54, 115, 116, 117, 118, 119, 120, 121, 122, 123, 124, 125, 126, 127, 128, 129, 130, 131, 132, 133, 134, 135, 136, 137, 138, 139, 140, 141] (by decide +kernel) (by decide +kernel)
set_option maxRecDepth 20000 in
theorem gX9_goesThrough_X9_readsTerm : GoodIn wsX9_goesThrough (wsV RX9 265 RX9 yX9_readsTerm wsX9_readsTerm) := goodIn_app (goodIn_of _ (by decide +kernel)) ggX9_goesThrough_X9_readsTerm
set_option maxRecDepth 20000 in
theorem ggX9_goesThrough_X9_sets : GoodIn wsX9_goesThrough wsX9_sets := goodIn_r _ [58, 59, 25, 60, 7, 61, 30, 62, 63, 64, 11, 65, 66, 67, 68, 69, 70, 35, 38, 36, 71, 72, 73, 74, 75, 76, 77, 78, 79, 80, 81, 82, 83, 84, 85, 86, 87, 88, 89, 90, 91, 92, 93, 94, 95, 96, 97, 98, 99, 100, 101, 102, 103, 104, 105, 106, 107, 108, 109, 110, 111, 112, 113, 114, 115, 116, 117, 118, 119, 120, 121, 122, 123, 124, 125, 126, 127, 128, 129, 130, 131, 132, 133, 134, 135, 136, 137, 138, 139, 140, 141] (by decide +kernel) (by decide +kernel)
set_option maxRecDepth 20000 in
theorem gX9_goesThrough_X9_sets : GoodIn wsX9_goesThrough (wsV RX9 268 RX9 yX9_sets wsX9_sets) := goodIn_app (goodIn_of _ (by decide +kernel)) ggX9_goesThrough_X9_sets
theorem dX9_goesThrough_0 : decode cX9_goesThrough 0 = .ok (.aload_n 0, 1) := by decide +kernel
theorem dX9_goesThrough_1 : decode cX9_goesThrough 1 = .ok (.iconst 0, 1) := by decide +kernel
theorem dX9_goesThrough_2 : decode cX9_goesThrough 2 = .ok (.putfield 207, 3) := by decide +kernel
theorem dX9_goesThrough_5 : decode cX9_goesThrough 5 = .ok (.aload_n 0, 1) := by decide +kernel
theorem dX9_goesThrough_6 : decode cX9_goesThrough 6 = .ok (.iconst 0, 1) := by decide +kernel
theorem dX9_goesThrough_7 : decode cX9_goesThrough 7 = .ok (.putfield 262, 3) := by decide +kernel
theorem dX9_goesThrough_10 : decode cX9_goesThrough 10 = .ok (.aload_n 0, 1) := by decide +kernel
theorem dX9_goesThrough_11 : decode cX9_goesThrough 11 = .ok (.invokevirtual 229, 3) := by decide +kernel
theorem dX9_goesThrough_14 : decode cX9_goesThrough 14 = .ok (.aload_n 0, 1) := by decide +kernel
theorem dX9_goesThrough_15 : decode cX9_goesThrough 15 = .ok (.getfield 207, 3) := by decide +kernel
theorem dX9_goesThrough_18 : decode cX9_goesThrough 18 = .ok (.aload_n 0, 1) := by decide +kernel
theorem dX9_goesThrough_19 : decode cX9_goesThrough 19 = .ok (.getfield 204, 3) := by decide +kernel
theorem dX9_goesThrough_22 : decode cX9_goesThrough 22 = .ok (.if_icmp .lt 10, 3) := by decide +kernel
theorem dX9_goesThrough_25 : decode cX9_goesThrough 25 = .ok (.aload_n 0, 1) := by decide +kernel
theorem dX9_goesThrough_26 : decode cX9_goesThrough 26 = .ok (.getfield 262, 3) := by decide +kernel
theorem dX9_goesThrough_29 : decode cX9_goesThrough 29 = .ok (.ifCond .ne 120, 3) := by decide +kernel
theorem dX9_goesThrough_32 : decode cX9_goesThrough 32 = .ok (.aload_n 0, 1) := by decide +kernel
theorem dX9_goesThrough_33 : decode cX9_goesThrough 33 = .ok (.aload_n 0, 1) := by decide +kernel
theorem dX9_goesThrough_34 : decode cX9_goesThrough 34 = .ok (.getfield 207, 3) := by decide +kernel
theorem dX9_goesThrough_37 : decode cX9_goesThrough 37 = .ok (.invokevirtual 210, 3) := by decide +kernel
theorem dX9_goesThrough_40 : decode cX9_goesThrough 40 = .ok (.istore_n 2, 1) := by decide +kernel
theorem dX9_goesThrough_41 : decode cX9_goesThrough 41 = .ok (.iload_n 2, 1) := by decide +kernel
theorem dX9_goesThrough_42 : decode cX9_goesThrough 42 = .ok (.i2l, 1) := by decide +kernel
theorem dX9_goesThrough_43 : decode cX9_goesThrough 43 = .ok (.ldc2_w 245, 3) := by decide +kernel
theorem dX9_goesThrough_46 : decode cX9_goesThrough 46 = .ok (.ldc2_w 247, 3) := by decide +kernel
theorem dX9_goesThrough_49 : decode cX9_goesThrough 49 = .ok (.invokestatic 68, 3) := by decide +kernel
theorem dX9_goesThrough_52 : decode cX9_goesThrough 52 = .ok (.ifCond .ne 8, 3) := by decide +kernel
theorem dX9_goesThrough_55 : decode cX9_goesThrough 55 = .ok (.aload_n 0, 1) := by decide +kernel
theorem dX9_goesThrough_56 : decode cX9_goesThrough 56 = .ok (.getfield 207, 3) := by decide +kernel
theorem dX9_goesThrough_59 : decode cX9_goesThrough 59 = .ok (.ireturn, 1) := by decide +kernel
theorem dX9_goesThrough_60 : decode cX9_goesThrough 60 = .ok (.aload_n 0, 1) := by decide +kernel
theorem dX9_goesThrough_61 : decode cX9_goesThrough 61 = .ok (.dup, 1) := by decide +kernel
theorem dX9_goesThrough_62 : decode cX9_goesThrough 62 = .ok (.getfield 207, 3) := by decide +kernel
theorem dX9_goesThrough_65 : decode cX9_goesThrough 65 = .ok (.iconst 1, 1) := by decide +kernel
theorem dX9_goesThrough_66 : decode cX9_goesThrough 66 = .ok (.iadd, 1) := by decide +kernel
theorem dX9_goesThrough_67 : decode cX9_goesThrough 67 = .ok (.putfield 207, 3) := by decide +kernel
theorem dX9_goesThrough_70 : decode cX9_goesThrough 70 = .ok (.aload_n 0, 1) := by decide +kernel
theorem dX9_goesThrough_71 : decode cX9_goesThrough 71 = .ok (.invokevirtual 229, 3) := by decide +kernel
theorem dX9_goesThrough_74 : decode cX9_goesThrough 74 = .ok (.aload_n 0, 1) := by decide +kernel
theorem dX9_goesThrough_75 : decode cX9_goesThrough 75 = .ok (.aload_n 0, 1) := by decide +kernel
theorem dX9_goesThrough_76 : decode cX9_goesThrough 76 = .ok (.getfield 207, 3) := by decide +kernel
theorem dX9_goesThrough_79 : decode cX9_goesThrough 79 = .ok (.invokevirtual 210, 3) := by decide +kernel
theorem dX9_goesThrough_82 : decode cX9_goesThrough 82 = .ok (.bipush 61, 2) := by decide +kernel
theorem dX9_goesThrough_84 : decode cX9_goesThrough 84 = .ok (.if_icmp .eq 8, 3) := by decide +kernel
theorem dX9_goesThrough_87 : decode cX9_goesThrough 87 = .ok (.aload_n 0, 1) := by decide +kernel
theorem dX9_goesThrough_88 : decode cX9_goesThrough 88 = .ok (.getfield 207, 3) := by decide +kernel
theorem dX9_goesThrough_91 : decode cX9_goesThrough 91 = .ok (.ireturn, 1) := by decide +kernel
theorem dX9_goesThrough_92 : decode cX9_goesThrough 92 = .ok (.aload_n 0, 1) := by decide +kernel
theorem dX9_goesThrough_93 : decode cX9_goesThrough 93 = .ok (.dup, 1) := by decide +kernel
theorem dX9_goesThrough_94 : decode cX9_goesThrough 94 = .ok (.getfield 207, 3) := by decide +kernel
theorem dX9_goesThrough_97 : decode cX9_goesThrough 97 = .ok (.iconst 1, 1) := by decide +kernel
theorem dX9_goesThrough_98 : decode cX9_goesThrough 98 = .ok (.iadd, 1) := by decide +kernel
theorem dX9_goesThrough_99 : decode cX9_goesThrough 99 = .ok (.putfield 207, 3) := by decide +kernel
theorem dX9_goesThrough_102 : decode cX9_goesThrough 102 = .ok (.aload_n 0, 1) := by decide +kernel
theorem dX9_goesThrough_103 : decode cX9_goesThrough 103 = .ok (.invokevirtual 265, 3) := by decide +kernel
theorem dX9_goesThrough_106 : decode cX9_goesThrough 106 = .ok (.ifCond .ne 8, 3) := by decide +kernel
theorem dX9_goesThrough_109 : decode cX9_goesThrough 109 = .ok (.aload_n 0, 1) := by decide +kernel
theorem dX9_goesThrough_110 : decode cX9_goesThrough 110 = .ok (.getfield 207, 3) := by decide +kernel
theorem dX9_goesThrough_113 : decode cX9_goesThrough 113 = .ok (.ireturn, 1) := by decide +kernel
theorem dX9_goesThrough_114 : decode cX9_goesThrough 114 = .ok (.iload_n 1, 1) := by decide +kernel
theorem dX9_goesThrough_115 : decode cX9_goesThrough 115 = .ok (.ifCond .eq 17, 3) := by decide +kernel
theorem dX9_goesThrough_118 : decode cX9_goesThrough 118 = .ok (.aload_n 0, 1) := by decide +kernel
theorem dX9_goesThrough_119 : decode cX9_goesThrough 119 = .ok (.iload_n 2, 1) := by decide +kernel
theorem dX9_goesThrough_120 : decode cX9_goesThrough 120 = .ok (.bipush 97, 2) := by decide +kernel
theorem dX9_goesThrough_122 : decode cX9_goesThrough 122 = .ok (.isub, 1) := by decide +kernel
theorem dX9_goesThrough_123 : decode cX9_goesThrough 123 = .ok (.invokevirtual 268, 3) := by decide +kernel
theorem dX9_goesThrough_126 : decode cX9_goesThrough 126 = .ok (.ifCond .ne 6, 3) := by decide +kernel
theorem dX9_goesThrough_129 : decode cX9_goesThrough 129 = .ok (.ldc 113, 2) := by decide +kernel
theorem dX9_goesThrough_131 : decode cX9_goesThrough 131 = .ok (.ireturn, 1) := by decide +kernel
theorem dX9_goesThrough_132 : decode cX9_goesThrough 132 = .ok (.aload_n 0, 1) := by decide +kernel
theorem dX9_goesThrough_133 : decode cX9_goesThrough 133 = .ok (.dup, 1) := by decide +kernel
theorem dX9_goesThrough_134 : decode cX9_goesThrough 134 = .ok (.getfield 262, 3) := by decide +kernel
theorem dX9_goesThrough_137 : decode cX9_goesThrough 137 = .ok (.iconst 1, 1) := by decide +kernel
theorem dX9_goesThrough_138 : decode cX9_goesThrough 138 = .ok (.iadd, 1) := by decide +kernel
theorem dX9_goesThrough_139 : decode cX9_goesThrough 139 = .ok (.putfield 262, 3) := by decide +kernel
theorem dX9_goesThrough_142 : decode cX9_goesThrough 142 = .ok (.aload_n 0, 1) := by decide +kernel
theorem dX9_goesThrough_143 : decode cX9_goesThrough 143 = .ok (.invokevirtual 229, 3) := by decide +kernel
theorem dX9_goesThrough_146 : decode cX9_goesThrough 146 = .ok (.goto (-132), 3) := by decide +kernel
theorem dX9_goesThrough_149 : decode cX9_goesThrough 149 = .ok (.ldc 120, 2) := by decide +kernel
theorem dX9_goesThrough_151 : decode cX9_goesThrough 151 = .ok (.ireturn, 1) := by decide +kernel
set_option maxRecDepth 20000 in
theorem ggX9_sums_X9_goesThrough : GoodIn wsX9_sums wsX9_goesThrough := goodIn_r _ [8, 9, 3, 10, 11, 12, 2, 1, 13, 14, 15, 7, 16, 17, 18, 19, 20, 21, 22, 23, 24, 25, 26, 27, 28, 29, 30, 31, 32, 33, 34, 35, 36, 37, 38, 39, 40, 41, 42, 43, 44, 45, 46, 47, 48, 49, 50, 51, 52, 53, 54, 55, 56, 57, 58, 59, 60, 61, 62, 63, 64, 65, 66, 67, 68, 69, 70, 71, 72, 73, 74, 75, 76, 77, 78, 79, 80, 81, 82, 83, 84, 85, 86, 87, 88, 89, 90, 91, 92, 93, 94, 95, 96, 97, 98, 99, 100, 101, 102, 103, 104, 105, 106, 107, 108, 109, 110, 111, 112, 113, 114, 115, 116, 117, 118, 142, 143, 144, 145, 146, 147, 148, 149, 150, 151, 152, 153, 154, 155, 156, 157, 158, 159, 160, 161, 162, 163, 164, 165, 166, 167, 168] (by decide +kernel) (by decide +kernel)
set_option maxRecDepth 20000 in
theorem gX9_sums_X9_goesThrough : GoodIn wsX9_sums (wsV RX9 270 RX9 yX9_goesThrough wsX9_goesThrough) := goodIn_app (goodIn_of _ (by decide +kernel)) ggX9_sums_X9_goesThrough
set_option maxRecDepth 20000 in
theorem ggX9_sums_X9_aside : GoodIn wsX9_sums wsX9_aside := goodIn_r _ [122, 99, 123, 94, 124, 142, 143, 144, 145, 146, 147, 148, 149, 150, 151, 152, 153, 154, 155, 156, 157, 158, 159, 160, 161, 162, 163, 164, 165, 166, 167, 168] (by decide +kernel) (by decide +kernel)
set_option maxRecDepth 20000 in
theorem gX9_sums_X9_aside : GoodIn wsX9_sums (wsV RX9 181 RX9 yX9_aside wsX9_aside) := goodIn_app (goodIn_of _ (by decide +kernel)) ggX9_sums_X9_aside
set_option maxRecDepth 20000 in
theorem ggX9_sums_X9_refuses : GoodIn wsX9_sums wsX9_refuses := goodIn_r _ [128, 129, 130, 142, 143, 144, 145, 146, 147, 148, 149, 150, 151, 152, 153, 154, 155, 156, 157, 158, 159, 160, 161, 162, 163, 164, 165, 166, 167, 168] (by decide +kernel) (by decide +kernel)
set_option maxRecDepth 20000 in
theorem gX9_sums_X9_refuses : GoodIn wsX9_sums (wsV RX9 110 RX9 yX9_refuses wsX9_refuses) := goodIn_app (goodIn_of _ (by decide +kernel)) ggX9_sums_X9_refuses
set_option maxRecDepth 20000 in
theorem ggX9_sums_X9_keepsAside : GoodIn wsX9_sums wsX9_keepsAside := goodIn_r _ [134, 135, 136, 123, 137, 124, 138, 139, 140, 7, 141, 99, 94, 142, 143, 144, 145, 146, 147, 148, 149, 150, 151, 152, 153, 154, 155, 156, 157, 158, 159, 160, 161, 162, 163, 164, 165, 166, 167, 168] (by decide +kernel) (by decide +kernel)
set_option maxRecDepth 20000 in
theorem gX9_sums_X9_keepsAside : GoodIn wsX9_sums (wsV RX9 199 RX9 yX9_keepsAside wsX9_keepsAside) := goodIn_app (goodIn_of _ (by decide +kernel)) ggX9_sums_X9_keepsAside
theorem dX9_sums_0 : decode cX9_sums 0 = .ok (.aload_n 0, 1) := by decide +kernel
theorem dX9_sums_1 : decode cX9_sums 1 = .ok (.iconst 0, 1) := by decide +kernel
theorem dX9_sums_2 : decode cX9_sums 2 = .ok (.invokevirtual 270, 3) := by decide +kernel
theorem dX9_sums_5 : decode cX9_sums 5 = .ok (.istore_n 1, 1) := by decide +kernel
theorem dX9_sums_6 : decode cX9_sums 6 = .ok (.iload_n 1, 1) := by decide +kernel
theorem dX9_sums_7 : decode cX9_sums 7 = .ok (.ldc 120, 2) := by decide +kernel
theorem dX9_sums_9 : decode cX9_sums 9 = .ok (.if_icmp .eq 8, 3) := by decide +kernel
theorem dX9_sums_12 : decode cX9_sums 12 = .ok (.bipush (-10), 2) := by decide +kernel
theorem dX9_sums_14 : decode cX9_sums 14 = .ok (.iload_n 1, 1) := by decide +kernel
theorem dX9_sums_15 : decode cX9_sums 15 = .ok (.isub, 1) := by decide +kernel
theorem dX9_sums_16 : decode cX9_sums 16 = .ok (.ireturn, 1) := by decide +kernel
theorem dX9_sums_17 : decode cX9_sums 17 = .ok (.aload_n 0, 1) := by decide +kernel
theorem dX9_sums_18 : decode cX9_sums 18 = .ok (.iconst 0, 1) := by decide +kernel
theorem dX9_sums_19 : decode cX9_sums 19 = .ok (.invokevirtual 181, 3) := by decide +kernel
theorem dX9_sums_22 : decode cX9_sums 22 = .ok (.aload_n 0, 1) := by decide +kernel
theorem dX9_sums_23 : decode cX9_sums 23 = .ok (.iconst 1, 1) := by decide +kernel
theorem dX9_sums_24 : decode cX9_sums 24 = .ok (.invokevirtual 270, 3) := by decide +kernel
theorem dX9_sums_27 : decode cX9_sums 27 = .ok (.ldc 113, 2) := by decide +kernel
theorem dX9_sums_29 : decode cX9_sums 29 = .ok (.if_icmp .ne 15, 3) := by decide +kernel
theorem dX9_sums_32 : decode cX9_sums 32 = .ok (.aload_n 0, 1) := by decide +kernel
theorem dX9_sums_33 : decode cX9_sums 33 = .ok (.iconst 1, 1) := by decide +kernel
theorem dX9_sums_34 : decode cX9_sums 34 = .ok (.invokevirtual 181, 3) := by decide +kernel
theorem dX9_sums_37 : decode cX9_sums 37 = .ok (.aload_n 0, 1) := by decide +kernel
theorem dX9_sums_38 : decode cX9_sums 38 = .ok (.ldc 113, 2) := by decide +kernel
theorem dX9_sums_40 : decode cX9_sums 40 = .ok (.invokevirtual 110, 3) := by decide +kernel
theorem dX9_sums_43 : decode cX9_sums 43 = .ok (.ireturn, 1) := by decide +kernel
theorem dX9_sums_44 : decode cX9_sums 44 = .ok (.aload_n 0, 1) := by decide +kernel
theorem dX9_sums_45 : decode cX9_sums 45 = .ok (.invokevirtual 199, 3) := by decide +kernel
theorem dX9_sums_48 : decode cX9_sums 48 = .ok (.aload_n 0, 1) := by decide +kernel
theorem dX9_sums_49 : decode cX9_sums 49 = .ok (.getfield 262, 3) := by decide +kernel
theorem dX9_sums_52 : decode cX9_sums 52 = .ok (.ireturn, 1) := by decide +kernel
set_option maxRecDepth 20000 in
theorem ggX9_back_X9_refuses : GoodIn wsX9_back wsX9_refuses := goodIn_r _ [11, 12, 13, 14, 15, 16, 17, 18, 19, 20, 21, 22, 23, 24, 25, 26, 27, 28, 29, 30, 31, 32, 33, 34, 35, 36, 37, 38, 39, 40] (by decide +kernel) (by decide +kernel)
set_option maxRecDepth 20000 in
theorem gX9_back_X9_refuses : GoodIn wsX9_back (wsV RX9 110 RX9 yX9_refuses wsX9_refuses) := goodIn_app (goodIn_of _ (by decide +kernel)) ggX9_back_X9_refuses
theorem dX9_back_0 : decode cX9_back 0 = .ok (.aload_n 0, 1) := by decide +kernel
theorem dX9_back_1 : decode cX9_back 1 = .ok (.getfield 103, 3) := by decide +kernel
theorem dX9_back_4 : decode cX9_back 4 = .ok (.ifCond .ne 10, 3) := by decide +kernel
theorem dX9_back_7 : decode cX9_back 7 = .ok (.aload_n 0, 1) := by decide +kernel
theorem dX9_back_8 : decode cX9_back 8 = .ok (.ldc 125, 2) := by decide +kernel
theorem dX9_back_10 : decode cX9_back 10 = .ok (.invokevirtual 110, 3) := by decide +kernel
theorem dX9_back_13 : decode cX9_back 13 = .ok (.ireturn, 1) := by decide +kernel
theorem dX9_back_14 : decode cX9_back 14 = .ok (.aload_n 0, 1) := by decide +kernel
theorem dX9_back_15 : decode cX9_back 15 = .ok (.dup, 1) := by decide +kernel
theorem dX9_back_16 : decode cX9_back 16 = .ok (.getfield 103, 3) := by decide +kernel
theorem dX9_back_19 : decode cX9_back 19 = .ok (.iconst 1, 1) := by decide +kernel
theorem dX9_back_20 : decode cX9_back 20 = .ok (.isub, 1) := by decide +kernel
theorem dX9_back_21 : decode cX9_back 21 = .ok (.putfield 103, 3) := by decide +kernel
theorem dX9_back_24 : decode cX9_back 24 = .ok (.iconst 0, 1) := by decide +kernel
theorem dX9_back_25 : decode cX9_back 25 = .ok (.istore_n 1, 1) := by decide +kernel
theorem dX9_back_26 : decode cX9_back 26 = .ok (.iload_n 1, 1) := by decide +kernel
theorem dX9_back_27 : decode cX9_back 27 = .ok (.sipush 1200, 3) := by decide +kernel
theorem dX9_back_30 : decode cX9_back 30 = .ok (.if_icmp .ge 30, 3) := by decide +kernel
theorem dX9_back_33 : decode cX9_back 33 = .ok (.aload_n 0, 1) := by decide +kernel
theorem dX9_back_34 : decode cX9_back 34 = .ok (.getfield 7, 3) := by decide +kernel
theorem dX9_back_37 : decode cX9_back 37 = .ok (.iload_n 1, 1) := by decide +kernel
theorem dX9_back_38 : decode cX9_back 38 = .ok (.aload_n 0, 1) := by decide +kernel
theorem dX9_back_39 : decode cX9_back 39 = .ok (.getfield 16, 3) := by decide +kernel
theorem dX9_back_42 : decode cX9_back 42 = .ok (.sipush 1200, 3) := by decide +kernel
theorem dX9_back_45 : decode cX9_back 45 = .ok (.aload_n 0, 1) := by decide +kernel
theorem dX9_back_46 : decode cX9_back 46 = .ok (.getfield 103, 3) := by decide +kernel
theorem dX9_back_49 : decode cX9_back 49 = .ok (.imul, 1) := by decide +kernel
theorem dX9_back_50 : decode cX9_back 50 = .ok (.iload_n 1, 1) := by decide +kernel
theorem dX9_back_51 : decode cX9_back 51 = .ok (.iadd, 1) := by decide +kernel
theorem dX9_back_52 : decode cX9_back 52 = .ok (.iaload, 1) := by decide +kernel
theorem dX9_back_53 : decode cX9_back 53 = .ok (.iastore, 1) := by decide +kernel
theorem dX9_back_54 : decode cX9_back 54 = .ok (.iinc 1 1, 3) := by decide +kernel
theorem dX9_back_57 : decode cX9_back 57 = .ok (.goto (-31), 3) := by decide +kernel
theorem dX9_back_60 : decode cX9_back 60 = .ok (.iconst 0, 1) := by decide +kernel
theorem dX9_back_61 : decode cX9_back 61 = .ok (.istore_n 1, 1) := by decide +kernel
theorem dX9_back_62 : decode cX9_back 62 = .ok (.iload_n 1, 1) := by decide +kernel
theorem dX9_back_63 : decode cX9_back 63 = .ok (.bipush 6, 2) := by decide +kernel
theorem dX9_back_65 : decode cX9_back 65 = .ok (.if_icmp .ge 29, 3) := by decide +kernel
theorem dX9_back_68 : decode cX9_back 68 = .ok (.aload_n 0, 1) := by decide +kernel
theorem dX9_back_69 : decode cX9_back 69 = .ok (.getfield 13, 3) := by decide +kernel
theorem dX9_back_72 : decode cX9_back 72 = .ok (.iload_n 1, 1) := by decide +kernel
theorem dX9_back_73 : decode cX9_back 73 = .ok (.aload_n 0, 1) := by decide +kernel
theorem dX9_back_74 : decode cX9_back 74 = .ok (.getfield 19, 3) := by decide +kernel
theorem dX9_back_77 : decode cX9_back 77 = .ok (.bipush 6, 2) := by decide +kernel
theorem dX9_back_79 : decode cX9_back 79 = .ok (.aload_n 0, 1) := by decide +kernel
theorem dX9_back_80 : decode cX9_back 80 = .ok (.getfield 103, 3) := by decide +kernel
theorem dX9_back_83 : decode cX9_back 83 = .ok (.imul, 1) := by decide +kernel
theorem dX9_back_84 : decode cX9_back 84 = .ok (.iload_n 1, 1) := by decide +kernel
theorem dX9_back_85 : decode cX9_back 85 = .ok (.iadd, 1) := by decide +kernel
theorem dX9_back_86 : decode cX9_back 86 = .ok (.iaload, 1) := by decide +kernel
theorem dX9_back_87 : decode cX9_back 87 = .ok (.iastore, 1) := by decide +kernel
theorem dX9_back_88 : decode cX9_back 88 = .ok (.iinc 1 1, 3) := by decide +kernel
theorem dX9_back_91 : decode cX9_back 91 = .ok (.goto (-29), 3) := by decide +kernel
theorem dX9_back_94 : decode cX9_back 94 = .ok (.aload_n 0, 1) := by decide +kernel
theorem dX9_back_95 : decode cX9_back 95 = .ok (.getfield 103, 3) := by decide +kernel
theorem dX9_back_98 : decode cX9_back 98 = .ok (.ireturn, 1) := by decide +kernel
theorem dX9_toldOf_0 : decode cX9_toldOf 0 = .ok (.iconst 0, 1) := by decide +kernel
theorem dX9_toldOf_1 : decode cX9_toldOf 1 = .ok (.istore_n 2, 1) := by decide +kernel
theorem dX9_toldOf_2 : decode cX9_toldOf 2 = .ok (.iload_n 1, 1) := by decide +kernel
theorem dX9_toldOf_3 : decode cX9_toldOf 3 = .ok (.tableswitch 59 0 5 #[37, 37, 37, 44, 49, 54], 37) := by decide +kernel
theorem dX9_toldOf_40 : decode cX9_toldOf 40 = .ok (.aload_n 0, 1) := by decide +kernel
theorem dX9_toldOf_41 : decode cX9_toldOf 41 = .ok (.getfield 31, 3) := by decide +kernel
theorem dX9_toldOf_44 : decode cX9_toldOf 44 = .ok (.iload_n 1, 1) := by decide +kernel
theorem dX9_toldOf_45 : decode cX9_toldOf 45 = .ok (.iaload, 1) := by decide +kernel
theorem dX9_toldOf_46 : decode cX9_toldOf 46 = .ok (.ireturn, 1) := by decide +kernel
theorem dX9_toldOf_47 : decode cX9_toldOf 47 = .ok (.aload_n 0, 1) := by decide +kernel
theorem dX9_toldOf_48 : decode cX9_toldOf 48 = .ok (.getfield 103, 3) := by decide +kernel
theorem dX9_toldOf_51 : decode cX9_toldOf 51 = .ok (.ireturn, 1) := by decide +kernel
theorem dX9_toldOf_52 : decode cX9_toldOf 52 = .ok (.aload_n 0, 1) := by decide +kernel
theorem dX9_toldOf_53 : decode cX9_toldOf 53 = .ok (.getfield 204, 3) := by decide +kernel
theorem dX9_toldOf_56 : decode cX9_toldOf 56 = .ok (.ireturn, 1) := by decide +kernel
theorem dX9_toldOf_57 : decode cX9_toldOf 57 = .ok (.aload_n 0, 1) := by decide +kernel
theorem dX9_toldOf_58 : decode cX9_toldOf 58 = .ok (.getfield 141, 3) := by decide +kernel
theorem dX9_toldOf_61 : decode cX9_toldOf 61 = .ok (.ireturn, 1) := by decide +kernel
theorem dX9_toldOf_62 : decode cX9_toldOf 62 = .ok (.iconst 0, 1) := by decide +kernel
theorem dX9_toldOf_63 : decode cX9_toldOf 63 = .ok (.istore_n 3, 1) := by decide +kernel
theorem dX9_toldOf_64 : decode cX9_toldOf 64 = .ok (.iload_n 3, 1) := by decide +kernel
theorem dX9_toldOf_65 : decode cX9_toldOf 65 = .ok (.bipush 6, 2) := by decide +kernel
theorem dX9_toldOf_67 : decode cX9_toldOf 67 = .ok (.if_icmp .ge 18, 3) := by decide +kernel
theorem dX9_toldOf_70 : decode cX9_toldOf 70 = .ok (.iload_n 2, 1) := by decide +kernel
theorem dX9_toldOf_71 : decode cX9_toldOf 71 = .ok (.aload_n 0, 1) := by decide +kernel
theorem dX9_toldOf_72 : decode cX9_toldOf 72 = .ok (.getfield 13, 3) := by decide +kernel
theorem dX9_toldOf_75 : decode cX9_toldOf 75 = .ok (.iload_n 3, 1) := by decide +kernel
theorem dX9_toldOf_76 : decode cX9_toldOf 76 = .ok (.iaload, 1) := by decide +kernel
theorem dX9_toldOf_77 : decode cX9_toldOf 77 = .ok (.iadd, 1) := by decide +kernel
theorem dX9_toldOf_78 : decode cX9_toldOf 78 = .ok (.istore_n 2, 1) := by decide +kernel
theorem dX9_toldOf_79 : decode cX9_toldOf 79 = .ok (.iinc 3 1, 3) := by decide +kernel
theorem dX9_toldOf_82 : decode cX9_toldOf 82 = .ok (.goto (-18), 3) := by decide +kernel
theorem dX9_toldOf_85 : decode cX9_toldOf 85 = .ok (.iload_n 2, 1) := by decide +kernel
theorem dX9_toldOf_86 : decode cX9_toldOf 86 = .ok (.ireturn, 1) := by decide +kernel
set_option maxRecDepth 20000 in
theorem ggX9_told_X9_in : GoodIn wsX9_told wsX9_in := goodIn_r _ [6] (by decide +kernel) (by decide +kernel)
set_option maxRecDepth 20000 in
theorem gX9_told_X9_in : GoodIn wsX9_told (va_wsS RX9 68 yX9_in wsX9_in) := goodIn_app (goodIn_of _ (by decide +kernel)) ggX9_told_X9_in
set_option maxRecDepth 20000 in
theorem ggX9_told_X9_toldOf : GoodIn wsX9_told wsX9_toldOf := goodIn_r _ [10, 11, 12, 13, 14, 15, 20, 21, 22, 23, 24, 25, 26, 27, 28, 29, 30, 31, 32, 33, 34, 35, 36, 37, 38, 39, 40, 41, 42, 43, 44, 45, 46] (by decide +kernel) (by decide +kernel)
set_option maxRecDepth 20000 in
theorem gX9_told_X9_toldOf : GoodIn wsX9_told (wsV RX9 276 RX9 yX9_toldOf wsX9_toldOf) := goodIn_app (goodIn_of _ (by decide +kernel)) ggX9_told_X9_toldOf
set_option maxRecDepth 20000 in
theorem ggX9_told_X9_refuses : GoodIn wsX9_told wsX9_refuses := goodIn_r _ [19, 11, 2, 20, 21, 22, 23, 24, 25, 26, 27, 28, 29, 30, 31, 32, 33, 34, 35, 36, 37, 38, 39, 40, 41, 42, 43, 44, 45, 46] (by decide +kernel) (by decide +kernel)
set_option maxRecDepth 20000 in
theorem gX9_told_X9_refuses : GoodIn wsX9_told (wsV RX9 110 RX9 yX9_refuses wsX9_refuses) := goodIn_app (goodIn_of _ (by decide +kernel)) ggX9_told_X9_refuses
theorem dX9_told_0 : decode cX9_told 0 = .ok (.iload_n 1, 1) := by decide +kernel
theorem dX9_told_1 : decode cX9_told 1 = .ok (.i2l, 1) := by decide +kernel
theorem dX9_told_2 : decode cX9_told 2 = .ok (.lconst 0, 1) := by decide +kernel
theorem dX9_told_3 : decode cX9_told 3 = .ok (.ldc2_w 274, 3) := by decide +kernel
theorem dX9_told_6 : decode cX9_told 6 = .ok (.invokestatic 68, 3) := by decide +kernel
theorem dX9_told_9 : decode cX9_told 9 = .ok (.ifCond .eq 11, 3) := by decide +kernel
theorem dX9_told_12 : decode cX9_told 12 = .ok (.aload_n 0, 1) := by decide +kernel
theorem dX9_told_13 : decode cX9_told 13 = .ok (.iload_n 1, 1) := by decide +kernel
theorem dX9_told_14 : decode cX9_told 14 = .ok (.invokevirtual 276, 3) := by decide +kernel
theorem dX9_told_17 : decode cX9_told 17 = .ok (.goto 9, 3) := by decide +kernel
theorem dX9_told_20 : decode cX9_told 20 = .ok (.aload_n 0, 1) := by decide +kernel
theorem dX9_told_21 : decode cX9_told 21 = .ok (.ldc 61, 2) := by decide +kernel
theorem dX9_told_23 : decode cX9_told 23 = .ok (.invokevirtual 110, 3) := by decide +kernel
theorem dX9_told_26 : decode cX9_told 26 = .ok (.ireturn, 1) := by decide +kernel
set_option maxRecDepth 20000 in
theorem ggX9_digest_X9_toldOf : GoodIn wsX9_digest wsX9_toldOf := goodIn_r _ [8, 9, 10, 11, 12, 3, 30, 31, 32, 33, 34, 35, 36, 37, 38, 39, 40, 41, 42, 43, 44, 45, 46, 47, 48, 49, 50, 51, 52, 53, 54, 55, 56] (by decide +kernel) (by decide +kernel)
set_option maxRecDepth 20000 in
theorem gX9_digest_X9_toldOf : GoodIn wsX9_digest (wsV RX9 276 RX9 yX9_toldOf wsX9_toldOf) := goodIn_app (goodIn_of _ (by decide +kernel)) ggX9_digest_X9_toldOf
set_option maxRecDepth 20000 in
theorem ggX9_digest_X9_keyAt : GoodIn wsX9_digest wsX9_keyAt := goodIn_r _ [16, 17, 18, 19, 7, 20, 30, 31, 32, 33, 34, 35, 36, 37, 38, 39, 40, 41, 42, 43, 44, 45, 46, 47, 48, 49, 50, 51, 52, 53, 54, 55, 56] (by decide +kernel) (by decide +kernel)
set_option maxRecDepth 20000 in
theorem gX9_digest_X9_keyAt : GoodIn wsX9_digest (wsV RX9 89 RX9 yX9_keyAt wsX9_keyAt) := goodIn_app (goodIn_of _ (by decide +kernel)) ggX9_digest_X9_keyAt
set_option maxRecDepth 20000 in
theorem ggX9_digest_X9_valueAt : GoodIn wsX9_digest wsX9_valueAt := goodIn_r _ [24, 17, 25, 26, 7, 27, 28, 29, 30, 31, 32, 33, 34, 35, 36, 37, 38, 39, 40, 41, 42, 43, 44, 45, 46, 47, 48, 49, 50, 51, 52, 53, 54, 55, 56] (by decide +kernel) (by decide +kernel)
set_option maxRecDepth 20000 in
theorem gX9_digest_X9_valueAt : GoodIn wsX9_digest (wsV RX9 117 RX9 yX9_valueAt wsX9_valueAt) := goodIn_app (goodIn_of _ (by decide +kernel)) ggX9_digest_X9_valueAt
theorem dX9_digest_0 : decode cX9_digest 0 = .ok (.ldc2_w 279, 3) := by decide +kernel
theorem dX9_digest_3 : decode cX9_digest 3 = .ok (.lstore_n 1, 1) := by decide +kernel
theorem dX9_digest_4 : decode cX9_digest 4 = .ok (.iconst 0, 1) := by decide +kernel
theorem dX9_digest_5 : decode cX9_digest 5 = .ok (.istore_n 3, 1) := by decide +kernel
theorem dX9_digest_6 : decode cX9_digest 6 = .ok (.iload_n 3, 1) := by decide +kernel
theorem dX9_digest_7 : decode cX9_digest 7 = .ok (.bipush 7, 2) := by decide +kernel
theorem dX9_digest_9 : decode cX9_digest 9 = .ok (.if_icmp .ge 22, 3) := by decide +kernel
theorem dX9_digest_12 : decode cX9_digest 12 = .ok (.ldc2_w 281, 3) := by decide +kernel
theorem dX9_digest_15 : decode cX9_digest 15 = .ok (.lload_n 1, 1) := by decide +kernel
theorem dX9_digest_16 : decode cX9_digest 16 = .ok (.lmul, 1) := by decide +kernel
theorem dX9_digest_17 : decode cX9_digest 17 = .ok (.aload_n 0, 1) := by decide +kernel
theorem dX9_digest_18 : decode cX9_digest 18 = .ok (.iload_n 3, 1) := by decide +kernel
theorem dX9_digest_19 : decode cX9_digest 19 = .ok (.invokevirtual 276, 3) := by decide +kernel
theorem dX9_digest_22 : decode cX9_digest 22 = .ok (.i2l, 1) := by decide +kernel
theorem dX9_digest_23 : decode cX9_digest 23 = .ok (.ladd, 1) := by decide +kernel
theorem dX9_digest_24 : decode cX9_digest 24 = .ok (.lstore_n 1, 1) := by decide +kernel
theorem dX9_digest_25 : decode cX9_digest 25 = .ok (.iinc 3 1, 3) := by decide +kernel
theorem dX9_digest_28 : decode cX9_digest 28 = .ok (.goto (-22), 3) := by decide +kernel
theorem dX9_digest_31 : decode cX9_digest 31 = .ok (.iconst 0, 1) := by decide +kernel
theorem dX9_digest_32 : decode cX9_digest 32 = .ok (.istore_n 3, 1) := by decide +kernel
theorem dX9_digest_33 : decode cX9_digest 33 = .ok (.iload_n 3, 1) := by decide +kernel
theorem dX9_digest_34 : decode cX9_digest 34 = .ok (.bipush 6, 2) := by decide +kernel
theorem dX9_digest_36 : decode cX9_digest 36 = .ok (.if_icmp .ge 73, 3) := by decide +kernel
theorem dX9_digest_39 : decode cX9_digest 39 = .ok (.ldc2_w 281, 3) := by decide +kernel
theorem dX9_digest_42 : decode cX9_digest 42 = .ok (.lload_n 1, 1) := by decide +kernel
theorem dX9_digest_43 : decode cX9_digest 43 = .ok (.lmul, 1) := by decide +kernel
theorem dX9_digest_44 : decode cX9_digest 44 = .ok (.aload_n 0, 1) := by decide +kernel
theorem dX9_digest_45 : decode cX9_digest 45 = .ok (.getfield 13, 3) := by decide +kernel
theorem dX9_digest_48 : decode cX9_digest 48 = .ok (.iload_n 3, 1) := by decide +kernel
theorem dX9_digest_49 : decode cX9_digest 49 = .ok (.iaload, 1) := by decide +kernel
theorem dX9_digest_50 : decode cX9_digest 50 = .ok (.i2l, 1) := by decide +kernel
theorem dX9_digest_51 : decode cX9_digest 51 = .ok (.ladd, 1) := by decide +kernel
theorem dX9_digest_52 : decode cX9_digest 52 = .ok (.lstore_n 1, 1) := by decide +kernel
theorem dX9_digest_53 : decode cX9_digest 53 = .ok (.iconst 0, 1) := by decide +kernel
theorem dX9_digest_54 : decode cX9_digest 54 = .ok (.istore 4, 2) := by decide +kernel
theorem dX9_digest_56 : decode cX9_digest 56 = .ok (.iload 4, 2) := by decide +kernel
theorem dX9_digest_58 : decode cX9_digest 58 = .ok (.aload_n 0, 1) := by decide +kernel
theorem dX9_digest_59 : decode cX9_digest 59 = .ok (.getfield 13, 3) := by decide +kernel
theorem dX9_digest_62 : decode cX9_digest 62 = .ok (.iload_n 3, 1) := by decide +kernel
theorem dX9_digest_63 : decode cX9_digest 63 = .ok (.iaload, 1) := by decide +kernel
theorem dX9_digest_64 : decode cX9_digest 64 = .ok (.if_icmp .ge 39, 3) := by decide +kernel
theorem dX9_digest_67 : decode cX9_digest 67 = .ok (.ldc2_w 281, 3) := by decide +kernel
theorem dX9_digest_70 : decode cX9_digest 70 = .ok (.lload_n 1, 1) := by decide +kernel
theorem dX9_digest_71 : decode cX9_digest 71 = .ok (.lmul, 1) := by decide +kernel
theorem dX9_digest_72 : decode cX9_digest 72 = .ok (.aload_n 0, 1) := by decide +kernel
theorem dX9_digest_73 : decode cX9_digest 73 = .ok (.iload_n 3, 1) := by decide +kernel
theorem dX9_digest_74 : decode cX9_digest 74 = .ok (.iload 4, 2) := by decide +kernel
theorem dX9_digest_76 : decode cX9_digest 76 = .ok (.invokevirtual 89, 3) := by decide +kernel
theorem dX9_digest_79 : decode cX9_digest 79 = .ok (.i2l, 1) := by decide +kernel
theorem dX9_digest_80 : decode cX9_digest 80 = .ok (.ladd, 1) := by decide +kernel
theorem dX9_digest_81 : decode cX9_digest 81 = .ok (.lstore_n 1, 1) := by decide +kernel
theorem dX9_digest_82 : decode cX9_digest 82 = .ok (.ldc2_w 281, 3) := by decide +kernel
theorem dX9_digest_85 : decode cX9_digest 85 = .ok (.lload_n 1, 1) := by decide +kernel
theorem dX9_digest_86 : decode cX9_digest 86 = .ok (.lmul, 1) := by decide +kernel
theorem dX9_digest_87 : decode cX9_digest 87 = .ok (.aload_n 0, 1) := by decide +kernel
theorem dX9_digest_88 : decode cX9_digest 88 = .ok (.iload_n 3, 1) := by decide +kernel
theorem dX9_digest_89 : decode cX9_digest 89 = .ok (.iload 4, 2) := by decide +kernel
theorem dX9_digest_91 : decode cX9_digest 91 = .ok (.invokevirtual 117, 3) := by decide +kernel
theorem dX9_digest_94 : decode cX9_digest 94 = .ok (.i2l, 1) := by decide +kernel
theorem dX9_digest_95 : decode cX9_digest 95 = .ok (.ladd, 1) := by decide +kernel
theorem dX9_digest_96 : decode cX9_digest 96 = .ok (.lstore_n 1, 1) := by decide +kernel
theorem dX9_digest_97 : decode cX9_digest 97 = .ok (.iinc 4 1, 3) := by decide +kernel
theorem dX9_digest_100 : decode cX9_digest 100 = .ok (.goto (-44), 3) := by decide +kernel
theorem dX9_digest_103 : decode cX9_digest 103 = .ok (.iinc 3 1, 3) := by decide +kernel
theorem dX9_digest_106 : decode cX9_digest 106 = .ok (.goto (-73), 3) := by decide +kernel
theorem dX9_digest_109 : decode cX9_digest 109 = .ok (.lload_n 1, 1) := by decide +kernel
theorem dX9_digest_110 : decode cX9_digest 110 = .ok (.lreturn, 1) := by decide +kernel
theorem dJ9_max_7cf53_0 : decode cJ9_max_7cf53 0 = .ok (.iload_n 0, 1) := by decide +kernel
theorem dJ9_max_7cf53_1 : decode cJ9_max_7cf53 1 = .ok (.iload_n 1, 1) := by decide +kernel
theorem dJ9_max_7cf53_2 : decode cJ9_max_7cf53 2 = .ok (.if_icmp .lt 7, 3) := by decide +kernel
theorem dJ9_max_7cf53_5 : decode cJ9_max_7cf53 5 = .ok (.iload_n 0, 1) := by decide +kernel
theorem dJ9_max_7cf53_6 : decode cJ9_max_7cf53 6 = .ok (.goto 4, 3) := by decide +kernel
theorem dJ9_max_7cf53_9 : decode cJ9_max_7cf53 9 = .ok (.iload_n 1, 1) := by decide +kernel
theorem dJ9_max_7cf53_10 : decode cJ9_max_7cf53 10 = .ok (.ireturn, 1) := by decide +kernel
theorem dJ9_min_7cf53_0 : decode cJ9_min_7cf53 0 = .ok (.iload_n 0, 1) := by decide +kernel
theorem dJ9_min_7cf53_1 : decode cJ9_min_7cf53 1 = .ok (.iload_n 1, 1) := by decide +kernel
theorem dJ9_min_7cf53_2 : decode cJ9_min_7cf53 2 = .ok (.if_icmp .gt 7, 3) := by decide +kernel
theorem dJ9_min_7cf53_5 : decode cJ9_min_7cf53 5 = .ok (.iload_n 0, 1) := by decide +kernel
theorem dJ9_min_7cf53_6 : decode cJ9_min_7cf53 6 = .ok (.goto 4, 3) := by decide +kernel
theorem dJ9_min_7cf53_9 : decode cJ9_min_7cf53 9 = .ok (.iload_n 1, 1) := by decide +kernel
theorem dJ9_min_7cf53_10 : decode cJ9_min_7cf53 10 = .ok (.ireturn, 1) := by decide +kernel
